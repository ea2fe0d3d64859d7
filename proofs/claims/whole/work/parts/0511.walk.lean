abbrev rX10_here : Room := { frames := 0, cells := 0, slots := 0, locals := 0 }
set_option maxRecDepth 100000 in
set_option maxHeartbeats 4000000 in
theorem kX10_here (l : Launch) (G : zG) (A : Nat → Prop) (V : zV3) (h : zV2) {r : Int32} {h' : zV2} (hf : xX10_here h  = some (r, h')) : zCt l G A yX10_here cX10_here 1 (some .int) rX10_here [.ref (gA G 16 0 0)] (upG V 8 h) (some (.int r)) (upG V 8 h') := by
  refine z_CtI (by decide) (Nat.le_of_ble_eq_true rfl) ?_
  intro p e s m args below meth c Q hx hb hml hown hL hK hM hS hQ ls hl
  replace hl : lv_has ls 1 [(0, .ref (gA G 16 0 0))] := hl
  have hQf : ∀ {a : Int32} {k : zV2} {H : Heap} {locs : List Loc} {pc : Nat} {ls : Array Slot}, some (a, k) = some (r, h') → zM G (upG V 8 k) H → va_S A s.heap H locs → decode cX10_here pc = .ok (.ireturn, 1) → W p l e rX10_here s m args below meth c H locs 0 0 Q (F0 m pc ls [.int a]) := by
    intro a k H locs pc ls e1 hM hS hd
    cases e1
    exact hQ H locs pc ls hM hS hd
  unfold xX10_here at hf
  refine lv_aload_n hx hb dX10_here_0 rfl (lv_at hl 0 rfl) ?_
  refine z_get (own := RX10) (C := RX10) (T := TX10) (N := 12) (ci := 8) (v := .int (h 8 0)) hx hb hL inX10 hown hK hM dm_16 (ze_16 G V 0 0 h) rfl 7 (by decide) (hL _ zw4_26) rfl rfl dX10_here_1 ?_
  refine lv_aload_n hx hb dX10_here_4 rfl (lv_at hl 0 rfl) ?_
  refine z_get (own := RX10) (C := RX10) (T := TX10) (N := 12) (ci := 8) (v := .int (h 7 0)) hx hb hL inX10 hown hK hM dm_16 (ze_16 G V 0 0 h) rfl 6 (by decide) (hL _ zw4_25) rfl rfl dX10_here_5 ?_
  refine lv_icmp_ge (tgt := 23) hx hb dX10_here_8 (by decide) (fun c1 => ?_) (fun c1 => ?_)
  · replace hf := ift hf c1
    refine lv_iconst (v := -1) hx hb dX10_here_23 (by decide) ?_
    exact hQf hf hM hS dX10_here_24
  · replace hf := iff_ hf c1
    refine lv_aload_n hx hb dX10_here_11 rfl (lv_at hl 0 rfl) ?_
    refine z_get (own := RX10) (C := RX10) (T := TX10) (N := 12) (ci := 8) (v := .ref (gA G 17 0 4)) hx hb hL inX10 hown hK hM dm_16 (ze_16 G V 0 0 h) rfl 5 (by decide) (hL _ zw4_24) rfl rfl dX10_here_12 ?_
    refine lv_aload_n hx hb dX10_here_15 rfl (lv_at hl 0 rfl) ?_
    refine z_get (own := RX10) (C := RX10) (T := TX10) (N := 12) (ci := 8) (v := .int (h 8 0)) hx hb hL inX10 hown hK hM dm_16 (ze_16 G V 0 0 h) rfl 7 (by decide) (hL _ zw4_26) rfl rfl dX10_here_16 ?_
    obtain ⟨hb2, hf⟩ := grd_some hf
    refine z_iald hx hb hK hM (dm_17 (i := 4) (by decide)) (ze_17_4 G V h) (inb_in hb2) dX10_here_19 ?_
    refine lv_goto (tgt := 24) hx hb dX10_here_20 (by decide) ?_
    exact hQf hf hM hS dX10_here_24
abbrev rX10_must : Room := { frames := 1, cells := 0, slots := 0, locals := 20 }
set_option maxRecDepth 100000 in
set_option maxHeartbeats 4000000 in
theorem kX10_must (l : Launch) (G : zG) (A : Nat → Prop) (V : zV3) (h : zV2) (p1 : Int32) {r : Unit} {h' : zV2} (hf : xX10_must h p1 = some (r, h')) : zCt l G A yX10_must cX10_must 2 none rX10_must [.ref (gA G 16 0 0), .int p1] (upG V 8 h) none (upG V 8 h') := by
  refine z_CtV (by decide) (Nat.le_of_ble_eq_true rfl) ?_
  intro p e s m args below meth c Q hx hb hml hown hL hK hM hS hQ ls hl
  replace hl : lv_has ls 2 [(0, .ref (gA G 16 0 0)), (1, .int p1)] := hl
  have hQf : ∀ {a : Unit} {k : zV2} {H : Heap} {locs : List Loc} {pc : Nat} {ls : Array Slot}, some (a, k) = some (r, h') → zM G (upG V 8 k) H → va_S A s.heap H locs → decode cX10_must pc = .ok (.return_, 1) → W p l e rX10_must s m args below meth c H locs 0 0 Q (F0 m pc ls []) := by
    intro a k H locs pc ls e1 hM hS hd
    cases e1
    exact hQ H locs pc ls hM hS hd
  have L21 : ∀ (h : zV2) (s0 : Int32), xX10_must_L21 p1 h s0 = some (r, h') → ∀ (H : Heap) (locs : List Loc) (ls : Array Slot), zM G (upG V 8 h) H → va_S A s.heap H locs → lv_has ls 2 [(0, .ref (gA G 16 0 0))] → W p l e rX10_must s m args below meth c H locs 0 0 Q (F0 m 21 ls [.int s0, .ref (gA G 16 0 0)]) := by
    intro h s0 hf H locs ls hM hS hl
    unfold xX10_must_L21 at hf
    obtain ⟨hb1, hf⟩ := grd_some hf
    obtain ⟨h2, eh2⟩ : ∃ y, y = up2 h 9 0 s0 := ⟨_, rfl⟩
    replace hf := put2_some hf eh2
    refine z_put (own := RX10) (C := RX10) (T := TX10) (N := 12) (ci := 8) (V' := upG V 8 h2) hx hb hL inX10 tyX10 tyX10_ok nmX10 hown hK hM hS dm_16 (ze_16 G V 0 0 h) rfl 8 (by decide) (hL _ zw4_27) rfl rfl (isb_z hb1) (isb_f hb1) (Nat.le_of_ble_eq_true rfl) (by rw [eh2]; exact zn_16_9 G V h s0) dX10_must_21 (fun H locs hM hS => ?_)
    refine lv_aload_n hx hb dX10_must_24 rfl (lv_at hl 0 rfl) ?_
    refine lv_dup hx hb dX10_must_25 rfl ?_
    refine z_get (own := RX10) (C := RX10) (T := TX10) (N := 12) (ci := 8) (v := .int (h2 8 0)) hx hb hL inX10 hown hK hM dm_16 (ze_16 G V 0 0 h2) rfl 7 (by decide) (hL _ zw4_26) rfl rfl dX10_must_26 ?_
    refine lv_iconst (v := 1) hx hb dX10_must_29 (by decide) ?_
    refine lv_iadd hx hb dX10_must_30 ?_
    obtain ⟨h3, eh3⟩ : ∃ y, y = up2 h2 8 0 ((h2 8 0) + (1 : Int32)) := ⟨_, rfl⟩
    replace hf := put2_some hf eh3
    refine z_put (own := RX10) (C := RX10) (T := TX10) (N := 12) (ci := 8) (V' := upG V 8 h3) hx hb hL inX10 tyX10 tyX10_ok nmX10 hown hK hM hS dm_16 (ze_16 G V 0 0 h2) rfl 7 (by decide) (hL _ zw4_26) rfl rfl rfl rfl (Nat.le_of_ble_eq_true rfl) (by rw [eh3]; exact zn_16_8 G V h2 ((h2 8 0) + (1 : Int32))) dX10_must_31 (fun H locs hM hS => ?_)
    exact hQf hf hM hS dX10_must_34
  have L20 : ∀ (h : zV2) , xX10_must_L20 p1 h = some (r, h') → ∀ (H : Heap) (locs : List Loc) (ls : Array Slot), zM G (upG V 8 h) H → va_S A s.heap H locs → lv_has ls 2 [(0, .ref (gA G 16 0 0))] → W p l e rX10_must s m args below meth c H locs 0 0 Q (F0 m 20 ls [.ref (gA G 16 0 0)]) := by
    intro h hf H locs ls hM hS hl
    unfold xX10_must_L20 at hf
    refine lv_iconst (v := 0) hx hb dX10_must_20 (by decide) ?_
    exact L21 h (0 : Int32) hf _ _ _ hM hS (lv_sub hl [0] rfl)
  unfold xX10_must at hf
  refine lv_aload_n hx hb dX10_must_0 rfl (lv_at hl 0 rfl) ?_
  refine lv_aload_n hx hb dX10_must_1 rfl (lv_at hl 0 rfl) ?_
  refine z_get (own := RX10) (C := RX10) (T := TX10) (N := 12) (ci := 8) (v := .int (h 9 0)) hx hb hL inX10 hown hK hM dm_16 (ze_16 G V 0 0 h) rfl 8 (by decide) (hL _ zw4_27) rfl rfl dX10_must_2 ?_
  refine lv_if_eq (tgt := 20) hx hb dX10_must_5 (by decide) (fun c1 => ?_) (fun c1 => ?_)
  · replace hf := ift hf c1
    exact L20 h hf _ _ _ hM hS (lv_sub hl [0] rfl)
  · replace hf := iff_ hf c1
    refine lv_aload_n hx hb dX10_must_8 rfl (lv_at hl 0 rfl) ?_
    obtain ⟨r2, h4, hc3, hf⟩ := bnd_some hf
    refine z_callV (As := []) (rest := [.ref (gA G 16 0 0)]) (C := RX10) hx hb hml hown hL hK hM hS (kX10_here l G A V h hc3) (zg_X10_here zw5_156) zv_X10_here ⟨rfl, rfl⟩ ⟨Nat.le_of_ble_eq_true rfl, Nat.le_of_ble_eq_true rfl⟩ (hM.recv hK dm_16 (ze_16 G V 0 0 h) rfl) rfl hl.1 rfl (Nat.le_of_ble_eq_true rfl) dX10_must_9 ⟨Nat.zero_le _, Nat.zero_le _⟩ (fun H locs hM hS => ?_)
    refine W.eq (g2 := F0 m 12 ls [.int r2, .ref (gA G 16 0 0)]) rfl ?_
    refine lv_iload_n hx hb dX10_must_12 rfl (lv_at hl 1 rfl) ?_
    refine lv_icmp_ne (tgt := 20) hx hb dX10_must_13 (by decide) (fun c5 => ?_) (fun c5 => ?_)
    · replace hf := iff_ hf c5
      exact L20 h4 hf _ _ _ hM hS (lv_sub hl [0] rfl)
    · replace hf := ift hf c5
      refine lv_iconst (v := 1) hx hb dX10_must_16 (by decide) ?_
      refine lv_goto (tgt := 21) hx hb dX10_must_17 (by decide) ?_
      exact L21 h4 (1 : Int32) hf _ _ _ hM hS (lv_sub hl [0] rfl)
abbrev rX10_readNumber : Room := { frames := 2, cells := 0, slots := 0, locals := 41 }
set_option maxRecDepth 100000 in
set_option maxHeartbeats 4000000 in
theorem kX10_readNumber (l : Launch) (G : zG) (A : Nat → Prop) (V : zV3) (h : zV2) {r : Int32} {h' : zV2} (hf : xX10_readNumber h  = some (r, h')) : zCt l G A yX10_readNumber cX10_readNumber 3 (some .int) rX10_readNumber [.ref (gA G 16 0 0)] (upG V 8 h) (some (.int r)) (upG V 8 h') := by
  refine z_CtI (by decide) (Nat.le_of_ble_eq_true rfl) ?_
  intro p e s m args below meth c Q hx hb hml hown hL hK hM hS hQ ls hl
  replace hl : lv_has ls 3 [(0, .ref (gA G 16 0 0))] := hl
  have hQf : ∀ {a : Int32} {k : zV2} {H : Heap} {locs : List Loc} {pc : Nat} {ls : Array Slot}, some (a, k) = some (r, h') → zM G (upG V 8 k) H → va_S A s.heap H locs → decode cX10_readNumber pc = .ok (.ireturn, 1) → W p l e rX10_readNumber s m args below meth c H locs 0 0 Q (F0 m pc ls [.int a]) := by
    intro a k H locs pc ls e1 hM hS hd
    cases e1
    exact hQ H locs pc ls hM hS hd
  have L58 : ∀ (h : zV2) (a1 : Int32) (a2 : Int32), xX10_readNumber_L58 h a1 a2 = some (r, h') → ∀ (H : Heap) (locs : List Loc) (ls : Array Slot), zM G (upG V 8 h) H → va_S A s.heap H locs → lv_has ls 3 [(0, .ref (gA G 16 0 0)), (1, .int a1), (2, .int a2)] → W p l e rX10_readNumber s m args below meth c H locs 0 0 Q (F0 m 58 ls []) := by
    intro h a1 a2 hf H locs ls hM hS hl
    unfold xX10_readNumber_L58 at hf
    refine lv_aload_n hx hb dX10_readNumber_58 rfl (lv_at hl 0 rfl) ?_
    refine lv_aload_n hx hb dX10_readNumber_59 rfl (lv_at hl 0 rfl) ?_
    refine z_get (own := RX10) (C := RX10) (T := TX10) (N := 12) (ci := 8) (v := .int (h 9 0)) hx hb hL inX10 hown hK hM dm_16 (ze_16 G V 0 0 h) rfl 8 (by decide) (hL _ zw4_27) rfl rfl dX10_readNumber_60 ?_
    refine lv_if_eq (tgt := 74) hx hb dX10_readNumber_63 (by decide) (fun c1 => ?_) (fun c1 => ?_)
    · replace hf := ift hf c1
      refine lv_iconst (v := 0) hx hb dX10_readNumber_74 (by decide) ?_
      obtain ⟨h2, eh2⟩ : ∃ y, y = up2 h 9 0 (0 : Int32) := ⟨_, rfl⟩
      replace hf := put2_some hf eh2
      refine z_put (own := RX10) (C := RX10) (T := TX10) (N := 12) (ci := 8) (V' := upG V 8 h2) hx hb hL inX10 tyX10 tyX10_ok nmX10 hown hK hM hS dm_16 (ze_16 G V 0 0 h) rfl 8 (by decide) (hL _ zw4_27) rfl rfl rfl rfl (Nat.le_of_ble_eq_true rfl) (by rw [eh2]; exact zn_16_9 G V h (0 : Int32)) dX10_readNumber_75 (fun H locs hM hS => ?_)
      refine lv_iload_n hx hb dX10_readNumber_78 rfl (lv_at hl 1 rfl) ?_
      exact hQf hf hM hS dX10_readNumber_79
    · replace hf := iff_ hf c1
      refine lv_iload_n hx hb dX10_readNumber_66 rfl (lv_at hl 2 rfl) ?_
      refine lv_if_le (tgt := 74) hx hb dX10_readNumber_67 (by decide) (fun c3 => ?_) (fun c3 => ?_)
      · replace hf := ift hf c3
        refine lv_iconst (v := 0) hx hb dX10_readNumber_74 (by decide) ?_
        obtain ⟨h4, eh4⟩ : ∃ y, y = up2 h 9 0 (0 : Int32) := ⟨_, rfl⟩
        replace hf := put2_some hf eh4
        refine z_put (own := RX10) (C := RX10) (T := TX10) (N := 12) (ci := 8) (V' := upG V 8 h4) hx hb hL inX10 tyX10 tyX10_ok nmX10 hown hK hM hS dm_16 (ze_16 G V 0 0 h) rfl 8 (by decide) (hL _ zw4_27) rfl rfl rfl rfl (Nat.le_of_ble_eq_true rfl) (by rw [eh4]; exact zn_16_9 G V h (0 : Int32)) dX10_readNumber_75 (fun H locs hM hS => ?_)
        refine lv_iload_n hx hb dX10_readNumber_78 rfl (lv_at hl 1 rfl) ?_
        exact hQf hf hM hS dX10_readNumber_79
      · replace hf := iff_ hf c3
        refine lv_iconst (v := 1) hx hb dX10_readNumber_70 (by decide) ?_
        refine lv_goto (tgt := 75) hx hb dX10_readNumber_71 (by decide) ?_
        obtain ⟨h5, eh5⟩ : ∃ y, y = up2 h 9 0 (1 : Int32) := ⟨_, rfl⟩
        replace hf := put2_some hf eh5
        refine z_put (own := RX10) (C := RX10) (T := TX10) (N := 12) (ci := 8) (V' := upG V 8 h5) hx hb hL inX10 tyX10 tyX10_ok nmX10 hown hK hM hS dm_16 (ze_16 G V 0 0 h) rfl 8 (by decide) (hL _ zw4_27) rfl rfl rfl rfl (Nat.le_of_ble_eq_true rfl) (by rw [eh5]; exact zn_16_9 G V h (1 : Int32)) dX10_readNumber_75 (fun H locs hM hS => ?_)
        refine lv_iload_n hx hb dX10_readNumber_78 rfl (lv_at hl 1 rfl) ?_
        exact hQf hf hM hS dX10_readNumber_79
  have L10 : ∀ (n : Nat) (h : zV2) (a1 : Int32) (a2 : Int32), xX10_readNumber_L10 n h a1 a2 = some (r, h') → ∀ (H : Heap) (locs : List Loc) (ls : Array Slot), zM G (upG V 8 h) H → va_S A s.heap H locs → lv_has ls 3 [(0, .ref (gA G 16 0 0)), (1, .int a1), (2, .int a2)] → W p l e rX10_readNumber s m args below meth c H locs 0 0 Q (F0 m 10 ls []) := by
    intro n
    induction n with
    | zero =>
      intro h a1 a2 hf H locs ls hM hS hl
      rw [xX10_readNumber_L10] at hf
      cases hf
    | succ n ih =>
      intro h a1 a2 hf H locs ls hM hS hl
      rw [xX10_readNumber_L10] at hf
      refine lv_iload_n hx hb dX10_readNumber_10 rfl (lv_at hl 2 rfl) ?_
      refine lv_iconst (v := 3) hx hb dX10_readNumber_11 (by decide) ?_
      refine lv_icmp_ge (tgt := 58) hx hb dX10_readNumber_12 (by decide) (fun c1 => ?_) (fun c1 => ?_)
      · replace hf := ift hf c1
        exact L58 h a1 a2 hf _ _ _ hM hS (lv_sub hl [0, 1, 2] rfl)
      · replace hf := iff_ hf c1
        refine lv_aload_n hx hb dX10_readNumber_15 rfl (lv_at hl 0 rfl) ?_
        obtain ⟨r2, h4, hc3, hf⟩ := bnd_some hf
        refine z_callV (As := []) (rest := []) (C := RX10) hx hb hml hown hL hK hM hS (kX10_here l G A V h hc3) (zg_X10_here zw5_156) zv_X10_here ⟨rfl, rfl⟩ ⟨Nat.le_of_ble_eq_true rfl, Nat.le_of_ble_eq_true rfl⟩ (hM.recv hK dm_16 (ze_16 G V 0 0 h) rfl) rfl hl.1 rfl (Nat.le_of_ble_eq_true rfl) dX10_readNumber_16 ⟨Nat.zero_le _, Nat.zero_le _⟩ (fun H locs hM hS => ?_)
        refine W.eq (g2 := F0 m 19 ls [.int r2]) rfl ?_
        refine lv_bipush (v := 48) hx hb dX10_readNumber_19 (by decide) ?_
        refine lv_bipush (v := 57) hx hb dX10_readNumber_21 (by decide) ?_
        obtain ⟨r5, h7, hc6, hf⟩ := bnd_some hf
        refine z_callS (As := [.int r2, .int (48 : Int32), .int (57 : Int32)]) (rest := []) hx hb hml hown hL hK hM hS (kX10_in l G A V h4 r2 (48 : Int32) (57 : Int32) hc6) (zg_X10_in zw4_68) zy_X10_in ⟨rfl, rfl⟩ ⟨Nat.le_of_ble_eq_true rfl, Nat.le_of_ble_eq_true rfl⟩ rfl hl.1 rfl (Nat.le_of_ble_eq_true rfl) dX10_readNumber_23 ⟨Nat.zero_le _, Nat.zero_le _⟩ (fun H locs hM hS => ?_)
        refine W.eq (g2 := F0 m 26 ls [.int r5]) rfl ?_
        refine lv_if_eq (tgt := 58) hx hb dX10_readNumber_26 (by decide) (fun c8 => ?_) (fun c8 => ?_)
        · replace hf := ift hf c8
          exact L58 h7 a1 a2 hf _ _ _ hM hS (lv_sub hl [0, 1, 2] rfl)
        · replace hf := iff_ hf c8
          refine lv_bipush (v := 10) hx hb dX10_readNumber_29 (by decide) ?_
          refine lv_iload_n hx hb dX10_readNumber_31 rfl (lv_at hl 1 rfl) ?_
          refine lv_imul hx hb dX10_readNumber_32 ?_
          refine lv_aload_n hx hb dX10_readNumber_33 rfl (lv_at hl 0 rfl) ?_
          obtain ⟨r9, h11, hc10, hf⟩ := bnd_some hf
          refine z_callV (As := []) (rest := [.int ((10 : Int32) * a1)]) (C := RX10) hx hb hml hown hL hK hM hS (kX10_here l G A V h7 hc10) (zg_X10_here zw5_156) zv_X10_here ⟨rfl, rfl⟩ ⟨Nat.le_of_ble_eq_true rfl, Nat.le_of_ble_eq_true rfl⟩ (hM.recv hK dm_16 (ze_16 G V 0 0 h7) rfl) rfl hl.1 rfl (Nat.le_of_ble_eq_true rfl) dX10_readNumber_34 ⟨Nat.zero_le _, Nat.zero_le _⟩ (fun H locs hM hS => ?_)
          refine W.eq (g2 := F0 m 37 ls [.int r9, .int ((10 : Int32) * a1)]) rfl ?_
          refine lv_iadd hx hb dX10_readNumber_37 ?_
          refine lv_bipush (v := 48) hx hb dX10_readNumber_38 (by decide) ?_
          refine lv_isub hx hb dX10_readNumber_40 ?_
          refine lv_topi (fun y12 ey12 => ?_)
          replace hf := ltI_some hf ey12
          refine lv_istore_n (lv' := [(1, .int y12), (0, .ref (gA G 16 0 0)), (2, .int a2)]) hx hb dX10_readNumber_41 rfl hl (by decide) rfl (fun ls hl => ?_)
          obtain ⟨y13, ey13⟩ : ∃ y : Int32, y = a2 + (1 : Int32) := ⟨_, rfl⟩
          replace hf := ltI_some hf ey13
          refine lv_iinc (v := y13) (lv' := [(2, .int y13), (1, .int y12), (0, .ref (gA G 16 0 0))]) hx hb dX10_readNumber_42 hl (k := 2) rfl (by rw [ey13]; rfl) (by decide) rfl (fun ls hl => ?_)
          refine lv_aload_n hx hb dX10_readNumber_45 rfl (lv_at hl 2 rfl) ?_
          refine lv_dup hx hb dX10_readNumber_46 rfl ?_
          refine z_get (own := RX10) (C := RX10) (T := TX10) (N := 12) (ci := 8) (v := .int (h11 8 0)) hx hb hL inX10 hown hK hM dm_16 (ze_16 G V 0 0 h11) rfl 7 (by decide) (hL _ zw4_26) rfl rfl dX10_readNumber_47 ?_
          refine lv_iconst (v := 1) hx hb dX10_readNumber_50 (by decide) ?_
          refine lv_iadd hx hb dX10_readNumber_51 ?_
          obtain ⟨h14, eh14⟩ : ∃ y, y = up2 h11 8 0 ((h11 8 0) + (1 : Int32)) := ⟨_, rfl⟩
          replace hf := put2_some hf eh14
          refine z_put (own := RX10) (C := RX10) (T := TX10) (N := 12) (ci := 8) (V' := upG V 8 h14) hx hb hL inX10 tyX10 tyX10_ok nmX10 hown hK hM hS dm_16 (ze_16 G V 0 0 h11) rfl 7 (by decide) (hL _ zw4_26) rfl rfl rfl rfl (Nat.le_of_ble_eq_true rfl) (by rw [eh14]; exact zn_16_8 G V h11 ((h11 8 0) + (1 : Int32))) dX10_readNumber_52 (fun H locs hM hS => ?_)
          refine lv_goto (tgt := 10) hx hb dX10_readNumber_55 (by decide) ?_
          exact ih h14 y12 y13 hf _ _ _ hM hS (lv_sub hl [2, 1, 0] rfl)
  unfold xX10_readNumber at hf
  refine lv_aload_n hx hb dX10_readNumber_0 rfl (lv_at hl 0 rfl) ?_
  refine lv_bipush (v := 32) hx hb dX10_readNumber_1 (by decide) ?_
  obtain ⟨r1, h3, hc2, hf⟩ := bnd_some hf
  refine z_callV (As := [.int (32 : Int32)]) (rest := []) (C := RX10) hx hb hml hown hL hK hM hS (kX10_must l G A V h (32 : Int32) hc2) (zg_X10_must zw5_175) zv_X10_must ⟨rfl, rfl⟩ ⟨Nat.le_of_ble_eq_true rfl, Nat.le_of_ble_eq_true rfl⟩ (hM.recv hK dm_16 (ze_16 G V 0 0 h) rfl) rfl hl.1 rfl (Nat.le_of_ble_eq_true rfl) dX10_readNumber_3 ⟨Nat.zero_le _, Nat.zero_le _⟩ (fun H locs hM hS => ?_)
  refine W.eq (g2 := F0 m 6 ls []) rfl ?_
  refine lv_iconst (v := 0) hx hb dX10_readNumber_6 (by decide) ?_
  refine lv_istore_n (lv' := [(1, .int (0 : Int32)), (0, .ref (gA G 16 0 0))]) hx hb dX10_readNumber_7 rfl hl (by decide) rfl (fun ls hl => ?_)
  refine lv_iconst (v := 0) hx hb dX10_readNumber_8 (by decide) ?_
  refine lv_istore_n (lv' := [(2, .int (0 : Int32)), (1, .int (0 : Int32)), (0, .ref (gA G 16 0 0))]) hx hb dX10_readNumber_9 rfl hl (by decide) rfl (fun ls hl => ?_)
  exact L10 1000 h3 (0 : Int32) (0 : Int32) hf _ _ _ hM hS (lv_sub hl [2, 1, 0] rfl)
abbrev rX10_wordOf : Room := { frames := 0, cells := 0, slots := 0, locals := 0 }
set_option maxRecDepth 100000 in
set_option maxHeartbeats 4000000 in
theorem kX10_wordOf (l : Launch) (G : zG) (A : Nat → Prop) (V : zV3) (h : zV2) (p1 : Int32) {r : Int64} {h' : zV2} (hf : xX10_wordOf h p1 = some (r, h')) : zCt l G A yX10_wordOf cX10_wordOf 1 (some .long) rX10_wordOf [.int p1] (upG V 8 h) (some (.long r)) (upG V 8 h') := by
  refine z_CtL (by decide) (Nat.le_of_ble_eq_true rfl) ?_
  intro p e s m args below meth c Q hx hb hml hown hL hK hM hS hQ ls hl
  replace hl : lv_has ls 1 [(0, .int p1)] := hl
  have hQf : ∀ {a : Int64} {k : zV2} {H : Heap} {locs : List Loc} {pc : Nat} {ls : Array Slot}, some (a, k) = some (r, h') → zM G (upG V 8 k) H → va_S A s.heap H locs → decode cX10_wordOf pc = .ok (.lreturn, 1) → W p l e rX10_wordOf s m args below meth c H locs 0 0 Q (F0 m pc ls [.long a]) := by
    intro a k H locs pc ls e1 hM hS hd
    cases e1
    exact hQ H locs pc ls hM hS hd
  unfold xX10_wordOf at hf
  refine lv_iload_n hx hb dX10_wordOf_0 rfl (lv_at hl 0 rfl) ?_
  by_cases c1 : p1 = (0 : Int32)
  · replace hf := ift hf c1
    refine lv_tableIn (off := 43) (tgt := 44) hx hb dX10_wordOf_1 (by rw [c1]; decide) (by rw [c1]; decide) (by rw [c1]; rfl) (by decide) ?_
    refine lv_ldc2 (v := (1818586724 : Int64)) hx hb hown (hL _ zw5_163) dX10_wordOf_44 ?_
    exact hQf hf hM hS dX10_wordOf_47
  · replace hf := iff_ hf c1
    by_cases c2 : p1 = (1 : Int32)
    · replace hf := ift hf c2
      refine lv_tableIn (off := 47) (tgt := 48) hx hb dX10_wordOf_1 (by rw [c2]; decide) (by rw [c2]; decide) (by rw [c2]; rfl) (by decide) ?_
      refine lv_ldc2 (v := (1650549611 : Int64)) hx hb hown (hL _ zw5_164) dX10_wordOf_48 ?_
      exact hQf hf hM hS dX10_wordOf_51
    · replace hf := iff_ hf c2
      by_cases c3 : p1 = (2 : Int32)
      · replace hf := ift hf c3
        refine lv_tableIn (off := 51) (tgt := 52) hx hb dX10_wordOf_1 (by rw [c3]; decide) (by rw [c3]; decide) (by rw [c3]; rfl) (by decide) ?_
        refine lv_ldc2 (v := (491328005495 : Int64)) hx hb hown (hL _ zw5_165) dX10_wordOf_52 ?_
        exact hQf hf hM hS dX10_wordOf_55
      · replace hf := iff_ hf c3
        by_cases c4 : p1 = (3 : Int32)
        · replace hf := ift hf c4
          refine lv_tableIn (off := 55) (tgt := 56) hx hb dX10_wordOf_1 (by rw [c4]; decide) (by rw [c4]; decide) (by rw [c4]; rfl) (by decide) ?_
          refine lv_ldc2 (v := (1819243365 : Int64)) hx hb hown (hL _ zw5_166) dX10_wordOf_56 ?_
          exact hQf hf hM hS dX10_wordOf_59
        · replace hf := iff_ hf c4
          by_cases c5 : p1 = (4 : Int32)
          · replace hf := ift hf c5
            refine lv_tableIn (off := 59) (tgt := 60) hx hb dX10_wordOf_1 (by rw [c5]; decide) (by rw [c5]; decide) (by rw [c5]; rfl) (by decide) ?_
            refine lv_ldc2 (v := (2003399528 : Int64)) hx hb hown (hL _ zw5_167) dX10_wordOf_60 ?_
            exact hQf hf hM hS dX10_wordOf_63
          · replace hf := iff_ hf c5
            by_cases c6 : p1 = (5 : Int32)
            · replace hf := ift hf c6
              refine lv_tableIn (off := 63) (tgt := 64) hx hb dX10_wordOf_1 (by rw [c6]; decide) (by rw [c6]; decide) (by rw [c6]; rfl) (by decide) ?_
              refine lv_ldc2 (v := (1937203568 : Int64)) hx hb hown (hL _ zw5_168) dX10_wordOf_64 ?_
              exact hQf hf hM hS dX10_wordOf_67
            · replace hf := iff_ hf c6
              by_cases c7 : p1 = (6 : Int32)
              · replace hf := ift hf c7
                refine lv_tableIn (off := 67) (tgt := 68) hx hb dX10_wordOf_1 (by rw [c7]; decide) (by rw [c7]; decide) (by rw [c7]; rfl) (by decide) ?_
                refine lv_ldc2 (v := (7364985 : Int64)) hx hb hown (hL _ zw5_169) dX10_wordOf_68 ?_
                exact hQf hf hM hS dX10_wordOf_71
              · replace hf := iff_ hf c7
                refine lv_tableOut (tgt := 72) hx hb dX10_wordOf_1 (by have t0 := lv_neT c1 (a := 0) (by decide); have t1 := lv_neT c2 (a := 1) (by decide); have t2 := lv_neT c3 (a := 2) (by decide); have t3 := lv_neT c4 (a := 3) (by decide); have t4 := lv_neT c5 (a := 4) (by decide); have t5 := lv_neT c6 (a := 5) (by decide); have t6 := lv_neT c7 (a := 6) (by decide); omega) (by decide) ?_
                refine lv_ldc2 (v := (1885434739 : Int64)) hx hb hown (hL _ zw5_170) dX10_wordOf_72 ?_
                exact hQf hf hM hS dX10_wordOf_75
abbrev rX10_readWord : Room := { frames := 1, cells := 0, slots := 0, locals := 22 }
set_option maxRecDepth 100000 in
set_option maxHeartbeats 4000000 in
theorem kX10_readWord (l : Launch) (G : zG) (A : Nat → Prop) (V : zV3) (h : zV2) {r : Int32} {h' : zV2} (hf : xX10_readWord h  = some (r, h')) : zCt l G A yX10_readWord cX10_readWord 5 (some .int) rX10_readWord [.ref (gA G 16 0 0)] (upG V 8 h) (some (.int r)) (upG V 8 h') := by
  refine z_CtI (by decide) (Nat.le_of_ble_eq_true rfl) ?_
  intro p e s m args below meth c Q hx hb hml hown hL hK hM hS hQ ls hl
  replace hl : lv_has ls 5 [(0, .ref (gA G 16 0 0))] := hl
  have hQf : ∀ {a : Int32} {k : zV2} {H : Heap} {locs : List Loc} {pc : Nat} {ls : Array Slot}, some (a, k) = some (r, h') → zM G (upG V 8 k) H → va_S A s.heap H locs → decode cX10_readWord pc = .ok (.ireturn, 1) → W p l e rX10_readWord s m args below meth c H locs 0 0 Q (F0 m pc ls [.int a]) := by
    intro a k H locs pc ls e1 hM hS hd
    cases e1
    exact hQ H locs pc ls hM hS hd
  have L53 : ∀ (n : Nat) (h : zV2) (a1 : Int64) (a4 : Int32), xX10_readWord_L53 n h a1 a4 = some (r, h') → ∀ (H : Heap) (locs : List Loc) (ls : Array Slot), zM G (upG V 8 h) H → va_S A s.heap H locs → lv_has ls 5 [(1, .long a1), (4, .int a4)] → W p l e rX10_readWord s m args below meth c H locs 0 0 Q (F0 m 53 ls []) := by
    intro n
    induction n with
    | zero =>
      intro h a1 a4 hf H locs ls hM hS hl
      rw [xX10_readWord_L53] at hf
      cases hf
    | succ n ih =>
      intro h a1 a4 hf H locs ls hM hS hl
      rw [xX10_readWord_L53] at hf
      refine lv_iload hx hb dX10_readWord_53 (lv_at hl 1 rfl) ?_
      refine lv_bipush (v := 8) hx hb dX10_readWord_55 (by decide) ?_
      refine lv_icmp_ge (tgt := 79) hx hb dX10_readWord_57 (by decide) (fun c1 => ?_) (fun c1 => ?_)
      · replace hf := ift hf c1
        refine lv_iconst (v := -1) hx hb dX10_readWord_79 (by decide) ?_
        exact hQf hf hM hS dX10_readWord_80
      · replace hf := iff_ hf c1
        refine lv_iload hx hb dX10_readWord_60 (lv_at hl 1 rfl) ?_
        obtain ⟨r2, h4, hc3, hf⟩ := bnd_some hf
        refine z_callS (As := [.int a4]) (rest := []) hx hb hml hown hL hK hM hS (kX10_wordOf l G A V h a4 hc3) (zg_X10_wordOf zw5_160) zy_X10_wordOf ⟨rfl, rfl⟩ ⟨Nat.le_of_ble_eq_true rfl, Nat.le_of_ble_eq_true rfl⟩ rfl hl.1 rfl (Nat.le_of_ble_eq_true rfl) dX10_readWord_62 ⟨Nat.zero_le _, Nat.zero_le _⟩ (fun H locs hM hS => ?_)
        refine W.eq (g2 := F0 m 65 ls [.long r2]) rfl ?_
        refine lv_lload_n hx hb dX10_readWord_65 rfl (lv_at hl 0 rfl) ?_
        refine W.lcmp hx hb dX10_readWord_66 ?_
        refine lv_if_ne (tgt := 73) hx hb dX10_readWord_67 (by decide) (fun c5 => ?_) (fun c5 => ?_)
        · replace hf := iff_ hf c5
          obtain ⟨y6, ey6⟩ : ∃ y : Int32, y = a4 + (1 : Int32) := ⟨_, rfl⟩
          replace hf := ltI_some hf ey6
          refine lv_iinc (v := y6) (lv' := [(4, .int y6), (1, .long a1)]) hx hb dX10_readWord_73 hl (k := 1) rfl (by rw [ey6]; rfl) (by decide) rfl (fun ls hl => ?_)
          refine lv_goto (tgt := 53) hx hb dX10_readWord_76 (by decide) ?_
          exact ih h4 a1 y6 hf _ _ _ hM hS (lv_sub hl [1, 0] rfl)
        · replace hf := ift hf c5
          refine lv_iload hx hb dX10_readWord_70 (lv_at hl 1 rfl) ?_
          exact hQf hf hM hS dX10_readWord_72
  have L4 : ∀ (n : Nat) (h : zV2) (a1 : Int64) (a3 : Int32), xX10_readWord_L4 n h a1 a3 = some (r, h') → ∀ (H : Heap) (locs : List Loc) (ls : Array Slot), zM G (upG V 8 h) H → va_S A s.heap H locs → lv_has ls 5 [(0, .ref (gA G 16 0 0)), (1, .long a1), (3, .int a3)] → W p l e rX10_readWord s m args below meth c H locs 0 0 Q (F0 m 4 ls []) := by
    intro n
    induction n with
    | zero =>
      intro h a1 a3 hf H locs ls hM hS hl
      rw [xX10_readWord_L4] at hf
      cases hf
    | succ n ih =>
      intro h a1 a3 hf H locs ls hM hS hl
      rw [xX10_readWord_L4] at hf
      refine lv_iload_n hx hb dX10_readWord_4 rfl (lv_at hl 2 rfl) ?_
      refine lv_iconst (v := 5) hx hb dX10_readWord_5 (by decide) ?_
      refine lv_icmp_ge (tgt := 50) hx hb dX10_readWord_6 (by decide) (fun c1 => ?_) (fun c1 => ?_)
      · replace hf := ift hf c1
        refine lv_iconst (v := 0) hx hb dX10_readWord_50 (by decide) ?_
        refine lv_istore (lv' := [(4, .int (0 : Int32)), (0, .ref (gA G 16 0 0)), (1, .long a1), (3, .int a3)]) hx hb dX10_readWord_51 hl (by decide) rfl (fun ls hl => ?_)
        exact L53 1000 h a1 (0 : Int32) hf _ _ _ hM hS (lv_sub hl [2, 0] rfl)
      · replace hf := iff_ hf c1
        refine lv_aload_n hx hb dX10_readWord_9 rfl (lv_at hl 0 rfl) ?_
        obtain ⟨r2, h4, hc3, hf⟩ := bnd_some hf
        refine z_callV (As := []) (rest := []) (C := RX10) hx hb hml hown hL hK hM hS (kX10_here l G A V h hc3) (zg_X10_here zw5_156) zv_X10_here ⟨rfl, rfl⟩ ⟨Nat.le_of_ble_eq_true rfl, Nat.le_of_ble_eq_true rfl⟩ (hM.recv hK dm_16 (ze_16 G V 0 0 h) rfl) rfl hl.1 rfl (Nat.le_of_ble_eq_true rfl) dX10_readWord_10 ⟨Nat.zero_le _, Nat.zero_le _⟩ (fun H locs hM hS => ?_)
        refine W.eq (g2 := F0 m 13 ls [.int r2]) rfl ?_
        refine lv_bipush (v := 97) hx hb dX10_readWord_13 (by decide) ?_
        refine lv_bipush (v := 122) hx hb dX10_readWord_15 (by decide) ?_
        obtain ⟨r5, h7, hc6, hf⟩ := bnd_some hf
        refine z_callS (As := [.int r2, .int (97 : Int32), .int (122 : Int32)]) (rest := []) hx hb hml hown hL hK hM hS (kX10_in l G A V h4 r2 (97 : Int32) (122 : Int32) hc6) (zg_X10_in zw4_68) zy_X10_in ⟨rfl, rfl⟩ ⟨Nat.le_of_ble_eq_true rfl, Nat.le_of_ble_eq_true rfl⟩ rfl hl.1 rfl (Nat.le_of_ble_eq_true rfl) dX10_readWord_17 ⟨Nat.zero_le _, Nat.zero_le _⟩ (fun H locs hM hS => ?_)
        refine W.eq (g2 := F0 m 20 ls [.int r5]) rfl ?_
        refine lv_if_eq (tgt := 50) hx hb dX10_readWord_20 (by decide) (fun c8 => ?_) (fun c8 => ?_)
        · replace hf := ift hf c8
          refine lv_iconst (v := 0) hx hb dX10_readWord_50 (by decide) ?_
          refine lv_istore (lv' := [(4, .int (0 : Int32)), (0, .ref (gA G 16 0 0)), (1, .long a1), (3, .int a3)]) hx hb dX10_readWord_51 hl (by decide) rfl (fun ls hl => ?_)
          exact L53 1000 h7 a1 (0 : Int32) hf _ _ _ hM hS (lv_sub hl [2, 0] rfl)
        · replace hf := iff_ hf c8
          refine lv_lload_n hx hb dX10_readWord_23 rfl (lv_at hl 1 rfl) ?_
          refine lv_bipush (v := 8) hx hb dX10_readWord_24 (by decide) ?_
          refine lv_lshl (v := (a1 <<< ((8 : Int32).toInt64 &&& 63))) hx hb dX10_readWord_26 rfl ?_
          refine lv_aload_n hx hb dX10_readWord_27 rfl (lv_at hl 0 rfl) ?_
          obtain ⟨r9, h11, hc10, hf⟩ := bnd_some hf
          refine z_callV (As := []) (rest := [.long (a1 <<< ((8 : Int32).toInt64 &&& 63))]) (C := RX10) hx hb hml hown hL hK hM hS (kX10_here l G A V h7 hc10) (zg_X10_here zw5_156) zv_X10_here ⟨rfl, rfl⟩ ⟨Nat.le_of_ble_eq_true rfl, Nat.le_of_ble_eq_true rfl⟩ (hM.recv hK dm_16 (ze_16 G V 0 0 h7) rfl) rfl hl.1 rfl (Nat.le_of_ble_eq_true rfl) dX10_readWord_28 ⟨Nat.zero_le _, Nat.zero_le _⟩ (fun H locs hM hS => ?_)
          refine W.eq (g2 := F0 m 31 ls [.int r9, .long (a1 <<< ((8 : Int32).toInt64 &&& 63))]) rfl ?_
          refine lv_i2l (v := r9.toInt64) hx hb dX10_readWord_31 rfl ?_
          refine lv_lor hx hb dX10_readWord_32 ?_
          refine lv_topl (fun y12 ey12 => ?_)
          replace hf := ltI_some hf ey12
          refine lv_lstore_n (lv' := [(1, .long y12), (0, .ref (gA G 16 0 0)), (3, .int a3)]) hx hb dX10_readWord_33 rfl hl (by decide) rfl (fun ls hl => ?_)
          obtain ⟨y13, ey13⟩ : ∃ y : Int32, y = a3 + (1 : Int32) := ⟨_, rfl⟩
          replace hf := ltI_some hf ey13
          refine lv_iinc (v := y13) (lv' := [(3, .int y13), (1, .long y12), (0, .ref (gA G 16 0 0))]) hx hb dX10_readWord_34 hl (k := 2) rfl (by rw [ey13]; rfl) (by decide) rfl (fun ls hl => ?_)
          refine lv_aload_n hx hb dX10_readWord_37 rfl (lv_at hl 2 rfl) ?_
          refine lv_dup hx hb dX10_readWord_38 rfl ?_
          refine z_get (own := RX10) (C := RX10) (T := TX10) (N := 12) (ci := 8) (v := .int (h11 8 0)) hx hb hL inX10 hown hK hM dm_16 (ze_16 G V 0 0 h11) rfl 7 (by decide) (hL _ zw4_26) rfl rfl dX10_readWord_39 ?_
          refine lv_iconst (v := 1) hx hb dX10_readWord_42 (by decide) ?_
          refine lv_iadd hx hb dX10_readWord_43 ?_
          obtain ⟨h14, eh14⟩ : ∃ y, y = up2 h11 8 0 ((h11 8 0) + (1 : Int32)) := ⟨_, rfl⟩
          replace hf := put2_some hf eh14
          refine z_put (own := RX10) (C := RX10) (T := TX10) (N := 12) (ci := 8) (V' := upG V 8 h14) hx hb hL inX10 tyX10 tyX10_ok nmX10 hown hK hM hS dm_16 (ze_16 G V 0 0 h11) rfl 7 (by decide) (hL _ zw4_26) rfl rfl rfl rfl (Nat.le_of_ble_eq_true rfl) (by rw [eh14]; exact zn_16_8 G V h11 ((h11 8 0) + (1 : Int32))) dX10_readWord_44 (fun H locs hM hS => ?_)
          refine lv_goto (tgt := 4) hx hb dX10_readWord_47 (by decide) ?_
          exact ih h14 y12 y13 hf _ _ _ hM hS (lv_sub hl [2, 1, 0] rfl)
  unfold xX10_readWord at hf
  refine lv_lconst (v := 0) hx hb dX10_readWord_0 rfl ?_
  refine lv_lstore_n (lv' := [(1, .long (0 : Int64)), (0, .ref (gA G 16 0 0))]) hx hb dX10_readWord_1 rfl hl (by decide) rfl (fun ls hl => ?_)
  refine lv_iconst (v := 0) hx hb dX10_readWord_2 (by decide) ?_
  refine lv_istore_n (lv' := [(3, .int (0 : Int32)), (1, .long (0 : Int64)), (0, .ref (gA G 16 0 0))]) hx hb dX10_readWord_3 rfl hl (by decide) rfl (fun ls hl => ?_)
  exact L4 1000 h (0 : Int64) (0 : Int32) hf _ _ _ hM hS (lv_sub hl [2, 1, 0] rfl)
abbrev rX10_command : Room := { frames := 7, cells := 0, slots := 0, locals := 158 }
set_option maxRecDepth 100000 in
set_option maxHeartbeats 4000000 in
theorem kX10_command (l : Launch) (G : zG) (A : Nat → Prop) (V : zV3) (h : zV2) {r : Int32} {h' : zV2} (hf : xX10_command h  = some (r, h')) : zCt l G A yX10_command cX10_command 4 (some .int) rX10_command [.ref (gA G 16 0 0)] (upG V 8 h) (some (.int r)) (upG V 8 h') := by
  refine z_CtI (by decide) (Nat.le_of_ble_eq_true rfl) ?_
  intro p e s m args below meth c Q hx hb hml hown hL hK hM hS hQ ls hl
  replace hl : lv_has ls 4 [(0, .ref (gA G 16 0 0))] := hl
  have hQf : ∀ {a : Int32} {k : zV2} {H : Heap} {locs : List Loc} {pc : Nat} {ls : Array Slot}, some (a, k) = some (r, h') → zM G (upG V 8 k) H → va_S A s.heap H locs → decode cX10_command pc = .ok (.ireturn, 1) → W p l e rX10_command s m args below meth c H locs 0 0 Q (F0 m pc ls [.int a]) := by
    intro a k H locs pc ls e1 hM hS hd
    cases e1
    exact hQ H locs pc ls hM hS hd
  have L50 : ∀ (n : Nat) (h : zV2) (a1 : Int32) (a2 : Int32) (a3 : Int32), xX10_command_L50 n h a1 a2 a3 = some (r, h') → ∀ (H : Heap) (locs : List Loc) (ls : Array Slot), zM G (upG V 8 h) H → va_S A s.heap H locs → lv_has ls 4 [(0, .ref (gA G 16 0 0)), (1, .int a1), (2, .int a2), (3, .int a3)] → W p l e rX10_command s m args below meth c H locs 0 0 Q (F0 m 50 ls []) := by
    intro n
    induction n with
    | zero =>
      intro h a1 a2 a3 hf H locs ls hM hS hl
      rw [xX10_command_L50] at hf
      cases hf
    | succ n ih =>
      intro h a1 a2 a3 hf H locs ls hM hS hl
      rw [xX10_command_L50] at hf
      refine lv_iload_n hx hb dX10_command_50 rfl (lv_at hl 3 rfl) ?_
      refine lv_iload_n hx hb dX10_command_51 rfl (lv_at hl 2 rfl) ?_
      refine lv_icmp_ge (tgt := 71) hx hb dX10_command_52 (by decide) (fun c1 => ?_) (fun c1 => ?_)
      · replace hf := ift hf c1
        refine lv_aload_n hx hb dX10_command_71 rfl (lv_at hl 0 rfl) ?_
        refine lv_bipush (v := 59) hx hb dX10_command_72 (by decide) ?_
        obtain ⟨r2, h4, hc3, hf⟩ := bnd_some hf
        refine z_callV (As := [.int (59 : Int32)]) (rest := []) (C := RX10) hx hb hml hown hL hK hM hS (kX10_must l G A V h (59 : Int32) hc3) (zg_X10_must zw5_175) zv_X10_must ⟨rfl, rfl⟩ ⟨Nat.le_of_ble_eq_true rfl, Nat.le_of_ble_eq_true rfl⟩ (hM.recv hK dm_16 (ze_16 G V 0 0 h) rfl) rfl hl.1 rfl (Nat.le_of_ble_eq_true rfl) dX10_command_74 ⟨Nat.zero_le _, Nat.zero_le _⟩ (fun H locs hM hS => ?_)
        refine W.eq (g2 := F0 m 77 ls []) rfl ?_
        refine lv_aload_n hx hb dX10_command_77 rfl (lv_at hl 0 rfl) ?_
        refine z_get (own := RX10) (C := RX10) (T := TX10) (N := 12) (ci := 8) (v := .int (h4 9 0)) hx hb hL inX10 hown hK hM dm_16 (ze_16 G V 0 0 h4) rfl 8 (by decide) (hL _ zw4_27) rfl rfl dX10_command_78 ?_
        refine lv_if_ne (tgt := 86) hx hb dX10_command_81 (by decide) (fun c5 => ?_) (fun c5 => ?_)
        · replace hf := iff_ hf c5
          refine lv_iload_n hx hb dX10_command_86 rfl (lv_at hl 1 rfl) ?_
          by_cases c6 : a1 = (0 : Int32)
          · replace hf := ift hf c6
            refine lv_tableIn (off := 41) (tgt := 128) hx hb dX10_command_87 (by rw [c6]; decide) (by rw [c6]; decide) (by rw [c6]; rfl) (by decide) ?_
            refine lv_aload_n hx hb dX10_command_128 rfl (lv_at hl 0 rfl) ?_
            refine lv_aload_n hx hb dX10_command_129 rfl (lv_at hl 0 rfl) ?_
            refine z_get (own := RX10) (C := RX10) (T := TX10) (N := 12) (ci := 8) (v := .ref (gA G 17 0 5)) hx hb hL inX10 hown hK hM dm_16 (ze_16 G V 0 0 h4) rfl 11 (by decide) (hL _ zw4_30) rfl rfl dX10_command_130 ?_
            refine lv_iconst (v := 0) hx hb dX10_command_133 (by decide) ?_
            obtain ⟨hb7, hf⟩ := grd_some hf
            refine z_iald hx hb hK hM (dm_17 (i := 5) (by decide)) (ze_17_5 G V h4) (inb_in hb7) dX10_command_134 ?_
            refine lv_aload_n hx hb dX10_command_135 rfl (lv_at hl 0 rfl) ?_
            refine z_get (own := RX10) (C := RX10) (T := TX10) (N := 12) (ci := 8) (v := .ref (gA G 17 0 5)) hx hb hL inX10 hown hK hM dm_16 (ze_16 G V 0 0 h4) rfl 11 (by decide) (hL _ zw4_30) rfl rfl dX10_command_136 ?_
            refine lv_iconst (v := 1) hx hb dX10_command_139 (by decide) ?_
            obtain ⟨hb8, hf⟩ := grd_some hf
            refine z_iald hx hb hK hM (dm_17 (i := 5) (by decide)) (ze_17_5 G V h4) (inb_in hb8) dX10_command_140 ?_
            obtain ⟨r9, h11, hc10, hf⟩ := bnd_some hf
            refine z_callV (As := [.int (h4 5 ((0 : Int32).toNatClampNeg)), .int (h4 5 ((1 : Int32).toNatClampNeg))]) (rest := []) (C := RX10) hx hb hml hown hL hK hM hS (kX10_lends l G A V h4 (h4 5 ((0 : Int32).toNatClampNeg)) (h4 5 ((1 : Int32).toNatClampNeg)) hc10) (zg_X10_lends zw4_139) zv_X10_lends ⟨rfl, rfl⟩ ⟨Nat.le_of_ble_eq_true rfl, Nat.le_of_ble_eq_true rfl⟩ (hM.recv hK dm_16 (ze_16 G V 0 0 h4) rfl) rfl hl.1 rfl (Nat.le_of_ble_eq_true rfl) dX10_command_141 ⟨Nat.zero_le _, Nat.zero_le _⟩ (fun H locs hM hS => ?_)
            refine W.eq (g2 := F0 m 144 ls [.int r9]) rfl ?_
            exact hQf hf hM hS dX10_command_144
          · replace hf := iff_ hf c6
            by_cases c12 : a1 = (1 : Int32)
            · replace hf := ift hf c12
              refine lv_tableIn (off := 58) (tgt := 145) hx hb dX10_command_87 (by rw [c12]; decide) (by rw [c12]; decide) (by rw [c12]; rfl) (by decide) ?_
              refine lv_aload_n hx hb dX10_command_145 rfl (lv_at hl 0 rfl) ?_
              refine lv_aload_n hx hb dX10_command_146 rfl (lv_at hl 0 rfl) ?_
              refine z_get (own := RX10) (C := RX10) (T := TX10) (N := 12) (ci := 8) (v := .ref (gA G 17 0 5)) hx hb hL inX10 hown hK hM dm_16 (ze_16 G V 0 0 h4) rfl 11 (by decide) (hL _ zw4_30) rfl rfl dX10_command_147 ?_
              refine lv_iconst (v := 0) hx hb dX10_command_150 (by decide) ?_
              obtain ⟨hb13, hf⟩ := grd_some hf
              refine z_iald hx hb hK hM (dm_17 (i := 5) (by decide)) (ze_17_5 G V h4) (inb_in hb13) dX10_command_151 ?_
              obtain ⟨r14, h16, hc15, hf⟩ := bnd_some hf
              refine z_callV (As := [.int (h4 5 ((0 : Int32).toNatClampNeg))]) (rest := []) (C := RX10) hx hb hml hown hL hK hM hS (kX10_givesBack l G A V h4 (h4 5 ((0 : Int32).toNatClampNeg)) hc15) (zg_X10_givesBack zw4_167) zv_X10_givesBack ⟨rfl, rfl⟩ ⟨Nat.le_of_ble_eq_true rfl, Nat.le_of_ble_eq_true rfl⟩ (hM.recv hK dm_16 (ze_16 G V 0 0 h4) rfl) rfl hl.1 rfl (Nat.le_of_ble_eq_true rfl) dX10_command_152 ⟨Nat.zero_le _, Nat.zero_le _⟩ (fun H locs hM hS => ?_)
              refine W.eq (g2 := F0 m 155 ls [.int r14]) rfl ?_
              exact hQf hf hM hS dX10_command_155
            · replace hf := iff_ hf c12
              by_cases c17 : a1 = (2 : Int32)
              · replace hf := ift hf c17
                refine lv_tableIn (off := 69) (tgt := 156) hx hb dX10_command_87 (by rw [c17]; decide) (by rw [c17]; decide) (by rw [c17]; rfl) (by decide) ?_
                refine lv_aload_n hx hb dX10_command_156 rfl (lv_at hl 0 rfl) ?_
                refine lv_aload_n hx hb dX10_command_157 rfl (lv_at hl 0 rfl) ?_
                refine z_get (own := RX10) (C := RX10) (T := TX10) (N := 12) (ci := 8) (v := .ref (gA G 17 0 5)) hx hb hL inX10 hown hK hM dm_16 (ze_16 G V 0 0 h4) rfl 11 (by decide) (hL _ zw4_30) rfl rfl dX10_command_158 ?_
                refine lv_iconst (v := 0) hx hb dX10_command_161 (by decide) ?_
                obtain ⟨hb18, hf⟩ := grd_some hf
                refine z_iald hx hb hK hM (dm_17 (i := 5) (by decide)) (ze_17_5 G V h4) (inb_in hb18) dX10_command_162 ?_
                obtain ⟨r19, h21, hc20, hf⟩ := bnd_some hf
                refine z_callV (As := [.int (h4 5 ((0 : Int32).toNatClampNeg))]) (rest := []) (C := RX10) hx hb hml hown hL hK hM hS (kX10_renews l G A V h4 (h4 5 ((0 : Int32).toNatClampNeg)) hc20) (zg_X10_renews zw4_187) zv_X10_renews ⟨rfl, rfl⟩ ⟨Nat.le_of_ble_eq_true rfl, Nat.le_of_ble_eq_true rfl⟩ (hM.recv hK dm_16 (ze_16 G V 0 0 h4) rfl) rfl hl.1 rfl (Nat.le_of_ble_eq_true rfl) dX10_command_163 ⟨Nat.zero_le _, Nat.zero_le _⟩ (fun H locs hM hS => ?_)
                refine W.eq (g2 := F0 m 166 ls [.int r19]) rfl ?_
                exact hQf hf hM hS dX10_command_166
              · replace hf := iff_ hf c17
                by_cases c22 : a1 = (3 : Int32)
                · replace hf := ift hf c22
                  refine lv_tableIn (off := 80) (tgt := 167) hx hb dX10_command_87 (by rw [c22]; decide) (by rw [c22]; decide) (by rw [c22]; rfl) (by decide) ?_
                  refine lv_aload_n hx hb dX10_command_167 rfl (lv_at hl 0 rfl) ?_
                  refine lv_aload_n hx hb dX10_command_168 rfl (lv_at hl 0 rfl) ?_
                  refine z_get (own := RX10) (C := RX10) (T := TX10) (N := 12) (ci := 8) (v := .ref (gA G 17 0 5)) hx hb hL inX10 hown hK hM dm_16 (ze_16 G V 0 0 h4) rfl 11 (by decide) (hL _ zw4_30) rfl rfl dX10_command_169 ?_
                  refine lv_iconst (v := 0) hx hb dX10_command_172 (by decide) ?_
                  obtain ⟨hb23, hf⟩ := grd_some hf
                  refine z_iald hx hb hK hM (dm_17 (i := 5) (by decide)) (ze_17_5 G V h4) (inb_in hb23) dX10_command_173 ?_
                  obtain ⟨r24, h26, hc25, hf⟩ := bnd_some hf
                  refine z_callV (As := [.int (h4 5 ((0 : Int32).toNatClampNeg))]) (rest := []) (C := RX10) hx hb hml hown hL hK hM hS (kX10_loses l G A V h4 (h4 5 ((0 : Int32).toNatClampNeg)) hc25) (zg_X10_loses zw4_195) zv_X10_loses ⟨rfl, rfl⟩ ⟨Nat.le_of_ble_eq_true rfl, Nat.le_of_ble_eq_true rfl⟩ (hM.recv hK dm_16 (ze_16 G V 0 0 h4) rfl) rfl hl.1 rfl (Nat.le_of_ble_eq_true rfl) dX10_command_174 ⟨Nat.zero_le _, Nat.zero_le _⟩ (fun H locs hM hS => ?_)
                  refine W.eq (g2 := F0 m 177 ls [.int r24]) rfl ?_
                  exact hQf hf hM hS dX10_command_177
                · replace hf := iff_ hf c22
                  by_cases c27 : a1 = (4 : Int32)
                  · replace hf := ift hf c27
                    refine lv_tableIn (off := 91) (tgt := 178) hx hb dX10_command_87 (by rw [c27]; decide) (by rw [c27]; decide) (by rw [c27]; rfl) (by decide) ?_
                    refine lv_aload_n hx hb dX10_command_178 rfl (lv_at hl 0 rfl) ?_
                    refine lv_aload_n hx hb dX10_command_179 rfl (lv_at hl 0 rfl) ?_
                    refine z_get (own := RX10) (C := RX10) (T := TX10) (N := 12) (ci := 8) (v := .ref (gA G 17 0 5)) hx hb hL inX10 hown hK hM dm_16 (ze_16 G V 0 0 h4) rfl 11 (by decide) (hL _ zw4_30) rfl rfl dX10_command_180 ?_
                    refine lv_iconst (v := 0) hx hb dX10_command_183 (by decide) ?_
                    obtain ⟨hb28, hf⟩ := grd_some hf
                    refine z_iald hx hb hK hM (dm_17 (i := 5) (by decide)) (ze_17_5 G V h4) (inb_in hb28) dX10_command_184 ?_
                    refine lv_aload_n hx hb dX10_command_185 rfl (lv_at hl 0 rfl) ?_
                    refine z_get (own := RX10) (C := RX10) (T := TX10) (N := 12) (ci := 8) (v := .ref (gA G 17 0 5)) hx hb hL inX10 hown hK hM dm_16 (ze_16 G V 0 0 h4) rfl 11 (by decide) (hL _ zw4_30) rfl rfl dX10_command_186 ?_
                    refine lv_iconst (v := 1) hx hb dX10_command_189 (by decide) ?_
                    obtain ⟨hb29, hf⟩ := grd_some hf
                    refine z_iald hx hb hK hM (dm_17 (i := 5) (by decide)) (ze_17_5 G V h4) (inb_in hb29) dX10_command_190 ?_
                    obtain ⟨r30, h32, hc31, hf⟩ := bnd_some hf
                    refine z_callV (As := [.int (h4 5 ((0 : Int32).toNatClampNeg)), .int (h4 5 ((1 : Int32).toNatClampNeg))]) (rest := []) (C := RX10) hx hb hml hown hL hK hM hS (kX10_wishes l G A V h4 (h4 5 ((0 : Int32).toNatClampNeg)) (h4 5 ((1 : Int32).toNatClampNeg)) hc31) (zg_X10_wishes zw4_211) zv_X10_wishes ⟨rfl, rfl⟩ ⟨Nat.le_of_ble_eq_true rfl, Nat.le_of_ble_eq_true rfl⟩ (hM.recv hK dm_16 (ze_16 G V 0 0 h4) rfl) rfl hl.1 rfl (Nat.le_of_ble_eq_true rfl) dX10_command_191 ⟨Nat.zero_le _, Nat.zero_le _⟩ (fun H locs hM hS => ?_)
                    refine W.eq (g2 := F0 m 194 ls [.int r30]) rfl ?_
                    exact hQf hf hM hS dX10_command_194
                  · replace hf := iff_ hf c27
                    by_cases c33 : a1 = (5 : Int32)
                    · replace hf := ift hf c33
                      refine lv_tableIn (off := 108) (tgt := 195) hx hb dX10_command_87 (by rw [c33]; decide) (by rw [c33]; decide) (by rw [c33]; rfl) (by decide) ?_
                      refine lv_aload_n hx hb dX10_command_195 rfl (lv_at hl 0 rfl) ?_
                      obtain ⟨r34, h36, hc35, hf⟩ := bnd_some hf
                      refine z_callV (As := []) (rest := []) (C := RX10) hx hb hml hown hL hK hM hS (kX10_swaps l G A V h4 hc35) (zg_X10_swaps zw4_227) zv_X10_swaps ⟨rfl, rfl⟩ ⟨Nat.le_of_ble_eq_true rfl, Nat.le_of_ble_eq_true rfl⟩ (hM.recv hK dm_16 (ze_16 G V 0 0 h4) rfl) rfl hl.1 rfl (Nat.le_of_ble_eq_true rfl) dX10_command_196 ⟨Nat.zero_le _, Nat.zero_le _⟩ (fun H locs hM hS => ?_)
                      refine W.eq (g2 := F0 m 199 ls [.int r34]) rfl ?_
                      exact hQf hf hM hS dX10_command_199
                    · replace hf := iff_ hf c33
                      by_cases c37 : a1 = (6 : Int32)
                      · replace hf := ift hf c37
                        refine lv_tableIn (off := 113) (tgt := 200) hx hb dX10_command_87 (by rw [c37]; decide) (by rw [c37]; decide) (by rw [c37]; rfl) (by decide) ?_
                        refine lv_aload_n hx hb dX10_command_200 rfl (lv_at hl 0 rfl) ?_
                        refine lv_aload_n hx hb dX10_command_201 rfl (lv_at hl 0 rfl) ?_
                        refine z_get (own := RX10) (C := RX10) (T := TX10) (N := 12) (ci := 8) (v := .ref (gA G 17 0 5)) hx hb hL inX10 hown hK hM dm_16 (ze_16 G V 0 0 h4) rfl 11 (by decide) (hL _ zw4_30) rfl rfl dX10_command_202 ?_
                        refine lv_iconst (v := 0) hx hb dX10_command_205 (by decide) ?_
                        obtain ⟨hb38, hf⟩ := grd_some hf
                        refine z_iald hx hb hK hM (dm_17 (i := 5) (by decide)) (ze_17_5 G V h4) (inb_in hb38) dX10_command_206 ?_
                        refine lv_aload_n hx hb dX10_command_207 rfl (lv_at hl 0 rfl) ?_
                        refine z_get (own := RX10) (C := RX10) (T := TX10) (N := 12) (ci := 8) (v := .ref (gA G 17 0 5)) hx hb hL inX10 hown hK hM dm_16 (ze_16 G V 0 0 h4) rfl 11 (by decide) (hL _ zw4_30) rfl rfl dX10_command_208 ?_
                        refine lv_iconst (v := 1) hx hb dX10_command_211 (by decide) ?_
                        obtain ⟨hb39, hf⟩ := grd_some hf
                        refine z_iald hx hb hK hM (dm_17 (i := 5) (by decide)) (ze_17_5 G V h4) (inb_in hb39) dX10_command_212 ?_
                        obtain ⟨r40, h42, hc41, hf⟩ := bnd_some hf
                        refine z_callV (As := [.int (h4 5 ((0 : Int32).toNatClampNeg)), .int (h4 5 ((1 : Int32).toNatClampNeg))]) (rest := []) (C := RX10) hx hb hml hown hL hK hM hS (kX10_pays l G A V h4 (h4 5 ((0 : Int32).toNatClampNeg)) (h4 5 ((1 : Int32).toNatClampNeg)) hc41) (zg_X10_pays zw5_19) zv_X10_pays ⟨rfl, rfl⟩ ⟨Nat.le_of_ble_eq_true rfl, Nat.le_of_ble_eq_true rfl⟩ (hM.recv hK dm_16 (ze_16 G V 0 0 h4) rfl) rfl hl.1 rfl (Nat.le_of_ble_eq_true rfl) dX10_command_213 ⟨Nat.zero_le _, Nat.zero_le _⟩ (fun H locs hM hS => ?_)
                        refine W.eq (g2 := F0 m 216 ls [.int r40]) rfl ?_
                        exact hQf hf hM hS dX10_command_216
                      · replace hf := iff_ hf c37
                        refine lv_tableOut (tgt := 217) hx hb dX10_command_87 (by have t0 := lv_neT c6 (a := 0) (by decide); have t1 := lv_neT c12 (a := 1) (by decide); have t2 := lv_neT c17 (a := 2) (by decide); have t3 := lv_neT c22 (a := 3) (by decide); have t4 := lv_neT c27 (a := 4) (by decide); have t5 := lv_neT c33 (a := 5) (by decide); have t6 := lv_neT c37 (a := 6) (by decide); omega) (by decide) ?_
                        refine lv_aload_n hx hb dX10_command_217 rfl (lv_at hl 0 rfl) ?_
                        refine lv_aload_n hx hb dX10_command_218 rfl (lv_at hl 0 rfl) ?_
                        refine z_get (own := RX10) (C := RX10) (T := TX10) (N := 12) (ci := 8) (v := .ref (gA G 17 0 5)) hx hb hL inX10 hown hK hM dm_16 (ze_16 G V 0 0 h4) rfl 11 (by decide) (hL _ zw4_30) rfl rfl dX10_command_219 ?_
                        refine lv_iconst (v := 0) hx hb dX10_command_222 (by decide) ?_
                        obtain ⟨hb43, hf⟩ := grd_some hf
                        refine z_iald hx hb hK hM (dm_17 (i := 5) (by decide)) (ze_17_5 G V h4) (inb_in hb43) dX10_command_223 ?_
                        obtain ⟨r44, h46, hc45, hf⟩ := bnd_some hf
                        refine z_callV (As := [.int (h4 5 ((0 : Int32).toNatClampNeg))]) (rest := []) (C := RX10) hx hb hml hown hL hK hM hS (kX10_passes l G A V h4 (h4 5 ((0 : Int32).toNatClampNeg)) hc45) (zg_X10_passes zw5_27) zv_X10_passes ⟨rfl, rfl⟩ ⟨Nat.le_of_ble_eq_true rfl, Nat.le_of_ble_eq_true rfl⟩ (hM.recv hK dm_16 (ze_16 G V 0 0 h4) rfl) rfl hl.1 rfl (Nat.le_of_ble_eq_true rfl) dX10_command_224 ⟨Nat.zero_le _, Nat.zero_le _⟩ (fun H locs hM hS => ?_)
                        refine W.eq (g2 := F0 m 227 ls [.int r44]) rfl ?_
                        exact hQf hf hM hS dX10_command_227
        · replace hf := ift hf c5
          refine lv_iconst (v := 0) hx hb dX10_command_84 (by decide) ?_
          exact hQf hf hM hS dX10_command_85
      · replace hf := iff_ hf c1
        refine lv_aload_n hx hb dX10_command_55 rfl (lv_at hl 0 rfl) ?_
        refine z_get (own := RX10) (C := RX10) (T := TX10) (N := 12) (ci := 8) (v := .ref (gA G 17 0 5)) hx hb hL inX10 hown hK hM dm_16 (ze_16 G V 0 0 h) rfl 11 (by decide) (hL _ zw4_30) rfl rfl dX10_command_56 ?_
        refine lv_iload_n hx hb dX10_command_59 rfl (lv_at hl 3 rfl) ?_
        refine lv_aload_n hx hb dX10_command_60 rfl (lv_at hl 0 rfl) ?_
        obtain ⟨r47, h49, hc48, hf⟩ := bnd_some hf
        refine z_callV (As := []) (rest := [.int a3, .ref (gA G 17 0 5)]) (C := RX10) hx hb hml hown hL hK hM hS (kX10_readNumber l G A V h hc48) (zg_X10_readNumber zw5_171) zv_X10_readNumber ⟨rfl, rfl⟩ ⟨Nat.le_of_ble_eq_true rfl, Nat.le_of_ble_eq_true rfl⟩ (hM.recv hK dm_16 (ze_16 G V 0 0 h) rfl) rfl hl.1 rfl (Nat.le_of_ble_eq_true rfl) dX10_command_61 ⟨Nat.zero_le _, Nat.zero_le _⟩ (fun H locs hM hS => ?_)
        refine W.eq (g2 := F0 m 64 ls [.int r47, .int a3, .ref (gA G 17 0 5)]) rfl ?_
        obtain ⟨hb50, hf⟩ := grd_some hf
        obtain ⟨h51, eh51⟩ : ∃ y, y = up2 h49 5 a3.toNatClampNeg r47 := ⟨_, rfl⟩
        replace hf := put2_some hf eh51
        refine z_iast (V' := upG V 8 h51) hx hb hK hM hS (dm_17 (i := 5) (by decide)) (ze_17_5 G V h49) (inb_in hb50) (by rw [eh51]; exact zn_17_5 G V h49 a3.toNatClampNeg r47) dX10_command_64 (fun H locs hM hS => ?_)
        obtain ⟨y52, ey52⟩ : ∃ y : Int32, y = a3 + (1 : Int32) := ⟨_, rfl⟩
        replace hf := ltI_some hf ey52
        refine lv_iinc (v := y52) (lv' := [(3, .int y52), (0, .ref (gA G 16 0 0)), (1, .int a1), (2, .int a2)]) hx hb dX10_command_65 hl (k := 3) rfl (by rw [ey52]; rfl) (by decide) rfl (fun ls hl => ?_)
        refine lv_goto (tgt := 50) hx hb dX10_command_68 (by decide) ?_
        exact ih h51 a1 a2 y52 hf _ _ _ hM hS (lv_sub hl [1, 2, 3, 0] rfl)
  have L15 : ∀ (h : zV2) (a1 : Int32) (s0 : Int32), xX10_command_L15 h a1 s0 = some (r, h') → ∀ (H : Heap) (locs : List Loc) (ls : Array Slot), zM G (upG V 8 h) H → va_S A s.heap H locs → lv_has ls 4 [(0, .ref (gA G 16 0 0)), (1, .int a1)] → W p l e rX10_command s m args below meth c H locs 0 0 Q (F0 m 15 ls [.int s0, .ref (gA G 16 0 0)]) := by
    intro h a1 s0 hf H locs ls hM hS hl
    unfold xX10_command_L15 at hf
    obtain ⟨hb1, hf⟩ := grd_some hf
    obtain ⟨h2, eh2⟩ : ∃ y, y = up2 h 9 0 s0 := ⟨_, rfl⟩
    replace hf := put2_some hf eh2
    refine z_put (own := RX10) (C := RX10) (T := TX10) (N := 12) (ci := 8) (V' := upG V 8 h2) hx hb hL inX10 tyX10 tyX10_ok nmX10 hown hK hM hS dm_16 (ze_16 G V 0 0 h) rfl 8 (by decide) (hL _ zw4_27) rfl rfl (isb_z hb1) (isb_f hb1) (Nat.le_of_ble_eq_true rfl) (by rw [eh2]; exact zn_16_9 G V h s0) dX10_command_15 (fun H locs hM hS => ?_)
    refine lv_iload_n hx hb dX10_command_18 rfl (lv_at hl 1 rfl) ?_
    refine lv_iconst (v := 5) hx hb dX10_command_19 (by decide) ?_
    refine lv_icmp_ne (tgt := 27) hx hb dX10_command_20 (by decide) (fun c3 => ?_) (fun c3 => ?_)
    · replace hf := iff_ hf c3
      refine lv_iload_n hx hb dX10_command_27 rfl (lv_at hl 1 rfl) ?_
      refine lv_if_eq (tgt := 42) hx hb dX10_command_28 (by decide) (fun c4 => ?_) (fun c4 => ?_)
      · replace hf := ift hf c4
        refine lv_iconst (v := 2) hx hb dX10_command_42 (by decide) ?_
        refine lv_goto (tgt := 47) hx hb dX10_command_43 (by decide) ?_
        refine lv_istore_n (lv' := [(2, .int (2 : Int32)), (0, .ref (gA G 16 0 0)), (1, .int a1)]) hx hb dX10_command_47 rfl hl (by decide) rfl (fun ls hl => ?_)
        refine lv_iconst (v := 0) hx hb dX10_command_48 (by decide) ?_
        refine lv_istore_n (lv' := [(3, .int (0 : Int32)), (2, .int (2 : Int32)), (0, .ref (gA G 16 0 0)), (1, .int a1)]) hx hb dX10_command_49 rfl hl (by decide) rfl (fun ls hl => ?_)
        exact L50 1000 h2 a1 (2 : Int32) (0 : Int32) hf _ _ _ hM hS (lv_sub hl [2, 3, 1, 0] rfl)
      · replace hf := iff_ hf c4
        refine lv_iload_n hx hb dX10_command_31 rfl (lv_at hl 1 rfl) ?_
        refine lv_iconst (v := 4) hx hb dX10_command_32 (by decide) ?_
        refine lv_icmp_eq (tgt := 42) hx hb dX10_command_33 (by decide) (fun c5 => ?_) (fun c5 => ?_)
        · replace hf := ift hf c5
          refine lv_iconst (v := 2) hx hb dX10_command_42 (by decide) ?_
          refine lv_goto (tgt := 47) hx hb dX10_command_43 (by decide) ?_
          refine lv_istore_n (lv' := [(2, .int (2 : Int32)), (0, .ref (gA G 16 0 0)), (1, .int a1)]) hx hb dX10_command_47 rfl hl (by decide) rfl (fun ls hl => ?_)
          refine lv_iconst (v := 0) hx hb dX10_command_48 (by decide) ?_
          refine lv_istore_n (lv' := [(3, .int (0 : Int32)), (2, .int (2 : Int32)), (0, .ref (gA G 16 0 0)), (1, .int a1)]) hx hb dX10_command_49 rfl hl (by decide) rfl (fun ls hl => ?_)
          exact L50 1000 h2 a1 (2 : Int32) (0 : Int32) hf _ _ _ hM hS (lv_sub hl [2, 3, 1, 0] rfl)
        · replace hf := iff_ hf c5
          refine lv_iload_n hx hb dX10_command_36 rfl (lv_at hl 1 rfl) ?_
          refine lv_bipush (v := 6) hx hb dX10_command_37 (by decide) ?_
          refine lv_icmp_ne (tgt := 46) hx hb dX10_command_39 (by decide) (fun c6 => ?_) (fun c6 => ?_)
          · replace hf := iff_ hf c6
            refine lv_iconst (v := 1) hx hb dX10_command_46 (by decide) ?_
            refine lv_istore_n (lv' := [(2, .int (1 : Int32)), (0, .ref (gA G 16 0 0)), (1, .int a1)]) hx hb dX10_command_47 rfl hl (by decide) rfl (fun ls hl => ?_)
            refine lv_iconst (v := 0) hx hb dX10_command_48 (by decide) ?_
            refine lv_istore_n (lv' := [(3, .int (0 : Int32)), (2, .int (1 : Int32)), (0, .ref (gA G 16 0 0)), (1, .int a1)]) hx hb dX10_command_49 rfl hl (by decide) rfl (fun ls hl => ?_)
            exact L50 1000 h2 a1 (1 : Int32) (0 : Int32) hf _ _ _ hM hS (lv_sub hl [2, 3, 1, 0] rfl)
          · replace hf := ift hf c6
            refine lv_iconst (v := 2) hx hb dX10_command_42 (by decide) ?_
            refine lv_goto (tgt := 47) hx hb dX10_command_43 (by decide) ?_
            refine lv_istore_n (lv' := [(2, .int (2 : Int32)), (0, .ref (gA G 16 0 0)), (1, .int a1)]) hx hb dX10_command_47 rfl hl (by decide) rfl (fun ls hl => ?_)
            refine lv_iconst (v := 0) hx hb dX10_command_48 (by decide) ?_
            refine lv_istore_n (lv' := [(3, .int (0 : Int32)), (2, .int (2 : Int32)), (0, .ref (gA G 16 0 0)), (1, .int a1)]) hx hb dX10_command_49 rfl hl (by decide) rfl (fun ls hl => ?_)
            exact L50 1000 h2 a1 (2 : Int32) (0 : Int32) hf _ _ _ hM hS (lv_sub hl [2, 3, 1, 0] rfl)
    · replace hf := ift hf c3
      refine lv_iconst (v := 0) hx hb dX10_command_23 (by decide) ?_
      refine lv_goto (tgt := 47) hx hb dX10_command_24 (by decide) ?_
      refine lv_istore_n (lv' := [(2, .int (0 : Int32)), (0, .ref (gA G 16 0 0)), (1, .int a1)]) hx hb dX10_command_47 rfl hl (by decide) rfl (fun ls hl => ?_)
      refine lv_iconst (v := 0) hx hb dX10_command_48 (by decide) ?_
      refine lv_istore_n (lv' := [(3, .int (0 : Int32)), (2, .int (0 : Int32)), (0, .ref (gA G 16 0 0)), (1, .int a1)]) hx hb dX10_command_49 rfl hl (by decide) rfl (fun ls hl => ?_)
      exact L50 1000 h2 a1 (0 : Int32) (0 : Int32) hf _ _ _ hM hS (lv_sub hl [2, 3, 1, 0] rfl)
  unfold xX10_command at hf
  refine lv_aload_n hx hb dX10_command_0 rfl (lv_at hl 0 rfl) ?_
  obtain ⟨r1, h3, hc2, hf⟩ := bnd_some hf
  refine z_callV (As := []) (rest := []) (C := RX10) hx hb hml hown hL hK hM hS (kX10_readWord l G A V h hc2) (zg_X10_readWord zw5_152) zv_X10_readWord ⟨rfl, rfl⟩ ⟨Nat.le_of_ble_eq_true rfl, Nat.le_of_ble_eq_true rfl⟩ (hM.recv hK dm_16 (ze_16 G V 0 0 h) rfl) rfl hl.1 rfl (Nat.le_of_ble_eq_true rfl) dX10_command_1 ⟨Nat.zero_le _, Nat.zero_le _⟩ (fun H locs hM hS => ?_)
  refine W.eq (g2 := F0 m 4 ls [.int r1]) rfl ?_
  refine lv_istore_n (lv' := [(1, .int r1), (0, .ref (gA G 16 0 0))]) hx hb dX10_command_4 rfl hl (by decide) rfl (fun ls hl => ?_)
  refine lv_aload_n hx hb dX10_command_5 rfl (lv_at hl 1 rfl) ?_
  refine lv_iload_n hx hb dX10_command_6 rfl (lv_at hl 0 rfl) ?_
  refine lv_if_lt (tgt := 14) hx hb dX10_command_7 (by decide) (fun c4 => ?_) (fun c4 => ?_)
  · replace hf := ift hf c4
    refine lv_iconst (v := 0) hx hb dX10_command_14 (by decide) ?_
    exact L15 h3 r1 (0 : Int32) hf _ _ _ hM hS (lv_sub hl [1, 0] rfl)
  · replace hf := iff_ hf c4
    refine lv_iconst (v := 1) hx hb dX10_command_10 (by decide) ?_
    refine lv_goto (tgt := 15) hx hb dX10_command_11 (by decide) ?_
    exact L15 h3 r1 (1 : Int32) hf _ _ _ hM hS (lv_sub hl [1, 0] rfl)
abbrev rX10_does : Room := { frames := 8, cells := 0, slots := 0, locals := 181 }
set_option maxRecDepth 100000 in
set_option maxHeartbeats 4000000 in
theorem kX10_does (l : Launch) (G : zG) (A : Nat → Prop) (V : zV3) (h : zV2) {r : Int32} {h' : zV2} (hf : xX10_does h  = some (r, h')) : zCt l G A yX10_does cX10_does 4 (some .int) rX10_does [.ref (gA G 16 0 0)] (upG V 8 h) (some (.int r)) (upG V 8 h') := by
  refine z_CtI (by decide) (Nat.le_of_ble_eq_true rfl) ?_
  intro p e s m args below meth c Q hx hb hml hown hL hK hM hS hQ ls hl
  replace hl : lv_has ls 4 [(0, .ref (gA G 16 0 0))] := hl
  have hQf : ∀ {a : Int32} {k : zV2} {H : Heap} {locs : List Loc} {pc : Nat} {ls : Array Slot}, some (a, k) = some (r, h') → zM G (upG V 8 k) H → va_S A s.heap H locs → decode cX10_does pc = .ok (.ireturn, 1) → W p l e rX10_does s m args below meth c H locs 0 0 Q (F0 m pc ls [.int a]) := by
    intro a k H locs pc ls e1 hM hS hd
    cases e1
    exact hQ H locs pc ls hM hS hd
  have L67 : ∀ (K7 : zV2 → Int32 → Option (Int32 × zV2)), (∀ (h : zV2) (a1 : Int32), K7 h a1 = some (r, h') → ∀ (H : Heap) (locs : List Loc) (ls : Array Slot), zM G (upG V 8 h) H → va_S A s.heap H locs → lv_has ls 4 [(0, .ref (gA G 16 0 0)), (1, .int a1)] → W p l e rX10_does s m args below meth c H locs 0 0 Q (F0 m 7 ls [])) → ∀ (h : zV2) (a1 : Int32) (a2 : Int32) (s0 : Int32), xX10_does_L67 K7 h a1 a2 s0 = some (r, h') → ∀ (H : Heap) (locs : List Loc) (ls : Array Slot), zM G (upG V 8 h) H → va_S A s.heap H locs → lv_has ls 4 [(0, .ref (gA G 16 0 0)), (1, .int a1), (2, .int a2)] → W p l e rX10_does s m args below meth c H locs 0 0 Q (F0 m 67 ls [.int s0, .ref (gA G 16 0 0)]) := by
    intro K7 hK7 h a1 a2 s0 hf H locs ls hM hS hl
    unfold xX10_does_L67 at hf
    obtain ⟨h1, eh1⟩ : ∃ y, y = up2 h 11 0 s0 := ⟨_, rfl⟩
    replace hf := put2_some hf eh1
    refine z_put (own := RX10) (C := RX10) (T := TX10) (N := 12) (ci := 8) (V' := upG V 8 h1) hx hb hL inX10 tyX10 tyX10_ok nmX10 hown hK hM hS dm_16 (ze_16 G V 0 0 h) rfl 10 (by decide) (hL _ zw4_29) rfl rfl rfl rfl (Nat.le_of_ble_eq_true rfl) (by rw [eh1]; exact zn_16_11 G V h s0) dX10_does_67 (fun H locs hM hS => ?_)
    refine lv_aload_n hx hb dX10_does_70 rfl (lv_at hl 0 rfl) ?_
    refine z_get (own := RX10) (C := RX10) (T := TX10) (N := 12) (ci := 8) (v := .int (h1 10 0)) hx hb hL inX10 hown hK hM dm_16 (ze_16 G V 0 0 h1) rfl 9 (by decide) (hL _ zw4_28) rfl rfl dX10_does_71 ?_
    refine lv_if_le (tgt := 79) hx hb dX10_does_74 (by decide) (fun c2 => ?_) (fun c2 => ?_)
    · replace hf := ift hf c2
      obtain ⟨y3, ey3⟩ : ∃ y : Int32, y = a1 + (1 : Int32) := ⟨_, rfl⟩
      replace hf := ltI_some hf ey3
      refine lv_iinc (v := y3) (lv' := [(1, .int y3), (0, .ref (gA G 16 0 0)), (2, .int a2)]) hx hb dX10_does_79 hl (k := 1) rfl (by rw [ey3]; rfl) (by decide) rfl (fun ls hl => ?_)
      refine lv_goto (tgt := 7) hx hb dX10_does_82 (by decide) ?_
      exact hK7 h1 y3 hf _ _ _ hM hS (lv_sub hl [1, 0] rfl)
    · replace hf := iff_ hf c2
      refine lv_iload_n hx hb dX10_does_77 rfl (lv_at hl 2 rfl) ?_
      exact hQf hf hM hS dX10_does_78
  have L49 : ∀ (K7 : zV2 → Int32 → Option (Int32 × zV2)), (∀ (h : zV2) (a1 : Int32), K7 h a1 = some (r, h') → ∀ (H : Heap) (locs : List Loc) (ls : Array Slot), zM G (upG V 8 h) H → va_S A s.heap H locs → lv_has ls 4 [(0, .ref (gA G 16 0 0)), (1, .int a1)] → W p l e rX10_does s m args below meth c H locs 0 0 Q (F0 m 7 ls [])) → ∀ (h : zV2) (a1 : Int32) (a2 : Int32) (a3 : Int32) (s0 : Int32), xX10_does_L49 K7 h a1 a2 a3 s0 = some (r, h') → ∀ (H : Heap) (locs : List Loc) (ls : Array Slot), zM G (upG V 8 h) H → va_S A s.heap H locs → lv_has ls 4 [(0, .ref (gA G 16 0 0)), (1, .int a1), (2, .int a2), (3, .int a3)] → W p l e rX10_does s m args below meth c H locs 0 0 Q (F0 m 49 ls [.int s0, .ref (gA G 16 0 0)]) := by
    intro K7 hK7 h a1 a2 a3 s0 hf H locs ls hM hS hl
    unfold xX10_does_L49 at hf
    obtain ⟨h1, eh1⟩ : ∃ y, y = up2 h 10 0 s0 := ⟨_, rfl⟩
    replace hf := put2_some hf eh1
    refine z_put (own := RX10) (C := RX10) (T := TX10) (N := 12) (ci := 8) (V' := upG V 8 h1) hx hb hL inX10 tyX10 tyX10_ok nmX10 hown hK hM hS dm_16 (ze_16 G V 0 0 h) rfl 9 (by decide) (hL _ zw4_28) rfl rfl rfl rfl (Nat.le_of_ble_eq_true rfl) (by rw [eh1]; exact zn_16_10 G V h s0) dX10_does_49 (fun H locs hM hS => ?_)
    refine lv_aload_n hx hb dX10_does_52 rfl (lv_at hl 0 rfl) ?_
    refine lv_aload_n hx hb dX10_does_53 rfl (lv_at hl 0 rfl) ?_
    refine z_get (own := RX10) (C := RX10) (T := TX10) (N := 12) (ci := 8) (v := .int (h1 10 0)) hx hb hL inX10 hown hK hM dm_16 (ze_16 G V 0 0 h1) rfl 9 (by decide) (hL _ zw4_28) rfl rfl dX10_does_54 ?_
    refine lv_iconst (v := 2) hx hb dX10_does_57 (by decide) ?_
    refine lv_icmp_ne (tgt := 65) hx hb dX10_does_58 (by decide) (fun c2 => ?_) (fun c2 => ?_)
    · replace hf := iff_ hf c2
      refine lv_bipush (v := -4) hx hb dX10_does_65 (by decide) ?_
      exact L67 K7 hK7 h1 a1 a2 (-4 : Int32) hf _ _ _ hM hS (lv_sub hl [0, 1, 2] rfl)
    · replace hf := ift hf c2
      refine lv_iload_n hx hb dX10_does_61 rfl (lv_at hl 3 rfl) ?_
      refine lv_goto (tgt := 67) hx hb dX10_does_62 (by decide) ?_
      exact L67 K7 hK7 h1 a1 a2 a3 hf _ _ _ hM hS (lv_sub hl [0, 1, 2] rfl)
  have L7 : ∀ (n : Nat) (h : zV2) (a1 : Int32), xX10_does_L7 n h a1 = some (r, h') → ∀ (H : Heap) (locs : List Loc) (ls : Array Slot), zM G (upG V 8 h) H → va_S A s.heap H locs → lv_has ls 4 [(0, .ref (gA G 16 0 0)), (1, .int a1)] → W p l e rX10_does s m args below meth c H locs 0 0 Q (F0 m 7 ls []) := by
    intro n
    induction n with
    | zero =>
      intro h a1 hf H locs ls hM hS hl
      rw [xX10_does_L7] at hf
      cases hf
    | succ n ih =>
      intro h a1 hf H locs ls hM hS hl
      rw [xX10_does_L7] at hf
      refine lv_aload_n hx hb dX10_does_7 rfl (lv_at hl 0 rfl) ?_
      refine z_get (own := RX10) (C := RX10) (T := TX10) (N := 12) (ci := 8) (v := .int (h 8 0)) hx hb hL inX10 hown hK hM dm_16 (ze_16 G V 0 0 h) rfl 7 (by decide) (hL _ zw4_26) rfl rfl dX10_does_8 ?_
      refine lv_aload_n hx hb dX10_does_11 rfl (lv_at hl 0 rfl) ?_
      refine z_get (own := RX10) (C := RX10) (T := TX10) (N := 12) (ci := 8) (v := .int (h 7 0)) hx hb hL inX10 hown hK hM dm_16 (ze_16 G V 0 0 h) rfl 6 (by decide) (hL _ zw4_25) rfl rfl dX10_does_12 ?_
      refine lv_icmp_ge (tgt := 85) hx hb dX10_does_15 (by decide) (fun c1 => ?_) (fun c1 => ?_)
      · replace hf := ift hf c1
        refine lv_iconst (v := -1) hx hb dX10_does_85 (by decide) ?_
        refine lv_iload_n hx hb dX10_does_86 rfl (lv_at hl 1 rfl) ?_
        refine lv_isub hx hb dX10_does_87 ?_
        exact hQf hf hM hS dX10_does_88
      · replace hf := iff_ hf c1
        refine lv_aload_n hx hb dX10_does_18 rfl (lv_at hl 0 rfl) ?_
        refine z_get (own := RX10) (C := RX10) (T := TX10) (N := 12) (ci := 8) (v := .int (h 8 0)) hx hb hL inX10 hown hK hM dm_16 (ze_16 G V 0 0 h) rfl 7 (by decide) (hL _ zw4_26) rfl rfl dX10_does_19 ?_
        refine lv_topi (fun y2 ey2 => ?_)
        replace hf := ltI_some hf ey2
        refine lv_istore_n (lv' := [(2, .int y2), (0, .ref (gA G 16 0 0)), (1, .int a1)]) hx hb dX10_does_22 rfl hl (by decide) rfl (fun ls hl => ?_)
        refine lv_aload_n hx hb dX10_does_23 rfl (lv_at hl 1 rfl) ?_
        obtain ⟨r3, h5, hc4, hf⟩ := bnd_some hf
        refine z_callV (As := []) (rest := []) (C := RX10) hx hb hml hown hL hK hM hS (kX10_command l G A V h hc4) (zg_X10_command zw5_148) zv_X10_command ⟨rfl, rfl⟩ ⟨Nat.le_of_ble_eq_true rfl, Nat.le_of_ble_eq_true rfl⟩ (hM.recv hK dm_16 (ze_16 G V 0 0 h) rfl) rfl hl.1 rfl (Nat.le_of_ble_eq_true rfl) dX10_does_24 ⟨Nat.zero_le _, Nat.zero_le _⟩ (fun H locs hM hS => ?_)
        refine W.eq (g2 := F0 m 27 ls [.int r3]) rfl ?_
        refine lv_istore_n (lv' := [(3, .int r3), (2, .int y2), (0, .ref (gA G 16 0 0)), (1, .int a1)]) hx hb dX10_does_27 rfl hl (by decide) rfl (fun ls hl => ?_)
        refine lv_aload_n hx hb dX10_does_28 rfl (lv_at hl 2 rfl) ?_
        refine lv_aload_n hx hb dX10_does_29 rfl (lv_at hl 2 rfl) ?_
        refine z_get (own := RX10) (C := RX10) (T := TX10) (N := 12) (ci := 8) (v := .int (h5 9 0)) hx hb hL inX10 hown hK hM dm_16 (ze_16 G V 0 0 h5) rfl 8 (by decide) (hL _ zw4_27) rfl rfl dX10_does_30 ?_
        refine lv_if_ne (tgt := 40) hx hb dX10_does_33 (by decide) (fun c6 => ?_) (fun c6 => ?_)
        · replace hf := iff_ hf c6
          refine lv_iload_n hx hb dX10_does_40 rfl (lv_at hl 0 rfl) ?_
          refine lv_if_ge (tgt := 48) hx hb dX10_does_41 (by decide) (fun c7 => ?_) (fun c7 => ?_)
          · replace hf := ift hf c7
            refine lv_iconst (v := 0) hx hb dX10_does_48 (by decide) ?_
            exact L49 _ ih h5 a1 y2 r3 (0 : Int32) hf _ _ _ hM hS (lv_sub hl [2, 3, 1, 0] rfl)
          · replace hf := iff_ hf c7
            refine lv_iconst (v := 2) hx hb dX10_does_44 (by decide) ?_
            refine lv_goto (tgt := 49) hx hb dX10_does_45 (by decide) ?_
            exact L49 _ ih h5 a1 y2 r3 (2 : Int32) hf _ _ _ hM hS (lv_sub hl [2, 3, 1, 0] rfl)
        · replace hf := ift hf c6
          refine lv_iconst (v := 1) hx hb dX10_does_36 (by decide) ?_
          refine lv_goto (tgt := 49) hx hb dX10_does_37 (by decide) ?_
          exact L49 _ ih h5 a1 y2 r3 (1 : Int32) hf _ _ _ hM hS (lv_sub hl [2, 3, 1, 0] rfl)
  unfold xX10_does at hf
  refine lv_aload_n hx hb dX10_does_0 rfl (lv_at hl 0 rfl) ?_
  refine lv_iconst (v := 0) hx hb dX10_does_1 (by decide) ?_
  obtain ⟨h1, eh1⟩ : ∃ y, y = up2 h 8 0 (0 : Int32) := ⟨_, rfl⟩
  replace hf := put2_some hf eh1
  refine z_put (own := RX10) (C := RX10) (T := TX10) (N := 12) (ci := 8) (V' := upG V 8 h1) hx hb hL inX10 tyX10 tyX10_ok nmX10 hown hK hM hS dm_16 (ze_16 G V 0 0 h) rfl 7 (by decide) (hL _ zw4_26) rfl rfl rfl rfl (Nat.le_of_ble_eq_true rfl) (by rw [eh1]; exact zn_16_8 G V h (0 : Int32)) dX10_does_2 (fun H locs hM hS => ?_)
  refine lv_iconst (v := 0) hx hb dX10_does_5 (by decide) ?_
  refine lv_istore_n (lv' := [(1, .int (0 : Int32)), (0, .ref (gA G 16 0 0))]) hx hb dX10_does_6 rfl hl (by decide) rfl (fun ls hl => ?_)
  exact L7 1000 h1 (0 : Int32) hf _ _ _ hM hS (lv_sub hl [1, 0] rfl)
abbrev rX10_fault : Room := { frames := 9, cells := 0, slots := 0, locals := 204 }
set_option maxRecDepth 100000 in
set_option maxHeartbeats 4000000 in
theorem kX10_fault (l : Launch) (G : zG) (A : Nat → Prop) (V : zV3) (h : zV2) (p1 : Int32) {r : Int32} {h' : zV2} (hf : xX10_fault h p1 = some (r, h')) : zCt l G A yX10_fault cX10_fault 3 (some .int) rX10_fault [.ref (gA G 16 0 0), .int p1] (upG V 8 h) (some (.int r)) (upG V 8 h') := by
  refine z_CtI (by decide) (Nat.le_of_ble_eq_true rfl) ?_
  intro p e s m args below meth c Q hx hb hml hown hL hK hM hS hQ ls hl
  replace hl : lv_has ls 3 [(0, .ref (gA G 16 0 0)), (1, .int p1)] := hl
  have hQf : ∀ {a : Int32} {k : zV2} {H : Heap} {locs : List Loc} {pc : Nat} {ls : Array Slot}, some (a, k) = some (r, h') → zM G (upG V 8 k) H → va_S A s.heap H locs → decode cX10_fault pc = .ok (.ireturn, 1) → W p l e rX10_fault s m args below meth c H locs 0 0 Q (F0 m pc ls [.int a]) := by
    intro a k H locs pc ls e1 hM hS hd
    cases e1
    exact hQ H locs pc ls hM hS hd
  unfold xX10_fault at hf
  refine lv_iload_n hx hb dX10_fault_0 rfl (lv_at hl 1 rfl) ?_
  refine lv_iconst (v := 0) hx hb dX10_fault_1 (by decide) ?_
  refine lv_iconst (v := 2) hx hb dX10_fault_2 (by decide) ?_
  obtain ⟨r1, h3, hc2, hf⟩ := bnd_some hf
  refine z_callS (As := [.int p1, .int (0 : Int32), .int (2 : Int32)]) (rest := []) hx hb hml hown hL hK hM hS (kX10_in l G A V h p1 (0 : Int32) (2 : Int32) hc2) (zg_X10_in zw4_68) zy_X10_in ⟨rfl, rfl⟩ ⟨Nat.le_of_ble_eq_true rfl, Nat.le_of_ble_eq_true rfl⟩ rfl hl.1 rfl (Nat.le_of_ble_eq_true rfl) dX10_fault_3 ⟨Nat.zero_le _, Nat.zero_le _⟩ (fun H locs hM hS => ?_)
  refine W.eq (g2 := F0 m 6 ls [.int r1]) rfl ?_
  refine lv_if_ne (tgt := 11) hx hb dX10_fault_6 (by decide) (fun c4 => ?_) (fun c4 => ?_)
  · replace hf := iff_ hf c4
    refine lv_aload_n hx hb dX10_fault_11 rfl (lv_at hl 0 rfl) ?_
    obtain ⟨r5, h7, hc6, hf⟩ := bnd_some hf
    refine z_callV (As := []) (rest := []) (C := RX10) hx hb hml hown hL hK hM hS (kX10_layAside l G A V h3 hc6) (zg_X10_layAside zw5_87) zv_X10_layAside ⟨rfl, rfl⟩ ⟨Nat.le_of_ble_eq_true rfl, Nat.le_of_ble_eq_true rfl⟩ (hM.recv hK dm_16 (ze_16 G V 0 0 h3) rfl) rfl hl.1 rfl (Nat.le_of_ble_eq_true rfl) dX10_fault_12 ⟨Nat.zero_le _, Nat.zero_le _⟩ (fun H locs hM hS => ?_)
    refine W.eq (g2 := F0 m 15 ls []) rfl ?_
    refine lv_aload_n hx hb dX10_fault_15 rfl (lv_at hl 0 rfl) ?_
    obtain ⟨r8, h10, hc9, hf⟩ := bnd_some hf
    refine z_callV (As := []) (rest := []) (C := RX10) hx hb hml hown hL hK hM hS (kX10_does l G A V h7 hc9) (zg_X10_does zw5_144) zv_X10_does ⟨rfl, rfl⟩ ⟨Nat.le_of_ble_eq_true rfl, Nat.le_of_ble_eq_true rfl⟩ (hM.recv hK dm_16 (ze_16 G V 0 0 h7) rfl) rfl hl.1 rfl (Nat.le_of_ble_eq_true rfl) dX10_fault_16 ⟨Nat.zero_le _, Nat.zero_le _⟩ (fun H locs hM hS => ?_)
    refine W.eq (g2 := F0 m 19 ls [.int r8]) rfl ?_
    refine lv_istore_n (lv' := [(2, .int r8), (0, .ref (gA G 16 0 0)), (1, .int p1)]) hx hb dX10_fault_19 rfl hl (by decide) rfl (fun ls hl => ?_)
    refine lv_aload_n hx hb dX10_fault_20 rfl (lv_at hl 1 rfl) ?_
    obtain ⟨r11, h13, hc12, hf⟩ := bnd_some hf
    refine z_callV (As := []) (rest := []) (C := RX10) hx hb hml hown hL hK hM hS (kX10_bringBack l G A V h10 hc12) (zg_X10_bringBack zw5_91) zv_X10_bringBack ⟨rfl, rfl⟩ ⟨Nat.le_of_ble_eq_true rfl, Nat.le_of_ble_eq_true rfl⟩ (hM.recv hK dm_16 (ze_16 G V 0 0 h10) rfl) rfl hl.1 rfl (Nat.le_of_ble_eq_true rfl) dX10_fault_21 ⟨Nat.zero_le _, Nat.zero_le _⟩ (fun H locs hM hS => ?_)
    refine W.eq (g2 := F0 m 24 ls []) rfl ?_
    refine lv_iload_n hx hb dX10_fault_24 rfl (lv_at hl 0 rfl) ?_
    refine lv_if_ge (tgt := 31) hx hb dX10_fault_25 (by decide) (fun c14 => ?_) (fun c14 => ?_)
    · replace hf := ift hf c14
      refine lv_iload_n hx hb dX10_fault_31 rfl (lv_at hl 2 rfl) ?_
      refine lv_if_ne (tgt := 39) hx hb dX10_fault_32 (by decide) (fun c15 => ?_) (fun c15 => ?_)
      · replace hf := iff_ hf c15
        refine lv_iload_n hx hb dX10_fault_39 rfl (lv_at hl 2 rfl) ?_
        refine lv_iconst (v := 1) hx hb dX10_fault_40 (by decide) ?_
        refine lv_icmp_ne (tgt := 51) hx hb dX10_fault_41 (by decide) (fun c16 => ?_) (fun c16 => ?_)
        · replace hf := iff_ hf c16
          refine lv_aload_n hx hb dX10_fault_51 rfl (lv_at hl 1 rfl) ?_
          refine z_get (own := RX10) (C := RX10) (T := TX10) (N := 12) (ci := 8) (v := .int (h13 11 0)) hx hb hL inX10 hown hK hM dm_16 (ze_16 G V 0 0 h13) rfl 10 (by decide) (hL _ zw4_29) rfl rfl dX10_fault_52 ?_
          exact hQf hf hM hS dX10_fault_55
        · replace hf := ift hf c16
          refine lv_aload_n hx hb dX10_fault_44 rfl (lv_at hl 1 rfl) ?_
          refine z_get (own := RX10) (C := RX10) (T := TX10) (N := 12) (ci := 8) (v := .int (h13 10 0)) hx hb hL inX10 hown hK hM dm_16 (ze_16 G V 0 0 h13) rfl 9 (by decide) (hL _ zw4_28) rfl rfl dX10_fault_45 ?_
          refine lv_goto (tgt := 55) hx hb dX10_fault_48 (by decide) ?_
          exact hQf hf hM hS dX10_fault_55
      · replace hf := ift hf c15
        refine lv_iload_n hx hb dX10_fault_35 rfl (lv_at hl 0 rfl) ?_
        refine lv_goto (tgt := 55) hx hb dX10_fault_36 (by decide) ?_
        exact hQf hf hM hS dX10_fault_55
    · replace hf := iff_ hf c14
      refine lv_bipush (v := -4) hx hb dX10_fault_28 (by decide) ?_
      exact hQf hf hM hS dX10_fault_30
  · replace hf := ift hf c4
    refine lv_iconst (v := -1) hx hb dX10_fault_9 (by decide) ?_
    exact hQf hf hM hS dX10_fault_10
abbrev rX10_play : Room := { frames := 9, cells := 0, slots := 0, locals := 204 }
set_option maxRecDepth 100000 in
set_option maxHeartbeats 4000000 in
theorem kX10_play (l : Launch) (G : zG) (A : Nat → Prop) (V : zV3) (h : zV2) {r : Int32} {h' : zV2} (hf : xX10_play h  = some (r, h')) : zCt l G A yX10_play cX10_play 2 (some .int) rX10_play [.ref (gA G 16 0 0)] (upG V 8 h) (some (.int r)) (upG V 8 h') := by
  refine z_CtI (by decide) (Nat.le_of_ble_eq_true rfl) ?_
  intro p e s m args below meth c Q hx hb hml hown hL hK hM hS hQ ls hl
  replace hl : lv_has ls 2 [(0, .ref (gA G 16 0 0))] := hl
  have hQf : ∀ {a : Int32} {k : zV2} {H : Heap} {locs : List Loc} {pc : Nat} {ls : Array Slot}, some (a, k) = some (r, h') → zM G (upG V 8 k) H → va_S A s.heap H locs → decode cX10_play pc = .ok (.ireturn, 1) → W p l e rX10_play s m args below meth c H locs 0 0 Q (F0 m pc ls [.int a]) := by
    intro a k H locs pc ls e1 hM hS hd
    cases e1
    exact hQ H locs pc ls hM hS hd
  unfold xX10_play at hf
  refine lv_aload_n hx hb dX10_play_0 rfl (lv_at hl 0 rfl) ?_
  obtain ⟨r1, h3, hc2, hf⟩ := bnd_some hf
  refine z_callV (As := []) (rest := []) (C := RX10) hx hb hml hown hL hK hM hS (kX10_begins l G A V h hc2) (zg_X10_begins zw4_60) zv_X10_begins ⟨rfl, rfl⟩ ⟨Nat.le_of_ble_eq_true rfl, Nat.le_of_ble_eq_true rfl⟩ (hM.recv hK dm_16 (ze_16 G V 0 0 h) rfl) rfl hl.1 rfl (Nat.le_of_ble_eq_true rfl) dX10_play_1 ⟨Nat.zero_le _, Nat.zero_le _⟩ (fun H locs hM hS => ?_)
  refine W.eq (g2 := F0 m 4 ls []) rfl ?_
  refine lv_aload_n hx hb dX10_play_4 rfl (lv_at hl 0 rfl) ?_
  obtain ⟨r4, h6, hc5, hf⟩ := bnd_some hf
  refine z_callV (As := []) (rest := []) (C := RX10) hx hb hml hown hL hK hM hS (kX10_layAside l G A V h3 hc5) (zg_X10_layAside zw5_87) zv_X10_layAside ⟨rfl, rfl⟩ ⟨Nat.le_of_ble_eq_true rfl, Nat.le_of_ble_eq_true rfl⟩ (hM.recv hK dm_16 (ze_16 G V 0 0 h3) rfl) rfl hl.1 rfl (Nat.le_of_ble_eq_true rfl) dX10_play_5 ⟨Nat.zero_le _, Nat.zero_le _⟩ (fun H locs hM hS => ?_)
  refine W.eq (g2 := F0 m 8 ls []) rfl ?_
  refine lv_aload_n hx hb dX10_play_8 rfl (lv_at hl 0 rfl) ?_
  obtain ⟨r7, h9, hc8, hf⟩ := bnd_some hf
  refine z_callV (As := []) (rest := []) (C := RX10) hx hb hml hown hL hK hM hS (kX10_does l G A V h6 hc8) (zg_X10_does zw5_144) zv_X10_does ⟨rfl, rfl⟩ ⟨Nat.le_of_ble_eq_true rfl, Nat.le_of_ble_eq_true rfl⟩ (hM.recv hK dm_16 (ze_16 G V 0 0 h6) rfl) rfl hl.1 rfl (Nat.le_of_ble_eq_true rfl) dX10_play_9 ⟨Nat.zero_le _, Nat.zero_le _⟩ (fun H locs hM hS => ?_)
  refine W.eq (g2 := F0 m 12 ls [.int r7]) rfl ?_
  refine lv_istore_n (lv' := [(1, .int r7), (0, .ref (gA G 16 0 0))]) hx hb dX10_play_12 rfl hl (by decide) rfl (fun ls hl => ?_)
  refine lv_iload_n hx hb dX10_play_13 rfl (lv_at hl 0 rfl) ?_
  refine lv_if_lt (tgt := 24) hx hb dX10_play_14 (by decide) (fun c10 => ?_) (fun c10 => ?_)
  · replace hf := ift hf c10
    refine lv_aload_n hx hb dX10_play_24 rfl (lv_at hl 1 rfl) ?_
    refine lv_iconst (v := -1) hx hb dX10_play_25 (by decide) ?_
    refine lv_iload_n hx hb dX10_play_26 rfl (lv_at hl 0 rfl) ?_
    refine lv_isub hx hb dX10_play_27 ?_
    obtain ⟨r11, h13, hc12, hf⟩ := bnd_some hf
    refine z_callV (As := [.int ((-1 : Int32) - r7)]) (rest := []) (C := RX10) hx hb hml hown hL hK hM hS (kX10_acted l G A V h9 ((-1 : Int32) - r7) hc12) (zg_X10_acted zw4_75) zv_X10_acted ⟨rfl, rfl⟩ ⟨Nat.le_of_ble_eq_true rfl, Nat.le_of_ble_eq_true rfl⟩ (hM.recv hK dm_16 (ze_16 G V 0 0 h9) rfl) rfl hl.1 rfl (Nat.le_of_ble_eq_true rfl) dX10_play_28 ⟨Nat.zero_le _, Nat.zero_le _⟩ (fun H locs hM hS => ?_)
    refine W.eq (g2 := F0 m 31 ls [.int r11]) rfl ?_
    exact hQf hf hM hS dX10_play_31
  · replace hf := iff_ hf c10
    refine lv_aload_n hx hb dX10_play_17 rfl (lv_at hl 1 rfl) ?_
    obtain ⟨r14, h16, hc15, hf⟩ := bnd_some hf
    refine z_callV (As := []) (rest := []) (C := RX10) hx hb hml hown hL hK hM hS (kX10_bringBack l G A V h9 hc15) (zg_X10_bringBack zw5_91) zv_X10_bringBack ⟨rfl, rfl⟩ ⟨Nat.le_of_ble_eq_true rfl, Nat.le_of_ble_eq_true rfl⟩ (hM.recv hK dm_16 (ze_16 G V 0 0 h9) rfl) rfl hl.1 rfl (Nat.le_of_ble_eq_true rfl) dX10_play_18 ⟨Nat.zero_le _, Nat.zero_le _⟩ (fun H locs hM hS => ?_)
    refine W.eq (g2 := F0 m 21 ls []) rfl ?_
    refine lv_bipush (v := -2) hx hb dX10_play_21 (by decide) ?_
    exact hQf hf hM hS dX10_play_23
