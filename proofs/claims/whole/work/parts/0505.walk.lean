abbrev rX6_noteFault : Room := { frames := 0, cells := 0, slots := 0, locals := 0 }
set_option maxRecDepth 100000 in
set_option maxHeartbeats 4000000 in
theorem kX6_noteFault (l : Launch) (G : zG) (A : Nat → Prop) (V : zV3) (h : zV2) (p1 : Int32) (p2 : Int32) (p3 : Int32) {r : Unit} {h' : zV2} (hf : xX6_noteFault h p1 p2 p3 = some (r, h')) : zCt l G A yX6_noteFault cX6_noteFault 4 none rX6_noteFault [.ref (gA G 15 0 0), .int p1, .int p2, .int p3] (upG V 7 h) none (upG V 7 h') := by
  refine z_CtV (by decide) (Nat.le_of_ble_eq_true rfl) ?_
  intro p e s m args below meth c Q hx hb hml hown hL hK hM hS hQ ls hl
  replace hl : lv_has ls 4 [(0, .ref (gA G 15 0 0)), (1, .int p1), (2, .int p2), (3, .int p3)] := hl
  have hQf : ∀ {a : Unit} {k : zV2} {H : Heap} {locs : List Loc} {pc : Nat} {ls : Array Slot}, some (a, k) = some (r, h') → zM G (upG V 7 k) H → va_S A s.heap H locs → decode cX6_noteFault pc = .ok (.return_, 1) → W p l e rX6_noteFault s m args below meth c H locs 0 0 Q (F0 m pc ls []) := by
    intro a k H locs pc ls e1 hM hS hd
    cases e1
    exact hQ H locs pc ls hM hS hd
  unfold xX6_noteFault at hf
  refine lv_aload_n hx hb dX6_noteFault_0 rfl (lv_at hl 0 rfl) ?_
  refine lv_iload_n hx hb dX6_noteFault_1 rfl (lv_at hl 1 rfl) ?_
  obtain ⟨h1, eh1⟩ : ∃ y, y = up2 h 8 0 p1 := ⟨_, rfl⟩
  replace hf := put2_some hf eh1
  refine z_put (own := RX6) (C := RX6) (T := TX6) (N := 5) (ci := 5) (V' := upG V 7 h1) hx hb hL inX6 tyX6 tyX6_ok nmX6 hown hK hM hS dm_15 (ze_15 G V 0 0 h) rfl 1 (by decide) (hL _ zw1_222) rfl rfl rfl rfl (Nat.le_of_ble_eq_true rfl) (by rw [eh1]; exact zn_15_8 G V h p1) dX6_noteFault_2 (fun H locs hM hS => ?_)
  refine lv_aload_n hx hb dX6_noteFault_5 rfl (lv_at hl 0 rfl) ?_
  refine lv_iload_n hx hb dX6_noteFault_6 rfl (lv_at hl 2 rfl) ?_
  obtain ⟨h2, eh2⟩ : ∃ y, y = up2 h1 9 0 p2 := ⟨_, rfl⟩
  replace hf := put2_some hf eh2
  refine z_put (own := RX6) (C := RX6) (T := TX6) (N := 5) (ci := 5) (V' := upG V 7 h2) hx hb hL inX6 tyX6 tyX6_ok nmX6 hown hK hM hS dm_15 (ze_15 G V 0 0 h1) rfl 2 (by decide) (hL _ zw1_224) rfl rfl rfl rfl (Nat.le_of_ble_eq_true rfl) (by rw [eh2]; exact zn_15_9 G V h1 p2) dX6_noteFault_7 (fun H locs hM hS => ?_)
  refine lv_aload_n hx hb dX6_noteFault_10 rfl (lv_at hl 0 rfl) ?_
  refine lv_iload_n hx hb dX6_noteFault_11 rfl (lv_at hl 3 rfl) ?_
  obtain ⟨h3, eh3⟩ : ∃ y, y = up2 h2 10 0 p3 := ⟨_, rfl⟩
  replace hf := put2_some hf eh3
  refine z_put (own := RX6) (C := RX6) (T := TX6) (N := 5) (ci := 5) (V' := upG V 7 h3) hx hb hL inX6 tyX6 tyX6_ok nmX6 hown hK hM hS dm_15 (ze_15 G V 0 0 h2) rfl 3 (by decide) (hL _ zw1_226) rfl rfl rfl rfl (Nat.le_of_ble_eq_true rfl) (by rw [eh3]; exact zn_15_10 G V h2 p3) dX6_noteFault_12 (fun H locs hM hS => ?_)
  exact hQf hf hM hS dX6_noteFault_15
abbrev rX7_append : Room := { frames := 0, cells := 0, slots := 0, locals := 0 }
set_option maxRecDepth 100000 in
set_option maxHeartbeats 4000000 in
theorem kX7_append (l : Launch) (G : zG) (A : Nat → Prop) (V : zV3) (h : zV2) (p1 : Int32) {r : Int32} {h' : zV2} (hf : xX7_append h p1 = some (r, h')) : zCt l G A yX7_append cX7_append 2 (some .int) rX7_append [.ref (gA G 13 0 0), .int p1] (upG V 7 h) (some (.int r)) (upG V 7 h') := by
  refine z_CtI (by decide) (Nat.le_of_ble_eq_true rfl) ?_
  intro p e s m args below meth c Q hx hb hml hown hL hK hM hS hQ ls hl
  replace hl : lv_has ls 2 [(0, .ref (gA G 13 0 0)), (1, .int p1)] := hl
  have hQf : ∀ {a : Int32} {k : zV2} {H : Heap} {locs : List Loc} {pc : Nat} {ls : Array Slot}, some (a, k) = some (r, h') → zM G (upG V 7 k) H → va_S A s.heap H locs → decode cX7_append pc = .ok (.ireturn, 1) → W p l e rX7_append s m args below meth c H locs 0 0 Q (F0 m pc ls [.int a]) := by
    intro a k H locs pc ls e1 hM hS hd
    cases e1
    exact hQ H locs pc ls hM hS hd
  unfold xX7_append at hf
  refine lv_iload_n hx hb dX7_append_0 rfl (lv_at hl 1 rfl) ?_
  refine lv_bipush (v := 32) hx hb dX7_append_1 (by decide) ?_
  refine lv_icmp_lt (tgt := 12) hx hb dX7_append_3 (by decide) (fun c1 => ?_) (fun c1 => ?_)
  · replace hf := ift hf c1
    refine lv_iconst (v := -1) hx hb dX7_append_12 (by decide) ?_
    exact hQf hf hM hS dX7_append_13
  · replace hf := iff_ hf c1
    refine lv_iload_n hx hb dX7_append_6 rfl (lv_at hl 1 rfl) ?_
    refine lv_bipush (v := 126) hx hb dX7_append_7 (by decide) ?_
    refine lv_icmp_le (tgt := 14) hx hb dX7_append_9 (by decide) (fun c2 => ?_) (fun c2 => ?_)
    · replace hf := ift hf c2
      refine lv_aload_n hx hb dX7_append_14 rfl (lv_at hl 0 rfl) ?_
      refine z_get (own := RX7) (C := RX7) (T := TX7) (N := 6) (ci := 6) (v := .int (h 3 0)) hx hb hL inX7 hown hK hM dm_13 (ze_13 G V 0 0 h) rfl 1 (by decide) (hL _ zw1_187) rfl rfl dX7_append_15 ?_
      refine lv_bipush (v := 80) hx hb dX7_append_18 (by decide) ?_
      refine lv_icmp_lt (tgt := 26) hx hb dX7_append_20 (by decide) (fun c3 => ?_) (fun c3 => ?_)
      · replace hf := ift hf c3
        refine lv_aload_n hx hb dX7_append_26 rfl (lv_at hl 0 rfl) ?_
        refine z_get (own := RX7) (C := RX7) (T := TX7) (N := 6) (ci := 6) (v := .ref (gA G 14 0 0)) hx hb hL inX7 hown hK hM dm_13 (ze_13 G V 0 0 h) rfl 0 (by decide) (hL _ zw1_186) rfl rfl dX7_append_27 ?_
        refine lv_aload_n hx hb dX7_append_30 rfl (lv_at hl 0 rfl) ?_
        refine z_get (own := RX7) (C := RX7) (T := TX7) (N := 6) (ci := 6) (v := .int (h 3 0)) hx hb hL inX7 hown hK hM dm_13 (ze_13 G V 0 0 h) rfl 1 (by decide) (hL _ zw1_187) rfl rfl dX7_append_31 ?_
        refine lv_iload_n hx hb dX7_append_34 rfl (lv_at hl 1 rfl) ?_
        refine lv_i2c (v := (p1.toUInt32 % 65536).toInt32) hx hb dX7_append_35 rfl ?_
        obtain ⟨hb4, hf⟩ := grd_some hf
        obtain ⟨h5, eh5⟩ : ∃ y, y = up2 h 2 ((h 3 0).toNatClampNeg) (vp_nar .char ((p1.toUInt32 % 65536).toInt32)) := ⟨_, rfl⟩
        replace hf := put2_some hf eh5
        refine z_cast (V' := upG V 7 h5) hx hb hK hM hS dm_14 (ze_14 G V 0 0 h) (inb_in hb4) (by rw [eh5]; exact zn_14_2 G V h ((h 3 0).toNatClampNeg) (vp_nar .char ((p1.toUInt32 % 65536).toInt32))) dX7_append_36 (fun H locs hM hS => ?_)
        refine lv_aload_n hx hb dX7_append_37 rfl (lv_at hl 0 rfl) ?_
        refine lv_dup hx hb dX7_append_38 rfl ?_
        refine z_get (own := RX7) (C := RX7) (T := TX7) (N := 6) (ci := 6) (v := .int (h5 3 0)) hx hb hL inX7 hown hK hM dm_13 (ze_13 G V 0 0 h5) rfl 1 (by decide) (hL _ zw1_187) rfl rfl dX7_append_39 ?_
        refine lv_iconst (v := 1) hx hb dX7_append_42 (by decide) ?_
        refine lv_iadd hx hb dX7_append_43 ?_
        obtain ⟨h6, eh6⟩ : ∃ y, y = up2 h5 3 0 ((h5 3 0) + (1 : Int32)) := ⟨_, rfl⟩
        replace hf := put2_some hf eh6
        refine z_put (own := RX7) (C := RX7) (T := TX7) (N := 6) (ci := 6) (V' := upG V 7 h6) hx hb hL inX7 tyX7 tyX7_ok nmX7 hown hK hM hS dm_13 (ze_13 G V 0 0 h5) rfl 1 (by decide) (hL _ zw1_187) rfl rfl rfl rfl (Nat.le_of_ble_eq_true rfl) (by rw [eh6]; exact zn_13_3 G V h5 ((h5 3 0) + (1 : Int32))) dX7_append_44 (fun H locs hM hS => ?_)
        refine lv_aload_n hx hb dX7_append_47 rfl (lv_at hl 0 rfl) ?_
        refine z_get (own := RX7) (C := RX7) (T := TX7) (N := 6) (ci := 6) (v := .int (h6 3 0)) hx hb hL inX7 hown hK hM dm_13 (ze_13 G V 0 0 h6) rfl 1 (by decide) (hL _ zw1_187) rfl rfl dX7_append_48 ?_
        exact hQf hf hM hS dX7_append_51
      · replace hf := iff_ hf c3
        refine lv_bipush (v := -3) hx hb dX7_append_23 (by decide) ?_
        exact hQf hf hM hS dX7_append_25
    · replace hf := iff_ hf c2
      refine lv_iconst (v := -1) hx hb dX7_append_12 (by decide) ?_
      exact hQf hf hM hS dX7_append_13
abbrev rX7_clear : Room := { frames := 0, cells := 0, slots := 0, locals := 0 }
set_option maxRecDepth 100000 in
set_option maxHeartbeats 4000000 in
theorem kX7_clear (l : Launch) (G : zG) (A : Nat → Prop) (V : zV3) (h : zV2) {r : Int32} {h' : zV2} (hf : xX7_clear h  = some (r, h')) : zCt l G A yX7_clear cX7_clear 2 (some .int) rX7_clear [.ref (gA G 13 0 0)] (upG V 7 h) (some (.int r)) (upG V 7 h') := by
  refine z_CtI (by decide) (Nat.le_of_ble_eq_true rfl) ?_
  intro p e s m args below meth c Q hx hb hml hown hL hK hM hS hQ ls hl
  replace hl : lv_has ls 2 [(0, .ref (gA G 13 0 0))] := hl
  have hQf : ∀ {a : Int32} {k : zV2} {H : Heap} {locs : List Loc} {pc : Nat} {ls : Array Slot}, some (a, k) = some (r, h') → zM G (upG V 7 k) H → va_S A s.heap H locs → decode cX7_clear pc = .ok (.ireturn, 1) → W p l e rX7_clear s m args below meth c H locs 0 0 Q (F0 m pc ls [.int a]) := by
    intro a k H locs pc ls e1 hM hS hd
    cases e1
    exact hQ H locs pc ls hM hS hd
  unfold xX7_clear at hf
  refine lv_aload_n hx hb dX7_clear_0 rfl (lv_at hl 0 rfl) ?_
  refine z_get (own := RX7) (C := RX7) (T := TX7) (N := 6) (ci := 6) (v := .int (h 3 0)) hx hb hL inX7 hown hK hM dm_13 (ze_13 G V 0 0 h) rfl 1 (by decide) (hL _ zw1_187) rfl rfl dX7_clear_1 ?_
  refine lv_topi (fun y1 ey1 => ?_)
  replace hf := ltI_some hf ey1
  refine lv_istore_n (lv' := [(1, .int y1), (0, .ref (gA G 13 0 0))]) hx hb dX7_clear_4 rfl hl (by decide) rfl (fun ls hl => ?_)
  refine lv_aload_n hx hb dX7_clear_5 rfl (lv_at hl 1 rfl) ?_
  refine lv_iconst (v := 0) hx hb dX7_clear_6 (by decide) ?_
  obtain ⟨h2, eh2⟩ : ∃ y, y = up2 h 3 0 (0 : Int32) := ⟨_, rfl⟩
  replace hf := put2_some hf eh2
  refine z_put (own := RX7) (C := RX7) (T := TX7) (N := 6) (ci := 6) (V' := upG V 7 h2) hx hb hL inX7 tyX7 tyX7_ok nmX7 hown hK hM hS dm_13 (ze_13 G V 0 0 h) rfl 1 (by decide) (hL _ zw1_187) rfl rfl rfl rfl (Nat.le_of_ble_eq_true rfl) (by rw [eh2]; exact zn_13_3 G V h (0 : Int32)) dX7_clear_7 (fun H locs hM hS => ?_)
  refine lv_iload_n hx hb dX7_clear_10 rfl (lv_at hl 0 rfl) ?_
  exact hQf hf hM hS dX7_clear_11
abbrev rX7_signAt : Room := { frames := 0, cells := 0, slots := 0, locals := 0 }
set_option maxRecDepth 100000 in
set_option maxHeartbeats 4000000 in
theorem kX7_signAt (l : Launch) (G : zG) (A : Nat → Prop) (V : zV3) (h : zV2) (p1 : Int32) {r : Int32} {h' : zV2} (hf : xX7_signAt h p1 = some (r, h')) : zCt l G A yX7_signAt cX7_signAt 2 (some .char) rX7_signAt [.ref (gA G 13 0 0), .int p1] (upG V 7 h) (some (.int r)) (upG V 7 h') := by
  refine z_CtZ (by decide) (Nat.le_of_ble_eq_true rfl) ?_
  intro p e s m args below meth c Q hx hb hml hown hL hK hM hS hQ ls hl
  replace hl : lv_has ls 2 [(0, .ref (gA G 13 0 0)), (1, .int p1)] := hl
  have hQf : ∀ {a : Int32} {k : zV2} {H : Heap} {locs : List Loc} {pc : Nat} {ls : Array Slot}, narrow .char (.int a) = .int a → some (a, k) = some (r, h') → zM G (upG V 7 k) H → va_S A s.heap H locs → decode cX7_signAt pc = .ok (.ireturn, 1) → W p l e rX7_signAt s m args below meth c H locs 0 0 Q (F0 m pc ls [.int a]) := by
    intro a k H locs pc ls hnr e1 hM hS hd
    cases e1
    exact hQ H locs pc ls hnr hM hS hd
  unfold xX7_signAt at hf
  refine lv_iload_n hx hb dX7_signAt_0 rfl (lv_at hl 1 rfl) ?_
  refine lv_if_lt (tgt := 27) hx hb dX7_signAt_1 (by decide) (fun c1 => ?_) (fun c1 => ?_)
  · replace hf := ift hf c1
    refine lv_iconst (v := 0) hx hb dX7_signAt_27 (by decide) ?_
    exact hQf rfl hf hM hS dX7_signAt_28
  · replace hf := iff_ hf c1
    refine lv_iload_n hx hb dX7_signAt_4 rfl (lv_at hl 1 rfl) ?_
    refine lv_aload_n hx hb dX7_signAt_5 rfl (lv_at hl 0 rfl) ?_
    refine z_get (own := RX7) (C := RX7) (T := TX7) (N := 6) (ci := 6) (v := .int (h 3 0)) hx hb hL inX7 hown hK hM dm_13 (ze_13 G V 0 0 h) rfl 1 (by decide) (hL _ zw1_187) rfl rfl dX7_signAt_6 ?_
    refine lv_icmp_ge (tgt := 27) hx hb dX7_signAt_9 (by decide) (fun c2 => ?_) (fun c2 => ?_)
    · replace hf := ift hf c2
      refine lv_iconst (v := 0) hx hb dX7_signAt_27 (by decide) ?_
      exact hQf rfl hf hM hS dX7_signAt_28
    · replace hf := iff_ hf c2
      refine lv_iload_n hx hb dX7_signAt_12 rfl (lv_at hl 1 rfl) ?_
      refine lv_bipush (v := 80) hx hb dX7_signAt_13 (by decide) ?_
      refine lv_icmp_ge (tgt := 27) hx hb dX7_signAt_15 (by decide) (fun c3 => ?_) (fun c3 => ?_)
      · replace hf := ift hf c3
        refine lv_iconst (v := 0) hx hb dX7_signAt_27 (by decide) ?_
        exact hQf rfl hf hM hS dX7_signAt_28
      · replace hf := iff_ hf c3
        refine lv_aload_n hx hb dX7_signAt_18 rfl (lv_at hl 0 rfl) ?_
        refine z_get (own := RX7) (C := RX7) (T := TX7) (N := 6) (ci := 6) (v := .ref (gA G 14 0 0)) hx hb hL inX7 hown hK hM dm_13 (ze_13 G V 0 0 h) rfl 0 (by decide) (hL _ zw1_186) rfl rfl dX7_signAt_19 ?_
        refine lv_iload_n hx hb dX7_signAt_22 rfl (lv_at hl 1 rfl) ?_
        obtain ⟨hb4, hf⟩ := grd_some hf
        refine z_cald hx hb hK hM dm_14 (ze_14 G V 0 0 h) (inb_in hb4) dX7_signAt_23 ?_
        refine lv_goto (tgt := 28) hx hb dX7_signAt_24 (by decide) ?_
        obtain ⟨hb5, hf⟩ := grd_some hf
        exact hQf (isc_z hb5) hf hM hS dX7_signAt_28
abbrev rX7_readNumber : Room := { frames := 1, cells := 0, slots := 0, locals := 21 }
set_option maxRecDepth 100000 in
set_option maxHeartbeats 4000000 in
theorem kX7_readNumber (l : Launch) (G : zG) (A : Nat → Prop) (V : zV3) (h : zV2) {r : Int32} {h' : zV2} (hf : xX7_readNumber h  = some (r, h')) : zCt l G A yX7_readNumber cX7_readNumber 3 (some .int) rX7_readNumber [.ref (gA G 13 0 0)] (upG V 7 h) (some (.int r)) (upG V 7 h') := by
  refine z_CtI (by decide) (Nat.le_of_ble_eq_true rfl) ?_
  intro p e s m args below meth c Q hx hb hml hown hL hK hM hS hQ ls hl
  replace hl : lv_has ls 3 [(0, .ref (gA G 13 0 0))] := hl
  have hQf : ∀ {a : Int32} {k : zV2} {H : Heap} {locs : List Loc} {pc : Nat} {ls : Array Slot}, some (a, k) = some (r, h') → zM G (upG V 7 k) H → va_S A s.heap H locs → decode cX7_readNumber pc = .ok (.ireturn, 1) → W p l e rX7_readNumber s m args below meth c H locs 0 0 Q (F0 m pc ls [.int a]) := by
    intro a k H locs pc ls e1 hM hS hd
    cases e1
    exact hQ H locs pc ls hM hS hd
  have L29 : ∀ (n : Nat) (h : zV2) (a1 : Int32) (a2 : Int32), xX7_readNumber_L29 n h a1 a2 = some (r, h') → ∀ (H : Heap) (locs : List Loc) (ls : Array Slot), zM G (upG V 7 h) H → va_S A s.heap H locs → lv_has ls 3 [(0, .ref (gA G 13 0 0)), (1, .int a1), (2, .int a2)] → W p l e rX7_readNumber s m args below meth c H locs 0 0 Q (F0 m 29 ls []) := by
    intro n
    induction n with
    | zero =>
      intro h a1 a2 hf H locs ls hM hS hl
      rw [xX7_readNumber_L29] at hf
      cases hf
    | succ n ih =>
      intro h a1 a2 hf H locs ls hM hS hl
      rw [xX7_readNumber_L29] at hf
      refine lv_iload_n hx hb dX7_readNumber_29 rfl (lv_at hl 1 rfl) ?_
      refine lv_iconst (v := 3) hx hb dX7_readNumber_30 (by decide) ?_
      refine lv_icmp_ge (tgt := 93) hx hb dX7_readNumber_31 (by decide) (fun c1 => ?_) (fun c1 => ?_)
      · replace hf := ift hf c1
        refine lv_iload_n hx hb dX7_readNumber_93 rfl (lv_at hl 1 rfl) ?_
        refine lv_if_ne (tgt := 101) hx hb dX7_readNumber_94 (by decide) (fun c2 => ?_) (fun c2 => ?_)
        · replace hf := iff_ hf c2
          refine lv_iload_n hx hb dX7_readNumber_101 rfl (lv_at hl 2 rfl) ?_
          exact hQf hf hM hS dX7_readNumber_102
        · replace hf := ift hf c2
          refine lv_iconst (v := -1) hx hb dX7_readNumber_97 (by decide) ?_
          refine lv_goto (tgt := 102) hx hb dX7_readNumber_98 (by decide) ?_
          exact hQf hf hM hS dX7_readNumber_102
      · replace hf := iff_ hf c1
        refine lv_aload_n hx hb dX7_readNumber_34 rfl (lv_at hl 0 rfl) ?_
        refine lv_aload_n hx hb dX7_readNumber_35 rfl (lv_at hl 0 rfl) ?_
        refine z_get (own := RX7) (C := RX7) (T := TX7) (N := 6) (ci := 6) (v := .int (h 7 0)) hx hb hL inX7 hown hK hM dm_13 (ze_13 G V 0 0 h) rfl 5 (by decide) (hL _ zw1_196) rfl rfl dX7_readNumber_36 ?_
        obtain ⟨r3, h5, hc4, hf⟩ := bnd_some hf
        refine z_callV (As := [.int (h 7 0)]) (rest := []) (C := RX7) hx hb hml hown hL hK hM hS (kX7_signAt l G A V h (h 7 0) hc4) (zg_X7_signAt zw3_176) zv_X7_signAt ⟨rfl, rfl⟩ ⟨Nat.le_of_ble_eq_true rfl, Nat.le_of_ble_eq_true rfl⟩ (hM.recv hK dm_13 (ze_13 G V 0 0 h) rfl) rfl hl.1 rfl (Nat.le_of_ble_eq_true rfl) dX7_readNumber_39 ⟨Nat.zero_le _, Nat.zero_le _⟩ (fun H locs hM hS => ?_)
        refine W.eq (g2 := F0 m 42 ls [.int r3]) rfl ?_
        refine lv_bipush (v := 48) hx hb dX7_readNumber_42 (by decide) ?_
        refine lv_icmp_lt (tgt := 93) hx hb dX7_readNumber_44 (by decide) (fun c6 => ?_) (fun c6 => ?_)
        · replace hf := ift hf c6
          refine lv_iload_n hx hb dX7_readNumber_93 rfl (lv_at hl 1 rfl) ?_
          refine lv_if_ne (tgt := 101) hx hb dX7_readNumber_94 (by decide) (fun c7 => ?_) (fun c7 => ?_)
          · replace hf := iff_ hf c7
            refine lv_iload_n hx hb dX7_readNumber_101 rfl (lv_at hl 2 rfl) ?_
            exact hQf hf hM hS dX7_readNumber_102
          · replace hf := ift hf c7
            refine lv_iconst (v := -1) hx hb dX7_readNumber_97 (by decide) ?_
            refine lv_goto (tgt := 102) hx hb dX7_readNumber_98 (by decide) ?_
            exact hQf hf hM hS dX7_readNumber_102
        · replace hf := iff_ hf c6
          refine lv_aload_n hx hb dX7_readNumber_47 rfl (lv_at hl 0 rfl) ?_
          refine lv_aload_n hx hb dX7_readNumber_48 rfl (lv_at hl 0 rfl) ?_
          refine z_get (own := RX7) (C := RX7) (T := TX7) (N := 6) (ci := 6) (v := .int (h5 7 0)) hx hb hL inX7 hown hK hM dm_13 (ze_13 G V 0 0 h5) rfl 5 (by decide) (hL _ zw1_196) rfl rfl dX7_readNumber_49 ?_
          obtain ⟨r8, h10, hc9, hf⟩ := bnd_some hf
          refine z_callV (As := [.int (h5 7 0)]) (rest := []) (C := RX7) hx hb hml hown hL hK hM hS (kX7_signAt l G A V h5 (h5 7 0) hc9) (zg_X7_signAt zw3_176) zv_X7_signAt ⟨rfl, rfl⟩ ⟨Nat.le_of_ble_eq_true rfl, Nat.le_of_ble_eq_true rfl⟩ (hM.recv hK dm_13 (ze_13 G V 0 0 h5) rfl) rfl hl.1 rfl (Nat.le_of_ble_eq_true rfl) dX7_readNumber_52 ⟨Nat.zero_le _, Nat.zero_le _⟩ (fun H locs hM hS => ?_)
          refine W.eq (g2 := F0 m 55 ls [.int r8]) rfl ?_
          refine lv_bipush (v := 57) hx hb dX7_readNumber_55 (by decide) ?_
          refine lv_icmp_gt (tgt := 93) hx hb dX7_readNumber_57 (by decide) (fun c11 => ?_) (fun c11 => ?_)
          · replace hf := ift hf c11
            refine lv_iload_n hx hb dX7_readNumber_93 rfl (lv_at hl 1 rfl) ?_
            refine lv_if_ne (tgt := 101) hx hb dX7_readNumber_94 (by decide) (fun c12 => ?_) (fun c12 => ?_)
            · replace hf := iff_ hf c12
              refine lv_iload_n hx hb dX7_readNumber_101 rfl (lv_at hl 2 rfl) ?_
              exact hQf hf hM hS dX7_readNumber_102
            · replace hf := ift hf c12
              refine lv_iconst (v := -1) hx hb dX7_readNumber_97 (by decide) ?_
              refine lv_goto (tgt := 102) hx hb dX7_readNumber_98 (by decide) ?_
              exact hQf hf hM hS dX7_readNumber_102
          · replace hf := iff_ hf c11
            refine lv_iload_n hx hb dX7_readNumber_60 rfl (lv_at hl 2 rfl) ?_
            refine lv_bipush (v := 10) hx hb dX7_readNumber_61 (by decide) ?_
            refine lv_imul hx hb dX7_readNumber_63 ?_
            refine lv_aload_n hx hb dX7_readNumber_64 rfl (lv_at hl 0 rfl) ?_
            refine lv_aload_n hx hb dX7_readNumber_65 rfl (lv_at hl 0 rfl) ?_
            refine z_get (own := RX7) (C := RX7) (T := TX7) (N := 6) (ci := 6) (v := .int (h10 7 0)) hx hb hL inX7 hown hK hM dm_13 (ze_13 G V 0 0 h10) rfl 5 (by decide) (hL _ zw1_196) rfl rfl dX7_readNumber_66 ?_
            obtain ⟨r13, h15, hc14, hf⟩ := bnd_some hf
            refine z_callV (As := [.int (h10 7 0)]) (rest := [.int (a2 * (10 : Int32))]) (C := RX7) hx hb hml hown hL hK hM hS (kX7_signAt l G A V h10 (h10 7 0) hc14) (zg_X7_signAt zw3_176) zv_X7_signAt ⟨rfl, rfl⟩ ⟨Nat.le_of_ble_eq_true rfl, Nat.le_of_ble_eq_true rfl⟩ (hM.recv hK dm_13 (ze_13 G V 0 0 h10) rfl) rfl hl.1 rfl (Nat.le_of_ble_eq_true rfl) dX7_readNumber_69 ⟨Nat.zero_le _, Nat.zero_le _⟩ (fun H locs hM hS => ?_)
            refine W.eq (g2 := F0 m 72 ls [.int r13, .int (a2 * (10 : Int32))]) rfl ?_
            refine lv_bipush (v := 48) hx hb dX7_readNumber_72 (by decide) ?_
            refine lv_isub hx hb dX7_readNumber_74 ?_
            refine lv_iadd hx hb dX7_readNumber_75 ?_
            refine lv_topi (fun y16 ey16 => ?_)
            replace hf := ltI_some hf ey16
            refine lv_istore_n (lv' := [(2, .int y16), (0, .ref (gA G 13 0 0)), (1, .int a1)]) hx hb dX7_readNumber_76 rfl hl (by decide) rfl (fun ls hl => ?_)
            obtain ⟨y17, ey17⟩ : ∃ y : Int32, y = a1 + (1 : Int32) := ⟨_, rfl⟩
            replace hf := ltI_some hf ey17
            refine lv_iinc (v := y17) (lv' := [(1, .int y17), (2, .int y16), (0, .ref (gA G 13 0 0))]) hx hb dX7_readNumber_77 hl (k := 2) rfl (by rw [ey17]; rfl) (by decide) rfl (fun ls hl => ?_)
            refine lv_aload_n hx hb dX7_readNumber_80 rfl (lv_at hl 2 rfl) ?_
            refine lv_dup hx hb dX7_readNumber_81 rfl ?_
            refine z_get (own := RX7) (C := RX7) (T := TX7) (N := 6) (ci := 6) (v := .int (h15 7 0)) hx hb hL inX7 hown hK hM dm_13 (ze_13 G V 0 0 h15) rfl 5 (by decide) (hL _ zw1_196) rfl rfl dX7_readNumber_82 ?_
            refine lv_iconst (v := 1) hx hb dX7_readNumber_85 (by decide) ?_
            refine lv_iadd hx hb dX7_readNumber_86 ?_
            obtain ⟨h18, eh18⟩ : ∃ y, y = up2 h15 7 0 ((h15 7 0) + (1 : Int32)) := ⟨_, rfl⟩
            replace hf := put2_some hf eh18
            refine z_put (own := RX7) (C := RX7) (T := TX7) (N := 6) (ci := 6) (V' := upG V 7 h18) hx hb hL inX7 tyX7 tyX7_ok nmX7 hown hK hM hS dm_13 (ze_13 G V 0 0 h15) rfl 5 (by decide) (hL _ zw1_196) rfl rfl rfl rfl (Nat.le_of_ble_eq_true rfl) (by rw [eh18]; exact zn_13_7 G V h15 ((h15 7 0) + (1 : Int32))) dX7_readNumber_87 (fun H locs hM hS => ?_)
            refine lv_goto (tgt := 29) hx hb dX7_readNumber_90 (by decide) ?_
            exact ih h18 y17 y16 hf _ _ _ hM hS (lv_sub hl [2, 0, 1] rfl)
  unfold xX7_readNumber at hf
  refine lv_aload_n hx hb dX7_readNumber_0 rfl (lv_at hl 0 rfl) ?_
  refine lv_aload_n hx hb dX7_readNumber_1 rfl (lv_at hl 0 rfl) ?_
  refine z_get (own := RX7) (C := RX7) (T := TX7) (N := 6) (ci := 6) (v := .int (h 7 0)) hx hb hL inX7 hown hK hM dm_13 (ze_13 G V 0 0 h) rfl 5 (by decide) (hL _ zw1_196) rfl rfl dX7_readNumber_2 ?_
  obtain ⟨r1, h3, hc2, hf⟩ := bnd_some hf
  refine z_callV (As := [.int (h 7 0)]) (rest := []) (C := RX7) hx hb hml hown hL hK hM hS (kX7_signAt l G A V h (h 7 0) hc2) (zg_X7_signAt zw3_176) zv_X7_signAt ⟨rfl, rfl⟩ ⟨Nat.le_of_ble_eq_true rfl, Nat.le_of_ble_eq_true rfl⟩ (hM.recv hK dm_13 (ze_13 G V 0 0 h) rfl) rfl hl.1 rfl (Nat.le_of_ble_eq_true rfl) dX7_readNumber_5 ⟨Nat.zero_le _, Nat.zero_le _⟩ (fun H locs hM hS => ?_)
  refine W.eq (g2 := F0 m 8 ls [.int r1]) rfl ?_
  refine lv_bipush (v := 32) hx hb dX7_readNumber_8 (by decide) ?_
  refine lv_icmp_eq (tgt := 15) hx hb dX7_readNumber_10 (by decide) (fun c4 => ?_) (fun c4 => ?_)
  · replace hf := ift hf c4
    refine lv_aload_n hx hb dX7_readNumber_15 rfl (lv_at hl 0 rfl) ?_
    refine lv_dup hx hb dX7_readNumber_16 rfl ?_
    refine z_get (own := RX7) (C := RX7) (T := TX7) (N := 6) (ci := 6) (v := .int (h3 7 0)) hx hb hL inX7 hown hK hM dm_13 (ze_13 G V 0 0 h3) rfl 5 (by decide) (hL _ zw1_196) rfl rfl dX7_readNumber_17 ?_
    refine lv_iconst (v := 1) hx hb dX7_readNumber_20 (by decide) ?_
    refine lv_iadd hx hb dX7_readNumber_21 ?_
    obtain ⟨h5, eh5⟩ : ∃ y, y = up2 h3 7 0 ((h3 7 0) + (1 : Int32)) := ⟨_, rfl⟩
    replace hf := put2_some hf eh5
    refine z_put (own := RX7) (C := RX7) (T := TX7) (N := 6) (ci := 6) (V' := upG V 7 h5) hx hb hL inX7 tyX7 tyX7_ok nmX7 hown hK hM hS dm_13 (ze_13 G V 0 0 h3) rfl 5 (by decide) (hL _ zw1_196) rfl rfl rfl rfl (Nat.le_of_ble_eq_true rfl) (by rw [eh5]; exact zn_13_7 G V h3 ((h3 7 0) + (1 : Int32))) dX7_readNumber_22 (fun H locs hM hS => ?_)
    refine lv_iconst (v := 0) hx hb dX7_readNumber_25 (by decide) ?_
    refine lv_istore_n (lv' := [(1, .int (0 : Int32)), (0, .ref (gA G 13 0 0))]) hx hb dX7_readNumber_26 rfl hl (by decide) rfl (fun ls hl => ?_)
    refine lv_iconst (v := 0) hx hb dX7_readNumber_27 (by decide) ?_
    refine lv_istore_n (lv' := [(2, .int (0 : Int32)), (1, .int (0 : Int32)), (0, .ref (gA G 13 0 0))]) hx hb dX7_readNumber_28 rfl hl (by decide) rfl (fun ls hl => ?_)
    exact L29 1000 h5 (0 : Int32) (0 : Int32) hf _ _ _ hM hS (lv_sub hl [2, 1, 0] rfl)
  · replace hf := iff_ hf c4
    refine lv_iconst (v := -1) hx hb dX7_readNumber_13 (by decide) ?_
    exact hQf hf hM hS dX7_readNumber_14
abbrev rX9_locker : Room := { frames := 3, cells := 0, slots := 0, locals := 65 }
set_option maxRecDepth 100000 in
set_option maxHeartbeats 4000000 in
theorem kX9_locker (l : Launch) (G : zG) (A : Nat → Prop) (V : zV3) (p1 : Int32) {r : Int32} {V' : zV3} (hf : xX9_locker V p1 = some (r, V')) : zCt l G A yX9_locker cX9_locker 2 (some .int) rX9_locker [.ref (gA G 10 0 0), .int p1] V (some (.int r)) V' := by
  refine z_CtI (by decide) (Nat.le_of_ble_eq_true rfl) ?_
  intro p e s m args below meth c Q hx hb hml hown hL hK hM hS hQ ls hl
  replace hl : lv_has ls 2 [(0, .ref (gA G 10 0 0)), (1, .int p1)] := hl
  have hQf : ∀ {a : Int32} {k : zV3} {H : Heap} {locs : List Loc} {pc : Nat} {ls : Array Slot}, some (a, k) = some (r, V') → zM G k H → va_S A s.heap H locs → decode cX9_locker pc = .ok (.ireturn, 1) → W p l e rX9_locker s m args below meth c H locs 0 0 Q (F0 m pc ls [.int a]) := by
    intro a k H locs pc ls e1 hM hS hd
    cases e1
    exact hQ H locs pc ls hM hS hd
  unfold xX9_locker at hf
  refine lv_aload_n hx hb dX9_locker_0 rfl (lv_at hl 0 rfl) ?_
  refine z_get (own := RX9) (C := RX9) (T := TX9) (N := 4) (ci := 7) (v := .ref (gA G 11 0 0)) hx hb hL inX9 hown hK hM dm_10 (zd_10 G V) rfl 1 (by decide) (hL _ zw2_2) rfl rfl dX9_locker_1 ?_
  refine lv_aload_n hx hb dX9_locker_4 rfl (lv_at hl 0 rfl) ?_
  refine z_get (own := RX9) (C := RX9) (T := TX9) (N := 4) (ci := 7) (v := .ref (gA G 0 0 0)) hx hb hL inX9 hown hK hM dm_10 (zd_10 G V) rfl 0 (by decide) (hL _ zw2_1) rfl rfl dX9_locker_5 ?_
  obtain ⟨r1, V3, hc2, hf⟩ := bnd_some hf
  refine z_callV (As := [.ref (gA G 0 0 0)]) (rest := []) (C := RX2) hx hb hml hown hL hK hM hS (kX2_prepare l G A V 0 (by decide) hc2) (zg_X2_prepare zw2_18) zv_X2_prepare ⟨rfl, rfl⟩ ⟨Nat.le_of_ble_eq_true rfl, Nat.le_of_ble_eq_true rfl⟩ (hM.recv hK dm_11 (zd_11 G V 0 0) rfl) rfl hl.1 rfl (Nat.le_of_ble_eq_true rfl) dX9_locker_8 ⟨Nat.zero_le _, Nat.zero_le _⟩ (fun H locs hM hS => ?_)
  refine W.eq (g2 := F0 m 11 ls []) rfl ?_
  refine lv_aload_n hx hb dX9_locker_11 rfl (lv_at hl 0 rfl) ?_
  refine z_get (own := RX9) (C := RX9) (T := TX9) (N := 4) (ci := 7) (v := .ref (gA G 11 0 0)) hx hb hL inX9 hown hK hM dm_10 (zd_10 G V3) rfl 1 (by decide) (hL _ zw2_2) rfl rfl dX9_locker_12 ?_
  refine lv_aload_n hx hb dX9_locker_15 rfl (lv_at hl 0 rfl) ?_
  refine z_get (own := RX9) (C := RX9) (T := TX9) (N := 4) (ci := 7) (v := .ref (gA G 0 0 0)) hx hb hL inX9 hown hK hM dm_10 (zd_10 G V3) rfl 0 (by decide) (hL _ zw2_1) rfl rfl dX9_locker_16 ?_
  refine lv_iload_n hx hb dX9_locker_19 rfl (lv_at hl 1 rfl) ?_
  obtain ⟨r4, k6, V7, hc5, eV7, hf⟩ := bndG_some hf
  refine z_callV (As := [.int p1]) (rest := [.ref (gA G 11 0 0)]) (C := RX1) hx hb hml hown hL hK hM hS (z_ctG (kX1_addLocker l G A V3 0 (by decide) (V3 0) p1 hc5)) (zg_X1_addLocker zw2_45) zv_X1_addLocker ⟨rfl, rfl⟩ ⟨Nat.le_of_ble_eq_true rfl, Nat.le_of_ble_eq_true rfl⟩ (hM.recv hK (dm_0 (g := 0) (i := 0) (by decide) rfl) (zd_0 G V3 0 0) rfl) rfl hl.1 rfl (Nat.le_of_ble_eq_true rfl) dX9_locker_20 ⟨Nat.zero_le _, Nat.zero_le _⟩ (fun H locs hM hS => ?_)
  rw [← eV7] at hM
  refine W.eq (g2 := F0 m 23 ls [.int r4, .ref (gA G 11 0 0)]) rfl ?_
  obtain ⟨r8, k10, V11, hc9, eV11, hf⟩ := bndG_some hf
  refine z_callV (As := [.int r4]) (rest := []) (C := RX2) hx hb hml hown hL hK hM hS (z_ctG (kX2_settle l G A V7 (V7 7) r4 hc9)) (zg_X2_settle zw2_49) zv_X2_settle ⟨rfl, rfl⟩ ⟨Nat.le_of_ble_eq_true rfl, Nat.le_of_ble_eq_true rfl⟩ (hM.recv hK dm_11 (zd_11 G V7 0 0) rfl) rfl hl.1 rfl (Nat.le_of_ble_eq_true rfl) dX9_locker_23 ⟨Nat.zero_le _, Nat.zero_le _⟩ (fun H locs hM hS => ?_)
  rw [← eV11] at hM
  refine W.eq (g2 := F0 m 26 ls [.int r8]) rfl ?_
  exact hQf hf hM hS dX9_locker_26
abbrev rX9_person : Room := { frames := 3, cells := 0, slots := 0, locals := 65 }
set_option maxRecDepth 100000 in
set_option maxHeartbeats 4000000 in
theorem kX9_person (l : Launch) (G : zG) (A : Nat → Prop) (V : zV3) {r : Int32} {V' : zV3} (hf : xX9_person V  = some (r, V')) : zCt l G A yX9_person cX9_person 1 (some .int) rX9_person [.ref (gA G 10 0 0)] V (some (.int r)) V' := by
  refine z_CtI (by decide) (Nat.le_of_ble_eq_true rfl) ?_
  intro p e s m args below meth c Q hx hb hml hown hL hK hM hS hQ ls hl
  replace hl : lv_has ls 1 [(0, .ref (gA G 10 0 0))] := hl
  have hQf : ∀ {a : Int32} {k : zV3} {H : Heap} {locs : List Loc} {pc : Nat} {ls : Array Slot}, some (a, k) = some (r, V') → zM G k H → va_S A s.heap H locs → decode cX9_person pc = .ok (.ireturn, 1) → W p l e rX9_person s m args below meth c H locs 0 0 Q (F0 m pc ls [.int a]) := by
    intro a k H locs pc ls e1 hM hS hd
    cases e1
    exact hQ H locs pc ls hM hS hd
  unfold xX9_person at hf
  refine lv_aload_n hx hb dX9_person_0 rfl (lv_at hl 0 rfl) ?_
  refine z_get (own := RX9) (C := RX9) (T := TX9) (N := 4) (ci := 7) (v := .ref (gA G 11 0 0)) hx hb hL inX9 hown hK hM dm_10 (zd_10 G V) rfl 1 (by decide) (hL _ zw2_2) rfl rfl dX9_person_1 ?_
  refine lv_aload_n hx hb dX9_person_4 rfl (lv_at hl 0 rfl) ?_
  refine z_get (own := RX9) (C := RX9) (T := TX9) (N := 4) (ci := 7) (v := .ref (gA G 0 0 0)) hx hb hL inX9 hown hK hM dm_10 (zd_10 G V) rfl 0 (by decide) (hL _ zw2_1) rfl rfl dX9_person_5 ?_
  obtain ⟨r1, V3, hc2, hf⟩ := bnd_some hf
  refine z_callV (As := [.ref (gA G 0 0 0)]) (rest := []) (C := RX2) hx hb hml hown hL hK hM hS (kX2_prepare l G A V 0 (by decide) hc2) (zg_X2_prepare zw2_18) zv_X2_prepare ⟨rfl, rfl⟩ ⟨Nat.le_of_ble_eq_true rfl, Nat.le_of_ble_eq_true rfl⟩ (hM.recv hK dm_11 (zd_11 G V 0 0) rfl) rfl hl.1 rfl (Nat.le_of_ble_eq_true rfl) dX9_person_8 ⟨Nat.zero_le _, Nat.zero_le _⟩ (fun H locs hM hS => ?_)
  refine W.eq (g2 := F0 m 11 ls []) rfl ?_
  refine lv_aload_n hx hb dX9_person_11 rfl (lv_at hl 0 rfl) ?_
  refine z_get (own := RX9) (C := RX9) (T := TX9) (N := 4) (ci := 7) (v := .ref (gA G 11 0 0)) hx hb hL inX9 hown hK hM dm_10 (zd_10 G V3) rfl 1 (by decide) (hL _ zw2_2) rfl rfl dX9_person_12 ?_
  refine lv_aload_n hx hb dX9_person_15 rfl (lv_at hl 0 rfl) ?_
  refine z_get (own := RX9) (C := RX9) (T := TX9) (N := 4) (ci := 7) (v := .ref (gA G 0 0 0)) hx hb hL inX9 hown hK hM dm_10 (zd_10 G V3) rfl 0 (by decide) (hL _ zw2_1) rfl rfl dX9_person_16 ?_
  obtain ⟨r4, k6, V7, hc5, eV7, hf⟩ := bndG_some hf
  refine z_callV (As := []) (rest := [.ref (gA G 11 0 0)]) (C := RX1) hx hb hml hown hL hK hM hS (z_ctG (kX1_addPerson l G A V3 0 (by decide) (V3 0) hc5)) (zg_X1_addPerson zw2_57) zv_X1_addPerson ⟨rfl, rfl⟩ ⟨Nat.le_of_ble_eq_true rfl, Nat.le_of_ble_eq_true rfl⟩ (hM.recv hK (dm_0 (g := 0) (i := 0) (by decide) rfl) (zd_0 G V3 0 0) rfl) rfl hl.1 rfl (Nat.le_of_ble_eq_true rfl) dX9_person_19 ⟨Nat.zero_le _, Nat.zero_le _⟩ (fun H locs hM hS => ?_)
  rw [← eV7] at hM
  refine W.eq (g2 := F0 m 22 ls [.int r4, .ref (gA G 11 0 0)]) rfl ?_
  obtain ⟨r8, k10, V11, hc9, eV11, hf⟩ := bndG_some hf
  refine z_callV (As := [.int r4]) (rest := []) (C := RX2) hx hb hml hown hL hK hM hS (z_ctG (kX2_settle l G A V7 (V7 7) r4 hc9)) (zg_X2_settle zw2_49) zv_X2_settle ⟨rfl, rfl⟩ ⟨Nat.le_of_ble_eq_true rfl, Nat.le_of_ble_eq_true rfl⟩ (hM.recv hK dm_11 (zd_11 G V7 0 0) rfl) rfl hl.1 rfl (Nat.le_of_ble_eq_true rfl) dX9_person_22 ⟨Nat.zero_le _, Nat.zero_le _⟩ (fun H locs hM hS => ?_)
  rw [← eV11] at hM
  refine W.eq (g2 := F0 m 25 ls [.int r8]) rfl ?_
  exact hQf hf hM hS dX9_person_25
abbrev rX9_stand : Room := { frames := 3, cells := 0, slots := 0, locals := 69 }
set_option maxRecDepth 100000 in
set_option maxHeartbeats 4000000 in
theorem kX9_stand (l : Launch) (G : zG) (A : Nat → Prop) (V : zV3) (p1 : Int32) (p2 : Int32) {r : Int32} {V' : zV3} (hf : xX9_stand V p1 p2 = some (r, V')) : zCt l G A yX9_stand cX9_stand 3 (some .int) rX9_stand [.ref (gA G 10 0 0), .int p1, .int p2] V (some (.int r)) V' := by
  refine z_CtI (by decide) (Nat.le_of_ble_eq_true rfl) ?_
  intro p e s m args below meth c Q hx hb hml hown hL hK hM hS hQ ls hl
  replace hl : lv_has ls 3 [(0, .ref (gA G 10 0 0)), (1, .int p1), (2, .int p2)] := hl
  have hQf : ∀ {a : Int32} {k : zV3} {H : Heap} {locs : List Loc} {pc : Nat} {ls : Array Slot}, some (a, k) = some (r, V') → zM G k H → va_S A s.heap H locs → decode cX9_stand pc = .ok (.ireturn, 1) → W p l e rX9_stand s m args below meth c H locs 0 0 Q (F0 m pc ls [.int a]) := by
    intro a k H locs pc ls e1 hM hS hd
    cases e1
    exact hQ H locs pc ls hM hS hd
  unfold xX9_stand at hf
  refine lv_aload_n hx hb dX9_stand_0 rfl (lv_at hl 0 rfl) ?_
  refine z_get (own := RX9) (C := RX9) (T := TX9) (N := 4) (ci := 7) (v := .ref (gA G 11 0 0)) hx hb hL inX9 hown hK hM dm_10 (zd_10 G V) rfl 1 (by decide) (hL _ zw2_2) rfl rfl dX9_stand_1 ?_
  refine lv_aload_n hx hb dX9_stand_4 rfl (lv_at hl 0 rfl) ?_
  refine z_get (own := RX9) (C := RX9) (T := TX9) (N := 4) (ci := 7) (v := .ref (gA G 0 0 0)) hx hb hL inX9 hown hK hM dm_10 (zd_10 G V) rfl 0 (by decide) (hL _ zw2_1) rfl rfl dX9_stand_5 ?_
  obtain ⟨r1, V3, hc2, hf⟩ := bnd_some hf
  refine z_callV (As := [.ref (gA G 0 0 0)]) (rest := []) (C := RX2) hx hb hml hown hL hK hM hS (kX2_prepare l G A V 0 (by decide) hc2) (zg_X2_prepare zw2_18) zv_X2_prepare ⟨rfl, rfl⟩ ⟨Nat.le_of_ble_eq_true rfl, Nat.le_of_ble_eq_true rfl⟩ (hM.recv hK dm_11 (zd_11 G V 0 0) rfl) rfl hl.1 rfl (Nat.le_of_ble_eq_true rfl) dX9_stand_8 ⟨Nat.zero_le _, Nat.zero_le _⟩ (fun H locs hM hS => ?_)
  refine W.eq (g2 := F0 m 11 ls []) rfl ?_
  refine lv_aload_n hx hb dX9_stand_11 rfl (lv_at hl 0 rfl) ?_
  refine z_get (own := RX9) (C := RX9) (T := TX9) (N := 4) (ci := 7) (v := .ref (gA G 11 0 0)) hx hb hL inX9 hown hK hM dm_10 (zd_10 G V3) rfl 1 (by decide) (hL _ zw2_2) rfl rfl dX9_stand_12 ?_
  refine lv_aload_n hx hb dX9_stand_15 rfl (lv_at hl 0 rfl) ?_
  refine z_get (own := RX9) (C := RX9) (T := TX9) (N := 4) (ci := 7) (v := .ref (gA G 0 0 0)) hx hb hL inX9 hown hK hM dm_10 (zd_10 G V3) rfl 0 (by decide) (hL _ zw2_1) rfl rfl dX9_stand_16 ?_
  refine lv_iload_n hx hb dX9_stand_19 rfl (lv_at hl 1 rfl) ?_
  refine lv_iload_n hx hb dX9_stand_20 rfl (lv_at hl 2 rfl) ?_
  obtain ⟨r4, k6, V7, hc5, eV7, hf⟩ := bndG_some hf
  refine z_callV (As := [.int p1, .int p2]) (rest := [.ref (gA G 11 0 0)]) (C := RX1) hx hb hml hown hL hK hM hS (z_ctG (kX1_putIntoRow l G A V3 0 (by decide) (V3 0) p1 p2 hc5)) (zg_X1_putIntoRow zw2_65) zv_X1_putIntoRow ⟨rfl, rfl⟩ ⟨Nat.le_of_ble_eq_true rfl, Nat.le_of_ble_eq_true rfl⟩ (hM.recv hK (dm_0 (g := 0) (i := 0) (by decide) rfl) (zd_0 G V3 0 0) rfl) rfl hl.1 rfl (Nat.le_of_ble_eq_true rfl) dX9_stand_21 ⟨Nat.zero_le _, Nat.zero_le _⟩ (fun H locs hM hS => ?_)
  rw [← eV7] at hM
  refine W.eq (g2 := F0 m 24 ls [.int r4, .ref (gA G 11 0 0)]) rfl ?_
  obtain ⟨r8, k10, V11, hc9, eV11, hf⟩ := bndG_some hf
  refine z_callV (As := [.int r4]) (rest := []) (C := RX2) hx hb hml hown hL hK hM hS (z_ctG (kX2_settle l G A V7 (V7 7) r4 hc9)) (zg_X2_settle zw2_49) zv_X2_settle ⟨rfl, rfl⟩ ⟨Nat.le_of_ble_eq_true rfl, Nat.le_of_ble_eq_true rfl⟩ (hM.recv hK dm_11 (zd_11 G V7 0 0) rfl) rfl hl.1 rfl (Nat.le_of_ble_eq_true rfl) dX9_stand_24 ⟨Nat.zero_le _, Nat.zero_le _⟩ (fun H locs hM hS => ?_)
  rw [← eV11] at hM
  refine W.eq (g2 := F0 m 27 ls [.int r8]) rfl ?_
  exact hQf hf hM hS dX9_stand_27
abbrev rX9_lend : Room := { frames := 3, cells := 0, slots := 0, locals := 67 }
set_option maxRecDepth 100000 in
set_option maxHeartbeats 4000000 in
theorem kX9_lend (l : Launch) (G : zG) (A : Nat → Prop) (V : zV3) (p1 : Int32) (p2 : Int32) {r : Int32} {V' : zV3} (hf : xX9_lend V p1 p2 = some (r, V')) : zCt l G A yX9_lend cX9_lend 3 (some .int) rX9_lend [.ref (gA G 10 0 0), .int p1, .int p2] V (some (.int r)) V' := by
  refine z_CtI (by decide) (Nat.le_of_ble_eq_true rfl) ?_
  intro p e s m args below meth c Q hx hb hml hown hL hK hM hS hQ ls hl
  replace hl : lv_has ls 3 [(0, .ref (gA G 10 0 0)), (1, .int p1), (2, .int p2)] := hl
  have hQf : ∀ {a : Int32} {k : zV3} {H : Heap} {locs : List Loc} {pc : Nat} {ls : Array Slot}, some (a, k) = some (r, V') → zM G k H → va_S A s.heap H locs → decode cX9_lend pc = .ok (.ireturn, 1) → W p l e rX9_lend s m args below meth c H locs 0 0 Q (F0 m pc ls [.int a]) := by
    intro a k H locs pc ls e1 hM hS hd
    cases e1
    exact hQ H locs pc ls hM hS hd
  unfold xX9_lend at hf
  refine lv_aload_n hx hb dX9_lend_0 rfl (lv_at hl 0 rfl) ?_
  refine z_get (own := RX9) (C := RX9) (T := TX9) (N := 4) (ci := 7) (v := .ref (gA G 11 0 0)) hx hb hL inX9 hown hK hM dm_10 (zd_10 G V) rfl 1 (by decide) (hL _ zw2_2) rfl rfl dX9_lend_1 ?_
  refine lv_aload_n hx hb dX9_lend_4 rfl (lv_at hl 0 rfl) ?_
  refine z_get (own := RX9) (C := RX9) (T := TX9) (N := 4) (ci := 7) (v := .ref (gA G 0 0 0)) hx hb hL inX9 hown hK hM dm_10 (zd_10 G V) rfl 0 (by decide) (hL _ zw2_1) rfl rfl dX9_lend_5 ?_
  obtain ⟨r1, V3, hc2, hf⟩ := bnd_some hf
  refine z_callV (As := [.ref (gA G 0 0 0)]) (rest := []) (C := RX2) hx hb hml hown hL hK hM hS (kX2_prepare l G A V 0 (by decide) hc2) (zg_X2_prepare zw2_18) zv_X2_prepare ⟨rfl, rfl⟩ ⟨Nat.le_of_ble_eq_true rfl, Nat.le_of_ble_eq_true rfl⟩ (hM.recv hK dm_11 (zd_11 G V 0 0) rfl) rfl hl.1 rfl (Nat.le_of_ble_eq_true rfl) dX9_lend_8 ⟨Nat.zero_le _, Nat.zero_le _⟩ (fun H locs hM hS => ?_)
  refine W.eq (g2 := F0 m 11 ls []) rfl ?_
  refine lv_aload_n hx hb dX9_lend_11 rfl (lv_at hl 0 rfl) ?_
  refine z_get (own := RX9) (C := RX9) (T := TX9) (N := 4) (ci := 7) (v := .ref (gA G 11 0 0)) hx hb hL inX9 hown hK hM dm_10 (zd_10 G V3) rfl 1 (by decide) (hL _ zw2_2) rfl rfl dX9_lend_12 ?_
  refine lv_aload_n hx hb dX9_lend_15 rfl (lv_at hl 0 rfl) ?_
  refine z_get (own := RX9) (C := RX9) (T := TX9) (N := 4) (ci := 7) (v := .ref (gA G 0 0 0)) hx hb hL inX9 hown hK hM dm_10 (zd_10 G V3) rfl 0 (by decide) (hL _ zw2_1) rfl rfl dX9_lend_16 ?_
  refine lv_iload_n hx hb dX9_lend_19 rfl (lv_at hl 1 rfl) ?_
  refine lv_iload_n hx hb dX9_lend_20 rfl (lv_at hl 2 rfl) ?_
  obtain ⟨r4, k6, V7, hc5, eV7, hf⟩ := bndG_some hf
  refine z_callV (As := [.int p1, .int p2]) (rest := [.ref (gA G 11 0 0)]) (C := RX1) hx hb hml hown hL hK hM hS (z_ctG (kX1_lendTo l G A V3 0 (by decide) (V3 0) p1 p2 hc5)) (zg_X1_lendTo zw2_105) zv_X1_lendTo ⟨rfl, rfl⟩ ⟨Nat.le_of_ble_eq_true rfl, Nat.le_of_ble_eq_true rfl⟩ (hM.recv hK (dm_0 (g := 0) (i := 0) (by decide) rfl) (zd_0 G V3 0 0) rfl) rfl hl.1 rfl (Nat.le_of_ble_eq_true rfl) dX9_lend_21 ⟨Nat.zero_le _, Nat.zero_le _⟩ (fun H locs hM hS => ?_)
  rw [← eV7] at hM
  refine W.eq (g2 := F0 m 24 ls [.int r4, .ref (gA G 11 0 0)]) rfl ?_
  obtain ⟨r8, k10, V11, hc9, eV11, hf⟩ := bndG_some hf
  refine z_callV (As := [.int r4]) (rest := []) (C := RX2) hx hb hml hown hL hK hM hS (z_ctG (kX2_settle l G A V7 (V7 7) r4 hc9)) (zg_X2_settle zw2_49) zv_X2_settle ⟨rfl, rfl⟩ ⟨Nat.le_of_ble_eq_true rfl, Nat.le_of_ble_eq_true rfl⟩ (hM.recv hK dm_11 (zd_11 G V7 0 0) rfl) rfl hl.1 rfl (Nat.le_of_ble_eq_true rfl) dX9_lend_24 ⟨Nat.zero_le _, Nat.zero_le _⟩ (fun H locs hM hS => ?_)
  rw [← eV11] at hM
  refine W.eq (g2 := F0 m 27 ls [.int r8]) rfl ?_
  exact hQf hf hM hS dX9_lend_27
abbrev rX9_giveBack : Room := { frames := 3, cells := 0, slots := 0, locals := 69 }
set_option maxRecDepth 100000 in
set_option maxHeartbeats 4000000 in
theorem kX9_giveBack (l : Launch) (G : zG) (A : Nat → Prop) (V : zV3) (p1 : Int32) {r : Int32} {V' : zV3} (hf : xX9_giveBack V p1 = some (r, V')) : zCt l G A yX9_giveBack cX9_giveBack 2 (some .int) rX9_giveBack [.ref (gA G 10 0 0), .int p1] V (some (.int r)) V' := by
  refine z_CtI (by decide) (Nat.le_of_ble_eq_true rfl) ?_
  intro p e s m args below meth c Q hx hb hml hown hL hK hM hS hQ ls hl
  replace hl : lv_has ls 2 [(0, .ref (gA G 10 0 0)), (1, .int p1)] := hl
  have hQf : ∀ {a : Int32} {k : zV3} {H : Heap} {locs : List Loc} {pc : Nat} {ls : Array Slot}, some (a, k) = some (r, V') → zM G k H → va_S A s.heap H locs → decode cX9_giveBack pc = .ok (.ireturn, 1) → W p l e rX9_giveBack s m args below meth c H locs 0 0 Q (F0 m pc ls [.int a]) := by
    intro a k H locs pc ls e1 hM hS hd
    cases e1
    exact hQ H locs pc ls hM hS hd
  unfold xX9_giveBack at hf
  refine lv_aload_n hx hb dX9_giveBack_0 rfl (lv_at hl 0 rfl) ?_
  refine z_get (own := RX9) (C := RX9) (T := TX9) (N := 4) (ci := 7) (v := .ref (gA G 11 0 0)) hx hb hL inX9 hown hK hM dm_10 (zd_10 G V) rfl 1 (by decide) (hL _ zw2_2) rfl rfl dX9_giveBack_1 ?_
  refine lv_aload_n hx hb dX9_giveBack_4 rfl (lv_at hl 0 rfl) ?_
  refine z_get (own := RX9) (C := RX9) (T := TX9) (N := 4) (ci := 7) (v := .ref (gA G 0 0 0)) hx hb hL inX9 hown hK hM dm_10 (zd_10 G V) rfl 0 (by decide) (hL _ zw2_1) rfl rfl dX9_giveBack_5 ?_
  obtain ⟨r1, V3, hc2, hf⟩ := bnd_some hf
  refine z_callV (As := [.ref (gA G 0 0 0)]) (rest := []) (C := RX2) hx hb hml hown hL hK hM hS (kX2_prepare l G A V 0 (by decide) hc2) (zg_X2_prepare zw2_18) zv_X2_prepare ⟨rfl, rfl⟩ ⟨Nat.le_of_ble_eq_true rfl, Nat.le_of_ble_eq_true rfl⟩ (hM.recv hK dm_11 (zd_11 G V 0 0) rfl) rfl hl.1 rfl (Nat.le_of_ble_eq_true rfl) dX9_giveBack_8 ⟨Nat.zero_le _, Nat.zero_le _⟩ (fun H locs hM hS => ?_)
  refine W.eq (g2 := F0 m 11 ls []) rfl ?_
  refine lv_aload_n hx hb dX9_giveBack_11 rfl (lv_at hl 0 rfl) ?_
  refine z_get (own := RX9) (C := RX9) (T := TX9) (N := 4) (ci := 7) (v := .ref (gA G 11 0 0)) hx hb hL inX9 hown hK hM dm_10 (zd_10 G V3) rfl 1 (by decide) (hL _ zw2_2) rfl rfl dX9_giveBack_12 ?_
  refine lv_aload_n hx hb dX9_giveBack_15 rfl (lv_at hl 0 rfl) ?_
  refine z_get (own := RX9) (C := RX9) (T := TX9) (N := 4) (ci := 7) (v := .ref (gA G 0 0 0)) hx hb hL inX9 hown hK hM dm_10 (zd_10 G V3) rfl 0 (by decide) (hL _ zw2_1) rfl rfl dX9_giveBack_16 ?_
  refine lv_iload_n hx hb dX9_giveBack_19 rfl (lv_at hl 1 rfl) ?_
  obtain ⟨r4, k6, V7, hc5, eV7, hf⟩ := bndG_some hf
  refine z_callV (As := [.int p1]) (rest := [.ref (gA G 11 0 0)]) (C := RX1) hx hb hml hown hL hK hM hS (z_ctG (kX1_takeBack l G A V3 0 (by decide) (V3 0) p1 hc5)) (zg_X1_takeBack zw2_125) zv_X1_takeBack ⟨rfl, rfl⟩ ⟨Nat.le_of_ble_eq_true rfl, Nat.le_of_ble_eq_true rfl⟩ (hM.recv hK (dm_0 (g := 0) (i := 0) (by decide) rfl) (zd_0 G V3 0 0) rfl) rfl hl.1 rfl (Nat.le_of_ble_eq_true rfl) dX9_giveBack_20 ⟨Nat.zero_le _, Nat.zero_le _⟩ (fun H locs hM hS => ?_)
  rw [← eV7] at hM
  refine W.eq (g2 := F0 m 23 ls [.int r4, .ref (gA G 11 0 0)]) rfl ?_
  obtain ⟨r8, k10, V11, hc9, eV11, hf⟩ := bndG_some hf
  refine z_callV (As := [.int r4]) (rest := []) (C := RX2) hx hb hml hown hL hK hM hS (z_ctG (kX2_settle l G A V7 (V7 7) r4 hc9)) (zg_X2_settle zw2_49) zv_X2_settle ⟨rfl, rfl⟩ ⟨Nat.le_of_ble_eq_true rfl, Nat.le_of_ble_eq_true rfl⟩ (hM.recv hK dm_11 (zd_11 G V7 0 0) rfl) rfl hl.1 rfl (Nat.le_of_ble_eq_true rfl) dX9_giveBack_23 ⟨Nat.zero_le _, Nat.zero_le _⟩ (fun H locs hM hS => ?_)
  rw [← eV11] at hM
  refine W.eq (g2 := F0 m 26 ls [.int r8]) rfl ?_
  exact hQf hf hM hS dX9_giveBack_26
abbrev rX9_renew : Room := { frames := 3, cells := 0, slots := 0, locals := 65 }
set_option maxRecDepth 100000 in
set_option maxHeartbeats 4000000 in
theorem kX9_renew (l : Launch) (G : zG) (A : Nat → Prop) (V : zV3) (p1 : Int32) {r : Int32} {V' : zV3} (hf : xX9_renew V p1 = some (r, V')) : zCt l G A yX9_renew cX9_renew 2 (some .int) rX9_renew [.ref (gA G 10 0 0), .int p1] V (some (.int r)) V' := by
  refine z_CtI (by decide) (Nat.le_of_ble_eq_true rfl) ?_
  intro p e s m args below meth c Q hx hb hml hown hL hK hM hS hQ ls hl
  replace hl : lv_has ls 2 [(0, .ref (gA G 10 0 0)), (1, .int p1)] := hl
  have hQf : ∀ {a : Int32} {k : zV3} {H : Heap} {locs : List Loc} {pc : Nat} {ls : Array Slot}, some (a, k) = some (r, V') → zM G k H → va_S A s.heap H locs → decode cX9_renew pc = .ok (.ireturn, 1) → W p l e rX9_renew s m args below meth c H locs 0 0 Q (F0 m pc ls [.int a]) := by
    intro a k H locs pc ls e1 hM hS hd
    cases e1
    exact hQ H locs pc ls hM hS hd
  unfold xX9_renew at hf
  refine lv_aload_n hx hb dX9_renew_0 rfl (lv_at hl 0 rfl) ?_
  refine z_get (own := RX9) (C := RX9) (T := TX9) (N := 4) (ci := 7) (v := .ref (gA G 11 0 0)) hx hb hL inX9 hown hK hM dm_10 (zd_10 G V) rfl 1 (by decide) (hL _ zw2_2) rfl rfl dX9_renew_1 ?_
  refine lv_aload_n hx hb dX9_renew_4 rfl (lv_at hl 0 rfl) ?_
  refine z_get (own := RX9) (C := RX9) (T := TX9) (N := 4) (ci := 7) (v := .ref (gA G 0 0 0)) hx hb hL inX9 hown hK hM dm_10 (zd_10 G V) rfl 0 (by decide) (hL _ zw2_1) rfl rfl dX9_renew_5 ?_
  obtain ⟨r1, V3, hc2, hf⟩ := bnd_some hf
  refine z_callV (As := [.ref (gA G 0 0 0)]) (rest := []) (C := RX2) hx hb hml hown hL hK hM hS (kX2_prepare l G A V 0 (by decide) hc2) (zg_X2_prepare zw2_18) zv_X2_prepare ⟨rfl, rfl⟩ ⟨Nat.le_of_ble_eq_true rfl, Nat.le_of_ble_eq_true rfl⟩ (hM.recv hK dm_11 (zd_11 G V 0 0) rfl) rfl hl.1 rfl (Nat.le_of_ble_eq_true rfl) dX9_renew_8 ⟨Nat.zero_le _, Nat.zero_le _⟩ (fun H locs hM hS => ?_)
  refine W.eq (g2 := F0 m 11 ls []) rfl ?_
  refine lv_aload_n hx hb dX9_renew_11 rfl (lv_at hl 0 rfl) ?_
  refine z_get (own := RX9) (C := RX9) (T := TX9) (N := 4) (ci := 7) (v := .ref (gA G 11 0 0)) hx hb hL inX9 hown hK hM dm_10 (zd_10 G V3) rfl 1 (by decide) (hL _ zw2_2) rfl rfl dX9_renew_12 ?_
  refine lv_aload_n hx hb dX9_renew_15 rfl (lv_at hl 0 rfl) ?_
  refine z_get (own := RX9) (C := RX9) (T := TX9) (N := 4) (ci := 7) (v := .ref (gA G 0 0 0)) hx hb hL inX9 hown hK hM dm_10 (zd_10 G V3) rfl 0 (by decide) (hL _ zw2_1) rfl rfl dX9_renew_16 ?_
  refine lv_iload_n hx hb dX9_renew_19 rfl (lv_at hl 1 rfl) ?_
  obtain ⟨r4, k6, V7, hc5, eV7, hf⟩ := bndG_some hf
  refine z_callV (As := [.int p1]) (rest := [.ref (gA G 11 0 0)]) (C := RX1) hx hb hml hown hL hK hM hS (z_ctG (kX1_prolong l G A V3 0 (by decide) (V3 0) p1 hc5)) (zg_X1_prolong zw2_141) zv_X1_prolong ⟨rfl, rfl⟩ ⟨Nat.le_of_ble_eq_true rfl, Nat.le_of_ble_eq_true rfl⟩ (hM.recv hK (dm_0 (g := 0) (i := 0) (by decide) rfl) (zd_0 G V3 0 0) rfl) rfl hl.1 rfl (Nat.le_of_ble_eq_true rfl) dX9_renew_20 ⟨Nat.zero_le _, Nat.zero_le _⟩ (fun H locs hM hS => ?_)
  rw [← eV7] at hM
  refine W.eq (g2 := F0 m 23 ls [.int r4, .ref (gA G 11 0 0)]) rfl ?_
  obtain ⟨r8, k10, V11, hc9, eV11, hf⟩ := bndG_some hf
  refine z_callV (As := [.int r4]) (rest := []) (C := RX2) hx hb hml hown hL hK hM hS (z_ctG (kX2_settle l G A V7 (V7 7) r4 hc9)) (zg_X2_settle zw2_49) zv_X2_settle ⟨rfl, rfl⟩ ⟨Nat.le_of_ble_eq_true rfl, Nat.le_of_ble_eq_true rfl⟩ (hM.recv hK dm_11 (zd_11 G V7 0 0) rfl) rfl hl.1 rfl (Nat.le_of_ble_eq_true rfl) dX9_renew_23 ⟨Nat.zero_le _, Nat.zero_le _⟩ (fun H locs hM hS => ?_)
  rw [← eV11] at hM
  refine W.eq (g2 := F0 m 26 ls [.int r8]) rfl ?_
  exact hQf hf hM hS dX9_renew_26
abbrev rX9_lose : Room := { frames := 4, cells := 0, slots := 0, locals := 91 }
set_option maxRecDepth 100000 in
set_option maxHeartbeats 4000000 in
theorem kX9_lose (l : Launch) (G : zG) (A : Nat → Prop) (V : zV3) (p1 : Int32) {r : Int32} {V' : zV3} (hf : xX9_lose V p1 = some (r, V')) : zCt l G A yX9_lose cX9_lose 2 (some .int) rX9_lose [.ref (gA G 10 0 0), .int p1] V (some (.int r)) V' := by
  refine z_CtI (by decide) (Nat.le_of_ble_eq_true rfl) ?_
  intro p e s m args below meth c Q hx hb hml hown hL hK hM hS hQ ls hl
  replace hl : lv_has ls 2 [(0, .ref (gA G 10 0 0)), (1, .int p1)] := hl
  have hQf : ∀ {a : Int32} {k : zV3} {H : Heap} {locs : List Loc} {pc : Nat} {ls : Array Slot}, some (a, k) = some (r, V') → zM G k H → va_S A s.heap H locs → decode cX9_lose pc = .ok (.ireturn, 1) → W p l e rX9_lose s m args below meth c H locs 0 0 Q (F0 m pc ls [.int a]) := by
    intro a k H locs pc ls e1 hM hS hd
    cases e1
    exact hQ H locs pc ls hM hS hd
  unfold xX9_lose at hf
  refine lv_aload_n hx hb dX9_lose_0 rfl (lv_at hl 0 rfl) ?_
  refine z_get (own := RX9) (C := RX9) (T := TX9) (N := 4) (ci := 7) (v := .ref (gA G 11 0 0)) hx hb hL inX9 hown hK hM dm_10 (zd_10 G V) rfl 1 (by decide) (hL _ zw2_2) rfl rfl dX9_lose_1 ?_
  refine lv_aload_n hx hb dX9_lose_4 rfl (lv_at hl 0 rfl) ?_
  refine z_get (own := RX9) (C := RX9) (T := TX9) (N := 4) (ci := 7) (v := .ref (gA G 0 0 0)) hx hb hL inX9 hown hK hM dm_10 (zd_10 G V) rfl 0 (by decide) (hL _ zw2_1) rfl rfl dX9_lose_5 ?_
  obtain ⟨r1, V3, hc2, hf⟩ := bnd_some hf
  refine z_callV (As := [.ref (gA G 0 0 0)]) (rest := []) (C := RX2) hx hb hml hown hL hK hM hS (kX2_prepare l G A V 0 (by decide) hc2) (zg_X2_prepare zw2_18) zv_X2_prepare ⟨rfl, rfl⟩ ⟨Nat.le_of_ble_eq_true rfl, Nat.le_of_ble_eq_true rfl⟩ (hM.recv hK dm_11 (zd_11 G V 0 0) rfl) rfl hl.1 rfl (Nat.le_of_ble_eq_true rfl) dX9_lose_8 ⟨Nat.zero_le _, Nat.zero_le _⟩ (fun H locs hM hS => ?_)
  refine W.eq (g2 := F0 m 11 ls []) rfl ?_
  refine lv_aload_n hx hb dX9_lose_11 rfl (lv_at hl 0 rfl) ?_
  refine z_get (own := RX9) (C := RX9) (T := TX9) (N := 4) (ci := 7) (v := .ref (gA G 11 0 0)) hx hb hL inX9 hown hK hM dm_10 (zd_10 G V3) rfl 1 (by decide) (hL _ zw2_2) rfl rfl dX9_lose_12 ?_
  refine lv_aload_n hx hb dX9_lose_15 rfl (lv_at hl 0 rfl) ?_
  refine z_get (own := RX9) (C := RX9) (T := TX9) (N := 4) (ci := 7) (v := .ref (gA G 0 0 0)) hx hb hL inX9 hown hK hM dm_10 (zd_10 G V3) rfl 0 (by decide) (hL _ zw2_1) rfl rfl dX9_lose_16 ?_
  refine lv_iload_n hx hb dX9_lose_19 rfl (lv_at hl 1 rfl) ?_
  obtain ⟨r4, k6, V7, hc5, eV7, hf⟩ := bndG_some hf
  refine z_callV (As := [.int p1]) (rest := [.ref (gA G 11 0 0)]) (C := RX1) hx hb hml hown hL hK hM hS (z_ctG (kX1_loseKey l G A V3 0 (by decide) (V3 0) p1 hc5)) (zg_X1_loseKey zw2_149) zv_X1_loseKey ⟨rfl, rfl⟩ ⟨Nat.le_of_ble_eq_true rfl, Nat.le_of_ble_eq_true rfl⟩ (hM.recv hK (dm_0 (g := 0) (i := 0) (by decide) rfl) (zd_0 G V3 0 0) rfl) rfl hl.1 rfl (Nat.le_of_ble_eq_true rfl) dX9_lose_20 ⟨Nat.zero_le _, Nat.zero_le _⟩ (fun H locs hM hS => ?_)
  rw [← eV7] at hM
  refine W.eq (g2 := F0 m 23 ls [.int r4, .ref (gA G 11 0 0)]) rfl ?_
  obtain ⟨r8, k10, V11, hc9, eV11, hf⟩ := bndG_some hf
  refine z_callV (As := [.int r4]) (rest := []) (C := RX2) hx hb hml hown hL hK hM hS (z_ctG (kX2_settle l G A V7 (V7 7) r4 hc9)) (zg_X2_settle zw2_49) zv_X2_settle ⟨rfl, rfl⟩ ⟨Nat.le_of_ble_eq_true rfl, Nat.le_of_ble_eq_true rfl⟩ (hM.recv hK dm_11 (zd_11 G V7 0 0) rfl) rfl hl.1 rfl (Nat.le_of_ble_eq_true rfl) dX9_lose_23 ⟨Nat.zero_le _, Nat.zero_le _⟩ (fun H locs hM hS => ?_)
  rw [← eV11] at hM
  refine W.eq (g2 := F0 m 26 ls [.int r8]) rfl ?_
  exact hQf hf hM hS dX9_lose_26
abbrev rX9_wish : Room := { frames := 3, cells := 0, slots := 0, locals := 65 }
set_option maxRecDepth 100000 in
set_option maxHeartbeats 4000000 in
theorem kX9_wish (l : Launch) (G : zG) (A : Nat → Prop) (V : zV3) (p1 : Int32) (p2 : Int32) {r : Int32} {V' : zV3} (hf : xX9_wish V p1 p2 = some (r, V')) : zCt l G A yX9_wish cX9_wish 3 (some .int) rX9_wish [.ref (gA G 10 0 0), .int p1, .int p2] V (some (.int r)) V' := by
  refine z_CtI (by decide) (Nat.le_of_ble_eq_true rfl) ?_
  intro p e s m args below meth c Q hx hb hml hown hL hK hM hS hQ ls hl
  replace hl : lv_has ls 3 [(0, .ref (gA G 10 0 0)), (1, .int p1), (2, .int p2)] := hl
  have hQf : ∀ {a : Int32} {k : zV3} {H : Heap} {locs : List Loc} {pc : Nat} {ls : Array Slot}, some (a, k) = some (r, V') → zM G k H → va_S A s.heap H locs → decode cX9_wish pc = .ok (.ireturn, 1) → W p l e rX9_wish s m args below meth c H locs 0 0 Q (F0 m pc ls [.int a]) := by
    intro a k H locs pc ls e1 hM hS hd
    cases e1
    exact hQ H locs pc ls hM hS hd
  unfold xX9_wish at hf
  refine lv_aload_n hx hb dX9_wish_0 rfl (lv_at hl 0 rfl) ?_
  refine z_get (own := RX9) (C := RX9) (T := TX9) (N := 4) (ci := 7) (v := .ref (gA G 11 0 0)) hx hb hL inX9 hown hK hM dm_10 (zd_10 G V) rfl 1 (by decide) (hL _ zw2_2) rfl rfl dX9_wish_1 ?_
  refine lv_aload_n hx hb dX9_wish_4 rfl (lv_at hl 0 rfl) ?_
  refine z_get (own := RX9) (C := RX9) (T := TX9) (N := 4) (ci := 7) (v := .ref (gA G 0 0 0)) hx hb hL inX9 hown hK hM dm_10 (zd_10 G V) rfl 0 (by decide) (hL _ zw2_1) rfl rfl dX9_wish_5 ?_
  obtain ⟨r1, V3, hc2, hf⟩ := bnd_some hf
  refine z_callV (As := [.ref (gA G 0 0 0)]) (rest := []) (C := RX2) hx hb hml hown hL hK hM hS (kX2_prepare l G A V 0 (by decide) hc2) (zg_X2_prepare zw2_18) zv_X2_prepare ⟨rfl, rfl⟩ ⟨Nat.le_of_ble_eq_true rfl, Nat.le_of_ble_eq_true rfl⟩ (hM.recv hK dm_11 (zd_11 G V 0 0) rfl) rfl hl.1 rfl (Nat.le_of_ble_eq_true rfl) dX9_wish_8 ⟨Nat.zero_le _, Nat.zero_le _⟩ (fun H locs hM hS => ?_)
  refine W.eq (g2 := F0 m 11 ls []) rfl ?_
  refine lv_aload_n hx hb dX9_wish_11 rfl (lv_at hl 0 rfl) ?_
  refine z_get (own := RX9) (C := RX9) (T := TX9) (N := 4) (ci := 7) (v := .ref (gA G 11 0 0)) hx hb hL inX9 hown hK hM dm_10 (zd_10 G V3) rfl 1 (by decide) (hL _ zw2_2) rfl rfl dX9_wish_12 ?_
  refine lv_aload_n hx hb dX9_wish_15 rfl (lv_at hl 0 rfl) ?_
  refine z_get (own := RX9) (C := RX9) (T := TX9) (N := 4) (ci := 7) (v := .ref (gA G 0 0 0)) hx hb hL inX9 hown hK hM dm_10 (zd_10 G V3) rfl 0 (by decide) (hL _ zw2_1) rfl rfl dX9_wish_16 ?_
  refine lv_iload_n hx hb dX9_wish_19 rfl (lv_at hl 1 rfl) ?_
  refine lv_iload_n hx hb dX9_wish_20 rfl (lv_at hl 2 rfl) ?_
  obtain ⟨r4, k6, V7, hc5, eV7, hf⟩ := bndG_some hf
  refine z_callV (As := [.int p1, .int p2]) (rest := [.ref (gA G 11 0 0)]) (C := RX1) hx hb hml hown hL hK hM hS (z_ctG (kX1_wishFor l G A V3 0 (by decide) (V3 0) p1 p2 hc5)) (zg_X1_wishFor zw2_161) zv_X1_wishFor ⟨rfl, rfl⟩ ⟨Nat.le_of_ble_eq_true rfl, Nat.le_of_ble_eq_true rfl⟩ (hM.recv hK (dm_0 (g := 0) (i := 0) (by decide) rfl) (zd_0 G V3 0 0) rfl) rfl hl.1 rfl (Nat.le_of_ble_eq_true rfl) dX9_wish_21 ⟨Nat.zero_le _, Nat.zero_le _⟩ (fun H locs hM hS => ?_)
  rw [← eV7] at hM
  refine W.eq (g2 := F0 m 24 ls [.int r4, .ref (gA G 11 0 0)]) rfl ?_
  obtain ⟨r8, k10, V11, hc9, eV11, hf⟩ := bndG_some hf
  refine z_callV (As := [.int r4]) (rest := []) (C := RX2) hx hb hml hown hL hK hM hS (z_ctG (kX2_settle l G A V7 (V7 7) r4 hc9)) (zg_X2_settle zw2_49) zv_X2_settle ⟨rfl, rfl⟩ ⟨Nat.le_of_ble_eq_true rfl, Nat.le_of_ble_eq_true rfl⟩ (hM.recv hK dm_11 (zd_11 G V7 0 0) rfl) rfl hl.1 rfl (Nat.le_of_ble_eq_true rfl) dX9_wish_24 ⟨Nat.zero_le _, Nat.zero_le _⟩ (fun H locs hM hS => ?_)
  rw [← eV11] at hM
  refine W.eq (g2 := F0 m 27 ls [.int r8]) rfl ?_
  exact hQf hf hM hS dX9_wish_27
abbrev rX9_noWish : Room := { frames := 3, cells := 0, slots := 0, locals := 65 }
set_option maxRecDepth 100000 in
set_option maxHeartbeats 4000000 in
theorem kX9_noWish (l : Launch) (G : zG) (A : Nat → Prop) (V : zV3) (p1 : Int32) {r : Int32} {V' : zV3} (hf : xX9_noWish V p1 = some (r, V')) : zCt l G A yX9_noWish cX9_noWish 2 (some .int) rX9_noWish [.ref (gA G 10 0 0), .int p1] V (some (.int r)) V' := by
  refine z_CtI (by decide) (Nat.le_of_ble_eq_true rfl) ?_
  intro p e s m args below meth c Q hx hb hml hown hL hK hM hS hQ ls hl
  replace hl : lv_has ls 2 [(0, .ref (gA G 10 0 0)), (1, .int p1)] := hl
  have hQf : ∀ {a : Int32} {k : zV3} {H : Heap} {locs : List Loc} {pc : Nat} {ls : Array Slot}, some (a, k) = some (r, V') → zM G k H → va_S A s.heap H locs → decode cX9_noWish pc = .ok (.ireturn, 1) → W p l e rX9_noWish s m args below meth c H locs 0 0 Q (F0 m pc ls [.int a]) := by
    intro a k H locs pc ls e1 hM hS hd
    cases e1
    exact hQ H locs pc ls hM hS hd
  unfold xX9_noWish at hf
  refine lv_aload_n hx hb dX9_noWish_0 rfl (lv_at hl 0 rfl) ?_
  refine z_get (own := RX9) (C := RX9) (T := TX9) (N := 4) (ci := 7) (v := .ref (gA G 11 0 0)) hx hb hL inX9 hown hK hM dm_10 (zd_10 G V) rfl 1 (by decide) (hL _ zw2_2) rfl rfl dX9_noWish_1 ?_
  refine lv_aload_n hx hb dX9_noWish_4 rfl (lv_at hl 0 rfl) ?_
  refine z_get (own := RX9) (C := RX9) (T := TX9) (N := 4) (ci := 7) (v := .ref (gA G 0 0 0)) hx hb hL inX9 hown hK hM dm_10 (zd_10 G V) rfl 0 (by decide) (hL _ zw2_1) rfl rfl dX9_noWish_5 ?_
  obtain ⟨r1, V3, hc2, hf⟩ := bnd_some hf
  refine z_callV (As := [.ref (gA G 0 0 0)]) (rest := []) (C := RX2) hx hb hml hown hL hK hM hS (kX2_prepare l G A V 0 (by decide) hc2) (zg_X2_prepare zw2_18) zv_X2_prepare ⟨rfl, rfl⟩ ⟨Nat.le_of_ble_eq_true rfl, Nat.le_of_ble_eq_true rfl⟩ (hM.recv hK dm_11 (zd_11 G V 0 0) rfl) rfl hl.1 rfl (Nat.le_of_ble_eq_true rfl) dX9_noWish_8 ⟨Nat.zero_le _, Nat.zero_le _⟩ (fun H locs hM hS => ?_)
  refine W.eq (g2 := F0 m 11 ls []) rfl ?_
  refine lv_aload_n hx hb dX9_noWish_11 rfl (lv_at hl 0 rfl) ?_
  refine z_get (own := RX9) (C := RX9) (T := TX9) (N := 4) (ci := 7) (v := .ref (gA G 11 0 0)) hx hb hL inX9 hown hK hM dm_10 (zd_10 G V3) rfl 1 (by decide) (hL _ zw2_2) rfl rfl dX9_noWish_12 ?_
  refine lv_aload_n hx hb dX9_noWish_15 rfl (lv_at hl 0 rfl) ?_
  refine z_get (own := RX9) (C := RX9) (T := TX9) (N := 4) (ci := 7) (v := .ref (gA G 0 0 0)) hx hb hL inX9 hown hK hM dm_10 (zd_10 G V3) rfl 0 (by decide) (hL _ zw2_1) rfl rfl dX9_noWish_16 ?_
  refine lv_iload_n hx hb dX9_noWish_19 rfl (lv_at hl 1 rfl) ?_
  obtain ⟨r4, k6, V7, hc5, eV7, hf⟩ := bndG_some hf
  refine z_callV (As := [.int p1]) (rest := [.ref (gA G 11 0 0)]) (C := RX1) hx hb hml hown hL hK hM hS (z_ctG (kX1_endWish l G A V3 0 (by decide) (V3 0) p1 hc5)) (zg_X1_endWish zw2_169) zv_X1_endWish ⟨rfl, rfl⟩ ⟨Nat.le_of_ble_eq_true rfl, Nat.le_of_ble_eq_true rfl⟩ (hM.recv hK (dm_0 (g := 0) (i := 0) (by decide) rfl) (zd_0 G V3 0 0) rfl) rfl hl.1 rfl (Nat.le_of_ble_eq_true rfl) dX9_noWish_20 ⟨Nat.zero_le _, Nat.zero_le _⟩ (fun H locs hM hS => ?_)
  rw [← eV7] at hM
  refine W.eq (g2 := F0 m 23 ls [.int r4, .ref (gA G 11 0 0)]) rfl ?_
  obtain ⟨r8, k10, V11, hc9, eV11, hf⟩ := bndG_some hf
  refine z_callV (As := [.int r4]) (rest := []) (C := RX2) hx hb hml hown hL hK hM hS (z_ctG (kX2_settle l G A V7 (V7 7) r4 hc9)) (zg_X2_settle zw2_49) zv_X2_settle ⟨rfl, rfl⟩ ⟨Nat.le_of_ble_eq_true rfl, Nat.le_of_ble_eq_true rfl⟩ (hM.recv hK dm_11 (zd_11 G V7 0 0) rfl) rfl hl.1 rfl (Nat.le_of_ble_eq_true rfl) dX9_noWish_23 ⟨Nat.zero_le _, Nat.zero_le _⟩ (fun H locs hM hS => ?_)
  rw [← eV11] at hM
  refine W.eq (g2 := F0 m 26 ls [.int r8]) rfl ?_
  exact hQf hf hM hS dX9_noWish_26
abbrev rX9_swap : Room := { frames := 4, cells := 0, slots := 0, locals := 93 }
set_option maxRecDepth 100000 in
set_option maxHeartbeats 4000000 in
theorem kX9_swap (l : Launch) (G : zG) (A : Nat → Prop) (V : zV3) {r : Int32} {V' : zV3} (hf : xX9_swap V  = some (r, V')) : zCt l G A yX9_swap cX9_swap 1 (some .int) rX9_swap [.ref (gA G 10 0 0)] V (some (.int r)) V' := by
  refine z_CtI (by decide) (Nat.le_of_ble_eq_true rfl) ?_
  intro p e s m args below meth c Q hx hb hml hown hL hK hM hS hQ ls hl
  replace hl : lv_has ls 1 [(0, .ref (gA G 10 0 0))] := hl
  have hQf : ∀ {a : Int32} {k : zV3} {H : Heap} {locs : List Loc} {pc : Nat} {ls : Array Slot}, some (a, k) = some (r, V') → zM G k H → va_S A s.heap H locs → decode cX9_swap pc = .ok (.ireturn, 1) → W p l e rX9_swap s m args below meth c H locs 0 0 Q (F0 m pc ls [.int a]) := by
    intro a k H locs pc ls e1 hM hS hd
    cases e1
    exact hQ H locs pc ls hM hS hd
  unfold xX9_swap at hf
  refine lv_aload_n hx hb dX9_swap_0 rfl (lv_at hl 0 rfl) ?_
  refine z_get (own := RX9) (C := RX9) (T := TX9) (N := 4) (ci := 7) (v := .ref (gA G 11 0 0)) hx hb hL inX9 hown hK hM dm_10 (zd_10 G V) rfl 1 (by decide) (hL _ zw2_2) rfl rfl dX9_swap_1 ?_
  refine lv_aload_n hx hb dX9_swap_4 rfl (lv_at hl 0 rfl) ?_
  refine z_get (own := RX9) (C := RX9) (T := TX9) (N := 4) (ci := 7) (v := .ref (gA G 0 0 0)) hx hb hL inX9 hown hK hM dm_10 (zd_10 G V) rfl 0 (by decide) (hL _ zw2_1) rfl rfl dX9_swap_5 ?_
  obtain ⟨r1, V3, hc2, hf⟩ := bnd_some hf
  refine z_callV (As := [.ref (gA G 0 0 0)]) (rest := []) (C := RX2) hx hb hml hown hL hK hM hS (kX2_prepare l G A V 0 (by decide) hc2) (zg_X2_prepare zw2_18) zv_X2_prepare ⟨rfl, rfl⟩ ⟨Nat.le_of_ble_eq_true rfl, Nat.le_of_ble_eq_true rfl⟩ (hM.recv hK dm_11 (zd_11 G V 0 0) rfl) rfl hl.1 rfl (Nat.le_of_ble_eq_true rfl) dX9_swap_8 ⟨Nat.zero_le _, Nat.zero_le _⟩ (fun H locs hM hS => ?_)
  refine W.eq (g2 := F0 m 11 ls []) rfl ?_
  refine lv_aload_n hx hb dX9_swap_11 rfl (lv_at hl 0 rfl) ?_
  refine z_get (own := RX9) (C := RX9) (T := TX9) (N := 4) (ci := 7) (v := .ref (gA G 11 0 0)) hx hb hL inX9 hown hK hM dm_10 (zd_10 G V3) rfl 1 (by decide) (hL _ zw2_2) rfl rfl dX9_swap_12 ?_
  refine lv_aload_n hx hb dX9_swap_15 rfl (lv_at hl 0 rfl) ?_
  refine z_get (own := RX9) (C := RX9) (T := TX9) (N := 4) (ci := 7) (v := .ref (gA G 0 0 0)) hx hb hL inX9 hown hK hM dm_10 (zd_10 G V3) rfl 0 (by decide) (hL _ zw2_1) rfl rfl dX9_swap_16 ?_
  obtain ⟨r4, k6, V7, hc5, eV7, hf⟩ := bndG_some hf
  refine z_callV (As := []) (rest := [.ref (gA G 11 0 0)]) (C := RX1) hx hb hml hown hL hK hM hS (z_ctG (kX1_swapAll l G A V3 0 (by decide) (V3 0) hc5)) (zg_X1_swapAll zw2_181) zv_X1_swapAll ⟨rfl, rfl⟩ ⟨Nat.le_of_ble_eq_true rfl, Nat.le_of_ble_eq_true rfl⟩ (hM.recv hK (dm_0 (g := 0) (i := 0) (by decide) rfl) (zd_0 G V3 0 0) rfl) rfl hl.1 rfl (Nat.le_of_ble_eq_true rfl) dX9_swap_19 ⟨Nat.zero_le _, Nat.zero_le _⟩ (fun H locs hM hS => ?_)
  rw [← eV7] at hM
  refine W.eq (g2 := F0 m 22 ls [.int r4, .ref (gA G 11 0 0)]) rfl ?_
  obtain ⟨r8, k10, V11, hc9, eV11, hf⟩ := bndG_some hf
  refine z_callV (As := [.int r4]) (rest := []) (C := RX2) hx hb hml hown hL hK hM hS (z_ctG (kX2_settle l G A V7 (V7 7) r4 hc9)) (zg_X2_settle zw2_49) zv_X2_settle ⟨rfl, rfl⟩ ⟨Nat.le_of_ble_eq_true rfl, Nat.le_of_ble_eq_true rfl⟩ (hM.recv hK dm_11 (zd_11 G V7 0 0) rfl) rfl hl.1 rfl (Nat.le_of_ble_eq_true rfl) dX9_swap_22 ⟨Nat.zero_le _, Nat.zero_le _⟩ (fun H locs hM hS => ?_)
  rw [← eV11] at hM
  refine W.eq (g2 := F0 m 25 ls [.int r8]) rfl ?_
  exact hQf hf hM hS dX9_swap_25
abbrev rX9_pay : Room := { frames := 3, cells := 0, slots := 0, locals := 65 }
set_option maxRecDepth 100000 in
set_option maxHeartbeats 4000000 in
theorem kX9_pay (l : Launch) (G : zG) (A : Nat → Prop) (V : zV3) (p1 : Int32) (p2 : Int32) {r : Int32} {V' : zV3} (hf : xX9_pay V p1 p2 = some (r, V')) : zCt l G A yX9_pay cX9_pay 3 (some .int) rX9_pay [.ref (gA G 10 0 0), .int p1, .int p2] V (some (.int r)) V' := by
  refine z_CtI (by decide) (Nat.le_of_ble_eq_true rfl) ?_
  intro p e s m args below meth c Q hx hb hml hown hL hK hM hS hQ ls hl
  replace hl : lv_has ls 3 [(0, .ref (gA G 10 0 0)), (1, .int p1), (2, .int p2)] := hl
  have hQf : ∀ {a : Int32} {k : zV3} {H : Heap} {locs : List Loc} {pc : Nat} {ls : Array Slot}, some (a, k) = some (r, V') → zM G k H → va_S A s.heap H locs → decode cX9_pay pc = .ok (.ireturn, 1) → W p l e rX9_pay s m args below meth c H locs 0 0 Q (F0 m pc ls [.int a]) := by
    intro a k H locs pc ls e1 hM hS hd
    cases e1
    exact hQ H locs pc ls hM hS hd
  unfold xX9_pay at hf
  refine lv_aload_n hx hb dX9_pay_0 rfl (lv_at hl 0 rfl) ?_
  refine z_get (own := RX9) (C := RX9) (T := TX9) (N := 4) (ci := 7) (v := .ref (gA G 11 0 0)) hx hb hL inX9 hown hK hM dm_10 (zd_10 G V) rfl 1 (by decide) (hL _ zw2_2) rfl rfl dX9_pay_1 ?_
  refine lv_aload_n hx hb dX9_pay_4 rfl (lv_at hl 0 rfl) ?_
  refine z_get (own := RX9) (C := RX9) (T := TX9) (N := 4) (ci := 7) (v := .ref (gA G 0 0 0)) hx hb hL inX9 hown hK hM dm_10 (zd_10 G V) rfl 0 (by decide) (hL _ zw2_1) rfl rfl dX9_pay_5 ?_
  obtain ⟨r1, V3, hc2, hf⟩ := bnd_some hf
  refine z_callV (As := [.ref (gA G 0 0 0)]) (rest := []) (C := RX2) hx hb hml hown hL hK hM hS (kX2_prepare l G A V 0 (by decide) hc2) (zg_X2_prepare zw2_18) zv_X2_prepare ⟨rfl, rfl⟩ ⟨Nat.le_of_ble_eq_true rfl, Nat.le_of_ble_eq_true rfl⟩ (hM.recv hK dm_11 (zd_11 G V 0 0) rfl) rfl hl.1 rfl (Nat.le_of_ble_eq_true rfl) dX9_pay_8 ⟨Nat.zero_le _, Nat.zero_le _⟩ (fun H locs hM hS => ?_)
  refine W.eq (g2 := F0 m 11 ls []) rfl ?_
  refine lv_aload_n hx hb dX9_pay_11 rfl (lv_at hl 0 rfl) ?_
  refine z_get (own := RX9) (C := RX9) (T := TX9) (N := 4) (ci := 7) (v := .ref (gA G 11 0 0)) hx hb hL inX9 hown hK hM dm_10 (zd_10 G V3) rfl 1 (by decide) (hL _ zw2_2) rfl rfl dX9_pay_12 ?_
  refine lv_aload_n hx hb dX9_pay_15 rfl (lv_at hl 0 rfl) ?_
  refine z_get (own := RX9) (C := RX9) (T := TX9) (N := 4) (ci := 7) (v := .ref (gA G 0 0 0)) hx hb hL inX9 hown hK hM dm_10 (zd_10 G V3) rfl 0 (by decide) (hL _ zw2_1) rfl rfl dX9_pay_16 ?_
  refine lv_iload_n hx hb dX9_pay_19 rfl (lv_at hl 1 rfl) ?_
  refine lv_iload_n hx hb dX9_pay_20 rfl (lv_at hl 2 rfl) ?_
  obtain ⟨r4, k6, V7, hc5, eV7, hf⟩ := bndG_some hf
  refine z_callV (As := [.int p1, .int p2]) (rest := [.ref (gA G 11 0 0)]) (C := RX1) hx hb hml hown hL hK hM hS (z_ctG (kX1_payCoins l G A V3 0 (by decide) (V3 0) p1 p2 hc5)) (zg_X1_payCoins zw2_221) zv_X1_payCoins ⟨rfl, rfl⟩ ⟨Nat.le_of_ble_eq_true rfl, Nat.le_of_ble_eq_true rfl⟩ (hM.recv hK (dm_0 (g := 0) (i := 0) (by decide) rfl) (zd_0 G V3 0 0) rfl) rfl hl.1 rfl (Nat.le_of_ble_eq_true rfl) dX9_pay_21 ⟨Nat.zero_le _, Nat.zero_le _⟩ (fun H locs hM hS => ?_)
  rw [← eV7] at hM
  refine W.eq (g2 := F0 m 24 ls [.int r4, .ref (gA G 11 0 0)]) rfl ?_
  obtain ⟨r8, k10, V11, hc9, eV11, hf⟩ := bndG_some hf
  refine z_callV (As := [.int r4]) (rest := []) (C := RX2) hx hb hml hown hL hK hM hS (z_ctG (kX2_settle l G A V7 (V7 7) r4 hc9)) (zg_X2_settle zw2_49) zv_X2_settle ⟨rfl, rfl⟩ ⟨Nat.le_of_ble_eq_true rfl, Nat.le_of_ble_eq_true rfl⟩ (hM.recv hK dm_11 (zd_11 G V7 0 0) rfl) rfl hl.1 rfl (Nat.le_of_ble_eq_true rfl) dX9_pay_24 ⟨Nat.zero_le _, Nat.zero_le _⟩ (fun H locs hM hS => ?_)
  rw [← eV11] at hM
  refine W.eq (g2 := F0 m 27 ls [.int r8]) rfl ?_
  exact hQf hf hM hS dX9_pay_27
abbrev rX9_pass : Room := { frames := 4, cells := 0, slots := 0, locals := 94 }
set_option maxRecDepth 100000 in
set_option maxHeartbeats 4000000 in
theorem kX9_pass (l : Launch) (G : zG) (A : Nat → Prop) (V : zV3) (p1 : Int32) {r : Int32} {V' : zV3} (hf : xX9_pass V p1 = some (r, V')) : zCt l G A yX9_pass cX9_pass 2 (some .int) rX9_pass [.ref (gA G 10 0 0), .int p1] V (some (.int r)) V' := by
  refine z_CtI (by decide) (Nat.le_of_ble_eq_true rfl) ?_
  intro p e s m args below meth c Q hx hb hml hown hL hK hM hS hQ ls hl
  replace hl : lv_has ls 2 [(0, .ref (gA G 10 0 0)), (1, .int p1)] := hl
  have hQf : ∀ {a : Int32} {k : zV3} {H : Heap} {locs : List Loc} {pc : Nat} {ls : Array Slot}, some (a, k) = some (r, V') → zM G k H → va_S A s.heap H locs → decode cX9_pass pc = .ok (.ireturn, 1) → W p l e rX9_pass s m args below meth c H locs 0 0 Q (F0 m pc ls [.int a]) := by
    intro a k H locs pc ls e1 hM hS hd
    cases e1
    exact hQ H locs pc ls hM hS hd
  unfold xX9_pass at hf
  refine lv_aload_n hx hb dX9_pass_0 rfl (lv_at hl 0 rfl) ?_
  refine z_get (own := RX9) (C := RX9) (T := TX9) (N := 4) (ci := 7) (v := .ref (gA G 11 0 0)) hx hb hL inX9 hown hK hM dm_10 (zd_10 G V) rfl 1 (by decide) (hL _ zw2_2) rfl rfl dX9_pass_1 ?_
  refine lv_aload_n hx hb dX9_pass_4 rfl (lv_at hl 0 rfl) ?_
  refine z_get (own := RX9) (C := RX9) (T := TX9) (N := 4) (ci := 7) (v := .ref (gA G 0 0 0)) hx hb hL inX9 hown hK hM dm_10 (zd_10 G V) rfl 0 (by decide) (hL _ zw2_1) rfl rfl dX9_pass_5 ?_
  obtain ⟨r1, V3, hc2, hf⟩ := bnd_some hf
  refine z_callV (As := [.ref (gA G 0 0 0)]) (rest := []) (C := RX2) hx hb hml hown hL hK hM hS (kX2_prepare l G A V 0 (by decide) hc2) (zg_X2_prepare zw2_18) zv_X2_prepare ⟨rfl, rfl⟩ ⟨Nat.le_of_ble_eq_true rfl, Nat.le_of_ble_eq_true rfl⟩ (hM.recv hK dm_11 (zd_11 G V 0 0) rfl) rfl hl.1 rfl (Nat.le_of_ble_eq_true rfl) dX9_pass_8 ⟨Nat.zero_le _, Nat.zero_le _⟩ (fun H locs hM hS => ?_)
  refine W.eq (g2 := F0 m 11 ls []) rfl ?_
  refine lv_aload_n hx hb dX9_pass_11 rfl (lv_at hl 0 rfl) ?_
  refine z_get (own := RX9) (C := RX9) (T := TX9) (N := 4) (ci := 7) (v := .ref (gA G 11 0 0)) hx hb hL inX9 hown hK hM dm_10 (zd_10 G V3) rfl 1 (by decide) (hL _ zw2_2) rfl rfl dX9_pass_12 ?_
  refine lv_aload_n hx hb dX9_pass_15 rfl (lv_at hl 0 rfl) ?_
  refine z_get (own := RX9) (C := RX9) (T := TX9) (N := 4) (ci := 7) (v := .ref (gA G 0 0 0)) hx hb hL inX9 hown hK hM dm_10 (zd_10 G V3) rfl 0 (by decide) (hL _ zw2_1) rfl rfl dX9_pass_16 ?_
  refine lv_iload_n hx hb dX9_pass_19 rfl (lv_at hl 1 rfl) ?_
  refine lv_sipush (v := 5000) hx hb dX9_pass_20 (by decide) ?_
  obtain ⟨r4, k6, V7, hc5, eV7, hf⟩ := bndG_some hf
  refine z_callV (As := [.int p1, .int (5000 : Int32)]) (rest := [.ref (gA G 11 0 0)]) (C := RX1) hx hb hml hown hL hK hM hS (z_ctG (kX1_passDays l G A V3 0 (by decide) (V3 0) p1 (5000 : Int32) hc5)) (zg_X1_passDays zw2_229) zv_X1_passDays ⟨rfl, rfl⟩ ⟨Nat.le_of_ble_eq_true rfl, Nat.le_of_ble_eq_true rfl⟩ (hM.recv hK (dm_0 (g := 0) (i := 0) (by decide) rfl) (zd_0 G V3 0 0) rfl) rfl hl.1 rfl (Nat.le_of_ble_eq_true rfl) dX9_pass_23 ⟨Nat.zero_le _, Nat.zero_le _⟩ (fun H locs hM hS => ?_)
  rw [← eV7] at hM
  refine W.eq (g2 := F0 m 26 ls [.int r4, .ref (gA G 11 0 0)]) rfl ?_
  obtain ⟨r8, k10, V11, hc9, eV11, hf⟩ := bndG_some hf
  refine z_callV (As := [.int r4]) (rest := []) (C := RX2) hx hb hml hown hL hK hM hS (z_ctG (kX2_settle l G A V7 (V7 7) r4 hc9)) (zg_X2_settle zw2_49) zv_X2_settle ⟨rfl, rfl⟩ ⟨Nat.le_of_ble_eq_true rfl, Nat.le_of_ble_eq_true rfl⟩ (hM.recv hK dm_11 (zd_11 G V7 0 0) rfl) rfl hl.1 rfl (Nat.le_of_ble_eq_true rfl) dX9_pass_26 ⟨Nat.zero_le _, Nat.zero_le _⟩ (fun H locs hM hS => ?_)
  rw [← eV11] at hM
  refine W.eq (g2 := F0 m 29 ls [.int r8]) rfl ?_
  exact hQf hf hM hS dX9_pass_29
abbrev rX9_set : Room := { frames := 3, cells := 0, slots := 0, locals := 65 }
set_option maxRecDepth 100000 in
set_option maxHeartbeats 4000000 in
theorem kX9_set (l : Launch) (G : zG) (A : Nat → Prop) (V : zV3) (p1 : Int32) (p2 : Int32) {r : Int32} {V' : zV3} (hf : xX9_set V p1 p2 = some (r, V')) : zCt l G A yX9_set cX9_set 3 (some .int) rX9_set [.ref (gA G 10 0 0), .int p1, .int p2] V (some (.int r)) V' := by
  refine z_CtI (by decide) (Nat.le_of_ble_eq_true rfl) ?_
  intro p e s m args below meth c Q hx hb hml hown hL hK hM hS hQ ls hl
  replace hl : lv_has ls 3 [(0, .ref (gA G 10 0 0)), (1, .int p1), (2, .int p2)] := hl
  have hQf : ∀ {a : Int32} {k : zV3} {H : Heap} {locs : List Loc} {pc : Nat} {ls : Array Slot}, some (a, k) = some (r, V') → zM G k H → va_S A s.heap H locs → decode cX9_set pc = .ok (.ireturn, 1) → W p l e rX9_set s m args below meth c H locs 0 0 Q (F0 m pc ls [.int a]) := by
    intro a k H locs pc ls e1 hM hS hd
    cases e1
    exact hQ H locs pc ls hM hS hd
  unfold xX9_set at hf
  refine lv_aload_n hx hb dX9_set_0 rfl (lv_at hl 0 rfl) ?_
  refine z_get (own := RX9) (C := RX9) (T := TX9) (N := 4) (ci := 7) (v := .ref (gA G 11 0 0)) hx hb hL inX9 hown hK hM dm_10 (zd_10 G V) rfl 1 (by decide) (hL _ zw2_2) rfl rfl dX9_set_1 ?_
  refine lv_aload_n hx hb dX9_set_4 rfl (lv_at hl 0 rfl) ?_
  refine z_get (own := RX9) (C := RX9) (T := TX9) (N := 4) (ci := 7) (v := .ref (gA G 0 0 0)) hx hb hL inX9 hown hK hM dm_10 (zd_10 G V) rfl 0 (by decide) (hL _ zw2_1) rfl rfl dX9_set_5 ?_
  obtain ⟨r1, V3, hc2, hf⟩ := bnd_some hf
  refine z_callV (As := [.ref (gA G 0 0 0)]) (rest := []) (C := RX2) hx hb hml hown hL hK hM hS (kX2_prepare l G A V 0 (by decide) hc2) (zg_X2_prepare zw2_18) zv_X2_prepare ⟨rfl, rfl⟩ ⟨Nat.le_of_ble_eq_true rfl, Nat.le_of_ble_eq_true rfl⟩ (hM.recv hK dm_11 (zd_11 G V 0 0) rfl) rfl hl.1 rfl (Nat.le_of_ble_eq_true rfl) dX9_set_8 ⟨Nat.zero_le _, Nat.zero_le _⟩ (fun H locs hM hS => ?_)
  refine W.eq (g2 := F0 m 11 ls []) rfl ?_
  refine lv_aload_n hx hb dX9_set_11 rfl (lv_at hl 0 rfl) ?_
  refine z_get (own := RX9) (C := RX9) (T := TX9) (N := 4) (ci := 7) (v := .ref (gA G 11 0 0)) hx hb hL inX9 hown hK hM dm_10 (zd_10 G V3) rfl 1 (by decide) (hL _ zw2_2) rfl rfl dX9_set_12 ?_
  refine lv_aload_n hx hb dX9_set_15 rfl (lv_at hl 0 rfl) ?_
  refine z_get (own := RX9) (C := RX9) (T := TX9) (N := 4) (ci := 7) (v := .ref (gA G 0 0 0)) hx hb hL inX9 hown hK hM dm_10 (zd_10 G V3) rfl 0 (by decide) (hL _ zw2_1) rfl rfl dX9_set_16 ?_
  refine lv_iload_n hx hb dX9_set_19 rfl (lv_at hl 1 rfl) ?_
  refine lv_iload_n hx hb dX9_set_20 rfl (lv_at hl 2 rfl) ?_
  obtain ⟨r4, k6, V7, hc5, eV7, hf⟩ := bndG_some hf
  refine z_callV (As := [.int p1, .int p2]) (rest := [.ref (gA G 11 0 0)]) (C := RX1) hx hb hml hown hL hK hM hS (z_ctG (kX1_changeSetting l G A V3 0 (by decide) (V3 0) p1 p2 hc5)) (zg_X1_changeSetting zw3_8) zv_X1_changeSetting ⟨rfl, rfl⟩ ⟨Nat.le_of_ble_eq_true rfl, Nat.le_of_ble_eq_true rfl⟩ (hM.recv hK (dm_0 (g := 0) (i := 0) (by decide) rfl) (zd_0 G V3 0 0) rfl) rfl hl.1 rfl (Nat.le_of_ble_eq_true rfl) dX9_set_21 ⟨Nat.zero_le _, Nat.zero_le _⟩ (fun H locs hM hS => ?_)
  rw [← eV7] at hM
  refine W.eq (g2 := F0 m 24 ls [.int r4, .ref (gA G 11 0 0)]) rfl ?_
  obtain ⟨r8, k10, V11, hc9, eV11, hf⟩ := bndG_some hf
  refine z_callV (As := [.int r4]) (rest := []) (C := RX2) hx hb hml hown hL hK hM hS (z_ctG (kX2_settle l G A V7 (V7 7) r4 hc9)) (zg_X2_settle zw2_49) zv_X2_settle ⟨rfl, rfl⟩ ⟨Nat.le_of_ble_eq_true rfl, Nat.le_of_ble_eq_true rfl⟩ (hM.recv hK dm_11 (zd_11 G V7 0 0) rfl) rfl hl.1 rfl (Nat.le_of_ble_eq_true rfl) dX9_set_24 ⟨Nat.zero_le _, Nat.zero_le _⟩ (fun H locs hM hS => ?_)
  rw [← eV11] at hM
  refine W.eq (g2 := F0 m 27 ls [.int r8]) rfl ?_
  exact hQf hf hM hS dX9_set_27
abbrev rX9_personOf : Room := { frames := 2, cells := 0, slots := 0, locals := 45 }
set_option maxRecDepth 100000 in
set_option maxHeartbeats 4000000 in
theorem kX9_personOf (l : Launch) (G : zG) (A : Nat → Prop) (V : zV3) (p1 : Int32) (p2 : Int32) {r : Int32} {V' : zV3} (hf : xX9_personOf V p1 p2 = some (r, V')) : zCt l G A yX9_personOf cX9_personOf 3 (some .int) rX9_personOf [.ref (gA G 10 0 0), .int p1, .int p2] V (some (.int r)) V' := by
  refine z_CtI (by decide) (Nat.le_of_ble_eq_true rfl) ?_
  intro p e s m args below meth c Q hx hb hml hown hL hK hM hS hQ ls hl
  replace hl : lv_has ls 3 [(0, .ref (gA G 10 0 0)), (1, .int p1), (2, .int p2)] := hl
  have hQf : ∀ {a : Int32} {k : zV3} {H : Heap} {locs : List Loc} {pc : Nat} {ls : Array Slot}, some (a, k) = some (r, V') → zM G k H → va_S A s.heap H locs → decode cX9_personOf pc = .ok (.ireturn, 1) → W p l e rX9_personOf s m args below meth c H locs 0 0 Q (F0 m pc ls [.int a]) := by
    intro a k H locs pc ls e1 hM hS hd
    cases e1
    exact hQ H locs pc ls hM hS hd
  unfold xX9_personOf at hf
  refine lv_aload_n hx hb dX9_personOf_0 rfl (lv_at hl 0 rfl) ?_
  refine z_get (own := RX9) (C := RX9) (T := TX9) (N := 4) (ci := 7) (v := .ref (gA G 0 0 0)) hx hb hL inX9 hown hK hM dm_10 (zd_10 G V) rfl 0 (by decide) (hL _ zw2_1) rfl rfl dX9_personOf_1 ?_
  refine lv_iload_n hx hb dX9_personOf_4 rfl (lv_at hl 1 rfl) ?_
  refine lv_iload_n hx hb dX9_personOf_5 rfl (lv_at hl 2 rfl) ?_
  obtain ⟨r1, k3, V4, hc2, eV4, hf⟩ := bndG_some hf
  refine z_callV (As := [.int p1, .int p2]) (rest := []) (C := RX1) hx hb hml hown hL hK hM hS (z_ctG (kX1_tellOfPerson l G A V 0 (by decide) (V 0) p1 p2 hc2)) (zg_X1_tellOfPerson zw3_22) zv_X1_tellOfPerson ⟨rfl, rfl⟩ ⟨Nat.le_of_ble_eq_true rfl, Nat.le_of_ble_eq_true rfl⟩ (hM.recv hK (dm_0 (g := 0) (i := 0) (by decide) rfl) (zd_0 G V 0 0) rfl) rfl hl.1 rfl (Nat.le_of_ble_eq_true rfl) dX9_personOf_6 ⟨Nat.zero_le _, Nat.zero_le _⟩ (fun H locs hM hS => ?_)
  rw [← eV4] at hM
  refine W.eq (g2 := F0 m 9 ls [.int r1]) rfl ?_
  exact hQf hf hM hS dX9_personOf_9
abbrev rX9_lockerOf : Room := { frames := 2, cells := 0, slots := 0, locals := 44 }
set_option maxRecDepth 100000 in
set_option maxHeartbeats 4000000 in
theorem kX9_lockerOf (l : Launch) (G : zG) (A : Nat → Prop) (V : zV3) (p1 : Int32) (p2 : Int32) {r : Int32} {V' : zV3} (hf : xX9_lockerOf V p1 p2 = some (r, V')) : zCt l G A yX9_lockerOf cX9_lockerOf 3 (some .int) rX9_lockerOf [.ref (gA G 10 0 0), .int p1, .int p2] V (some (.int r)) V' := by
  refine z_CtI (by decide) (Nat.le_of_ble_eq_true rfl) ?_
  intro p e s m args below meth c Q hx hb hml hown hL hK hM hS hQ ls hl
  replace hl : lv_has ls 3 [(0, .ref (gA G 10 0 0)), (1, .int p1), (2, .int p2)] := hl
  have hQf : ∀ {a : Int32} {k : zV3} {H : Heap} {locs : List Loc} {pc : Nat} {ls : Array Slot}, some (a, k) = some (r, V') → zM G k H → va_S A s.heap H locs → decode cX9_lockerOf pc = .ok (.ireturn, 1) → W p l e rX9_lockerOf s m args below meth c H locs 0 0 Q (F0 m pc ls [.int a]) := by
    intro a k H locs pc ls e1 hM hS hd
    cases e1
    exact hQ H locs pc ls hM hS hd
  unfold xX9_lockerOf at hf
  refine lv_aload_n hx hb dX9_lockerOf_0 rfl (lv_at hl 0 rfl) ?_
  refine z_get (own := RX9) (C := RX9) (T := TX9) (N := 4) (ci := 7) (v := .ref (gA G 0 0 0)) hx hb hL inX9 hown hK hM dm_10 (zd_10 G V) rfl 0 (by decide) (hL _ zw2_1) rfl rfl dX9_lockerOf_1 ?_
  refine lv_iload_n hx hb dX9_lockerOf_4 rfl (lv_at hl 1 rfl) ?_
  refine lv_iload_n hx hb dX9_lockerOf_5 rfl (lv_at hl 2 rfl) ?_
  obtain ⟨r1, k3, V4, hc2, eV4, hf⟩ := bndG_some hf
  refine z_callV (As := [.int p1, .int p2]) (rest := []) (C := RX1) hx hb hml hown hL hK hM hS (z_ctG (kX1_tellOfLocker l G A V 0 (by decide) (V 0) p1 p2 hc2)) (zg_X1_tellOfLocker zw3_33) zv_X1_tellOfLocker ⟨rfl, rfl⟩ ⟨Nat.le_of_ble_eq_true rfl, Nat.le_of_ble_eq_true rfl⟩ (hM.recv hK (dm_0 (g := 0) (i := 0) (by decide) rfl) (zd_0 G V 0 0) rfl) rfl hl.1 rfl (Nat.le_of_ble_eq_true rfl) dX9_lockerOf_6 ⟨Nat.zero_le _, Nat.zero_le _⟩ (fun H locs hM hS => ?_)
  rw [← eV4] at hM
  refine W.eq (g2 := F0 m 9 ls [.int r1]) rfl ?_
  exact hQf hf hM hS dX9_lockerOf_9
abbrev rX9_waitingAt : Room := { frames := 1, cells := 0, slots := 0, locals := 21 }
set_option maxRecDepth 100000 in
set_option maxHeartbeats 4000000 in
theorem kX9_waitingAt (l : Launch) (G : zG) (A : Nat → Prop) (V : zV3) (p1 : Int32) (p2 : Int32) {r : Int32} {V' : zV3} (hf : xX9_waitingAt V p1 p2 = some (r, V')) : zCt l G A yX9_waitingAt cX9_waitingAt 3 (some .int) rX9_waitingAt [.ref (gA G 10 0 0), .int p1, .int p2] V (some (.int r)) V' := by
  refine z_CtI (by decide) (Nat.le_of_ble_eq_true rfl) ?_
  intro p e s m args below meth c Q hx hb hml hown hL hK hM hS hQ ls hl
  replace hl : lv_has ls 3 [(0, .ref (gA G 10 0 0)), (1, .int p1), (2, .int p2)] := hl
  have hQf : ∀ {a : Int32} {k : zV3} {H : Heap} {locs : List Loc} {pc : Nat} {ls : Array Slot}, some (a, k) = some (r, V') → zM G k H → va_S A s.heap H locs → decode cX9_waitingAt pc = .ok (.ireturn, 1) → W p l e rX9_waitingAt s m args below meth c H locs 0 0 Q (F0 m pc ls [.int a]) := by
    intro a k H locs pc ls e1 hM hS hd
    cases e1
    exact hQ H locs pc ls hM hS hd
  unfold xX9_waitingAt at hf
  refine lv_iload_n hx hb dX9_waitingAt_0 rfl (lv_at hl 1 rfl) ?_
  refine lv_if_lt (tgt := 13) hx hb dX9_waitingAt_1 (by decide) (fun c1 => ?_) (fun c1 => ?_)
  · replace hf := ift hf c1
    refine lv_iconst (v := -1) hx hb dX9_waitingAt_13 (by decide) ?_
    exact hQf hf hM hS dX9_waitingAt_14
  · replace hf := iff_ hf c1
    refine lv_iload_n hx hb dX9_waitingAt_4 rfl (lv_at hl 2 rfl) ?_
    refine lv_if_lt (tgt := 13) hx hb dX9_waitingAt_5 (by decide) (fun c2 => ?_) (fun c2 => ?_)
    · replace hf := ift hf c2
      refine lv_iconst (v := -1) hx hb dX9_waitingAt_13 (by decide) ?_
      exact hQf hf hM hS dX9_waitingAt_14
    · replace hf := iff_ hf c2
      refine lv_iload_n hx hb dX9_waitingAt_8 rfl (lv_at hl 2 rfl) ?_
      refine lv_iconst (v := 1) hx hb dX9_waitingAt_9 (by decide) ?_
      refine lv_icmp_le (tgt := 15) hx hb dX9_waitingAt_10 (by decide) (fun c3 => ?_) (fun c3 => ?_)
      · replace hf := ift hf c3
        refine lv_iload_n hx hb dX9_waitingAt_15 rfl (lv_at hl 1 rfl) ?_
        refine lv_aload_n hx hb dX9_waitingAt_16 rfl (lv_at hl 0 rfl) ?_
        refine z_get (own := RX9) (C := RX9) (T := TX9) (N := 4) (ci := 7) (v := .ref (gA G 0 0 0)) hx hb hL inX9 hown hK hM dm_10 (zd_10 G V) rfl 0 (by decide) (hL _ zw2_1) rfl rfl dX9_waitingAt_17 ?_
        refine z_getN (own := RX9) (C := RX1) (T := TX1) (N := 10) (ci := 0) (v := .ref (gA G 3 0 0)) hx hb hL inX1 hown hK hM (dm_0 (g := 0) (i := 0) (by decide) rfl) (zd_0 G V 0 0) rfl 2 (by decide) 7 rfl rfl rfl dX9_waitingAt_20 ?_
        refine z_getN (own := RX9) (C := RX3) (T := TX3) (N := 3) (ci := 2) (v := .int (V 0 (23 + 0) 0)) hx hb hL inX3 hown hK hM (dm_3 (g := 0) (i := 0) (by decide) (by decide)) (zd_3 G V 0 0) rfl 2 (by decide) 8 rfl rfl rfl dX9_waitingAt_23 ?_
        refine lv_icmp_lt (tgt := 32) hx hb dX9_waitingAt_26 (by decide) (fun c4 => ?_) (fun c4 => ?_)
        · replace hf := ift hf c4
          refine lv_iload_n hx hb dX9_waitingAt_32 rfl (lv_at hl 2 rfl) ?_
          refine lv_if_ne (tgt := 50) hx hb dX9_waitingAt_33 (by decide) (fun c5 => ?_) (fun c5 => ?_)
          · replace hf := iff_ hf c5
            refine lv_aload_n hx hb dX9_waitingAt_50 rfl (lv_at hl 0 rfl) ?_
            refine z_get (own := RX9) (C := RX9) (T := TX9) (N := 4) (ci := 7) (v := .ref (gA G 0 0 0)) hx hb hL inX9 hown hK hM dm_10 (zd_10 G V) rfl 0 (by decide) (hL _ zw2_1) rfl rfl dX9_waitingAt_51 ?_
            refine z_getN (own := RX9) (C := RX1) (T := TX1) (N := 10) (ci := 0) (v := .ref (gA G 3 0 0)) hx hb hL inX1 hown hK hM (dm_0 (g := 0) (i := 0) (by decide) rfl) (zd_0 G V 0 0) rfl 2 (by decide) 7 rfl rfl rfl dX9_waitingAt_54 ?_
            refine lv_iload_n hx hb dX9_waitingAt_57 rfl (lv_at hl 1 rfl) ?_
            obtain ⟨r6, k8, V9, hc7, eV9, hf⟩ := bndG_some hf
            refine z_callV (As := [.int p1]) (rest := []) (C := RX3) hx hb hml hown hL hK hM hS (z_ctG (kX3_sizeAt l G A V 0 (by decide) 0 (by decide) (V 0) p1 hc7)) (zg_X3_sizeAt zw3_42) zv_X3_sizeAt ⟨rfl, rfl⟩ ⟨Nat.le_of_ble_eq_true rfl, Nat.le_of_ble_eq_true rfl⟩ (hM.recv hK (dm_3 (g := 0) (i := 0) (by decide) (by decide)) (zd_3 G V 0 0) rfl) rfl hl.1 rfl (Nat.le_of_ble_eq_true rfl) dX9_waitingAt_58 ⟨Nat.zero_le _, Nat.zero_le _⟩ (fun H locs hM hS => ?_)
            rw [← eV9] at hM
            refine W.eq (g2 := F0 m 61 ls [.int r6]) rfl ?_
            exact hQf hf hM hS dX9_waitingAt_61
          · replace hf := ift hf c5
            refine lv_aload_n hx hb dX9_waitingAt_36 rfl (lv_at hl 0 rfl) ?_
            refine z_get (own := RX9) (C := RX9) (T := TX9) (N := 4) (ci := 7) (v := .ref (gA G 0 0 0)) hx hb hL inX9 hown hK hM dm_10 (zd_10 G V) rfl 0 (by decide) (hL _ zw2_1) rfl rfl dX9_waitingAt_37 ?_
            refine z_getN (own := RX9) (C := RX1) (T := TX1) (N := 10) (ci := 0) (v := .ref (gA G 3 0 0)) hx hb hL inX1 hown hK hM (dm_0 (g := 0) (i := 0) (by decide) rfl) (zd_0 G V 0 0) rfl 2 (by decide) 7 rfl rfl rfl dX9_waitingAt_40 ?_
            refine lv_iload_n hx hb dX9_waitingAt_43 rfl (lv_at hl 1 rfl) ?_
            obtain ⟨r10, k12, V13, hc11, eV13, hf⟩ := bndG_some hf
            refine z_callV (As := [.int p1]) (rest := []) (C := RX3) hx hb hml hown hL hK hM hS (z_ctG (kX3_personAt l G A V 0 (by decide) 0 (by decide) (V 0) p1 hc11)) (zg_X3_personAt zw3_41) zv_X3_personAt ⟨rfl, rfl⟩ ⟨Nat.le_of_ble_eq_true rfl, Nat.le_of_ble_eq_true rfl⟩ (hM.recv hK (dm_3 (g := 0) (i := 0) (by decide) (by decide)) (zd_3 G V 0 0) rfl) rfl hl.1 rfl (Nat.le_of_ble_eq_true rfl) dX9_waitingAt_44 ⟨Nat.zero_le _, Nat.zero_le _⟩ (fun H locs hM hS => ?_)
            rw [← eV13] at hM
            refine W.eq (g2 := F0 m 47 ls [.int r10]) rfl ?_
            refine lv_goto (tgt := 61) hx hb dX9_waitingAt_47 (by decide) ?_
            exact hQf hf hM hS dX9_waitingAt_61
        · replace hf := iff_ hf c4
          refine lv_bipush (v := -4) hx hb dX9_waitingAt_29 (by decide) ?_
          exact hQf hf hM hS dX9_waitingAt_31
      · replace hf := iff_ hf c3
        refine lv_iconst (v := -1) hx hb dX9_waitingAt_13 (by decide) ?_
        exact hQf hf hM hS dX9_waitingAt_14
abbrev rX9_count : Room := { frames := 3, cells := 0, slots := 0, locals := 63 }
set_option maxRecDepth 100000 in
set_option maxHeartbeats 4000000 in
theorem kX9_count (l : Launch) (G : zG) (A : Nat → Prop) (V : zV3) (p1 : Int32) {r : Int32} {V' : zV3} (hf : xX9_count V p1 = some (r, V')) : zCt l G A yX9_count cX9_count 2 (some .int) rX9_count [.ref (gA G 10 0 0), .int p1] V (some (.int r)) V' := by
  refine z_CtI (by decide) (Nat.le_of_ble_eq_true rfl) ?_
  intro p e s m args below meth c Q hx hb hml hown hL hK hM hS hQ ls hl
  replace hl : lv_has ls 2 [(0, .ref (gA G 10 0 0)), (1, .int p1)] := hl
  have hQf : ∀ {a : Int32} {k : zV3} {H : Heap} {locs : List Loc} {pc : Nat} {ls : Array Slot}, some (a, k) = some (r, V') → zM G k H → va_S A s.heap H locs → decode cX9_count pc = .ok (.ireturn, 1) → W p l e rX9_count s m args below meth c H locs 0 0 Q (F0 m pc ls [.int a]) := by
    intro a k H locs pc ls e1 hM hS hd
    cases e1
    exact hQ H locs pc ls hM hS hd
  unfold xX9_count at hf
  refine lv_iload_n hx hb dX9_count_0 rfl (lv_at hl 1 rfl) ?_
  by_cases c1 : p1 = (12 : Int32)
  · replace hf := ift hf c1
    refine lv_lookup (off := 27) (tgt := 28) hx hb dX9_count_1 (by decide) (by rw [c1]; rfl) (by decide) ?_
    refine lv_aload_n hx hb dX9_count_28 rfl (lv_at hl 0 rfl) ?_
    refine z_get (own := RX9) (C := RX9) (T := TX9) (N := 4) (ci := 7) (v := .ref (gA G 11 0 0)) hx hb hL inX9 hown hK hM dm_10 (zd_10 G V) rfl 1 (by decide) (hL _ zw2_2) rfl rfl dX9_count_29 ?_
    refine z_getN (own := RX9) (C := RX2) (T := TX2) (N := 3) (ci := 1) (v := .int (V 7 1 0)) hx hb hL inX2 hown hK hM dm_11 (zd_11 G V 0 0) rfl 2 (by decide) 0 rfl rfl rfl dX9_count_32 ?_
    exact hQf hf hM hS dX9_count_35
  · replace hf := iff_ hf c1
    by_cases c2 : p1 = (13 : Int32)
    · replace hf := ift hf c2
      refine lv_lookup (off := 35) (tgt := 36) hx hb dX9_count_1 (by decide) (by rw [c2]; rfl) (by decide) ?_
      refine lv_aload_n hx hb dX9_count_36 rfl (lv_at hl 0 rfl) ?_
      refine z_get (own := RX9) (C := RX9) (T := TX9) (N := 4) (ci := 7) (v := .ref (gA G 13 0 0)) hx hb hL inX9 hown hK hM dm_10 (zd_10 G V) rfl 2 (by decide) (hL _ zw2_3) rfl rfl dX9_count_37 ?_
      refine z_getN (own := RX9) (C := RX7) (T := TX7) (N := 6) (ci := 6) (v := .int (V 7 3 0)) hx hb hL inX7 hown hK hM dm_13 (zd_13 G V 0 0) rfl 1 (by decide) 1 rfl rfl rfl dX9_count_40 ?_
      exact hQf hf hM hS dX9_count_43
    · replace hf := iff_ hf c2
      refine lv_lookup (off := 43) (tgt := 44) hx hb dX9_count_1 (by decide) ((lv_osw c1 (by decide)).trans ((lv_osw c2 (by decide)).trans rfl)) (by decide) ?_
      refine lv_aload_n hx hb dX9_count_44 rfl (lv_at hl 0 rfl) ?_
      refine z_get (own := RX9) (C := RX9) (T := TX9) (N := 4) (ci := 7) (v := .ref (gA G 0 0 0)) hx hb hL inX9 hown hK hM dm_10 (zd_10 G V) rfl 0 (by decide) (hL _ zw2_1) rfl rfl dX9_count_45 ?_
      refine lv_iload_n hx hb dX9_count_48 rfl (lv_at hl 1 rfl) ?_
      obtain ⟨r3, k5, V6, hc4, eV6, hf⟩ := bndG_some hf
      refine z_callV (As := [.int p1]) (rest := []) (C := RX1) hx hb hml hown hL hK hM hS (z_ctG (kX1_tellNumber l G A V 0 (by decide) (V 0) p1 hc4)) (zg_X1_tellNumber zw3_47) zv_X1_tellNumber ⟨rfl, rfl⟩ ⟨Nat.le_of_ble_eq_true rfl, Nat.le_of_ble_eq_true rfl⟩ (hM.recv hK (dm_0 (g := 0) (i := 0) (by decide) rfl) (zd_0 G V 0 0) rfl) rfl hl.1 rfl (Nat.le_of_ble_eq_true rfl) dX9_count_49 ⟨Nat.zero_le _, Nat.zero_le _⟩ (fun H locs hM hS => ?_)
      rw [← eV6] at hM
      refine W.eq (g2 := F0 m 52 ls [.int r3]) rfl ?_
      exact hQf hf hM hS dX9_count_52
abbrev rX9_feeIn : Room := { frames := 5, cells := 0, slots := 0, locals := 119 }
set_option maxRecDepth 100000 in
set_option maxHeartbeats 4000000 in
theorem kX9_feeIn (l : Launch) (G : zG) (A : Nat → Prop) (V : zV3) (p1 : Int32) (p2 : Int32) {r : Int32} {V' : zV3} (hf : xX9_feeIn V p1 p2 = some (r, V')) : zCt l G A yX9_feeIn cX9_feeIn 3 (some .int) rX9_feeIn [.ref (gA G 10 0 0), .int p1, .int p2] V (some (.int r)) V' := by
  refine z_CtI (by decide) (Nat.le_of_ble_eq_true rfl) ?_
  intro p e s m args below meth c Q hx hb hml hown hL hK hM hS hQ ls hl
  replace hl : lv_has ls 3 [(0, .ref (gA G 10 0 0)), (1, .int p1), (2, .int p2)] := hl
  have hQf : ∀ {a : Int32} {k : zV3} {H : Heap} {locs : List Loc} {pc : Nat} {ls : Array Slot}, some (a, k) = some (r, V') → zM G k H → va_S A s.heap H locs → decode cX9_feeIn pc = .ok (.ireturn, 1) → W p l e rX9_feeIn s m args below meth c H locs 0 0 Q (F0 m pc ls [.int a]) := by
    intro a k H locs pc ls e1 hM hS hd
    cases e1
    exact hQ H locs pc ls hM hS hd
  unfold xX9_feeIn at hf
  refine lv_aload_n hx hb dX9_feeIn_0 rfl (lv_at hl 0 rfl) ?_
  refine z_get (own := RX9) (C := RX9) (T := TX9) (N := 4) (ci := 7) (v := .ref (gA G 15 0 0)) hx hb hL inX9 hown hK hM dm_10 (zd_10 G V) rfl 3 (by decide) (hL _ zw2_4) rfl rfl dX9_feeIn_1 ?_
  refine lv_aload_n hx hb dX9_feeIn_4 rfl (lv_at hl 0 rfl) ?_
  refine z_get (own := RX9) (C := RX9) (T := TX9) (N := 4) (ci := 7) (v := .ref (gA G 0 0 0)) hx hb hL inX9 hown hK hM dm_10 (zd_10 G V) rfl 0 (by decide) (hL _ zw2_1) rfl rfl dX9_feeIn_5 ?_
  refine lv_iload_n hx hb dX9_feeIn_8 rfl (lv_at hl 1 rfl) ?_
  refine lv_iload_n hx hb dX9_feeIn_9 rfl (lv_at hl 2 rfl) ?_
  obtain ⟨r1, V3, hc2, hf⟩ := bnd_some hf
  refine z_callV (As := [.ref (gA G 0 0 0), .int p1, .int p2]) (rest := []) (C := RX6) hx hb hml hown hL hK hM hS (kX6_feeOf l G A V 0 (by decide) p1 p2 hc2) (zg_X6_feeOf zw3_79) zv_X6_feeOf ⟨rfl, rfl⟩ ⟨Nat.le_of_ble_eq_true rfl, Nat.le_of_ble_eq_true rfl⟩ (hM.recv hK dm_15 (zd_15 G V 0 0) rfl) rfl hl.1 rfl (Nat.le_of_ble_eq_true rfl) dX9_feeIn_10 ⟨Nat.zero_le _, Nat.zero_le _⟩ (fun H locs hM hS => ?_)
  refine W.eq (g2 := F0 m 13 ls [.int r1]) rfl ?_
  exact hQf hf hM hS dX9_feeIn_13
