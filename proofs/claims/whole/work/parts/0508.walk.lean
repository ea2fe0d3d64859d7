abbrev rX10_changesLock : Room := { frames := 3, cells := 0, slots := 0, locals := 67 }
set_option maxRecDepth 100000 in
set_option maxHeartbeats 4000000 in
theorem kX10_changesLock (l : Launch) (G : zG) (A : Nat → Prop) (V : zV3) (h : zV2) (p1 : Int32) {r : Unit} {h' : zV2} (hf : xX10_changesLock h p1 = some (r, h')) : zCt l G A yX10_changesLock cX10_changesLock 5 none rX10_changesLock [.ref (gA G 16 0 0), .int p1] (upG V 8 h) none (upG V 8 h') := by
  refine z_CtV (by decide) (Nat.le_of_ble_eq_true rfl) ?_
  intro p e s m args below meth c Q hx hb hml hown hL hK hM hS hQ ls hl
  replace hl : lv_has ls 5 [(0, .ref (gA G 16 0 0)), (1, .int p1)] := hl
  have hQf : ∀ {a : Unit} {k : zV2} {H : Heap} {locs : List Loc} {pc : Nat} {ls : Array Slot}, some (a, k) = some (r, h') → zM G (upG V 8 k) H → va_S A s.heap H locs → decode cX10_changesLock pc = .ok (.return_, 1) → W p l e rX10_changesLock s m args below meth c H locs 0 0 Q (F0 m pc ls []) := by
    intro a k H locs pc ls e1 hM hS hd
    cases e1
    exact hQ H locs pc ls hM hS hd
  unfold xX10_changesLock at hf
  refine lv_aload_n hx hb dX10_changesLock_0 rfl (lv_at hl 0 rfl) ?_
  refine lv_iload_n hx hb dX10_changesLock_1 rfl (lv_at hl 1 rfl) ?_
  refine lv_bipush (v := 20) hx hb dX10_changesLock_2 (by decide) ?_
  obtain ⟨r1, h3, hc2, hf⟩ := bnd_some hf
  refine z_callV (As := [.int p1, .int (20 : Int32)]) (rest := []) (C := RX10) hx hb hml hown hL hK hM hS (kX10_owes l G A V h p1 (20 : Int32) hc2) (zg_X10_owes zw4_199) zv_X10_owes ⟨rfl, rfl⟩ ⟨Nat.le_of_ble_eq_true rfl, Nat.le_of_ble_eq_true rfl⟩ (hM.recv hK dm_16 (ze_16 G V 0 0 h) rfl) rfl hl.1 rfl (Nat.le_of_ble_eq_true rfl) dX10_changesLock_4 ⟨Nat.zero_le _, Nat.zero_le _⟩ (fun H locs hM hS => ?_)
  refine W.eq (g2 := F0 m 7 ls []) rfl ?_
  refine lv_aload_n hx hb dX10_changesLock_7 rfl (lv_at hl 0 rfl) ?_
  refine lv_iload_n hx hb dX10_changesLock_8 rfl (lv_at hl 1 rfl) ?_
  obtain ⟨r4, h6, hc5, hf⟩ := bnd_some hf
  refine z_callV (As := [.int p1]) (rest := []) (C := RX10) hx hb hml hown hL hK hM hS (kX10_endsLoan l G A V h3 p1 hc5) (zg_X10_endsLoan zw4_175) zv_X10_endsLoan ⟨rfl, rfl⟩ ⟨Nat.le_of_ble_eq_true rfl, Nat.le_of_ble_eq_true rfl⟩ (hM.recv hK dm_16 (ze_16 G V 0 0 h3) rfl) rfl hl.1 rfl (Nat.le_of_ble_eq_true rfl) dX10_changesLock_9 ⟨Nat.zero_le _, Nat.zero_le _⟩ (fun H locs hM hS => ?_)
  refine W.eq (g2 := F0 m 12 ls [.int r4]) rfl ?_
  refine lv_istore_n (lv' := [(2, .int r4), (0, .ref (gA G 16 0 0)), (1, .int p1)]) hx hb dX10_changesLock_12 rfl hl (by decide) rfl (fun ls hl => ?_)
  refine lv_aload_n hx hb dX10_changesLock_13 rfl (lv_at hl 1 rfl) ?_
  refine lv_iload_n hx hb dX10_changesLock_14 rfl (lv_at hl 0 rfl) ?_
  refine lv_iconst (v := 0) hx hb dX10_changesLock_15 (by decide) ?_
  obtain ⟨r7, h9, hc8, hf⟩ := bnd_some hf
  refine z_callV (As := [.int r4, .int (0 : Int32)]) (rest := []) (C := RX10) hx hb hml hown hL hK hM hS (kX10_of l G A V h6 r4 (0 : Int32) hc8) (zg_X10_of zw4_103) zv_X10_of ⟨rfl, rfl⟩ ⟨Nat.le_of_ble_eq_true rfl, Nat.le_of_ble_eq_true rfl⟩ (hM.recv hK dm_16 (ze_16 G V 0 0 h6) rfl) rfl hl.1 rfl (Nat.le_of_ble_eq_true rfl) dX10_changesLock_16 ⟨Nat.zero_le _, Nat.zero_le _⟩ (fun H locs hM hS => ?_)
  refine W.eq (g2 := F0 m 19 ls [.int r7]) rfl ?_
  refine lv_istore_n (lv' := [(3, .int r7), (2, .int r4), (0, .ref (gA G 16 0 0)), (1, .int p1)]) hx hb dX10_changesLock_19 rfl hl (by decide) rfl (fun ls hl => ?_)
  refine lv_aload_n hx hb dX10_changesLock_20 rfl (lv_at hl 2 rfl) ?_
  refine lv_iload_n hx hb dX10_changesLock_21 rfl (lv_at hl 1 rfl) ?_
  refine lv_iconst (v := 3) hx hb dX10_changesLock_22 (by decide) ?_
  refine lv_iconst (v := 1) hx hb dX10_changesLock_23 (by decide) ?_
  obtain ⟨r10, h12, hc11, hf⟩ := bnd_some hf
  refine z_callV (As := [.int r4, .int (3 : Int32), .int (1 : Int32)]) (rest := []) (C := RX10) hx hb hml hown hL hK hM hS (kX10_lay l G A V h9 r4 (3 : Int32) (1 : Int32) hc11) (zg_X10_lay zw4_71) zv_X10_lay ⟨rfl, rfl⟩ ⟨Nat.le_of_ble_eq_true rfl, Nat.le_of_ble_eq_true rfl⟩ (hM.recv hK dm_16 (ze_16 G V 0 0 h9) rfl) rfl hl.1 rfl (Nat.le_of_ble_eq_true rfl) dX10_changesLock_24 ⟨Nat.zero_le _, Nat.zero_le _⟩ (fun H locs hM hS => ?_)
  refine W.eq (g2 := F0 m 27 ls []) rfl ?_
  refine lv_aload_n hx hb dX10_changesLock_27 rfl (lv_at hl 2 rfl) ?_
  refine lv_iload_n hx hb dX10_changesLock_28 rfl (lv_at hl 1 rfl) ?_
  refine lv_iconst (v := 4) hx hb dX10_changesLock_29 (by decide) ?_
  refine lv_aload_n hx hb dX10_changesLock_30 rfl (lv_at hl 2 rfl) ?_
  refine z_get (own := RX10) (C := RX10) (T := TX10) (N := 12) (ci := 8) (v := .ref (gA G 17 0 0)) hx hb hL inX10 hown hK hM dm_16 (ze_16 G V 0 0 h12) rfl 0 (by decide) (hL _ zw4_19) rfl rfl dX10_changesLock_31 ?_
  refine lv_iconst (v := 3) hx hb dX10_changesLock_34 (by decide) ?_
  obtain ⟨hb13, hf⟩ := grd_some hf
  refine z_iald hx hb hK hM (dm_17 (i := 0) (by decide)) (ze_17_0 G V h12) (inb_in hb13) dX10_changesLock_35 ?_
  refine lv_iconst (v := 3) hx hb dX10_changesLock_36 (by decide) ?_
  refine lv_iadd hx hb dX10_changesLock_37 ?_
  obtain ⟨r14, h16, hc15, hf⟩ := bnd_some hf
  refine z_callV (As := [.int r4, .int (4 : Int32), .int ((h12 0 ((3 : Int32).toNatClampNeg)) + (3 : Int32))]) (rest := []) (C := RX10) hx hb hml hown hL hK hM hS (kX10_lay l G A V h12 r4 (4 : Int32) ((h12 0 ((3 : Int32).toNatClampNeg)) + (3 : Int32)) hc15) (zg_X10_lay zw4_71) zv_X10_lay ⟨rfl, rfl⟩ ⟨Nat.le_of_ble_eq_true rfl, Nat.le_of_ble_eq_true rfl⟩ (hM.recv hK dm_16 (ze_16 G V 0 0 h12) rfl) rfl hl.1 rfl (Nat.le_of_ble_eq_true rfl) dX10_changesLock_38 ⟨Nat.zero_le _, Nat.zero_le _⟩ (fun H locs hM hS => ?_)
  refine W.eq (g2 := F0 m 41 ls []) rfl ?_
  refine lv_aload_n hx hb dX10_changesLock_41 rfl (lv_at hl 2 rfl) ?_
  refine lv_iload_n hx hb dX10_changesLock_42 rfl (lv_at hl 0 rfl) ?_
  obtain ⟨r17, h19, hc18, hf⟩ := bnd_some hf
  refine z_callV (As := [.int r7]) (rest := []) (C := RX10) hx hb hml hown hL hK hM hS (kX10_lowestFree l G A V h16 r7 hc18) (zg_X10_lowestFree zw4_155) zv_X10_lowestFree ⟨rfl, rfl⟩ ⟨Nat.le_of_ble_eq_true rfl, Nat.le_of_ble_eq_true rfl⟩ (hM.recv hK dm_16 (ze_16 G V 0 0 h16) rfl) rfl hl.1 rfl (Nat.le_of_ble_eq_true rfl) dX10_changesLock_43 ⟨Nat.zero_le _, Nat.zero_le _⟩ (fun H locs hM hS => ?_)
  refine W.eq (g2 := F0 m 46 ls [.int r17]) rfl ?_
  refine lv_istore (lv' := [(4, .int r17), (3, .int r7), (2, .int r4), (0, .ref (gA G 16 0 0)), (1, .int p1)]) hx hb dX10_changesLock_46 hl (by decide) rfl (fun ls hl => ?_)
  refine lv_iload hx hb dX10_changesLock_48 (lv_at hl 0 rfl) ?_
  refine lv_if_lt (tgt := 63) hx hb dX10_changesLock_50 (by decide) (fun c20 => ?_) (fun c20 => ?_)
  · replace hf := ift hf c20
    refine lv_aload_n hx hb dX10_changesLock_63 rfl (lv_at hl 3 rfl) ?_
    refine lv_iload_n hx hb dX10_changesLock_64 rfl (lv_at hl 4 rfl) ?_
    refine lv_iload_n hx hb dX10_changesLock_65 rfl (lv_at hl 1 rfl) ?_
    obtain ⟨r21, h23, hc22, hf⟩ := bnd_some hf
    refine z_callV (As := [.int p1, .int r7]) (rest := []) (C := RX10) hx hb hml hown hL hK hM hS (kX10_waitsFor l G A V h19 p1 r7 hc22) (zg_X10_waitsFor zw4_159) zv_X10_waitsFor ⟨rfl, rfl⟩ ⟨Nat.le_of_ble_eq_true rfl, Nat.le_of_ble_eq_true rfl⟩ (hM.recv hK dm_16 (ze_16 G V 0 0 h19) rfl) rfl hl.1 rfl (Nat.le_of_ble_eq_true rfl) dX10_changesLock_66 ⟨Nat.zero_le _, Nat.zero_le _⟩ (fun H locs hM hS => ?_)
    refine W.eq (g2 := F0 m 69 ls []) rfl ?_
    exact hQf hf hM hS dX10_changesLock_69
  · replace hf := iff_ hf c20
    refine lv_aload_n hx hb dX10_changesLock_53 rfl (lv_at hl 3 rfl) ?_
    refine lv_iload_n hx hb dX10_changesLock_54 rfl (lv_at hl 4 rfl) ?_
    refine lv_iload hx hb dX10_changesLock_55 (lv_at hl 0 rfl) ?_
    obtain ⟨r24, h26, hc25, hf⟩ := bnd_some hf
    refine z_callV (As := [.int p1, .int r17]) (rest := []) (C := RX10) hx hb hml hown hL hK hM hS (kX10_beginsLoan l G A V h19 p1 r17 hc25) (zg_X10_beginsLoan zw4_127) zv_X10_beginsLoan ⟨rfl, rfl⟩ ⟨Nat.le_of_ble_eq_true rfl, Nat.le_of_ble_eq_true rfl⟩ (hM.recv hK dm_16 (ze_16 G V 0 0 h19) rfl) rfl hl.1 rfl (Nat.le_of_ble_eq_true rfl) dX10_changesLock_57 ⟨Nat.zero_le _, Nat.zero_le _⟩ (fun H locs hM hS => ?_)
    refine W.eq (g2 := F0 m 60 ls []) rfl ?_
    refine lv_goto (tgt := 69) hx hb dX10_changesLock_60 (by decide) ?_
    exact hQf hf hM hS dX10_changesLock_69
abbrev rX10_loses : Room := { frames := 4, cells := 0, slots := 0, locals := 91 }
set_option maxRecDepth 100000 in
set_option maxHeartbeats 4000000 in
theorem kX10_loses (l : Launch) (G : zG) (A : Nat → Prop) (V : zV3) (h : zV2) (p1 : Int32) {r : Int32} {h' : zV2} (hf : xX10_loses h p1 = some (r, h')) : zCt l G A yX10_loses cX10_loses 3 (some .int) rX10_loses [.ref (gA G 16 0 0), .int p1] (upG V 8 h) (some (.int r)) (upG V 8 h') := by
  refine z_CtI (by decide) (Nat.le_of_ble_eq_true rfl) ?_
  intro p e s m args below meth c Q hx hb hml hown hL hK hM hS hQ ls hl
  replace hl : lv_has ls 3 [(0, .ref (gA G 16 0 0)), (1, .int p1)] := hl
  have hQf : ∀ {a : Int32} {k : zV2} {H : Heap} {locs : List Loc} {pc : Nat} {ls : Array Slot}, some (a, k) = some (r, h') → zM G (upG V 8 k) H → va_S A s.heap H locs → decode cX10_loses pc = .ok (.ireturn, 1) → W p l e rX10_loses s m args below meth c H locs 0 0 Q (F0 m pc ls [.int a]) := by
    intro a k H locs pc ls e1 hM hS hd
    cases e1
    exact hQ H locs pc ls hM hS hd
  unfold xX10_loses at hf
  refine lv_aload_n hx hb dX10_loses_0 rfl (lv_at hl 0 rfl) ?_
  refine lv_iload_n hx hb dX10_loses_1 rfl (lv_at hl 1 rfl) ?_
  obtain ⟨r1, h3, hc2, hf⟩ := bnd_some hf
  refine z_callV (As := [.int p1]) (rest := []) (C := RX10) hx hb hml hown hL hK hM hS (kX10_isPerson l G A V h p1 hc2) (zg_X10_isPerson zw4_143) zv_X10_isPerson ⟨rfl, rfl⟩ ⟨Nat.le_of_ble_eq_true rfl, Nat.le_of_ble_eq_true rfl⟩ (hM.recv hK dm_16 (ze_16 G V 0 0 h) rfl) rfl hl.1 rfl (Nat.le_of_ble_eq_true rfl) dX10_loses_2 ⟨Nat.zero_le _, Nat.zero_le _⟩ (fun H locs hM hS => ?_)
  refine W.eq (g2 := F0 m 5 ls [.int r1]) rfl ?_
  refine lv_if_ne (tgt := 10) hx hb dX10_loses_5 (by decide) (fun c4 => ?_) (fun c4 => ?_)
  · replace hf := iff_ hf c4
    refine lv_aload_n hx hb dX10_loses_10 rfl (lv_at hl 0 rfl) ?_
    refine lv_iload_n hx hb dX10_loses_11 rfl (lv_at hl 1 rfl) ?_
    refine lv_iconst (v := 0) hx hb dX10_loses_12 (by decide) ?_
    obtain ⟨r5, h7, hc6, hf⟩ := bnd_some hf
    refine z_callV (As := [.int p1, .int (0 : Int32)]) (rest := []) (C := RX10) hx hb hml hown hL hK hM hS (kX10_ofP l G A V h3 p1 (0 : Int32) hc6) (zg_X10_ofP zw4_147) zv_X10_ofP ⟨rfl, rfl⟩ ⟨Nat.le_of_ble_eq_true rfl, Nat.le_of_ble_eq_true rfl⟩ (hM.recv hK dm_16 (ze_16 G V 0 0 h3) rfl) rfl hl.1 rfl (Nat.le_of_ble_eq_true rfl) dX10_loses_13 ⟨Nat.zero_le _, Nat.zero_le _⟩ (fun H locs hM hS => ?_)
    refine W.eq (g2 := F0 m 16 ls [.int r5]) rfl ?_
    refine lv_istore_n (lv' := [(2, .int r5), (0, .ref (gA G 16 0 0)), (1, .int p1)]) hx hb dX10_loses_16 rfl hl (by decide) rfl (fun ls hl => ?_)
    refine lv_iload_n hx hb dX10_loses_17 rfl (lv_at hl 0 rfl) ?_
    refine lv_if_ge (tgt := 24) hx hb dX10_loses_18 (by decide) (fun c8 => ?_) (fun c8 => ?_)
    · replace hf := ift hf c8
      refine lv_aload_n hx hb dX10_loses_24 rfl (lv_at hl 1 rfl) ?_
      refine lv_iload_n hx hb dX10_loses_25 rfl (lv_at hl 2 rfl) ?_
      refine lv_bipush (v := 6) hx hb dX10_loses_26 (by decide) ?_
      refine lv_aload_n hx hb dX10_loses_28 rfl (lv_at hl 1 rfl) ?_
      refine lv_iload_n hx hb dX10_loses_29 rfl (lv_at hl 2 rfl) ?_
      refine lv_bipush (v := 6) hx hb dX10_loses_30 (by decide) ?_
      obtain ⟨r9, h11, hc10, hf⟩ := bnd_some hf
      refine z_callV (As := [.int p1, .int (6 : Int32)]) (rest := [.int (6 : Int32), .int p1, .ref (gA G 16 0 0)]) (C := RX10) hx hb hml hown hL hK hM hS (kX10_ofP l G A V h7 p1 (6 : Int32) hc10) (zg_X10_ofP zw4_147) zv_X10_ofP ⟨rfl, rfl⟩ ⟨Nat.le_of_ble_eq_true rfl, Nat.le_of_ble_eq_true rfl⟩ (hM.recv hK dm_16 (ze_16 G V 0 0 h7) rfl) rfl hl.1 rfl (Nat.le_of_ble_eq_true rfl) dX10_loses_32 ⟨Nat.zero_le _, Nat.zero_le _⟩ (fun H locs hM hS => ?_)
      refine W.eq (g2 := F0 m 35 ls [.int r9, .int (6 : Int32), .int p1, .ref (gA G 16 0 0)]) rfl ?_
      refine lv_iconst (v := 1) hx hb dX10_loses_35 (by decide) ?_
      refine lv_iadd hx hb dX10_loses_36 ?_
      obtain ⟨r12, h14, hc13, hf⟩ := bnd_some hf
      refine z_callV (As := [.int p1, .int (6 : Int32), .int (r9 + (1 : Int32))]) (rest := []) (C := RX10) hx hb hml hown hL hK hM hS (kX10_layP l G A V h11 p1 (6 : Int32) (r9 + (1 : Int32)) hc13) (zg_X10_layP zw4_87) zv_X10_layP ⟨rfl, rfl⟩ ⟨Nat.le_of_ble_eq_true rfl, Nat.le_of_ble_eq_true rfl⟩ (hM.recv hK dm_16 (ze_16 G V 0 0 h11) rfl) rfl hl.1 rfl (Nat.le_of_ble_eq_true rfl) dX10_loses_37 ⟨Nat.zero_le _, Nat.zero_le _⟩ (fun H locs hM hS => ?_)
      refine W.eq (g2 := F0 m 40 ls []) rfl ?_
      refine lv_aload_n hx hb dX10_loses_40 rfl (lv_at hl 1 rfl) ?_
      refine lv_iload_n hx hb dX10_loses_41 rfl (lv_at hl 2 rfl) ?_
      refine lv_iconst (v := 5) hx hb dX10_loses_42 (by decide) ?_
      obtain ⟨r15, h17, hc16, hf⟩ := bnd_some hf
      refine z_callV (As := [.int p1, .int (5 : Int32)]) (rest := []) (C := RX10) hx hb hml hown hL hK hM hS (kX10_owes l G A V h14 p1 (5 : Int32) hc16) (zg_X10_owes zw4_199) zv_X10_owes ⟨rfl, rfl⟩ ⟨Nat.le_of_ble_eq_true rfl, Nat.le_of_ble_eq_true rfl⟩ (hM.recv hK dm_16 (ze_16 G V 0 0 h14) rfl) rfl hl.1 rfl (Nat.le_of_ble_eq_true rfl) dX10_loses_43 ⟨Nat.zero_le _, Nat.zero_le _⟩ (fun H locs hM hS => ?_)
      refine W.eq (g2 := F0 m 46 ls []) rfl ?_
      refine lv_aload_n hx hb dX10_loses_46 rfl (lv_at hl 1 rfl) ?_
      refine lv_iload_n hx hb dX10_loses_47 rfl (lv_at hl 0 rfl) ?_
      refine lv_iconst (v := 3) hx hb dX10_loses_48 (by decide) ?_
      obtain ⟨r18, h20, hc19, hf⟩ := bnd_some hf
      refine z_callV (As := [.int r5, .int (3 : Int32)]) (rest := []) (C := RX10) hx hb hml hown hL hK hM hS (kX10_of l G A V h17 r5 (3 : Int32) hc19) (zg_X10_of zw4_103) zv_X10_of ⟨rfl, rfl⟩ ⟨Nat.le_of_ble_eq_true rfl, Nat.le_of_ble_eq_true rfl⟩ (hM.recv hK dm_16 (ze_16 G V 0 0 h17) rfl) rfl hl.1 rfl (Nat.le_of_ble_eq_true rfl) dX10_loses_49 ⟨Nat.zero_le _, Nat.zero_le _⟩ (fun H locs hM hS => ?_)
      refine W.eq (g2 := F0 m 52 ls [.int r18]) rfl ?_
      refine lv_iconst (v := 1) hx hb dX10_loses_52 (by decide) ?_
      refine lv_icmp_ne (tgt := 66) hx hb dX10_loses_53 (by decide) (fun c21 => ?_) (fun c21 => ?_)
      · replace hf := iff_ hf c21
        refine lv_aload_n hx hb dX10_loses_66 rfl (lv_at hl 1 rfl) ?_
        refine lv_iload_n hx hb dX10_loses_67 rfl (lv_at hl 2 rfl) ?_
        obtain ⟨r22, h24, hc23, hf⟩ := bnd_some hf
        refine z_callV (As := [.int p1]) (rest := []) (C := RX10) hx hb hml hown hL hK hM hS (kX10_changesLock l G A V h20 p1 hc23) (zg_X10_changesLock zw4_203) zv_X10_changesLock ⟨rfl, rfl⟩ ⟨Nat.le_of_ble_eq_true rfl, Nat.le_of_ble_eq_true rfl⟩ (hM.recv hK dm_16 (ze_16 G V 0 0 h20) rfl) rfl hl.1 rfl (Nat.le_of_ble_eq_true rfl) dX10_loses_68 ⟨Nat.zero_le _, Nat.zero_le _⟩ (fun H locs hM hS => ?_)
        refine W.eq (g2 := F0 m 71 ls []) rfl ?_
        refine lv_aload_n hx hb dX10_loses_71 rfl (lv_at hl 1 rfl) ?_
        refine lv_iload_n hx hb dX10_loses_72 rfl (lv_at hl 2 rfl) ?_
        refine lv_iconst (v := 3) hx hb dX10_loses_73 (by decide) ?_
        obtain ⟨r25, h27, hc26, hf⟩ := bnd_some hf
        refine z_callV (As := [.int p1, .int (3 : Int32)]) (rest := []) (C := RX10) hx hb hml hown hL hK hM hS (kX10_ofP l G A V h24 p1 (3 : Int32) hc26) (zg_X10_ofP zw4_147) zv_X10_ofP ⟨rfl, rfl⟩ ⟨Nat.le_of_ble_eq_true rfl, Nat.le_of_ble_eq_true rfl⟩ (hM.recv hK dm_16 (ze_16 G V 0 0 h24) rfl) rfl hl.1 rfl (Nat.le_of_ble_eq_true rfl) dX10_loses_74 ⟨Nat.zero_le _, Nat.zero_le _⟩ (fun H locs hM hS => ?_)
        refine W.eq (g2 := F0 m 77 ls [.int r25]) rfl ?_
        exact hQf hf hM hS dX10_loses_77
      · replace hf := ift hf c21
        refine lv_aload_n hx hb dX10_loses_56 rfl (lv_at hl 1 rfl) ?_
        refine lv_iload_n hx hb dX10_loses_57 rfl (lv_at hl 0 rfl) ?_
        refine lv_iconst (v := 3) hx hb dX10_loses_58 (by decide) ?_
        refine lv_iconst (v := 0) hx hb dX10_loses_59 (by decide) ?_
        obtain ⟨r28, h30, hc29, hf⟩ := bnd_some hf
        refine z_callV (As := [.int r5, .int (3 : Int32), .int (0 : Int32)]) (rest := []) (C := RX10) hx hb hml hown hL hK hM hS (kX10_lay l G A V h20 r5 (3 : Int32) (0 : Int32) hc29) (zg_X10_lay zw4_71) zv_X10_lay ⟨rfl, rfl⟩ ⟨Nat.le_of_ble_eq_true rfl, Nat.le_of_ble_eq_true rfl⟩ (hM.recv hK dm_16 (ze_16 G V 0 0 h20) rfl) rfl hl.1 rfl (Nat.le_of_ble_eq_true rfl) dX10_loses_60 ⟨Nat.zero_le _, Nat.zero_le _⟩ (fun H locs hM hS => ?_)
        refine W.eq (g2 := F0 m 63 ls []) rfl ?_
        refine lv_goto (tgt := 71) hx hb dX10_loses_63 (by decide) ?_
        refine lv_aload_n hx hb dX10_loses_71 rfl (lv_at hl 1 rfl) ?_
        refine lv_iload_n hx hb dX10_loses_72 rfl (lv_at hl 2 rfl) ?_
        refine lv_iconst (v := 3) hx hb dX10_loses_73 (by decide) ?_
        obtain ⟨r31, h33, hc32, hf⟩ := bnd_some hf
        refine z_callV (As := [.int p1, .int (3 : Int32)]) (rest := []) (C := RX10) hx hb hml hown hL hK hM hS (kX10_ofP l G A V h30 p1 (3 : Int32) hc32) (zg_X10_ofP zw4_147) zv_X10_ofP ⟨rfl, rfl⟩ ⟨Nat.le_of_ble_eq_true rfl, Nat.le_of_ble_eq_true rfl⟩ (hM.recv hK dm_16 (ze_16 G V 0 0 h30) rfl) rfl hl.1 rfl (Nat.le_of_ble_eq_true rfl) dX10_loses_74 ⟨Nat.zero_le _, Nat.zero_le _⟩ (fun H locs hM hS => ?_)
        refine W.eq (g2 := F0 m 77 ls [.int r31]) rfl ?_
        exact hQf hf hM hS dX10_loses_77
    · replace hf := iff_ hf c8
      refine lv_bipush (v := -2) hx hb dX10_loses_21 (by decide) ?_
      exact hQf hf hM hS dX10_loses_23
  · replace hf := ift hf c4
    refine lv_iconst (v := -1) hx hb dX10_loses_8 (by decide) ?_
    exact hQf hf hM hS dX10_loses_9
abbrev rX10_wishes : Room := { frames := 2, cells := 0, slots := 0, locals := 45 }
set_option maxRecDepth 100000 in
set_option maxHeartbeats 4000000 in
theorem kX10_wishes (l : Launch) (G : zG) (A : Nat → Prop) (V : zV3) (h : zV2) (p1 : Int32) (p2 : Int32) {r : Int32} {h' : zV2} (hf : xX10_wishes h p1 p2 = some (r, h')) : zCt l G A yX10_wishes cX10_wishes 4 (some .int) rX10_wishes [.ref (gA G 16 0 0), .int p1, .int p2] (upG V 8 h) (some (.int r)) (upG V 8 h') := by
  refine z_CtI (by decide) (Nat.le_of_ble_eq_true rfl) ?_
  intro p e s m args below meth c Q hx hb hml hown hL hK hM hS hQ ls hl
  replace hl : lv_has ls 4 [(0, .ref (gA G 16 0 0)), (1, .int p1), (2, .int p2)] := hl
  have hQf : ∀ {a : Int32} {k : zV2} {H : Heap} {locs : List Loc} {pc : Nat} {ls : Array Slot}, some (a, k) = some (r, h') → zM G (upG V 8 k) H → va_S A s.heap H locs → decode cX10_wishes pc = .ok (.ireturn, 1) → W p l e rX10_wishes s m args below meth c H locs 0 0 Q (F0 m pc ls [.int a]) := by
    intro a k H locs pc ls e1 hM hS hd
    cases e1
    exact hQ H locs pc ls hM hS hd
  unfold xX10_wishes at hf
  refine lv_aload_n hx hb dX10_wishes_0 rfl (lv_at hl 0 rfl) ?_
  refine lv_iload_n hx hb dX10_wishes_1 rfl (lv_at hl 1 rfl) ?_
  obtain ⟨r1, h3, hc2, hf⟩ := bnd_some hf
  refine z_callV (As := [.int p1]) (rest := []) (C := RX10) hx hb hml hown hL hK hM hS (kX10_isPerson l G A V h p1 hc2) (zg_X10_isPerson zw4_143) zv_X10_isPerson ⟨rfl, rfl⟩ ⟨Nat.le_of_ble_eq_true rfl, Nat.le_of_ble_eq_true rfl⟩ (hM.recv hK dm_16 (ze_16 G V 0 0 h) rfl) rfl hl.1 rfl (Nat.le_of_ble_eq_true rfl) dX10_wishes_2 ⟨Nat.zero_le _, Nat.zero_le _⟩ (fun H locs hM hS => ?_)
  refine W.eq (g2 := F0 m 5 ls [.int r1]) rfl ?_
  refine lv_if_eq (tgt := 17) hx hb dX10_wishes_5 (by decide) (fun c4 => ?_) (fun c4 => ?_)
  · replace hf := ift hf c4
    refine lv_iconst (v := -1) hx hb dX10_wishes_17 (by decide) ?_
    exact hQf hf hM hS dX10_wishes_18
  · replace hf := iff_ hf c4
    refine lv_iload_n hx hb dX10_wishes_8 rfl (lv_at hl 2 rfl) ?_
    refine lv_iconst (v := 0) hx hb dX10_wishes_9 (by decide) ?_
    refine lv_iconst (v := 2) hx hb dX10_wishes_10 (by decide) ?_
    obtain ⟨r5, h7, hc6, hf⟩ := bnd_some hf
    refine z_callS (As := [.int p2, .int (0 : Int32), .int (2 : Int32)]) (rest := []) hx hb hml hown hL hK hM hS (kX10_in l G A V h3 p2 (0 : Int32) (2 : Int32) hc6) (zg_X10_in zw4_68) zy_X10_in ⟨rfl, rfl⟩ ⟨Nat.le_of_ble_eq_true rfl, Nat.le_of_ble_eq_true rfl⟩ rfl hl.1 rfl (Nat.le_of_ble_eq_true rfl) dX10_wishes_11 ⟨Nat.zero_le _, Nat.zero_le _⟩ (fun H locs hM hS => ?_)
    refine W.eq (g2 := F0 m 14 ls [.int r5]) rfl ?_
    refine lv_if_ne (tgt := 19) hx hb dX10_wishes_14 (by decide) (fun c8 => ?_) (fun c8 => ?_)
    · replace hf := iff_ hf c8
      refine lv_aload_n hx hb dX10_wishes_19 rfl (lv_at hl 0 rfl) ?_
      refine lv_iload_n hx hb dX10_wishes_20 rfl (lv_at hl 1 rfl) ?_
      refine lv_iconst (v := 0) hx hb dX10_wishes_21 (by decide) ?_
      obtain ⟨r9, h11, hc10, hf⟩ := bnd_some hf
      refine z_callV (As := [.int p1, .int (0 : Int32)]) (rest := []) (C := RX10) hx hb hml hown hL hK hM hS (kX10_ofP l G A V h7 p1 (0 : Int32) hc10) (zg_X10_ofP zw4_147) zv_X10_ofP ⟨rfl, rfl⟩ ⟨Nat.le_of_ble_eq_true rfl, Nat.le_of_ble_eq_true rfl⟩ (hM.recv hK dm_16 (ze_16 G V 0 0 h7) rfl) rfl hl.1 rfl (Nat.le_of_ble_eq_true rfl) dX10_wishes_22 ⟨Nat.zero_le _, Nat.zero_le _⟩ (fun H locs hM hS => ?_)
      refine W.eq (g2 := F0 m 25 ls [.int r9]) rfl ?_
      refine lv_istore_n (lv' := [(3, .int r9), (0, .ref (gA G 16 0 0)), (1, .int p1), (2, .int p2)]) hx hb dX10_wishes_25 rfl hl (by decide) rfl (fun ls hl => ?_)
      refine lv_iload_n hx hb dX10_wishes_26 rfl (lv_at hl 0 rfl) ?_
      refine lv_if_lt (tgt := 40) hx hb dX10_wishes_27 (by decide) (fun c12 => ?_) (fun c12 => ?_)
      · replace hf := ift hf c12
        refine lv_bipush (v := -2) hx hb dX10_wishes_40 (by decide) ?_
        exact hQf hf hM hS dX10_wishes_42
      · replace hf := iff_ hf c12
        refine lv_aload_n hx hb dX10_wishes_30 rfl (lv_at hl 1 rfl) ?_
        refine lv_iload_n hx hb dX10_wishes_31 rfl (lv_at hl 0 rfl) ?_
        refine lv_iconst (v := 0) hx hb dX10_wishes_32 (by decide) ?_
        obtain ⟨r13, h15, hc14, hf⟩ := bnd_some hf
        refine z_callV (As := [.int r9, .int (0 : Int32)]) (rest := []) (C := RX10) hx hb hml hown hL hK hM hS (kX10_of l G A V h11 r9 (0 : Int32) hc14) (zg_X10_of zw4_103) zv_X10_of ⟨rfl, rfl⟩ ⟨Nat.le_of_ble_eq_true rfl, Nat.le_of_ble_eq_true rfl⟩ (hM.recv hK dm_16 (ze_16 G V 0 0 h11) rfl) rfl hl.1 rfl (Nat.le_of_ble_eq_true rfl) dX10_wishes_33 ⟨Nat.zero_le _, Nat.zero_le _⟩ (fun H locs hM hS => ?_)
        refine W.eq (g2 := F0 m 36 ls [.int r13]) rfl ?_
        refine lv_iload_n hx hb dX10_wishes_36 rfl (lv_at hl 3 rfl) ?_
        refine lv_icmp_ne (tgt := 43) hx hb dX10_wishes_37 (by decide) (fun c16 => ?_) (fun c16 => ?_)
        · replace hf := iff_ hf c16
          refine lv_aload_n hx hb dX10_wishes_43 rfl (lv_at hl 1 rfl) ?_
          refine lv_iload_n hx hb dX10_wishes_44 rfl (lv_at hl 2 rfl) ?_
          obtain ⟨r17, h19, hc18, hf⟩ := bnd_some hf
          refine z_callV (As := [.int p1]) (rest := []) (C := RX10) hx hb hml hown hL hK hM hS (kX10_endsWish l G A V h15 p1 hc18) (zg_X10_endsWish zw4_179) zv_X10_endsWish ⟨rfl, rfl⟩ ⟨Nat.le_of_ble_eq_true rfl, Nat.le_of_ble_eq_true rfl⟩ (hM.recv hK dm_16 (ze_16 G V 0 0 h15) rfl) rfl hl.1 rfl (Nat.le_of_ble_eq_true rfl) dX10_wishes_45 ⟨Nat.zero_le _, Nat.zero_le _⟩ (fun H locs hM hS => ?_)
          refine W.eq (g2 := F0 m 48 ls []) rfl ?_
          refine lv_aload_n hx hb dX10_wishes_48 rfl (lv_at hl 1 rfl) ?_
          refine lv_iload_n hx hb dX10_wishes_49 rfl (lv_at hl 2 rfl) ?_
          refine lv_iconst (v := 5) hx hb dX10_wishes_50 (by decide) ?_
          refine lv_iload_n hx hb dX10_wishes_51 rfl (lv_at hl 3 rfl) ?_
          obtain ⟨r20, h22, hc21, hf⟩ := bnd_some hf
          refine z_callV (As := [.int p1, .int (5 : Int32), .int p2]) (rest := []) (C := RX10) hx hb hml hown hL hK hM hS (kX10_layP l G A V h19 p1 (5 : Int32) p2 hc21) (zg_X10_layP zw4_87) zv_X10_layP ⟨rfl, rfl⟩ ⟨Nat.le_of_ble_eq_true rfl, Nat.le_of_ble_eq_true rfl⟩ (hM.recv hK dm_16 (ze_16 G V 0 0 h19) rfl) rfl hl.1 rfl (Nat.le_of_ble_eq_true rfl) dX10_wishes_52 ⟨Nat.zero_le _, Nat.zero_le _⟩ (fun H locs hM hS => ?_)
          refine W.eq (g2 := F0 m 55 ls []) rfl ?_
          refine lv_aload_n hx hb dX10_wishes_55 rfl (lv_at hl 1 rfl) ?_
          refine z_get (own := RX10) (C := RX10) (T := TX10) (N := 12) (ci := 8) (v := .ref (gA G 17 0 0)) hx hb hL inX10 hown hK hM dm_16 (ze_16 G V 0 0 h22) rfl 0 (by decide) (hL _ zw4_19) rfl rfl dX10_wishes_56 ?_
          refine lv_sipush (v := 183) hx hb dX10_wishes_59 (by decide) ?_
          refine lv_aload_n hx hb dX10_wishes_62 rfl (lv_at hl 1 rfl) ?_
          refine z_get (own := RX10) (C := RX10) (T := TX10) (N := 12) (ci := 8) (v := .ref (gA G 17 0 0)) hx hb hL inX10 hown hK hM dm_16 (ze_16 G V 0 0 h22) rfl 0 (by decide) (hL _ zw4_19) rfl rfl dX10_wishes_63 ?_
          refine lv_bipush (v := 7) hx hb dX10_wishes_66 (by decide) ?_
          obtain ⟨hb23, hf⟩ := grd_some hf
          refine z_iald hx hb hK hM (dm_17 (i := 0) (by decide)) (ze_17_0 G V h22) (inb_in hb23) dX10_wishes_68 ?_
          refine lv_iadd hx hb dX10_wishes_69 ?_
          refine lv_iload_n hx hb dX10_wishes_70 rfl (lv_at hl 2 rfl) ?_
          obtain ⟨hb24, hf⟩ := grd_some hf
          obtain ⟨h25, eh25⟩ : ∃ y, y = up2 h22 0 (((183 : Int32) + (h22 0 ((7 : Int32).toNatClampNeg))).toNatClampNeg) p1 := ⟨_, rfl⟩
          replace hf := put2_some hf eh25
          refine z_iast (V' := upG V 8 h25) hx hb hK hM hS (dm_17 (i := 0) (by decide)) (ze_17_0 G V h22) (inb_in hb24) (by rw [eh25]; exact zn_17_0 G V h22 (((183 : Int32) + (h22 0 ((7 : Int32).toNatClampNeg))).toNatClampNeg) p1) dX10_wishes_71 (fun H locs hM hS => ?_)
          refine lv_aload_n hx hb dX10_wishes_72 rfl (lv_at hl 1 rfl) ?_
          refine z_get (own := RX10) (C := RX10) (T := TX10) (N := 12) (ci := 8) (v := .ref (gA G 17 0 0)) hx hb hL inX10 hown hK hM dm_16 (ze_16 G V 0 0 h25) rfl 0 (by decide) (hL _ zw4_19) rfl rfl dX10_wishes_73 ?_
          refine lv_bipush (v := 7) hx hb dX10_wishes_76 (by decide) ?_
          refine lv_dup2_11 hx hb dX10_wishes_78 rfl rfl ?_
          obtain ⟨hb26, hf⟩ := grd_some hf
          refine z_iald hx hb hK hM (dm_17 (i := 0) (by decide)) (ze_17_0 G V h25) (inb_in hb26) dX10_wishes_79 ?_
          refine lv_iconst (v := 1) hx hb dX10_wishes_80 (by decide) ?_
          refine lv_iadd hx hb dX10_wishes_81 ?_
          obtain ⟨hb27, hf⟩ := grd_some hf
          obtain ⟨h28, eh28⟩ : ∃ y, y = up2 h25 0 ((7 : Int32).toNatClampNeg) ((h25 0 ((7 : Int32).toNatClampNeg)) + (1 : Int32)) := ⟨_, rfl⟩
          replace hf := put2_some hf eh28
          refine z_iast (V' := upG V 8 h28) hx hb hK hM hS (dm_17 (i := 0) (by decide)) (ze_17_0 G V h25) (inb_in hb27) (by rw [eh28]; exact zn_17_0 G V h25 ((7 : Int32).toNatClampNeg) ((h25 0 ((7 : Int32).toNatClampNeg)) + (1 : Int32))) dX10_wishes_82 (fun H locs hM hS => ?_)
          refine lv_aload_n hx hb dX10_wishes_83 rfl (lv_at hl 1 rfl) ?_
          refine z_get (own := RX10) (C := RX10) (T := TX10) (N := 12) (ci := 8) (v := .ref (gA G 17 0 0)) hx hb hL inX10 hown hK hM dm_16 (ze_16 G V 0 0 h28) rfl 0 (by decide) (hL _ zw4_19) rfl rfl dX10_wishes_84 ?_
          refine lv_bipush (v := 7) hx hb dX10_wishes_87 (by decide) ?_
          obtain ⟨hb29, hf⟩ := grd_some hf
          refine z_iald hx hb hK hM (dm_17 (i := 0) (by decide)) (ze_17_0 G V h28) (inb_in hb29) dX10_wishes_89 ?_
          exact hQf hf hM hS dX10_wishes_90
        · replace hf := ift hf c16
          refine lv_bipush (v := -2) hx hb dX10_wishes_40 (by decide) ?_
          exact hQf hf hM hS dX10_wishes_42
    · replace hf := ift hf c8
      refine lv_iconst (v := -1) hx hb dX10_wishes_17 (by decide) ?_
      exact hQf hf hM hS dX10_wishes_18
abbrev rX10_wishesNoMore : Room := { frames := 2, cells := 0, slots := 0, locals := 45 }
set_option maxRecDepth 100000 in
set_option maxHeartbeats 4000000 in
theorem kX10_wishesNoMore (l : Launch) (G : zG) (A : Nat → Prop) (V : zV3) (h : zV2) (p1 : Int32) {r : Int32} {h' : zV2} (hf : xX10_wishesNoMore h p1 = some (r, h')) : zCt l G A yX10_wishesNoMore cX10_wishesNoMore 3 (some .int) rX10_wishesNoMore [.ref (gA G 16 0 0), .int p1] (upG V 8 h) (some (.int r)) (upG V 8 h') := by
  refine z_CtI (by decide) (Nat.le_of_ble_eq_true rfl) ?_
  intro p e s m args below meth c Q hx hb hml hown hL hK hM hS hQ ls hl
  replace hl : lv_has ls 3 [(0, .ref (gA G 16 0 0)), (1, .int p1)] := hl
  have hQf : ∀ {a : Int32} {k : zV2} {H : Heap} {locs : List Loc} {pc : Nat} {ls : Array Slot}, some (a, k) = some (r, h') → zM G (upG V 8 k) H → va_S A s.heap H locs → decode cX10_wishesNoMore pc = .ok (.ireturn, 1) → W p l e rX10_wishesNoMore s m args below meth c H locs 0 0 Q (F0 m pc ls [.int a]) := by
    intro a k H locs pc ls e1 hM hS hd
    cases e1
    exact hQ H locs pc ls hM hS hd
  unfold xX10_wishesNoMore at hf
  refine lv_aload_n hx hb dX10_wishesNoMore_0 rfl (lv_at hl 0 rfl) ?_
  refine lv_iload_n hx hb dX10_wishesNoMore_1 rfl (lv_at hl 1 rfl) ?_
  obtain ⟨r1, h3, hc2, hf⟩ := bnd_some hf
  refine z_callV (As := [.int p1]) (rest := []) (C := RX10) hx hb hml hown hL hK hM hS (kX10_isPerson l G A V h p1 hc2) (zg_X10_isPerson zw4_143) zv_X10_isPerson ⟨rfl, rfl⟩ ⟨Nat.le_of_ble_eq_true rfl, Nat.le_of_ble_eq_true rfl⟩ (hM.recv hK dm_16 (ze_16 G V 0 0 h) rfl) rfl hl.1 rfl (Nat.le_of_ble_eq_true rfl) dX10_wishesNoMore_2 ⟨Nat.zero_le _, Nat.zero_le _⟩ (fun H locs hM hS => ?_)
  refine W.eq (g2 := F0 m 5 ls [.int r1]) rfl ?_
  refine lv_if_ne (tgt := 10) hx hb dX10_wishesNoMore_5 (by decide) (fun c4 => ?_) (fun c4 => ?_)
  · replace hf := iff_ hf c4
    refine lv_aload_n hx hb dX10_wishesNoMore_10 rfl (lv_at hl 0 rfl) ?_
    refine lv_iload_n hx hb dX10_wishesNoMore_11 rfl (lv_at hl 1 rfl) ?_
    refine lv_iconst (v := 5) hx hb dX10_wishesNoMore_12 (by decide) ?_
    obtain ⟨r5, h7, hc6, hf⟩ := bnd_some hf
    refine z_callV (As := [.int p1, .int (5 : Int32)]) (rest := []) (C := RX10) hx hb hml hown hL hK hM hS (kX10_ofP l G A V h3 p1 (5 : Int32) hc6) (zg_X10_ofP zw4_147) zv_X10_ofP ⟨rfl, rfl⟩ ⟨Nat.le_of_ble_eq_true rfl, Nat.le_of_ble_eq_true rfl⟩ (hM.recv hK dm_16 (ze_16 G V 0 0 h3) rfl) rfl hl.1 rfl (Nat.le_of_ble_eq_true rfl) dX10_wishesNoMore_13 ⟨Nat.zero_le _, Nat.zero_le _⟩ (fun H locs hM hS => ?_)
    refine W.eq (g2 := F0 m 16 ls [.int r5]) rfl ?_
    refine lv_istore_n (lv' := [(2, .int r5), (0, .ref (gA G 16 0 0)), (1, .int p1)]) hx hb dX10_wishesNoMore_16 rfl hl (by decide) rfl (fun ls hl => ?_)
    refine lv_iload_n hx hb dX10_wishesNoMore_17 rfl (lv_at hl 0 rfl) ?_
    refine lv_if_ge (tgt := 24) hx hb dX10_wishesNoMore_18 (by decide) (fun c8 => ?_) (fun c8 => ?_)
    · replace hf := ift hf c8
      refine lv_aload_n hx hb dX10_wishesNoMore_24 rfl (lv_at hl 1 rfl) ?_
      refine lv_iload_n hx hb dX10_wishesNoMore_25 rfl (lv_at hl 2 rfl) ?_
      obtain ⟨r9, h11, hc10, hf⟩ := bnd_some hf
      refine z_callV (As := [.int p1]) (rest := []) (C := RX10) hx hb hml hown hL hK hM hS (kX10_endsWish l G A V h7 p1 hc10) (zg_X10_endsWish zw4_179) zv_X10_endsWish ⟨rfl, rfl⟩ ⟨Nat.le_of_ble_eq_true rfl, Nat.le_of_ble_eq_true rfl⟩ (hM.recv hK dm_16 (ze_16 G V 0 0 h7) rfl) rfl hl.1 rfl (Nat.le_of_ble_eq_true rfl) dX10_wishesNoMore_26 ⟨Nat.zero_le _, Nat.zero_le _⟩ (fun H locs hM hS => ?_)
      refine W.eq (g2 := F0 m 29 ls []) rfl ?_
      refine lv_iload_n hx hb dX10_wishesNoMore_29 rfl (lv_at hl 0 rfl) ?_
      exact hQf hf hM hS dX10_wishesNoMore_30
    · replace hf := iff_ hf c8
      refine lv_bipush (v := -2) hx hb dX10_wishesNoMore_21 (by decide) ?_
      exact hQf hf hM hS dX10_wishesNoMore_23
  · replace hf := ift hf c4
    refine lv_iconst (v := -1) hx hb dX10_wishesNoMore_8 (by decide) ?_
    exact hQf hf hM hS dX10_wishesNoMore_9
abbrev rX10_pays : Room := { frames := 2, cells := 0, slots := 0, locals := 43 }
set_option maxRecDepth 100000 in
set_option maxHeartbeats 4000000 in
theorem kX10_pays (l : Launch) (G : zG) (A : Nat → Prop) (V : zV3) (h : zV2) (p1 : Int32) (p2 : Int32) {r : Int32} {h' : zV2} (hf : xX10_pays h p1 p2 = some (r, h')) : zCt l G A yX10_pays cX10_pays 3 (some .int) rX10_pays [.ref (gA G 16 0 0), .int p1, .int p2] (upG V 8 h) (some (.int r)) (upG V 8 h') := by
  refine z_CtI (by decide) (Nat.le_of_ble_eq_true rfl) ?_
  intro p e s m args below meth c Q hx hb hml hown hL hK hM hS hQ ls hl
  replace hl : lv_has ls 3 [(0, .ref (gA G 16 0 0)), (1, .int p1), (2, .int p2)] := hl
  have hQf : ∀ {a : Int32} {k : zV2} {H : Heap} {locs : List Loc} {pc : Nat} {ls : Array Slot}, some (a, k) = some (r, h') → zM G (upG V 8 k) H → va_S A s.heap H locs → decode cX10_pays pc = .ok (.ireturn, 1) → W p l e rX10_pays s m args below meth c H locs 0 0 Q (F0 m pc ls [.int a]) := by
    intro a k H locs pc ls e1 hM hS hd
    cases e1
    exact hQ H locs pc ls hM hS hd
  unfold xX10_pays at hf
  refine lv_aload_n hx hb dX10_pays_0 rfl (lv_at hl 0 rfl) ?_
  refine lv_iload_n hx hb dX10_pays_1 rfl (lv_at hl 1 rfl) ?_
  obtain ⟨r1, h3, hc2, hf⟩ := bnd_some hf
  refine z_callV (As := [.int p1]) (rest := []) (C := RX10) hx hb hml hown hL hK hM hS (kX10_isPerson l G A V h p1 hc2) (zg_X10_isPerson zw4_143) zv_X10_isPerson ⟨rfl, rfl⟩ ⟨Nat.le_of_ble_eq_true rfl, Nat.le_of_ble_eq_true rfl⟩ (hM.recv hK dm_16 (ze_16 G V 0 0 h) rfl) rfl hl.1 rfl (Nat.le_of_ble_eq_true rfl) dX10_pays_2 ⟨Nat.zero_le _, Nat.zero_le _⟩ (fun H locs hM hS => ?_)
  refine W.eq (g2 := F0 m 5 ls [.int r1]) rfl ?_
  refine lv_if_eq (tgt := 19) hx hb dX10_pays_5 (by decide) (fun c4 => ?_) (fun c4 => ?_)
  · replace hf := ift hf c4
    refine lv_iconst (v := -1) hx hb dX10_pays_19 (by decide) ?_
    exact hQf hf hM hS dX10_pays_20
  · replace hf := iff_ hf c4
    refine lv_iload_n hx hb dX10_pays_8 rfl (lv_at hl 2 rfl) ?_
    refine lv_iconst (v := 1) hx hb dX10_pays_9 (by decide) ?_
    refine lv_sipush (v := 999) hx hb dX10_pays_10 (by decide) ?_
    obtain ⟨r5, h7, hc6, hf⟩ := bnd_some hf
    refine z_callS (As := [.int p2, .int (1 : Int32), .int (999 : Int32)]) (rest := []) hx hb hml hown hL hK hM hS (kX10_in l G A V h3 p2 (1 : Int32) (999 : Int32) hc6) (zg_X10_in zw4_68) zy_X10_in ⟨rfl, rfl⟩ ⟨Nat.le_of_ble_eq_true rfl, Nat.le_of_ble_eq_true rfl⟩ rfl hl.1 rfl (Nat.le_of_ble_eq_true rfl) dX10_pays_13 ⟨Nat.zero_le _, Nat.zero_le _⟩ (fun H locs hM hS => ?_)
    refine W.eq (g2 := F0 m 16 ls [.int r5]) rfl ?_
    refine lv_if_ne (tgt := 21) hx hb dX10_pays_16 (by decide) (fun c8 => ?_) (fun c8 => ?_)
    · replace hf := iff_ hf c8
      refine lv_aload_n hx hb dX10_pays_21 rfl (lv_at hl 0 rfl) ?_
      refine lv_iload_n hx hb dX10_pays_22 rfl (lv_at hl 1 rfl) ?_
      refine lv_iconst (v := 3) hx hb dX10_pays_23 (by decide) ?_
      obtain ⟨r9, h11, hc10, hf⟩ := bnd_some hf
      refine z_callV (As := [.int p1, .int (3 : Int32)]) (rest := []) (C := RX10) hx hb hml hown hL hK hM hS (kX10_ofP l G A V h7 p1 (3 : Int32) hc10) (zg_X10_ofP zw4_147) zv_X10_ofP ⟨rfl, rfl⟩ ⟨Nat.le_of_ble_eq_true rfl, Nat.le_of_ble_eq_true rfl⟩ (hM.recv hK dm_16 (ze_16 G V 0 0 h7) rfl) rfl hl.1 rfl (Nat.le_of_ble_eq_true rfl) dX10_pays_24 ⟨Nat.zero_le _, Nat.zero_le _⟩ (fun H locs hM hS => ?_)
      refine W.eq (g2 := F0 m 27 ls [.int r9]) rfl ?_
      refine lv_iload_n hx hb dX10_pays_27 rfl (lv_at hl 2 rfl) ?_
      refine lv_icmp_ge (tgt := 34) hx hb dX10_pays_28 (by decide) (fun c12 => ?_) (fun c12 => ?_)
      · replace hf := ift hf c12
        refine lv_aload_n hx hb dX10_pays_34 rfl (lv_at hl 0 rfl) ?_
        refine lv_iload_n hx hb dX10_pays_35 rfl (lv_at hl 1 rfl) ?_
        refine lv_iconst (v := 3) hx hb dX10_pays_36 (by decide) ?_
        refine lv_aload_n hx hb dX10_pays_37 rfl (lv_at hl 0 rfl) ?_
        refine lv_iload_n hx hb dX10_pays_38 rfl (lv_at hl 1 rfl) ?_
        refine lv_iconst (v := 3) hx hb dX10_pays_39 (by decide) ?_
        obtain ⟨r13, h15, hc14, hf⟩ := bnd_some hf
        refine z_callV (As := [.int p1, .int (3 : Int32)]) (rest := [.int (3 : Int32), .int p1, .ref (gA G 16 0 0)]) (C := RX10) hx hb hml hown hL hK hM hS (kX10_ofP l G A V h11 p1 (3 : Int32) hc14) (zg_X10_ofP zw4_147) zv_X10_ofP ⟨rfl, rfl⟩ ⟨Nat.le_of_ble_eq_true rfl, Nat.le_of_ble_eq_true rfl⟩ (hM.recv hK dm_16 (ze_16 G V 0 0 h11) rfl) rfl hl.1 rfl (Nat.le_of_ble_eq_true rfl) dX10_pays_40 ⟨Nat.zero_le _, Nat.zero_le _⟩ (fun H locs hM hS => ?_)
        refine W.eq (g2 := F0 m 43 ls [.int r13, .int (3 : Int32), .int p1, .ref (gA G 16 0 0)]) rfl ?_
        refine lv_iload_n hx hb dX10_pays_43 rfl (lv_at hl 2 rfl) ?_
        refine lv_isub hx hb dX10_pays_44 ?_
        obtain ⟨r16, h18, hc17, hf⟩ := bnd_some hf
        refine z_callV (As := [.int p1, .int (3 : Int32), .int (r13 - p2)]) (rest := []) (C := RX10) hx hb hml hown hL hK hM hS (kX10_layP l G A V h15 p1 (3 : Int32) (r13 - p2) hc17) (zg_X10_layP zw4_87) zv_X10_layP ⟨rfl, rfl⟩ ⟨Nat.le_of_ble_eq_true rfl, Nat.le_of_ble_eq_true rfl⟩ (hM.recv hK dm_16 (ze_16 G V 0 0 h15) rfl) rfl hl.1 rfl (Nat.le_of_ble_eq_true rfl) dX10_pays_45 ⟨Nat.zero_le _, Nat.zero_le _⟩ (fun H locs hM hS => ?_)
        refine W.eq (g2 := F0 m 48 ls []) rfl ?_
        refine lv_aload_n hx hb dX10_pays_48 rfl (lv_at hl 0 rfl) ?_
        refine lv_iload_n hx hb dX10_pays_49 rfl (lv_at hl 1 rfl) ?_
        refine lv_iconst (v := 4) hx hb dX10_pays_50 (by decide) ?_
        refine lv_aload_n hx hb dX10_pays_51 rfl (lv_at hl 0 rfl) ?_
        refine lv_iload_n hx hb dX10_pays_52 rfl (lv_at hl 1 rfl) ?_
        refine lv_iconst (v := 4) hx hb dX10_pays_53 (by decide) ?_
        obtain ⟨r19, h21, hc20, hf⟩ := bnd_some hf
        refine z_callV (As := [.int p1, .int (4 : Int32)]) (rest := [.int (4 : Int32), .int p1, .ref (gA G 16 0 0)]) (C := RX10) hx hb hml hown hL hK hM hS (kX10_ofP l G A V h18 p1 (4 : Int32) hc20) (zg_X10_ofP zw4_147) zv_X10_ofP ⟨rfl, rfl⟩ ⟨Nat.le_of_ble_eq_true rfl, Nat.le_of_ble_eq_true rfl⟩ (hM.recv hK dm_16 (ze_16 G V 0 0 h18) rfl) rfl hl.1 rfl (Nat.le_of_ble_eq_true rfl) dX10_pays_54 ⟨Nat.zero_le _, Nat.zero_le _⟩ (fun H locs hM hS => ?_)
        refine W.eq (g2 := F0 m 57 ls [.int r19, .int (4 : Int32), .int p1, .ref (gA G 16 0 0)]) rfl ?_
        refine lv_iload_n hx hb dX10_pays_57 rfl (lv_at hl 2 rfl) ?_
        refine lv_iadd hx hb dX10_pays_58 ?_
        obtain ⟨r22, h24, hc23, hf⟩ := bnd_some hf
        refine z_callV (As := [.int p1, .int (4 : Int32), .int (r19 + p2)]) (rest := []) (C := RX10) hx hb hml hown hL hK hM hS (kX10_layP l G A V h21 p1 (4 : Int32) (r19 + p2) hc23) (zg_X10_layP zw4_87) zv_X10_layP ⟨rfl, rfl⟩ ⟨Nat.le_of_ble_eq_true rfl, Nat.le_of_ble_eq_true rfl⟩ (hM.recv hK dm_16 (ze_16 G V 0 0 h21) rfl) rfl hl.1 rfl (Nat.le_of_ble_eq_true rfl) dX10_pays_59 ⟨Nat.zero_le _, Nat.zero_le _⟩ (fun H locs hM hS => ?_)
        refine W.eq (g2 := F0 m 62 ls []) rfl ?_
        refine lv_aload_n hx hb dX10_pays_62 rfl (lv_at hl 0 rfl) ?_
        refine z_get (own := RX10) (C := RX10) (T := TX10) (N := 12) (ci := 8) (v := .ref (gA G 17 0 0)) hx hb hL inX10 hown hK hM dm_16 (ze_16 G V 0 0 h24) rfl 0 (by decide) (hL _ zw4_19) rfl rfl dX10_pays_63 ?_
        refine lv_bipush (v := 8) hx hb dX10_pays_66 (by decide) ?_
        refine lv_dup2_11 hx hb dX10_pays_68 rfl rfl ?_
        obtain ⟨hb25, hf⟩ := grd_some hf
        refine z_iald hx hb hK hM (dm_17 (i := 0) (by decide)) (ze_17_0 G V h24) (inb_in hb25) dX10_pays_69 ?_
        refine lv_iload_n hx hb dX10_pays_70 rfl (lv_at hl 2 rfl) ?_
        refine lv_iadd hx hb dX10_pays_71 ?_
        obtain ⟨hb26, hf⟩ := grd_some hf
        obtain ⟨h27, eh27⟩ : ∃ y, y = up2 h24 0 ((8 : Int32).toNatClampNeg) ((h24 0 ((8 : Int32).toNatClampNeg)) + p2) := ⟨_, rfl⟩
        replace hf := put2_some hf eh27
        refine z_iast (V' := upG V 8 h27) hx hb hK hM hS (dm_17 (i := 0) (by decide)) (ze_17_0 G V h24) (inb_in hb26) (by rw [eh27]; exact zn_17_0 G V h24 ((8 : Int32).toNatClampNeg) ((h24 0 ((8 : Int32).toNatClampNeg)) + p2)) dX10_pays_72 (fun H locs hM hS => ?_)
        refine lv_aload_n hx hb dX10_pays_73 rfl (lv_at hl 0 rfl) ?_
        refine lv_iload_n hx hb dX10_pays_74 rfl (lv_at hl 1 rfl) ?_
        refine lv_iconst (v := 3) hx hb dX10_pays_75 (by decide) ?_
        obtain ⟨r28, h30, hc29, hf⟩ := bnd_some hf
        refine z_callV (As := [.int p1, .int (3 : Int32)]) (rest := []) (C := RX10) hx hb hml hown hL hK hM hS (kX10_ofP l G A V h27 p1 (3 : Int32) hc29) (zg_X10_ofP zw4_147) zv_X10_ofP ⟨rfl, rfl⟩ ⟨Nat.le_of_ble_eq_true rfl, Nat.le_of_ble_eq_true rfl⟩ (hM.recv hK dm_16 (ze_16 G V 0 0 h27) rfl) rfl hl.1 rfl (Nat.le_of_ble_eq_true rfl) dX10_pays_76 ⟨Nat.zero_le _, Nat.zero_le _⟩ (fun H locs hM hS => ?_)
        refine W.eq (g2 := F0 m 79 ls [.int r28]) rfl ?_
        exact hQf hf hM hS dX10_pays_79
      · replace hf := iff_ hf c12
        refine lv_bipush (v := -2) hx hb dX10_pays_31 (by decide) ?_
        exact hQf hf hM hS dX10_pays_33
    · replace hf := ift hf c8
      refine lv_iconst (v := -1) hx hb dX10_pays_19 (by decide) ?_
      exact hQf hf hM hS dX10_pays_20
abbrev rX10_moves : Room := { frames := 2, cells := 0, slots := 0, locals := 45 }
set_option maxRecDepth 100000 in
set_option maxHeartbeats 4000000 in
theorem kX10_moves (l : Launch) (G : zG) (A : Nat → Prop) (V : zV3) (h : zV2) (p1 : Int32) (p2 : Int32) {r : Unit} {h' : zV2} (hf : xX10_moves h p1 p2 = some (r, h')) : zCt l G A yX10_moves cX10_moves 3 none rX10_moves [.ref (gA G 16 0 0), .int p1, .int p2] (upG V 8 h) none (upG V 8 h') := by
  refine z_CtV (by decide) (Nat.le_of_ble_eq_true rfl) ?_
  intro p e s m args below meth c Q hx hb hml hown hL hK hM hS hQ ls hl
  replace hl : lv_has ls 3 [(0, .ref (gA G 16 0 0)), (1, .int p1), (2, .int p2)] := hl
  have hQf : ∀ {a : Unit} {k : zV2} {H : Heap} {locs : List Loc} {pc : Nat} {ls : Array Slot}, some (a, k) = some (r, h') → zM G (upG V 8 k) H → va_S A s.heap H locs → decode cX10_moves pc = .ok (.return_, 1) → W p l e rX10_moves s m args below meth c H locs 0 0 Q (F0 m pc ls []) := by
    intro a k H locs pc ls e1 hM hS hd
    cases e1
    exact hQ H locs pc ls hM hS hd
  unfold xX10_moves at hf
  refine lv_aload_n hx hb dX10_moves_0 rfl (lv_at hl 0 rfl) ?_
  refine lv_iload_n hx hb dX10_moves_1 rfl (lv_at hl 1 rfl) ?_
  refine lv_iload_n hx hb dX10_moves_2 rfl (lv_at hl 2 rfl) ?_
  obtain ⟨r1, h3, hc2, hf⟩ := bnd_some hf
  refine z_callV (As := [.int p1, .int p2]) (rest := []) (C := RX10) hx hb hml hown hL hK hM hS (kX10_has l G A V h p1 p2 hc2) (zg_X10_has zw4_131) zv_X10_has ⟨rfl, rfl⟩ ⟨Nat.le_of_ble_eq_true rfl, Nat.le_of_ble_eq_true rfl⟩ (hM.recv hK dm_16 (ze_16 G V 0 0 h) rfl) rfl hl.1 rfl (Nat.le_of_ble_eq_true rfl) dX10_moves_3 ⟨Nat.zero_le _, Nat.zero_le _⟩ (fun H locs hM hS => ?_)
  refine W.eq (g2 := F0 m 6 ls []) rfl ?_
  refine lv_aload_n hx hb dX10_moves_6 rfl (lv_at hl 0 rfl) ?_
  refine lv_iload_n hx hb dX10_moves_7 rfl (lv_at hl 1 rfl) ?_
  obtain ⟨r4, h6, hc5, hf⟩ := bnd_some hf
  refine z_callV (As := [.int p1]) (rest := []) (C := RX10) hx hb hml hown hL hK hM hS (kX10_endsWish l G A V h3 p1 hc5) (zg_X10_endsWish zw4_179) zv_X10_endsWish ⟨rfl, rfl⟩ ⟨Nat.le_of_ble_eq_true rfl, Nat.le_of_ble_eq_true rfl⟩ (hM.recv hK dm_16 (ze_16 G V 0 0 h3) rfl) rfl hl.1 rfl (Nat.le_of_ble_eq_true rfl) dX10_moves_8 ⟨Nat.zero_le _, Nat.zero_le _⟩ (fun H locs hM hS => ?_)
  refine W.eq (g2 := F0 m 11 ls []) rfl ?_
  refine lv_aload_n hx hb dX10_moves_11 rfl (lv_at hl 0 rfl) ?_
  refine z_get (own := RX10) (C := RX10) (T := TX10) (N := 12) (ci := 8) (v := .ref (gA G 17 0 0)) hx hb hL inX10 hown hK hM dm_16 (ze_16 G V 0 0 h6) rfl 0 (by decide) (hL _ zw4_19) rfl rfl dX10_moves_12 ?_
  refine lv_bipush (v := 10) hx hb dX10_moves_15 (by decide) ?_
  refine lv_dup2_11 hx hb dX10_moves_17 rfl rfl ?_
  obtain ⟨hb7, hf⟩ := grd_some hf
  refine z_iald hx hb hK hM (dm_17 (i := 0) (by decide)) (ze_17_0 G V h6) (inb_in hb7) dX10_moves_18 ?_
  refine lv_iconst (v := 1) hx hb dX10_moves_19 (by decide) ?_
  refine lv_iadd hx hb dX10_moves_20 ?_
  obtain ⟨hb8, hf⟩ := grd_some hf
  obtain ⟨h9, eh9⟩ : ∃ y, y = up2 h6 0 ((10 : Int32).toNatClampNeg) ((h6 0 ((10 : Int32).toNatClampNeg)) + (1 : Int32)) := ⟨_, rfl⟩
  replace hf := put2_some hf eh9
  refine z_iast (V' := upG V 8 h9) hx hb hK hM hS (dm_17 (i := 0) (by decide)) (ze_17_0 G V h6) (inb_in hb8) (by rw [eh9]; exact zn_17_0 G V h6 ((10 : Int32).toNatClampNeg) ((h6 0 ((10 : Int32).toNatClampNeg)) + (1 : Int32))) dX10_moves_21 (fun H locs hM hS => ?_)
  exact hQf hf hM hS dX10_moves_22
abbrev rX10_takesFree : Room := { frames := 4, cells := 0, slots := 0, locals := 90 }
set_option maxRecDepth 100000 in
set_option maxHeartbeats 4000000 in
theorem kX10_takesFree (l : Launch) (G : zG) (A : Nat → Prop) (V : zV3) (h : zV2) {r : Int32} {h' : zV2} (hf : xX10_takesFree h  = some (r, h')) : zCt l G A yX10_takesFree cX10_takesFree 5 (some .boolean) rX10_takesFree [.ref (gA G 16 0 0)] (upG V 8 h) (some (.int r)) (upG V 8 h') := by
  refine z_CtZ (by decide) (Nat.le_of_ble_eq_true rfl) ?_
  intro p e s m args below meth c Q hx hb hml hown hL hK hM hS hQ ls hl
  replace hl : lv_has ls 5 [(0, .ref (gA G 16 0 0))] := hl
  have hQf : ∀ {a : Int32} {k : zV2} {H : Heap} {locs : List Loc} {pc : Nat} {ls : Array Slot}, narrow .boolean (.int a) = .int a → some (a, k) = some (r, h') → zM G (upG V 8 k) H → va_S A s.heap H locs → decode cX10_takesFree pc = .ok (.ireturn, 1) → W p l e rX10_takesFree s m args below meth c H locs 0 0 Q (F0 m pc ls [.int a]) := by
    intro a k H locs pc ls hnr e1 hM hS hd
    cases e1
    exact hQ H locs pc ls hnr hM hS hd
  have L2 : ∀ (n : Nat) (h : zV2) (a1 : Int32), xX10_takesFree_L2 n h a1 = some (r, h') → ∀ (H : Heap) (locs : List Loc) (ls : Array Slot), zM G (upG V 8 h) H → va_S A s.heap H locs → lv_has ls 5 [(0, .ref (gA G 16 0 0)), (1, .int a1)] → W p l e rX10_takesFree s m args below meth c H locs 0 0 Q (F0 m 2 ls []) := by
    intro n
    induction n with
    | zero =>
      intro h a1 hf H locs ls hM hS hl
      rw [xX10_takesFree_L2] at hf
      cases hf
    | succ n ih =>
      intro h a1 hf H locs ls hM hS hl
      rw [xX10_takesFree_L2] at hf
      refine lv_iload_n hx hb dX10_takesFree_2 rfl (lv_at hl 1 rfl) ?_
      refine lv_aload_n hx hb dX10_takesFree_3 rfl (lv_at hl 0 rfl) ?_
      refine z_get (own := RX10) (C := RX10) (T := TX10) (N := 12) (ci := 8) (v := .ref (gA G 17 0 0)) hx hb hL inX10 hown hK hM dm_16 (ze_16 G V 0 0 h) rfl 0 (by decide) (hL _ zw4_19) rfl rfl dX10_takesFree_4 ?_
      refine lv_bipush (v := 7) hx hb dX10_takesFree_7 (by decide) ?_
      obtain ⟨hb1, hf⟩ := grd_some hf
      refine z_iald hx hb hK hM (dm_17 (i := 0) (by decide)) (ze_17_0 G V h) (inb_in hb1) dX10_takesFree_9 ?_
      refine lv_icmp_ge (tgt := 75) hx hb dX10_takesFree_10 (by decide) (fun c2 => ?_) (fun c2 => ?_)
      · replace hf := ift hf c2
        refine lv_iconst (v := 0) hx hb dX10_takesFree_75 (by decide) ?_
        exact hQf rfl hf hM hS dX10_takesFree_76
      · replace hf := iff_ hf c2
        refine lv_aload_n hx hb dX10_takesFree_13 rfl (lv_at hl 0 rfl) ?_
        refine z_get (own := RX10) (C := RX10) (T := TX10) (N := 12) (ci := 8) (v := .ref (gA G 17 0 0)) hx hb hL inX10 hown hK hM dm_16 (ze_16 G V 0 0 h) rfl 0 (by decide) (hL _ zw4_19) rfl rfl dX10_takesFree_14 ?_
        refine lv_sipush (v := 183) hx hb dX10_takesFree_17 (by decide) ?_
        refine lv_iload_n hx hb dX10_takesFree_20 rfl (lv_at hl 1 rfl) ?_
        refine lv_iadd hx hb dX10_takesFree_21 ?_
        obtain ⟨hb3, hf⟩ := grd_some hf
        refine z_iald hx hb hK hM (dm_17 (i := 0) (by decide)) (ze_17_0 G V h) (inb_in hb3) dX10_takesFree_22 ?_
        refine lv_topi (fun y4 ey4 => ?_)
        replace hf := ltI_some hf ey4
        refine lv_istore_n (lv' := [(2, .int y4), (0, .ref (gA G 16 0 0)), (1, .int a1)]) hx hb dX10_takesFree_23 rfl hl (by decide) rfl (fun ls hl => ?_)
        refine lv_aload_n hx hb dX10_takesFree_24 rfl (lv_at hl 1 rfl) ?_
        refine lv_aload_n hx hb dX10_takesFree_25 rfl (lv_at hl 1 rfl) ?_
        refine lv_iload_n hx hb dX10_takesFree_26 rfl (lv_at hl 0 rfl) ?_
        refine lv_iconst (v := 5) hx hb dX10_takesFree_27 (by decide) ?_
        obtain ⟨r5, h7, hc6, hf⟩ := bnd_some hf
        refine z_callV (As := [.int y4, .int (5 : Int32)]) (rest := [.ref (gA G 16 0 0)]) (C := RX10) hx hb hml hown hL hK hM hS (kX10_ofP l G A V h y4 (5 : Int32) hc6) (zg_X10_ofP zw4_147) zv_X10_ofP ⟨rfl, rfl⟩ ⟨Nat.le_of_ble_eq_true rfl, Nat.le_of_ble_eq_true rfl⟩ (hM.recv hK dm_16 (ze_16 G V 0 0 h) rfl) rfl hl.1 rfl (Nat.le_of_ble_eq_true rfl) dX10_takesFree_28 ⟨Nat.zero_le _, Nat.zero_le _⟩ (fun H locs hM hS => ?_)
        refine W.eq (g2 := F0 m 31 ls [.int r5, .ref (gA G 16 0 0)]) rfl ?_
        obtain ⟨r8, h10, hc9, hf⟩ := bnd_some hf
        refine z_callV (As := [.int r5]) (rest := []) (C := RX10) hx hb hml hown hL hK hM hS (kX10_lowestFree l G A V h7 r5 hc9) (zg_X10_lowestFree zw4_155) zv_X10_lowestFree ⟨rfl, rfl⟩ ⟨Nat.le_of_ble_eq_true rfl, Nat.le_of_ble_eq_true rfl⟩ (hM.recv hK dm_16 (ze_16 G V 0 0 h7) rfl) rfl hl.1 rfl (Nat.le_of_ble_eq_true rfl) dX10_takesFree_31 ⟨Nat.zero_le _, Nat.zero_le _⟩ (fun H locs hM hS => ?_)
        refine W.eq (g2 := F0 m 34 ls [.int r8]) rfl ?_
        refine lv_istore_n (lv' := [(3, .int r8), (2, .int y4), (0, .ref (gA G 16 0 0)), (1, .int a1)]) hx hb dX10_takesFree_34 rfl hl (by decide) rfl (fun ls hl => ?_)
        refine lv_iload_n hx hb dX10_takesFree_35 rfl (lv_at hl 0 rfl) ?_
        refine lv_if_lt (tgt := 69) hx hb dX10_takesFree_36 (by decide) (fun c11 => ?_) (fun c11 => ?_)
        · replace hf := ift hf c11
          obtain ⟨y12, ey12⟩ : ∃ y : Int32, y = a1 + (1 : Int32) := ⟨_, rfl⟩
          replace hf := ltI_some hf ey12
          refine lv_iinc (v := y12) (lv' := [(1, .int y12), (3, .int r8), (2, .int y4), (0, .ref (gA G 16 0 0))]) hx hb dX10_takesFree_69 hl (k := 3) rfl (by rw [ey12]; rfl) (by decide) rfl (fun ls hl => ?_)
          refine lv_goto (tgt := 2) hx hb dX10_takesFree_72 (by decide) ?_
          exact ih h10 y12 hf _ _ _ hM hS (lv_sub hl [3, 0] rfl)
        · replace hf := iff_ hf c11
          refine lv_aload_n hx hb dX10_takesFree_39 rfl (lv_at hl 2 rfl) ?_
          refine lv_iload_n hx hb dX10_takesFree_40 rfl (lv_at hl 1 rfl) ?_
          refine lv_iconst (v := 0) hx hb dX10_takesFree_41 (by decide) ?_
          obtain ⟨r13, h15, hc14, hf⟩ := bnd_some hf
          refine z_callV (As := [.int y4, .int (0 : Int32)]) (rest := []) (C := RX10) hx hb hml hown hL hK hM hS (kX10_ofP l G A V h10 y4 (0 : Int32) hc14) (zg_X10_ofP zw4_147) zv_X10_ofP ⟨rfl, rfl⟩ ⟨Nat.le_of_ble_eq_true rfl, Nat.le_of_ble_eq_true rfl⟩ (hM.recv hK dm_16 (ze_16 G V 0 0 h10) rfl) rfl hl.1 rfl (Nat.le_of_ble_eq_true rfl) dX10_takesFree_42 ⟨Nat.zero_le _, Nat.zero_le _⟩ (fun H locs hM hS => ?_)
          refine W.eq (g2 := F0 m 45 ls [.int r13]) rfl ?_
          refine lv_istore (lv' := [(4, .int r13), (3, .int r8), (2, .int y4), (0, .ref (gA G 16 0 0)), (1, .int a1)]) hx hb dX10_takesFree_45 hl (by decide) rfl (fun ls hl => ?_)
          refine lv_aload_n hx hb dX10_takesFree_47 rfl (lv_at hl 3 rfl) ?_
          refine lv_iload hx hb dX10_takesFree_48 (lv_at hl 0 rfl) ?_
          refine lv_iconst (v := 2) hx hb dX10_takesFree_50 (by decide) ?_
          refine lv_iconst (v := -1) hx hb dX10_takesFree_51 (by decide) ?_
          obtain ⟨r16, h18, hc17, hf⟩ := bnd_some hf
          refine z_callV (As := [.int r13, .int (2 : Int32), .int (-1 : Int32)]) (rest := []) (C := RX10) hx hb hml hown hL hK hM hS (kX10_lay l G A V h15 r13 (2 : Int32) (-1 : Int32) hc17) (zg_X10_lay zw4_71) zv_X10_lay ⟨rfl, rfl⟩ ⟨Nat.le_of_ble_eq_true rfl, Nat.le_of_ble_eq_true rfl⟩ (hM.recv hK dm_16 (ze_16 G V 0 0 h15) rfl) rfl hl.1 rfl (Nat.le_of_ble_eq_true rfl) dX10_takesFree_52 ⟨Nat.zero_le _, Nat.zero_le _⟩ (fun H locs hM hS => ?_)
          refine W.eq (g2 := F0 m 55 ls []) rfl ?_
          refine lv_aload_n hx hb dX10_takesFree_55 rfl (lv_at hl 3 rfl) ?_
          refine lv_iload_n hx hb dX10_takesFree_56 rfl (lv_at hl 2 rfl) ?_
          refine lv_iload_n hx hb dX10_takesFree_57 rfl (lv_at hl 1 rfl) ?_
          obtain ⟨r19, h21, hc20, hf⟩ := bnd_some hf
          refine z_callV (As := [.int y4, .int r8]) (rest := []) (C := RX10) hx hb hml hown hL hK hM hS (kX10_moves l G A V h18 y4 r8 hc20) (zg_X10_moves zw4_235) zv_X10_moves ⟨rfl, rfl⟩ ⟨Nat.le_of_ble_eq_true rfl, Nat.le_of_ble_eq_true rfl⟩ (hM.recv hK dm_16 (ze_16 G V 0 0 h18) rfl) rfl hl.1 rfl (Nat.le_of_ble_eq_true rfl) dX10_takesFree_58 ⟨Nat.zero_le _, Nat.zero_le _⟩ (fun H locs hM hS => ?_)
          refine W.eq (g2 := F0 m 61 ls []) rfl ?_
          refine lv_aload_n hx hb dX10_takesFree_61 rfl (lv_at hl 3 rfl) ?_
          refine lv_iload hx hb dX10_takesFree_62 (lv_at hl 0 rfl) ?_
          obtain ⟨r22, h24, hc23, hf⟩ := bnd_some hf
          refine z_callV (As := [.int r13]) (rest := []) (C := RX10) hx hb hml hown hL hK hM hS (kX10_frees l G A V h21 r13 hc23) (zg_X10_frees zw4_111) zv_X10_frees ⟨rfl, rfl⟩ ⟨Nat.le_of_ble_eq_true rfl, Nat.le_of_ble_eq_true rfl⟩ (hM.recv hK dm_16 (ze_16 G V 0 0 h21) rfl) rfl hl.1 rfl (Nat.le_of_ble_eq_true rfl) dX10_takesFree_64 ⟨Nat.zero_le _, Nat.zero_le _⟩ (fun H locs hM hS => ?_)
          refine W.eq (g2 := F0 m 67 ls []) rfl ?_
          refine lv_iconst (v := 1) hx hb dX10_takesFree_67 (by decide) ?_
          exact hQf rfl hf hM hS dX10_takesFree_68
  unfold xX10_takesFree at hf
  refine lv_iconst (v := 0) hx hb dX10_takesFree_0 (by decide) ?_
  refine lv_istore_n (lv' := [(1, .int (0 : Int32)), (0, .ref (gA G 16 0 0))]) hx hb dX10_takesFree_1 rfl hl (by decide) rfl (fun ls hl => ?_)
  exact L2 1000 h (0 : Int32) hf _ _ _ hM hS (lv_sub hl [1, 0] rfl)
abbrev rX10_wants : Room := { frames := 1, cells := 0, slots := 0, locals := 22 }
set_option maxRecDepth 100000 in
set_option maxHeartbeats 4000000 in
theorem kX10_wants (l : Launch) (G : zG) (A : Nat → Prop) (V : zV3) (h : zV2) (p1 : Int32) (p2 : Int32) {r : Int32} {h' : zV2} (hf : xX10_wants h p1 p2 = some (r, h')) : zCt l G A yX10_wants cX10_wants 3 (some .boolean) rX10_wants [.ref (gA G 16 0 0), .int p1, .int p2] (upG V 8 h) (some (.int r)) (upG V 8 h') := by
  refine z_CtZ (by decide) (Nat.le_of_ble_eq_true rfl) ?_
  intro p e s m args below meth c Q hx hb hml hown hL hK hM hS hQ ls hl
  replace hl : lv_has ls 3 [(0, .ref (gA G 16 0 0)), (1, .int p1), (2, .int p2)] := hl
  have hQf : ∀ {a : Int32} {k : zV2} {H : Heap} {locs : List Loc} {pc : Nat} {ls : Array Slot}, narrow .boolean (.int a) = .int a → some (a, k) = some (r, h') → zM G (upG V 8 k) H → va_S A s.heap H locs → decode cX10_wants pc = .ok (.ireturn, 1) → W p l e rX10_wants s m args below meth c H locs 0 0 Q (F0 m pc ls [.int a]) := by
    intro a k H locs pc ls hnr e1 hM hS hd
    cases e1
    exact hQ H locs pc ls hnr hM hS hd
  unfold xX10_wants at hf
  refine lv_iload_n hx hb dX10_wants_0 rfl (lv_at hl 1 rfl) ?_
  refine lv_iload_n hx hb dX10_wants_1 rfl (lv_at hl 2 rfl) ?_
  refine lv_icmp_eq (tgt := 47) hx hb dX10_wants_2 (by decide) (fun c1 => ?_) (fun c1 => ?_)
  · replace hf := ift hf c1
    refine lv_iconst (v := 0) hx hb dX10_wants_47 (by decide) ?_
    exact hQf rfl hf hM hS dX10_wants_48
  · replace hf := iff_ hf c1
    refine lv_aload_n hx hb dX10_wants_5 rfl (lv_at hl 0 rfl) ?_
    refine lv_iload_n hx hb dX10_wants_6 rfl (lv_at hl 1 rfl) ?_
    refine lv_iconst (v := 5) hx hb dX10_wants_7 (by decide) ?_
    obtain ⟨r2, h4, hc3, hf⟩ := bnd_some hf
    refine z_callV (As := [.int p1, .int (5 : Int32)]) (rest := []) (C := RX10) hx hb hml hown hL hK hM hS (kX10_ofP l G A V h p1 (5 : Int32) hc3) (zg_X10_ofP zw4_147) zv_X10_ofP ⟨rfl, rfl⟩ ⟨Nat.le_of_ble_eq_true rfl, Nat.le_of_ble_eq_true rfl⟩ (hM.recv hK dm_16 (ze_16 G V 0 0 h) rfl) rfl hl.1 rfl (Nat.le_of_ble_eq_true rfl) dX10_wants_8 ⟨Nat.zero_le _, Nat.zero_le _⟩ (fun H locs hM hS => ?_)
    refine W.eq (g2 := F0 m 11 ls [.int r2]) rfl ?_
    refine lv_if_lt (tgt := 47) hx hb dX10_wants_11 (by decide) (fun c5 => ?_) (fun c5 => ?_)
    · replace hf := ift hf c5
      refine lv_iconst (v := 0) hx hb dX10_wants_47 (by decide) ?_
      exact hQf rfl hf hM hS dX10_wants_48
    · replace hf := iff_ hf c5
      refine lv_aload_n hx hb dX10_wants_14 rfl (lv_at hl 0 rfl) ?_
      refine lv_iload_n hx hb dX10_wants_15 rfl (lv_at hl 2 rfl) ?_
      refine lv_iconst (v := 5) hx hb dX10_wants_16 (by decide) ?_
      obtain ⟨r6, h8, hc7, hf⟩ := bnd_some hf
      refine z_callV (As := [.int p2, .int (5 : Int32)]) (rest := []) (C := RX10) hx hb hml hown hL hK hM hS (kX10_ofP l G A V h4 p2 (5 : Int32) hc7) (zg_X10_ofP zw4_147) zv_X10_ofP ⟨rfl, rfl⟩ ⟨Nat.le_of_ble_eq_true rfl, Nat.le_of_ble_eq_true rfl⟩ (hM.recv hK dm_16 (ze_16 G V 0 0 h4) rfl) rfl hl.1 rfl (Nat.le_of_ble_eq_true rfl) dX10_wants_17 ⟨Nat.zero_le _, Nat.zero_le _⟩ (fun H locs hM hS => ?_)
      refine W.eq (g2 := F0 m 20 ls [.int r6]) rfl ?_
      refine lv_if_lt (tgt := 47) hx hb dX10_wants_20 (by decide) (fun c9 => ?_) (fun c9 => ?_)
      · replace hf := ift hf c9
        refine lv_iconst (v := 0) hx hb dX10_wants_47 (by decide) ?_
        exact hQf rfl hf hM hS dX10_wants_48
      · replace hf := iff_ hf c9
        refine lv_aload_n hx hb dX10_wants_23 rfl (lv_at hl 0 rfl) ?_
        refine lv_iload_n hx hb dX10_wants_24 rfl (lv_at hl 1 rfl) ?_
        refine lv_iconst (v := 5) hx hb dX10_wants_25 (by decide) ?_
        obtain ⟨r10, h12, hc11, hf⟩ := bnd_some hf
        refine z_callV (As := [.int p1, .int (5 : Int32)]) (rest := []) (C := RX10) hx hb hml hown hL hK hM hS (kX10_ofP l G A V h8 p1 (5 : Int32) hc11) (zg_X10_ofP zw4_147) zv_X10_ofP ⟨rfl, rfl⟩ ⟨Nat.le_of_ble_eq_true rfl, Nat.le_of_ble_eq_true rfl⟩ (hM.recv hK dm_16 (ze_16 G V 0 0 h8) rfl) rfl hl.1 rfl (Nat.le_of_ble_eq_true rfl) dX10_wants_26 ⟨Nat.zero_le _, Nat.zero_le _⟩ (fun H locs hM hS => ?_)
        refine W.eq (g2 := F0 m 29 ls [.int r10]) rfl ?_
        refine lv_aload_n hx hb dX10_wants_29 rfl (lv_at hl 0 rfl) ?_
        refine lv_aload_n hx hb dX10_wants_30 rfl (lv_at hl 0 rfl) ?_
        refine lv_iload_n hx hb dX10_wants_31 rfl (lv_at hl 2 rfl) ?_
        refine lv_iconst (v := 0) hx hb dX10_wants_32 (by decide) ?_
        obtain ⟨r13, h15, hc14, hf⟩ := bnd_some hf
        refine z_callV (As := [.int p2, .int (0 : Int32)]) (rest := [.ref (gA G 16 0 0), .int r10]) (C := RX10) hx hb hml hown hL hK hM hS (kX10_ofP l G A V h12 p2 (0 : Int32) hc14) (zg_X10_ofP zw4_147) zv_X10_ofP ⟨rfl, rfl⟩ ⟨Nat.le_of_ble_eq_true rfl, Nat.le_of_ble_eq_true rfl⟩ (hM.recv hK dm_16 (ze_16 G V 0 0 h12) rfl) rfl hl.1 rfl (Nat.le_of_ble_eq_true rfl) dX10_wants_33 ⟨Nat.zero_le _, Nat.zero_le _⟩ (fun H locs hM hS => ?_)
        refine W.eq (g2 := F0 m 36 ls [.int r13, .ref (gA G 16 0 0), .int r10]) rfl ?_
        refine lv_iconst (v := 0) hx hb dX10_wants_36 (by decide) ?_
        obtain ⟨r16, h18, hc17, hf⟩ := bnd_some hf
        refine z_callV (As := [.int r13, .int (0 : Int32)]) (rest := [.int r10]) (C := RX10) hx hb hml hown hL hK hM hS (kX10_of l G A V h15 r13 (0 : Int32) hc17) (zg_X10_of zw4_103) zv_X10_of ⟨rfl, rfl⟩ ⟨Nat.le_of_ble_eq_true rfl, Nat.le_of_ble_eq_true rfl⟩ (hM.recv hK dm_16 (ze_16 G V 0 0 h15) rfl) rfl hl.1 rfl (Nat.le_of_ble_eq_true rfl) dX10_wants_37 ⟨Nat.zero_le _, Nat.zero_le _⟩ (fun H locs hM hS => ?_)
        refine W.eq (g2 := F0 m 40 ls [.int r16, .int r10]) rfl ?_
        refine lv_icmp_ne (tgt := 47) hx hb dX10_wants_40 (by decide) (fun c19 => ?_) (fun c19 => ?_)
        · replace hf := iff_ hf c19
          refine lv_iconst (v := 0) hx hb dX10_wants_47 (by decide) ?_
          exact hQf rfl hf hM hS dX10_wants_48
        · replace hf := ift hf c19
          refine lv_iconst (v := 1) hx hb dX10_wants_43 (by decide) ?_
          refine lv_goto (tgt := 48) hx hb dX10_wants_44 (by decide) ?_
          exact hQf rfl hf hM hS dX10_wants_48
abbrev rX10_thirdOf : Room := { frames := 2, cells := 0, slots := 0, locals := 44 }
set_option maxRecDepth 100000 in
set_option maxHeartbeats 4000000 in
theorem kX10_thirdOf (l : Launch) (G : zG) (A : Nat → Prop) (V : zV3) (h : zV2) (p1 : Int32) (p2 : Int32) {r : Int32} {h' : zV2} (hf : xX10_thirdOf h p1 p2 = some (r, h')) : zCt l G A yX10_thirdOf cX10_thirdOf 4 (some .int) rX10_thirdOf [.ref (gA G 16 0 0), .int p1, .int p2] (upG V 8 h) (some (.int r)) (upG V 8 h') := by
  refine z_CtI (by decide) (Nat.le_of_ble_eq_true rfl) ?_
  intro p e s m args below meth c Q hx hb hml hown hL hK hM hS hQ ls hl
  replace hl : lv_has ls 4 [(0, .ref (gA G 16 0 0)), (1, .int p1), (2, .int p2)] := hl
  have hQf : ∀ {a : Int32} {k : zV2} {H : Heap} {locs : List Loc} {pc : Nat} {ls : Array Slot}, some (a, k) = some (r, h') → zM G (upG V 8 k) H → va_S A s.heap H locs → decode cX10_thirdOf pc = .ok (.ireturn, 1) → W p l e rX10_thirdOf s m args below meth c H locs 0 0 Q (F0 m pc ls [.int a]) := by
    intro a k H locs pc ls e1 hM hS hd
    cases e1
    exact hQ H locs pc ls hM hS hd
  have L27 : ∀ (n : Nat) (h : zV2) (a3 : Int32), xX10_thirdOf_L27 p1 p2 n h a3 = some (r, h') → ∀ (H : Heap) (locs : List Loc) (ls : Array Slot), zM G (upG V 8 h) H → va_S A s.heap H locs → lv_has ls 4 [(0, .ref (gA G 16 0 0)), (1, .int p1), (2, .int p2), (3, .int a3)] → W p l e rX10_thirdOf s m args below meth c H locs 0 0 Q (F0 m 27 ls []) := by
    intro n
    induction n with
    | zero =>
      intro h a3 hf H locs ls hM hS hl
      rw [xX10_thirdOf_L27] at hf
      cases hf
    | succ n ih =>
      intro h a3 hf H locs ls hM hS hl
      rw [xX10_thirdOf_L27] at hf
      refine lv_iload_n hx hb dX10_thirdOf_27 rfl (lv_at hl 3 rfl) ?_
      refine lv_aload_n hx hb dX10_thirdOf_28 rfl (lv_at hl 0 rfl) ?_
      refine z_get (own := RX10) (C := RX10) (T := TX10) (N := 12) (ci := 8) (v := .ref (gA G 17 0 0)) hx hb hL inX10 hown hK hM dm_16 (ze_16 G V 0 0 h) rfl 0 (by decide) (hL _ zw4_19) rfl rfl dX10_thirdOf_29 ?_
      refine lv_iconst (v := 5) hx hb dX10_thirdOf_32 (by decide) ?_
      obtain ⟨hb1, hf⟩ := grd_some hf
      refine z_iald hx hb hK hM (dm_17 (i := 0) (by decide)) (ze_17_0 G V h) (inb_in hb1) dX10_thirdOf_33 ?_
      refine lv_icmp_ge (tgt := 63) hx hb dX10_thirdOf_34 (by decide) (fun c2 => ?_) (fun c2 => ?_)
      · replace hf := ift hf c2
        refine lv_bipush (v := -4) hx hb dX10_thirdOf_63 (by decide) ?_
        exact hQf hf hM hS dX10_thirdOf_65
      · replace hf := iff_ hf c2
        refine lv_aload_n hx hb dX10_thirdOf_37 rfl (lv_at hl 0 rfl) ?_
        refine lv_iload_n hx hb dX10_thirdOf_38 rfl (lv_at hl 2 rfl) ?_
        refine lv_iload_n hx hb dX10_thirdOf_39 rfl (lv_at hl 3 rfl) ?_
        obtain ⟨r3, h5, hc4, hf⟩ := bnd_some hf
        refine z_callV (As := [.int p2, .int a3]) (rest := []) (C := RX10) hx hb hml hown hL hK hM hS (kX10_wants l G A V h p2 a3 hc4) (zg_X10_wants zw5_7) zv_X10_wants ⟨rfl, rfl⟩ ⟨Nat.le_of_ble_eq_true rfl, Nat.le_of_ble_eq_true rfl⟩ (hM.recv hK dm_16 (ze_16 G V 0 0 h) rfl) rfl hl.1 rfl (Nat.le_of_ble_eq_true rfl) dX10_thirdOf_40 ⟨Nat.zero_le _, Nat.zero_le _⟩ (fun H locs hM hS => ?_)
        refine W.eq (g2 := F0 m 43 ls [.int r3]) rfl ?_
        refine lv_if_eq (tgt := 57) hx hb dX10_thirdOf_43 (by decide) (fun c6 => ?_) (fun c6 => ?_)
        · replace hf := ift hf c6
          obtain ⟨y7, ey7⟩ : ∃ y : Int32, y = a3 + (1 : Int32) := ⟨_, rfl⟩
          replace hf := ltI_some hf ey7
          refine lv_iinc (v := y7) (lv' := [(3, .int y7), (0, .ref (gA G 16 0 0)), (1, .int p1), (2, .int p2)]) hx hb dX10_thirdOf_57 hl (k := 3) rfl (by rw [ey7]; rfl) (by decide) rfl (fun ls hl => ?_)
          refine lv_goto (tgt := 27) hx hb dX10_thirdOf_60 (by decide) ?_
          exact ih h5 y7 hf _ _ _ hM hS (lv_sub hl [1, 2, 3, 0] rfl)
        · replace hf := iff_ hf c6
          refine lv_aload_n hx hb dX10_thirdOf_46 rfl (lv_at hl 0 rfl) ?_
          refine lv_iload_n hx hb dX10_thirdOf_47 rfl (lv_at hl 3 rfl) ?_
          refine lv_iload_n hx hb dX10_thirdOf_48 rfl (lv_at hl 1 rfl) ?_
          obtain ⟨r8, h10, hc9, hf⟩ := bnd_some hf
          refine z_callV (As := [.int a3, .int p1]) (rest := []) (C := RX10) hx hb hml hown hL hK hM hS (kX10_wants l G A V h5 a3 p1 hc9) (zg_X10_wants zw5_7) zv_X10_wants ⟨rfl, rfl⟩ ⟨Nat.le_of_ble_eq_true rfl, Nat.le_of_ble_eq_true rfl⟩ (hM.recv hK dm_16 (ze_16 G V 0 0 h5) rfl) rfl hl.1 rfl (Nat.le_of_ble_eq_true rfl) dX10_thirdOf_49 ⟨Nat.zero_le _, Nat.zero_le _⟩ (fun H locs hM hS => ?_)
          refine W.eq (g2 := F0 m 52 ls [.int r8]) rfl ?_
          refine lv_if_eq (tgt := 57) hx hb dX10_thirdOf_52 (by decide) (fun c11 => ?_) (fun c11 => ?_)
          · replace hf := ift hf c11
            obtain ⟨y12, ey12⟩ : ∃ y : Int32, y = a3 + (1 : Int32) := ⟨_, rfl⟩
            replace hf := ltI_some hf ey12
            refine lv_iinc (v := y12) (lv' := [(3, .int y12), (0, .ref (gA G 16 0 0)), (1, .int p1), (2, .int p2)]) hx hb dX10_thirdOf_57 hl (k := 3) rfl (by rw [ey12]; rfl) (by decide) rfl (fun ls hl => ?_)
            refine lv_goto (tgt := 27) hx hb dX10_thirdOf_60 (by decide) ?_
            exact ih h10 y12 hf _ _ _ hM hS (lv_sub hl [1, 2, 3, 0] rfl)
          · replace hf := iff_ hf c11
            refine lv_iload_n hx hb dX10_thirdOf_55 rfl (lv_at hl 3 rfl) ?_
            exact hQf hf hM hS dX10_thirdOf_56
  unfold xX10_thirdOf at hf
  refine lv_aload_n hx hb dX10_thirdOf_0 rfl (lv_at hl 0 rfl) ?_
  refine lv_iload_n hx hb dX10_thirdOf_1 rfl (lv_at hl 1 rfl) ?_
  refine lv_iload_n hx hb dX10_thirdOf_2 rfl (lv_at hl 2 rfl) ?_
  obtain ⟨r1, h3, hc2, hf⟩ := bnd_some hf
  refine z_callV (As := [.int p1, .int p2]) (rest := []) (C := RX10) hx hb hml hown hL hK hM hS (kX10_wants l G A V h p1 p2 hc2) (zg_X10_wants zw5_7) zv_X10_wants ⟨rfl, rfl⟩ ⟨Nat.le_of_ble_eq_true rfl, Nat.le_of_ble_eq_true rfl⟩ (hM.recv hK dm_16 (ze_16 G V 0 0 h) rfl) rfl hl.1 rfl (Nat.le_of_ble_eq_true rfl) dX10_thirdOf_3 ⟨Nat.zero_le _, Nat.zero_le _⟩ (fun H locs hM hS => ?_)
  refine W.eq (g2 := F0 m 6 ls [.int r1]) rfl ?_
  refine lv_if_ne (tgt := 12) hx hb dX10_thirdOf_6 (by decide) (fun c4 => ?_) (fun c4 => ?_)
  · replace hf := iff_ hf c4
    refine lv_aload_n hx hb dX10_thirdOf_12 rfl (lv_at hl 0 rfl) ?_
    refine lv_iload_n hx hb dX10_thirdOf_13 rfl (lv_at hl 2 rfl) ?_
    refine lv_iload_n hx hb dX10_thirdOf_14 rfl (lv_at hl 1 rfl) ?_
    obtain ⟨r5, h7, hc6, hf⟩ := bnd_some hf
    refine z_callV (As := [.int p2, .int p1]) (rest := []) (C := RX10) hx hb hml hown hL hK hM hS (kX10_wants l G A V h3 p2 p1 hc6) (zg_X10_wants zw5_7) zv_X10_wants ⟨rfl, rfl⟩ ⟨Nat.le_of_ble_eq_true rfl, Nat.le_of_ble_eq_true rfl⟩ (hM.recv hK dm_16 (ze_16 G V 0 0 h3) rfl) rfl hl.1 rfl (Nat.le_of_ble_eq_true rfl) dX10_thirdOf_15 ⟨Nat.zero_le _, Nat.zero_le _⟩ (fun H locs hM hS => ?_)
    refine W.eq (g2 := F0 m 18 ls [.int r5]) rfl ?_
    refine lv_if_eq (tgt := 23) hx hb dX10_thirdOf_18 (by decide) (fun c8 => ?_) (fun c8 => ?_)
    · replace hf := ift hf c8
      refine lv_iload_n hx hb dX10_thirdOf_23 rfl (lv_at hl 1 rfl) ?_
      refine lv_iconst (v := 1) hx hb dX10_thirdOf_24 (by decide) ?_
      refine lv_iadd hx hb dX10_thirdOf_25 ?_
      refine lv_topi (fun y9 ey9 => ?_)
      replace hf := ltI_some hf ey9
      refine lv_istore_n (lv' := [(3, .int y9), (0, .ref (gA G 16 0 0)), (1, .int p1), (2, .int p2)]) hx hb dX10_thirdOf_26 rfl hl (by decide) rfl (fun ls hl => ?_)
      exact L27 1000 h7 y9 hf _ _ _ hM hS (lv_sub hl [1, 2, 3, 0] rfl)
    · replace hf := iff_ hf c8
      refine lv_iconst (v := -1) hx hb dX10_thirdOf_21 (by decide) ?_
      exact hQf hf hM hS dX10_thirdOf_22
  · replace hf := ift hf c4
    refine lv_bipush (v := -4) hx hb dX10_thirdOf_9 (by decide) ?_
    exact hQf hf hM hS dX10_thirdOf_11
abbrev rX10_goesRound : Room := { frames := 3, cells := 0, slots := 0, locals := 67 }
set_option maxRecDepth 100000 in
set_option maxHeartbeats 4000000 in
theorem kX10_goesRound (l : Launch) (G : zG) (A : Nat → Prop) (V : zV3) (h : zV2) (p1 : Int32) (p2 : Int32) (p3 : Int32) {r : Int32} {h' : zV2} (hf : xX10_goesRound h p1 p2 p3 = some (r, h')) : zCt l G A yX10_goesRound cX10_goesRound 5 (some .int) rX10_goesRound [.ref (gA G 16 0 0), .int p1, .int p2, .int p3] (upG V 8 h) (some (.int r)) (upG V 8 h') := by
  refine z_CtI (by decide) (Nat.le_of_ble_eq_true rfl) ?_
  intro p e s m args below meth c Q hx hb hml hown hL hK hM hS hQ ls hl
  replace hl : lv_has ls 5 [(0, .ref (gA G 16 0 0)), (1, .int p1), (2, .int p2), (3, .int p3)] := hl
  have hQf : ∀ {a : Int32} {k : zV2} {H : Heap} {locs : List Loc} {pc : Nat} {ls : Array Slot}, some (a, k) = some (r, h') → zM G (upG V 8 k) H → va_S A s.heap H locs → decode cX10_goesRound pc = .ok (.ireturn, 1) → W p l e rX10_goesRound s m args below meth c H locs 0 0 Q (F0 m pc ls [.int a]) := by
    intro a k H locs pc ls e1 hM hS hd
    cases e1
    exact hQ H locs pc ls hM hS hd
  unfold xX10_goesRound at hf
  refine lv_aload_n hx hb dX10_goesRound_0 rfl (lv_at hl 0 rfl) ?_
  refine lv_iload_n hx hb dX10_goesRound_1 rfl (lv_at hl 1 rfl) ?_
  refine lv_iconst (v := 0) hx hb dX10_goesRound_2 (by decide) ?_
  obtain ⟨r1, h3, hc2, hf⟩ := bnd_some hf
  refine z_callV (As := [.int p1, .int (0 : Int32)]) (rest := []) (C := RX10) hx hb hml hown hL hK hM hS (kX10_ofP l G A V h p1 (0 : Int32) hc2) (zg_X10_ofP zw4_147) zv_X10_ofP ⟨rfl, rfl⟩ ⟨Nat.le_of_ble_eq_true rfl, Nat.le_of_ble_eq_true rfl⟩ (hM.recv hK dm_16 (ze_16 G V 0 0 h) rfl) rfl hl.1 rfl (Nat.le_of_ble_eq_true rfl) dX10_goesRound_3 ⟨Nat.zero_le _, Nat.zero_le _⟩ (fun H locs hM hS => ?_)
  refine W.eq (g2 := F0 m 6 ls [.int r1]) rfl ?_
  refine lv_istore (lv' := [(4, .int r1), (0, .ref (gA G 16 0 0)), (1, .int p1), (2, .int p2), (3, .int p3)]) hx hb dX10_goesRound_6 hl (by decide) rfl (fun ls hl => ?_)
  refine lv_aload_n hx hb dX10_goesRound_8 rfl (lv_at hl 1 rfl) ?_
  refine lv_iload_n hx hb dX10_goesRound_9 rfl (lv_at hl 2 rfl) ?_
  refine lv_aload_n hx hb dX10_goesRound_10 rfl (lv_at hl 1 rfl) ?_
  refine lv_iload_n hx hb dX10_goesRound_11 rfl (lv_at hl 3 rfl) ?_
  refine lv_iconst (v := 0) hx hb dX10_goesRound_12 (by decide) ?_
  obtain ⟨r4, h6, hc5, hf⟩ := bnd_some hf
  refine z_callV (As := [.int p2, .int (0 : Int32)]) (rest := [.int p1, .ref (gA G 16 0 0)]) (C := RX10) hx hb hml hown hL hK hM hS (kX10_ofP l G A V h3 p2 (0 : Int32) hc5) (zg_X10_ofP zw4_147) zv_X10_ofP ⟨rfl, rfl⟩ ⟨Nat.le_of_ble_eq_true rfl, Nat.le_of_ble_eq_true rfl⟩ (hM.recv hK dm_16 (ze_16 G V 0 0 h3) rfl) rfl hl.1 rfl (Nat.le_of_ble_eq_true rfl) dX10_goesRound_13 ⟨Nat.zero_le _, Nat.zero_le _⟩ (fun H locs hM hS => ?_)
  refine W.eq (g2 := F0 m 16 ls [.int r4, .int p1, .ref (gA G 16 0 0)]) rfl ?_
  obtain ⟨r7, h9, hc8, hf⟩ := bnd_some hf
  refine z_callV (As := [.int p1, .int r4]) (rest := []) (C := RX10) hx hb hml hown hL hK hM hS (kX10_moves l G A V h6 p1 r4 hc8) (zg_X10_moves zw4_235) zv_X10_moves ⟨rfl, rfl⟩ ⟨Nat.le_of_ble_eq_true rfl, Nat.le_of_ble_eq_true rfl⟩ (hM.recv hK dm_16 (ze_16 G V 0 0 h6) rfl) rfl hl.1 rfl (Nat.le_of_ble_eq_true rfl) dX10_goesRound_16 ⟨Nat.zero_le _, Nat.zero_le _⟩ (fun H locs hM hS => ?_)
  refine W.eq (g2 := F0 m 19 ls []) rfl ?_
  refine lv_iload_n hx hb dX10_goesRound_19 rfl (lv_at hl 4 rfl) ?_
  refine lv_if_lt (tgt := 43) hx hb dX10_goesRound_20 (by decide) (fun c10 => ?_) (fun c10 => ?_)
  · replace hf := ift hf c10
    refine lv_aload_n hx hb dX10_goesRound_43 rfl (lv_at hl 1 rfl) ?_
    refine lv_iload_n hx hb dX10_goesRound_44 rfl (lv_at hl 3 rfl) ?_
    refine lv_iload hx hb dX10_goesRound_45 (lv_at hl 0 rfl) ?_
    obtain ⟨r11, h13, hc12, hf⟩ := bnd_some hf
    refine z_callV (As := [.int p2, .int r1]) (rest := []) (C := RX10) hx hb hml hown hL hK hM hS (kX10_moves l G A V h9 p2 r1 hc12) (zg_X10_moves zw4_235) zv_X10_moves ⟨rfl, rfl⟩ ⟨Nat.le_of_ble_eq_true rfl, Nat.le_of_ble_eq_true rfl⟩ (hM.recv hK dm_16 (ze_16 G V 0 0 h9) rfl) rfl hl.1 rfl (Nat.le_of_ble_eq_true rfl) dX10_goesRound_47 ⟨Nat.zero_le _, Nat.zero_le _⟩ (fun H locs hM hS => ?_)
    refine W.eq (g2 := F0 m 50 ls []) rfl ?_
    refine lv_iconst (v := 2) hx hb dX10_goesRound_50 (by decide) ?_
    exact hQf hf hM hS dX10_goesRound_51
  · replace hf := iff_ hf c10
    refine lv_aload_n hx hb dX10_goesRound_23 rfl (lv_at hl 1 rfl) ?_
    refine lv_iload_n hx hb dX10_goesRound_24 rfl (lv_at hl 3 rfl) ?_
    refine lv_aload_n hx hb dX10_goesRound_25 rfl (lv_at hl 1 rfl) ?_
    refine lv_iload_n hx hb dX10_goesRound_26 rfl (lv_at hl 4 rfl) ?_
    refine lv_iconst (v := 0) hx hb dX10_goesRound_27 (by decide) ?_
    obtain ⟨r14, h16, hc15, hf⟩ := bnd_some hf
    refine z_callV (As := [.int p3, .int (0 : Int32)]) (rest := [.int p2, .ref (gA G 16 0 0)]) (C := RX10) hx hb hml hown hL hK hM hS (kX10_ofP l G A V h9 p3 (0 : Int32) hc15) (zg_X10_ofP zw4_147) zv_X10_ofP ⟨rfl, rfl⟩ ⟨Nat.le_of_ble_eq_true rfl, Nat.le_of_ble_eq_true rfl⟩ (hM.recv hK dm_16 (ze_16 G V 0 0 h9) rfl) rfl hl.1 rfl (Nat.le_of_ble_eq_true rfl) dX10_goesRound_28 ⟨Nat.zero_le _, Nat.zero_le _⟩ (fun H locs hM hS => ?_)
    refine W.eq (g2 := F0 m 31 ls [.int r14, .int p2, .ref (gA G 16 0 0)]) rfl ?_
    obtain ⟨r17, h19, hc18, hf⟩ := bnd_some hf
    refine z_callV (As := [.int p2, .int r14]) (rest := []) (C := RX10) hx hb hml hown hL hK hM hS (kX10_moves l G A V h16 p2 r14 hc18) (zg_X10_moves zw4_235) zv_X10_moves ⟨rfl, rfl⟩ ⟨Nat.le_of_ble_eq_true rfl, Nat.le_of_ble_eq_true rfl⟩ (hM.recv hK dm_16 (ze_16 G V 0 0 h16) rfl) rfl hl.1 rfl (Nat.le_of_ble_eq_true rfl) dX10_goesRound_31 ⟨Nat.zero_le _, Nat.zero_le _⟩ (fun H locs hM hS => ?_)
    refine W.eq (g2 := F0 m 34 ls []) rfl ?_
    refine lv_aload_n hx hb dX10_goesRound_34 rfl (lv_at hl 1 rfl) ?_
    refine lv_iload_n hx hb dX10_goesRound_35 rfl (lv_at hl 4 rfl) ?_
    refine lv_iload hx hb dX10_goesRound_36 (lv_at hl 0 rfl) ?_
    obtain ⟨r20, h22, hc21, hf⟩ := bnd_some hf
    refine z_callV (As := [.int p3, .int r1]) (rest := []) (C := RX10) hx hb hml hown hL hK hM hS (kX10_moves l G A V h19 p3 r1 hc21) (zg_X10_moves zw4_235) zv_X10_moves ⟨rfl, rfl⟩ ⟨Nat.le_of_ble_eq_true rfl, Nat.le_of_ble_eq_true rfl⟩ (hM.recv hK dm_16 (ze_16 G V 0 0 h19) rfl) rfl hl.1 rfl (Nat.le_of_ble_eq_true rfl) dX10_goesRound_38 ⟨Nat.zero_le _, Nat.zero_le _⟩ (fun H locs hM hS => ?_)
    refine W.eq (g2 := F0 m 41 ls []) rfl ?_
    refine lv_iconst (v := 3) hx hb dX10_goesRound_41 (by decide) ?_
    exact hQf hf hM hS dX10_goesRound_42
abbrev rX10_takesRing : Room := { frames := 4, cells := 0, slots := 0, locals := 91 }
set_option maxRecDepth 100000 in
set_option maxHeartbeats 4000000 in
theorem kX10_takesRing (l : Launch) (G : zG) (A : Nat → Prop) (V : zV3) (h : zV2) {r : Int32} {h' : zV2} (hf : xX10_takesRing h  = some (r, h')) : zCt l G A yX10_takesRing cX10_takesRing 4 (some .int) rX10_takesRing [.ref (gA G 16 0 0)] (upG V 8 h) (some (.int r)) (upG V 8 h') := by
  refine z_CtI (by decide) (Nat.le_of_ble_eq_true rfl) ?_
  intro p e s m args below meth c Q hx hb hml hown hL hK hM hS hQ ls hl
  replace hl : lv_has ls 4 [(0, .ref (gA G 16 0 0))] := hl
  have hQf : ∀ {a : Int32} {k : zV2} {H : Heap} {locs : List Loc} {pc : Nat} {ls : Array Slot}, some (a, k) = some (r, h') → zM G (upG V 8 k) H → va_S A s.heap H locs → decode cX10_takesRing pc = .ok (.ireturn, 1) → W p l e rX10_takesRing s m args below meth c H locs 0 0 Q (F0 m pc ls [.int a]) := by
    intro a k H locs pc ls e1 hM hS hd
    cases e1
    exact hQ H locs pc ls hM hS hd
  have L16 : ∀ (K2 : zV2 → Int32 → Option (Int32 × zV2)), (∀ (h : zV2) (a1 : Int32), K2 h a1 = some (r, h') → ∀ (H : Heap) (locs : List Loc) (ls : Array Slot), zM G (upG V 8 h) H → va_S A s.heap H locs → lv_has ls 4 [(0, .ref (gA G 16 0 0)), (1, .int a1)] → W p l e rX10_takesRing s m args below meth c H locs 0 0 Q (F0 m 2 ls [])) → ∀ (n : Nat) (h : zV2) (a1 : Int32) (a2 : Int32), xX10_takesRing_L16 K2 n h a1 a2 = some (r, h') → ∀ (H : Heap) (locs : List Loc) (ls : Array Slot), zM G (upG V 8 h) H → va_S A s.heap H locs → lv_has ls 4 [(0, .ref (gA G 16 0 0)), (1, .int a1), (2, .int a2)] → W p l e rX10_takesRing s m args below meth c H locs 0 0 Q (F0 m 16 ls []) := by
    intro K2 hK2
    intro n
    induction n with
    | zero =>
      intro h a1 a2 hf H locs ls hM hS hl
      rw [xX10_takesRing_L16] at hf
      cases hf
    | succ n ih =>
      intro h a1 a2 hf H locs ls hM hS hl
      rw [xX10_takesRing_L16] at hf
      refine lv_iload_n hx hb dX10_takesRing_16 rfl (lv_at hl 2 rfl) ?_
      refine lv_aload_n hx hb dX10_takesRing_17 rfl (lv_at hl 0 rfl) ?_
      refine z_get (own := RX10) (C := RX10) (T := TX10) (N := 12) (ci := 8) (v := .ref (gA G 17 0 0)) hx hb hL inX10 hown hK hM dm_16 (ze_16 G V 0 0 h) rfl 0 (by decide) (hL _ zw4_19) rfl rfl dX10_takesRing_18 ?_
      refine lv_iconst (v := 5) hx hb dX10_takesRing_21 (by decide) ?_
      obtain ⟨hb1, hf⟩ := grd_some hf
      refine z_iald hx hb hK hM (dm_17 (i := 0) (by decide)) (ze_17_0 G V h) (inb_in hb1) dX10_takesRing_22 ?_
      refine lv_icmp_ge (tgt := 53) hx hb dX10_takesRing_23 (by decide) (fun c2 => ?_) (fun c2 => ?_)
      · replace hf := ift hf c2
        obtain ⟨y3, ey3⟩ : ∃ y : Int32, y = a1 + (1 : Int32) := ⟨_, rfl⟩
        replace hf := ltI_some hf ey3
        refine lv_iinc (v := y3) (lv' := [(1, .int y3), (0, .ref (gA G 16 0 0)), (2, .int a2)]) hx hb dX10_takesRing_53 hl (k := 1) rfl (by rw [ey3]; rfl) (by decide) rfl (fun ls hl => ?_)
        refine lv_goto (tgt := 2) hx hb dX10_takesRing_56 (by decide) ?_
        exact hK2 h y3 hf _ _ _ hM hS (lv_sub hl [1, 0] rfl)
      · replace hf := iff_ hf c2
        refine lv_aload_n hx hb dX10_takesRing_26 rfl (lv_at hl 0 rfl) ?_
        refine lv_iload_n hx hb dX10_takesRing_27 rfl (lv_at hl 1 rfl) ?_
        refine lv_iload_n hx hb dX10_takesRing_28 rfl (lv_at hl 2 rfl) ?_
        obtain ⟨r4, h6, hc5, hf⟩ := bnd_some hf
        refine z_callV (As := [.int a1, .int a2]) (rest := []) (C := RX10) hx hb hml hown hL hK hM hS (kX10_thirdOf l G A V h a1 a2 hc5) (zg_X10_thirdOf zw5_3) zv_X10_thirdOf ⟨rfl, rfl⟩ ⟨Nat.le_of_ble_eq_true rfl, Nat.le_of_ble_eq_true rfl⟩ (hM.recv hK dm_16 (ze_16 G V 0 0 h) rfl) rfl hl.1 rfl (Nat.le_of_ble_eq_true rfl) dX10_takesRing_29 ⟨Nat.zero_le _, Nat.zero_le _⟩ (fun H locs hM hS => ?_)
        refine W.eq (g2 := F0 m 32 ls [.int r4]) rfl ?_
        refine lv_istore_n (lv' := [(3, .int r4), (0, .ref (gA G 16 0 0)), (1, .int a1), (2, .int a2)]) hx hb dX10_takesRing_32 rfl hl (by decide) rfl (fun ls hl => ?_)
        refine lv_iload_n hx hb dX10_takesRing_33 rfl (lv_at hl 0 rfl) ?_
        refine lv_bipush (v := -4) hx hb dX10_takesRing_34 (by decide) ?_
        refine lv_icmp_eq (tgt := 47) hx hb dX10_takesRing_36 (by decide) (fun c7 => ?_) (fun c7 => ?_)
        · replace hf := ift hf c7
          obtain ⟨y8, ey8⟩ : ∃ y : Int32, y = a2 + (1 : Int32) := ⟨_, rfl⟩
          replace hf := ltI_some hf ey8
          refine lv_iinc (v := y8) (lv' := [(2, .int y8), (3, .int r4), (0, .ref (gA G 16 0 0)), (1, .int a1)]) hx hb dX10_takesRing_47 hl (k := 3) rfl (by rw [ey8]; rfl) (by decide) rfl (fun ls hl => ?_)
          refine lv_goto (tgt := 16) hx hb dX10_takesRing_50 (by decide) ?_
          exact ih h6 a1 y8 hf _ _ _ hM hS (lv_sub hl [2, 3, 0] rfl)
        · replace hf := iff_ hf c7
          refine lv_aload_n hx hb dX10_takesRing_39 rfl (lv_at hl 1 rfl) ?_
          refine lv_iload_n hx hb dX10_takesRing_40 rfl (lv_at hl 2 rfl) ?_
          refine lv_iload_n hx hb dX10_takesRing_41 rfl (lv_at hl 3 rfl) ?_
          refine lv_iload_n hx hb dX10_takesRing_42 rfl (lv_at hl 0 rfl) ?_
          obtain ⟨r9, h11, hc10, hf⟩ := bnd_some hf
          refine z_callV (As := [.int a1, .int a2, .int r4]) (rest := []) (C := RX10) hx hb hml hown hL hK hM hS (kX10_goesRound l G A V h6 a1 a2 r4 hc10) (zg_X10_goesRound zw5_11) zv_X10_goesRound ⟨rfl, rfl⟩ ⟨Nat.le_of_ble_eq_true rfl, Nat.le_of_ble_eq_true rfl⟩ (hM.recv hK dm_16 (ze_16 G V 0 0 h6) rfl) rfl hl.1 rfl (Nat.le_of_ble_eq_true rfl) dX10_takesRing_43 ⟨Nat.zero_le _, Nat.zero_le _⟩ (fun H locs hM hS => ?_)
          refine W.eq (g2 := F0 m 46 ls [.int r9]) rfl ?_
          exact hQf hf hM hS dX10_takesRing_46
  have L2 : ∀ (n : Nat) (h : zV2) (a1 : Int32), xX10_takesRing_L2 n h a1 = some (r, h') → ∀ (H : Heap) (locs : List Loc) (ls : Array Slot), zM G (upG V 8 h) H → va_S A s.heap H locs → lv_has ls 4 [(0, .ref (gA G 16 0 0)), (1, .int a1)] → W p l e rX10_takesRing s m args below meth c H locs 0 0 Q (F0 m 2 ls []) := by
    intro n
    induction n with
    | zero =>
      intro h a1 hf H locs ls hM hS hl
      rw [xX10_takesRing_L2] at hf
      cases hf
    | succ n ih =>
      intro h a1 hf H locs ls hM hS hl
      rw [xX10_takesRing_L2] at hf
      refine lv_iload_n hx hb dX10_takesRing_2 rfl (lv_at hl 1 rfl) ?_
      refine lv_aload_n hx hb dX10_takesRing_3 rfl (lv_at hl 0 rfl) ?_
      refine z_get (own := RX10) (C := RX10) (T := TX10) (N := 12) (ci := 8) (v := .ref (gA G 17 0 0)) hx hb hL inX10 hown hK hM dm_16 (ze_16 G V 0 0 h) rfl 0 (by decide) (hL _ zw4_19) rfl rfl dX10_takesRing_4 ?_
      refine lv_iconst (v := 5) hx hb dX10_takesRing_7 (by decide) ?_
      obtain ⟨hb1, hf⟩ := grd_some hf
      refine z_iald hx hb hK hM (dm_17 (i := 0) (by decide)) (ze_17_0 G V h) (inb_in hb1) dX10_takesRing_8 ?_
      refine lv_icmp_ge (tgt := 59) hx hb dX10_takesRing_9 (by decide) (fun c2 => ?_) (fun c2 => ?_)
      · replace hf := ift hf c2
        refine lv_iconst (v := 0) hx hb dX10_takesRing_59 (by decide) ?_
        exact hQf hf hM hS dX10_takesRing_60
      · replace hf := iff_ hf c2
        refine lv_iload_n hx hb dX10_takesRing_12 rfl (lv_at hl 1 rfl) ?_
        refine lv_iconst (v := 1) hx hb dX10_takesRing_13 (by decide) ?_
        refine lv_iadd hx hb dX10_takesRing_14 ?_
        refine lv_topi (fun y3 ey3 => ?_)
        replace hf := ltI_some hf ey3
        refine lv_istore_n (lv' := [(2, .int y3), (0, .ref (gA G 16 0 0)), (1, .int a1)]) hx hb dX10_takesRing_15 rfl hl (by decide) rfl (fun ls hl => ?_)
        exact L16 _ ih 1000 h a1 y3 hf _ _ _ hM hS (lv_sub hl [1, 2, 0] rfl)
  unfold xX10_takesRing at hf
  refine lv_iconst (v := 0) hx hb dX10_takesRing_0 (by decide) ?_
  refine lv_istore_n (lv' := [(1, .int (0 : Int32)), (0, .ref (gA G 16 0 0))]) hx hb dX10_takesRing_1 rfl hl (by decide) rfl (fun ls hl => ?_)
  exact L2 1000 h (0 : Int32) hf _ _ _ hM hS (lv_sub hl [1, 0] rfl)
abbrev rX10_swaps : Room := { frames := 5, cells := 0, slots := 0, locals := 114 }
set_option maxRecDepth 100000 in
set_option maxHeartbeats 4000000 in
theorem kX10_swaps (l : Launch) (G : zG) (A : Nat → Prop) (V : zV3) (h : zV2) {r : Int32} {h' : zV2} (hf : xX10_swaps h  = some (r, h')) : zCt l G A yX10_swaps cX10_swaps 4 (some .int) rX10_swaps [.ref (gA G 16 0 0)] (upG V 8 h) (some (.int r)) (upG V 8 h') := by
  refine z_CtI (by decide) (Nat.le_of_ble_eq_true rfl) ?_
  intro p e s m args below meth c Q hx hb hml hown hL hK hM hS hQ ls hl
  replace hl : lv_has ls 4 [(0, .ref (gA G 16 0 0))] := hl
  have hQf : ∀ {a : Int32} {k : zV2} {H : Heap} {locs : List Loc} {pc : Nat} {ls : Array Slot}, some (a, k) = some (r, h') → zM G (upG V 8 k) H → va_S A s.heap H locs → decode cX10_swaps pc = .ok (.ireturn, 1) → W p l e rX10_swaps s m args below meth c H locs 0 0 Q (F0 m pc ls [.int a]) := by
    intro a k H locs pc ls e1 hM hS hd
    cases e1
    exact hQ H locs pc ls hM hS hd
  have L23 : ∀ (K4 : zV2 → Int32 → Int32 → Option (Int32 × zV2)), (∀ (h : zV2) (a1 : Int32) (a2 : Int32), K4 h a1 a2 = some (r, h') → ∀ (H : Heap) (locs : List Loc) (ls : Array Slot), zM G (upG V 8 h) H → va_S A s.heap H locs → lv_has ls 4 [(0, .ref (gA G 16 0 0)), (1, .int a1), (2, .int a2)] → W p l e rX10_swaps s m args below meth c H locs 0 0 Q (F0 m 4 ls [])) → ∀ (h : zV2) (a1 : Int32) (s0 : Int32), xX10_swaps_L23 K4 h a1 s0 = some (r, h') → ∀ (H : Heap) (locs : List Loc) (ls : Array Slot), zM G (upG V 8 h) H → va_S A s.heap H locs → lv_has ls 4 [(0, .ref (gA G 16 0 0)), (1, .int a1)] → W p l e rX10_swaps s m args below meth c H locs 0 0 Q (F0 m 23 ls [.int s0]) := by
    intro K4 hK4 h a1 s0 hf H locs ls hM hS hl
    unfold xX10_swaps_L23 at hf
    refine lv_istore_n (lv' := [(3, .int s0), (0, .ref (gA G 16 0 0)), (1, .int a1)]) hx hb dX10_swaps_23 rfl hl (by decide) rfl (fun ls hl => ?_)
    refine lv_iload_n hx hb dX10_swaps_24 rfl (lv_at hl 2 rfl) ?_
    refine lv_iload_n hx hb dX10_swaps_25 rfl (lv_at hl 0 rfl) ?_
    refine lv_iadd hx hb dX10_swaps_26 ?_
    refine lv_topi (fun y1 ey1 => ?_)
    replace hf := ltI_some hf ey1
    refine lv_istore_n (lv' := [(1, .int y1), (3, .int s0), (0, .ref (gA G 16 0 0))]) hx hb dX10_swaps_27 rfl hl (by decide) rfl (fun ls hl => ?_)
    refine lv_iload_n hx hb dX10_swaps_28 rfl (lv_at hl 1 rfl) ?_
    refine lv_if_le (tgt := 36) hx hb dX10_swaps_29 (by decide) (fun c2 => ?_) (fun c2 => ?_)
    · replace hf := ift hf c2
      refine lv_iconst (v := 0) hx hb dX10_swaps_36 (by decide) ?_
      refine lv_istore_n (lv' := [(2, .int (0 : Int32)), (1, .int y1), (3, .int s0), (0, .ref (gA G 16 0 0))]) hx hb dX10_swaps_37 rfl hl (by decide) rfl (fun ls hl => ?_)
      refine lv_goto (tgt := 4) hx hb dX10_swaps_38 (by decide) ?_
      exact hK4 h y1 (0 : Int32) hf _ _ _ hM hS (lv_sub hl [3, 1, 0] rfl)
    · replace hf := iff_ hf c2
      refine lv_iconst (v := 1) hx hb dX10_swaps_32 (by decide) ?_
      refine lv_goto (tgt := 37) hx hb dX10_swaps_33 (by decide) ?_
      refine lv_istore_n (lv' := [(2, .int (1 : Int32)), (1, .int y1), (3, .int s0), (0, .ref (gA G 16 0 0))]) hx hb dX10_swaps_37 rfl hl (by decide) rfl (fun ls hl => ?_)
      refine lv_goto (tgt := 4) hx hb dX10_swaps_38 (by decide) ?_
      exact hK4 h y1 (1 : Int32) hf _ _ _ hM hS (lv_sub hl [3, 1, 0] rfl)
  have L4 : ∀ (n : Nat) (h : zV2) (a1 : Int32) (a2 : Int32), xX10_swaps_L4 n h a1 a2 = some (r, h') → ∀ (H : Heap) (locs : List Loc) (ls : Array Slot), zM G (upG V 8 h) H → va_S A s.heap H locs → lv_has ls 4 [(0, .ref (gA G 16 0 0)), (1, .int a1), (2, .int a2)] → W p l e rX10_swaps s m args below meth c H locs 0 0 Q (F0 m 4 ls []) := by
    intro n
    induction n with
    | zero =>
      intro h a1 a2 hf H locs ls hM hS hl
      rw [xX10_swaps_L4] at hf
      cases hf
    | succ n ih =>
      intro h a1 a2 hf H locs ls hM hS hl
      rw [xX10_swaps_L4] at hf
      refine lv_iload_n hx hb dX10_swaps_4 rfl (lv_at hl 2 rfl) ?_
      refine lv_if_eq (tgt := 41) hx hb dX10_swaps_5 (by decide) (fun c1 => ?_) (fun c1 => ?_)
      · replace hf := ift hf c1
        refine lv_iload_n hx hb dX10_swaps_41 rfl (lv_at hl 1 rfl) ?_
        exact hQf hf hM hS dX10_swaps_42
      · replace hf := iff_ hf c1
        refine lv_aload_n hx hb dX10_swaps_8 rfl (lv_at hl 0 rfl) ?_
        obtain ⟨r2, h4, hc3, hf⟩ := bnd_some hf
        refine z_callV (As := []) (rest := []) (C := RX10) hx hb hml hown hL hK hM hS (kX10_takesFree l G A V h hc3) (zg_X10_takesFree zw4_231) zv_X10_takesFree ⟨rfl, rfl⟩ ⟨Nat.le_of_ble_eq_true rfl, Nat.le_of_ble_eq_true rfl⟩ (hM.recv hK dm_16 (ze_16 G V 0 0 h) rfl) rfl hl.1 rfl (Nat.le_of_ble_eq_true rfl) dX10_swaps_9 ⟨Nat.zero_le _, Nat.zero_le _⟩ (fun H locs hM hS => ?_)
        refine W.eq (g2 := F0 m 12 ls [.int r2]) rfl ?_
        refine lv_if_eq (tgt := 19) hx hb dX10_swaps_12 (by decide) (fun c5 => ?_) (fun c5 => ?_)
        · replace hf := ift hf c5
          refine lv_aload_n hx hb dX10_swaps_19 rfl (lv_at hl 0 rfl) ?_
          obtain ⟨r6, h8, hc7, hf⟩ := bnd_some hf
          refine z_callV (As := []) (rest := []) (C := RX10) hx hb hml hown hL hK hM hS (kX10_takesRing l G A V h4 hc7) (zg_X10_takesRing zw4_239) zv_X10_takesRing ⟨rfl, rfl⟩ ⟨Nat.le_of_ble_eq_true rfl, Nat.le_of_ble_eq_true rfl⟩ (hM.recv hK dm_16 (ze_16 G V 0 0 h4) rfl) rfl hl.1 rfl (Nat.le_of_ble_eq_true rfl) dX10_swaps_20 ⟨Nat.zero_le _, Nat.zero_le _⟩ (fun H locs hM hS => ?_)
          refine W.eq (g2 := F0 m 23 ls [.int r6]) rfl ?_
          exact L23 _ ih h8 a1 r6 hf _ _ _ hM hS (lv_sub hl [0, 1] rfl)
        · replace hf := iff_ hf c5
          refine lv_iconst (v := 1) hx hb dX10_swaps_15 (by decide) ?_
          refine lv_goto (tgt := 23) hx hb dX10_swaps_16 (by decide) ?_
          exact L23 _ ih h4 a1 (1 : Int32) hf _ _ _ hM hS (lv_sub hl [0, 1] rfl)
  unfold xX10_swaps at hf
  refine lv_iconst (v := 0) hx hb dX10_swaps_0 (by decide) ?_
  refine lv_istore_n (lv' := [(1, .int (0 : Int32)), (0, .ref (gA G 16 0 0))]) hx hb dX10_swaps_1 rfl hl (by decide) rfl (fun ls hl => ?_)
  refine lv_iconst (v := 1) hx hb dX10_swaps_2 (by decide) ?_
  refine lv_istore_n (lv' := [(2, .int (1 : Int32)), (1, .int (0 : Int32)), (0, .ref (gA G 16 0 0))]) hx hb dX10_swaps_3 rfl hl (by decide) rfl (fun ls hl => ?_)
  exact L4 1000 h (0 : Int32) (1 : Int32) hf _ _ _ hM hS (lv_sub hl [2, 1, 0] rfl)
