abbrev rX10_personOf : Room := { frames := 2, cells := 0, slots := 0, locals := 44 }
set_option maxRecDepth 100000 in
set_option maxHeartbeats 4000000 in
theorem kX10_personOf (l : Launch) (G : zG) (A : Nat → Prop) (V : zV3) (h : zV2) (p1 : Int32) (p2 : Int32) {r : Int32} {h' : zV2} (hf : xX10_personOf h p1 p2 = some (r, h')) : zCt l G A yX10_personOf cX10_personOf 3 (some .int) rX10_personOf [.ref (gA G 16 0 0), .int p1, .int p2] (upG V 8 h) (some (.int r)) (upG V 8 h') := by
  refine z_CtI (by decide) (Nat.le_of_ble_eq_true rfl) ?_
  intro p e s m args below meth c Q hx hb hml hown hL hK hM hS hQ ls hl
  replace hl : lv_has ls 3 [(0, .ref (gA G 16 0 0)), (1, .int p1), (2, .int p2)] := hl
  have hQf : ∀ {a : Int32} {k : zV2} {H : Heap} {locs : List Loc} {pc : Nat} {ls : Array Slot}, some (a, k) = some (r, h') → zM G (upG V 8 k) H → va_S A s.heap H locs → decode cX10_personOf pc = .ok (.ireturn, 1) → W p l e rX10_personOf s m args below meth c H locs 0 0 Q (F0 m pc ls [.int a]) := by
    intro a k H locs pc ls e1 hM hS hd
    cases e1
    exact hQ H locs pc ls hM hS hd
  have L37 : ∀ (h : zV2) , xX10_personOf_L37 p1 p2 h = some (r, h') → ∀ (H : Heap) (locs : List Loc) (ls : Array Slot), zM G (upG V 8 h) H → va_S A s.heap H locs → lv_has ls 3 [(0, .ref (gA G 16 0 0)), (1, .int p1), (2, .int p2)] → W p l e rX10_personOf s m args below meth c H locs 0 0 Q (F0 m 37 ls []) := by
    intro h hf H locs ls hM hS hl
    unfold xX10_personOf_L37 at hf
    refine lv_iload_n hx hb dX10_personOf_37 rfl (lv_at hl 2 rfl) ?_
    by_cases c1 : p2 = (3 : Int32)
    · replace hf := ift hf c1
      refine lv_tableIn (off := 42) (tgt := 80) hx hb dX10_personOf_38 (by rw [c1]; decide) (by rw [c1]; decide) (by rw [c1]; rfl) (by decide) ?_
      refine lv_aload_n hx hb dX10_personOf_80 rfl (lv_at hl 0 rfl) ?_
      refine lv_iload_n hx hb dX10_personOf_81 rfl (lv_at hl 1 rfl) ?_
      obtain ⟨r2, h4, hc3, hf⟩ := bnd_some hf
      refine z_callV (As := [.int p1]) (rest := []) (C := RX10) hx hb hml hown hL hK hM hS (kX10_overdue l G A V h p1 hc3) (zg_X10_overdue zw4_171) zv_X10_overdue ⟨rfl, rfl⟩ ⟨Nat.le_of_ble_eq_true rfl, Nat.le_of_ble_eq_true rfl⟩ (hM.recv hK dm_16 (ze_16 G V 0 0 h) rfl) rfl hl.1 rfl (Nat.le_of_ble_eq_true rfl) dX10_personOf_82 ⟨Nat.zero_le _, Nat.zero_le _⟩ (fun H locs hM hS => ?_)
      refine W.eq (g2 := F0 m 85 ls [.int r2]) rfl ?_
      exact hQf hf hM hS dX10_personOf_85
    · replace hf := iff_ hf c1
      by_cases c5 : p2 = (4 : Int32)
      · replace hf := ift hf c5
        refine lv_tableIn (off := 48) (tgt := 86) hx hb dX10_personOf_38 (by rw [c5]; decide) (by rw [c5]; decide) (by rw [c5]; rfl) (by decide) ?_
        refine lv_aload_n hx hb dX10_personOf_86 rfl (lv_at hl 0 rfl) ?_
        refine lv_iload_n hx hb dX10_personOf_87 rfl (lv_at hl 1 rfl) ?_
        refine lv_iload_n hx hb dX10_personOf_88 rfl (lv_at hl 2 rfl) ?_
        refine lv_iconst (v := 1) hx hb dX10_personOf_89 (by decide) ?_
        refine lv_isub hx hb dX10_personOf_90 ?_
        obtain ⟨r6, h8, hc7, hf⟩ := bnd_some hf
        refine z_callV (As := [.int p1, .int (p2 - (1 : Int32))]) (rest := []) (C := RX10) hx hb hml hown hL hK hM hS (kX10_ofP l G A V h p1 (p2 - (1 : Int32)) hc7) (zg_X10_ofP zw4_147) zv_X10_ofP ⟨rfl, rfl⟩ ⟨Nat.le_of_ble_eq_true rfl, Nat.le_of_ble_eq_true rfl⟩ (hM.recv hK dm_16 (ze_16 G V 0 0 h) rfl) rfl hl.1 rfl (Nat.le_of_ble_eq_true rfl) dX10_personOf_91 ⟨Nat.zero_le _, Nat.zero_le _⟩ (fun H locs hM hS => ?_)
        refine W.eq (g2 := F0 m 94 ls [.int r6]) rfl ?_
        exact hQf hf hM hS dX10_personOf_94
      · replace hf := iff_ hf c5
        by_cases c9 : p2 = (5 : Int32)
        · replace hf := ift hf c9
          refine lv_tableIn (off := 48) (tgt := 86) hx hb dX10_personOf_38 (by rw [c9]; decide) (by rw [c9]; decide) (by rw [c9]; rfl) (by decide) ?_
          refine lv_aload_n hx hb dX10_personOf_86 rfl (lv_at hl 0 rfl) ?_
          refine lv_iload_n hx hb dX10_personOf_87 rfl (lv_at hl 1 rfl) ?_
          refine lv_iload_n hx hb dX10_personOf_88 rfl (lv_at hl 2 rfl) ?_
          refine lv_iconst (v := 1) hx hb dX10_personOf_89 (by decide) ?_
          refine lv_isub hx hb dX10_personOf_90 ?_
          obtain ⟨r10, h12, hc11, hf⟩ := bnd_some hf
          refine z_callV (As := [.int p1, .int (p2 - (1 : Int32))]) (rest := []) (C := RX10) hx hb hml hown hL hK hM hS (kX10_ofP l G A V h p1 (p2 - (1 : Int32)) hc11) (zg_X10_ofP zw4_147) zv_X10_ofP ⟨rfl, rfl⟩ ⟨Nat.le_of_ble_eq_true rfl, Nat.le_of_ble_eq_true rfl⟩ (hM.recv hK dm_16 (ze_16 G V 0 0 h) rfl) rfl hl.1 rfl (Nat.le_of_ble_eq_true rfl) dX10_personOf_91 ⟨Nat.zero_le _, Nat.zero_le _⟩ (fun H locs hM hS => ?_)
          refine W.eq (g2 := F0 m 94 ls [.int r10]) rfl ?_
          exact hQf hf hM hS dX10_personOf_94
        · replace hf := iff_ hf c9
          by_cases c13 : p2 = (6 : Int32)
          · replace hf := ift hf c13
            refine lv_tableIn (off := 57) (tgt := 95) hx hb dX10_personOf_38 (by rw [c13]; decide) (by rw [c13]; decide) (by rw [c13]; rfl) (by decide) ?_
            refine lv_aload_n hx hb dX10_personOf_95 rfl (lv_at hl 0 rfl) ?_
            refine lv_iload_n hx hb dX10_personOf_96 rfl (lv_at hl 1 rfl) ?_
            refine lv_iconst (v := 5) hx hb dX10_personOf_97 (by decide) ?_
            obtain ⟨r14, h16, hc15, hf⟩ := bnd_some hf
            refine z_callV (As := [.int p1, .int (5 : Int32)]) (rest := []) (C := RX10) hx hb hml hown hL hK hM hS (kX10_ofP l G A V h p1 (5 : Int32) hc15) (zg_X10_ofP zw4_147) zv_X10_ofP ⟨rfl, rfl⟩ ⟨Nat.le_of_ble_eq_true rfl, Nat.le_of_ble_eq_true rfl⟩ (hM.recv hK dm_16 (ze_16 G V 0 0 h) rfl) rfl hl.1 rfl (Nat.le_of_ble_eq_true rfl) dX10_personOf_98 ⟨Nat.zero_le _, Nat.zero_le _⟩ (fun H locs hM hS => ?_)
            refine W.eq (g2 := F0 m 101 ls [.int r14]) rfl ?_
            obtain ⟨r17, h19, hc18, hf⟩ := bnd_some hf
            refine z_callS (As := [.int r14]) (rest := []) hx hb hml hown hL hK hM hS (kX10_orNone l G A V h16 r14 hc18) (zg_X10_orNone zw5_60) zy_X10_orNone ⟨rfl, rfl⟩ ⟨Nat.le_of_ble_eq_true rfl, Nat.le_of_ble_eq_true rfl⟩ rfl hl.1 rfl (Nat.le_of_ble_eq_true rfl) dX10_personOf_101 ⟨Nat.zero_le _, Nat.zero_le _⟩ (fun H locs hM hS => ?_)
            refine W.eq (g2 := F0 m 104 ls [.int r17]) rfl ?_
            exact hQf hf hM hS dX10_personOf_104
          · replace hf := iff_ hf c13
            by_cases c20 : p2 = (7 : Int32)
            · replace hf := ift hf c20
              refine lv_tableIn (off := 67) (tgt := 105) hx hb dX10_personOf_38 (by rw [c20]; decide) (by rw [c20]; decide) (by rw [c20]; rfl) (by decide) ?_
              refine lv_aload_n hx hb dX10_personOf_105 rfl (lv_at hl 0 rfl) ?_
              refine lv_iload_n hx hb dX10_personOf_106 rfl (lv_at hl 1 rfl) ?_
              obtain ⟨r21, h23, hc22, hf⟩ := bnd_some hf
              refine z_callV (As := [.int p1]) (rest := []) (C := RX10) hx hb hml hown hL hK hM hS (kX10_placeOf l G A V h p1 hc22) (zg_X10_placeOf zw4_151) zv_X10_placeOf ⟨rfl, rfl⟩ ⟨Nat.le_of_ble_eq_true rfl, Nat.le_of_ble_eq_true rfl⟩ (hM.recv hK dm_16 (ze_16 G V 0 0 h) rfl) rfl hl.1 rfl (Nat.le_of_ble_eq_true rfl) dX10_personOf_107 ⟨Nat.zero_le _, Nat.zero_le _⟩ (fun H locs hM hS => ?_)
              refine W.eq (g2 := F0 m 110 ls [.int r21]) rfl ?_
              obtain ⟨r24, h26, hc25, hf⟩ := bnd_some hf
              refine z_callS (As := [.int r21]) (rest := []) hx hb hml hown hL hK hM hS (kX10_orNone l G A V h23 r21 hc25) (zg_X10_orNone zw5_60) zy_X10_orNone ⟨rfl, rfl⟩ ⟨Nat.le_of_ble_eq_true rfl, Nat.le_of_ble_eq_true rfl⟩ rfl hl.1 rfl (Nat.le_of_ble_eq_true rfl) dX10_personOf_110 ⟨Nat.zero_le _, Nat.zero_le _⟩ (fun H locs hM hS => ?_)
              refine W.eq (g2 := F0 m 113 ls [.int r24]) rfl ?_
              exact hQf hf hM hS dX10_personOf_113
            · replace hf := iff_ hf c20
              by_cases c27 : p2 = (8 : Int32)
              · replace hf := ift hf c27
                refine lv_tableIn (off := 76) (tgt := 114) hx hb dX10_personOf_38 (by rw [c27]; decide) (by rw [c27]; decide) (by rw [c27]; rfl) (by decide) ?_
                refine lv_aload_n hx hb dX10_personOf_114 rfl (lv_at hl 0 rfl) ?_
                refine lv_iload_n hx hb dX10_personOf_115 rfl (lv_at hl 1 rfl) ?_
                refine lv_iload_n hx hb dX10_personOf_116 rfl (lv_at hl 2 rfl) ?_
                refine lv_iconst (v := 2) hx hb dX10_personOf_117 (by decide) ?_
                refine lv_isub hx hb dX10_personOf_118 ?_
                obtain ⟨r28, h30, hc29, hf⟩ := bnd_some hf
                refine z_callV (As := [.int p1, .int (p2 - (2 : Int32))]) (rest := []) (C := RX10) hx hb hml hown hL hK hM hS (kX10_ofP l G A V h p1 (p2 - (2 : Int32)) hc29) (zg_X10_ofP zw4_147) zv_X10_ofP ⟨rfl, rfl⟩ ⟨Nat.le_of_ble_eq_true rfl, Nat.le_of_ble_eq_true rfl⟩ (hM.recv hK dm_16 (ze_16 G V 0 0 h) rfl) rfl hl.1 rfl (Nat.le_of_ble_eq_true rfl) dX10_personOf_119 ⟨Nat.zero_le _, Nat.zero_le _⟩ (fun H locs hM hS => ?_)
                refine W.eq (g2 := F0 m 122 ls [.int r28]) rfl ?_
                exact hQf hf hM hS dX10_personOf_122
              · replace hf := iff_ hf c27
                by_cases c31 : p2 = (9 : Int32)
                · replace hf := ift hf c31
                  refine lv_tableIn (off := 76) (tgt := 114) hx hb dX10_personOf_38 (by rw [c31]; decide) (by rw [c31]; decide) (by rw [c31]; rfl) (by decide) ?_
                  refine lv_aload_n hx hb dX10_personOf_114 rfl (lv_at hl 0 rfl) ?_
                  refine lv_iload_n hx hb dX10_personOf_115 rfl (lv_at hl 1 rfl) ?_
                  refine lv_iload_n hx hb dX10_personOf_116 rfl (lv_at hl 2 rfl) ?_
                  refine lv_iconst (v := 2) hx hb dX10_personOf_117 (by decide) ?_
                  refine lv_isub hx hb dX10_personOf_118 ?_
                  obtain ⟨r32, h34, hc33, hf⟩ := bnd_some hf
                  refine z_callV (As := [.int p1, .int (p2 - (2 : Int32))]) (rest := []) (C := RX10) hx hb hml hown hL hK hM hS (kX10_ofP l G A V h p1 (p2 - (2 : Int32)) hc33) (zg_X10_ofP zw4_147) zv_X10_ofP ⟨rfl, rfl⟩ ⟨Nat.le_of_ble_eq_true rfl, Nat.le_of_ble_eq_true rfl⟩ (hM.recv hK dm_16 (ze_16 G V 0 0 h) rfl) rfl hl.1 rfl (Nat.le_of_ble_eq_true rfl) dX10_personOf_119 ⟨Nat.zero_le _, Nat.zero_le _⟩ (fun H locs hM hS => ?_)
                  refine W.eq (g2 := F0 m 122 ls [.int r32]) rfl ?_
                  exact hQf hf hM hS dX10_personOf_122
                · replace hf := iff_ hf c31
                  refine lv_tableOut (tgt := 123) hx hb dX10_personOf_38 (by have t0 := lv_neT c1 (a := 3) (by decide); have t1 := lv_neT c5 (a := 4) (by decide); have t2 := lv_neT c9 (a := 5) (by decide); have t3 := lv_neT c13 (a := 6) (by decide); have t4 := lv_neT c20 (a := 7) (by decide); have t5 := lv_neT c27 (a := 8) (by decide); have t6 := lv_neT c31 (a := 9) (by decide); omega) (by decide) ?_
                  refine lv_aload_n hx hb dX10_personOf_123 rfl (lv_at hl 0 rfl) ?_
                  refine lv_iload_n hx hb dX10_personOf_124 rfl (lv_at hl 1 rfl) ?_
                  refine lv_iload_n hx hb dX10_personOf_125 rfl (lv_at hl 2 rfl) ?_
                  obtain ⟨r35, h37, hc36, hf⟩ := bnd_some hf
                  refine z_callV (As := [.int p1, .int p2]) (rest := []) (C := RX10) hx hb hml hown hL hK hM hS (kX10_ofP l G A V h p1 p2 hc36) (zg_X10_ofP zw4_147) zv_X10_ofP ⟨rfl, rfl⟩ ⟨Nat.le_of_ble_eq_true rfl, Nat.le_of_ble_eq_true rfl⟩ (hM.recv hK dm_16 (ze_16 G V 0 0 h) rfl) rfl hl.1 rfl (Nat.le_of_ble_eq_true rfl) dX10_personOf_126 ⟨Nat.zero_le _, Nat.zero_le _⟩ (fun H locs hM hS => ?_)
                  refine W.eq (g2 := F0 m 129 ls [.int r35]) rfl ?_
                  exact hQf hf hM hS dX10_personOf_129
  unfold xX10_personOf at hf
  refine lv_aload_n hx hb dX10_personOf_0 rfl (lv_at hl 0 rfl) ?_
  refine lv_iload_n hx hb dX10_personOf_1 rfl (lv_at hl 1 rfl) ?_
  obtain ⟨r1, h3, hc2, hf⟩ := bnd_some hf
  refine z_callV (As := [.int p1]) (rest := []) (C := RX10) hx hb hml hown hL hK hM hS (kX10_isPerson l G A V h p1 hc2) (zg_X10_isPerson zw4_143) zv_X10_isPerson ⟨rfl, rfl⟩ ⟨Nat.le_of_ble_eq_true rfl, Nat.le_of_ble_eq_true rfl⟩ (hM.recv hK dm_16 (ze_16 G V 0 0 h) rfl) rfl hl.1 rfl (Nat.le_of_ble_eq_true rfl) dX10_personOf_2 ⟨Nat.zero_le _, Nat.zero_le _⟩ (fun H locs hM hS => ?_)
  refine W.eq (g2 := F0 m 5 ls [.int r1]) rfl ?_
  refine lv_if_eq (tgt := 18) hx hb dX10_personOf_5 (by decide) (fun c4 => ?_) (fun c4 => ?_)
  · replace hf := ift hf c4
    refine lv_iconst (v := -1) hx hb dX10_personOf_18 (by decide) ?_
    exact hQf hf hM hS dX10_personOf_19
  · replace hf := iff_ hf c4
    refine lv_iload_n hx hb dX10_personOf_8 rfl (lv_at hl 2 rfl) ?_
    refine lv_iconst (v := 0) hx hb dX10_personOf_9 (by decide) ?_
    refine lv_bipush (v := 9) hx hb dX10_personOf_10 (by decide) ?_
    obtain ⟨r5, h7, hc6, hf⟩ := bnd_some hf
    refine z_callS (As := [.int p2, .int (0 : Int32), .int (9 : Int32)]) (rest := []) hx hb hml hown hL hK hM hS (kX10_in l G A V h3 p2 (0 : Int32) (9 : Int32) hc6) (zg_X10_in zw4_68) zy_X10_in ⟨rfl, rfl⟩ ⟨Nat.le_of_ble_eq_true rfl, Nat.le_of_ble_eq_true rfl⟩ rfl hl.1 rfl (Nat.le_of_ble_eq_true rfl) dX10_personOf_12 ⟨Nat.zero_le _, Nat.zero_le _⟩ (fun H locs hM hS => ?_)
    refine W.eq (g2 := F0 m 15 ls [.int r5]) rfl ?_
    refine lv_if_ne (tgt := 20) hx hb dX10_personOf_15 (by decide) (fun c8 => ?_) (fun c8 => ?_)
    · replace hf := iff_ hf c8
      refine lv_iload_n hx hb dX10_personOf_20 rfl (lv_at hl 2 rfl) ?_
      refine lv_iconst (v := 4) hx hb dX10_personOf_21 (by decide) ?_
      refine lv_icmp_ge (tgt := 37) hx hb dX10_personOf_22 (by decide) (fun c9 => ?_) (fun c9 => ?_)
      · replace hf := ift hf c9
        exact L37 h7 hf _ _ _ hM hS (lv_sub hl [0, 1, 2] rfl)
      · replace hf := iff_ hf c9
        refine lv_aload_n hx hb dX10_personOf_25 rfl (lv_at hl 0 rfl) ?_
        refine lv_iload_n hx hb dX10_personOf_26 rfl (lv_at hl 1 rfl) ?_
        refine lv_iconst (v := 0) hx hb dX10_personOf_27 (by decide) ?_
        obtain ⟨r10, h12, hc11, hf⟩ := bnd_some hf
        refine z_callV (As := [.int p1, .int (0 : Int32)]) (rest := []) (C := RX10) hx hb hml hown hL hK hM hS (kX10_ofP l G A V h7 p1 (0 : Int32) hc11) (zg_X10_ofP zw4_147) zv_X10_ofP ⟨rfl, rfl⟩ ⟨Nat.le_of_ble_eq_true rfl, Nat.le_of_ble_eq_true rfl⟩ (hM.recv hK dm_16 (ze_16 G V 0 0 h7) rfl) rfl hl.1 rfl (Nat.le_of_ble_eq_true rfl) dX10_personOf_28 ⟨Nat.zero_le _, Nat.zero_le _⟩ (fun H locs hM hS => ?_)
        refine W.eq (g2 := F0 m 31 ls [.int r10]) rfl ?_
        refine lv_if_ge (tgt := 37) hx hb dX10_personOf_31 (by decide) (fun c13 => ?_) (fun c13 => ?_)
        · replace hf := ift hf c13
          exact L37 h12 hf _ _ _ hM hS (lv_sub hl [0, 1, 2] rfl)
        · replace hf := iff_ hf c13
          refine lv_bipush (v := -4) hx hb dX10_personOf_34 (by decide) ?_
          exact hQf hf hM hS dX10_personOf_36
    · replace hf := ift hf c8
      refine lv_iconst (v := -1) hx hb dX10_personOf_18 (by decide) ?_
      exact hQf hf hM hS dX10_personOf_19
abbrev rX10_lockerOf : Room := { frames := 2, cells := 0, slots := 0, locals := 43 }
set_option maxRecDepth 100000 in
set_option maxHeartbeats 4000000 in
theorem kX10_lockerOf (l : Launch) (G : zG) (A : Nat → Prop) (V : zV3) (h : zV2) (p1 : Int32) (p2 : Int32) {r : Int32} {h' : zV2} (hf : xX10_lockerOf h p1 p2 = some (r, h')) : zCt l G A yX10_lockerOf cX10_lockerOf 3 (some .int) rX10_lockerOf [.ref (gA G 16 0 0), .int p1, .int p2] (upG V 8 h) (some (.int r)) (upG V 8 h') := by
  refine z_CtI (by decide) (Nat.le_of_ble_eq_true rfl) ?_
  intro p e s m args below meth c Q hx hb hml hown hL hK hM hS hQ ls hl
  replace hl : lv_has ls 3 [(0, .ref (gA G 16 0 0)), (1, .int p1), (2, .int p2)] := hl
  have hQf : ∀ {a : Int32} {k : zV2} {H : Heap} {locs : List Loc} {pc : Nat} {ls : Array Slot}, some (a, k) = some (r, h') → zM G (upG V 8 k) H → va_S A s.heap H locs → decode cX10_lockerOf pc = .ok (.ireturn, 1) → W p l e rX10_lockerOf s m args below meth c H locs 0 0 Q (F0 m pc ls [.int a]) := by
    intro a k H locs pc ls e1 hM hS hd
    cases e1
    exact hQ H locs pc ls hM hS hd
  unfold xX10_lockerOf at hf
  refine lv_aload_n hx hb dX10_lockerOf_0 rfl (lv_at hl 0 rfl) ?_
  refine lv_iload_n hx hb dX10_lockerOf_1 rfl (lv_at hl 1 rfl) ?_
  obtain ⟨r1, h3, hc2, hf⟩ := bnd_some hf
  refine z_callV (As := [.int p1]) (rest := []) (C := RX10) hx hb hml hown hL hK hM hS (kX10_isLocker l G A V h p1 hc2) (zg_X10_isLocker zw4_99) zv_X10_isLocker ⟨rfl, rfl⟩ ⟨Nat.le_of_ble_eq_true rfl, Nat.le_of_ble_eq_true rfl⟩ (hM.recv hK dm_16 (ze_16 G V 0 0 h) rfl) rfl hl.1 rfl (Nat.le_of_ble_eq_true rfl) dX10_lockerOf_2 ⟨Nat.zero_le _, Nat.zero_le _⟩ (fun H locs hM hS => ?_)
  refine W.eq (g2 := F0 m 5 ls [.int r1]) rfl ?_
  refine lv_if_ne (tgt := 10) hx hb dX10_lockerOf_5 (by decide) (fun c4 => ?_) (fun c4 => ?_)
  · replace hf := iff_ hf c4
    refine lv_iload_n hx hb dX10_lockerOf_10 rfl (lv_at hl 2 rfl) ?_
    by_cases c5 : p2 = (0 : Int32)
    · replace hf := ift hf c5
      refine lv_tableIn (off := 41) (tgt := 52) hx hb dX10_lockerOf_11 (by rw [c5]; decide) (by rw [c5]; decide) (by rw [c5]; rfl) (by decide) ?_
      refine lv_aload_n hx hb dX10_lockerOf_52 rfl (lv_at hl 0 rfl) ?_
      refine lv_iload_n hx hb dX10_lockerOf_53 rfl (lv_at hl 1 rfl) ?_
      refine lv_iconst (v := 0) hx hb dX10_lockerOf_54 (by decide) ?_
      obtain ⟨r6, h8, hc7, hf⟩ := bnd_some hf
      refine z_callV (As := [.int p1, .int (0 : Int32)]) (rest := []) (C := RX10) hx hb hml hown hL hK hM hS (kX10_of l G A V h3 p1 (0 : Int32) hc7) (zg_X10_of zw4_103) zv_X10_of ⟨rfl, rfl⟩ ⟨Nat.le_of_ble_eq_true rfl, Nat.le_of_ble_eq_true rfl⟩ (hM.recv hK dm_16 (ze_16 G V 0 0 h3) rfl) rfl hl.1 rfl (Nat.le_of_ble_eq_true rfl) dX10_lockerOf_55 ⟨Nat.zero_le _, Nat.zero_le _⟩ (fun H locs hM hS => ?_)
      refine W.eq (g2 := F0 m 58 ls [.int r6]) rfl ?_
      exact hQf hf hM hS dX10_lockerOf_58
    · replace hf := iff_ hf c5
      by_cases c9 : p2 = (1 : Int32)
      · replace hf := ift hf c9
        refine lv_tableIn (off := 48) (tgt := 59) hx hb dX10_lockerOf_11 (by rw [c9]; decide) (by rw [c9]; decide) (by rw [c9]; rfl) (by decide) ?_
        refine lv_aload_n hx hb dX10_lockerOf_59 rfl (lv_at hl 0 rfl) ?_
        refine lv_iload_n hx hb dX10_lockerOf_60 rfl (lv_at hl 1 rfl) ?_
        refine lv_iconst (v := 1) hx hb dX10_lockerOf_61 (by decide) ?_
        obtain ⟨r10, h12, hc11, hf⟩ := bnd_some hf
        refine z_callV (As := [.int p1, .int (1 : Int32)]) (rest := []) (C := RX10) hx hb hml hown hL hK hM hS (kX10_of l G A V h3 p1 (1 : Int32) hc11) (zg_X10_of zw4_103) zv_X10_of ⟨rfl, rfl⟩ ⟨Nat.le_of_ble_eq_true rfl, Nat.le_of_ble_eq_true rfl⟩ (hM.recv hK dm_16 (ze_16 G V 0 0 h3) rfl) rfl hl.1 rfl (Nat.le_of_ble_eq_true rfl) dX10_lockerOf_62 ⟨Nat.zero_le _, Nat.zero_le _⟩ (fun H locs hM hS => ?_)
        refine W.eq (g2 := F0 m 65 ls [.int r10]) rfl ?_
        refine lv_if_lt (tgt := 72) hx hb dX10_lockerOf_65 (by decide) (fun c13 => ?_) (fun c13 => ?_)
        · replace hf := ift hf c13
          refine lv_iconst (v := 0) hx hb dX10_lockerOf_72 (by decide) ?_
          exact hQf hf hM hS dX10_lockerOf_73
        · replace hf := iff_ hf c13
          refine lv_iconst (v := 1) hx hb dX10_lockerOf_68 (by decide) ?_
          refine lv_goto (tgt := 73) hx hb dX10_lockerOf_69 (by decide) ?_
          exact hQf hf hM hS dX10_lockerOf_73
      · replace hf := iff_ hf c9
        by_cases c14 : p2 = (2 : Int32)
        · replace hf := ift hf c14
          refine lv_tableIn (off := 63) (tgt := 74) hx hb dX10_lockerOf_11 (by rw [c14]; decide) (by rw [c14]; decide) (by rw [c14]; rfl) (by decide) ?_
          refine lv_aload_n hx hb dX10_lockerOf_74 rfl (lv_at hl 0 rfl) ?_
          refine lv_iload_n hx hb dX10_lockerOf_75 rfl (lv_at hl 1 rfl) ?_
          refine lv_iconst (v := 2) hx hb dX10_lockerOf_76 (by decide) ?_
          obtain ⟨r15, h17, hc16, hf⟩ := bnd_some hf
          refine z_callV (As := [.int p1, .int (2 : Int32)]) (rest := []) (C := RX10) hx hb hml hown hL hK hM hS (kX10_of l G A V h3 p1 (2 : Int32) hc16) (zg_X10_of zw4_103) zv_X10_of ⟨rfl, rfl⟩ ⟨Nat.le_of_ble_eq_true rfl, Nat.le_of_ble_eq_true rfl⟩ (hM.recv hK dm_16 (ze_16 G V 0 0 h3) rfl) rfl hl.1 rfl (Nat.le_of_ble_eq_true rfl) dX10_lockerOf_77 ⟨Nat.zero_le _, Nat.zero_le _⟩ (fun H locs hM hS => ?_)
          refine W.eq (g2 := F0 m 80 ls [.int r15]) rfl ?_
          obtain ⟨r18, h20, hc19, hf⟩ := bnd_some hf
          refine z_callS (As := [.int r15]) (rest := []) hx hb hml hown hL hK hM hS (kX10_orNone l G A V h17 r15 hc19) (zg_X10_orNone zw5_60) zy_X10_orNone ⟨rfl, rfl⟩ ⟨Nat.le_of_ble_eq_true rfl, Nat.le_of_ble_eq_true rfl⟩ rfl hl.1 rfl (Nat.le_of_ble_eq_true rfl) dX10_lockerOf_80 ⟨Nat.zero_le _, Nat.zero_le _⟩ (fun H locs hM hS => ?_)
          refine W.eq (g2 := F0 m 83 ls [.int r18]) rfl ?_
          exact hQf hf hM hS dX10_lockerOf_83
        · replace hf := iff_ hf c14
          by_cases c21 : p2 = (3 : Int32)
          · replace hf := ift hf c21
            refine lv_tableIn (off := 73) (tgt := 84) hx hb dX10_lockerOf_11 (by rw [c21]; decide) (by rw [c21]; decide) (by rw [c21]; rfl) (by decide) ?_
            refine lv_aload_n hx hb dX10_lockerOf_84 rfl (lv_at hl 0 rfl) ?_
            refine lv_iload_n hx hb dX10_lockerOf_85 rfl (lv_at hl 1 rfl) ?_
            obtain ⟨r22, h24, hc23, hf⟩ := bnd_some hf
            refine z_callV (As := [.int p1]) (rest := []) (C := RX10) hx hb hml hown hL hK hM hS (kX10_isFree l G A V h3 p1 hc23) (zg_X10_isFree zw4_115) zv_X10_isFree ⟨rfl, rfl⟩ ⟨Nat.le_of_ble_eq_true rfl, Nat.le_of_ble_eq_true rfl⟩ (hM.recv hK dm_16 (ze_16 G V 0 0 h3) rfl) rfl hl.1 rfl (Nat.le_of_ble_eq_true rfl) dX10_lockerOf_86 ⟨Nat.zero_le _, Nat.zero_le _⟩ (fun H locs hM hS => ?_)
            refine W.eq (g2 := F0 m 89 ls [.int r22]) rfl ?_
            refine lv_if_eq (tgt := 96) hx hb dX10_lockerOf_89 (by decide) (fun c25 => ?_) (fun c25 => ?_)
            · replace hf := ift hf c25
              refine lv_iconst (v := 0) hx hb dX10_lockerOf_96 (by decide) ?_
              exact hQf hf hM hS dX10_lockerOf_97
            · replace hf := iff_ hf c25
              refine lv_iconst (v := 1) hx hb dX10_lockerOf_92 (by decide) ?_
              refine lv_goto (tgt := 97) hx hb dX10_lockerOf_93 (by decide) ?_
              exact hQf hf hM hS dX10_lockerOf_97
          · replace hf := iff_ hf c21
            by_cases c26 : p2 = (4 : Int32)
            · replace hf := ift hf c26
              refine lv_tableIn (off := 87) (tgt := 98) hx hb dX10_lockerOf_11 (by rw [c26]; decide) (by rw [c26]; decide) (by rw [c26]; rfl) (by decide) ?_
              refine lv_aload_n hx hb dX10_lockerOf_98 rfl (lv_at hl 0 rfl) ?_
              refine lv_iload_n hx hb dX10_lockerOf_99 rfl (lv_at hl 1 rfl) ?_
              refine lv_iconst (v := 3) hx hb dX10_lockerOf_100 (by decide) ?_
              obtain ⟨r27, h29, hc28, hf⟩ := bnd_some hf
              refine z_callV (As := [.int p1, .int (3 : Int32)]) (rest := []) (C := RX10) hx hb hml hown hL hK hM hS (kX10_of l G A V h3 p1 (3 : Int32) hc28) (zg_X10_of zw4_103) zv_X10_of ⟨rfl, rfl⟩ ⟨Nat.le_of_ble_eq_true rfl, Nat.le_of_ble_eq_true rfl⟩ (hM.recv hK dm_16 (ze_16 G V 0 0 h3) rfl) rfl hl.1 rfl (Nat.le_of_ble_eq_true rfl) dX10_lockerOf_101 ⟨Nat.zero_le _, Nat.zero_le _⟩ (fun H locs hM hS => ?_)
              refine W.eq (g2 := F0 m 104 ls [.int r27]) rfl ?_
              exact hQf hf hM hS dX10_lockerOf_104
            · replace hf := iff_ hf c26
              by_cases c30 : p2 = (5 : Int32)
              · replace hf := ift hf c30
                refine lv_tableIn (off := 94) (tgt := 105) hx hb dX10_lockerOf_11 (by rw [c30]; decide) (by rw [c30]; decide) (by rw [c30]; rfl) (by decide) ?_
                refine lv_aload_n hx hb dX10_lockerOf_105 rfl (lv_at hl 0 rfl) ?_
                refine lv_iload_n hx hb dX10_lockerOf_106 rfl (lv_at hl 1 rfl) ?_
                refine lv_iconst (v := 4) hx hb dX10_lockerOf_107 (by decide) ?_
                obtain ⟨r31, h33, hc32, hf⟩ := bnd_some hf
                refine z_callV (As := [.int p1, .int (4 : Int32)]) (rest := []) (C := RX10) hx hb hml hown hL hK hM hS (kX10_of l G A V h3 p1 (4 : Int32) hc32) (zg_X10_of zw4_103) zv_X10_of ⟨rfl, rfl⟩ ⟨Nat.le_of_ble_eq_true rfl, Nat.le_of_ble_eq_true rfl⟩ (hM.recv hK dm_16 (ze_16 G V 0 0 h3) rfl) rfl hl.1 rfl (Nat.le_of_ble_eq_true rfl) dX10_lockerOf_108 ⟨Nat.zero_le _, Nat.zero_le _⟩ (fun H locs hM hS => ?_)
                refine W.eq (g2 := F0 m 111 ls [.int r31]) rfl ?_
                obtain ⟨r34, h36, hc35, hf⟩ := bnd_some hf
                refine z_callS (As := [.int r31]) (rest := []) hx hb hml hown hL hK hM hS (kX10_orNone l G A V h33 r31 hc35) (zg_X10_orNone zw5_60) zy_X10_orNone ⟨rfl, rfl⟩ ⟨Nat.le_of_ble_eq_true rfl, Nat.le_of_ble_eq_true rfl⟩ rfl hl.1 rfl (Nat.le_of_ble_eq_true rfl) dX10_lockerOf_111 ⟨Nat.zero_le _, Nat.zero_le _⟩ (fun H locs hM hS => ?_)
                refine W.eq (g2 := F0 m 114 ls [.int r34]) rfl ?_
                exact hQf hf hM hS dX10_lockerOf_114
              · replace hf := iff_ hf c30
                by_cases c37 : p2 = (6 : Int32)
                · replace hf := ift hf c37
                  refine lv_tableIn (off := 104) (tgt := 115) hx hb dX10_lockerOf_11 (by rw [c37]; decide) (by rw [c37]; decide) (by rw [c37]; rfl) (by decide) ?_
                  refine lv_aload_n hx hb dX10_lockerOf_115 rfl (lv_at hl 0 rfl) ?_
                  refine lv_iload_n hx hb dX10_lockerOf_116 rfl (lv_at hl 1 rfl) ?_
                  refine lv_iconst (v := 5) hx hb dX10_lockerOf_117 (by decide) ?_
                  obtain ⟨r38, h40, hc39, hf⟩ := bnd_some hf
                  refine z_callV (As := [.int p1, .int (5 : Int32)]) (rest := []) (C := RX10) hx hb hml hown hL hK hM hS (kX10_of l G A V h3 p1 (5 : Int32) hc39) (zg_X10_of zw4_103) zv_X10_of ⟨rfl, rfl⟩ ⟨Nat.le_of_ble_eq_true rfl, Nat.le_of_ble_eq_true rfl⟩ (hM.recv hK dm_16 (ze_16 G V 0 0 h3) rfl) rfl hl.1 rfl (Nat.le_of_ble_eq_true rfl) dX10_lockerOf_118 ⟨Nat.zero_le _, Nat.zero_le _⟩ (fun H locs hM hS => ?_)
                  refine W.eq (g2 := F0 m 121 ls [.int r38]) rfl ?_
                  exact hQf hf hM hS dX10_lockerOf_121
                · replace hf := iff_ hf c37
                  refine lv_tableOut (tgt := 122) hx hb dX10_lockerOf_11 (by have t0 := lv_neT c5 (a := 0) (by decide); have t1 := lv_neT c9 (a := 1) (by decide); have t2 := lv_neT c14 (a := 2) (by decide); have t3 := lv_neT c21 (a := 3) (by decide); have t4 := lv_neT c26 (a := 4) (by decide); have t5 := lv_neT c30 (a := 5) (by decide); have t6 := lv_neT c37 (a := 6) (by decide); omega) (by decide) ?_
                  refine lv_iconst (v := -1) hx hb dX10_lockerOf_122 (by decide) ?_
                  exact hQf hf hM hS dX10_lockerOf_123
  · replace hf := ift hf c4
    refine lv_iconst (v := -1) hx hb dX10_lockerOf_8 (by decide) ?_
    exact hQf hf hM hS dX10_lockerOf_9
abbrev rX10_waitingAt : Room := { frames := 1, cells := 0, slots := 0, locals := 22 }
set_option maxRecDepth 100000 in
set_option maxHeartbeats 4000000 in
theorem kX10_waitingAt (l : Launch) (G : zG) (A : Nat → Prop) (V : zV3) (h : zV2) (p1 : Int32) (p2 : Int32) {r : Int32} {h' : zV2} (hf : xX10_waitingAt h p1 p2 = some (r, h')) : zCt l G A yX10_waitingAt cX10_waitingAt 3 (some .int) rX10_waitingAt [.ref (gA G 16 0 0), .int p1, .int p2] (upG V 8 h) (some (.int r)) (upG V 8 h') := by
  refine z_CtI (by decide) (Nat.le_of_ble_eq_true rfl) ?_
  intro p e s m args below meth c Q hx hb hml hown hL hK hM hS hQ ls hl
  replace hl : lv_has ls 3 [(0, .ref (gA G 16 0 0)), (1, .int p1), (2, .int p2)] := hl
  have hQf : ∀ {a : Int32} {k : zV2} {H : Heap} {locs : List Loc} {pc : Nat} {ls : Array Slot}, some (a, k) = some (r, h') → zM G (upG V 8 k) H → va_S A s.heap H locs → decode cX10_waitingAt pc = .ok (.ireturn, 1) → W p l e rX10_waitingAt s m args below meth c H locs 0 0 Q (F0 m pc ls [.int a]) := by
    intro a k H locs pc ls e1 hM hS hd
    cases e1
    exact hQ H locs pc ls hM hS hd
  unfold xX10_waitingAt at hf
  refine lv_iload_n hx hb dX10_waitingAt_0 rfl (lv_at hl 1 rfl) ?_
  refine lv_if_lt (tgt := 13) hx hb dX10_waitingAt_1 (by decide) (fun c1 => ?_) (fun c1 => ?_)
  · replace hf := ift hf c1
    refine lv_iconst (v := -1) hx hb dX10_waitingAt_13 (by decide) ?_
    exact hQf hf hM hS dX10_waitingAt_14
  · replace hf := iff_ hf c1
    refine lv_iload_n hx hb dX10_waitingAt_4 rfl (lv_at hl 2 rfl) ?_
    refine lv_iconst (v := 0) hx hb dX10_waitingAt_5 (by decide) ?_
    refine lv_iconst (v := 1) hx hb dX10_waitingAt_6 (by decide) ?_
    obtain ⟨r2, h4, hc3, hf⟩ := bnd_some hf
    refine z_callS (As := [.int p2, .int (0 : Int32), .int (1 : Int32)]) (rest := []) hx hb hml hown hL hK hM hS (kX10_in l G A V h p2 (0 : Int32) (1 : Int32) hc3) (zg_X10_in zw4_68) zy_X10_in ⟨rfl, rfl⟩ ⟨Nat.le_of_ble_eq_true rfl, Nat.le_of_ble_eq_true rfl⟩ rfl hl.1 rfl (Nat.le_of_ble_eq_true rfl) dX10_waitingAt_7 ⟨Nat.zero_le _, Nat.zero_le _⟩ (fun H locs hM hS => ?_)
    refine W.eq (g2 := F0 m 10 ls [.int r2]) rfl ?_
    refine lv_if_ne (tgt := 15) hx hb dX10_waitingAt_10 (by decide) (fun c5 => ?_) (fun c5 => ?_)
    · replace hf := iff_ hf c5
      refine lv_iload_n hx hb dX10_waitingAt_15 rfl (lv_at hl 1 rfl) ?_
      refine lv_aload_n hx hb dX10_waitingAt_16 rfl (lv_at hl 0 rfl) ?_
      refine z_get (own := RX10) (C := RX10) (T := TX10) (N := 12) (ci := 8) (v := .ref (gA G 17 0 0)) hx hb hL inX10 hown hK hM dm_16 (ze_16 G V 0 0 h4) rfl 0 (by decide) (hL _ zw4_19) rfl rfl dX10_waitingAt_17 ?_
      refine lv_bipush (v := 6) hx hb dX10_waitingAt_20 (by decide) ?_
      obtain ⟨hb6, hf⟩ := grd_some hf
      refine z_iald hx hb hK hM (dm_17 (i := 0) (by decide)) (ze_17_0 G V h4) (inb_in hb6) dX10_waitingAt_22 ?_
      refine lv_icmp_ge (tgt := 43) hx hb dX10_waitingAt_23 (by decide) (fun c7 => ?_) (fun c7 => ?_)
      · replace hf := ift hf c7
        refine lv_bipush (v := -4) hx hb dX10_waitingAt_43 (by decide) ?_
        exact hQf hf hM hS dX10_waitingAt_45
      · replace hf := iff_ hf c7
        refine lv_aload_n hx hb dX10_waitingAt_26 rfl (lv_at hl 0 rfl) ?_
        refine z_get (own := RX10) (C := RX10) (T := TX10) (N := 12) (ci := 8) (v := .ref (gA G 17 0 0)) hx hb hL inX10 hown hK hM dm_16 (ze_16 G V 0 0 h4) rfl 0 (by decide) (hL _ zw4_19) rfl rfl dX10_waitingAt_27 ?_
        refine lv_sipush (v := 163) hx hb dX10_waitingAt_30 (by decide) ?_
        refine lv_iconst (v := 2) hx hb dX10_waitingAt_33 (by decide) ?_
        refine lv_iload_n hx hb dX10_waitingAt_34 rfl (lv_at hl 1 rfl) ?_
        refine lv_imul hx hb dX10_waitingAt_35 ?_
        refine lv_iadd hx hb dX10_waitingAt_36 ?_
        refine lv_iload_n hx hb dX10_waitingAt_37 rfl (lv_at hl 2 rfl) ?_
        refine lv_iadd hx hb dX10_waitingAt_38 ?_
        obtain ⟨hb8, hf⟩ := grd_some hf
        refine z_iald hx hb hK hM (dm_17 (i := 0) (by decide)) (ze_17_0 G V h4) (inb_in hb8) dX10_waitingAt_39 ?_
        refine lv_goto (tgt := 45) hx hb dX10_waitingAt_40 (by decide) ?_
        exact hQf hf hM hS dX10_waitingAt_45
    · replace hf := ift hf c5
      refine lv_iconst (v := -1) hx hb dX10_waitingAt_13 (by decide) ?_
      exact hQf hf hM hS dX10_waitingAt_14
abbrev rX10_lockersThat : Room := { frames := 2, cells := 0, slots := 0, locals := 43 }
set_option maxRecDepth 100000 in
set_option maxHeartbeats 4000000 in
theorem kX10_lockersThat (l : Launch) (G : zG) (A : Nat → Prop) (V : zV3) (h : zV2) (p1 : Int32) {r : Int32} {h' : zV2} (hf : xX10_lockersThat h p1 = some (r, h')) : zCt l G A yX10_lockersThat cX10_lockersThat 5 (some .int) rX10_lockersThat [.ref (gA G 16 0 0), .int p1] (upG V 8 h) (some (.int r)) (upG V 8 h') := by
  refine z_CtI (by decide) (Nat.le_of_ble_eq_true rfl) ?_
  intro p e s m args below meth c Q hx hb hml hown hL hK hM hS hQ ls hl
  replace hl : lv_has ls 5 [(0, .ref (gA G 16 0 0)), (1, .int p1)] := hl
  have hQf : ∀ {a : Int32} {k : zV2} {H : Heap} {locs : List Loc} {pc : Nat} {ls : Array Slot}, some (a, k) = some (r, h') → zM G (upG V 8 k) H → va_S A s.heap H locs → decode cX10_lockersThat pc = .ok (.ireturn, 1) → W p l e rX10_lockersThat s m args below meth c H locs 0 0 Q (F0 m pc ls [.int a]) := by
    intro a k H locs pc ls e1 hM hS hd
    cases e1
    exact hQ H locs pc ls hM hS hd
  have L84 : ∀ (K4 : zV2 → Int32 → Int32 → Option (Int32 × zV2)), (∀ (h : zV2) (a2 : Int32) (a3 : Int32), K4 h a2 a3 = some (r, h') → ∀ (H : Heap) (locs : List Loc) (ls : Array Slot), zM G (upG V 8 h) H → va_S A s.heap H locs → lv_has ls 5 [(0, .ref (gA G 16 0 0)), (1, .int p1), (2, .int a2), (3, .int a3)] → W p l e rX10_lockersThat s m args below meth c H locs 0 0 Q (F0 m 4 ls [])) → ∀ (h : zV2) (a2 : Int32) (a3 : Int32) (s0 : Int32), xX10_lockersThat_L84 p1 K4 h a2 a3 s0 = some (r, h') → ∀ (H : Heap) (locs : List Loc) (ls : Array Slot), zM G (upG V 8 h) H → va_S A s.heap H locs → lv_has ls 5 [(0, .ref (gA G 16 0 0)), (1, .int p1), (2, .int a2), (3, .int a3)] → W p l e rX10_lockersThat s m args below meth c H locs 0 0 Q (F0 m 84 ls [.int s0]) := by
    intro K4 hK4 h a2 a3 s0 hf H locs ls hM hS hl
    unfold xX10_lockersThat_L84 at hf
    refine lv_istore (lv' := [(4, .int s0), (0, .ref (gA G 16 0 0)), (1, .int p1), (2, .int a2), (3, .int a3)]) hx hb dX10_lockersThat_84 hl (by decide) rfl (fun ls hl => ?_)
    refine lv_iload_n hx hb dX10_lockersThat_86 rfl (lv_at hl 3 rfl) ?_
    refine lv_iload hx hb dX10_lockersThat_87 (lv_at hl 0 rfl) ?_
    refine lv_if_eq (tgt := 96) hx hb dX10_lockersThat_89 (by decide) (fun c1 => ?_) (fun c1 => ?_)
    · replace hf := ift hf c1
      refine lv_iconst (v := 0) hx hb dX10_lockersThat_96 (by decide) ?_
      refine lv_iadd hx hb dX10_lockersThat_97 ?_
      refine lv_topi (fun y2 ey2 => ?_)
      replace hf := ltI_some hf ey2
      refine lv_istore_n (lv' := [(2, .int y2), (4, .int s0), (0, .ref (gA G 16 0 0)), (1, .int p1), (3, .int a3)]) hx hb dX10_lockersThat_98 rfl hl (by decide) rfl (fun ls hl => ?_)
      obtain ⟨y3, ey3⟩ : ∃ y : Int32, y = a3 + (1 : Int32) := ⟨_, rfl⟩
      replace hf := ltI_some hf ey3
      refine lv_iinc (v := y3) (lv' := [(3, .int y3), (2, .int y2), (4, .int s0), (0, .ref (gA G 16 0 0)), (1, .int p1)]) hx hb dX10_lockersThat_99 hl (k := 4) rfl (by rw [ey3]; rfl) (by decide) rfl (fun ls hl => ?_)
      refine lv_goto (tgt := 4) hx hb dX10_lockersThat_102 (by decide) ?_
      exact hK4 h y2 y3 hf _ _ _ hM hS (lv_sub hl [3, 4, 1, 0] rfl)
    · replace hf := iff_ hf c1
      refine lv_iconst (v := 1) hx hb dX10_lockersThat_92 (by decide) ?_
      refine lv_goto (tgt := 97) hx hb dX10_lockersThat_93 (by decide) ?_
      refine lv_iadd hx hb dX10_lockersThat_97 ?_
      refine lv_topi (fun y4 ey4 => ?_)
      replace hf := ltI_some hf ey4
      refine lv_istore_n (lv' := [(2, .int y4), (4, .int s0), (0, .ref (gA G 16 0 0)), (1, .int p1), (3, .int a3)]) hx hb dX10_lockersThat_98 rfl hl (by decide) rfl (fun ls hl => ?_)
      obtain ⟨y5, ey5⟩ : ∃ y : Int32, y = a3 + (1 : Int32) := ⟨_, rfl⟩
      replace hf := ltI_some hf ey5
      refine lv_iinc (v := y5) (lv' := [(3, .int y5), (2, .int y4), (4, .int s0), (0, .ref (gA G 16 0 0)), (1, .int p1)]) hx hb dX10_lockersThat_99 hl (k := 4) rfl (by rw [ey5]; rfl) (by decide) rfl (fun ls hl => ?_)
      refine lv_goto (tgt := 4) hx hb dX10_lockersThat_102 (by decide) ?_
      exact hK4 h y4 y5 hf _ _ _ hM hS (lv_sub hl [3, 4, 1, 0] rfl)
  have L4 : ∀ (n : Nat) (h : zV2) (a2 : Int32) (a3 : Int32), xX10_lockersThat_L4 p1 n h a2 a3 = some (r, h') → ∀ (H : Heap) (locs : List Loc) (ls : Array Slot), zM G (upG V 8 h) H → va_S A s.heap H locs → lv_has ls 5 [(0, .ref (gA G 16 0 0)), (1, .int p1), (2, .int a2), (3, .int a3)] → W p l e rX10_lockersThat s m args below meth c H locs 0 0 Q (F0 m 4 ls []) := by
    intro n
    induction n with
    | zero =>
      intro h a2 a3 hf H locs ls hM hS hl
      rw [xX10_lockersThat_L4] at hf
      cases hf
    | succ n ih =>
      intro h a2 a3 hf H locs ls hM hS hl
      rw [xX10_lockersThat_L4] at hf
      refine lv_iload_n hx hb dX10_lockersThat_4 rfl (lv_at hl 3 rfl) ?_
      refine lv_aload_n hx hb dX10_lockersThat_5 rfl (lv_at hl 0 rfl) ?_
      refine z_get (own := RX10) (C := RX10) (T := TX10) (N := 12) (ci := 8) (v := .ref (gA G 17 0 0)) hx hb hL inX10 hown hK hM dm_16 (ze_16 G V 0 0 h) rfl 0 (by decide) (hL _ zw4_19) rfl rfl dX10_lockersThat_6 ?_
      refine lv_iconst (v := 4) hx hb dX10_lockersThat_9 (by decide) ?_
      obtain ⟨hb1, hf⟩ := grd_some hf
      refine z_iald hx hb hK hM (dm_17 (i := 0) (by decide)) (ze_17_0 G V h) (inb_in hb1) dX10_lockersThat_10 ?_
      refine lv_icmp_ge (tgt := 105) hx hb dX10_lockersThat_11 (by decide) (fun c2 => ?_) (fun c2 => ?_)
      · replace hf := ift hf c2
        refine lv_iload_n hx hb dX10_lockersThat_105 rfl (lv_at hl 2 rfl) ?_
        exact hQf hf hM hS dX10_lockersThat_106
      · replace hf := iff_ hf c2
        refine lv_iload_n hx hb dX10_lockersThat_14 rfl (lv_at hl 1 rfl) ?_
        refine lv_if_ne (tgt := 26) hx hb dX10_lockersThat_15 (by decide) (fun c3 => ?_) (fun c3 => ?_)
        · replace hf := iff_ hf c3
          refine lv_iload_n hx hb dX10_lockersThat_26 rfl (lv_at hl 1 rfl) ?_
          refine lv_iconst (v := 1) hx hb dX10_lockersThat_27 (by decide) ?_
          refine lv_icmp_ne (tgt := 48) hx hb dX10_lockersThat_28 (by decide) (fun c4 => ?_) (fun c4 => ?_)
          · replace hf := iff_ hf c4
            refine lv_iload_n hx hb dX10_lockersThat_48 rfl (lv_at hl 1 rfl) ?_
            refine lv_iconst (v := 2) hx hb dX10_lockersThat_49 (by decide) ?_
            refine lv_icmp_ne (tgt := 70) hx hb dX10_lockersThat_50 (by decide) (fun c5 => ?_) (fun c5 => ?_)
            · replace hf := iff_ hf c5
              refine lv_aload_n hx hb dX10_lockersThat_70 rfl (lv_at hl 0 rfl) ?_
              refine lv_iload_n hx hb dX10_lockersThat_71 rfl (lv_at hl 3 rfl) ?_
              refine lv_iconst (v := 1) hx hb dX10_lockersThat_72 (by decide) ?_
              obtain ⟨r6, h8, hc7, hf⟩ := bnd_some hf
              refine z_callV (As := [.int a3, .int (1 : Int32)]) (rest := []) (C := RX10) hx hb hml hown hL hK hM hS (kX10_of l G A V h a3 (1 : Int32) hc7) (zg_X10_of zw4_103) zv_X10_of ⟨rfl, rfl⟩ ⟨Nat.le_of_ble_eq_true rfl, Nat.le_of_ble_eq_true rfl⟩ (hM.recv hK dm_16 (ze_16 G V 0 0 h) rfl) rfl hl.1 rfl (Nat.le_of_ble_eq_true rfl) dX10_lockersThat_73 ⟨Nat.zero_le _, Nat.zero_le _⟩ (fun H locs hM hS => ?_)
              refine W.eq (g2 := F0 m 76 ls [.int r6]) rfl ?_
              refine lv_if_lt (tgt := 83) hx hb dX10_lockersThat_76 (by decide) (fun c9 => ?_) (fun c9 => ?_)
              · replace hf := ift hf c9
                refine lv_iconst (v := 0) hx hb dX10_lockersThat_83 (by decide) ?_
                exact L84 _ ih h8 a2 a3 (0 : Int32) hf _ _ _ hM hS (lv_sub hl [0, 1, 2, 3] rfl)
              · replace hf := iff_ hf c9
                refine lv_iconst (v := 1) hx hb dX10_lockersThat_79 (by decide) ?_
                refine lv_goto (tgt := 84) hx hb dX10_lockersThat_80 (by decide) ?_
                exact L84 _ ih h8 a2 a3 (1 : Int32) hf _ _ _ hM hS (lv_sub hl [0, 1, 2, 3] rfl)
            · replace hf := ift hf c5
              refine lv_aload_n hx hb dX10_lockersThat_53 rfl (lv_at hl 0 rfl) ?_
              refine lv_iload_n hx hb dX10_lockersThat_54 rfl (lv_at hl 3 rfl) ?_
              refine lv_iconst (v := 4) hx hb dX10_lockersThat_55 (by decide) ?_
              obtain ⟨r10, h12, hc11, hf⟩ := bnd_some hf
              refine z_callV (As := [.int a3, .int (4 : Int32)]) (rest := []) (C := RX10) hx hb hml hown hL hK hM hS (kX10_of l G A V h a3 (4 : Int32) hc11) (zg_X10_of zw4_103) zv_X10_of ⟨rfl, rfl⟩ ⟨Nat.le_of_ble_eq_true rfl, Nat.le_of_ble_eq_true rfl⟩ (hM.recv hK dm_16 (ze_16 G V 0 0 h) rfl) rfl hl.1 rfl (Nat.le_of_ble_eq_true rfl) dX10_lockersThat_56 ⟨Nat.zero_le _, Nat.zero_le _⟩ (fun H locs hM hS => ?_)
              refine W.eq (g2 := F0 m 59 ls [.int r10]) rfl ?_
              refine lv_if_lt (tgt := 66) hx hb dX10_lockersThat_59 (by decide) (fun c13 => ?_) (fun c13 => ?_)
              · replace hf := ift hf c13
                refine lv_iconst (v := 0) hx hb dX10_lockersThat_66 (by decide) ?_
                refine lv_goto (tgt := 84) hx hb dX10_lockersThat_67 (by decide) ?_
                exact L84 _ ih h12 a2 a3 (0 : Int32) hf _ _ _ hM hS (lv_sub hl [0, 1, 2, 3] rfl)
              · replace hf := iff_ hf c13
                refine lv_iconst (v := 1) hx hb dX10_lockersThat_62 (by decide) ?_
                refine lv_goto (tgt := 84) hx hb dX10_lockersThat_63 (by decide) ?_
                exact L84 _ ih h12 a2 a3 (1 : Int32) hf _ _ _ hM hS (lv_sub hl [0, 1, 2, 3] rfl)
          · replace hf := ift hf c4
            refine lv_aload_n hx hb dX10_lockersThat_31 rfl (lv_at hl 0 rfl) ?_
            refine lv_iload_n hx hb dX10_lockersThat_32 rfl (lv_at hl 3 rfl) ?_
            refine lv_iconst (v := 2) hx hb dX10_lockersThat_33 (by decide) ?_
            obtain ⟨r14, h16, hc15, hf⟩ := bnd_some hf
            refine z_callV (As := [.int a3, .int (2 : Int32)]) (rest := []) (C := RX10) hx hb hml hown hL hK hM hS (kX10_of l G A V h a3 (2 : Int32) hc15) (zg_X10_of zw4_103) zv_X10_of ⟨rfl, rfl⟩ ⟨Nat.le_of_ble_eq_true rfl, Nat.le_of_ble_eq_true rfl⟩ (hM.recv hK dm_16 (ze_16 G V 0 0 h) rfl) rfl hl.1 rfl (Nat.le_of_ble_eq_true rfl) dX10_lockersThat_34 ⟨Nat.zero_le _, Nat.zero_le _⟩ (fun H locs hM hS => ?_)
            refine W.eq (g2 := F0 m 37 ls [.int r14]) rfl ?_
            refine lv_if_lt (tgt := 44) hx hb dX10_lockersThat_37 (by decide) (fun c17 => ?_) (fun c17 => ?_)
            · replace hf := ift hf c17
              refine lv_iconst (v := 0) hx hb dX10_lockersThat_44 (by decide) ?_
              refine lv_goto (tgt := 84) hx hb dX10_lockersThat_45 (by decide) ?_
              exact L84 _ ih h16 a2 a3 (0 : Int32) hf _ _ _ hM hS (lv_sub hl [0, 1, 2, 3] rfl)
            · replace hf := iff_ hf c17
              refine lv_iconst (v := 1) hx hb dX10_lockersThat_40 (by decide) ?_
              refine lv_goto (tgt := 84) hx hb dX10_lockersThat_41 (by decide) ?_
              exact L84 _ ih h16 a2 a3 (1 : Int32) hf _ _ _ hM hS (lv_sub hl [0, 1, 2, 3] rfl)
        · replace hf := ift hf c3
          refine lv_aload_n hx hb dX10_lockersThat_18 rfl (lv_at hl 0 rfl) ?_
          refine lv_iload_n hx hb dX10_lockersThat_19 rfl (lv_at hl 3 rfl) ?_
          obtain ⟨r18, h20, hc19, hf⟩ := bnd_some hf
          refine z_callV (As := [.int a3]) (rest := []) (C := RX10) hx hb hml hown hL hK hM hS (kX10_isFree l G A V h a3 hc19) (zg_X10_isFree zw4_115) zv_X10_isFree ⟨rfl, rfl⟩ ⟨Nat.le_of_ble_eq_true rfl, Nat.le_of_ble_eq_true rfl⟩ (hM.recv hK dm_16 (ze_16 G V 0 0 h) rfl) rfl hl.1 rfl (Nat.le_of_ble_eq_true rfl) dX10_lockersThat_20 ⟨Nat.zero_le _, Nat.zero_le _⟩ (fun H locs hM hS => ?_)
          refine W.eq (g2 := F0 m 23 ls [.int r18]) rfl ?_
          refine lv_goto (tgt := 84) hx hb dX10_lockersThat_23 (by decide) ?_
          exact L84 _ ih h20 a2 a3 r18 hf _ _ _ hM hS (lv_sub hl [0, 1, 2, 3] rfl)
  unfold xX10_lockersThat at hf
  refine lv_iconst (v := 0) hx hb dX10_lockersThat_0 (by decide) ?_
  refine lv_istore_n (lv' := [(2, .int (0 : Int32)), (0, .ref (gA G 16 0 0)), (1, .int p1)]) hx hb dX10_lockersThat_1 rfl hl (by decide) rfl (fun ls hl => ?_)
  refine lv_iconst (v := 0) hx hb dX10_lockersThat_2 (by decide) ?_
  refine lv_istore_n (lv' := [(3, .int (0 : Int32)), (2, .int (0 : Int32)), (0, .ref (gA G 16 0 0)), (1, .int p1)]) hx hb dX10_lockersThat_3 rfl hl (by decide) rfl (fun ls hl => ?_)
  exact L4 1000 h (0 : Int32) (0 : Int32) hf _ _ _ hM hS (lv_sub hl [2, 3, 1, 0] rfl)
abbrev rX10_debts : Room := { frames := 1, cells := 0, slots := 0, locals := 22 }
set_option maxRecDepth 100000 in
set_option maxHeartbeats 4000000 in
theorem kX10_debts (l : Launch) (G : zG) (A : Nat → Prop) (V : zV3) (h : zV2) {r : Int32} {h' : zV2} (hf : xX10_debts h  = some (r, h')) : zCt l G A yX10_debts cX10_debts 3 (some .int) rX10_debts [.ref (gA G 16 0 0)] (upG V 8 h) (some (.int r)) (upG V 8 h') := by
  refine z_CtI (by decide) (Nat.le_of_ble_eq_true rfl) ?_
  intro p e s m args below meth c Q hx hb hml hown hL hK hM hS hQ ls hl
  replace hl : lv_has ls 3 [(0, .ref (gA G 16 0 0))] := hl
  have hQf : ∀ {a : Int32} {k : zV2} {H : Heap} {locs : List Loc} {pc : Nat} {ls : Array Slot}, some (a, k) = some (r, h') → zM G (upG V 8 k) H → va_S A s.heap H locs → decode cX10_debts pc = .ok (.ireturn, 1) → W p l e rX10_debts s m args below meth c H locs 0 0 Q (F0 m pc ls [.int a]) := by
    intro a k H locs pc ls e1 hM hS hd
    cases e1
    exact hQ H locs pc ls hM hS hd
  have L4 : ∀ (n : Nat) (h : zV2) (a1 : Int32) (a2 : Int32), xX10_debts_L4 n h a1 a2 = some (r, h') → ∀ (H : Heap) (locs : List Loc) (ls : Array Slot), zM G (upG V 8 h) H → va_S A s.heap H locs → lv_has ls 3 [(0, .ref (gA G 16 0 0)), (1, .int a1), (2, .int a2)] → W p l e rX10_debts s m args below meth c H locs 0 0 Q (F0 m 4 ls []) := by
    intro n
    induction n with
    | zero =>
      intro h a1 a2 hf H locs ls hM hS hl
      rw [xX10_debts_L4] at hf
      cases hf
    | succ n ih =>
      intro h a1 a2 hf H locs ls hM hS hl
      rw [xX10_debts_L4] at hf
      refine lv_iload_n hx hb dX10_debts_4 rfl (lv_at hl 2 rfl) ?_
      refine lv_aload_n hx hb dX10_debts_5 rfl (lv_at hl 0 rfl) ?_
      refine z_get (own := RX10) (C := RX10) (T := TX10) (N := 12) (ci := 8) (v := .ref (gA G 17 0 0)) hx hb hL inX10 hown hK hM dm_16 (ze_16 G V 0 0 h) rfl 0 (by decide) (hL _ zw4_19) rfl rfl dX10_debts_6 ?_
      refine lv_iconst (v := 5) hx hb dX10_debts_9 (by decide) ?_
      obtain ⟨hb1, hf⟩ := grd_some hf
      refine z_iald hx hb hK hM (dm_17 (i := 0) (by decide)) (ze_17_0 G V h) (inb_in hb1) dX10_debts_10 ?_
      refine lv_icmp_ge (tgt := 29) hx hb dX10_debts_11 (by decide) (fun c2 => ?_) (fun c2 => ?_)
      · replace hf := ift hf c2
        refine lv_iload_n hx hb dX10_debts_29 rfl (lv_at hl 1 rfl) ?_
        exact hQf hf hM hS dX10_debts_30
      · replace hf := iff_ hf c2
        refine lv_iload_n hx hb dX10_debts_14 rfl (lv_at hl 1 rfl) ?_
        refine lv_aload_n hx hb dX10_debts_15 rfl (lv_at hl 0 rfl) ?_
        refine lv_iload_n hx hb dX10_debts_16 rfl (lv_at hl 2 rfl) ?_
        refine lv_iconst (v := 3) hx hb dX10_debts_17 (by decide) ?_
        obtain ⟨r3, h5, hc4, hf⟩ := bnd_some hf
        refine z_callV (As := [.int a2, .int (3 : Int32)]) (rest := [.int a1]) (C := RX10) hx hb hml hown hL hK hM hS (kX10_ofP l G A V h a2 (3 : Int32) hc4) (zg_X10_ofP zw4_147) zv_X10_ofP ⟨rfl, rfl⟩ ⟨Nat.le_of_ble_eq_true rfl, Nat.le_of_ble_eq_true rfl⟩ (hM.recv hK dm_16 (ze_16 G V 0 0 h) rfl) rfl hl.1 rfl (Nat.le_of_ble_eq_true rfl) dX10_debts_18 ⟨Nat.zero_le _, Nat.zero_le _⟩ (fun H locs hM hS => ?_)
        refine W.eq (g2 := F0 m 21 ls [.int r3, .int a1]) rfl ?_
        refine lv_iadd hx hb dX10_debts_21 ?_
        refine lv_topi (fun y6 ey6 => ?_)
        replace hf := ltI_some hf ey6
        refine lv_istore_n (lv' := [(1, .int y6), (0, .ref (gA G 16 0 0)), (2, .int a2)]) hx hb dX10_debts_22 rfl hl (by decide) rfl (fun ls hl => ?_)
        obtain ⟨y7, ey7⟩ : ∃ y : Int32, y = a2 + (1 : Int32) := ⟨_, rfl⟩
        replace hf := ltI_some hf ey7
        refine lv_iinc (v := y7) (lv' := [(2, .int y7), (1, .int y6), (0, .ref (gA G 16 0 0))]) hx hb dX10_debts_23 hl (k := 2) rfl (by rw [ey7]; rfl) (by decide) rfl (fun ls hl => ?_)
        refine lv_goto (tgt := 4) hx hb dX10_debts_26 (by decide) ?_
        exact ih h5 y6 y7 hf _ _ _ hM hS (lv_sub hl [2, 1, 0] rfl)
  unfold xX10_debts at hf
  refine lv_iconst (v := 0) hx hb dX10_debts_0 (by decide) ?_
  refine lv_istore_n (lv' := [(1, .int (0 : Int32)), (0, .ref (gA G 16 0 0))]) hx hb dX10_debts_1 rfl hl (by decide) rfl (fun ls hl => ?_)
  refine lv_iconst (v := 0) hx hb dX10_debts_2 (by decide) ?_
  refine lv_istore_n (lv' := [(2, .int (0 : Int32)), (1, .int (0 : Int32)), (0, .ref (gA G 16 0 0))]) hx hb dX10_debts_3 rfl hl (by decide) rfl (fun ls hl => ?_)
  exact L4 1000 h (0 : Int32) (0 : Int32) hf _ _ _ hM hS (lv_sub hl [2, 1, 0] rfl)
abbrev rX10_count : Room := { frames := 3, cells := 0, slots := 0, locals := 67 }
set_option maxRecDepth 100000 in
set_option maxHeartbeats 4000000 in
theorem kX10_count (l : Launch) (G : zG) (A : Nat → Prop) (V : zV3) (h : zV2) (p1 : Int32) {r : Int32} {h' : zV2} (hf : xX10_count h p1 = some (r, h')) : zCt l G A yX10_count cX10_count 2 (some .int) rX10_count [.ref (gA G 16 0 0), .int p1] (upG V 8 h) (some (.int r)) (upG V 8 h') := by
  refine z_CtI (by decide) (Nat.le_of_ble_eq_true rfl) ?_
  intro p e s m args below meth c Q hx hb hml hown hL hK hM hS hQ ls hl
  replace hl : lv_has ls 2 [(0, .ref (gA G 16 0 0)), (1, .int p1)] := hl
  have hQf : ∀ {a : Int32} {k : zV2} {H : Heap} {locs : List Loc} {pc : Nat} {ls : Array Slot}, some (a, k) = some (r, h') → zM G (upG V 8 k) H → va_S A s.heap H locs → decode cX10_count pc = .ok (.ireturn, 1) → W p l e rX10_count s m args below meth c H locs 0 0 Q (F0 m pc ls [.int a]) := by
    intro a k H locs pc ls e1 hM hS hd
    cases e1
    exact hQ H locs pc ls hM hS hd
  unfold xX10_count at hf
  refine lv_iload_n hx hb dX10_count_0 rfl (lv_at hl 1 rfl) ?_
  by_cases c1 : p1 = (0 : Int32)
  · replace hf := ift hf c1
    refine lv_tableIn (off := 71) (tgt := 72) hx hb dX10_count_1 (by rw [c1]; decide) (by rw [c1]; decide) (by rw [c1]; rfl) (by decide) ?_
    refine lv_aload_n hx hb dX10_count_72 rfl (lv_at hl 0 rfl) ?_
    refine z_get (own := RX10) (C := RX10) (T := TX10) (N := 12) (ci := 8) (v := .ref (gA G 17 0 0)) hx hb hL inX10 hown hK hM dm_16 (ze_16 G V 0 0 h) rfl 0 (by decide) (hL _ zw4_19) rfl rfl dX10_count_73 ?_
    refine lv_iconst (v := 4) hx hb dX10_count_76 (by decide) ?_
    refine lv_iload_n hx hb dX10_count_77 rfl (lv_at hl 1 rfl) ?_
    refine lv_iadd hx hb dX10_count_78 ?_
    obtain ⟨hb2, hf⟩ := grd_some hf
    refine z_iald hx hb hK hM (dm_17 (i := 0) (by decide)) (ze_17_0 G V h) (inb_in hb2) dX10_count_79 ?_
    exact hQf hf hM hS dX10_count_80
  · replace hf := iff_ hf c1
    by_cases c3 : p1 = (1 : Int32)
    · replace hf := ift hf c3
      refine lv_tableIn (off := 71) (tgt := 72) hx hb dX10_count_1 (by rw [c3]; decide) (by rw [c3]; decide) (by rw [c3]; rfl) (by decide) ?_
      refine lv_aload_n hx hb dX10_count_72 rfl (lv_at hl 0 rfl) ?_
      refine z_get (own := RX10) (C := RX10) (T := TX10) (N := 12) (ci := 8) (v := .ref (gA G 17 0 0)) hx hb hL inX10 hown hK hM dm_16 (ze_16 G V 0 0 h) rfl 0 (by decide) (hL _ zw4_19) rfl rfl dX10_count_73 ?_
      refine lv_iconst (v := 4) hx hb dX10_count_76 (by decide) ?_
      refine lv_iload_n hx hb dX10_count_77 rfl (lv_at hl 1 rfl) ?_
      refine lv_iadd hx hb dX10_count_78 ?_
      obtain ⟨hb4, hf⟩ := grd_some hf
      refine z_iald hx hb hK hM (dm_17 (i := 0) (by decide)) (ze_17_0 G V h) (inb_in hb4) dX10_count_79 ?_
      exact hQf hf hM hS dX10_count_80
    · replace hf := iff_ hf c3
      by_cases c5 : p1 = (2 : Int32)
      · replace hf := ift hf c5
        refine lv_tableIn (off := 80) (tgt := 81) hx hb dX10_count_1 (by rw [c5]; decide) (by rw [c5]; decide) (by rw [c5]; rfl) (by decide) ?_
        refine lv_aload_n hx hb dX10_count_81 rfl (lv_at hl 0 rfl) ?_
        refine z_get (own := RX10) (C := RX10) (T := TX10) (N := 12) (ci := 8) (v := .ref (gA G 17 0 0)) hx hb hL inX10 hown hK hM dm_16 (ze_16 G V 0 0 h) rfl 0 (by decide) (hL _ zw4_19) rfl rfl dX10_count_82 ?_
        refine lv_iconst (v := 3) hx hb dX10_count_85 (by decide) ?_
        obtain ⟨hb6, hf⟩ := grd_some hf
        refine z_iald hx hb hK hM (dm_17 (i := 0) (by decide)) (ze_17_0 G V h) (inb_in hb6) dX10_count_86 ?_
        exact hQf hf hM hS dX10_count_87
      · replace hf := iff_ hf c5
        by_cases c7 : p1 = (3 : Int32)
        · replace hf := ift hf c7
          refine lv_tableIn (off := 87) (tgt := 88) hx hb dX10_count_1 (by rw [c7]; decide) (by rw [c7]; decide) (by rw [c7]; rfl) (by decide) ?_
          refine lv_aload_n hx hb dX10_count_88 rfl (lv_at hl 0 rfl) ?_
          refine lv_iload_n hx hb dX10_count_89 rfl (lv_at hl 1 rfl) ?_
          refine lv_iconst (v := 3) hx hb dX10_count_90 (by decide) ?_
          refine lv_isub hx hb dX10_count_91 ?_
          obtain ⟨r8, h10, hc9, hf⟩ := bnd_some hf
          refine z_callV (As := [.int (p1 - (3 : Int32))]) (rest := []) (C := RX10) hx hb hml hown hL hK hM hS (kX10_lockersThat l G A V h (p1 - (3 : Int32)) hc9) (zg_X10_lockersThat zw5_75) zv_X10_lockersThat ⟨rfl, rfl⟩ ⟨Nat.le_of_ble_eq_true rfl, Nat.le_of_ble_eq_true rfl⟩ (hM.recv hK dm_16 (ze_16 G V 0 0 h) rfl) rfl hl.1 rfl (Nat.le_of_ble_eq_true rfl) dX10_count_92 ⟨Nat.zero_le _, Nat.zero_le _⟩ (fun H locs hM hS => ?_)
          refine W.eq (g2 := F0 m 95 ls [.int r8]) rfl ?_
          exact hQf hf hM hS dX10_count_95
        · replace hf := iff_ hf c7
          by_cases c11 : p1 = (4 : Int32)
          · replace hf := ift hf c11
            refine lv_tableIn (off := 87) (tgt := 88) hx hb dX10_count_1 (by rw [c11]; decide) (by rw [c11]; decide) (by rw [c11]; rfl) (by decide) ?_
            refine lv_aload_n hx hb dX10_count_88 rfl (lv_at hl 0 rfl) ?_
            refine lv_iload_n hx hb dX10_count_89 rfl (lv_at hl 1 rfl) ?_
            refine lv_iconst (v := 3) hx hb dX10_count_90 (by decide) ?_
            refine lv_isub hx hb dX10_count_91 ?_
            obtain ⟨r12, h14, hc13, hf⟩ := bnd_some hf
            refine z_callV (As := [.int (p1 - (3 : Int32))]) (rest := []) (C := RX10) hx hb hml hown hL hK hM hS (kX10_lockersThat l G A V h (p1 - (3 : Int32)) hc13) (zg_X10_lockersThat zw5_75) zv_X10_lockersThat ⟨rfl, rfl⟩ ⟨Nat.le_of_ble_eq_true rfl, Nat.le_of_ble_eq_true rfl⟩ (hM.recv hK dm_16 (ze_16 G V 0 0 h) rfl) rfl hl.1 rfl (Nat.le_of_ble_eq_true rfl) dX10_count_92 ⟨Nat.zero_le _, Nat.zero_le _⟩ (fun H locs hM hS => ?_)
            refine W.eq (g2 := F0 m 95 ls [.int r12]) rfl ?_
            exact hQf hf hM hS dX10_count_95
          · replace hf := iff_ hf c11
            by_cases c15 : p1 = (5 : Int32)
            · replace hf := ift hf c15
              refine lv_tableIn (off := 87) (tgt := 88) hx hb dX10_count_1 (by rw [c15]; decide) (by rw [c15]; decide) (by rw [c15]; rfl) (by decide) ?_
              refine lv_aload_n hx hb dX10_count_88 rfl (lv_at hl 0 rfl) ?_
              refine lv_iload_n hx hb dX10_count_89 rfl (lv_at hl 1 rfl) ?_
              refine lv_iconst (v := 3) hx hb dX10_count_90 (by decide) ?_
              refine lv_isub hx hb dX10_count_91 ?_
              obtain ⟨r16, h18, hc17, hf⟩ := bnd_some hf
              refine z_callV (As := [.int (p1 - (3 : Int32))]) (rest := []) (C := RX10) hx hb hml hown hL hK hM hS (kX10_lockersThat l G A V h (p1 - (3 : Int32)) hc17) (zg_X10_lockersThat zw5_75) zv_X10_lockersThat ⟨rfl, rfl⟩ ⟨Nat.le_of_ble_eq_true rfl, Nat.le_of_ble_eq_true rfl⟩ (hM.recv hK dm_16 (ze_16 G V 0 0 h) rfl) rfl hl.1 rfl (Nat.le_of_ble_eq_true rfl) dX10_count_92 ⟨Nat.zero_le _, Nat.zero_le _⟩ (fun H locs hM hS => ?_)
              refine W.eq (g2 := F0 m 95 ls [.int r16]) rfl ?_
              exact hQf hf hM hS dX10_count_95
            · replace hf := iff_ hf c15
              by_cases c19 : p1 = (6 : Int32)
              · replace hf := ift hf c19
                refine lv_tableIn (off := 95) (tgt := 96) hx hb dX10_count_1 (by rw [c19]; decide) (by rw [c19]; decide) (by rw [c19]; rfl) (by decide) ?_
                refine lv_aload_n hx hb dX10_count_96 rfl (lv_at hl 0 rfl) ?_
                refine z_get (own := RX10) (C := RX10) (T := TX10) (N := 12) (ci := 8) (v := .ref (gA G 17 0 0)) hx hb hL inX10 hown hK hM dm_16 (ze_16 G V 0 0 h) rfl 0 (by decide) (hL _ zw4_19) rfl rfl dX10_count_97 ?_
                refine lv_iload_n hx hb dX10_count_100 rfl (lv_at hl 1 rfl) ?_
                obtain ⟨hb20, hf⟩ := grd_some hf
                refine z_iald hx hb hK hM (dm_17 (i := 0) (by decide)) (ze_17_0 G V h) (inb_in hb20) dX10_count_101 ?_
                exact hQf hf hM hS dX10_count_102
              · replace hf := iff_ hf c19
                by_cases c21 : p1 = (7 : Int32)
                · replace hf := ift hf c21
                  refine lv_tableIn (off := 95) (tgt := 96) hx hb dX10_count_1 (by rw [c21]; decide) (by rw [c21]; decide) (by rw [c21]; rfl) (by decide) ?_
                  refine lv_aload_n hx hb dX10_count_96 rfl (lv_at hl 0 rfl) ?_
                  refine z_get (own := RX10) (C := RX10) (T := TX10) (N := 12) (ci := 8) (v := .ref (gA G 17 0 0)) hx hb hL inX10 hown hK hM dm_16 (ze_16 G V 0 0 h) rfl 0 (by decide) (hL _ zw4_19) rfl rfl dX10_count_97 ?_
                  refine lv_iload_n hx hb dX10_count_100 rfl (lv_at hl 1 rfl) ?_
                  obtain ⟨hb22, hf⟩ := grd_some hf
                  refine z_iald hx hb hK hM (dm_17 (i := 0) (by decide)) (ze_17_0 G V h) (inb_in hb22) dX10_count_101 ?_
                  exact hQf hf hM hS dX10_count_102
                · replace hf := iff_ hf c21
                  by_cases c23 : p1 = (8 : Int32)
                  · replace hf := ift hf c23
                    refine lv_tableIn (off := 102) (tgt := 103) hx hb dX10_count_1 (by rw [c23]; decide) (by rw [c23]; decide) (by rw [c23]; rfl) (by decide) ?_
                    refine lv_aload_n hx hb dX10_count_103 rfl (lv_at hl 0 rfl) ?_
                    obtain ⟨r24, h26, hc25, hf⟩ := bnd_some hf
                    refine z_callV (As := []) (rest := []) (C := RX10) hx hb hml hown hL hK hM hS (kX10_debts l G A V h hc25) (zg_X10_debts zw5_79) zv_X10_debts ⟨rfl, rfl⟩ ⟨Nat.le_of_ble_eq_true rfl, Nat.le_of_ble_eq_true rfl⟩ (hM.recv hK dm_16 (ze_16 G V 0 0 h) rfl) rfl hl.1 rfl (Nat.le_of_ble_eq_true rfl) dX10_count_104 ⟨Nat.zero_le _, Nat.zero_le _⟩ (fun H locs hM hS => ?_)
                    refine W.eq (g2 := F0 m 107 ls [.int r24]) rfl ?_
                    exact hQf hf hM hS dX10_count_107
                  · replace hf := iff_ hf c23
                    by_cases c27 : p1 = (9 : Int32)
                    · replace hf := ift hf c27
                      refine lv_tableIn (off := 107) (tgt := 108) hx hb dX10_count_1 (by rw [c27]; decide) (by rw [c27]; decide) (by rw [c27]; rfl) (by decide) ?_
                      refine lv_aload_n hx hb dX10_count_108 rfl (lv_at hl 0 rfl) ?_
                      refine z_get (own := RX10) (C := RX10) (T := TX10) (N := 12) (ci := 8) (v := .ref (gA G 17 0 0)) hx hb hL inX10 hown hK hM dm_16 (ze_16 G V 0 0 h) rfl 0 (by decide) (hL _ zw4_19) rfl rfl dX10_count_109 ?_
                      refine lv_iload_n hx hb dX10_count_112 rfl (lv_at hl 1 rfl) ?_
                      refine lv_iconst (v := 1) hx hb dX10_count_113 (by decide) ?_
                      refine lv_isub hx hb dX10_count_114 ?_
                      obtain ⟨hb28, hf⟩ := grd_some hf
                      refine z_iald hx hb hK hM (dm_17 (i := 0) (by decide)) (ze_17_0 G V h) (inb_in hb28) dX10_count_115 ?_
                      exact hQf hf hM hS dX10_count_116
                    · replace hf := iff_ hf c27
                      by_cases c29 : p1 = (10 : Int32)
                      · replace hf := ift hf c29
                        refine lv_tableIn (off := 107) (tgt := 108) hx hb dX10_count_1 (by rw [c29]; decide) (by rw [c29]; decide) (by rw [c29]; rfl) (by decide) ?_
                        refine lv_aload_n hx hb dX10_count_108 rfl (lv_at hl 0 rfl) ?_
                        refine z_get (own := RX10) (C := RX10) (T := TX10) (N := 12) (ci := 8) (v := .ref (gA G 17 0 0)) hx hb hL inX10 hown hK hM dm_16 (ze_16 G V 0 0 h) rfl 0 (by decide) (hL _ zw4_19) rfl rfl dX10_count_109 ?_
                        refine lv_iload_n hx hb dX10_count_112 rfl (lv_at hl 1 rfl) ?_
                        refine lv_iconst (v := 1) hx hb dX10_count_113 (by decide) ?_
                        refine lv_isub hx hb dX10_count_114 ?_
                        obtain ⟨hb30, hf⟩ := grd_some hf
                        refine z_iald hx hb hK hM (dm_17 (i := 0) (by decide)) (ze_17_0 G V h) (inb_in hb30) dX10_count_115 ?_
                        exact hQf hf hM hS dX10_count_116
                      · replace hf := iff_ hf c29
                        by_cases c31 : p1 = (11 : Int32)
                        · replace hf := ift hf c31
                          refine lv_tableIn (off := 107) (tgt := 108) hx hb dX10_count_1 (by rw [c31]; decide) (by rw [c31]; decide) (by rw [c31]; rfl) (by decide) ?_
                          refine lv_aload_n hx hb dX10_count_108 rfl (lv_at hl 0 rfl) ?_
                          refine z_get (own := RX10) (C := RX10) (T := TX10) (N := 12) (ci := 8) (v := .ref (gA G 17 0 0)) hx hb hL inX10 hown hK hM dm_16 (ze_16 G V 0 0 h) rfl 0 (by decide) (hL _ zw4_19) rfl rfl dX10_count_109 ?_
                          refine lv_iload_n hx hb dX10_count_112 rfl (lv_at hl 1 rfl) ?_
                          refine lv_iconst (v := 1) hx hb dX10_count_113 (by decide) ?_
                          refine lv_isub hx hb dX10_count_114 ?_
                          obtain ⟨hb32, hf⟩ := grd_some hf
                          refine z_iald hx hb hK hM (dm_17 (i := 0) (by decide)) (ze_17_0 G V h) (inb_in hb32) dX10_count_115 ?_
                          exact hQf hf hM hS dX10_count_116
                        · replace hf := iff_ hf c31
                          by_cases c33 : p1 = (12 : Int32)
                          · replace hf := ift hf c33
                            refine lv_tableIn (off := 116) (tgt := 117) hx hb dX10_count_1 (by rw [c33]; decide) (by rw [c33]; decide) (by rw [c33]; rfl) (by decide) ?_
                            refine lv_aload_n hx hb dX10_count_117 rfl (lv_at hl 0 rfl) ?_
                            refine z_get (own := RX10) (C := RX10) (T := TX10) (N := 12) (ci := 8) (v := .int (h 6 0)) hx hb hL inX10 hown hK hM dm_16 (ze_16 G V 0 0 h) rfl 4 (by decide) (hL _ zw4_23) rfl rfl dX10_count_118 ?_
                            exact hQf hf hM hS dX10_count_121
                          · replace hf := iff_ hf c33
                            by_cases c34 : p1 = (13 : Int32)
                            · replace hf := ift hf c34
                              refine lv_tableIn (off := 121) (tgt := 122) hx hb dX10_count_1 (by rw [c34]; decide) (by rw [c34]; decide) (by rw [c34]; rfl) (by decide) ?_
                              refine lv_aload_n hx hb dX10_count_122 rfl (lv_at hl 0 rfl) ?_
                              refine z_get (own := RX10) (C := RX10) (T := TX10) (N := 12) (ci := 8) (v := .int (h 7 0)) hx hb hL inX10 hown hK hM dm_16 (ze_16 G V 0 0 h) rfl 6 (by decide) (hL _ zw4_25) rfl rfl dX10_count_123 ?_
                              exact hQf hf hM hS dX10_count_126
                            · replace hf := iff_ hf c34
                              refine lv_tableOut (tgt := 127) hx hb dX10_count_1 (by have t0 := lv_neT c1 (a := 0) (by decide); have t1 := lv_neT c3 (a := 1) (by decide); have t2 := lv_neT c5 (a := 2) (by decide); have t3 := lv_neT c7 (a := 3) (by decide); have t4 := lv_neT c11 (a := 4) (by decide); have t5 := lv_neT c15 (a := 5) (by decide); have t6 := lv_neT c19 (a := 6) (by decide); have t7 := lv_neT c21 (a := 7) (by decide); have t8 := lv_neT c23 (a := 8) (by decide); have t9 := lv_neT c27 (a := 9) (by decide); have t10 := lv_neT c29 (a := 10) (by decide); have t11 := lv_neT c31 (a := 11) (by decide); have t12 := lv_neT c33 (a := 12) (by decide); have t13 := lv_neT c34 (a := 13) (by decide); omega) (by decide) ?_
                              refine lv_iload_n hx hb dX10_count_127 rfl (lv_at hl 1 rfl) ?_
                              refine lv_bipush (v := 20) hx hb dX10_count_128 (by decide) ?_
                              refine lv_bipush (v := 22) hx hb dX10_count_130 (by decide) ?_
                              obtain ⟨r35, h37, hc36, hf⟩ := bnd_some hf
                              refine z_callS (As := [.int p1, .int (20 : Int32), .int (22 : Int32)]) (rest := []) hx hb hml hown hL hK hM hS (kX10_in l G A V h p1 (20 : Int32) (22 : Int32) hc36) (zg_X10_in zw4_68) zy_X10_in ⟨rfl, rfl⟩ ⟨Nat.le_of_ble_eq_true rfl, Nat.le_of_ble_eq_true rfl⟩ rfl hl.1 rfl (Nat.le_of_ble_eq_true rfl) dX10_count_132 ⟨Nat.zero_le _, Nat.zero_le _⟩ (fun H locs hM hS => ?_)
                              refine W.eq (g2 := F0 m 135 ls [.int r35]) rfl ?_
                              refine lv_if_eq (tgt := 150) hx hb dX10_count_135 (by decide) (fun c38 => ?_) (fun c38 => ?_)
                              · replace hf := ift hf c38
                                refine lv_iconst (v := -1) hx hb dX10_count_150 (by decide) ?_
                                exact hQf hf hM hS dX10_count_151
                              · replace hf := iff_ hf c38
                                refine lv_aload_n hx hb dX10_count_138 rfl (lv_at hl 0 rfl) ?_
                                refine z_get (own := RX10) (C := RX10) (T := TX10) (N := 12) (ci := 8) (v := .ref (gA G 17 0 0)) hx hb hL inX10 hown hK hM dm_16 (ze_16 G V 0 0 h37) rfl 0 (by decide) (hL _ zw4_19) rfl rfl dX10_count_139 ?_
                                refine lv_iload_n hx hb dX10_count_142 rfl (lv_at hl 1 rfl) ?_
                                refine lv_bipush (v := 20) hx hb dX10_count_143 (by decide) ?_
                                refine lv_isub hx hb dX10_count_145 ?_
                                obtain ⟨hb39, hf⟩ := grd_some hf
                                refine z_iald hx hb hK hM (dm_17 (i := 0) (by decide)) (ze_17_0 G V h37) (inb_in hb39) dX10_count_146 ?_
                                refine lv_goto (tgt := 151) hx hb dX10_count_147 (by decide) ?_
                                exact hQf hf hM hS dX10_count_151
abbrev rX10_feeIn : Room := { frames := 6, cells := 0, slots := 0, locals := 137 }
set_option maxRecDepth 100000 in
set_option maxHeartbeats 4000000 in
theorem kX10_feeIn (l : Launch) (G : zG) (A : Nat → Prop) (V : zV3) (h : zV2) (p1 : Int32) (p2 : Int32) {r : Int32} {h' : zV2} (hf : xX10_feeIn h p1 p2 = some (r, h')) : zCt l G A yX10_feeIn cX10_feeIn 5 (some .int) rX10_feeIn [.ref (gA G 16 0 0), .int p1, .int p2] (upG V 8 h) (some (.int r)) (upG V 8 h') := by
  refine z_CtI (by decide) (Nat.le_of_ble_eq_true rfl) ?_
  intro p e s m args below meth c Q hx hb hml hown hL hK hM hS hQ ls hl
  replace hl : lv_has ls 5 [(0, .ref (gA G 16 0 0)), (1, .int p1), (2, .int p2)] := hl
  have hQf : ∀ {a : Int32} {k : zV2} {H : Heap} {locs : List Loc} {pc : Nat} {ls : Array Slot}, some (a, k) = some (r, h') → zM G (upG V 8 k) H → va_S A s.heap H locs → decode cX10_feeIn pc = .ok (.ireturn, 1) → W p l e rX10_feeIn s m args below meth c H locs 0 0 Q (F0 m pc ls [.int a]) := by
    intro a k H locs pc ls e1 hM hS hd
    cases e1
    exact hQ H locs pc ls hM hS hd
  unfold xX10_feeIn at hf
  refine lv_aload_n hx hb dX10_feeIn_0 rfl (lv_at hl 0 rfl) ?_
  refine lv_iload_n hx hb dX10_feeIn_1 rfl (lv_at hl 1 rfl) ?_
  obtain ⟨r1, h3, hc2, hf⟩ := bnd_some hf
  refine z_callV (As := [.int p1]) (rest := []) (C := RX10) hx hb hml hown hL hK hM hS (kX10_isPerson l G A V h p1 hc2) (zg_X10_isPerson zw4_143) zv_X10_isPerson ⟨rfl, rfl⟩ ⟨Nat.le_of_ble_eq_true rfl, Nat.le_of_ble_eq_true rfl⟩ (hM.recv hK dm_16 (ze_16 G V 0 0 h) rfl) rfl hl.1 rfl (Nat.le_of_ble_eq_true rfl) dX10_feeIn_2 ⟨Nat.zero_le _, Nat.zero_le _⟩ (fun H locs hM hS => ?_)
  refine W.eq (g2 := F0 m 5 ls [.int r1]) rfl ?_
  refine lv_if_eq (tgt := 18) hx hb dX10_feeIn_5 (by decide) (fun c4 => ?_) (fun c4 => ?_)
  · replace hf := ift hf c4
    refine lv_iconst (v := -1) hx hb dX10_feeIn_18 (by decide) ?_
    exact hQf hf hM hS dX10_feeIn_19
  · replace hf := iff_ hf c4
    refine lv_iload_n hx hb dX10_feeIn_8 rfl (lv_at hl 2 rfl) ?_
    refine lv_iconst (v := 1) hx hb dX10_feeIn_9 (by decide) ?_
    refine lv_bipush (v := 99) hx hb dX10_feeIn_10 (by decide) ?_
    obtain ⟨r5, h7, hc6, hf⟩ := bnd_some hf
    refine z_callS (As := [.int p2, .int (1 : Int32), .int (99 : Int32)]) (rest := []) hx hb hml hown hL hK hM hS (kX10_in l G A V h3 p2 (1 : Int32) (99 : Int32) hc6) (zg_X10_in zw4_68) zy_X10_in ⟨rfl, rfl⟩ ⟨Nat.le_of_ble_eq_true rfl, Nat.le_of_ble_eq_true rfl⟩ rfl hl.1 rfl (Nat.le_of_ble_eq_true rfl) dX10_feeIn_12 ⟨Nat.zero_le _, Nat.zero_le _⟩ (fun H locs hM hS => ?_)
    refine W.eq (g2 := F0 m 15 ls [.int r5]) rfl ?_
    refine lv_if_ne (tgt := 20) hx hb dX10_feeIn_15 (by decide) (fun c8 => ?_) (fun c8 => ?_)
    · replace hf := iff_ hf c8
      refine lv_aload_n hx hb dX10_feeIn_20 rfl (lv_at hl 0 rfl) ?_
      obtain ⟨r9, h11, hc10, hf⟩ := bnd_some hf
      refine z_callV (As := []) (rest := []) (C := RX10) hx hb hml hown hL hK hM hS (kX10_layAside l G A V h7 hc10) (zg_X10_layAside zw5_87) zv_X10_layAside ⟨rfl, rfl⟩ ⟨Nat.le_of_ble_eq_true rfl, Nat.le_of_ble_eq_true rfl⟩ (hM.recv hK dm_16 (ze_16 G V 0 0 h7) rfl) rfl hl.1 rfl (Nat.le_of_ble_eq_true rfl) dX10_feeIn_21 ⟨Nat.zero_le _, Nat.zero_le _⟩ (fun H locs hM hS => ?_)
      refine W.eq (g2 := F0 m 24 ls []) rfl ?_
      refine lv_aload_n hx hb dX10_feeIn_24 rfl (lv_at hl 0 rfl) ?_
      refine lv_iload_n hx hb dX10_feeIn_25 rfl (lv_at hl 1 rfl) ?_
      refine lv_iconst (v := 3) hx hb dX10_feeIn_26 (by decide) ?_
      obtain ⟨r12, h14, hc13, hf⟩ := bnd_some hf
      refine z_callV (As := [.int p1, .int (3 : Int32)]) (rest := []) (C := RX10) hx hb hml hown hL hK hM hS (kX10_ofP l G A V h11 p1 (3 : Int32) hc13) (zg_X10_ofP zw4_147) zv_X10_ofP ⟨rfl, rfl⟩ ⟨Nat.le_of_ble_eq_true rfl, Nat.le_of_ble_eq_true rfl⟩ (hM.recv hK dm_16 (ze_16 G V 0 0 h11) rfl) rfl hl.1 rfl (Nat.le_of_ble_eq_true rfl) dX10_feeIn_27 ⟨Nat.zero_le _, Nat.zero_le _⟩ (fun H locs hM hS => ?_)
      refine W.eq (g2 := F0 m 30 ls [.int r12]) rfl ?_
      refine lv_istore_n (lv' := [(3, .int r12), (0, .ref (gA G 16 0 0)), (1, .int p1), (2, .int p2)]) hx hb dX10_feeIn_30 rfl hl (by decide) rfl (fun ls hl => ?_)
      refine lv_aload_n hx hb dX10_feeIn_31 rfl (lv_at hl 1 rfl) ?_
      refine lv_iload_n hx hb dX10_feeIn_32 rfl (lv_at hl 3 rfl) ?_
      obtain ⟨r15, h17, hc16, hf⟩ := bnd_some hf
      refine z_callV (As := [.int p2]) (rest := []) (C := RX10) hx hb hml hown hL hK hM hS (kX10_passDays l G A V h14 p2 hc16) (zg_X10_passDays zw5_31) zv_X10_passDays ⟨rfl, rfl⟩ ⟨Nat.le_of_ble_eq_true rfl, Nat.le_of_ble_eq_true rfl⟩ (hM.recv hK dm_16 (ze_16 G V 0 0 h14) rfl) rfl hl.1 rfl (Nat.le_of_ble_eq_true rfl) dX10_feeIn_33 ⟨Nat.zero_le _, Nat.zero_le _⟩ (fun H locs hM hS => ?_)
      refine W.eq (g2 := F0 m 36 ls [.int r15]) rfl ?_
      refine lv_pop hx hb dX10_feeIn_36 rfl ?_
      refine lv_aload_n hx hb dX10_feeIn_37 rfl (lv_at hl 1 rfl) ?_
      refine lv_iload_n hx hb dX10_feeIn_38 rfl (lv_at hl 2 rfl) ?_
      refine lv_iconst (v := 3) hx hb dX10_feeIn_39 (by decide) ?_
      obtain ⟨r18, h20, hc19, hf⟩ := bnd_some hf
      refine z_callV (As := [.int p1, .int (3 : Int32)]) (rest := []) (C := RX10) hx hb hml hown hL hK hM hS (kX10_ofP l G A V h17 p1 (3 : Int32) hc19) (zg_X10_ofP zw4_147) zv_X10_ofP ⟨rfl, rfl⟩ ⟨Nat.le_of_ble_eq_true rfl, Nat.le_of_ble_eq_true rfl⟩ (hM.recv hK dm_16 (ze_16 G V 0 0 h17) rfl) rfl hl.1 rfl (Nat.le_of_ble_eq_true rfl) dX10_feeIn_40 ⟨Nat.zero_le _, Nat.zero_le _⟩ (fun H locs hM hS => ?_)
      refine W.eq (g2 := F0 m 43 ls [.int r18]) rfl ?_
      refine lv_iload_n hx hb dX10_feeIn_43 rfl (lv_at hl 0 rfl) ?_
      refine lv_isub hx hb dX10_feeIn_44 ?_
      refine lv_topi (fun y21 ey21 => ?_)
      replace hf := ltI_some hf ey21
      refine lv_istore (lv' := [(4, .int y21), (3, .int r12), (0, .ref (gA G 16 0 0)), (1, .int p1), (2, .int p2)]) hx hb dX10_feeIn_45 hl (by decide) rfl (fun ls hl => ?_)
      refine lv_aload_n hx hb dX10_feeIn_47 rfl (lv_at hl 2 rfl) ?_
      obtain ⟨r22, h24, hc23, hf⟩ := bnd_some hf
      refine z_callV (As := []) (rest := []) (C := RX10) hx hb hml hown hL hK hM hS (kX10_bringBack l G A V h20 hc23) (zg_X10_bringBack zw5_91) zv_X10_bringBack ⟨rfl, rfl⟩ ⟨Nat.le_of_ble_eq_true rfl, Nat.le_of_ble_eq_true rfl⟩ (hM.recv hK dm_16 (ze_16 G V 0 0 h20) rfl) rfl hl.1 rfl (Nat.le_of_ble_eq_true rfl) dX10_feeIn_48 ⟨Nat.zero_le _, Nat.zero_le _⟩ (fun H locs hM hS => ?_)
      refine W.eq (g2 := F0 m 51 ls []) rfl ?_
      refine lv_iload hx hb dX10_feeIn_51 (lv_at hl 0 rfl) ?_
      exact hQf hf hM hS dX10_feeIn_53
    · replace hf := ift hf c8
      refine lv_iconst (v := -1) hx hb dX10_feeIn_18 (by decide) ?_
      exact hQf hf hM hS dX10_feeIn_19
abbrev rX10_wouldHave : Room := { frames := 6, cells := 0, slots := 0, locals := 137 }
set_option maxRecDepth 100000 in
set_option maxHeartbeats 4000000 in
theorem kX10_wouldHave (l : Launch) (G : zG) (A : Nat → Prop) (V : zV3) (h : zV2) (p1 : Int32) {r : Int32} {h' : zV2} (hf : xX10_wouldHave h p1 = some (r, h')) : zCt l G A yX10_wouldHave cX10_wouldHave 3 (some .int) rX10_wouldHave [.ref (gA G 16 0 0), .int p1] (upG V 8 h) (some (.int r)) (upG V 8 h') := by
  refine z_CtI (by decide) (Nat.le_of_ble_eq_true rfl) ?_
  intro p e s m args below meth c Q hx hb hml hown hL hK hM hS hQ ls hl
  replace hl : lv_has ls 3 [(0, .ref (gA G 16 0 0)), (1, .int p1)] := hl
  have hQf : ∀ {a : Int32} {k : zV2} {H : Heap} {locs : List Loc} {pc : Nat} {ls : Array Slot}, some (a, k) = some (r, h') → zM G (upG V 8 k) H → va_S A s.heap H locs → decode cX10_wouldHave pc = .ok (.ireturn, 1) → W p l e rX10_wouldHave s m args below meth c H locs 0 0 Q (F0 m pc ls [.int a]) := by
    intro a k H locs pc ls e1 hM hS hd
    cases e1
    exact hQ H locs pc ls hM hS hd
  unfold xX10_wouldHave at hf
  refine lv_aload_n hx hb dX10_wouldHave_0 rfl (lv_at hl 0 rfl) ?_
  refine lv_iload_n hx hb dX10_wouldHave_1 rfl (lv_at hl 1 rfl) ?_
  obtain ⟨r1, h3, hc2, hf⟩ := bnd_some hf
  refine z_callV (As := [.int p1]) (rest := []) (C := RX10) hx hb hml hown hL hK hM hS (kX10_isPerson l G A V h p1 hc2) (zg_X10_isPerson zw4_143) zv_X10_isPerson ⟨rfl, rfl⟩ ⟨Nat.le_of_ble_eq_true rfl, Nat.le_of_ble_eq_true rfl⟩ (hM.recv hK dm_16 (ze_16 G V 0 0 h) rfl) rfl hl.1 rfl (Nat.le_of_ble_eq_true rfl) dX10_wouldHave_2 ⟨Nat.zero_le _, Nat.zero_le _⟩ (fun H locs hM hS => ?_)
  refine W.eq (g2 := F0 m 5 ls [.int r1]) rfl ?_
  refine lv_if_ne (tgt := 10) hx hb dX10_wouldHave_5 (by decide) (fun c4 => ?_) (fun c4 => ?_)
  · replace hf := iff_ hf c4
    refine lv_aload_n hx hb dX10_wouldHave_10 rfl (lv_at hl 0 rfl) ?_
    obtain ⟨r5, h7, hc6, hf⟩ := bnd_some hf
    refine z_callV (As := []) (rest := []) (C := RX10) hx hb hml hown hL hK hM hS (kX10_layAside l G A V h3 hc6) (zg_X10_layAside zw5_87) zv_X10_layAside ⟨rfl, rfl⟩ ⟨Nat.le_of_ble_eq_true rfl, Nat.le_of_ble_eq_true rfl⟩ (hM.recv hK dm_16 (ze_16 G V 0 0 h3) rfl) rfl hl.1 rfl (Nat.le_of_ble_eq_true rfl) dX10_wouldHave_11 ⟨Nat.zero_le _, Nat.zero_le _⟩ (fun H locs hM hS => ?_)
    refine W.eq (g2 := F0 m 14 ls []) rfl ?_
    refine lv_aload_n hx hb dX10_wouldHave_14 rfl (lv_at hl 0 rfl) ?_
    obtain ⟨r8, h10, hc9, hf⟩ := bnd_some hf
    refine z_callV (As := []) (rest := []) (C := RX10) hx hb hml hown hL hK hM hS (kX10_swaps l G A V h7 hc9) (zg_X10_swaps zw4_227) zv_X10_swaps ⟨rfl, rfl⟩ ⟨Nat.le_of_ble_eq_true rfl, Nat.le_of_ble_eq_true rfl⟩ (hM.recv hK dm_16 (ze_16 G V 0 0 h7) rfl) rfl hl.1 rfl (Nat.le_of_ble_eq_true rfl) dX10_wouldHave_15 ⟨Nat.zero_le _, Nat.zero_le _⟩ (fun H locs hM hS => ?_)
    refine W.eq (g2 := F0 m 18 ls [.int r8]) rfl ?_
    refine lv_pop hx hb dX10_wouldHave_18 rfl ?_
    refine lv_aload_n hx hb dX10_wouldHave_19 rfl (lv_at hl 0 rfl) ?_
    refine lv_iload_n hx hb dX10_wouldHave_20 rfl (lv_at hl 1 rfl) ?_
    refine lv_iconst (v := 0) hx hb dX10_wouldHave_21 (by decide) ?_
    obtain ⟨r11, h13, hc12, hf⟩ := bnd_some hf
    refine z_callV (As := [.int p1, .int (0 : Int32)]) (rest := []) (C := RX10) hx hb hml hown hL hK hM hS (kX10_ofP l G A V h10 p1 (0 : Int32) hc12) (zg_X10_ofP zw4_147) zv_X10_ofP ⟨rfl, rfl⟩ ⟨Nat.le_of_ble_eq_true rfl, Nat.le_of_ble_eq_true rfl⟩ (hM.recv hK dm_16 (ze_16 G V 0 0 h10) rfl) rfl hl.1 rfl (Nat.le_of_ble_eq_true rfl) dX10_wouldHave_22 ⟨Nat.zero_le _, Nat.zero_le _⟩ (fun H locs hM hS => ?_)
    refine W.eq (g2 := F0 m 25 ls [.int r11]) rfl ?_
    refine lv_istore_n (lv' := [(2, .int r11), (0, .ref (gA G 16 0 0)), (1, .int p1)]) hx hb dX10_wouldHave_25 rfl hl (by decide) rfl (fun ls hl => ?_)
    refine lv_aload_n hx hb dX10_wouldHave_26 rfl (lv_at hl 1 rfl) ?_
    obtain ⟨r14, h16, hc15, hf⟩ := bnd_some hf
    refine z_callV (As := []) (rest := []) (C := RX10) hx hb hml hown hL hK hM hS (kX10_bringBack l G A V h13 hc15) (zg_X10_bringBack zw5_91) zv_X10_bringBack ⟨rfl, rfl⟩ ⟨Nat.le_of_ble_eq_true rfl, Nat.le_of_ble_eq_true rfl⟩ (hM.recv hK dm_16 (ze_16 G V 0 0 h13) rfl) rfl hl.1 rfl (Nat.le_of_ble_eq_true rfl) dX10_wouldHave_27 ⟨Nat.zero_le _, Nat.zero_le _⟩ (fun H locs hM hS => ?_)
    refine W.eq (g2 := F0 m 30 ls []) rfl ?_
    refine lv_iload_n hx hb dX10_wouldHave_30 rfl (lv_at hl 0 rfl) ?_
    obtain ⟨r17, h19, hc18, hf⟩ := bnd_some hf
    refine z_callS (As := [.int r11]) (rest := []) hx hb hml hown hL hK hM hS (kX10_orNone l G A V h16 r11 hc18) (zg_X10_orNone zw5_60) zy_X10_orNone ⟨rfl, rfl⟩ ⟨Nat.le_of_ble_eq_true rfl, Nat.le_of_ble_eq_true rfl⟩ rfl hl.1 rfl (Nat.le_of_ble_eq_true rfl) dX10_wouldHave_31 ⟨Nat.zero_le _, Nat.zero_le _⟩ (fun H locs hM hS => ?_)
    refine W.eq (g2 := F0 m 34 ls [.int r17]) rfl ?_
    exact hQf hf hM hS dX10_wouldHave_34
  · replace hf := ift hf c4
    refine lv_iconst (v := -1) hx hb dX10_wouldHave_8 (by decide) ?_
    exact hQf hf hM hS dX10_wouldHave_9
abbrev rX10_undo : Room := { frames := 0, cells := 0, slots := 0, locals := 0 }
set_option maxRecDepth 100000 in
set_option maxHeartbeats 4000000 in
theorem kX10_undo (l : Launch) (G : zG) (A : Nat → Prop) (V : zV3) (h : zV2) {r : Int32} {h' : zV2} (hf : xX10_undo h  = some (r, h')) : zCt l G A yX10_undo cX10_undo 2 (some .int) rX10_undo [.ref (gA G 16 0 0)] (upG V 8 h) (some (.int r)) (upG V 8 h') := by
  refine z_CtI (by decide) (Nat.le_of_ble_eq_true rfl) ?_
  intro p e s m args below meth c Q hx hb hml hown hL hK hM hS hQ ls hl
  replace hl : lv_has ls 2 [(0, .ref (gA G 16 0 0))] := hl
  have hQf : ∀ {a : Int32} {k : zV2} {H : Heap} {locs : List Loc} {pc : Nat} {ls : Array Slot}, some (a, k) = some (r, h') → zM G (upG V 8 k) H → va_S A s.heap H locs → decode cX10_undo pc = .ok (.ireturn, 1) → W p l e rX10_undo s m args below meth c H locs 0 0 Q (F0 m pc ls [.int a]) := by
    intro a k H locs pc ls e1 hM hS hd
    cases e1
    exact hQ H locs pc ls hM hS hd
  have L22 : ∀ (n : Nat) (h : zV2) (a1 : Int32), xX10_undo_L22 n h a1 = some (r, h') → ∀ (H : Heap) (locs : List Loc) (ls : Array Slot), zM G (upG V 8 h) H → va_S A s.heap H locs → lv_has ls 2 [(0, .ref (gA G 16 0 0)), (1, .int a1)] → W p l e rX10_undo s m args below meth c H locs 0 0 Q (F0 m 22 ls []) := by
    intro n
    induction n with
    | zero =>
      intro h a1 hf H locs ls hM hS hl
      rw [xX10_undo_L22] at hf
      cases hf
    | succ n ih =>
      intro h a1 hf H locs ls hM hS hl
      rw [xX10_undo_L22] at hf
      refine lv_iload_n hx hb dX10_undo_22 rfl (lv_at hl 1 rfl) ?_
      refine lv_sipush (v := 193) hx hb dX10_undo_23 (by decide) ?_
      refine lv_icmp_ge (tgt := 56) hx hb dX10_undo_26 (by decide) (fun c1 => ?_) (fun c1 => ?_)
      · replace hf := ift hf c1
        refine lv_aload_n hx hb dX10_undo_56 rfl (lv_at hl 0 rfl) ?_
        refine z_get (own := RX10) (C := RX10) (T := TX10) (N := 12) (ci := 8) (v := .int (h 6 0)) hx hb hL inX10 hown hK hM dm_16 (ze_16 G V 0 0 h) rfl 4 (by decide) (hL _ zw4_23) rfl rfl dX10_undo_57 ?_
        exact hQf hf hM hS dX10_undo_60
      · replace hf := iff_ hf c1
        refine lv_aload_n hx hb dX10_undo_29 rfl (lv_at hl 0 rfl) ?_
        refine z_get (own := RX10) (C := RX10) (T := TX10) (N := 12) (ci := 8) (v := .ref (gA G 17 0 0)) hx hb hL inX10 hown hK hM dm_16 (ze_16 G V 0 0 h) rfl 0 (by decide) (hL _ zw4_19) rfl rfl dX10_undo_30 ?_
        refine lv_iload_n hx hb dX10_undo_33 rfl (lv_at hl 1 rfl) ?_
        refine lv_aload_n hx hb dX10_undo_34 rfl (lv_at hl 0 rfl) ?_
        refine z_get (own := RX10) (C := RX10) (T := TX10) (N := 12) (ci := 8) (v := .ref (gA G 17 0 3)) hx hb hL inX10 hown hK hM dm_16 (ze_16 G V 0 0 h) rfl 3 (by decide) (hL _ zw4_22) rfl rfl dX10_undo_35 ?_
        refine lv_sipush (v := 193) hx hb dX10_undo_38 (by decide) ?_
        refine lv_aload_n hx hb dX10_undo_41 rfl (lv_at hl 0 rfl) ?_
        refine z_get (own := RX10) (C := RX10) (T := TX10) (N := 12) (ci := 8) (v := .int (h 6 0)) hx hb hL inX10 hown hK hM dm_16 (ze_16 G V 0 0 h) rfl 4 (by decide) (hL _ zw4_23) rfl rfl dX10_undo_42 ?_
        refine lv_imul hx hb dX10_undo_45 ?_
        refine lv_iload_n hx hb dX10_undo_46 rfl (lv_at hl 1 rfl) ?_
        refine lv_iadd hx hb dX10_undo_47 ?_
        obtain ⟨hb2, hf⟩ := grd_some hf
        refine z_iald hx hb hK hM (dm_17 (i := 3) (by decide)) (ze_17_3 G V h) (inb_in hb2) dX10_undo_48 ?_
        obtain ⟨hb3, hf⟩ := grd_some hf
        obtain ⟨h4, eh4⟩ : ∃ y, y = up2 h 0 a1.toNatClampNeg (h 3 ((((193 : Int32) * (h 6 0)) + a1).toNatClampNeg)) := ⟨_, rfl⟩
        replace hf := put2_some hf eh4
        refine z_iast (V' := upG V 8 h4) hx hb hK hM hS (dm_17 (i := 0) (by decide)) (ze_17_0 G V h) (inb_in hb3) (by rw [eh4]; exact zn_17_0 G V h a1.toNatClampNeg (h 3 ((((193 : Int32) * (h 6 0)) + a1).toNatClampNeg))) dX10_undo_49 (fun H locs hM hS => ?_)
        obtain ⟨y5, ey5⟩ : ∃ y : Int32, y = a1 + (1 : Int32) := ⟨_, rfl⟩
        replace hf := ltI_some hf ey5
        refine lv_iinc (v := y5) (lv' := [(1, .int y5), (0, .ref (gA G 16 0 0))]) hx hb dX10_undo_50 hl (k := 1) rfl (by rw [ey5]; rfl) (by decide) rfl (fun ls hl => ?_)
        refine lv_goto (tgt := 22) hx hb dX10_undo_53 (by decide) ?_
        exact ih h4 y5 hf _ _ _ hM hS (lv_sub hl [1, 0] rfl)
  unfold xX10_undo at hf
  refine lv_aload_n hx hb dX10_undo_0 rfl (lv_at hl 0 rfl) ?_
  refine z_get (own := RX10) (C := RX10) (T := TX10) (N := 12) (ci := 8) (v := .int (h 6 0)) hx hb hL inX10 hown hK hM dm_16 (ze_16 G V 0 0 h) rfl 4 (by decide) (hL _ zw4_23) rfl rfl dX10_undo_1 ?_
  refine lv_if_ne (tgt := 10) hx hb dX10_undo_4 (by decide) (fun c1 => ?_) (fun c1 => ?_)
  · replace hf := iff_ hf c1
    refine lv_aload_n hx hb dX10_undo_10 rfl (lv_at hl 0 rfl) ?_
    refine lv_dup hx hb dX10_undo_11 rfl ?_
    refine z_get (own := RX10) (C := RX10) (T := TX10) (N := 12) (ci := 8) (v := .int (h 6 0)) hx hb hL inX10 hown hK hM dm_16 (ze_16 G V 0 0 h) rfl 4 (by decide) (hL _ zw4_23) rfl rfl dX10_undo_12 ?_
    refine lv_iconst (v := 1) hx hb dX10_undo_15 (by decide) ?_
    refine lv_isub hx hb dX10_undo_16 ?_
    obtain ⟨h2, eh2⟩ : ∃ y, y = up2 h 6 0 ((h 6 0) - (1 : Int32)) := ⟨_, rfl⟩
    replace hf := put2_some hf eh2
    refine z_put (own := RX10) (C := RX10) (T := TX10) (N := 12) (ci := 8) (V' := upG V 8 h2) hx hb hL inX10 tyX10 tyX10_ok nmX10 hown hK hM hS dm_16 (ze_16 G V 0 0 h) rfl 4 (by decide) (hL _ zw4_23) rfl rfl rfl rfl (Nat.le_of_ble_eq_true rfl) (by rw [eh2]; exact zn_16_6 G V h ((h 6 0) - (1 : Int32))) dX10_undo_17 (fun H locs hM hS => ?_)
    refine lv_iconst (v := 0) hx hb dX10_undo_20 (by decide) ?_
    refine lv_istore_n (lv' := [(1, .int (0 : Int32)), (0, .ref (gA G 16 0 0))]) hx hb dX10_undo_21 rfl hl (by decide) rfl (fun ls hl => ?_)
    exact L22 1000 h2 (0 : Int32) hf _ _ _ hM hS (lv_sub hl [1, 0] rfl)
  · replace hf := ift hf c1
    refine lv_bipush (v := -2) hx hb dX10_undo_7 (by decide) ?_
    exact hQf hf hM hS dX10_undo_9
abbrev rX10_type : Room := { frames := 1, cells := 0, slots := 0, locals := 22 }
set_option maxRecDepth 100000 in
set_option maxHeartbeats 4000000 in
theorem kX10_type (l : Launch) (G : zG) (A : Nat → Prop) (V : zV3) (h : zV2) (p1 : Int32) {r : Int32} {h' : zV2} (hf : xX10_type h p1 = some (r, h')) : zCt l G A yX10_type cX10_type 2 (some .int) rX10_type [.ref (gA G 16 0 0), .int p1] (upG V 8 h) (some (.int r)) (upG V 8 h') := by
  refine z_CtI (by decide) (Nat.le_of_ble_eq_true rfl) ?_
  intro p e s m args below meth c Q hx hb hml hown hL hK hM hS hQ ls hl
  replace hl : lv_has ls 2 [(0, .ref (gA G 16 0 0)), (1, .int p1)] := hl
  have hQf : ∀ {a : Int32} {k : zV2} {H : Heap} {locs : List Loc} {pc : Nat} {ls : Array Slot}, some (a, k) = some (r, h') → zM G (upG V 8 k) H → va_S A s.heap H locs → decode cX10_type pc = .ok (.ireturn, 1) → W p l e rX10_type s m args below meth c H locs 0 0 Q (F0 m pc ls [.int a]) := by
    intro a k H locs pc ls e1 hM hS hd
    cases e1
    exact hQ H locs pc ls hM hS hd
  unfold xX10_type at hf
  refine lv_iload_n hx hb dX10_type_0 rfl (lv_at hl 1 rfl) ?_
  refine lv_bipush (v := 32) hx hb dX10_type_1 (by decide) ?_
  refine lv_bipush (v := 126) hx hb dX10_type_3 (by decide) ?_
  obtain ⟨r1, h3, hc2, hf⟩ := bnd_some hf
  refine z_callS (As := [.int p1, .int (32 : Int32), .int (126 : Int32)]) (rest := []) hx hb hml hown hL hK hM hS (kX10_in l G A V h p1 (32 : Int32) (126 : Int32) hc2) (zg_X10_in zw4_68) zy_X10_in ⟨rfl, rfl⟩ ⟨Nat.le_of_ble_eq_true rfl, Nat.le_of_ble_eq_true rfl⟩ rfl hl.1 rfl (Nat.le_of_ble_eq_true rfl) dX10_type_5 ⟨Nat.zero_le _, Nat.zero_le _⟩ (fun H locs hM hS => ?_)
  refine W.eq (g2 := F0 m 8 ls [.int r1]) rfl ?_
  refine lv_if_ne (tgt := 13) hx hb dX10_type_8 (by decide) (fun c4 => ?_) (fun c4 => ?_)
  · replace hf := iff_ hf c4
    refine lv_aload_n hx hb dX10_type_13 rfl (lv_at hl 0 rfl) ?_
    refine z_get (own := RX10) (C := RX10) (T := TX10) (N := 12) (ci := 8) (v := .int (h3 7 0)) hx hb hL inX10 hown hK hM dm_16 (ze_16 G V 0 0 h3) rfl 6 (by decide) (hL _ zw4_25) rfl rfl dX10_type_14 ?_
    refine lv_bipush (v := 80) hx hb dX10_type_17 (by decide) ?_
    refine lv_icmp_ne (tgt := 25) hx hb dX10_type_19 (by decide) (fun c5 => ?_) (fun c5 => ?_)
    · replace hf := iff_ hf c5
      refine lv_aload_n hx hb dX10_type_25 rfl (lv_at hl 0 rfl) ?_
      refine z_get (own := RX10) (C := RX10) (T := TX10) (N := 12) (ci := 8) (v := .ref (gA G 17 0 4)) hx hb hL inX10 hown hK hM dm_16 (ze_16 G V 0 0 h3) rfl 5 (by decide) (hL _ zw4_24) rfl rfl dX10_type_26 ?_
      refine lv_aload_n hx hb dX10_type_29 rfl (lv_at hl 0 rfl) ?_
      refine z_get (own := RX10) (C := RX10) (T := TX10) (N := 12) (ci := 8) (v := .int (h3 7 0)) hx hb hL inX10 hown hK hM dm_16 (ze_16 G V 0 0 h3) rfl 6 (by decide) (hL _ zw4_25) rfl rfl dX10_type_30 ?_
      refine lv_iload_n hx hb dX10_type_33 rfl (lv_at hl 1 rfl) ?_
      obtain ⟨hb6, hf⟩ := grd_some hf
      obtain ⟨h7, eh7⟩ : ∃ y, y = up2 h3 4 ((h3 7 0).toNatClampNeg) p1 := ⟨_, rfl⟩
      replace hf := put2_some hf eh7
      refine z_iast (V' := upG V 8 h7) hx hb hK hM hS (dm_17 (i := 4) (by decide)) (ze_17_4 G V h3) (inb_in hb6) (by rw [eh7]; exact zn_17_4 G V h3 ((h3 7 0).toNatClampNeg) p1) dX10_type_34 (fun H locs hM hS => ?_)
      refine lv_aload_n hx hb dX10_type_35 rfl (lv_at hl 0 rfl) ?_
      refine lv_dup hx hb dX10_type_36 rfl ?_
      refine z_get (own := RX10) (C := RX10) (T := TX10) (N := 12) (ci := 8) (v := .int (h7 7 0)) hx hb hL inX10 hown hK hM dm_16 (ze_16 G V 0 0 h7) rfl 6 (by decide) (hL _ zw4_25) rfl rfl dX10_type_37 ?_
      refine lv_iconst (v := 1) hx hb dX10_type_40 (by decide) ?_
      refine lv_iadd hx hb dX10_type_41 ?_
      obtain ⟨h8, eh8⟩ : ∃ y, y = up2 h7 7 0 ((h7 7 0) + (1 : Int32)) := ⟨_, rfl⟩
      replace hf := put2_some hf eh8
      refine z_put (own := RX10) (C := RX10) (T := TX10) (N := 12) (ci := 8) (V' := upG V 8 h8) hx hb hL inX10 tyX10 tyX10_ok nmX10 hown hK hM hS dm_16 (ze_16 G V 0 0 h7) rfl 6 (by decide) (hL _ zw4_25) rfl rfl rfl rfl (Nat.le_of_ble_eq_true rfl) (by rw [eh8]; exact zn_16_7 G V h7 ((h7 7 0) + (1 : Int32))) dX10_type_42 (fun H locs hM hS => ?_)
      refine lv_aload_n hx hb dX10_type_45 rfl (lv_at hl 0 rfl) ?_
      refine z_get (own := RX10) (C := RX10) (T := TX10) (N := 12) (ci := 8) (v := .int (h8 7 0)) hx hb hL inX10 hown hK hM dm_16 (ze_16 G V 0 0 h8) rfl 6 (by decide) (hL _ zw4_25) rfl rfl dX10_type_46 ?_
      exact hQf hf hM hS dX10_type_49
    · replace hf := ift hf c5
      refine lv_bipush (v := -3) hx hb dX10_type_22 (by decide) ?_
      exact hQf hf hM hS dX10_type_24
  · replace hf := ift hf c4
    refine lv_iconst (v := -1) hx hb dX10_type_11 (by decide) ?_
    exact hQf hf hM hS dX10_type_12
abbrev rX10_clearText : Room := { frames := 0, cells := 0, slots := 0, locals := 0 }
set_option maxRecDepth 100000 in
set_option maxHeartbeats 4000000 in
theorem kX10_clearText (l : Launch) (G : zG) (A : Nat → Prop) (V : zV3) (h : zV2) {r : Int32} {h' : zV2} (hf : xX10_clearText h  = some (r, h')) : zCt l G A yX10_clearText cX10_clearText 2 (some .int) rX10_clearText [.ref (gA G 16 0 0)] (upG V 8 h) (some (.int r)) (upG V 8 h') := by
  refine z_CtI (by decide) (Nat.le_of_ble_eq_true rfl) ?_
  intro p e s m args below meth c Q hx hb hml hown hL hK hM hS hQ ls hl
  replace hl : lv_has ls 2 [(0, .ref (gA G 16 0 0))] := hl
  have hQf : ∀ {a : Int32} {k : zV2} {H : Heap} {locs : List Loc} {pc : Nat} {ls : Array Slot}, some (a, k) = some (r, h') → zM G (upG V 8 k) H → va_S A s.heap H locs → decode cX10_clearText pc = .ok (.ireturn, 1) → W p l e rX10_clearText s m args below meth c H locs 0 0 Q (F0 m pc ls [.int a]) := by
    intro a k H locs pc ls e1 hM hS hd
    cases e1
    exact hQ H locs pc ls hM hS hd
  unfold xX10_clearText at hf
  refine lv_aload_n hx hb dX10_clearText_0 rfl (lv_at hl 0 rfl) ?_
  refine z_get (own := RX10) (C := RX10) (T := TX10) (N := 12) (ci := 8) (v := .int (h 7 0)) hx hb hL inX10 hown hK hM dm_16 (ze_16 G V 0 0 h) rfl 6 (by decide) (hL _ zw4_25) rfl rfl dX10_clearText_1 ?_
  refine lv_topi (fun y1 ey1 => ?_)
  replace hf := ltI_some hf ey1
  refine lv_istore_n (lv' := [(1, .int y1), (0, .ref (gA G 16 0 0))]) hx hb dX10_clearText_4 rfl hl (by decide) rfl (fun ls hl => ?_)
  refine lv_aload_n hx hb dX10_clearText_5 rfl (lv_at hl 1 rfl) ?_
  refine lv_iconst (v := 0) hx hb dX10_clearText_6 (by decide) ?_
  obtain ⟨h2, eh2⟩ : ∃ y, y = up2 h 7 0 (0 : Int32) := ⟨_, rfl⟩
  replace hf := put2_some hf eh2
  refine z_put (own := RX10) (C := RX10) (T := TX10) (N := 12) (ci := 8) (V' := upG V 8 h2) hx hb hL inX10 tyX10 tyX10_ok nmX10 hown hK hM hS dm_16 (ze_16 G V 0 0 h) rfl 6 (by decide) (hL _ zw4_25) rfl rfl rfl rfl (Nat.le_of_ble_eq_true rfl) (by rw [eh2]; exact zn_16_7 G V h (0 : Int32)) dX10_clearText_7 (fun H locs hM hS => ?_)
  refine lv_iload_n hx hb dX10_clearText_10 rfl (lv_at hl 0 rfl) ?_
  exact hQf hf hM hS dX10_clearText_11
