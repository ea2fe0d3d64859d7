abbrev rX10_feeOf : Room := { frames := 0, cells := 0, slots := 0, locals := 0 }
set_option maxRecDepth 100000 in
set_option maxHeartbeats 4000000 in
theorem kX10_feeOf (l : Launch) (G : zG) (A : Nat → Prop) (V : zV3) (h : zV2) (p1 : Int32) (p2 : Int32) {r : Int32} {h' : zV2} (hf : xX10_feeOf h p1 p2 = some (r, h')) : zCt l G A yX10_feeOf cX10_feeOf 2 (some .int) rX10_feeOf [.int p1, .int p2] (upG V 8 h) (some (.int r)) (upG V 8 h') := by
  refine z_CtI (by decide) (Nat.le_of_ble_eq_true rfl) ?_
  intro p e s m args below meth c Q hx hb hml hown hL hK hM hS hQ ls hl
  replace hl : lv_has ls 2 [(0, .int p1), (1, .int p2)] := hl
  have hQf : ∀ {a : Int32} {k : zV2} {H : Heap} {locs : List Loc} {pc : Nat} {ls : Array Slot}, some (a, k) = some (r, h') → zM G (upG V 8 k) H → va_S A s.heap H locs → decode cX10_feeOf pc = .ok (.ireturn, 1) → W p l e rX10_feeOf s m args below meth c H locs 0 0 Q (F0 m pc ls [.int a]) := by
    intro a k H locs pc ls e1 hM hS hd
    cases e1
    exact hQ H locs pc ls hM hS hd
  unfold xX10_feeOf at hf
  refine lv_iload_n hx hb dX10_feeOf_0 rfl (lv_at hl 0 rfl) ?_
  refine lv_bipush (v := 7) hx hb dX10_feeOf_1 (by decide) ?_
  refine lv_icmp_gt (tgt := 10) hx hb dX10_feeOf_3 (by decide) (fun c1 => ?_) (fun c1 => ?_)
  · replace hf := ift hf c1
    refine lv_iload_n hx hb dX10_feeOf_10 rfl (lv_at hl 0 rfl) ?_
    refine lv_bipush (v := 14) hx hb dX10_feeOf_11 (by decide) ?_
    refine lv_icmp_gt (tgt := 20) hx hb dX10_feeOf_13 (by decide) (fun c2 => ?_) (fun c2 => ?_)
    · replace hf := ift hf c2
      refine lv_iconst (v := 4) hx hb dX10_feeOf_20 (by decide) ?_
      refine lv_iload_n hx hb dX10_feeOf_21 rfl (lv_at hl 1 rfl) ?_
      refine lv_iconst (v := 1) hx hb dX10_feeOf_22 (by decide) ?_
      refine lv_iadd hx hb dX10_feeOf_23 ?_
      refine lv_imul hx hb dX10_feeOf_24 ?_
      exact hQf hf hM hS dX10_feeOf_25
    · replace hf := iff_ hf c2
      refine lv_iconst (v := 2) hx hb dX10_feeOf_16 (by decide) ?_
      refine lv_goto (tgt := 21) hx hb dX10_feeOf_17 (by decide) ?_
      refine lv_iload_n hx hb dX10_feeOf_21 rfl (lv_at hl 1 rfl) ?_
      refine lv_iconst (v := 1) hx hb dX10_feeOf_22 (by decide) ?_
      refine lv_iadd hx hb dX10_feeOf_23 ?_
      refine lv_imul hx hb dX10_feeOf_24 ?_
      exact hQf hf hM hS dX10_feeOf_25
  · replace hf := iff_ hf c1
    refine lv_iconst (v := 1) hx hb dX10_feeOf_6 (by decide) ?_
    refine lv_goto (tgt := 21) hx hb dX10_feeOf_7 (by decide) ?_
    refine lv_iload_n hx hb dX10_feeOf_21 rfl (lv_at hl 1 rfl) ?_
    refine lv_iconst (v := 1) hx hb dX10_feeOf_22 (by decide) ?_
    refine lv_iadd hx hb dX10_feeOf_23 ?_
    refine lv_imul hx hb dX10_feeOf_24 ?_
    exact hQf hf hM hS dX10_feeOf_25
abbrev rX10_dayPasses : Room := { frames := 4, cells := 0, slots := 0, locals := 90 }
set_option maxRecDepth 100000 in
set_option maxHeartbeats 4000000 in
theorem kX10_dayPasses (l : Launch) (G : zG) (A : Nat → Prop) (V : zV3) (h : zV2) {r : Int32} {h' : zV2} (hf : xX10_dayPasses h  = some (r, h')) : zCt l G A yX10_dayPasses cX10_dayPasses 4 (some .int) rX10_dayPasses [.ref (gA G 16 0 0)] (upG V 8 h) (some (.int r)) (upG V 8 h') := by
  refine z_CtI (by decide) (Nat.le_of_ble_eq_true rfl) ?_
  intro p e s m args below meth c Q hx hb hml hown hL hK hM hS hQ ls hl
  replace hl : lv_has ls 4 [(0, .ref (gA G 16 0 0))] := hl
  have hQf : ∀ {a : Int32} {k : zV2} {H : Heap} {locs : List Loc} {pc : Nat} {ls : Array Slot}, some (a, k) = some (r, h') → zM G (upG V 8 k) H → va_S A s.heap H locs → decode cX10_dayPasses pc = .ok (.ireturn, 1) → W p l e rX10_dayPasses s m args below meth c H locs 0 0 Q (F0 m pc ls [.int a]) := by
    intro a k H locs pc ls e1 hM hS hd
    cases e1
    exact hQ H locs pc ls hM hS hd
  have L112 : ∀ (K59 : zV2 → Int32 → Int32 → Option (Int32 × zV2)), (∀ (h : zV2) (a1 : Int32) (a2 : Int32), K59 h a1 a2 = some (r, h') → ∀ (H : Heap) (locs : List Loc) (ls : Array Slot), zM G (upG V 8 h) H → va_S A s.heap H locs → lv_has ls 4 [(0, .ref (gA G 16 0 0)), (1, .int a1), (2, .int a2)] → W p l e rX10_dayPasses s m args below meth c H locs 0 0 Q (F0 m 59 ls [])) → ∀ (h : zV2) (a1 : Int32) (a2 : Int32) (a3 : Int32), xX10_dayPasses_L112 K59 h a1 a2 a3 = some (r, h') → ∀ (H : Heap) (locs : List Loc) (ls : Array Slot), zM G (upG V 8 h) H → va_S A s.heap H locs → lv_has ls 4 [(0, .ref (gA G 16 0 0)), (1, .int a1), (2, .int a2), (3, .int a3)] → W p l e rX10_dayPasses s m args below meth c H locs 0 0 Q (F0 m 112 ls []) := by
    intro K59 hK59 h a1 a2 a3 hf H locs ls hM hS hl
    unfold xX10_dayPasses_L112 at hf
    refine lv_iload_n hx hb dX10_dayPasses_112 rfl (lv_at hl 3 rfl) ?_
    refine lv_bipush (v := 21) hx hb dX10_dayPasses_113 (by decide) ?_
    refine lv_icmp_ne (tgt := 157) hx hb dX10_dayPasses_115 (by decide) (fun c1 => ?_) (fun c1 => ?_)
    · replace hf := iff_ hf c1
      obtain ⟨y2, ey2⟩ : ∃ y : Int32, y = a2 + (1 : Int32) := ⟨_, rfl⟩
      replace hf := ltI_some hf ey2
      refine lv_iinc (v := y2) (lv' := [(2, .int y2), (0, .ref (gA G 16 0 0)), (1, .int a1), (3, .int a3)]) hx hb dX10_dayPasses_157 hl (k := 2) rfl (by rw [ey2]; rfl) (by decide) rfl (fun ls hl => ?_)
      refine lv_goto (tgt := 59) hx hb dX10_dayPasses_160 (by decide) ?_
      exact hK59 h a1 y2 hf _ _ _ hM hS (lv_sub hl [1, 2, 0] rfl)
    · replace hf := ift hf c1
      refine lv_aload_n hx hb dX10_dayPasses_118 rfl (lv_at hl 0 rfl) ?_
      refine lv_iload_n hx hb dX10_dayPasses_119 rfl (lv_at hl 2 rfl) ?_
      refine lv_aload_n hx hb dX10_dayPasses_120 rfl (lv_at hl 0 rfl) ?_
      refine z_get (own := RX10) (C := RX10) (T := TX10) (N := 12) (ci := 8) (v := .ref (gA G 17 0 0)) hx hb hL inX10 hown hK hM dm_16 (ze_16 G V 0 0 h) rfl 0 (by decide) (hL _ zw4_19) rfl rfl dX10_dayPasses_121 ?_
      refine lv_iconst (v := 2) hx hb dX10_dayPasses_124 (by decide) ?_
      obtain ⟨hb3, hf⟩ := grd_some hf
      refine z_iald hx hb hK hM (dm_17 (i := 0) (by decide)) (ze_17_0 G V h) (inb_in hb3) dX10_dayPasses_125 ?_
      obtain ⟨r4, h6, hc5, hf⟩ := bnd_some hf
      refine z_callV (As := [.int a2, .int (h 0 ((2 : Int32).toNatClampNeg))]) (rest := []) (C := RX10) hx hb hml hown hL hK hM hS (kX10_owes l G A V h a2 (h 0 ((2 : Int32).toNatClampNeg)) hc5) (zg_X10_owes zw4_199) zv_X10_owes ⟨rfl, rfl⟩ ⟨Nat.le_of_ble_eq_true rfl, Nat.le_of_ble_eq_true rfl⟩ (hM.recv hK dm_16 (ze_16 G V 0 0 h) rfl) rfl hl.1 rfl (Nat.le_of_ble_eq_true rfl) dX10_dayPasses_126 ⟨Nat.zero_le _, Nat.zero_le _⟩ (fun H locs hM hS => ?_)
      refine W.eq (g2 := F0 m 129 ls []) rfl ?_
      refine lv_aload_n hx hb dX10_dayPasses_129 rfl (lv_at hl 0 rfl) ?_
      refine lv_iload_n hx hb dX10_dayPasses_130 rfl (lv_at hl 2 rfl) ?_
      refine lv_bipush (v := 7) hx hb dX10_dayPasses_131 (by decide) ?_
      refine lv_aload_n hx hb dX10_dayPasses_133 rfl (lv_at hl 0 rfl) ?_
      refine lv_iload_n hx hb dX10_dayPasses_134 rfl (lv_at hl 2 rfl) ?_
      refine lv_bipush (v := 7) hx hb dX10_dayPasses_135 (by decide) ?_
      obtain ⟨r7, h9, hc8, hf⟩ := bnd_some hf
      refine z_callV (As := [.int a2, .int (7 : Int32)]) (rest := [.int (7 : Int32), .int a2, .ref (gA G 16 0 0)]) (C := RX10) hx hb hml hown hL hK hM hS (kX10_ofP l G A V h6 a2 (7 : Int32) hc8) (zg_X10_ofP zw4_147) zv_X10_ofP ⟨rfl, rfl⟩ ⟨Nat.le_of_ble_eq_true rfl, Nat.le_of_ble_eq_true rfl⟩ (hM.recv hK dm_16 (ze_16 G V 0 0 h6) rfl) rfl hl.1 rfl (Nat.le_of_ble_eq_true rfl) dX10_dayPasses_137 ⟨Nat.zero_le _, Nat.zero_le _⟩ (fun H locs hM hS => ?_)
      refine W.eq (g2 := F0 m 140 ls [.int r7, .int (7 : Int32), .int a2, .ref (gA G 16 0 0)]) rfl ?_
      refine lv_iconst (v := 1) hx hb dX10_dayPasses_140 (by decide) ?_
      refine lv_iadd hx hb dX10_dayPasses_141 ?_
      obtain ⟨r10, h12, hc11, hf⟩ := bnd_some hf
      refine z_callV (As := [.int a2, .int (7 : Int32), .int (r7 + (1 : Int32))]) (rest := []) (C := RX10) hx hb hml hown hL hK hM hS (kX10_layP l G A V h9 a2 (7 : Int32) (r7 + (1 : Int32)) hc11) (zg_X10_layP zw4_87) zv_X10_layP ⟨rfl, rfl⟩ ⟨Nat.le_of_ble_eq_true rfl, Nat.le_of_ble_eq_true rfl⟩ (hM.recv hK dm_16 (ze_16 G V 0 0 h9) rfl) rfl hl.1 rfl (Nat.le_of_ble_eq_true rfl) dX10_dayPasses_142 ⟨Nat.zero_le _, Nat.zero_le _⟩ (fun H locs hM hS => ?_)
      refine W.eq (g2 := F0 m 145 ls []) rfl ?_
      refine lv_aload_n hx hb dX10_dayPasses_145 rfl (lv_at hl 0 rfl) ?_
      refine lv_aload_n hx hb dX10_dayPasses_146 rfl (lv_at hl 0 rfl) ?_
      refine lv_iload_n hx hb dX10_dayPasses_147 rfl (lv_at hl 2 rfl) ?_
      obtain ⟨r13, h15, hc14, hf⟩ := bnd_some hf
      refine z_callV (As := [.int a2]) (rest := [.ref (gA G 16 0 0)]) (C := RX10) hx hb hml hown hL hK hM hS (kX10_endsLoan l G A V h12 a2 hc14) (zg_X10_endsLoan zw4_175) zv_X10_endsLoan ⟨rfl, rfl⟩ ⟨Nat.le_of_ble_eq_true rfl, Nat.le_of_ble_eq_true rfl⟩ (hM.recv hK dm_16 (ze_16 G V 0 0 h12) rfl) rfl hl.1 rfl (Nat.le_of_ble_eq_true rfl) dX10_dayPasses_148 ⟨Nat.zero_le _, Nat.zero_le _⟩ (fun H locs hM hS => ?_)
      refine W.eq (g2 := F0 m 151 ls [.int r13, .ref (gA G 16 0 0)]) rfl ?_
      obtain ⟨r16, h18, hc17, hf⟩ := bnd_some hf
      refine z_callV (As := [.int r13]) (rest := []) (C := RX10) hx hb hml hown hL hK hM hS (kX10_frees l G A V h15 r13 hc17) (zg_X10_frees zw4_111) zv_X10_frees ⟨rfl, rfl⟩ ⟨Nat.le_of_ble_eq_true rfl, Nat.le_of_ble_eq_true rfl⟩ (hM.recv hK dm_16 (ze_16 G V 0 0 h15) rfl) rfl hl.1 rfl (Nat.le_of_ble_eq_true rfl) dX10_dayPasses_151 ⟨Nat.zero_le _, Nat.zero_le _⟩ (fun H locs hM hS => ?_)
      refine W.eq (g2 := F0 m 154 ls []) rfl ?_
      obtain ⟨y19, ey19⟩ : ∃ y : Int32, y = a1 + (1 : Int32) := ⟨_, rfl⟩
      replace hf := ltI_some hf ey19
      refine lv_iinc (v := y19) (lv' := [(1, .int y19), (0, .ref (gA G 16 0 0)), (2, .int a2), (3, .int a3)]) hx hb dX10_dayPasses_154 hl (k := 1) rfl (by rw [ey19]; rfl) (by decide) rfl (fun ls hl => ?_)
      obtain ⟨y20, ey20⟩ : ∃ y : Int32, y = a2 + (1 : Int32) := ⟨_, rfl⟩
      replace hf := ltI_some hf ey20
      refine lv_iinc (v := y20) (lv' := [(2, .int y20), (1, .int y19), (0, .ref (gA G 16 0 0)), (3, .int a3)]) hx hb dX10_dayPasses_157 hl (k := 2) rfl (by rw [ey20]; rfl) (by decide) rfl (fun ls hl => ?_)
      refine lv_goto (tgt := 59) hx hb dX10_dayPasses_160 (by decide) ?_
      exact hK59 h18 y19 y20 hf _ _ _ hM hS (lv_sub hl [2, 1, 0] rfl)
  have L87 : ∀ (K59 : zV2 → Int32 → Int32 → Option (Int32 × zV2)), (∀ (h : zV2) (a1 : Int32) (a2 : Int32), K59 h a1 a2 = some (r, h') → ∀ (H : Heap) (locs : List Loc) (ls : Array Slot), zM G (upG V 8 h) H → va_S A s.heap H locs → lv_has ls 4 [(0, .ref (gA G 16 0 0)), (1, .int a1), (2, .int a2)] → W p l e rX10_dayPasses s m args below meth c H locs 0 0 Q (F0 m 59 ls [])) → ∀ (h : zV2) (a1 : Int32) (a2 : Int32) (s0 : Int32), xX10_dayPasses_L87 K59 h a1 a2 s0 = some (r, h') → ∀ (H : Heap) (locs : List Loc) (ls : Array Slot), zM G (upG V 8 h) H → va_S A s.heap H locs → lv_has ls 4 [(0, .ref (gA G 16 0 0)), (1, .int a1), (2, .int a2)] → W p l e rX10_dayPasses s m args below meth c H locs 0 0 Q (F0 m 87 ls [.int s0]) := by
    intro K59 hK59 h a1 a2 s0 hf H locs ls hM hS hl
    unfold xX10_dayPasses_L87 at hf
    refine lv_istore_n (lv' := [(3, .int s0), (0, .ref (gA G 16 0 0)), (1, .int a1), (2, .int a2)]) hx hb dX10_dayPasses_87 rfl hl (by decide) rfl (fun ls hl => ?_)
    refine lv_iload_n hx hb dX10_dayPasses_88 rfl (lv_at hl 0 rfl) ?_
    refine lv_if_le (tgt := 112) hx hb dX10_dayPasses_89 (by decide) (fun c1 => ?_) (fun c1 => ?_)
    · replace hf := ift hf c1
      exact L112 K59 hK59 h a1 a2 s0 hf _ _ _ hM hS (lv_sub hl [1, 2, 3, 0] rfl)
    · replace hf := iff_ hf c1
      refine lv_aload_n hx hb dX10_dayPasses_92 rfl (lv_at hl 1 rfl) ?_
      refine lv_iload_n hx hb dX10_dayPasses_93 rfl (lv_at hl 3 rfl) ?_
      refine lv_iload_n hx hb dX10_dayPasses_94 rfl (lv_at hl 0 rfl) ?_
      refine lv_aload_n hx hb dX10_dayPasses_95 rfl (lv_at hl 1 rfl) ?_
      refine lv_aload_n hx hb dX10_dayPasses_96 rfl (lv_at hl 1 rfl) ?_
      refine lv_iload_n hx hb dX10_dayPasses_97 rfl (lv_at hl 3 rfl) ?_
      refine lv_iconst (v := 0) hx hb dX10_dayPasses_98 (by decide) ?_
      obtain ⟨r2, h4, hc3, hf⟩ := bnd_some hf
      refine z_callV (As := [.int a2, .int (0 : Int32)]) (rest := [.ref (gA G 16 0 0), .int s0, .int a2, .ref (gA G 16 0 0)]) (C := RX10) hx hb hml hown hL hK hM hS (kX10_ofP l G A V h a2 (0 : Int32) hc3) (zg_X10_ofP zw4_147) zv_X10_ofP ⟨rfl, rfl⟩ ⟨Nat.le_of_ble_eq_true rfl, Nat.le_of_ble_eq_true rfl⟩ (hM.recv hK dm_16 (ze_16 G V 0 0 h) rfl) rfl hl.1 rfl (Nat.le_of_ble_eq_true rfl) dX10_dayPasses_99 ⟨Nat.zero_le _, Nat.zero_le _⟩ (fun H locs hM hS => ?_)
      refine W.eq (g2 := F0 m 102 ls [.int r2, .ref (gA G 16 0 0), .int s0, .int a2, .ref (gA G 16 0 0)]) rfl ?_
      refine lv_iconst (v := 0) hx hb dX10_dayPasses_102 (by decide) ?_
      obtain ⟨r5, h7, hc6, hf⟩ := bnd_some hf
      refine z_callV (As := [.int r2, .int (0 : Int32)]) (rest := [.int s0, .int a2, .ref (gA G 16 0 0)]) (C := RX10) hx hb hml hown hL hK hM hS (kX10_of l G A V h4 r2 (0 : Int32) hc6) (zg_X10_of zw4_103) zv_X10_of ⟨rfl, rfl⟩ ⟨Nat.le_of_ble_eq_true rfl, Nat.le_of_ble_eq_true rfl⟩ (hM.recv hK dm_16 (ze_16 G V 0 0 h4) rfl) rfl hl.1 rfl (Nat.le_of_ble_eq_true rfl) dX10_dayPasses_103 ⟨Nat.zero_le _, Nat.zero_le _⟩ (fun H locs hM hS => ?_)
      refine W.eq (g2 := F0 m 106 ls [.int r5, .int s0, .int a2, .ref (gA G 16 0 0)]) rfl ?_
      obtain ⟨r8, h10, hc9, hf⟩ := bnd_some hf
      refine z_callS (As := [.int s0, .int r5]) (rest := [.int a2, .ref (gA G 16 0 0)]) hx hb hml hown hL hK hM hS (kX10_feeOf l G A V h7 s0 r5 hc9) (zg_X10_feeOf zw5_39) zy_X10_feeOf ⟨rfl, rfl⟩ ⟨Nat.le_of_ble_eq_true rfl, Nat.le_of_ble_eq_true rfl⟩ rfl hl.1 rfl (Nat.le_of_ble_eq_true rfl) dX10_dayPasses_106 ⟨Nat.zero_le _, Nat.zero_le _⟩ (fun H locs hM hS => ?_)
      refine W.eq (g2 := F0 m 109 ls [.int r8, .int a2, .ref (gA G 16 0 0)]) rfl ?_
      obtain ⟨r11, h13, hc12, hf⟩ := bnd_some hf
      refine z_callV (As := [.int a2, .int r8]) (rest := []) (C := RX10) hx hb hml hown hL hK hM hS (kX10_owes l G A V h10 a2 r8 hc12) (zg_X10_owes zw4_199) zv_X10_owes ⟨rfl, rfl⟩ ⟨Nat.le_of_ble_eq_true rfl, Nat.le_of_ble_eq_true rfl⟩ (hM.recv hK dm_16 (ze_16 G V 0 0 h10) rfl) rfl hl.1 rfl (Nat.le_of_ble_eq_true rfl) dX10_dayPasses_109 ⟨Nat.zero_le _, Nat.zero_le _⟩ (fun H locs hM hS => ?_)
      refine W.eq (g2 := F0 m 112 ls []) rfl ?_
      exact L112 K59 hK59 h13 a1 a2 s0 hf _ _ _ hM hS (lv_sub hl [1, 2, 3, 0] rfl)
  have L59 : ∀ (n : Nat) (h : zV2) (a1 : Int32) (a2 : Int32), xX10_dayPasses_L59 n h a1 a2 = some (r, h') → ∀ (H : Heap) (locs : List Loc) (ls : Array Slot), zM G (upG V 8 h) H → va_S A s.heap H locs → lv_has ls 4 [(0, .ref (gA G 16 0 0)), (1, .int a1), (2, .int a2)] → W p l e rX10_dayPasses s m args below meth c H locs 0 0 Q (F0 m 59 ls []) := by
    intro n
    induction n with
    | zero =>
      intro h a1 a2 hf H locs ls hM hS hl
      rw [xX10_dayPasses_L59] at hf
      cases hf
    | succ n ih =>
      intro h a1 a2 hf H locs ls hM hS hl
      rw [xX10_dayPasses_L59] at hf
      refine lv_iload_n hx hb dX10_dayPasses_59 rfl (lv_at hl 2 rfl) ?_
      refine lv_aload_n hx hb dX10_dayPasses_60 rfl (lv_at hl 0 rfl) ?_
      refine z_get (own := RX10) (C := RX10) (T := TX10) (N := 12) (ci := 8) (v := .ref (gA G 17 0 0)) hx hb hL inX10 hown hK hM dm_16 (ze_16 G V 0 0 h) rfl 0 (by decide) (hL _ zw4_19) rfl rfl dX10_dayPasses_61 ?_
      refine lv_iconst (v := 5) hx hb dX10_dayPasses_64 (by decide) ?_
      obtain ⟨hb1, hf⟩ := grd_some hf
      refine z_iald hx hb hK hM (dm_17 (i := 0) (by decide)) (ze_17_0 G V h) (inb_in hb1) dX10_dayPasses_65 ?_
      refine lv_icmp_ge (tgt := 163) hx hb dX10_dayPasses_66 (by decide) (fun c2 => ?_) (fun c2 => ?_)
      · replace hf := ift hf c2
        refine lv_iload_n hx hb dX10_dayPasses_163 rfl (lv_at hl 1 rfl) ?_
        exact hQf hf hM hS dX10_dayPasses_164
      · replace hf := iff_ hf c2
        refine lv_aload_n hx hb dX10_dayPasses_69 rfl (lv_at hl 0 rfl) ?_
        refine lv_iload_n hx hb dX10_dayPasses_70 rfl (lv_at hl 2 rfl) ?_
        refine lv_iconst (v := 0) hx hb dX10_dayPasses_71 (by decide) ?_
        obtain ⟨r3, h5, hc4, hf⟩ := bnd_some hf
        refine z_callV (As := [.int a2, .int (0 : Int32)]) (rest := []) (C := RX10) hx hb hml hown hL hK hM hS (kX10_ofP l G A V h a2 (0 : Int32) hc4) (zg_X10_ofP zw4_147) zv_X10_ofP ⟨rfl, rfl⟩ ⟨Nat.le_of_ble_eq_true rfl, Nat.le_of_ble_eq_true rfl⟩ (hM.recv hK dm_16 (ze_16 G V 0 0 h) rfl) rfl hl.1 rfl (Nat.le_of_ble_eq_true rfl) dX10_dayPasses_72 ⟨Nat.zero_le _, Nat.zero_le _⟩ (fun H locs hM hS => ?_)
        refine W.eq (g2 := F0 m 75 ls [.int r3]) rfl ?_
        refine lv_if_lt (tgt := 86) hx hb dX10_dayPasses_75 (by decide) (fun c6 => ?_) (fun c6 => ?_)
        · replace hf := ift hf c6
          refine lv_iconst (v := 0) hx hb dX10_dayPasses_86 (by decide) ?_
          exact L87 _ ih h5 a1 a2 (0 : Int32) hf _ _ _ hM hS (lv_sub hl [0, 1, 2] rfl)
        · replace hf := iff_ hf c6
          refine lv_aload_n hx hb dX10_dayPasses_78 rfl (lv_at hl 0 rfl) ?_
          refine lv_iload_n hx hb dX10_dayPasses_79 rfl (lv_at hl 2 rfl) ?_
          obtain ⟨r7, h9, hc8, hf⟩ := bnd_some hf
          refine z_callV (As := [.int a2]) (rest := []) (C := RX10) hx hb hml hown hL hK hM hS (kX10_overdue l G A V h5 a2 hc8) (zg_X10_overdue zw4_171) zv_X10_overdue ⟨rfl, rfl⟩ ⟨Nat.le_of_ble_eq_true rfl, Nat.le_of_ble_eq_true rfl⟩ (hM.recv hK dm_16 (ze_16 G V 0 0 h5) rfl) rfl hl.1 rfl (Nat.le_of_ble_eq_true rfl) dX10_dayPasses_80 ⟨Nat.zero_le _, Nat.zero_le _⟩ (fun H locs hM hS => ?_)
          refine W.eq (g2 := F0 m 83 ls [.int r7]) rfl ?_
          refine lv_goto (tgt := 87) hx hb dX10_dayPasses_83 (by decide) ?_
          exact L87 _ ih h9 a1 a2 r7 hf _ _ _ hM hS (lv_sub hl [0, 1, 2] rfl)
  have L12 : ∀ (n : Nat) (h : zV2) (a1 : Int32), xX10_dayPasses_L12 n h a1 = some (r, h') → ∀ (H : Heap) (locs : List Loc) (ls : Array Slot), zM G (upG V 8 h) H → va_S A s.heap H locs → lv_has ls 4 [(0, .ref (gA G 16 0 0)), (1, .int a1)] → W p l e rX10_dayPasses s m args below meth c H locs 0 0 Q (F0 m 12 ls []) := by
    intro n
    induction n with
    | zero =>
      intro h a1 hf H locs ls hM hS hl
      rw [xX10_dayPasses_L12] at hf
      cases hf
    | succ n ih =>
      intro h a1 hf H locs ls hM hS hl
      rw [xX10_dayPasses_L12] at hf
      refine lv_iload_n hx hb dX10_dayPasses_12 rfl (lv_at hl 1 rfl) ?_
      refine lv_aload_n hx hb dX10_dayPasses_13 rfl (lv_at hl 0 rfl) ?_
      refine z_get (own := RX10) (C := RX10) (T := TX10) (N := 12) (ci := 8) (v := .ref (gA G 17 0 0)) hx hb hL inX10 hown hK hM dm_16 (ze_16 G V 0 0 h) rfl 0 (by decide) (hL _ zw4_19) rfl rfl dX10_dayPasses_14 ?_
      refine lv_iconst (v := 4) hx hb dX10_dayPasses_17 (by decide) ?_
      obtain ⟨hb1, hf⟩ := grd_some hf
      refine z_iald hx hb hK hM (dm_17 (i := 0) (by decide)) (ze_17_0 G V h) (inb_in hb1) dX10_dayPasses_18 ?_
      refine lv_icmp_ge (tgt := 55) hx hb dX10_dayPasses_19 (by decide) (fun c2 => ?_) (fun c2 => ?_)
      · replace hf := ift hf c2
        refine lv_iconst (v := 0) hx hb dX10_dayPasses_55 (by decide) ?_
        refine lv_istore_n (lv' := [(1, .int (0 : Int32)), (0, .ref (gA G 16 0 0))]) hx hb dX10_dayPasses_56 rfl hl (by decide) rfl (fun ls hl => ?_)
        refine lv_iconst (v := 0) hx hb dX10_dayPasses_57 (by decide) ?_
        refine lv_istore_n (lv' := [(2, .int (0 : Int32)), (1, .int (0 : Int32)), (0, .ref (gA G 16 0 0))]) hx hb dX10_dayPasses_58 rfl hl (by decide) rfl (fun ls hl => ?_)
        exact L59 1000 h (0 : Int32) (0 : Int32) hf _ _ _ hM hS (lv_sub hl [2, 1, 0] rfl)
      · replace hf := iff_ hf c2
        refine lv_aload_n hx hb dX10_dayPasses_22 rfl (lv_at hl 0 rfl) ?_
        refine lv_iload_n hx hb dX10_dayPasses_23 rfl (lv_at hl 1 rfl) ?_
        refine lv_iconst (v := 4) hx hb dX10_dayPasses_24 (by decide) ?_
        obtain ⟨r3, h5, hc4, hf⟩ := bnd_some hf
        refine z_callV (As := [.int a1, .int (4 : Int32)]) (rest := []) (C := RX10) hx hb hml hown hL hK hM hS (kX10_of l G A V h a1 (4 : Int32) hc4) (zg_X10_of zw4_103) zv_X10_of ⟨rfl, rfl⟩ ⟨Nat.le_of_ble_eq_true rfl, Nat.le_of_ble_eq_true rfl⟩ (hM.recv hK dm_16 (ze_16 G V 0 0 h) rfl) rfl hl.1 rfl (Nat.le_of_ble_eq_true rfl) dX10_dayPasses_25 ⟨Nat.zero_le _, Nat.zero_le _⟩ (fun H locs hM hS => ?_)
        refine W.eq (g2 := F0 m 28 ls [.int r3]) rfl ?_
        refine lv_aload_n hx hb dX10_dayPasses_28 rfl (lv_at hl 0 rfl) ?_
        refine z_get (own := RX10) (C := RX10) (T := TX10) (N := 12) (ci := 8) (v := .ref (gA G 17 0 0)) hx hb hL inX10 hown hK hM dm_16 (ze_16 G V 0 0 h5) rfl 0 (by decide) (hL _ zw4_19) rfl rfl dX10_dayPasses_29 ?_
        refine lv_iconst (v := 3) hx hb dX10_dayPasses_32 (by decide) ?_
        obtain ⟨hb6, hf⟩ := grd_some hf
        refine z_iald hx hb hK hM (dm_17 (i := 0) (by decide)) (ze_17_0 G V h5) (inb_in hb6) dX10_dayPasses_33 ?_
        refine lv_icmp_ne (tgt := 49) hx hb dX10_dayPasses_34 (by decide) (fun c7 => ?_) (fun c7 => ?_)
        · replace hf := iff_ hf c7
          obtain ⟨y8, ey8⟩ : ∃ y : Int32, y = a1 + (1 : Int32) := ⟨_, rfl⟩
          replace hf := ltI_some hf ey8
          refine lv_iinc (v := y8) (lv' := [(1, .int y8), (0, .ref (gA G 16 0 0))]) hx hb dX10_dayPasses_49 hl (k := 1) rfl (by rw [ey8]; rfl) (by decide) rfl (fun ls hl => ?_)
          refine lv_goto (tgt := 12) hx hb dX10_dayPasses_52 (by decide) ?_
          exact ih h5 y8 hf _ _ _ hM hS (lv_sub hl [1, 0] rfl)
        · replace hf := ift hf c7
          refine lv_aload_n hx hb dX10_dayPasses_37 rfl (lv_at hl 0 rfl) ?_
          refine lv_iload_n hx hb dX10_dayPasses_38 rfl (lv_at hl 1 rfl) ?_
          refine lv_iconst (v := 4) hx hb dX10_dayPasses_39 (by decide) ?_
          refine lv_iconst (v := -1) hx hb dX10_dayPasses_40 (by decide) ?_
          obtain ⟨r9, h11, hc10, hf⟩ := bnd_some hf
          refine z_callV (As := [.int a1, .int (4 : Int32), .int (-1 : Int32)]) (rest := []) (C := RX10) hx hb hml hown hL hK hM hS (kX10_lay l G A V h5 a1 (4 : Int32) (-1 : Int32) hc10) (zg_X10_lay zw4_71) zv_X10_lay ⟨rfl, rfl⟩ ⟨Nat.le_of_ble_eq_true rfl, Nat.le_of_ble_eq_true rfl⟩ (hM.recv hK dm_16 (ze_16 G V 0 0 h5) rfl) rfl hl.1 rfl (Nat.le_of_ble_eq_true rfl) dX10_dayPasses_41 ⟨Nat.zero_le _, Nat.zero_le _⟩ (fun H locs hM hS => ?_)
          refine W.eq (g2 := F0 m 44 ls []) rfl ?_
          refine lv_aload_n hx hb dX10_dayPasses_44 rfl (lv_at hl 0 rfl) ?_
          refine lv_iload_n hx hb dX10_dayPasses_45 rfl (lv_at hl 1 rfl) ?_
          obtain ⟨r12, h14, hc13, hf⟩ := bnd_some hf
          refine z_callV (As := [.int a1]) (rest := []) (C := RX10) hx hb hml hown hL hK hM hS (kX10_frees l G A V h11 a1 hc13) (zg_X10_frees zw4_111) zv_X10_frees ⟨rfl, rfl⟩ ⟨Nat.le_of_ble_eq_true rfl, Nat.le_of_ble_eq_true rfl⟩ (hM.recv hK dm_16 (ze_16 G V 0 0 h11) rfl) rfl hl.1 rfl (Nat.le_of_ble_eq_true rfl) dX10_dayPasses_46 ⟨Nat.zero_le _, Nat.zero_le _⟩ (fun H locs hM hS => ?_)
          refine W.eq (g2 := F0 m 49 ls []) rfl ?_
          obtain ⟨y15, ey15⟩ : ∃ y : Int32, y = a1 + (1 : Int32) := ⟨_, rfl⟩
          replace hf := ltI_some hf ey15
          refine lv_iinc (v := y15) (lv' := [(1, .int y15), (0, .ref (gA G 16 0 0))]) hx hb dX10_dayPasses_49 hl (k := 1) rfl (by rw [ey15]; rfl) (by decide) rfl (fun ls hl => ?_)
          refine lv_goto (tgt := 12) hx hb dX10_dayPasses_52 (by decide) ?_
          exact ih h14 y15 hf _ _ _ hM hS (lv_sub hl [1, 0] rfl)
  unfold xX10_dayPasses at hf
  refine lv_aload_n hx hb dX10_dayPasses_0 rfl (lv_at hl 0 rfl) ?_
  refine z_get (own := RX10) (C := RX10) (T := TX10) (N := 12) (ci := 8) (v := .ref (gA G 17 0 0)) hx hb hL inX10 hown hK hM dm_16 (ze_16 G V 0 0 h) rfl 0 (by decide) (hL _ zw4_19) rfl rfl dX10_dayPasses_1 ?_
  refine lv_iconst (v := 3) hx hb dX10_dayPasses_4 (by decide) ?_
  refine lv_dup2_11 hx hb dX10_dayPasses_5 rfl rfl ?_
  obtain ⟨hb1, hf⟩ := grd_some hf
  refine z_iald hx hb hK hM (dm_17 (i := 0) (by decide)) (ze_17_0 G V h) (inb_in hb1) dX10_dayPasses_6 ?_
  refine lv_iconst (v := 1) hx hb dX10_dayPasses_7 (by decide) ?_
  refine lv_iadd hx hb dX10_dayPasses_8 ?_
  obtain ⟨hb2, hf⟩ := grd_some hf
  obtain ⟨h3, eh3⟩ : ∃ y, y = up2 h 0 ((3 : Int32).toNatClampNeg) ((h 0 ((3 : Int32).toNatClampNeg)) + (1 : Int32)) := ⟨_, rfl⟩
  replace hf := put2_some hf eh3
  refine z_iast (V' := upG V 8 h3) hx hb hK hM hS (dm_17 (i := 0) (by decide)) (ze_17_0 G V h) (inb_in hb2) (by rw [eh3]; exact zn_17_0 G V h ((3 : Int32).toNatClampNeg) ((h 0 ((3 : Int32).toNatClampNeg)) + (1 : Int32))) dX10_dayPasses_9 (fun H locs hM hS => ?_)
  refine lv_iconst (v := 0) hx hb dX10_dayPasses_10 (by decide) ?_
  refine lv_istore_n (lv' := [(1, .int (0 : Int32)), (0, .ref (gA G 16 0 0))]) hx hb dX10_dayPasses_11 rfl hl (by decide) rfl (fun ls hl => ?_)
  exact L12 1000 h3 (0 : Int32) hf _ _ _ hM hS (lv_sub hl [1, 0] rfl)
abbrev rX10_passDays : Room := { frames := 5, cells := 0, slots := 0, locals := 113 }
set_option maxRecDepth 100000 in
set_option maxHeartbeats 4000000 in
theorem kX10_passDays (l : Launch) (G : zG) (A : Nat → Prop) (V : zV3) (h : zV2) (p1 : Int32) {r : Int32} {h' : zV2} (hf : xX10_passDays h p1 = some (r, h')) : zCt l G A yX10_passDays cX10_passDays 5 (some .int) rX10_passDays [.ref (gA G 16 0 0), .int p1] (upG V 8 h) (some (.int r)) (upG V 8 h') := by
  refine z_CtI (by decide) (Nat.le_of_ble_eq_true rfl) ?_
  intro p e s m args below meth c Q hx hb hml hown hL hK hM hS hQ ls hl
  replace hl : lv_has ls 5 [(0, .ref (gA G 16 0 0)), (1, .int p1)] := hl
  have hQf : ∀ {a : Int32} {k : zV2} {H : Heap} {locs : List Loc} {pc : Nat} {ls : Array Slot}, some (a, k) = some (r, h') → zM G (upG V 8 k) H → va_S A s.heap H locs → decode cX10_passDays pc = .ok (.ireturn, 1) → W p l e rX10_passDays s m args below meth c H locs 0 0 Q (F0 m pc ls [.int a]) := by
    intro a k H locs pc ls e1 hM hS hd
    cases e1
    exact hQ H locs pc ls hM hS hd
  have L4 : ∀ (n : Nat) (h : zV2) (a2 : Int32) (a3 : Int32), xX10_passDays_L4 p1 n h a2 a3 = some (r, h') → ∀ (H : Heap) (locs : List Loc) (ls : Array Slot), zM G (upG V 8 h) H → va_S A s.heap H locs → lv_has ls 5 [(0, .ref (gA G 16 0 0)), (1, .int p1), (2, .int a2), (3, .int a3)] → W p l e rX10_passDays s m args below meth c H locs 0 0 Q (F0 m 4 ls []) := by
    intro n
    induction n with
    | zero =>
      intro h a2 a3 hf H locs ls hM hS hl
      rw [xX10_passDays_L4] at hf
      cases hf
    | succ n ih =>
      intro h a2 a3 hf H locs ls hM hS hl
      rw [xX10_passDays_L4] at hf
      refine lv_iload_n hx hb dX10_passDays_4 rfl (lv_at hl 3 rfl) ?_
      refine lv_iload_n hx hb dX10_passDays_5 rfl (lv_at hl 1 rfl) ?_
      refine lv_icmp_ge (tgt := 26) hx hb dX10_passDays_6 (by decide) (fun c1 => ?_) (fun c1 => ?_)
      · replace hf := ift hf c1
        refine lv_iload_n hx hb dX10_passDays_26 rfl (lv_at hl 2 rfl) ?_
        exact hQf hf hM hS dX10_passDays_27
      · replace hf := iff_ hf c1
        refine lv_aload_n hx hb dX10_passDays_9 rfl (lv_at hl 0 rfl) ?_
        obtain ⟨r2, h4, hc3, hf⟩ := bnd_some hf
        refine z_callV (As := []) (rest := []) (C := RX10) hx hb hml hown hL hK hM hS (kX10_dayPasses l G A V h hc3) (zg_X10_dayPasses zw5_35) zv_X10_dayPasses ⟨rfl, rfl⟩ ⟨Nat.le_of_ble_eq_true rfl, Nat.le_of_ble_eq_true rfl⟩ (hM.recv hK dm_16 (ze_16 G V 0 0 h) rfl) rfl hl.1 rfl (Nat.le_of_ble_eq_true rfl) dX10_passDays_10 ⟨Nat.zero_le _, Nat.zero_le _⟩ (fun H locs hM hS => ?_)
        refine W.eq (g2 := F0 m 13 ls [.int r2]) rfl ?_
        refine lv_istore (lv' := [(4, .int r2), (0, .ref (gA G 16 0 0)), (1, .int p1), (2, .int a2), (3, .int a3)]) hx hb dX10_passDays_13 hl (by decide) rfl (fun ls hl => ?_)
        refine lv_iload_n hx hb dX10_passDays_15 rfl (lv_at hl 3 rfl) ?_
        refine lv_iload hx hb dX10_passDays_16 (lv_at hl 0 rfl) ?_
        refine lv_iadd hx hb dX10_passDays_18 ?_
        refine lv_topi (fun y5 ey5 => ?_)
        replace hf := ltI_some hf ey5
        refine lv_istore_n (lv' := [(2, .int y5), (4, .int r2), (0, .ref (gA G 16 0 0)), (1, .int p1), (3, .int a3)]) hx hb dX10_passDays_19 rfl hl (by decide) rfl (fun ls hl => ?_)
        obtain ⟨y6, ey6⟩ : ∃ y : Int32, y = a3 + (1 : Int32) := ⟨_, rfl⟩
        replace hf := ltI_some hf ey6
        refine lv_iinc (v := y6) (lv' := [(3, .int y6), (2, .int y5), (4, .int r2), (0, .ref (gA G 16 0 0)), (1, .int p1)]) hx hb dX10_passDays_20 hl (k := 4) rfl (by rw [ey6]; rfl) (by decide) rfl (fun ls hl => ?_)
        refine lv_goto (tgt := 4) hx hb dX10_passDays_23 (by decide) ?_
        exact ih h4 y5 y6 hf _ _ _ hM hS (lv_sub hl [3, 4, 1, 0] rfl)
  unfold xX10_passDays at hf
  refine lv_iconst (v := 0) hx hb dX10_passDays_0 (by decide) ?_
  refine lv_istore_n (lv' := [(2, .int (0 : Int32)), (0, .ref (gA G 16 0 0)), (1, .int p1)]) hx hb dX10_passDays_1 rfl hl (by decide) rfl (fun ls hl => ?_)
  refine lv_iconst (v := 0) hx hb dX10_passDays_2 (by decide) ?_
  refine lv_istore_n (lv' := [(3, .int (0 : Int32)), (2, .int (0 : Int32)), (0, .ref (gA G 16 0 0)), (1, .int p1)]) hx hb dX10_passDays_3 rfl hl (by decide) rfl (fun ls hl => ?_)
  exact L4 1000 h (0 : Int32) (0 : Int32) hf _ _ _ hM hS (lv_sub hl [2, 3, 1, 0] rfl)
abbrev rX10_passes : Room := { frames := 6, cells := 0, slots := 0, locals := 137 }
set_option maxRecDepth 100000 in
set_option maxHeartbeats 4000000 in
theorem kX10_passes (l : Launch) (G : zG) (A : Nat → Prop) (V : zV3) (h : zV2) (p1 : Int32) {r : Int32} {h' : zV2} (hf : xX10_passes h p1 = some (r, h')) : zCt l G A yX10_passes cX10_passes 2 (some .int) rX10_passes [.ref (gA G 16 0 0), .int p1] (upG V 8 h) (some (.int r)) (upG V 8 h') := by
  refine z_CtI (by decide) (Nat.le_of_ble_eq_true rfl) ?_
  intro p e s m args below meth c Q hx hb hml hown hL hK hM hS hQ ls hl
  replace hl : lv_has ls 2 [(0, .ref (gA G 16 0 0)), (1, .int p1)] := hl
  have hQf : ∀ {a : Int32} {k : zV2} {H : Heap} {locs : List Loc} {pc : Nat} {ls : Array Slot}, some (a, k) = some (r, h') → zM G (upG V 8 k) H → va_S A s.heap H locs → decode cX10_passes pc = .ok (.ireturn, 1) → W p l e rX10_passes s m args below meth c H locs 0 0 Q (F0 m pc ls [.int a]) := by
    intro a k H locs pc ls e1 hM hS hd
    cases e1
    exact hQ H locs pc ls hM hS hd
  unfold xX10_passes at hf
  refine lv_iload_n hx hb dX10_passes_0 rfl (lv_at hl 1 rfl) ?_
  refine lv_iconst (v := 1) hx hb dX10_passes_1 (by decide) ?_
  refine lv_bipush (v := 99) hx hb dX10_passes_2 (by decide) ?_
  obtain ⟨r1, h3, hc2, hf⟩ := bnd_some hf
  refine z_callS (As := [.int p1, .int (1 : Int32), .int (99 : Int32)]) (rest := []) hx hb hml hown hL hK hM hS (kX10_in l G A V h p1 (1 : Int32) (99 : Int32) hc2) (zg_X10_in zw4_68) zy_X10_in ⟨rfl, rfl⟩ ⟨Nat.le_of_ble_eq_true rfl, Nat.le_of_ble_eq_true rfl⟩ rfl hl.1 rfl (Nat.le_of_ble_eq_true rfl) dX10_passes_4 ⟨Nat.zero_le _, Nat.zero_le _⟩ (fun H locs hM hS => ?_)
  refine W.eq (g2 := F0 m 7 ls [.int r1]) rfl ?_
  refine lv_if_ne (tgt := 12) hx hb dX10_passes_7 (by decide) (fun c4 => ?_) (fun c4 => ?_)
  · replace hf := iff_ hf c4
    refine lv_aload_n hx hb dX10_passes_12 rfl (lv_at hl 0 rfl) ?_
    refine z_get (own := RX10) (C := RX10) (T := TX10) (N := 12) (ci := 8) (v := .ref (gA G 17 0 0)) hx hb hL inX10 hown hK hM dm_16 (ze_16 G V 0 0 h3) rfl 0 (by decide) (hL _ zw4_19) rfl rfl dX10_passes_13 ?_
    refine lv_iconst (v := 3) hx hb dX10_passes_16 (by decide) ?_
    obtain ⟨hb5, hf⟩ := grd_some hf
    refine z_iald hx hb hK hM (dm_17 (i := 0) (by decide)) (ze_17_0 G V h3) (inb_in hb5) dX10_passes_17 ?_
    refine lv_iload_n hx hb dX10_passes_18 rfl (lv_at hl 1 rfl) ?_
    refine lv_iadd hx hb dX10_passes_19 ?_
    refine lv_sipush (v := 5000) hx hb dX10_passes_20 (by decide) ?_
    refine lv_icmp_le (tgt := 31) hx hb dX10_passes_23 (by decide) (fun c6 => ?_) (fun c6 => ?_)
    · replace hf := ift hf c6
      refine lv_aload_n hx hb dX10_passes_31 rfl (lv_at hl 0 rfl) ?_
      refine lv_iload_n hx hb dX10_passes_32 rfl (lv_at hl 1 rfl) ?_
      obtain ⟨r7, h9, hc8, hf⟩ := bnd_some hf
      refine z_callV (As := [.int p1]) (rest := []) (C := RX10) hx hb hml hown hL hK hM hS (kX10_passDays l G A V h3 p1 hc8) (zg_X10_passDays zw5_31) zv_X10_passDays ⟨rfl, rfl⟩ ⟨Nat.le_of_ble_eq_true rfl, Nat.le_of_ble_eq_true rfl⟩ (hM.recv hK dm_16 (ze_16 G V 0 0 h3) rfl) rfl hl.1 rfl (Nat.le_of_ble_eq_true rfl) dX10_passes_33 ⟨Nat.zero_le _, Nat.zero_le _⟩ (fun H locs hM hS => ?_)
      refine W.eq (g2 := F0 m 36 ls [.int r7]) rfl ?_
      exact hQf hf hM hS dX10_passes_36
    · replace hf := iff_ hf c6
      refine lv_bipush (v := -3) hx hb dX10_passes_26 (by decide) ?_
      refine lv_goto (tgt := 36) hx hb dX10_passes_28 (by decide) ?_
      exact hQf hf hM hS dX10_passes_36
  · replace hf := ift hf c4
    refine lv_iconst (v := -1) hx hb dX10_passes_10 (by decide) ?_
    exact hQf hf hM hS dX10_passes_11
abbrev rX10_least : Room := { frames := 0, cells := 0, slots := 0, locals := 0 }
set_option maxRecDepth 100000 in
set_option maxHeartbeats 4000000 in
theorem kX10_least (l : Launch) (G : zG) (A : Nat → Prop) (V : zV3) (h : zV2) (p1 : Int32) {r : Int32} {h' : zV2} (hf : xX10_least h p1 = some (r, h')) : zCt l G A yX10_least cX10_least 1 (some .int) rX10_least [.int p1] (upG V 8 h) (some (.int r)) (upG V 8 h') := by
  refine z_CtI (by decide) (Nat.le_of_ble_eq_true rfl) ?_
  intro p e s m args below meth c Q hx hb hml hown hL hK hM hS hQ ls hl
  replace hl : lv_has ls 1 [(0, .int p1)] := hl
  have hQf : ∀ {a : Int32} {k : zV2} {H : Heap} {locs : List Loc} {pc : Nat} {ls : Array Slot}, some (a, k) = some (r, h') → zM G (upG V 8 k) H → va_S A s.heap H locs → decode cX10_least pc = .ok (.ireturn, 1) → W p l e rX10_least s m args below meth c H locs 0 0 Q (F0 m pc ls [.int a]) := by
    intro a k H locs pc ls e1 hM hS hd
    cases e1
    exact hQ H locs pc ls hM hS hd
  unfold xX10_least at hf
  refine lv_iload_n hx hb dX10_least_0 rfl (lv_at hl 0 rfl) ?_
  refine lv_if_ne (tgt := 8) hx hb dX10_least_1 (by decide) (fun c1 => ?_) (fun c1 => ?_)
  · replace hf := iff_ hf c1
    refine lv_iconst (v := 0) hx hb dX10_least_8 (by decide) ?_
    exact hQf hf hM hS dX10_least_9
  · replace hf := ift hf c1
    refine lv_iconst (v := 1) hx hb dX10_least_4 (by decide) ?_
    refine lv_goto (tgt := 9) hx hb dX10_least_5 (by decide) ?_
    exact hQf hf hM hS dX10_least_9
abbrev rX10_most : Room := { frames := 0, cells := 0, slots := 0, locals := 0 }
set_option maxRecDepth 100000 in
set_option maxHeartbeats 4000000 in
theorem kX10_most (l : Launch) (G : zG) (A : Nat → Prop) (V : zV3) (h : zV2) (p1 : Int32) {r : Int32} {h' : zV2} (hf : xX10_most h p1 = some (r, h')) : zCt l G A yX10_most cX10_most 1 (some .int) rX10_most [.int p1] (upG V 8 h) (some (.int r)) (upG V 8 h') := by
  refine z_CtI (by decide) (Nat.le_of_ble_eq_true rfl) ?_
  intro p e s m args below meth c Q hx hb hml hown hL hK hM hS hQ ls hl
  replace hl : lv_has ls 1 [(0, .int p1)] := hl
  have hQf : ∀ {a : Int32} {k : zV2} {H : Heap} {locs : List Loc} {pc : Nat} {ls : Array Slot}, some (a, k) = some (r, h') → zM G (upG V 8 k) H → va_S A s.heap H locs → decode cX10_most pc = .ok (.ireturn, 1) → W p l e rX10_most s m args below meth c H locs 0 0 Q (F0 m pc ls [.int a]) := by
    intro a k H locs pc ls e1 hM hS hd
    cases e1
    exact hQ H locs pc ls hM hS hd
  unfold xX10_most at hf
  refine lv_iload_n hx hb dX10_most_0 rfl (lv_at hl 0 rfl) ?_
  refine lv_if_ne (tgt := 9) hx hb dX10_most_1 (by decide) (fun c1 => ?_) (fun c1 => ?_)
  · replace hf := iff_ hf c1
    refine lv_iload_n hx hb dX10_most_9 rfl (lv_at hl 0 rfl) ?_
    refine lv_iconst (v := 1) hx hb dX10_most_10 (by decide) ?_
    refine lv_icmp_ne (tgt := 18) hx hb dX10_most_11 (by decide) (fun c2 => ?_) (fun c2 => ?_)
    · replace hf := iff_ hf c2
      refine lv_bipush (v := 99) hx hb dX10_most_18 (by decide) ?_
      exact hQf hf hM hS dX10_most_20
    · replace hf := ift hf c2
      refine lv_iconst (v := 5) hx hb dX10_most_14 (by decide) ?_
      refine lv_goto (tgt := 20) hx hb dX10_most_15 (by decide) ?_
      exact hQf hf hM hS dX10_most_20
  · replace hf := ift hf c1
    refine lv_bipush (v := 60) hx hb dX10_most_4 (by decide) ?_
    refine lv_goto (tgt := 20) hx hb dX10_most_6 (by decide) ?_
    exact hQf hf hM hS dX10_most_20
abbrev rX10_sets : Room := { frames := 1, cells := 0, slots := 0, locals := 22 }
set_option maxRecDepth 100000 in
set_option maxHeartbeats 4000000 in
theorem kX10_sets (l : Launch) (G : zG) (A : Nat → Prop) (V : zV3) (h : zV2) (p1 : Int32) (p2 : Int32) {r : Int32} {h' : zV2} (hf : xX10_sets h p1 p2 = some (r, h')) : zCt l G A yX10_sets cX10_sets 4 (some .int) rX10_sets [.ref (gA G 16 0 0), .int p1, .int p2] (upG V 8 h) (some (.int r)) (upG V 8 h') := by
  refine z_CtI (by decide) (Nat.le_of_ble_eq_true rfl) ?_
  intro p e s m args below meth c Q hx hb hml hown hL hK hM hS hQ ls hl
  replace hl : lv_has ls 4 [(0, .ref (gA G 16 0 0)), (1, .int p1), (2, .int p2)] := hl
  have hQf : ∀ {a : Int32} {k : zV2} {H : Heap} {locs : List Loc} {pc : Nat} {ls : Array Slot}, some (a, k) = some (r, h') → zM G (upG V 8 k) H → va_S A s.heap H locs → decode cX10_sets pc = .ok (.ireturn, 1) → W p l e rX10_sets s m args below meth c H locs 0 0 Q (F0 m pc ls [.int a]) := by
    intro a k H locs pc ls e1 hM hS hd
    cases e1
    exact hQ H locs pc ls hM hS hd
  unfold xX10_sets at hf
  refine lv_iload_n hx hb dX10_sets_0 rfl (lv_at hl 1 rfl) ?_
  refine lv_iconst (v := 0) hx hb dX10_sets_1 (by decide) ?_
  refine lv_iconst (v := 2) hx hb dX10_sets_2 (by decide) ?_
  obtain ⟨r1, h3, hc2, hf⟩ := bnd_some hf
  refine z_callS (As := [.int p1, .int (0 : Int32), .int (2 : Int32)]) (rest := []) hx hb hml hown hL hK hM hS (kX10_in l G A V h p1 (0 : Int32) (2 : Int32) hc2) (zg_X10_in zw4_68) zy_X10_in ⟨rfl, rfl⟩ ⟨Nat.le_of_ble_eq_true rfl, Nat.le_of_ble_eq_true rfl⟩ rfl hl.1 rfl (Nat.le_of_ble_eq_true rfl) dX10_sets_3 ⟨Nat.zero_le _, Nat.zero_le _⟩ (fun H locs hM hS => ?_)
  refine W.eq (g2 := F0 m 6 ls [.int r1]) rfl ?_
  refine lv_if_eq (tgt := 24) hx hb dX10_sets_6 (by decide) (fun c4 => ?_) (fun c4 => ?_)
  · replace hf := ift hf c4
    refine lv_iconst (v := -1) hx hb dX10_sets_24 (by decide) ?_
    exact hQf hf hM hS dX10_sets_25
  · replace hf := iff_ hf c4
    refine lv_iload_n hx hb dX10_sets_9 rfl (lv_at hl 2 rfl) ?_
    refine lv_iload_n hx hb dX10_sets_10 rfl (lv_at hl 1 rfl) ?_
    obtain ⟨r5, h7, hc6, hf⟩ := bnd_some hf
    refine z_callS (As := [.int p1]) (rest := [.int p2]) hx hb hml hown hL hK hM hS (kX10_least l G A V h3 p1 hc6) (zg_X10_least zw5_50) zy_X10_least ⟨rfl, rfl⟩ ⟨Nat.le_of_ble_eq_true rfl, Nat.le_of_ble_eq_true rfl⟩ rfl hl.1 rfl (Nat.le_of_ble_eq_true rfl) dX10_sets_11 ⟨Nat.zero_le _, Nat.zero_le _⟩ (fun H locs hM hS => ?_)
    refine W.eq (g2 := F0 m 14 ls [.int r5, .int p2]) rfl ?_
    refine lv_iload_n hx hb dX10_sets_14 rfl (lv_at hl 1 rfl) ?_
    obtain ⟨r8, h10, hc9, hf⟩ := bnd_some hf
    refine z_callS (As := [.int p1]) (rest := [.int r5, .int p2]) hx hb hml hown hL hK hM hS (kX10_most l G A V h7 p1 hc9) (zg_X10_most zw5_53) zy_X10_most ⟨rfl, rfl⟩ ⟨Nat.le_of_ble_eq_true rfl, Nat.le_of_ble_eq_true rfl⟩ rfl hl.1 rfl (Nat.le_of_ble_eq_true rfl) dX10_sets_15 ⟨Nat.zero_le _, Nat.zero_le _⟩ (fun H locs hM hS => ?_)
    refine W.eq (g2 := F0 m 18 ls [.int r8, .int r5, .int p2]) rfl ?_
    obtain ⟨r11, h13, hc12, hf⟩ := bnd_some hf
    refine z_callS (As := [.int p2, .int r5, .int r8]) (rest := []) hx hb hml hown hL hK hM hS (kX10_in l G A V h10 p2 r5 r8 hc12) (zg_X10_in zw4_68) zy_X10_in ⟨rfl, rfl⟩ ⟨Nat.le_of_ble_eq_true rfl, Nat.le_of_ble_eq_true rfl⟩ rfl hl.1 rfl (Nat.le_of_ble_eq_true rfl) dX10_sets_18 ⟨Nat.zero_le _, Nat.zero_le _⟩ (fun H locs hM hS => ?_)
    refine W.eq (g2 := F0 m 21 ls [.int r11]) rfl ?_
    refine lv_if_ne (tgt := 26) hx hb dX10_sets_21 (by decide) (fun c14 => ?_) (fun c14 => ?_)
    · replace hf := iff_ hf c14
      refine lv_aload_n hx hb dX10_sets_26 rfl (lv_at hl 0 rfl) ?_
      refine z_get (own := RX10) (C := RX10) (T := TX10) (N := 12) (ci := 8) (v := .ref (gA G 17 0 0)) hx hb hL inX10 hown hK hM dm_16 (ze_16 G V 0 0 h13) rfl 0 (by decide) (hL _ zw4_19) rfl rfl dX10_sets_27 ?_
      refine lv_iload_n hx hb dX10_sets_30 rfl (lv_at hl 1 rfl) ?_
      obtain ⟨hb15, hf⟩ := grd_some hf
      refine z_iald hx hb hK hM (dm_17 (i := 0) (by decide)) (ze_17_0 G V h13) (inb_in hb15) dX10_sets_31 ?_
      refine lv_topi (fun y16 ey16 => ?_)
      replace hf := ltI_some hf ey16
      refine lv_istore_n (lv' := [(3, .int y16), (0, .ref (gA G 16 0 0)), (1, .int p1), (2, .int p2)]) hx hb dX10_sets_32 rfl hl (by decide) rfl (fun ls hl => ?_)
      refine lv_aload_n hx hb dX10_sets_33 rfl (lv_at hl 1 rfl) ?_
      refine z_get (own := RX10) (C := RX10) (T := TX10) (N := 12) (ci := 8) (v := .ref (gA G 17 0 0)) hx hb hL inX10 hown hK hM dm_16 (ze_16 G V 0 0 h13) rfl 0 (by decide) (hL _ zw4_19) rfl rfl dX10_sets_34 ?_
      refine lv_iload_n hx hb dX10_sets_37 rfl (lv_at hl 2 rfl) ?_
      refine lv_iload_n hx hb dX10_sets_38 rfl (lv_at hl 3 rfl) ?_
      obtain ⟨hb17, hf⟩ := grd_some hf
      obtain ⟨h18, eh18⟩ : ∃ y, y = up2 h13 0 p1.toNatClampNeg p2 := ⟨_, rfl⟩
      replace hf := put2_some hf eh18
      refine z_iast (V' := upG V 8 h18) hx hb hK hM hS (dm_17 (i := 0) (by decide)) (ze_17_0 G V h13) (inb_in hb17) (by rw [eh18]; exact zn_17_0 G V h13 p1.toNatClampNeg p2) dX10_sets_39 (fun H locs hM hS => ?_)
      refine lv_iload_n hx hb dX10_sets_40 rfl (lv_at hl 0 rfl) ?_
      exact hQf hf hM hS dX10_sets_41
    · replace hf := ift hf c14
      refine lv_iconst (v := -1) hx hb dX10_sets_24 (by decide) ?_
      exact hQf hf hM hS dX10_sets_25
abbrev rX10_locker : Room := { frames := 2, cells := 0, slots := 0, locals := 45 }
set_option maxRecDepth 100000 in
set_option maxHeartbeats 4000000 in
theorem kX10_locker (l : Launch) (G : zG) (A : Nat → Prop) (V : zV3) (h : zV2) (p1 : Int32) {r : Int32} {h' : zV2} (hf : xX10_locker h p1 = some (r, h')) : zCt l G A yX10_locker cX10_locker 2 (some .int) rX10_locker [.ref (gA G 16 0 0), .int p1] (upG V 8 h) (some (.int r)) (upG V 8 h') := by
  refine z_CtI (by decide) (Nat.le_of_ble_eq_true rfl) ?_
  intro p e s m args below meth c Q hx hb hml hown hL hK hM hS hQ ls hl
  replace hl : lv_has ls 2 [(0, .ref (gA G 16 0 0)), (1, .int p1)] := hl
  have hQf : ∀ {a : Int32} {k : zV2} {H : Heap} {locs : List Loc} {pc : Nat} {ls : Array Slot}, some (a, k) = some (r, h') → zM G (upG V 8 k) H → va_S A s.heap H locs → decode cX10_locker pc = .ok (.ireturn, 1) → W p l e rX10_locker s m args below meth c H locs 0 0 Q (F0 m pc ls [.int a]) := by
    intro a k H locs pc ls e1 hM hS hd
    cases e1
    exact hQ H locs pc ls hM hS hd
  unfold xX10_locker at hf
  refine lv_aload_n hx hb dX10_locker_0 rfl (lv_at hl 0 rfl) ?_
  obtain ⟨r1, h3, hc2, hf⟩ := bnd_some hf
  refine z_callV (As := []) (rest := []) (C := RX10) hx hb hml hown hL hK hM hS (kX10_begins l G A V h hc2) (zg_X10_begins zw4_60) zv_X10_begins ⟨rfl, rfl⟩ ⟨Nat.le_of_ble_eq_true rfl, Nat.le_of_ble_eq_true rfl⟩ (hM.recv hK dm_16 (ze_16 G V 0 0 h) rfl) rfl hl.1 rfl (Nat.le_of_ble_eq_true rfl) dX10_locker_1 ⟨Nat.zero_le _, Nat.zero_le _⟩ (fun H locs hM hS => ?_)
  refine W.eq (g2 := F0 m 4 ls []) rfl ?_
  refine lv_aload_n hx hb dX10_locker_4 rfl (lv_at hl 0 rfl) ?_
  refine lv_aload_n hx hb dX10_locker_5 rfl (lv_at hl 0 rfl) ?_
  refine lv_iload_n hx hb dX10_locker_6 rfl (lv_at hl 1 rfl) ?_
  obtain ⟨r4, h6, hc5, hf⟩ := bnd_some hf
  refine z_callV (As := [.int p1]) (rest := [.ref (gA G 16 0 0)]) (C := RX10) hx hb hml hown hL hK hM hS (kX10_makesLocker l G A V h3 p1 hc5) (zg_X10_makesLocker zw4_64) zv_X10_makesLocker ⟨rfl, rfl⟩ ⟨Nat.le_of_ble_eq_true rfl, Nat.le_of_ble_eq_true rfl⟩ (hM.recv hK dm_16 (ze_16 G V 0 0 h3) rfl) rfl hl.1 rfl (Nat.le_of_ble_eq_true rfl) dX10_locker_7 ⟨Nat.zero_le _, Nat.zero_le _⟩ (fun H locs hM hS => ?_)
  refine W.eq (g2 := F0 m 10 ls [.int r4, .ref (gA G 16 0 0)]) rfl ?_
  obtain ⟨r7, h9, hc8, hf⟩ := bnd_some hf
  refine z_callV (As := [.int r4]) (rest := []) (C := RX10) hx hb hml hown hL hK hM hS (kX10_acted l G A V h6 r4 hc8) (zg_X10_acted zw4_75) zv_X10_acted ⟨rfl, rfl⟩ ⟨Nat.le_of_ble_eq_true rfl, Nat.le_of_ble_eq_true rfl⟩ (hM.recv hK dm_16 (ze_16 G V 0 0 h6) rfl) rfl hl.1 rfl (Nat.le_of_ble_eq_true rfl) dX10_locker_10 ⟨Nat.zero_le _, Nat.zero_le _⟩ (fun H locs hM hS => ?_)
  refine W.eq (g2 := F0 m 13 ls [.int r7]) rfl ?_
  exact hQf hf hM hS dX10_locker_13
abbrev rX10_person : Room := { frames := 2, cells := 0, slots := 0, locals := 45 }
set_option maxRecDepth 100000 in
set_option maxHeartbeats 4000000 in
theorem kX10_person (l : Launch) (G : zG) (A : Nat → Prop) (V : zV3) (h : zV2) {r : Int32} {h' : zV2} (hf : xX10_person h  = some (r, h')) : zCt l G A yX10_person cX10_person 1 (some .int) rX10_person [.ref (gA G 16 0 0)] (upG V 8 h) (some (.int r)) (upG V 8 h') := by
  refine z_CtI (by decide) (Nat.le_of_ble_eq_true rfl) ?_
  intro p e s m args below meth c Q hx hb hml hown hL hK hM hS hQ ls hl
  replace hl : lv_has ls 1 [(0, .ref (gA G 16 0 0))] := hl
  have hQf : ∀ {a : Int32} {k : zV2} {H : Heap} {locs : List Loc} {pc : Nat} {ls : Array Slot}, some (a, k) = some (r, h') → zM G (upG V 8 k) H → va_S A s.heap H locs → decode cX10_person pc = .ok (.ireturn, 1) → W p l e rX10_person s m args below meth c H locs 0 0 Q (F0 m pc ls [.int a]) := by
    intro a k H locs pc ls e1 hM hS hd
    cases e1
    exact hQ H locs pc ls hM hS hd
  unfold xX10_person at hf
  refine lv_aload_n hx hb dX10_person_0 rfl (lv_at hl 0 rfl) ?_
  obtain ⟨r1, h3, hc2, hf⟩ := bnd_some hf
  refine z_callV (As := []) (rest := []) (C := RX10) hx hb hml hown hL hK hM hS (kX10_begins l G A V h hc2) (zg_X10_begins zw4_60) zv_X10_begins ⟨rfl, rfl⟩ ⟨Nat.le_of_ble_eq_true rfl, Nat.le_of_ble_eq_true rfl⟩ (hM.recv hK dm_16 (ze_16 G V 0 0 h) rfl) rfl hl.1 rfl (Nat.le_of_ble_eq_true rfl) dX10_person_1 ⟨Nat.zero_le _, Nat.zero_le _⟩ (fun H locs hM hS => ?_)
  refine W.eq (g2 := F0 m 4 ls []) rfl ?_
  refine lv_aload_n hx hb dX10_person_4 rfl (lv_at hl 0 rfl) ?_
  refine lv_aload_n hx hb dX10_person_5 rfl (lv_at hl 0 rfl) ?_
  obtain ⟨r4, h6, hc5, hf⟩ := bnd_some hf
  refine z_callV (As := []) (rest := [.ref (gA G 16 0 0)]) (C := RX10) hx hb hml hown hL hK hM hS (kX10_makesPerson l G A V h3 hc5) (zg_X10_makesPerson zw4_83) zv_X10_makesPerson ⟨rfl, rfl⟩ ⟨Nat.le_of_ble_eq_true rfl, Nat.le_of_ble_eq_true rfl⟩ (hM.recv hK dm_16 (ze_16 G V 0 0 h3) rfl) rfl hl.1 rfl (Nat.le_of_ble_eq_true rfl) dX10_person_6 ⟨Nat.zero_le _, Nat.zero_le _⟩ (fun H locs hM hS => ?_)
  refine W.eq (g2 := F0 m 9 ls [.int r4, .ref (gA G 16 0 0)]) rfl ?_
  obtain ⟨r7, h9, hc8, hf⟩ := bnd_some hf
  refine z_callV (As := [.int r4]) (rest := []) (C := RX10) hx hb hml hown hL hK hM hS (kX10_acted l G A V h6 r4 hc8) (zg_X10_acted zw4_75) zv_X10_acted ⟨rfl, rfl⟩ ⟨Nat.le_of_ble_eq_true rfl, Nat.le_of_ble_eq_true rfl⟩ (hM.recv hK dm_16 (ze_16 G V 0 0 h6) rfl) rfl hl.1 rfl (Nat.le_of_ble_eq_true rfl) dX10_person_9 ⟨Nat.zero_le _, Nat.zero_le _⟩ (fun H locs hM hS => ?_)
  refine W.eq (g2 := F0 m 12 ls [.int r7]) rfl ?_
  exact hQf hf hM hS dX10_person_12
abbrev rX10_stand : Room := { frames := 5, cells := 0, slots := 0, locals := 112 }
set_option maxRecDepth 100000 in
set_option maxHeartbeats 4000000 in
theorem kX10_stand (l : Launch) (G : zG) (A : Nat → Prop) (V : zV3) (h : zV2) (p1 : Int32) (p2 : Int32) {r : Int32} {h' : zV2} (hf : xX10_stand h p1 p2 = some (r, h')) : zCt l G A yX10_stand cX10_stand 3 (some .int) rX10_stand [.ref (gA G 16 0 0), .int p1, .int p2] (upG V 8 h) (some (.int r)) (upG V 8 h') := by
  refine z_CtI (by decide) (Nat.le_of_ble_eq_true rfl) ?_
  intro p e s m args below meth c Q hx hb hml hown hL hK hM hS hQ ls hl
  replace hl : lv_has ls 3 [(0, .ref (gA G 16 0 0)), (1, .int p1), (2, .int p2)] := hl
  have hQf : ∀ {a : Int32} {k : zV2} {H : Heap} {locs : List Loc} {pc : Nat} {ls : Array Slot}, some (a, k) = some (r, h') → zM G (upG V 8 k) H → va_S A s.heap H locs → decode cX10_stand pc = .ok (.ireturn, 1) → W p l e rX10_stand s m args below meth c H locs 0 0 Q (F0 m pc ls [.int a]) := by
    intro a k H locs pc ls e1 hM hS hd
    cases e1
    exact hQ H locs pc ls hM hS hd
  unfold xX10_stand at hf
  refine lv_aload_n hx hb dX10_stand_0 rfl (lv_at hl 0 rfl) ?_
  obtain ⟨r1, h3, hc2, hf⟩ := bnd_some hf
  refine z_callV (As := []) (rest := []) (C := RX10) hx hb hml hown hL hK hM hS (kX10_begins l G A V h hc2) (zg_X10_begins zw4_60) zv_X10_begins ⟨rfl, rfl⟩ ⟨Nat.le_of_ble_eq_true rfl, Nat.le_of_ble_eq_true rfl⟩ (hM.recv hK dm_16 (ze_16 G V 0 0 h) rfl) rfl hl.1 rfl (Nat.le_of_ble_eq_true rfl) dX10_stand_1 ⟨Nat.zero_le _, Nat.zero_le _⟩ (fun H locs hM hS => ?_)
  refine W.eq (g2 := F0 m 4 ls []) rfl ?_
  refine lv_aload_n hx hb dX10_stand_4 rfl (lv_at hl 0 rfl) ?_
  refine lv_aload_n hx hb dX10_stand_5 rfl (lv_at hl 0 rfl) ?_
  refine lv_iload_n hx hb dX10_stand_6 rfl (lv_at hl 1 rfl) ?_
  refine lv_iload_n hx hb dX10_stand_7 rfl (lv_at hl 2 rfl) ?_
  obtain ⟨r4, h6, hc5, hf⟩ := bnd_some hf
  refine z_callV (As := [.int p1, .int p2]) (rest := [.ref (gA G 16 0 0)]) (C := RX10) hx hb hml hown hL hK hM hS (kX10_stands l G A V h3 p1 p2 hc5) (zg_X10_stands zw4_95) zv_X10_stands ⟨rfl, rfl⟩ ⟨Nat.le_of_ble_eq_true rfl, Nat.le_of_ble_eq_true rfl⟩ (hM.recv hK dm_16 (ze_16 G V 0 0 h3) rfl) rfl hl.1 rfl (Nat.le_of_ble_eq_true rfl) dX10_stand_8 ⟨Nat.zero_le _, Nat.zero_le _⟩ (fun H locs hM hS => ?_)
  refine W.eq (g2 := F0 m 11 ls [.int r4, .ref (gA G 16 0 0)]) rfl ?_
  obtain ⟨r7, h9, hc8, hf⟩ := bnd_some hf
  refine z_callV (As := [.int r4]) (rest := []) (C := RX10) hx hb hml hown hL hK hM hS (kX10_acted l G A V h6 r4 hc8) (zg_X10_acted zw4_75) zv_X10_acted ⟨rfl, rfl⟩ ⟨Nat.le_of_ble_eq_true rfl, Nat.le_of_ble_eq_true rfl⟩ (hM.recv hK dm_16 (ze_16 G V 0 0 h6) rfl) rfl hl.1 rfl (Nat.le_of_ble_eq_true rfl) dX10_stand_11 ⟨Nat.zero_le _, Nat.zero_le _⟩ (fun H locs hM hS => ?_)
  refine W.eq (g2 := F0 m 14 ls [.int r7]) rfl ?_
  exact hQf hf hM hS dX10_stand_14
abbrev rX10_lend : Room := { frames := 4, cells := 0, slots := 0, locals := 90 }
set_option maxRecDepth 100000 in
set_option maxHeartbeats 4000000 in
theorem kX10_lend (l : Launch) (G : zG) (A : Nat → Prop) (V : zV3) (h : zV2) (p1 : Int32) (p2 : Int32) {r : Int32} {h' : zV2} (hf : xX10_lend h p1 p2 = some (r, h')) : zCt l G A yX10_lend cX10_lend 3 (some .int) rX10_lend [.ref (gA G 16 0 0), .int p1, .int p2] (upG V 8 h) (some (.int r)) (upG V 8 h') := by
  refine z_CtI (by decide) (Nat.le_of_ble_eq_true rfl) ?_
  intro p e s m args below meth c Q hx hb hml hown hL hK hM hS hQ ls hl
  replace hl : lv_has ls 3 [(0, .ref (gA G 16 0 0)), (1, .int p1), (2, .int p2)] := hl
  have hQf : ∀ {a : Int32} {k : zV2} {H : Heap} {locs : List Loc} {pc : Nat} {ls : Array Slot}, some (a, k) = some (r, h') → zM G (upG V 8 k) H → va_S A s.heap H locs → decode cX10_lend pc = .ok (.ireturn, 1) → W p l e rX10_lend s m args below meth c H locs 0 0 Q (F0 m pc ls [.int a]) := by
    intro a k H locs pc ls e1 hM hS hd
    cases e1
    exact hQ H locs pc ls hM hS hd
  unfold xX10_lend at hf
  refine lv_aload_n hx hb dX10_lend_0 rfl (lv_at hl 0 rfl) ?_
  obtain ⟨r1, h3, hc2, hf⟩ := bnd_some hf
  refine z_callV (As := []) (rest := []) (C := RX10) hx hb hml hown hL hK hM hS (kX10_begins l G A V h hc2) (zg_X10_begins zw4_60) zv_X10_begins ⟨rfl, rfl⟩ ⟨Nat.le_of_ble_eq_true rfl, Nat.le_of_ble_eq_true rfl⟩ (hM.recv hK dm_16 (ze_16 G V 0 0 h) rfl) rfl hl.1 rfl (Nat.le_of_ble_eq_true rfl) dX10_lend_1 ⟨Nat.zero_le _, Nat.zero_le _⟩ (fun H locs hM hS => ?_)
  refine W.eq (g2 := F0 m 4 ls []) rfl ?_
  refine lv_aload_n hx hb dX10_lend_4 rfl (lv_at hl 0 rfl) ?_
  refine lv_aload_n hx hb dX10_lend_5 rfl (lv_at hl 0 rfl) ?_
  refine lv_iload_n hx hb dX10_lend_6 rfl (lv_at hl 1 rfl) ?_
  refine lv_iload_n hx hb dX10_lend_7 rfl (lv_at hl 2 rfl) ?_
  obtain ⟨r4, h6, hc5, hf⟩ := bnd_some hf
  refine z_callV (As := [.int p1, .int p2]) (rest := [.ref (gA G 16 0 0)]) (C := RX10) hx hb hml hown hL hK hM hS (kX10_lends l G A V h3 p1 p2 hc5) (zg_X10_lends zw4_139) zv_X10_lends ⟨rfl, rfl⟩ ⟨Nat.le_of_ble_eq_true rfl, Nat.le_of_ble_eq_true rfl⟩ (hM.recv hK dm_16 (ze_16 G V 0 0 h3) rfl) rfl hl.1 rfl (Nat.le_of_ble_eq_true rfl) dX10_lend_8 ⟨Nat.zero_le _, Nat.zero_le _⟩ (fun H locs hM hS => ?_)
  refine W.eq (g2 := F0 m 11 ls [.int r4, .ref (gA G 16 0 0)]) rfl ?_
  obtain ⟨r7, h9, hc8, hf⟩ := bnd_some hf
  refine z_callV (As := [.int r4]) (rest := []) (C := RX10) hx hb hml hown hL hK hM hS (kX10_acted l G A V h6 r4 hc8) (zg_X10_acted zw4_75) zv_X10_acted ⟨rfl, rfl⟩ ⟨Nat.le_of_ble_eq_true rfl, Nat.le_of_ble_eq_true rfl⟩ (hM.recv hK dm_16 (ze_16 G V 0 0 h6) rfl) rfl hl.1 rfl (Nat.le_of_ble_eq_true rfl) dX10_lend_11 ⟨Nat.zero_le _, Nat.zero_le _⟩ (fun H locs hM hS => ?_)
  refine W.eq (g2 := F0 m 14 ls [.int r7]) rfl ?_
  exact hQf hf hM hS dX10_lend_14
abbrev rX10_giveBack : Room := { frames := 5, cells := 0, slots := 0, locals := 113 }
set_option maxRecDepth 100000 in
set_option maxHeartbeats 4000000 in
theorem kX10_giveBack (l : Launch) (G : zG) (A : Nat → Prop) (V : zV3) (h : zV2) (p1 : Int32) {r : Int32} {h' : zV2} (hf : xX10_giveBack h p1 = some (r, h')) : zCt l G A yX10_giveBack cX10_giveBack 2 (some .int) rX10_giveBack [.ref (gA G 16 0 0), .int p1] (upG V 8 h) (some (.int r)) (upG V 8 h') := by
  refine z_CtI (by decide) (Nat.le_of_ble_eq_true rfl) ?_
  intro p e s m args below meth c Q hx hb hml hown hL hK hM hS hQ ls hl
  replace hl : lv_has ls 2 [(0, .ref (gA G 16 0 0)), (1, .int p1)] := hl
  have hQf : ∀ {a : Int32} {k : zV2} {H : Heap} {locs : List Loc} {pc : Nat} {ls : Array Slot}, some (a, k) = some (r, h') → zM G (upG V 8 k) H → va_S A s.heap H locs → decode cX10_giveBack pc = .ok (.ireturn, 1) → W p l e rX10_giveBack s m args below meth c H locs 0 0 Q (F0 m pc ls [.int a]) := by
    intro a k H locs pc ls e1 hM hS hd
    cases e1
    exact hQ H locs pc ls hM hS hd
  unfold xX10_giveBack at hf
  refine lv_aload_n hx hb dX10_giveBack_0 rfl (lv_at hl 0 rfl) ?_
  obtain ⟨r1, h3, hc2, hf⟩ := bnd_some hf
  refine z_callV (As := []) (rest := []) (C := RX10) hx hb hml hown hL hK hM hS (kX10_begins l G A V h hc2) (zg_X10_begins zw4_60) zv_X10_begins ⟨rfl, rfl⟩ ⟨Nat.le_of_ble_eq_true rfl, Nat.le_of_ble_eq_true rfl⟩ (hM.recv hK dm_16 (ze_16 G V 0 0 h) rfl) rfl hl.1 rfl (Nat.le_of_ble_eq_true rfl) dX10_giveBack_1 ⟨Nat.zero_le _, Nat.zero_le _⟩ (fun H locs hM hS => ?_)
  refine W.eq (g2 := F0 m 4 ls []) rfl ?_
  refine lv_aload_n hx hb dX10_giveBack_4 rfl (lv_at hl 0 rfl) ?_
  refine lv_aload_n hx hb dX10_giveBack_5 rfl (lv_at hl 0 rfl) ?_
  refine lv_iload_n hx hb dX10_giveBack_6 rfl (lv_at hl 1 rfl) ?_
  obtain ⟨r4, h6, hc5, hf⟩ := bnd_some hf
  refine z_callV (As := [.int p1]) (rest := [.ref (gA G 16 0 0)]) (C := RX10) hx hb hml hown hL hK hM hS (kX10_givesBack l G A V h3 p1 hc5) (zg_X10_givesBack zw4_167) zv_X10_givesBack ⟨rfl, rfl⟩ ⟨Nat.le_of_ble_eq_true rfl, Nat.le_of_ble_eq_true rfl⟩ (hM.recv hK dm_16 (ze_16 G V 0 0 h3) rfl) rfl hl.1 rfl (Nat.le_of_ble_eq_true rfl) dX10_giveBack_7 ⟨Nat.zero_le _, Nat.zero_le _⟩ (fun H locs hM hS => ?_)
  refine W.eq (g2 := F0 m 10 ls [.int r4, .ref (gA G 16 0 0)]) rfl ?_
  obtain ⟨r7, h9, hc8, hf⟩ := bnd_some hf
  refine z_callV (As := [.int r4]) (rest := []) (C := RX10) hx hb hml hown hL hK hM hS (kX10_acted l G A V h6 r4 hc8) (zg_X10_acted zw4_75) zv_X10_acted ⟨rfl, rfl⟩ ⟨Nat.le_of_ble_eq_true rfl, Nat.le_of_ble_eq_true rfl⟩ (hM.recv hK dm_16 (ze_16 G V 0 0 h6) rfl) rfl hl.1 rfl (Nat.le_of_ble_eq_true rfl) dX10_giveBack_10 ⟨Nat.zero_le _, Nat.zero_le _⟩ (fun H locs hM hS => ?_)
  refine W.eq (g2 := F0 m 13 ls [.int r7]) rfl ?_
  exact hQf hf hM hS dX10_giveBack_13
abbrev rX10_renew : Room := { frames := 3, cells := 0, slots := 0, locals := 66 }
set_option maxRecDepth 100000 in
set_option maxHeartbeats 4000000 in
theorem kX10_renew (l : Launch) (G : zG) (A : Nat → Prop) (V : zV3) (h : zV2) (p1 : Int32) {r : Int32} {h' : zV2} (hf : xX10_renew h p1 = some (r, h')) : zCt l G A yX10_renew cX10_renew 2 (some .int) rX10_renew [.ref (gA G 16 0 0), .int p1] (upG V 8 h) (some (.int r)) (upG V 8 h') := by
  refine z_CtI (by decide) (Nat.le_of_ble_eq_true rfl) ?_
  intro p e s m args below meth c Q hx hb hml hown hL hK hM hS hQ ls hl
  replace hl : lv_has ls 2 [(0, .ref (gA G 16 0 0)), (1, .int p1)] := hl
  have hQf : ∀ {a : Int32} {k : zV2} {H : Heap} {locs : List Loc} {pc : Nat} {ls : Array Slot}, some (a, k) = some (r, h') → zM G (upG V 8 k) H → va_S A s.heap H locs → decode cX10_renew pc = .ok (.ireturn, 1) → W p l e rX10_renew s m args below meth c H locs 0 0 Q (F0 m pc ls [.int a]) := by
    intro a k H locs pc ls e1 hM hS hd
    cases e1
    exact hQ H locs pc ls hM hS hd
  unfold xX10_renew at hf
  refine lv_aload_n hx hb dX10_renew_0 rfl (lv_at hl 0 rfl) ?_
  obtain ⟨r1, h3, hc2, hf⟩ := bnd_some hf
  refine z_callV (As := []) (rest := []) (C := RX10) hx hb hml hown hL hK hM hS (kX10_begins l G A V h hc2) (zg_X10_begins zw4_60) zv_X10_begins ⟨rfl, rfl⟩ ⟨Nat.le_of_ble_eq_true rfl, Nat.le_of_ble_eq_true rfl⟩ (hM.recv hK dm_16 (ze_16 G V 0 0 h) rfl) rfl hl.1 rfl (Nat.le_of_ble_eq_true rfl) dX10_renew_1 ⟨Nat.zero_le _, Nat.zero_le _⟩ (fun H locs hM hS => ?_)
  refine W.eq (g2 := F0 m 4 ls []) rfl ?_
  refine lv_aload_n hx hb dX10_renew_4 rfl (lv_at hl 0 rfl) ?_
  refine lv_aload_n hx hb dX10_renew_5 rfl (lv_at hl 0 rfl) ?_
  refine lv_iload_n hx hb dX10_renew_6 rfl (lv_at hl 1 rfl) ?_
  obtain ⟨r4, h6, hc5, hf⟩ := bnd_some hf
  refine z_callV (As := [.int p1]) (rest := [.ref (gA G 16 0 0)]) (C := RX10) hx hb hml hown hL hK hM hS (kX10_renews l G A V h3 p1 hc5) (zg_X10_renews zw4_187) zv_X10_renews ⟨rfl, rfl⟩ ⟨Nat.le_of_ble_eq_true rfl, Nat.le_of_ble_eq_true rfl⟩ (hM.recv hK dm_16 (ze_16 G V 0 0 h3) rfl) rfl hl.1 rfl (Nat.le_of_ble_eq_true rfl) dX10_renew_7 ⟨Nat.zero_le _, Nat.zero_le _⟩ (fun H locs hM hS => ?_)
  refine W.eq (g2 := F0 m 10 ls [.int r4, .ref (gA G 16 0 0)]) rfl ?_
  obtain ⟨r7, h9, hc8, hf⟩ := bnd_some hf
  refine z_callV (As := [.int r4]) (rest := []) (C := RX10) hx hb hml hown hL hK hM hS (kX10_acted l G A V h6 r4 hc8) (zg_X10_acted zw4_75) zv_X10_acted ⟨rfl, rfl⟩ ⟨Nat.le_of_ble_eq_true rfl, Nat.le_of_ble_eq_true rfl⟩ (hM.recv hK dm_16 (ze_16 G V 0 0 h6) rfl) rfl hl.1 rfl (Nat.le_of_ble_eq_true rfl) dX10_renew_10 ⟨Nat.zero_le _, Nat.zero_le _⟩ (fun H locs hM hS => ?_)
  refine W.eq (g2 := F0 m 13 ls [.int r7]) rfl ?_
  exact hQf hf hM hS dX10_renew_13
abbrev rX10_lose : Room := { frames := 5, cells := 0, slots := 0, locals := 113 }
set_option maxRecDepth 100000 in
set_option maxHeartbeats 4000000 in
theorem kX10_lose (l : Launch) (G : zG) (A : Nat → Prop) (V : zV3) (h : zV2) (p1 : Int32) {r : Int32} {h' : zV2} (hf : xX10_lose h p1 = some (r, h')) : zCt l G A yX10_lose cX10_lose 2 (some .int) rX10_lose [.ref (gA G 16 0 0), .int p1] (upG V 8 h) (some (.int r)) (upG V 8 h') := by
  refine z_CtI (by decide) (Nat.le_of_ble_eq_true rfl) ?_
  intro p e s m args below meth c Q hx hb hml hown hL hK hM hS hQ ls hl
  replace hl : lv_has ls 2 [(0, .ref (gA G 16 0 0)), (1, .int p1)] := hl
  have hQf : ∀ {a : Int32} {k : zV2} {H : Heap} {locs : List Loc} {pc : Nat} {ls : Array Slot}, some (a, k) = some (r, h') → zM G (upG V 8 k) H → va_S A s.heap H locs → decode cX10_lose pc = .ok (.ireturn, 1) → W p l e rX10_lose s m args below meth c H locs 0 0 Q (F0 m pc ls [.int a]) := by
    intro a k H locs pc ls e1 hM hS hd
    cases e1
    exact hQ H locs pc ls hM hS hd
  unfold xX10_lose at hf
  refine lv_aload_n hx hb dX10_lose_0 rfl (lv_at hl 0 rfl) ?_
  obtain ⟨r1, h3, hc2, hf⟩ := bnd_some hf
  refine z_callV (As := []) (rest := []) (C := RX10) hx hb hml hown hL hK hM hS (kX10_begins l G A V h hc2) (zg_X10_begins zw4_60) zv_X10_begins ⟨rfl, rfl⟩ ⟨Nat.le_of_ble_eq_true rfl, Nat.le_of_ble_eq_true rfl⟩ (hM.recv hK dm_16 (ze_16 G V 0 0 h) rfl) rfl hl.1 rfl (Nat.le_of_ble_eq_true rfl) dX10_lose_1 ⟨Nat.zero_le _, Nat.zero_le _⟩ (fun H locs hM hS => ?_)
  refine W.eq (g2 := F0 m 4 ls []) rfl ?_
  refine lv_aload_n hx hb dX10_lose_4 rfl (lv_at hl 0 rfl) ?_
  refine lv_aload_n hx hb dX10_lose_5 rfl (lv_at hl 0 rfl) ?_
  refine lv_iload_n hx hb dX10_lose_6 rfl (lv_at hl 1 rfl) ?_
  obtain ⟨r4, h6, hc5, hf⟩ := bnd_some hf
  refine z_callV (As := [.int p1]) (rest := [.ref (gA G 16 0 0)]) (C := RX10) hx hb hml hown hL hK hM hS (kX10_loses l G A V h3 p1 hc5) (zg_X10_loses zw4_195) zv_X10_loses ⟨rfl, rfl⟩ ⟨Nat.le_of_ble_eq_true rfl, Nat.le_of_ble_eq_true rfl⟩ (hM.recv hK dm_16 (ze_16 G V 0 0 h3) rfl) rfl hl.1 rfl (Nat.le_of_ble_eq_true rfl) dX10_lose_7 ⟨Nat.zero_le _, Nat.zero_le _⟩ (fun H locs hM hS => ?_)
  refine W.eq (g2 := F0 m 10 ls [.int r4, .ref (gA G 16 0 0)]) rfl ?_
  obtain ⟨r7, h9, hc8, hf⟩ := bnd_some hf
  refine z_callV (As := [.int r4]) (rest := []) (C := RX10) hx hb hml hown hL hK hM hS (kX10_acted l G A V h6 r4 hc8) (zg_X10_acted zw4_75) zv_X10_acted ⟨rfl, rfl⟩ ⟨Nat.le_of_ble_eq_true rfl, Nat.le_of_ble_eq_true rfl⟩ (hM.recv hK dm_16 (ze_16 G V 0 0 h6) rfl) rfl hl.1 rfl (Nat.le_of_ble_eq_true rfl) dX10_lose_10 ⟨Nat.zero_le _, Nat.zero_le _⟩ (fun H locs hM hS => ?_)
  refine W.eq (g2 := F0 m 13 ls [.int r7]) rfl ?_
  exact hQf hf hM hS dX10_lose_13
abbrev rX10_wish : Room := { frames := 3, cells := 0, slots := 0, locals := 68 }
set_option maxRecDepth 100000 in
set_option maxHeartbeats 4000000 in
theorem kX10_wish (l : Launch) (G : zG) (A : Nat → Prop) (V : zV3) (h : zV2) (p1 : Int32) (p2 : Int32) {r : Int32} {h' : zV2} (hf : xX10_wish h p1 p2 = some (r, h')) : zCt l G A yX10_wish cX10_wish 3 (some .int) rX10_wish [.ref (gA G 16 0 0), .int p1, .int p2] (upG V 8 h) (some (.int r)) (upG V 8 h') := by
  refine z_CtI (by decide) (Nat.le_of_ble_eq_true rfl) ?_
  intro p e s m args below meth c Q hx hb hml hown hL hK hM hS hQ ls hl
  replace hl : lv_has ls 3 [(0, .ref (gA G 16 0 0)), (1, .int p1), (2, .int p2)] := hl
  have hQf : ∀ {a : Int32} {k : zV2} {H : Heap} {locs : List Loc} {pc : Nat} {ls : Array Slot}, some (a, k) = some (r, h') → zM G (upG V 8 k) H → va_S A s.heap H locs → decode cX10_wish pc = .ok (.ireturn, 1) → W p l e rX10_wish s m args below meth c H locs 0 0 Q (F0 m pc ls [.int a]) := by
    intro a k H locs pc ls e1 hM hS hd
    cases e1
    exact hQ H locs pc ls hM hS hd
  unfold xX10_wish at hf
  refine lv_aload_n hx hb dX10_wish_0 rfl (lv_at hl 0 rfl) ?_
  obtain ⟨r1, h3, hc2, hf⟩ := bnd_some hf
  refine z_callV (As := []) (rest := []) (C := RX10) hx hb hml hown hL hK hM hS (kX10_begins l G A V h hc2) (zg_X10_begins zw4_60) zv_X10_begins ⟨rfl, rfl⟩ ⟨Nat.le_of_ble_eq_true rfl, Nat.le_of_ble_eq_true rfl⟩ (hM.recv hK dm_16 (ze_16 G V 0 0 h) rfl) rfl hl.1 rfl (Nat.le_of_ble_eq_true rfl) dX10_wish_1 ⟨Nat.zero_le _, Nat.zero_le _⟩ (fun H locs hM hS => ?_)
  refine W.eq (g2 := F0 m 4 ls []) rfl ?_
  refine lv_aload_n hx hb dX10_wish_4 rfl (lv_at hl 0 rfl) ?_
  refine lv_aload_n hx hb dX10_wish_5 rfl (lv_at hl 0 rfl) ?_
  refine lv_iload_n hx hb dX10_wish_6 rfl (lv_at hl 1 rfl) ?_
  refine lv_iload_n hx hb dX10_wish_7 rfl (lv_at hl 2 rfl) ?_
  obtain ⟨r4, h6, hc5, hf⟩ := bnd_some hf
  refine z_callV (As := [.int p1, .int p2]) (rest := [.ref (gA G 16 0 0)]) (C := RX10) hx hb hml hown hL hK hM hS (kX10_wishes l G A V h3 p1 p2 hc5) (zg_X10_wishes zw4_211) zv_X10_wishes ⟨rfl, rfl⟩ ⟨Nat.le_of_ble_eq_true rfl, Nat.le_of_ble_eq_true rfl⟩ (hM.recv hK dm_16 (ze_16 G V 0 0 h3) rfl) rfl hl.1 rfl (Nat.le_of_ble_eq_true rfl) dX10_wish_8 ⟨Nat.zero_le _, Nat.zero_le _⟩ (fun H locs hM hS => ?_)
  refine W.eq (g2 := F0 m 11 ls [.int r4, .ref (gA G 16 0 0)]) rfl ?_
  obtain ⟨r7, h9, hc8, hf⟩ := bnd_some hf
  refine z_callV (As := [.int r4]) (rest := []) (C := RX10) hx hb hml hown hL hK hM hS (kX10_acted l G A V h6 r4 hc8) (zg_X10_acted zw4_75) zv_X10_acted ⟨rfl, rfl⟩ ⟨Nat.le_of_ble_eq_true rfl, Nat.le_of_ble_eq_true rfl⟩ (hM.recv hK dm_16 (ze_16 G V 0 0 h6) rfl) rfl hl.1 rfl (Nat.le_of_ble_eq_true rfl) dX10_wish_11 ⟨Nat.zero_le _, Nat.zero_le _⟩ (fun H locs hM hS => ?_)
  refine W.eq (g2 := F0 m 14 ls [.int r7]) rfl ?_
  exact hQf hf hM hS dX10_wish_14
abbrev rX10_noWish : Room := { frames := 3, cells := 0, slots := 0, locals := 67 }
set_option maxRecDepth 100000 in
set_option maxHeartbeats 4000000 in
theorem kX10_noWish (l : Launch) (G : zG) (A : Nat → Prop) (V : zV3) (h : zV2) (p1 : Int32) {r : Int32} {h' : zV2} (hf : xX10_noWish h p1 = some (r, h')) : zCt l G A yX10_noWish cX10_noWish 2 (some .int) rX10_noWish [.ref (gA G 16 0 0), .int p1] (upG V 8 h) (some (.int r)) (upG V 8 h') := by
  refine z_CtI (by decide) (Nat.le_of_ble_eq_true rfl) ?_
  intro p e s m args below meth c Q hx hb hml hown hL hK hM hS hQ ls hl
  replace hl : lv_has ls 2 [(0, .ref (gA G 16 0 0)), (1, .int p1)] := hl
  have hQf : ∀ {a : Int32} {k : zV2} {H : Heap} {locs : List Loc} {pc : Nat} {ls : Array Slot}, some (a, k) = some (r, h') → zM G (upG V 8 k) H → va_S A s.heap H locs → decode cX10_noWish pc = .ok (.ireturn, 1) → W p l e rX10_noWish s m args below meth c H locs 0 0 Q (F0 m pc ls [.int a]) := by
    intro a k H locs pc ls e1 hM hS hd
    cases e1
    exact hQ H locs pc ls hM hS hd
  unfold xX10_noWish at hf
  refine lv_aload_n hx hb dX10_noWish_0 rfl (lv_at hl 0 rfl) ?_
  obtain ⟨r1, h3, hc2, hf⟩ := bnd_some hf
  refine z_callV (As := []) (rest := []) (C := RX10) hx hb hml hown hL hK hM hS (kX10_begins l G A V h hc2) (zg_X10_begins zw4_60) zv_X10_begins ⟨rfl, rfl⟩ ⟨Nat.le_of_ble_eq_true rfl, Nat.le_of_ble_eq_true rfl⟩ (hM.recv hK dm_16 (ze_16 G V 0 0 h) rfl) rfl hl.1 rfl (Nat.le_of_ble_eq_true rfl) dX10_noWish_1 ⟨Nat.zero_le _, Nat.zero_le _⟩ (fun H locs hM hS => ?_)
  refine W.eq (g2 := F0 m 4 ls []) rfl ?_
  refine lv_aload_n hx hb dX10_noWish_4 rfl (lv_at hl 0 rfl) ?_
  refine lv_aload_n hx hb dX10_noWish_5 rfl (lv_at hl 0 rfl) ?_
  refine lv_iload_n hx hb dX10_noWish_6 rfl (lv_at hl 1 rfl) ?_
  obtain ⟨r4, h6, hc5, hf⟩ := bnd_some hf
  refine z_callV (As := [.int p1]) (rest := [.ref (gA G 16 0 0)]) (C := RX10) hx hb hml hown hL hK hM hS (kX10_wishesNoMore l G A V h3 p1 hc5) (zg_X10_wishesNoMore zw4_219) zv_X10_wishesNoMore ⟨rfl, rfl⟩ ⟨Nat.le_of_ble_eq_true rfl, Nat.le_of_ble_eq_true rfl⟩ (hM.recv hK dm_16 (ze_16 G V 0 0 h3) rfl) rfl hl.1 rfl (Nat.le_of_ble_eq_true rfl) dX10_noWish_7 ⟨Nat.zero_le _, Nat.zero_le _⟩ (fun H locs hM hS => ?_)
  refine W.eq (g2 := F0 m 10 ls [.int r4, .ref (gA G 16 0 0)]) rfl ?_
  obtain ⟨r7, h9, hc8, hf⟩ := bnd_some hf
  refine z_callV (As := [.int r4]) (rest := []) (C := RX10) hx hb hml hown hL hK hM hS (kX10_acted l G A V h6 r4 hc8) (zg_X10_acted zw4_75) zv_X10_acted ⟨rfl, rfl⟩ ⟨Nat.le_of_ble_eq_true rfl, Nat.le_of_ble_eq_true rfl⟩ (hM.recv hK dm_16 (ze_16 G V 0 0 h6) rfl) rfl hl.1 rfl (Nat.le_of_ble_eq_true rfl) dX10_noWish_10 ⟨Nat.zero_le _, Nat.zero_le _⟩ (fun H locs hM hS => ?_)
  refine W.eq (g2 := F0 m 13 ls [.int r7]) rfl ?_
  exact hQf hf hM hS dX10_noWish_13
abbrev rX10_swap : Room := { frames := 6, cells := 0, slots := 0, locals := 137 }
set_option maxRecDepth 100000 in
set_option maxHeartbeats 4000000 in
theorem kX10_swap (l : Launch) (G : zG) (A : Nat → Prop) (V : zV3) (h : zV2) {r : Int32} {h' : zV2} (hf : xX10_swap h  = some (r, h')) : zCt l G A yX10_swap cX10_swap 1 (some .int) rX10_swap [.ref (gA G 16 0 0)] (upG V 8 h) (some (.int r)) (upG V 8 h') := by
  refine z_CtI (by decide) (Nat.le_of_ble_eq_true rfl) ?_
  intro p e s m args below meth c Q hx hb hml hown hL hK hM hS hQ ls hl
  replace hl : lv_has ls 1 [(0, .ref (gA G 16 0 0))] := hl
  have hQf : ∀ {a : Int32} {k : zV2} {H : Heap} {locs : List Loc} {pc : Nat} {ls : Array Slot}, some (a, k) = some (r, h') → zM G (upG V 8 k) H → va_S A s.heap H locs → decode cX10_swap pc = .ok (.ireturn, 1) → W p l e rX10_swap s m args below meth c H locs 0 0 Q (F0 m pc ls [.int a]) := by
    intro a k H locs pc ls e1 hM hS hd
    cases e1
    exact hQ H locs pc ls hM hS hd
  unfold xX10_swap at hf
  refine lv_aload_n hx hb dX10_swap_0 rfl (lv_at hl 0 rfl) ?_
  obtain ⟨r1, h3, hc2, hf⟩ := bnd_some hf
  refine z_callV (As := []) (rest := []) (C := RX10) hx hb hml hown hL hK hM hS (kX10_begins l G A V h hc2) (zg_X10_begins zw4_60) zv_X10_begins ⟨rfl, rfl⟩ ⟨Nat.le_of_ble_eq_true rfl, Nat.le_of_ble_eq_true rfl⟩ (hM.recv hK dm_16 (ze_16 G V 0 0 h) rfl) rfl hl.1 rfl (Nat.le_of_ble_eq_true rfl) dX10_swap_1 ⟨Nat.zero_le _, Nat.zero_le _⟩ (fun H locs hM hS => ?_)
  refine W.eq (g2 := F0 m 4 ls []) rfl ?_
  refine lv_aload_n hx hb dX10_swap_4 rfl (lv_at hl 0 rfl) ?_
  refine lv_aload_n hx hb dX10_swap_5 rfl (lv_at hl 0 rfl) ?_
  obtain ⟨r4, h6, hc5, hf⟩ := bnd_some hf
  refine z_callV (As := []) (rest := [.ref (gA G 16 0 0)]) (C := RX10) hx hb hml hown hL hK hM hS (kX10_swaps l G A V h3 hc5) (zg_X10_swaps zw4_227) zv_X10_swaps ⟨rfl, rfl⟩ ⟨Nat.le_of_ble_eq_true rfl, Nat.le_of_ble_eq_true rfl⟩ (hM.recv hK dm_16 (ze_16 G V 0 0 h3) rfl) rfl hl.1 rfl (Nat.le_of_ble_eq_true rfl) dX10_swap_6 ⟨Nat.zero_le _, Nat.zero_le _⟩ (fun H locs hM hS => ?_)
  refine W.eq (g2 := F0 m 9 ls [.int r4, .ref (gA G 16 0 0)]) rfl ?_
  obtain ⟨r7, h9, hc8, hf⟩ := bnd_some hf
  refine z_callV (As := [.int r4]) (rest := []) (C := RX10) hx hb hml hown hL hK hM hS (kX10_acted l G A V h6 r4 hc8) (zg_X10_acted zw4_75) zv_X10_acted ⟨rfl, rfl⟩ ⟨Nat.le_of_ble_eq_true rfl, Nat.le_of_ble_eq_true rfl⟩ (hM.recv hK dm_16 (ze_16 G V 0 0 h6) rfl) rfl hl.1 rfl (Nat.le_of_ble_eq_true rfl) dX10_swap_9 ⟨Nat.zero_le _, Nat.zero_le _⟩ (fun H locs hM hS => ?_)
  refine W.eq (g2 := F0 m 12 ls [.int r7]) rfl ?_
  exact hQf hf hM hS dX10_swap_12
abbrev rX10_pay : Room := { frames := 3, cells := 0, slots := 0, locals := 65 }
set_option maxRecDepth 100000 in
set_option maxHeartbeats 4000000 in
theorem kX10_pay (l : Launch) (G : zG) (A : Nat → Prop) (V : zV3) (h : zV2) (p1 : Int32) (p2 : Int32) {r : Int32} {h' : zV2} (hf : xX10_pay h p1 p2 = some (r, h')) : zCt l G A yX10_pay cX10_pay 3 (some .int) rX10_pay [.ref (gA G 16 0 0), .int p1, .int p2] (upG V 8 h) (some (.int r)) (upG V 8 h') := by
  refine z_CtI (by decide) (Nat.le_of_ble_eq_true rfl) ?_
  intro p e s m args below meth c Q hx hb hml hown hL hK hM hS hQ ls hl
  replace hl : lv_has ls 3 [(0, .ref (gA G 16 0 0)), (1, .int p1), (2, .int p2)] := hl
  have hQf : ∀ {a : Int32} {k : zV2} {H : Heap} {locs : List Loc} {pc : Nat} {ls : Array Slot}, some (a, k) = some (r, h') → zM G (upG V 8 k) H → va_S A s.heap H locs → decode cX10_pay pc = .ok (.ireturn, 1) → W p l e rX10_pay s m args below meth c H locs 0 0 Q (F0 m pc ls [.int a]) := by
    intro a k H locs pc ls e1 hM hS hd
    cases e1
    exact hQ H locs pc ls hM hS hd
  unfold xX10_pay at hf
  refine lv_aload_n hx hb dX10_pay_0 rfl (lv_at hl 0 rfl) ?_
  obtain ⟨r1, h3, hc2, hf⟩ := bnd_some hf
  refine z_callV (As := []) (rest := []) (C := RX10) hx hb hml hown hL hK hM hS (kX10_begins l G A V h hc2) (zg_X10_begins zw4_60) zv_X10_begins ⟨rfl, rfl⟩ ⟨Nat.le_of_ble_eq_true rfl, Nat.le_of_ble_eq_true rfl⟩ (hM.recv hK dm_16 (ze_16 G V 0 0 h) rfl) rfl hl.1 rfl (Nat.le_of_ble_eq_true rfl) dX10_pay_1 ⟨Nat.zero_le _, Nat.zero_le _⟩ (fun H locs hM hS => ?_)
  refine W.eq (g2 := F0 m 4 ls []) rfl ?_
  refine lv_aload_n hx hb dX10_pay_4 rfl (lv_at hl 0 rfl) ?_
  refine lv_aload_n hx hb dX10_pay_5 rfl (lv_at hl 0 rfl) ?_
  refine lv_iload_n hx hb dX10_pay_6 rfl (lv_at hl 1 rfl) ?_
  refine lv_iload_n hx hb dX10_pay_7 rfl (lv_at hl 2 rfl) ?_
  obtain ⟨r4, h6, hc5, hf⟩ := bnd_some hf
  refine z_callV (As := [.int p1, .int p2]) (rest := [.ref (gA G 16 0 0)]) (C := RX10) hx hb hml hown hL hK hM hS (kX10_pays l G A V h3 p1 p2 hc5) (zg_X10_pays zw5_19) zv_X10_pays ⟨rfl, rfl⟩ ⟨Nat.le_of_ble_eq_true rfl, Nat.le_of_ble_eq_true rfl⟩ (hM.recv hK dm_16 (ze_16 G V 0 0 h3) rfl) rfl hl.1 rfl (Nat.le_of_ble_eq_true rfl) dX10_pay_8 ⟨Nat.zero_le _, Nat.zero_le _⟩ (fun H locs hM hS => ?_)
  refine W.eq (g2 := F0 m 11 ls [.int r4, .ref (gA G 16 0 0)]) rfl ?_
  obtain ⟨r7, h9, hc8, hf⟩ := bnd_some hf
  refine z_callV (As := [.int r4]) (rest := []) (C := RX10) hx hb hml hown hL hK hM hS (kX10_acted l G A V h6 r4 hc8) (zg_X10_acted zw4_75) zv_X10_acted ⟨rfl, rfl⟩ ⟨Nat.le_of_ble_eq_true rfl, Nat.le_of_ble_eq_true rfl⟩ (hM.recv hK dm_16 (ze_16 G V 0 0 h6) rfl) rfl hl.1 rfl (Nat.le_of_ble_eq_true rfl) dX10_pay_11 ⟨Nat.zero_le _, Nat.zero_le _⟩ (fun H locs hM hS => ?_)
  refine W.eq (g2 := F0 m 14 ls [.int r7]) rfl ?_
  exact hQf hf hM hS dX10_pay_14
abbrev rX10_pass : Room := { frames := 7, cells := 0, slots := 0, locals := 158 }
set_option maxRecDepth 100000 in
set_option maxHeartbeats 4000000 in
theorem kX10_pass (l : Launch) (G : zG) (A : Nat → Prop) (V : zV3) (h : zV2) (p1 : Int32) {r : Int32} {h' : zV2} (hf : xX10_pass h p1 = some (r, h')) : zCt l G A yX10_pass cX10_pass 2 (some .int) rX10_pass [.ref (gA G 16 0 0), .int p1] (upG V 8 h) (some (.int r)) (upG V 8 h') := by
  refine z_CtI (by decide) (Nat.le_of_ble_eq_true rfl) ?_
  intro p e s m args below meth c Q hx hb hml hown hL hK hM hS hQ ls hl
  replace hl : lv_has ls 2 [(0, .ref (gA G 16 0 0)), (1, .int p1)] := hl
  have hQf : ∀ {a : Int32} {k : zV2} {H : Heap} {locs : List Loc} {pc : Nat} {ls : Array Slot}, some (a, k) = some (r, h') → zM G (upG V 8 k) H → va_S A s.heap H locs → decode cX10_pass pc = .ok (.ireturn, 1) → W p l e rX10_pass s m args below meth c H locs 0 0 Q (F0 m pc ls [.int a]) := by
    intro a k H locs pc ls e1 hM hS hd
    cases e1
    exact hQ H locs pc ls hM hS hd
  unfold xX10_pass at hf
  refine lv_aload_n hx hb dX10_pass_0 rfl (lv_at hl 0 rfl) ?_
  obtain ⟨r1, h3, hc2, hf⟩ := bnd_some hf
  refine z_callV (As := []) (rest := []) (C := RX10) hx hb hml hown hL hK hM hS (kX10_begins l G A V h hc2) (zg_X10_begins zw4_60) zv_X10_begins ⟨rfl, rfl⟩ ⟨Nat.le_of_ble_eq_true rfl, Nat.le_of_ble_eq_true rfl⟩ (hM.recv hK dm_16 (ze_16 G V 0 0 h) rfl) rfl hl.1 rfl (Nat.le_of_ble_eq_true rfl) dX10_pass_1 ⟨Nat.zero_le _, Nat.zero_le _⟩ (fun H locs hM hS => ?_)
  refine W.eq (g2 := F0 m 4 ls []) rfl ?_
  refine lv_aload_n hx hb dX10_pass_4 rfl (lv_at hl 0 rfl) ?_
  refine lv_aload_n hx hb dX10_pass_5 rfl (lv_at hl 0 rfl) ?_
  refine lv_iload_n hx hb dX10_pass_6 rfl (lv_at hl 1 rfl) ?_
  obtain ⟨r4, h6, hc5, hf⟩ := bnd_some hf
  refine z_callV (As := [.int p1]) (rest := [.ref (gA G 16 0 0)]) (C := RX10) hx hb hml hown hL hK hM hS (kX10_passes l G A V h3 p1 hc5) (zg_X10_passes zw5_27) zv_X10_passes ⟨rfl, rfl⟩ ⟨Nat.le_of_ble_eq_true rfl, Nat.le_of_ble_eq_true rfl⟩ (hM.recv hK dm_16 (ze_16 G V 0 0 h3) rfl) rfl hl.1 rfl (Nat.le_of_ble_eq_true rfl) dX10_pass_7 ⟨Nat.zero_le _, Nat.zero_le _⟩ (fun H locs hM hS => ?_)
  refine W.eq (g2 := F0 m 10 ls [.int r4, .ref (gA G 16 0 0)]) rfl ?_
  obtain ⟨r7, h9, hc8, hf⟩ := bnd_some hf
  refine z_callV (As := [.int r4]) (rest := []) (C := RX10) hx hb hml hown hL hK hM hS (kX10_acted l G A V h6 r4 hc8) (zg_X10_acted zw4_75) zv_X10_acted ⟨rfl, rfl⟩ ⟨Nat.le_of_ble_eq_true rfl, Nat.le_of_ble_eq_true rfl⟩ (hM.recv hK dm_16 (ze_16 G V 0 0 h6) rfl) rfl hl.1 rfl (Nat.le_of_ble_eq_true rfl) dX10_pass_10 ⟨Nat.zero_le _, Nat.zero_le _⟩ (fun H locs hM hS => ?_)
  refine W.eq (g2 := F0 m 13 ls [.int r7]) rfl ?_
  exact hQf hf hM hS dX10_pass_13
abbrev rX10_set : Room := { frames := 2, cells := 0, slots := 0, locals := 45 }
set_option maxRecDepth 100000 in
set_option maxHeartbeats 4000000 in
theorem kX10_set (l : Launch) (G : zG) (A : Nat → Prop) (V : zV3) (h : zV2) (p1 : Int32) (p2 : Int32) {r : Int32} {h' : zV2} (hf : xX10_set h p1 p2 = some (r, h')) : zCt l G A yX10_set cX10_set 3 (some .int) rX10_set [.ref (gA G 16 0 0), .int p1, .int p2] (upG V 8 h) (some (.int r)) (upG V 8 h') := by
  refine z_CtI (by decide) (Nat.le_of_ble_eq_true rfl) ?_
  intro p e s m args below meth c Q hx hb hml hown hL hK hM hS hQ ls hl
  replace hl : lv_has ls 3 [(0, .ref (gA G 16 0 0)), (1, .int p1), (2, .int p2)] := hl
  have hQf : ∀ {a : Int32} {k : zV2} {H : Heap} {locs : List Loc} {pc : Nat} {ls : Array Slot}, some (a, k) = some (r, h') → zM G (upG V 8 k) H → va_S A s.heap H locs → decode cX10_set pc = .ok (.ireturn, 1) → W p l e rX10_set s m args below meth c H locs 0 0 Q (F0 m pc ls [.int a]) := by
    intro a k H locs pc ls e1 hM hS hd
    cases e1
    exact hQ H locs pc ls hM hS hd
  unfold xX10_set at hf
  refine lv_aload_n hx hb dX10_set_0 rfl (lv_at hl 0 rfl) ?_
  obtain ⟨r1, h3, hc2, hf⟩ := bnd_some hf
  refine z_callV (As := []) (rest := []) (C := RX10) hx hb hml hown hL hK hM hS (kX10_begins l G A V h hc2) (zg_X10_begins zw4_60) zv_X10_begins ⟨rfl, rfl⟩ ⟨Nat.le_of_ble_eq_true rfl, Nat.le_of_ble_eq_true rfl⟩ (hM.recv hK dm_16 (ze_16 G V 0 0 h) rfl) rfl hl.1 rfl (Nat.le_of_ble_eq_true rfl) dX10_set_1 ⟨Nat.zero_le _, Nat.zero_le _⟩ (fun H locs hM hS => ?_)
  refine W.eq (g2 := F0 m 4 ls []) rfl ?_
  refine lv_aload_n hx hb dX10_set_4 rfl (lv_at hl 0 rfl) ?_
  refine lv_aload_n hx hb dX10_set_5 rfl (lv_at hl 0 rfl) ?_
  refine lv_iload_n hx hb dX10_set_6 rfl (lv_at hl 1 rfl) ?_
  refine lv_iload_n hx hb dX10_set_7 rfl (lv_at hl 2 rfl) ?_
  obtain ⟨r4, h6, hc5, hf⟩ := bnd_some hf
  refine z_callV (As := [.int p1, .int p2]) (rest := [.ref (gA G 16 0 0)]) (C := RX10) hx hb hml hown hL hK hM hS (kX10_sets l G A V h3 p1 p2 hc5) (zg_X10_sets zw5_46) zv_X10_sets ⟨rfl, rfl⟩ ⟨Nat.le_of_ble_eq_true rfl, Nat.le_of_ble_eq_true rfl⟩ (hM.recv hK dm_16 (ze_16 G V 0 0 h3) rfl) rfl hl.1 rfl (Nat.le_of_ble_eq_true rfl) dX10_set_8 ⟨Nat.zero_le _, Nat.zero_le _⟩ (fun H locs hM hS => ?_)
  refine W.eq (g2 := F0 m 11 ls [.int r4, .ref (gA G 16 0 0)]) rfl ?_
  obtain ⟨r7, h9, hc8, hf⟩ := bnd_some hf
  refine z_callV (As := [.int r4]) (rest := []) (C := RX10) hx hb hml hown hL hK hM hS (kX10_acted l G A V h6 r4 hc8) (zg_X10_acted zw4_75) zv_X10_acted ⟨rfl, rfl⟩ ⟨Nat.le_of_ble_eq_true rfl, Nat.le_of_ble_eq_true rfl⟩ (hM.recv hK dm_16 (ze_16 G V 0 0 h6) rfl) rfl hl.1 rfl (Nat.le_of_ble_eq_true rfl) dX10_set_11 ⟨Nat.zero_le _, Nat.zero_le _⟩ (fun H locs hM hS => ?_)
  refine W.eq (g2 := F0 m 14 ls [.int r7]) rfl ?_
  exact hQf hf hM hS dX10_set_14
abbrev rX10_orNone : Room := { frames := 0, cells := 0, slots := 0, locals := 0 }
set_option maxRecDepth 100000 in
set_option maxHeartbeats 4000000 in
theorem kX10_orNone (l : Launch) (G : zG) (A : Nat → Prop) (V : zV3) (h : zV2) (p1 : Int32) {r : Int32} {h' : zV2} (hf : xX10_orNone h p1 = some (r, h')) : zCt l G A yX10_orNone cX10_orNone 1 (some .int) rX10_orNone [.int p1] (upG V 8 h) (some (.int r)) (upG V 8 h') := by
  refine z_CtI (by decide) (Nat.le_of_ble_eq_true rfl) ?_
  intro p e s m args below meth c Q hx hb hml hown hL hK hM hS hQ ls hl
  replace hl : lv_has ls 1 [(0, .int p1)] := hl
  have hQf : ∀ {a : Int32} {k : zV2} {H : Heap} {locs : List Loc} {pc : Nat} {ls : Array Slot}, some (a, k) = some (r, h') → zM G (upG V 8 k) H → va_S A s.heap H locs → decode cX10_orNone pc = .ok (.ireturn, 1) → W p l e rX10_orNone s m args below meth c H locs 0 0 Q (F0 m pc ls [.int a]) := by
    intro a k H locs pc ls e1 hM hS hd
    cases e1
    exact hQ H locs pc ls hM hS hd
  unfold xX10_orNone at hf
  refine lv_iload_n hx hb dX10_orNone_0 rfl (lv_at hl 0 rfl) ?_
  refine lv_if_ge (tgt := 9) hx hb dX10_orNone_1 (by decide) (fun c1 => ?_) (fun c1 => ?_)
  · replace hf := ift hf c1
    refine lv_iload_n hx hb dX10_orNone_9 rfl (lv_at hl 0 rfl) ?_
    exact hQf hf hM hS dX10_orNone_10
  · replace hf := iff_ hf c1
    refine lv_bipush (v := -4) hx hb dX10_orNone_4 (by decide) ?_
    refine lv_goto (tgt := 10) hx hb dX10_orNone_6 (by decide) ?_
    exact hQf hf hM hS dX10_orNone_10
