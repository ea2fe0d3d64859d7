abbrev rX10_frees : Room := { frames := 3, cells := 0, slots := 0, locals := 67 }
set_option maxRecDepth 100000 in
set_option maxHeartbeats 4000000 in
theorem kX10_frees (l : Launch) (G : zG) (A : Nat → Prop) (V : zV3) (h : zV2) (p1 : Int32) {r : Unit} {h' : zV2} (hf : xX10_frees h p1 = some (r, h')) : zCt l G A yX10_frees cX10_frees 4 none rX10_frees [.ref (gA G 16 0 0), .int p1] (upG V 8 h) none (upG V 8 h') := by
  refine z_CtV (by decide) (Nat.le_of_ble_eq_true rfl) ?_
  intro p e s m args below meth c Q hx hb hml hown hL hK hM hS hQ ls hl
  replace hl : lv_has ls 4 [(0, .ref (gA G 16 0 0)), (1, .int p1)] := hl
  have hQf : ∀ {a : Unit} {k : zV2} {H : Heap} {locs : List Loc} {pc : Nat} {ls : Array Slot}, some (a, k) = some (r, h') → zM G (upG V 8 k) H → va_S A s.heap H locs → decode cX10_frees pc = .ok (.return_, 1) → W p l e rX10_frees s m args below meth c H locs 0 0 Q (F0 m pc ls []) := by
    intro a k H locs pc ls e1 hM hS hd
    cases e1
    exact hQ H locs pc ls hM hS hd
  have L22 : ∀ (h : zV2) (s0 : Int32), xX10_frees_L22 p1 h s0 = some (r, h') → ∀ (H : Heap) (locs : List Loc) (ls : Array Slot), zM G (upG V 8 h) H → va_S A s.heap H locs → lv_has ls 4 [(0, .ref (gA G 16 0 0)), (1, .int p1)] → W p l e rX10_frees s m args below meth c H locs 0 0 Q (F0 m 22 ls [.int s0]) := by
    intro h s0 hf H locs ls hM hS hl
    unfold xX10_frees_L22 at hf
    refine lv_istore_n (lv' := [(2, .int s0), (0, .ref (gA G 16 0 0)), (1, .int p1)]) hx hb dX10_frees_22 rfl hl (by decide) rfl (fun ls hl => ?_)
    refine lv_iload_n hx hb dX10_frees_23 rfl (lv_at hl 0 rfl) ?_
    refine lv_if_lt (tgt := 51) hx hb dX10_frees_24 (by decide) (fun c1 => ?_) (fun c1 => ?_)
    · replace hf := ift hf c1
      exact hQf hf hM hS dX10_frees_51
    · replace hf := iff_ hf c1
      refine lv_aload_n hx hb dX10_frees_27 rfl (lv_at hl 1 rfl) ?_
      refine z_get (own := RX10) (C := RX10) (T := TX10) (N := 12) (ci := 8) (v := .ref (gA G 17 0 0)) hx hb hL inX10 hown hK hM dm_16 (ze_16 G V 0 0 h) rfl 0 (by decide) (hL _ zw4_19) rfl rfl dX10_frees_28 ?_
      refine lv_sipush (v := 163) hx hb dX10_frees_31 (by decide) ?_
      refine lv_iconst (v := 2) hx hb dX10_frees_34 (by decide) ?_
      refine lv_iload_n hx hb dX10_frees_35 rfl (lv_at hl 0 rfl) ?_
      refine lv_imul hx hb dX10_frees_36 ?_
      refine lv_iadd hx hb dX10_frees_37 ?_
      obtain ⟨hb2, hf⟩ := grd_some hf
      refine z_iald hx hb hK hM (dm_17 (i := 0) (by decide)) (ze_17_0 G V h) (inb_in hb2) dX10_frees_38 ?_
      refine lv_topi (fun y3 ey3 => ?_)
      replace hf := ltI_some hf ey3
      refine lv_istore_n (lv' := [(3, .int y3), (2, .int s0), (0, .ref (gA G 16 0 0)), (1, .int p1)]) hx hb dX10_frees_39 rfl hl (by decide) rfl (fun ls hl => ?_)
      refine lv_aload_n hx hb dX10_frees_40 rfl (lv_at hl 2 rfl) ?_
      refine lv_iload_n hx hb dX10_frees_41 rfl (lv_at hl 1 rfl) ?_
      obtain ⟨r4, h6, hc5, hf⟩ := bnd_some hf
      refine z_callV (As := [.int s0]) (rest := []) (C := RX10) hx hb hml hown hL hK hM hS (kX10_waitsNoMore l G A V h s0 hc5) (zg_X10_waitsNoMore zw4_123) zv_X10_waitsNoMore ⟨rfl, rfl⟩ ⟨Nat.le_of_ble_eq_true rfl, Nat.le_of_ble_eq_true rfl⟩ (hM.recv hK dm_16 (ze_16 G V 0 0 h) rfl) rfl hl.1 rfl (Nat.le_of_ble_eq_true rfl) dX10_frees_42 ⟨Nat.zero_le _, Nat.zero_le _⟩ (fun H locs hM hS => ?_)
      refine W.eq (g2 := F0 m 45 ls []) rfl ?_
      refine lv_aload_n hx hb dX10_frees_45 rfl (lv_at hl 2 rfl) ?_
      refine lv_iload_n hx hb dX10_frees_46 rfl (lv_at hl 0 rfl) ?_
      refine lv_iload_n hx hb dX10_frees_47 rfl (lv_at hl 3 rfl) ?_
      obtain ⟨r7, h9, hc8, hf⟩ := bnd_some hf
      refine z_callV (As := [.int y3, .int p1]) (rest := []) (C := RX10) hx hb hml hown hL hK hM hS (kX10_beginsLoan l G A V h6 y3 p1 hc8) (zg_X10_beginsLoan zw4_127) zv_X10_beginsLoan ⟨rfl, rfl⟩ ⟨Nat.le_of_ble_eq_true rfl, Nat.le_of_ble_eq_true rfl⟩ (hM.recv hK dm_16 (ze_16 G V 0 0 h6) rfl) rfl hl.1 rfl (Nat.le_of_ble_eq_true rfl) dX10_frees_48 ⟨Nat.zero_le _, Nat.zero_le _⟩ (fun H locs hM hS => ?_)
      refine W.eq (g2 := F0 m 51 ls []) rfl ?_
      exact hQf hf hM hS dX10_frees_51
  unfold xX10_frees at hf
  refine lv_aload_n hx hb dX10_frees_0 rfl (lv_at hl 0 rfl) ?_
  refine lv_iload_n hx hb dX10_frees_1 rfl (lv_at hl 1 rfl) ?_
  obtain ⟨r1, h3, hc2, hf⟩ := bnd_some hf
  refine z_callV (As := [.int p1]) (rest := []) (C := RX10) hx hb hml hown hL hK hM hS (kX10_isFree l G A V h p1 hc2) (zg_X10_isFree zw4_115) zv_X10_isFree ⟨rfl, rfl⟩ ⟨Nat.le_of_ble_eq_true rfl, Nat.le_of_ble_eq_true rfl⟩ (hM.recv hK dm_16 (ze_16 G V 0 0 h) rfl) rfl hl.1 rfl (Nat.le_of_ble_eq_true rfl) dX10_frees_2 ⟨Nat.zero_le _, Nat.zero_le _⟩ (fun H locs hM hS => ?_)
  refine W.eq (g2 := F0 m 5 ls [.int r1]) rfl ?_
  refine lv_if_eq (tgt := 21) hx hb dX10_frees_5 (by decide) (fun c4 => ?_) (fun c4 => ?_)
  · replace hf := ift hf c4
    refine lv_iconst (v := -1) hx hb dX10_frees_21 (by decide) ?_
    exact L22 h3 (-1 : Int32) hf _ _ _ hM hS (lv_sub hl [0, 1] rfl)
  · replace hf := iff_ hf c4
    refine lv_aload_n hx hb dX10_frees_8 rfl (lv_at hl 0 rfl) ?_
    refine lv_aload_n hx hb dX10_frees_9 rfl (lv_at hl 0 rfl) ?_
    refine lv_iload_n hx hb dX10_frees_10 rfl (lv_at hl 1 rfl) ?_
    refine lv_iconst (v := 0) hx hb dX10_frees_11 (by decide) ?_
    obtain ⟨r5, h7, hc6, hf⟩ := bnd_some hf
    refine z_callV (As := [.int p1, .int (0 : Int32)]) (rest := [.ref (gA G 16 0 0)]) (C := RX10) hx hb hml hown hL hK hM hS (kX10_of l G A V h3 p1 (0 : Int32) hc6) (zg_X10_of zw4_103) zv_X10_of ⟨rfl, rfl⟩ ⟨Nat.le_of_ble_eq_true rfl, Nat.le_of_ble_eq_true rfl⟩ (hM.recv hK dm_16 (ze_16 G V 0 0 h3) rfl) rfl hl.1 rfl (Nat.le_of_ble_eq_true rfl) dX10_frees_12 ⟨Nat.zero_le _, Nat.zero_le _⟩ (fun H locs hM hS => ?_)
    refine W.eq (g2 := F0 m 15 ls [.int r5, .ref (gA G 16 0 0)]) rfl ?_
    obtain ⟨r8, h10, hc9, hf⟩ := bnd_some hf
    refine z_callV (As := [.int r5]) (rest := []) (C := RX10) hx hb hml hown hL hK hM hS (kX10_firstWaiting l G A V h7 r5 hc9) (zg_X10_firstWaiting zw4_119) zv_X10_firstWaiting ⟨rfl, rfl⟩ ⟨Nat.le_of_ble_eq_true rfl, Nat.le_of_ble_eq_true rfl⟩ (hM.recv hK dm_16 (ze_16 G V 0 0 h7) rfl) rfl hl.1 rfl (Nat.le_of_ble_eq_true rfl) dX10_frees_15 ⟨Nat.zero_le _, Nat.zero_le _⟩ (fun H locs hM hS => ?_)
    refine W.eq (g2 := F0 m 18 ls [.int r8]) rfl ?_
    refine lv_goto (tgt := 22) hx hb dX10_frees_18 (by decide) ?_
    exact L22 h10 r8 hf _ _ _ hM hS (lv_sub hl [0, 1] rfl)
abbrev rX10_endsWish : Room := { frames := 1, cells := 0, slots := 0, locals := 23 }
set_option maxRecDepth 100000 in
set_option maxHeartbeats 4000000 in
theorem kX10_endsWish (l : Launch) (G : zG) (A : Nat → Prop) (V : zV3) (h : zV2) (p1 : Int32) {r : Unit} {h' : zV2} (hf : xX10_endsWish h p1 = some (r, h')) : zCt l G A yX10_endsWish cX10_endsWish 3 none rX10_endsWish [.ref (gA G 16 0 0), .int p1] (upG V 8 h) none (upG V 8 h') := by
  refine z_CtV (by decide) (Nat.le_of_ble_eq_true rfl) ?_
  intro p e s m args below meth c Q hx hb hml hown hL hK hM hS hQ ls hl
  replace hl : lv_has ls 3 [(0, .ref (gA G 16 0 0)), (1, .int p1)] := hl
  have hQf : ∀ {a : Unit} {k : zV2} {H : Heap} {locs : List Loc} {pc : Nat} {ls : Array Slot}, some (a, k) = some (r, h') → zM G (upG V 8 k) H → va_S A s.heap H locs → decode cX10_endsWish pc = .ok (.return_, 1) → W p l e rX10_endsWish s m args below meth c H locs 0 0 Q (F0 m pc ls []) := by
    intro a k H locs pc ls e1 hM hS hd
    cases e1
    exact hQ H locs pc ls hM hS hd
  have L50 : ∀ (n : Nat) (h : zV2) (a2 : Int32), xX10_endsWish_L50 p1 n h a2 = some (r, h') → ∀ (H : Heap) (locs : List Loc) (ls : Array Slot), zM G (upG V 8 h) H → va_S A s.heap H locs → lv_has ls 3 [(0, .ref (gA G 16 0 0)), (2, .int a2)] → W p l e rX10_endsWish s m args below meth c H locs 0 0 Q (F0 m 50 ls []) := by
    intro n
    induction n with
    | zero =>
      intro h a2 hf H locs ls hM hS hl
      rw [xX10_endsWish_L50] at hf
      cases hf
    | succ n ih =>
      intro h a2 hf H locs ls hM hS hl
      rw [xX10_endsWish_L50] at hf
      refine lv_iload_n hx hb dX10_endsWish_50 rfl (lv_at hl 1 rfl) ?_
      refine lv_aload_n hx hb dX10_endsWish_51 rfl (lv_at hl 0 rfl) ?_
      refine z_get (own := RX10) (C := RX10) (T := TX10) (N := 12) (ci := 8) (v := .ref (gA G 17 0 0)) hx hb hL inX10 hown hK hM dm_16 (ze_16 G V 0 0 h) rfl 0 (by decide) (hL _ zw4_19) rfl rfl dX10_endsWish_52 ?_
      refine lv_bipush (v := 7) hx hb dX10_endsWish_55 (by decide) ?_
      obtain ⟨hb1, hf⟩ := grd_some hf
      refine z_iald hx hb hK hM (dm_17 (i := 0) (by decide)) (ze_17_0 G V h) (inb_in hb1) dX10_endsWish_57 ?_
      refine lv_icmp_ge (tgt := 89) hx hb dX10_endsWish_58 (by decide) (fun c2 => ?_) (fun c2 => ?_)
      · replace hf := ift hf c2
        exact hQf hf hM hS dX10_endsWish_89
      · replace hf := iff_ hf c2
        refine lv_aload_n hx hb dX10_endsWish_61 rfl (lv_at hl 0 rfl) ?_
        refine z_get (own := RX10) (C := RX10) (T := TX10) (N := 12) (ci := 8) (v := .ref (gA G 17 0 0)) hx hb hL inX10 hown hK hM dm_16 (ze_16 G V 0 0 h) rfl 0 (by decide) (hL _ zw4_19) rfl rfl dX10_endsWish_62 ?_
        refine lv_sipush (v := 183) hx hb dX10_endsWish_65 (by decide) ?_
        refine lv_iload_n hx hb dX10_endsWish_68 rfl (lv_at hl 1 rfl) ?_
        refine lv_iadd hx hb dX10_endsWish_69 ?_
        refine lv_aload_n hx hb dX10_endsWish_70 rfl (lv_at hl 0 rfl) ?_
        refine z_get (own := RX10) (C := RX10) (T := TX10) (N := 12) (ci := 8) (v := .ref (gA G 17 0 0)) hx hb hL inX10 hown hK hM dm_16 (ze_16 G V 0 0 h) rfl 0 (by decide) (hL _ zw4_19) rfl rfl dX10_endsWish_71 ?_
        refine lv_sipush (v := 183) hx hb dX10_endsWish_74 (by decide) ?_
        refine lv_iload_n hx hb dX10_endsWish_77 rfl (lv_at hl 1 rfl) ?_
        refine lv_iadd hx hb dX10_endsWish_78 ?_
        refine lv_iconst (v := 1) hx hb dX10_endsWish_79 (by decide) ?_
        refine lv_iadd hx hb dX10_endsWish_80 ?_
        obtain ⟨hb3, hf⟩ := grd_some hf
        refine z_iald hx hb hK hM (dm_17 (i := 0) (by decide)) (ze_17_0 G V h) (inb_in hb3) dX10_endsWish_81 ?_
        obtain ⟨hb4, hf⟩ := grd_some hf
        obtain ⟨h5, eh5⟩ : ∃ y, y = up2 h 0 (((183 : Int32) + a2).toNatClampNeg) (h 0 ((((183 : Int32) + a2) + (1 : Int32)).toNatClampNeg)) := ⟨_, rfl⟩
        replace hf := put2_some hf eh5
        refine z_iast (V' := upG V 8 h5) hx hb hK hM hS (dm_17 (i := 0) (by decide)) (ze_17_0 G V h) (inb_in hb4) (by rw [eh5]; exact zn_17_0 G V h (((183 : Int32) + a2).toNatClampNeg) (h 0 ((((183 : Int32) + a2) + (1 : Int32)).toNatClampNeg))) dX10_endsWish_82 (fun H locs hM hS => ?_)
        obtain ⟨y6, ey6⟩ : ∃ y : Int32, y = a2 + (1 : Int32) := ⟨_, rfl⟩
        replace hf := ltI_some hf ey6
        refine lv_iinc (v := y6) (lv' := [(2, .int y6), (0, .ref (gA G 16 0 0))]) hx hb dX10_endsWish_83 hl (k := 1) rfl (by rw [ey6]; rfl) (by decide) rfl (fun ls hl => ?_)
        refine lv_goto (tgt := 50) hx hb dX10_endsWish_86 (by decide) ?_
        exact ih h5 y6 hf _ _ _ hM hS (lv_sub hl [1, 0] rfl)
  have L19 : ∀ (n : Nat) (h : zV2) (a2 : Int32), xX10_endsWish_L19 p1 n h a2 = some (r, h') → ∀ (H : Heap) (locs : List Loc) (ls : Array Slot), zM G (upG V 8 h) H → va_S A s.heap H locs → lv_has ls 3 [(0, .ref (gA G 16 0 0)), (1, .int p1), (2, .int a2)] → W p l e rX10_endsWish s m args below meth c H locs 0 0 Q (F0 m 19 ls []) := by
    intro n
    induction n with
    | zero =>
      intro h a2 hf H locs ls hM hS hl
      rw [xX10_endsWish_L19] at hf
      cases hf
    | succ n ih =>
      intro h a2 hf H locs ls hM hS hl
      rw [xX10_endsWish_L19] at hf
      refine lv_aload_n hx hb dX10_endsWish_19 rfl (lv_at hl 0 rfl) ?_
      refine z_get (own := RX10) (C := RX10) (T := TX10) (N := 12) (ci := 8) (v := .ref (gA G 17 0 0)) hx hb hL inX10 hown hK hM dm_16 (ze_16 G V 0 0 h) rfl 0 (by decide) (hL _ zw4_19) rfl rfl dX10_endsWish_20 ?_
      refine lv_sipush (v := 183) hx hb dX10_endsWish_23 (by decide) ?_
      refine lv_iload_n hx hb dX10_endsWish_26 rfl (lv_at hl 2 rfl) ?_
      refine lv_iadd hx hb dX10_endsWish_27 ?_
      obtain ⟨hb1, hf⟩ := grd_some hf
      refine z_iald hx hb hK hM (dm_17 (i := 0) (by decide)) (ze_17_0 G V h) (inb_in hb1) dX10_endsWish_28 ?_
      refine lv_iload_n hx hb dX10_endsWish_29 rfl (lv_at hl 1 rfl) ?_
      refine lv_icmp_eq (tgt := 39) hx hb dX10_endsWish_30 (by decide) (fun c2 => ?_) (fun c2 => ?_)
      · replace hf := ift hf c2
        refine lv_aload_n hx hb dX10_endsWish_39 rfl (lv_at hl 0 rfl) ?_
        refine z_get (own := RX10) (C := RX10) (T := TX10) (N := 12) (ci := 8) (v := .ref (gA G 17 0 0)) hx hb hL inX10 hown hK hM dm_16 (ze_16 G V 0 0 h) rfl 0 (by decide) (hL _ zw4_19) rfl rfl dX10_endsWish_40 ?_
        refine lv_bipush (v := 7) hx hb dX10_endsWish_43 (by decide) ?_
        refine lv_dup2_11 hx hb dX10_endsWish_45 rfl rfl ?_
        obtain ⟨hb3, hf⟩ := grd_some hf
        refine z_iald hx hb hK hM (dm_17 (i := 0) (by decide)) (ze_17_0 G V h) (inb_in hb3) dX10_endsWish_46 ?_
        refine lv_iconst (v := 1) hx hb dX10_endsWish_47 (by decide) ?_
        refine lv_isub hx hb dX10_endsWish_48 ?_
        obtain ⟨hb4, hf⟩ := grd_some hf
        obtain ⟨h5, eh5⟩ : ∃ y, y = up2 h 0 ((7 : Int32).toNatClampNeg) ((h 0 ((7 : Int32).toNatClampNeg)) - (1 : Int32)) := ⟨_, rfl⟩
        replace hf := put2_some hf eh5
        refine z_iast (V' := upG V 8 h5) hx hb hK hM hS (dm_17 (i := 0) (by decide)) (ze_17_0 G V h) (inb_in hb4) (by rw [eh5]; exact zn_17_0 G V h ((7 : Int32).toNatClampNeg) ((h 0 ((7 : Int32).toNatClampNeg)) - (1 : Int32))) dX10_endsWish_49 (fun H locs hM hS => ?_)
        exact L50 1000 h5 a2 hf _ _ _ hM hS (lv_sub hl [0, 2] rfl)
      · replace hf := iff_ hf c2
        obtain ⟨y6, ey6⟩ : ∃ y : Int32, y = a2 + (1 : Int32) := ⟨_, rfl⟩
        replace hf := ltI_some hf ey6
        refine lv_iinc (v := y6) (lv' := [(2, .int y6), (0, .ref (gA G 16 0 0)), (1, .int p1)]) hx hb dX10_endsWish_33 hl (k := 2) rfl (by rw [ey6]; rfl) (by decide) rfl (fun ls hl => ?_)
        refine lv_goto (tgt := 19) hx hb dX10_endsWish_36 (by decide) ?_
        exact ih h y6 hf _ _ _ hM hS (lv_sub hl [1, 2, 0] rfl)
  unfold xX10_endsWish at hf
  refine lv_aload_n hx hb dX10_endsWish_0 rfl (lv_at hl 0 rfl) ?_
  refine lv_iload_n hx hb dX10_endsWish_1 rfl (lv_at hl 1 rfl) ?_
  refine lv_iconst (v := 5) hx hb dX10_endsWish_2 (by decide) ?_
  obtain ⟨r1, h3, hc2, hf⟩ := bnd_some hf
  refine z_callV (As := [.int p1, .int (5 : Int32)]) (rest := []) (C := RX10) hx hb hml hown hL hK hM hS (kX10_ofP l G A V h p1 (5 : Int32) hc2) (zg_X10_ofP zw4_147) zv_X10_ofP ⟨rfl, rfl⟩ ⟨Nat.le_of_ble_eq_true rfl, Nat.le_of_ble_eq_true rfl⟩ (hM.recv hK dm_16 (ze_16 G V 0 0 h) rfl) rfl hl.1 rfl (Nat.le_of_ble_eq_true rfl) dX10_endsWish_3 ⟨Nat.zero_le _, Nat.zero_le _⟩ (fun H locs hM hS => ?_)
  refine W.eq (g2 := F0 m 6 ls [.int r1]) rfl ?_
  refine lv_if_ge (tgt := 10) hx hb dX10_endsWish_6 (by decide) (fun c4 => ?_) (fun c4 => ?_)
  · replace hf := ift hf c4
    refine lv_aload_n hx hb dX10_endsWish_10 rfl (lv_at hl 0 rfl) ?_
    refine lv_iload_n hx hb dX10_endsWish_11 rfl (lv_at hl 1 rfl) ?_
    refine lv_iconst (v := 5) hx hb dX10_endsWish_12 (by decide) ?_
    refine lv_iconst (v := -1) hx hb dX10_endsWish_13 (by decide) ?_
    obtain ⟨r5, h7, hc6, hf⟩ := bnd_some hf
    refine z_callV (As := [.int p1, .int (5 : Int32), .int (-1 : Int32)]) (rest := []) (C := RX10) hx hb hml hown hL hK hM hS (kX10_layP l G A V h3 p1 (5 : Int32) (-1 : Int32) hc6) (zg_X10_layP zw4_87) zv_X10_layP ⟨rfl, rfl⟩ ⟨Nat.le_of_ble_eq_true rfl, Nat.le_of_ble_eq_true rfl⟩ (hM.recv hK dm_16 (ze_16 G V 0 0 h3) rfl) rfl hl.1 rfl (Nat.le_of_ble_eq_true rfl) dX10_endsWish_14 ⟨Nat.zero_le _, Nat.zero_le _⟩ (fun H locs hM hS => ?_)
    refine W.eq (g2 := F0 m 17 ls []) rfl ?_
    refine lv_iconst (v := 0) hx hb dX10_endsWish_17 (by decide) ?_
    refine lv_istore_n (lv' := [(2, .int (0 : Int32)), (0, .ref (gA G 16 0 0)), (1, .int p1)]) hx hb dX10_endsWish_18 rfl hl (by decide) rfl (fun ls hl => ?_)
    exact L19 1000 h7 (0 : Int32) hf _ _ _ hM hS (lv_sub hl [1, 2, 0] rfl)
  · replace hf := iff_ hf c4
    exact hQf hf hM hS dX10_endsWish_9
abbrev rX10_endsLoan : Room := { frames := 2, cells := 0, slots := 0, locals := 45 }
set_option maxRecDepth 100000 in
set_option maxHeartbeats 4000000 in
theorem kX10_endsLoan (l : Launch) (G : zG) (A : Nat → Prop) (V : zV3) (h : zV2) (p1 : Int32) {r : Int32} {h' : zV2} (hf : xX10_endsLoan h p1 = some (r, h')) : zCt l G A yX10_endsLoan cX10_endsLoan 3 (some .int) rX10_endsLoan [.ref (gA G 16 0 0), .int p1] (upG V 8 h) (some (.int r)) (upG V 8 h') := by
  refine z_CtI (by decide) (Nat.le_of_ble_eq_true rfl) ?_
  intro p e s m args below meth c Q hx hb hml hown hL hK hM hS hQ ls hl
  replace hl : lv_has ls 3 [(0, .ref (gA G 16 0 0)), (1, .int p1)] := hl
  have hQf : ∀ {a : Int32} {k : zV2} {H : Heap} {locs : List Loc} {pc : Nat} {ls : Array Slot}, some (a, k) = some (r, h') → zM G (upG V 8 k) H → va_S A s.heap H locs → decode cX10_endsLoan pc = .ok (.ireturn, 1) → W p l e rX10_endsLoan s m args below meth c H locs 0 0 Q (F0 m pc ls [.int a]) := by
    intro a k H locs pc ls e1 hM hS hd
    cases e1
    exact hQ H locs pc ls hM hS hd
  unfold xX10_endsLoan at hf
  refine lv_aload_n hx hb dX10_endsLoan_0 rfl (lv_at hl 0 rfl) ?_
  refine lv_iload_n hx hb dX10_endsLoan_1 rfl (lv_at hl 1 rfl) ?_
  refine lv_iconst (v := 0) hx hb dX10_endsLoan_2 (by decide) ?_
  obtain ⟨r1, h3, hc2, hf⟩ := bnd_some hf
  refine z_callV (As := [.int p1, .int (0 : Int32)]) (rest := []) (C := RX10) hx hb hml hown hL hK hM hS (kX10_ofP l G A V h p1 (0 : Int32) hc2) (zg_X10_ofP zw4_147) zv_X10_ofP ⟨rfl, rfl⟩ ⟨Nat.le_of_ble_eq_true rfl, Nat.le_of_ble_eq_true rfl⟩ (hM.recv hK dm_16 (ze_16 G V 0 0 h) rfl) rfl hl.1 rfl (Nat.le_of_ble_eq_true rfl) dX10_endsLoan_3 ⟨Nat.zero_le _, Nat.zero_le _⟩ (fun H locs hM hS => ?_)
  refine W.eq (g2 := F0 m 6 ls [.int r1]) rfl ?_
  refine lv_istore_n (lv' := [(2, .int r1), (0, .ref (gA G 16 0 0)), (1, .int p1)]) hx hb dX10_endsLoan_6 rfl hl (by decide) rfl (fun ls hl => ?_)
  refine lv_aload_n hx hb dX10_endsLoan_7 rfl (lv_at hl 1 rfl) ?_
  refine lv_iload_n hx hb dX10_endsLoan_8 rfl (lv_at hl 0 rfl) ?_
  refine lv_iconst (v := 2) hx hb dX10_endsLoan_9 (by decide) ?_
  refine lv_iconst (v := -1) hx hb dX10_endsLoan_10 (by decide) ?_
  obtain ⟨r4, h6, hc5, hf⟩ := bnd_some hf
  refine z_callV (As := [.int r1, .int (2 : Int32), .int (-1 : Int32)]) (rest := []) (C := RX10) hx hb hml hown hL hK hM hS (kX10_lay l G A V h3 r1 (2 : Int32) (-1 : Int32) hc5) (zg_X10_lay zw4_71) zv_X10_lay ⟨rfl, rfl⟩ ⟨Nat.le_of_ble_eq_true rfl, Nat.le_of_ble_eq_true rfl⟩ (hM.recv hK dm_16 (ze_16 G V 0 0 h3) rfl) rfl hl.1 rfl (Nat.le_of_ble_eq_true rfl) dX10_endsLoan_11 ⟨Nat.zero_le _, Nat.zero_le _⟩ (fun H locs hM hS => ?_)
  refine W.eq (g2 := F0 m 14 ls []) rfl ?_
  refine lv_aload_n hx hb dX10_endsLoan_14 rfl (lv_at hl 1 rfl) ?_
  refine lv_iload_n hx hb dX10_endsLoan_15 rfl (lv_at hl 2 rfl) ?_
  refine lv_iconst (v := 0) hx hb dX10_endsLoan_16 (by decide) ?_
  refine lv_iconst (v := -1) hx hb dX10_endsLoan_17 (by decide) ?_
  obtain ⟨r7, h9, hc8, hf⟩ := bnd_some hf
  refine z_callV (As := [.int p1, .int (0 : Int32), .int (-1 : Int32)]) (rest := []) (C := RX10) hx hb hml hown hL hK hM hS (kX10_layP l G A V h6 p1 (0 : Int32) (-1 : Int32) hc8) (zg_X10_layP zw4_87) zv_X10_layP ⟨rfl, rfl⟩ ⟨Nat.le_of_ble_eq_true rfl, Nat.le_of_ble_eq_true rfl⟩ (hM.recv hK dm_16 (ze_16 G V 0 0 h6) rfl) rfl hl.1 rfl (Nat.le_of_ble_eq_true rfl) dX10_endsLoan_18 ⟨Nat.zero_le _, Nat.zero_le _⟩ (fun H locs hM hS => ?_)
  refine W.eq (g2 := F0 m 21 ls []) rfl ?_
  refine lv_aload_n hx hb dX10_endsLoan_21 rfl (lv_at hl 1 rfl) ?_
  refine lv_iload_n hx hb dX10_endsLoan_22 rfl (lv_at hl 2 rfl) ?_
  obtain ⟨r10, h12, hc11, hf⟩ := bnd_some hf
  refine z_callV (As := [.int p1]) (rest := []) (C := RX10) hx hb hml hown hL hK hM hS (kX10_endsWish l G A V h9 p1 hc11) (zg_X10_endsWish zw4_179) zv_X10_endsWish ⟨rfl, rfl⟩ ⟨Nat.le_of_ble_eq_true rfl, Nat.le_of_ble_eq_true rfl⟩ (hM.recv hK dm_16 (ze_16 G V 0 0 h9) rfl) rfl hl.1 rfl (Nat.le_of_ble_eq_true rfl) dX10_endsLoan_23 ⟨Nat.zero_le _, Nat.zero_le _⟩ (fun H locs hM hS => ?_)
  refine W.eq (g2 := F0 m 26 ls []) rfl ?_
  refine lv_iload_n hx hb dX10_endsLoan_26 rfl (lv_at hl 0 rfl) ?_
  exact hQf hf hM hS dX10_endsLoan_27
abbrev rX10_owes : Room := { frames := 1, cells := 0, slots := 0, locals := 23 }
set_option maxRecDepth 100000 in
set_option maxHeartbeats 4000000 in
theorem kX10_owes (l : Launch) (G : zG) (A : Nat → Prop) (V : zV3) (h : zV2) (p1 : Int32) (p2 : Int32) {r : Unit} {h' : zV2} (hf : xX10_owes h p1 p2 = some (r, h')) : zCt l G A yX10_owes cX10_owes 3 none rX10_owes [.ref (gA G 16 0 0), .int p1, .int p2] (upG V 8 h) none (upG V 8 h') := by
  refine z_CtV (by decide) (Nat.le_of_ble_eq_true rfl) ?_
  intro p e s m args below meth c Q hx hb hml hown hL hK hM hS hQ ls hl
  replace hl : lv_has ls 3 [(0, .ref (gA G 16 0 0)), (1, .int p1), (2, .int p2)] := hl
  have hQf : ∀ {a : Unit} {k : zV2} {H : Heap} {locs : List Loc} {pc : Nat} {ls : Array Slot}, some (a, k) = some (r, h') → zM G (upG V 8 k) H → va_S A s.heap H locs → decode cX10_owes pc = .ok (.return_, 1) → W p l e rX10_owes s m args below meth c H locs 0 0 Q (F0 m pc ls []) := by
    intro a k H locs pc ls e1 hM hS hd
    cases e1
    exact hQ H locs pc ls hM hS hd
  unfold xX10_owes at hf
  refine lv_aload_n hx hb dX10_owes_0 rfl (lv_at hl 0 rfl) ?_
  refine lv_iload_n hx hb dX10_owes_1 rfl (lv_at hl 1 rfl) ?_
  refine lv_iconst (v := 3) hx hb dX10_owes_2 (by decide) ?_
  refine lv_aload_n hx hb dX10_owes_3 rfl (lv_at hl 0 rfl) ?_
  refine lv_iload_n hx hb dX10_owes_4 rfl (lv_at hl 1 rfl) ?_
  refine lv_iconst (v := 3) hx hb dX10_owes_5 (by decide) ?_
  obtain ⟨r1, h3, hc2, hf⟩ := bnd_some hf
  refine z_callV (As := [.int p1, .int (3 : Int32)]) (rest := [.int (3 : Int32), .int p1, .ref (gA G 16 0 0)]) (C := RX10) hx hb hml hown hL hK hM hS (kX10_ofP l G A V h p1 (3 : Int32) hc2) (zg_X10_ofP zw4_147) zv_X10_ofP ⟨rfl, rfl⟩ ⟨Nat.le_of_ble_eq_true rfl, Nat.le_of_ble_eq_true rfl⟩ (hM.recv hK dm_16 (ze_16 G V 0 0 h) rfl) rfl hl.1 rfl (Nat.le_of_ble_eq_true rfl) dX10_owes_6 ⟨Nat.zero_le _, Nat.zero_le _⟩ (fun H locs hM hS => ?_)
  refine W.eq (g2 := F0 m 9 ls [.int r1, .int (3 : Int32), .int p1, .ref (gA G 16 0 0)]) rfl ?_
  refine lv_iload_n hx hb dX10_owes_9 rfl (lv_at hl 2 rfl) ?_
  refine lv_iadd hx hb dX10_owes_10 ?_
  obtain ⟨r4, h6, hc5, hf⟩ := bnd_some hf
  refine z_callV (As := [.int p1, .int (3 : Int32), .int (r1 + p2)]) (rest := []) (C := RX10) hx hb hml hown hL hK hM hS (kX10_layP l G A V h3 p1 (3 : Int32) (r1 + p2) hc5) (zg_X10_layP zw4_87) zv_X10_layP ⟨rfl, rfl⟩ ⟨Nat.le_of_ble_eq_true rfl, Nat.le_of_ble_eq_true rfl⟩ (hM.recv hK dm_16 (ze_16 G V 0 0 h3) rfl) rfl hl.1 rfl (Nat.le_of_ble_eq_true rfl) dX10_owes_11 ⟨Nat.zero_le _, Nat.zero_le _⟩ (fun H locs hM hS => ?_)
  refine W.eq (g2 := F0 m 14 ls []) rfl ?_
  refine lv_aload_n hx hb dX10_owes_14 rfl (lv_at hl 0 rfl) ?_
  refine z_get (own := RX10) (C := RX10) (T := TX10) (N := 12) (ci := 8) (v := .ref (gA G 17 0 0)) hx hb hL inX10 hown hK hM dm_16 (ze_16 G V 0 0 h6) rfl 0 (by decide) (hL _ zw4_19) rfl rfl dX10_owes_15 ?_
  refine lv_bipush (v := 9) hx hb dX10_owes_18 (by decide) ?_
  refine lv_dup2_11 hx hb dX10_owes_20 rfl rfl ?_
  obtain ⟨hb7, hf⟩ := grd_some hf
  refine z_iald hx hb hK hM (dm_17 (i := 0) (by decide)) (ze_17_0 G V h6) (inb_in hb7) dX10_owes_21 ?_
  refine lv_iload_n hx hb dX10_owes_22 rfl (lv_at hl 2 rfl) ?_
  refine lv_iadd hx hb dX10_owes_23 ?_
  obtain ⟨hb8, hf⟩ := grd_some hf
  obtain ⟨h9, eh9⟩ : ∃ y, y = up2 h6 0 ((9 : Int32).toNatClampNeg) ((h6 0 ((9 : Int32).toNatClampNeg)) + p2) := ⟨_, rfl⟩
  replace hf := put2_some hf eh9
  refine z_iast (V' := upG V 8 h9) hx hb hK hM hS (dm_17 (i := 0) (by decide)) (ze_17_0 G V h6) (inb_in hb8) (by rw [eh9]; exact zn_17_0 G V h6 ((9 : Int32).toNatClampNeg) ((h6 0 ((9 : Int32).toNatClampNeg)) + p2)) dX10_owes_24 (fun H locs hM hS => ?_)
  exact hQf hf hM hS dX10_owes_25
abbrev rX10_overdue : Room := { frames := 1, cells := 0, slots := 0, locals := 22 }
set_option maxRecDepth 100000 in
set_option maxHeartbeats 4000000 in
theorem kX10_overdue (l : Launch) (G : zG) (A : Nat → Prop) (V : zV3) (h : zV2) (p1 : Int32) {r : Int32} {h' : zV2} (hf : xX10_overdue h p1 = some (r, h')) : zCt l G A yX10_overdue cX10_overdue 3 (some .int) rX10_overdue [.ref (gA G 16 0 0), .int p1] (upG V 8 h) (some (.int r)) (upG V 8 h') := by
  refine z_CtI (by decide) (Nat.le_of_ble_eq_true rfl) ?_
  intro p e s m args below meth c Q hx hb hml hown hL hK hM hS hQ ls hl
  replace hl : lv_has ls 3 [(0, .ref (gA G 16 0 0)), (1, .int p1)] := hl
  have hQf : ∀ {a : Int32} {k : zV2} {H : Heap} {locs : List Loc} {pc : Nat} {ls : Array Slot}, some (a, k) = some (r, h') → zM G (upG V 8 k) H → va_S A s.heap H locs → decode cX10_overdue pc = .ok (.ireturn, 1) → W p l e rX10_overdue s m args below meth c H locs 0 0 Q (F0 m pc ls [.int a]) := by
    intro a k H locs pc ls e1 hM hS hd
    cases e1
    exact hQ H locs pc ls hM hS hd
  unfold xX10_overdue at hf
  refine lv_aload_n hx hb dX10_overdue_0 rfl (lv_at hl 0 rfl) ?_
  refine z_get (own := RX10) (C := RX10) (T := TX10) (N := 12) (ci := 8) (v := .ref (gA G 17 0 0)) hx hb hL inX10 hown hK hM dm_16 (ze_16 G V 0 0 h) rfl 0 (by decide) (hL _ zw4_19) rfl rfl dX10_overdue_1 ?_
  refine lv_iconst (v := 3) hx hb dX10_overdue_4 (by decide) ?_
  obtain ⟨hb1, hf⟩ := grd_some hf
  refine z_iald hx hb hK hM (dm_17 (i := 0) (by decide)) (ze_17_0 G V h) (inb_in hb1) dX10_overdue_5 ?_
  refine lv_aload_n hx hb dX10_overdue_6 rfl (lv_at hl 0 rfl) ?_
  refine lv_iload_n hx hb dX10_overdue_7 rfl (lv_at hl 1 rfl) ?_
  refine lv_iconst (v := 1) hx hb dX10_overdue_8 (by decide) ?_
  obtain ⟨r2, h4, hc3, hf⟩ := bnd_some hf
  refine z_callV (As := [.int p1, .int (1 : Int32)]) (rest := [.int (h 0 ((3 : Int32).toNatClampNeg))]) (C := RX10) hx hb hml hown hL hK hM hS (kX10_ofP l G A V h p1 (1 : Int32) hc3) (zg_X10_ofP zw4_147) zv_X10_ofP ⟨rfl, rfl⟩ ⟨Nat.le_of_ble_eq_true rfl, Nat.le_of_ble_eq_true rfl⟩ (hM.recv hK dm_16 (ze_16 G V 0 0 h) rfl) rfl hl.1 rfl (Nat.le_of_ble_eq_true rfl) dX10_overdue_9 ⟨Nat.zero_le _, Nat.zero_le _⟩ (fun H locs hM hS => ?_)
  refine W.eq (g2 := F0 m 12 ls [.int r2, .int (h 0 ((3 : Int32).toNatClampNeg))]) rfl ?_
  refine lv_isub hx hb dX10_overdue_12 ?_
  refine lv_topi (fun y5 ey5 => ?_)
  replace hf := ltI_some hf ey5
  refine lv_istore_n (lv' := [(2, .int y5), (0, .ref (gA G 16 0 0)), (1, .int p1)]) hx hb dX10_overdue_13 rfl hl (by decide) rfl (fun ls hl => ?_)
  refine lv_iload_n hx hb dX10_overdue_14 rfl (lv_at hl 0 rfl) ?_
  refine lv_if_le (tgt := 22) hx hb dX10_overdue_15 (by decide) (fun c6 => ?_) (fun c6 => ?_)
  · replace hf := ift hf c6
    refine lv_iconst (v := 0) hx hb dX10_overdue_22 (by decide) ?_
    exact hQf hf hM hS dX10_overdue_23
  · replace hf := iff_ hf c6
    refine lv_iload_n hx hb dX10_overdue_18 rfl (lv_at hl 0 rfl) ?_
    refine lv_goto (tgt := 23) hx hb dX10_overdue_19 (by decide) ?_
    exact hQf hf hM hS dX10_overdue_23
abbrev rX10_makesLocker : Room := { frames := 1, cells := 0, slots := 0, locals := 23 }
set_option maxRecDepth 100000 in
set_option maxHeartbeats 4000000 in
theorem kX10_makesLocker (l : Launch) (G : zG) (A : Nat → Prop) (V : zV3) (h : zV2) (p1 : Int32) {r : Int32} {h' : zV2} (hf : xX10_makesLocker h p1 = some (r, h')) : zCt l G A yX10_makesLocker cX10_makesLocker 3 (some .int) rX10_makesLocker [.ref (gA G 16 0 0), .int p1] (upG V 8 h) (some (.int r)) (upG V 8 h') := by
  refine z_CtI (by decide) (Nat.le_of_ble_eq_true rfl) ?_
  intro p e s m args below meth c Q hx hb hml hown hL hK hM hS hQ ls hl
  replace hl : lv_has ls 3 [(0, .ref (gA G 16 0 0)), (1, .int p1)] := hl
  have hQf : ∀ {a : Int32} {k : zV2} {H : Heap} {locs : List Loc} {pc : Nat} {ls : Array Slot}, some (a, k) = some (r, h') → zM G (upG V 8 k) H → va_S A s.heap H locs → decode cX10_makesLocker pc = .ok (.ireturn, 1) → W p l e rX10_makesLocker s m args below meth c H locs 0 0 Q (F0 m pc ls [.int a]) := by
    intro a k H locs pc ls e1 hM hS hd
    cases e1
    exact hQ H locs pc ls hM hS hd
  unfold xX10_makesLocker at hf
  refine lv_iload_n hx hb dX10_makesLocker_0 rfl (lv_at hl 1 rfl) ?_
  refine lv_iconst (v := 0) hx hb dX10_makesLocker_1 (by decide) ?_
  refine lv_iconst (v := 2) hx hb dX10_makesLocker_2 (by decide) ?_
  obtain ⟨r1, h3, hc2, hf⟩ := bnd_some hf
  refine z_callS (As := [.int p1, .int (0 : Int32), .int (2 : Int32)]) (rest := []) hx hb hml hown hL hK hM hS (kX10_in l G A V h p1 (0 : Int32) (2 : Int32) hc2) (zg_X10_in zw4_68) zy_X10_in ⟨rfl, rfl⟩ ⟨Nat.le_of_ble_eq_true rfl, Nat.le_of_ble_eq_true rfl⟩ rfl hl.1 rfl (Nat.le_of_ble_eq_true rfl) dX10_makesLocker_3 ⟨Nat.zero_le _, Nat.zero_le _⟩ (fun H locs hM hS => ?_)
  refine W.eq (g2 := F0 m 6 ls [.int r1]) rfl ?_
  refine lv_if_ne (tgt := 11) hx hb dX10_makesLocker_6 (by decide) (fun c4 => ?_) (fun c4 => ?_)
  · replace hf := iff_ hf c4
    refine lv_aload_n hx hb dX10_makesLocker_11 rfl (lv_at hl 0 rfl) ?_
    refine z_get (own := RX10) (C := RX10) (T := TX10) (N := 12) (ci := 8) (v := .ref (gA G 17 0 0)) hx hb hL inX10 hown hK hM dm_16 (ze_16 G V 0 0 h3) rfl 0 (by decide) (hL _ zw4_19) rfl rfl dX10_makesLocker_12 ?_
    refine lv_iconst (v := 4) hx hb dX10_makesLocker_15 (by decide) ?_
    obtain ⟨hb5, hf⟩ := grd_some hf
    refine z_iald hx hb hK hM (dm_17 (i := 0) (by decide)) (ze_17_0 G V h3) (inb_in hb5) dX10_makesLocker_16 ?_
    refine lv_bipush (v := 12) hx hb dX10_makesLocker_17 (by decide) ?_
    refine lv_icmp_ne (tgt := 25) hx hb dX10_makesLocker_19 (by decide) (fun c6 => ?_) (fun c6 => ?_)
    · replace hf := iff_ hf c6
      refine lv_aload_n hx hb dX10_makesLocker_25 rfl (lv_at hl 0 rfl) ?_
      refine z_get (own := RX10) (C := RX10) (T := TX10) (N := 12) (ci := 8) (v := .ref (gA G 17 0 0)) hx hb hL inX10 hown hK hM dm_16 (ze_16 G V 0 0 h3) rfl 0 (by decide) (hL _ zw4_19) rfl rfl dX10_makesLocker_26 ?_
      refine lv_iconst (v := 4) hx hb dX10_makesLocker_29 (by decide) ?_
      obtain ⟨hb7, hf⟩ := grd_some hf
      refine z_iald hx hb hK hM (dm_17 (i := 0) (by decide)) (ze_17_0 G V h3) (inb_in hb7) dX10_makesLocker_30 ?_
      refine lv_topi (fun y8 ey8 => ?_)
      replace hf := ltI_some hf ey8
      refine lv_istore_n (lv' := [(2, .int y8), (0, .ref (gA G 16 0 0)), (1, .int p1)]) hx hb dX10_makesLocker_31 rfl hl (by decide) rfl (fun ls hl => ?_)
      refine lv_aload_n hx hb dX10_makesLocker_32 rfl (lv_at hl 1 rfl) ?_
      refine lv_iload_n hx hb dX10_makesLocker_33 rfl (lv_at hl 0 rfl) ?_
      refine lv_iconst (v := 0) hx hb dX10_makesLocker_34 (by decide) ?_
      refine lv_iload_n hx hb dX10_makesLocker_35 rfl (lv_at hl 2 rfl) ?_
      obtain ⟨r9, h11, hc10, hf⟩ := bnd_some hf
      refine z_callV (As := [.int y8, .int (0 : Int32), .int p1]) (rest := []) (C := RX10) hx hb hml hown hL hK hM hS (kX10_lay l G A V h3 y8 (0 : Int32) p1 hc10) (zg_X10_lay zw4_71) zv_X10_lay ⟨rfl, rfl⟩ ⟨Nat.le_of_ble_eq_true rfl, Nat.le_of_ble_eq_true rfl⟩ (hM.recv hK dm_16 (ze_16 G V 0 0 h3) rfl) rfl hl.1 rfl (Nat.le_of_ble_eq_true rfl) dX10_makesLocker_36 ⟨Nat.zero_le _, Nat.zero_le _⟩ (fun H locs hM hS => ?_)
      refine W.eq (g2 := F0 m 39 ls []) rfl ?_
      refine lv_aload_n hx hb dX10_makesLocker_39 rfl (lv_at hl 1 rfl) ?_
      refine lv_iload_n hx hb dX10_makesLocker_40 rfl (lv_at hl 0 rfl) ?_
      refine lv_iconst (v := 1) hx hb dX10_makesLocker_41 (by decide) ?_
      refine lv_iconst (v := -1) hx hb dX10_makesLocker_42 (by decide) ?_
      obtain ⟨r12, h14, hc13, hf⟩ := bnd_some hf
      refine z_callV (As := [.int y8, .int (1 : Int32), .int (-1 : Int32)]) (rest := []) (C := RX10) hx hb hml hown hL hK hM hS (kX10_lay l G A V h11 y8 (1 : Int32) (-1 : Int32) hc13) (zg_X10_lay zw4_71) zv_X10_lay ⟨rfl, rfl⟩ ⟨Nat.le_of_ble_eq_true rfl, Nat.le_of_ble_eq_true rfl⟩ (hM.recv hK dm_16 (ze_16 G V 0 0 h11) rfl) rfl hl.1 rfl (Nat.le_of_ble_eq_true rfl) dX10_makesLocker_43 ⟨Nat.zero_le _, Nat.zero_le _⟩ (fun H locs hM hS => ?_)
      refine W.eq (g2 := F0 m 46 ls []) rfl ?_
      refine lv_aload_n hx hb dX10_makesLocker_46 rfl (lv_at hl 1 rfl) ?_
      refine lv_iload_n hx hb dX10_makesLocker_47 rfl (lv_at hl 0 rfl) ?_
      refine lv_iconst (v := 2) hx hb dX10_makesLocker_48 (by decide) ?_
      refine lv_iconst (v := -1) hx hb dX10_makesLocker_49 (by decide) ?_
      obtain ⟨r15, h17, hc16, hf⟩ := bnd_some hf
      refine z_callV (As := [.int y8, .int (2 : Int32), .int (-1 : Int32)]) (rest := []) (C := RX10) hx hb hml hown hL hK hM hS (kX10_lay l G A V h14 y8 (2 : Int32) (-1 : Int32) hc16) (zg_X10_lay zw4_71) zv_X10_lay ⟨rfl, rfl⟩ ⟨Nat.le_of_ble_eq_true rfl, Nat.le_of_ble_eq_true rfl⟩ (hM.recv hK dm_16 (ze_16 G V 0 0 h14) rfl) rfl hl.1 rfl (Nat.le_of_ble_eq_true rfl) dX10_makesLocker_50 ⟨Nat.zero_le _, Nat.zero_le _⟩ (fun H locs hM hS => ?_)
      refine W.eq (g2 := F0 m 53 ls []) rfl ?_
      refine lv_aload_n hx hb dX10_makesLocker_53 rfl (lv_at hl 1 rfl) ?_
      refine lv_iload_n hx hb dX10_makesLocker_54 rfl (lv_at hl 0 rfl) ?_
      refine lv_iconst (v := 3) hx hb dX10_makesLocker_55 (by decide) ?_
      refine lv_iconst (v := 1) hx hb dX10_makesLocker_56 (by decide) ?_
      obtain ⟨r18, h20, hc19, hf⟩ := bnd_some hf
      refine z_callV (As := [.int y8, .int (3 : Int32), .int (1 : Int32)]) (rest := []) (C := RX10) hx hb hml hown hL hK hM hS (kX10_lay l G A V h17 y8 (3 : Int32) (1 : Int32) hc19) (zg_X10_lay zw4_71) zv_X10_lay ⟨rfl, rfl⟩ ⟨Nat.le_of_ble_eq_true rfl, Nat.le_of_ble_eq_true rfl⟩ (hM.recv hK dm_16 (ze_16 G V 0 0 h17) rfl) rfl hl.1 rfl (Nat.le_of_ble_eq_true rfl) dX10_makesLocker_57 ⟨Nat.zero_le _, Nat.zero_le _⟩ (fun H locs hM hS => ?_)
      refine W.eq (g2 := F0 m 60 ls []) rfl ?_
      refine lv_aload_n hx hb dX10_makesLocker_60 rfl (lv_at hl 1 rfl) ?_
      refine lv_iload_n hx hb dX10_makesLocker_61 rfl (lv_at hl 0 rfl) ?_
      refine lv_iconst (v := 4) hx hb dX10_makesLocker_62 (by decide) ?_
      refine lv_iconst (v := -1) hx hb dX10_makesLocker_63 (by decide) ?_
      obtain ⟨r21, h23, hc22, hf⟩ := bnd_some hf
      refine z_callV (As := [.int y8, .int (4 : Int32), .int (-1 : Int32)]) (rest := []) (C := RX10) hx hb hml hown hL hK hM hS (kX10_lay l G A V h20 y8 (4 : Int32) (-1 : Int32) hc22) (zg_X10_lay zw4_71) zv_X10_lay ⟨rfl, rfl⟩ ⟨Nat.le_of_ble_eq_true rfl, Nat.le_of_ble_eq_true rfl⟩ (hM.recv hK dm_16 (ze_16 G V 0 0 h20) rfl) rfl hl.1 rfl (Nat.le_of_ble_eq_true rfl) dX10_makesLocker_64 ⟨Nat.zero_le _, Nat.zero_le _⟩ (fun H locs hM hS => ?_)
      refine W.eq (g2 := F0 m 67 ls []) rfl ?_
      refine lv_aload_n hx hb dX10_makesLocker_67 rfl (lv_at hl 1 rfl) ?_
      refine lv_iload_n hx hb dX10_makesLocker_68 rfl (lv_at hl 0 rfl) ?_
      refine lv_iconst (v := 5) hx hb dX10_makesLocker_69 (by decide) ?_
      refine lv_iconst (v := 0) hx hb dX10_makesLocker_70 (by decide) ?_
      obtain ⟨r24, h26, hc25, hf⟩ := bnd_some hf
      refine z_callV (As := [.int y8, .int (5 : Int32), .int (0 : Int32)]) (rest := []) (C := RX10) hx hb hml hown hL hK hM hS (kX10_lay l G A V h23 y8 (5 : Int32) (0 : Int32) hc25) (zg_X10_lay zw4_71) zv_X10_lay ⟨rfl, rfl⟩ ⟨Nat.le_of_ble_eq_true rfl, Nat.le_of_ble_eq_true rfl⟩ (hM.recv hK dm_16 (ze_16 G V 0 0 h23) rfl) rfl hl.1 rfl (Nat.le_of_ble_eq_true rfl) dX10_makesLocker_71 ⟨Nat.zero_le _, Nat.zero_le _⟩ (fun H locs hM hS => ?_)
      refine W.eq (g2 := F0 m 74 ls []) rfl ?_
      refine lv_aload_n hx hb dX10_makesLocker_74 rfl (lv_at hl 1 rfl) ?_
      refine z_get (own := RX10) (C := RX10) (T := TX10) (N := 12) (ci := 8) (v := .ref (gA G 17 0 0)) hx hb hL inX10 hown hK hM dm_16 (ze_16 G V 0 0 h26) rfl 0 (by decide) (hL _ zw4_19) rfl rfl dX10_makesLocker_75 ?_
      refine lv_iconst (v := 4) hx hb dX10_makesLocker_78 (by decide) ?_
      refine lv_dup2_11 hx hb dX10_makesLocker_79 rfl rfl ?_
      obtain ⟨hb27, hf⟩ := grd_some hf
      refine z_iald hx hb hK hM (dm_17 (i := 0) (by decide)) (ze_17_0 G V h26) (inb_in hb27) dX10_makesLocker_80 ?_
      refine lv_iconst (v := 1) hx hb dX10_makesLocker_81 (by decide) ?_
      refine lv_iadd hx hb dX10_makesLocker_82 ?_
      obtain ⟨hb28, hf⟩ := grd_some hf
      obtain ⟨h29, eh29⟩ : ∃ y, y = up2 h26 0 ((4 : Int32).toNatClampNeg) ((h26 0 ((4 : Int32).toNatClampNeg)) + (1 : Int32)) := ⟨_, rfl⟩
      replace hf := put2_some hf eh29
      refine z_iast (V' := upG V 8 h29) hx hb hK hM hS (dm_17 (i := 0) (by decide)) (ze_17_0 G V h26) (inb_in hb28) (by rw [eh29]; exact zn_17_0 G V h26 ((4 : Int32).toNatClampNeg) ((h26 0 ((4 : Int32).toNatClampNeg)) + (1 : Int32))) dX10_makesLocker_83 (fun H locs hM hS => ?_)
      refine lv_iload_n hx hb dX10_makesLocker_84 rfl (lv_at hl 0 rfl) ?_
      exact hQf hf hM hS dX10_makesLocker_85
    · replace hf := ift hf c6
      refine lv_bipush (v := -3) hx hb dX10_makesLocker_22 (by decide) ?_
      exact hQf hf hM hS dX10_makesLocker_24
  · replace hf := ift hf c4
    refine lv_iconst (v := -1) hx hb dX10_makesLocker_9 (by decide) ?_
    exact hQf hf hM hS dX10_makesLocker_10
abbrev rX10_makesPerson : Room := { frames := 1, cells := 0, slots := 0, locals := 23 }
set_option maxRecDepth 100000 in
set_option maxHeartbeats 4000000 in
theorem kX10_makesPerson (l : Launch) (G : zG) (A : Nat → Prop) (V : zV3) (h : zV2) {r : Int32} {h' : zV2} (hf : xX10_makesPerson h  = some (r, h')) : zCt l G A yX10_makesPerson cX10_makesPerson 3 (some .int) rX10_makesPerson [.ref (gA G 16 0 0)] (upG V 8 h) (some (.int r)) (upG V 8 h') := by
  refine z_CtI (by decide) (Nat.le_of_ble_eq_true rfl) ?_
  intro p e s m args below meth c Q hx hb hml hown hL hK hM hS hQ ls hl
  replace hl : lv_has ls 3 [(0, .ref (gA G 16 0 0))] := hl
  have hQf : ∀ {a : Int32} {k : zV2} {H : Heap} {locs : List Loc} {pc : Nat} {ls : Array Slot}, some (a, k) = some (r, h') → zM G (upG V 8 k) H → va_S A s.heap H locs → decode cX10_makesPerson pc = .ok (.ireturn, 1) → W p l e rX10_makesPerson s m args below meth c H locs 0 0 Q (F0 m pc ls [.int a]) := by
    intro a k H locs pc ls e1 hM hS hd
    cases e1
    exact hQ H locs pc ls hM hS hd
  have L23 : ∀ (n : Nat) (h : zV2) (a1 : Int32) (a2 : Int32), xX10_makesPerson_L23 n h a1 a2 = some (r, h') → ∀ (H : Heap) (locs : List Loc) (ls : Array Slot), zM G (upG V 8 h) H → va_S A s.heap H locs → lv_has ls 3 [(0, .ref (gA G 16 0 0)), (1, .int a1), (2, .int a2)] → W p l e rX10_makesPerson s m args below meth c H locs 0 0 Q (F0 m 23 ls []) := by
    intro n
    induction n with
    | zero =>
      intro h a1 a2 hf H locs ls hM hS hl
      rw [xX10_makesPerson_L23] at hf
      cases hf
    | succ n ih =>
      intro h a1 a2 hf H locs ls hM hS hl
      rw [xX10_makesPerson_L23] at hf
      refine lv_iload_n hx hb dX10_makesPerson_23 rfl (lv_at hl 2 rfl) ?_
      refine lv_bipush (v := 8) hx hb dX10_makesPerson_24 (by decide) ?_
      refine lv_icmp_ge (tgt := 55) hx hb dX10_makesPerson_26 (by decide) (fun c1 => ?_) (fun c1 => ?_)
      · replace hf := ift hf c1
        refine lv_aload_n hx hb dX10_makesPerson_55 rfl (lv_at hl 0 rfl) ?_
        refine z_get (own := RX10) (C := RX10) (T := TX10) (N := 12) (ci := 8) (v := .ref (gA G 17 0 0)) hx hb hL inX10 hown hK hM dm_16 (ze_16 G V 0 0 h) rfl 0 (by decide) (hL _ zw4_19) rfl rfl dX10_makesPerson_56 ?_
        refine lv_iconst (v := 5) hx hb dX10_makesPerson_59 (by decide) ?_
        refine lv_dup2_11 hx hb dX10_makesPerson_60 rfl rfl ?_
        obtain ⟨hb2, hf⟩ := grd_some hf
        refine z_iald hx hb hK hM (dm_17 (i := 0) (by decide)) (ze_17_0 G V h) (inb_in hb2) dX10_makesPerson_61 ?_
        refine lv_iconst (v := 1) hx hb dX10_makesPerson_62 (by decide) ?_
        refine lv_iadd hx hb dX10_makesPerson_63 ?_
        obtain ⟨hb3, hf⟩ := grd_some hf
        obtain ⟨h4, eh4⟩ : ∃ y, y = up2 h 0 ((5 : Int32).toNatClampNeg) ((h 0 ((5 : Int32).toNatClampNeg)) + (1 : Int32)) := ⟨_, rfl⟩
        replace hf := put2_some hf eh4
        refine z_iast (V' := upG V 8 h4) hx hb hK hM hS (dm_17 (i := 0) (by decide)) (ze_17_0 G V h) (inb_in hb3) (by rw [eh4]; exact zn_17_0 G V h ((5 : Int32).toNatClampNeg) ((h 0 ((5 : Int32).toNatClampNeg)) + (1 : Int32))) dX10_makesPerson_64 (fun H locs hM hS => ?_)
        refine lv_iload_n hx hb dX10_makesPerson_65 rfl (lv_at hl 1 rfl) ?_
        exact hQf hf hM hS dX10_makesPerson_66
      · replace hf := iff_ hf c1
        refine lv_aload_n hx hb dX10_makesPerson_29 rfl (lv_at hl 0 rfl) ?_
        refine lv_iload_n hx hb dX10_makesPerson_30 rfl (lv_at hl 1 rfl) ?_
        refine lv_iload_n hx hb dX10_makesPerson_31 rfl (lv_at hl 2 rfl) ?_
        refine lv_iload_n hx hb dX10_makesPerson_32 rfl (lv_at hl 2 rfl) ?_
        refine lv_if_eq (tgt := 41) hx hb dX10_makesPerson_33 (by decide) (fun c5 => ?_) (fun c5 => ?_)
        · replace hf := ift hf c5
          refine lv_iconst (v := -1) hx hb dX10_makesPerson_41 (by decide) ?_
          refine lv_goto (tgt := 46) hx hb dX10_makesPerson_42 (by decide) ?_
          obtain ⟨r6, h8, hc7, hf⟩ := bnd_some hf
          refine z_callV (As := [.int a1, .int a2, .int (-1 : Int32)]) (rest := []) (C := RX10) hx hb hml hown hL hK hM hS (kX10_layP l G A V h a1 a2 (-1 : Int32) hc7) (zg_X10_layP zw4_87) zv_X10_layP ⟨rfl, rfl⟩ ⟨Nat.le_of_ble_eq_true rfl, Nat.le_of_ble_eq_true rfl⟩ (hM.recv hK dm_16 (ze_16 G V 0 0 h) rfl) rfl hl.1 rfl (Nat.le_of_ble_eq_true rfl) dX10_makesPerson_46 ⟨Nat.zero_le _, Nat.zero_le _⟩ (fun H locs hM hS => ?_)
          refine W.eq (g2 := F0 m 49 ls []) rfl ?_
          obtain ⟨y9, ey9⟩ : ∃ y : Int32, y = a2 + (1 : Int32) := ⟨_, rfl⟩
          replace hf := ltI_some hf ey9
          refine lv_iinc (v := y9) (lv' := [(2, .int y9), (0, .ref (gA G 16 0 0)), (1, .int a1)]) hx hb dX10_makesPerson_49 hl (k := 2) rfl (by rw [ey9]; rfl) (by decide) rfl (fun ls hl => ?_)
          refine lv_goto (tgt := 23) hx hb dX10_makesPerson_52 (by decide) ?_
          exact ih h8 a1 y9 hf _ _ _ hM hS (lv_sub hl [1, 2, 0] rfl)
        · replace hf := iff_ hf c5
          refine lv_iload_n hx hb dX10_makesPerson_36 rfl (lv_at hl 2 rfl) ?_
          refine lv_iconst (v := 5) hx hb dX10_makesPerson_37 (by decide) ?_
          refine lv_icmp_ne (tgt := 45) hx hb dX10_makesPerson_38 (by decide) (fun c10 => ?_) (fun c10 => ?_)
          · replace hf := iff_ hf c10
            refine lv_iconst (v := 0) hx hb dX10_makesPerson_45 (by decide) ?_
            obtain ⟨r11, h13, hc12, hf⟩ := bnd_some hf
            refine z_callV (As := [.int a1, .int a2, .int (0 : Int32)]) (rest := []) (C := RX10) hx hb hml hown hL hK hM hS (kX10_layP l G A V h a1 a2 (0 : Int32) hc12) (zg_X10_layP zw4_87) zv_X10_layP ⟨rfl, rfl⟩ ⟨Nat.le_of_ble_eq_true rfl, Nat.le_of_ble_eq_true rfl⟩ (hM.recv hK dm_16 (ze_16 G V 0 0 h) rfl) rfl hl.1 rfl (Nat.le_of_ble_eq_true rfl) dX10_makesPerson_46 ⟨Nat.zero_le _, Nat.zero_le _⟩ (fun H locs hM hS => ?_)
            refine W.eq (g2 := F0 m 49 ls []) rfl ?_
            obtain ⟨y14, ey14⟩ : ∃ y : Int32, y = a2 + (1 : Int32) := ⟨_, rfl⟩
            replace hf := ltI_some hf ey14
            refine lv_iinc (v := y14) (lv' := [(2, .int y14), (0, .ref (gA G 16 0 0)), (1, .int a1)]) hx hb dX10_makesPerson_49 hl (k := 2) rfl (by rw [ey14]; rfl) (by decide) rfl (fun ls hl => ?_)
            refine lv_goto (tgt := 23) hx hb dX10_makesPerson_52 (by decide) ?_
            exact ih h13 a1 y14 hf _ _ _ hM hS (lv_sub hl [1, 2, 0] rfl)
          · replace hf := ift hf c10
            refine lv_iconst (v := -1) hx hb dX10_makesPerson_41 (by decide) ?_
            refine lv_goto (tgt := 46) hx hb dX10_makesPerson_42 (by decide) ?_
            obtain ⟨r15, h17, hc16, hf⟩ := bnd_some hf
            refine z_callV (As := [.int a1, .int a2, .int (-1 : Int32)]) (rest := []) (C := RX10) hx hb hml hown hL hK hM hS (kX10_layP l G A V h a1 a2 (-1 : Int32) hc16) (zg_X10_layP zw4_87) zv_X10_layP ⟨rfl, rfl⟩ ⟨Nat.le_of_ble_eq_true rfl, Nat.le_of_ble_eq_true rfl⟩ (hM.recv hK dm_16 (ze_16 G V 0 0 h) rfl) rfl hl.1 rfl (Nat.le_of_ble_eq_true rfl) dX10_makesPerson_46 ⟨Nat.zero_le _, Nat.zero_le _⟩ (fun H locs hM hS => ?_)
            refine W.eq (g2 := F0 m 49 ls []) rfl ?_
            obtain ⟨y18, ey18⟩ : ∃ y : Int32, y = a2 + (1 : Int32) := ⟨_, rfl⟩
            replace hf := ltI_some hf ey18
            refine lv_iinc (v := y18) (lv' := [(2, .int y18), (0, .ref (gA G 16 0 0)), (1, .int a1)]) hx hb dX10_makesPerson_49 hl (k := 2) rfl (by rw [ey18]; rfl) (by decide) rfl (fun ls hl => ?_)
            refine lv_goto (tgt := 23) hx hb dX10_makesPerson_52 (by decide) ?_
            exact ih h17 a1 y18 hf _ _ _ hM hS (lv_sub hl [1, 2, 0] rfl)
  unfold xX10_makesPerson at hf
  refine lv_aload_n hx hb dX10_makesPerson_0 rfl (lv_at hl 0 rfl) ?_
  refine z_get (own := RX10) (C := RX10) (T := TX10) (N := 12) (ci := 8) (v := .ref (gA G 17 0 0)) hx hb hL inX10 hown hK hM dm_16 (ze_16 G V 0 0 h) rfl 0 (by decide) (hL _ zw4_19) rfl rfl dX10_makesPerson_1 ?_
  refine lv_iconst (v := 5) hx hb dX10_makesPerson_4 (by decide) ?_
  obtain ⟨hb1, hf⟩ := grd_some hf
  refine z_iald hx hb hK hM (dm_17 (i := 0) (by decide)) (ze_17_0 G V h) (inb_in hb1) dX10_makesPerson_5 ?_
  refine lv_bipush (v := 10) hx hb dX10_makesPerson_6 (by decide) ?_
  refine lv_icmp_ne (tgt := 14) hx hb dX10_makesPerson_8 (by decide) (fun c2 => ?_) (fun c2 => ?_)
  · replace hf := iff_ hf c2
    refine lv_aload_n hx hb dX10_makesPerson_14 rfl (lv_at hl 0 rfl) ?_
    refine z_get (own := RX10) (C := RX10) (T := TX10) (N := 12) (ci := 8) (v := .ref (gA G 17 0 0)) hx hb hL inX10 hown hK hM dm_16 (ze_16 G V 0 0 h) rfl 0 (by decide) (hL _ zw4_19) rfl rfl dX10_makesPerson_15 ?_
    refine lv_iconst (v := 5) hx hb dX10_makesPerson_18 (by decide) ?_
    obtain ⟨hb3, hf⟩ := grd_some hf
    refine z_iald hx hb hK hM (dm_17 (i := 0) (by decide)) (ze_17_0 G V h) (inb_in hb3) dX10_makesPerson_19 ?_
    refine lv_topi (fun y4 ey4 => ?_)
    replace hf := ltI_some hf ey4
    refine lv_istore_n (lv' := [(1, .int y4), (0, .ref (gA G 16 0 0))]) hx hb dX10_makesPerson_20 rfl hl (by decide) rfl (fun ls hl => ?_)
    refine lv_iconst (v := 0) hx hb dX10_makesPerson_21 (by decide) ?_
    refine lv_istore_n (lv' := [(2, .int (0 : Int32)), (1, .int y4), (0, .ref (gA G 16 0 0))]) hx hb dX10_makesPerson_22 rfl hl (by decide) rfl (fun ls hl => ?_)
    exact L23 1000 h y4 (0 : Int32) hf _ _ _ hM hS (lv_sub hl [2, 1, 0] rfl)
  · replace hf := ift hf c2
    refine lv_bipush (v := -3) hx hb dX10_makesPerson_11 (by decide) ?_
    exact hQf hf hM hS dX10_makesPerson_13
abbrev rX10_inRow : Room := { frames := 1, cells := 0, slots := 0, locals := 22 }
set_option maxRecDepth 100000 in
set_option maxHeartbeats 4000000 in
theorem kX10_inRow (l : Launch) (G : zG) (A : Nat → Prop) (V : zV3) (h : zV2) (p1 : Int32) {r : Int32} {h' : zV2} (hf : xX10_inRow h p1 = some (r, h')) : zCt l G A yX10_inRow cX10_inRow 4 (some .int) rX10_inRow [.ref (gA G 16 0 0), .int p1] (upG V 8 h) (some (.int r)) (upG V 8 h') := by
  refine z_CtI (by decide) (Nat.le_of_ble_eq_true rfl) ?_
  intro p e s m args below meth c Q hx hb hml hown hL hK hM hS hQ ls hl
  replace hl : lv_has ls 4 [(0, .ref (gA G 16 0 0)), (1, .int p1)] := hl
  have hQf : ∀ {a : Int32} {k : zV2} {H : Heap} {locs : List Loc} {pc : Nat} {ls : Array Slot}, some (a, k) = some (r, h') → zM G (upG V 8 k) H → va_S A s.heap H locs → decode cX10_inRow pc = .ok (.ireturn, 1) → W p l e rX10_inRow s m args below meth c H locs 0 0 Q (F0 m pc ls [.int a]) := by
    intro a k H locs pc ls e1 hM hS hd
    cases e1
    exact hQ H locs pc ls hM hS hd
  have L4 : ∀ (n : Nat) (h : zV2) (a2 : Int32) (a3 : Int32), xX10_inRow_L4 p1 n h a2 a3 = some (r, h') → ∀ (H : Heap) (locs : List Loc) (ls : Array Slot), zM G (upG V 8 h) H → va_S A s.heap H locs → lv_has ls 4 [(0, .ref (gA G 16 0 0)), (1, .int p1), (2, .int a2), (3, .int a3)] → W p l e rX10_inRow s m args below meth c H locs 0 0 Q (F0 m 4 ls []) := by
    intro n
    induction n with
    | zero =>
      intro h a2 a3 hf H locs ls hM hS hl
      rw [xX10_inRow_L4] at hf
      cases hf
    | succ n ih =>
      intro h a2 a3 hf H locs ls hM hS hl
      rw [xX10_inRow_L4] at hf
      refine lv_iload_n hx hb dX10_inRow_4 rfl (lv_at hl 3 rfl) ?_
      refine lv_aload_n hx hb dX10_inRow_5 rfl (lv_at hl 0 rfl) ?_
      refine z_get (own := RX10) (C := RX10) (T := TX10) (N := 12) (ci := 8) (v := .ref (gA G 17 0 0)) hx hb hL inX10 hown hK hM dm_16 (ze_16 G V 0 0 h) rfl 0 (by decide) (hL _ zw4_19) rfl rfl dX10_inRow_6 ?_
      refine lv_iconst (v := 4) hx hb dX10_inRow_9 (by decide) ?_
      obtain ⟨hb1, hf⟩ := grd_some hf
      refine z_iald hx hb hK hM (dm_17 (i := 0) (by decide)) (ze_17_0 G V h) (inb_in hb1) dX10_inRow_10 ?_
      refine lv_icmp_ge (tgt := 38) hx hb dX10_inRow_11 (by decide) (fun c2 => ?_) (fun c2 => ?_)
      · replace hf := ift hf c2
        refine lv_iload_n hx hb dX10_inRow_38 rfl (lv_at hl 2 rfl) ?_
        exact hQf hf hM hS dX10_inRow_39
      · replace hf := iff_ hf c2
        refine lv_iload_n hx hb dX10_inRow_14 rfl (lv_at hl 2 rfl) ?_
        refine lv_aload_n hx hb dX10_inRow_15 rfl (lv_at hl 0 rfl) ?_
        refine lv_iload_n hx hb dX10_inRow_16 rfl (lv_at hl 3 rfl) ?_
        refine lv_iconst (v := 1) hx hb dX10_inRow_17 (by decide) ?_
        obtain ⟨r3, h5, hc4, hf⟩ := bnd_some hf
        refine z_callV (As := [.int a3, .int (1 : Int32)]) (rest := [.int a2]) (C := RX10) hx hb hml hown hL hK hM hS (kX10_of l G A V h a3 (1 : Int32) hc4) (zg_X10_of zw4_103) zv_X10_of ⟨rfl, rfl⟩ ⟨Nat.le_of_ble_eq_true rfl, Nat.le_of_ble_eq_true rfl⟩ (hM.recv hK dm_16 (ze_16 G V 0 0 h) rfl) rfl hl.1 rfl (Nat.le_of_ble_eq_true rfl) dX10_inRow_18 ⟨Nat.zero_le _, Nat.zero_le _⟩ (fun H locs hM hS => ?_)
        refine W.eq (g2 := F0 m 21 ls [.int r3, .int a2]) rfl ?_
        refine lv_iload_n hx hb dX10_inRow_21 rfl (lv_at hl 1 rfl) ?_
        refine lv_icmp_ne (tgt := 29) hx hb dX10_inRow_22 (by decide) (fun c6 => ?_) (fun c6 => ?_)
        · replace hf := iff_ hf c6
          refine lv_iconst (v := 0) hx hb dX10_inRow_29 (by decide) ?_
          refine lv_iadd hx hb dX10_inRow_30 ?_
          refine lv_topi (fun y7 ey7 => ?_)
          replace hf := ltI_some hf ey7
          refine lv_istore_n (lv' := [(2, .int y7), (0, .ref (gA G 16 0 0)), (1, .int p1), (3, .int a3)]) hx hb dX10_inRow_31 rfl hl (by decide) rfl (fun ls hl => ?_)
          obtain ⟨y8, ey8⟩ : ∃ y : Int32, y = a3 + (1 : Int32) := ⟨_, rfl⟩
          replace hf := ltI_some hf ey8
          refine lv_iinc (v := y8) (lv' := [(3, .int y8), (2, .int y7), (0, .ref (gA G 16 0 0)), (1, .int p1)]) hx hb dX10_inRow_32 hl (k := 3) rfl (by rw [ey8]; rfl) (by decide) rfl (fun ls hl => ?_)
          refine lv_goto (tgt := 4) hx hb dX10_inRow_35 (by decide) ?_
          exact ih h5 y7 y8 hf _ _ _ hM hS (lv_sub hl [2, 3, 1, 0] rfl)
        · replace hf := ift hf c6
          refine lv_iconst (v := 1) hx hb dX10_inRow_25 (by decide) ?_
          refine lv_goto (tgt := 30) hx hb dX10_inRow_26 (by decide) ?_
          refine lv_iadd hx hb dX10_inRow_30 ?_
          refine lv_topi (fun y9 ey9 => ?_)
          replace hf := ltI_some hf ey9
          refine lv_istore_n (lv' := [(2, .int y9), (0, .ref (gA G 16 0 0)), (1, .int p1), (3, .int a3)]) hx hb dX10_inRow_31 rfl hl (by decide) rfl (fun ls hl => ?_)
          obtain ⟨y10, ey10⟩ : ∃ y : Int32, y = a3 + (1 : Int32) := ⟨_, rfl⟩
          replace hf := ltI_some hf ey10
          refine lv_iinc (v := y10) (lv' := [(3, .int y10), (2, .int y9), (0, .ref (gA G 16 0 0)), (1, .int p1)]) hx hb dX10_inRow_32 hl (k := 3) rfl (by rw [ey10]; rfl) (by decide) rfl (fun ls hl => ?_)
          refine lv_goto (tgt := 4) hx hb dX10_inRow_35 (by decide) ?_
          exact ih h5 y9 y10 hf _ _ _ hM hS (lv_sub hl [2, 3, 1, 0] rfl)
  unfold xX10_inRow at hf
  refine lv_iconst (v := 0) hx hb dX10_inRow_0 (by decide) ?_
  refine lv_istore_n (lv' := [(2, .int (0 : Int32)), (0, .ref (gA G 16 0 0)), (1, .int p1)]) hx hb dX10_inRow_1 rfl hl (by decide) rfl (fun ls hl => ?_)
  refine lv_iconst (v := 0) hx hb dX10_inRow_2 (by decide) ?_
  refine lv_istore_n (lv' := [(3, .int (0 : Int32)), (2, .int (0 : Int32)), (0, .ref (gA G 16 0 0)), (1, .int p1)]) hx hb dX10_inRow_3 rfl hl (by decide) rfl (fun ls hl => ?_)
  exact L4 1000 h (0 : Int32) (0 : Int32) hf _ _ _ hM hS (lv_sub hl [2, 3, 1, 0] rfl)
abbrev rX10_stands : Room := { frames := 4, cells := 0, slots := 0, locals := 90 }
set_option maxRecDepth 100000 in
set_option maxHeartbeats 4000000 in
theorem kX10_stands (l : Launch) (G : zG) (A : Nat → Prop) (V : zV3) (h : zV2) (p1 : Int32) (p2 : Int32) {r : Int32} {h' : zV2} (hf : xX10_stands h p1 p2 = some (r, h')) : zCt l G A yX10_stands cX10_stands 3 (some .int) rX10_stands [.ref (gA G 16 0 0), .int p1, .int p2] (upG V 8 h) (some (.int r)) (upG V 8 h') := by
  refine z_CtI (by decide) (Nat.le_of_ble_eq_true rfl) ?_
  intro p e s m args below meth c Q hx hb hml hown hL hK hM hS hQ ls hl
  replace hl : lv_has ls 3 [(0, .ref (gA G 16 0 0)), (1, .int p1), (2, .int p2)] := hl
  have hQf : ∀ {a : Int32} {k : zV2} {H : Heap} {locs : List Loc} {pc : Nat} {ls : Array Slot}, some (a, k) = some (r, h') → zM G (upG V 8 k) H → va_S A s.heap H locs → decode cX10_stands pc = .ok (.ireturn, 1) → W p l e rX10_stands s m args below meth c H locs 0 0 Q (F0 m pc ls [.int a]) := by
    intro a k H locs pc ls e1 hM hS hd
    cases e1
    exact hQ H locs pc ls hM hS hd
  unfold xX10_stands at hf
  refine lv_aload_n hx hb dX10_stands_0 rfl (lv_at hl 0 rfl) ?_
  refine lv_iload_n hx hb dX10_stands_1 rfl (lv_at hl 1 rfl) ?_
  obtain ⟨r1, h3, hc2, hf⟩ := bnd_some hf
  refine z_callV (As := [.int p1]) (rest := []) (C := RX10) hx hb hml hown hL hK hM hS (kX10_isLocker l G A V h p1 hc2) (zg_X10_isLocker zw4_99) zv_X10_isLocker ⟨rfl, rfl⟩ ⟨Nat.le_of_ble_eq_true rfl, Nat.le_of_ble_eq_true rfl⟩ (hM.recv hK dm_16 (ze_16 G V 0 0 h) rfl) rfl hl.1 rfl (Nat.le_of_ble_eq_true rfl) dX10_stands_2 ⟨Nat.zero_le _, Nat.zero_le _⟩ (fun H locs hM hS => ?_)
  refine W.eq (g2 := F0 m 5 ls [.int r1]) rfl ?_
  refine lv_if_eq (tgt := 17) hx hb dX10_stands_5 (by decide) (fun c4 => ?_) (fun c4 => ?_)
  · replace hf := ift hf c4
    refine lv_iconst (v := -1) hx hb dX10_stands_17 (by decide) ?_
    exact hQf hf hM hS dX10_stands_18
  · replace hf := iff_ hf c4
    refine lv_iload_n hx hb dX10_stands_8 rfl (lv_at hl 2 rfl) ?_
    refine lv_iconst (v := 0) hx hb dX10_stands_9 (by decide) ?_
    refine lv_iconst (v := 2) hx hb dX10_stands_10 (by decide) ?_
    obtain ⟨r5, h7, hc6, hf⟩ := bnd_some hf
    refine z_callS (As := [.int p2, .int (0 : Int32), .int (2 : Int32)]) (rest := []) hx hb hml hown hL hK hM hS (kX10_in l G A V h3 p2 (0 : Int32) (2 : Int32) hc6) (zg_X10_in zw4_68) zy_X10_in ⟨rfl, rfl⟩ ⟨Nat.le_of_ble_eq_true rfl, Nat.le_of_ble_eq_true rfl⟩ rfl hl.1 rfl (Nat.le_of_ble_eq_true rfl) dX10_stands_11 ⟨Nat.zero_le _, Nat.zero_le _⟩ (fun H locs hM hS => ?_)
    refine W.eq (g2 := F0 m 14 ls [.int r5]) rfl ?_
    refine lv_if_ne (tgt := 19) hx hb dX10_stands_14 (by decide) (fun c8 => ?_) (fun c8 => ?_)
    · replace hf := iff_ hf c8
      refine lv_aload_n hx hb dX10_stands_19 rfl (lv_at hl 0 rfl) ?_
      refine lv_iload_n hx hb dX10_stands_20 rfl (lv_at hl 1 rfl) ?_
      refine lv_iconst (v := 1) hx hb dX10_stands_21 (by decide) ?_
      obtain ⟨r9, h11, hc10, hf⟩ := bnd_some hf
      refine z_callV (As := [.int p1, .int (1 : Int32)]) (rest := []) (C := RX10) hx hb hml hown hL hK hM hS (kX10_of l G A V h7 p1 (1 : Int32) hc10) (zg_X10_of zw4_103) zv_X10_of ⟨rfl, rfl⟩ ⟨Nat.le_of_ble_eq_true rfl, Nat.le_of_ble_eq_true rfl⟩ (hM.recv hK dm_16 (ze_16 G V 0 0 h7) rfl) rfl hl.1 rfl (Nat.le_of_ble_eq_true rfl) dX10_stands_22 ⟨Nat.zero_le _, Nat.zero_le _⟩ (fun H locs hM hS => ?_)
      refine W.eq (g2 := F0 m 25 ls [.int r9]) rfl ?_
      refine lv_if_ge (tgt := 38) hx hb dX10_stands_25 (by decide) (fun c12 => ?_) (fun c12 => ?_)
      · replace hf := ift hf c12
        refine lv_bipush (v := -2) hx hb dX10_stands_38 (by decide) ?_
        exact hQf hf hM hS dX10_stands_40
      · replace hf := iff_ hf c12
        refine lv_aload_n hx hb dX10_stands_28 rfl (lv_at hl 0 rfl) ?_
        refine lv_iload_n hx hb dX10_stands_29 rfl (lv_at hl 1 rfl) ?_
        refine lv_iconst (v := 0) hx hb dX10_stands_30 (by decide) ?_
        obtain ⟨r13, h15, hc14, hf⟩ := bnd_some hf
        refine z_callV (As := [.int p1, .int (0 : Int32)]) (rest := []) (C := RX10) hx hb hml hown hL hK hM hS (kX10_of l G A V h11 p1 (0 : Int32) hc14) (zg_X10_of zw4_103) zv_X10_of ⟨rfl, rfl⟩ ⟨Nat.le_of_ble_eq_true rfl, Nat.le_of_ble_eq_true rfl⟩ (hM.recv hK dm_16 (ze_16 G V 0 0 h11) rfl) rfl hl.1 rfl (Nat.le_of_ble_eq_true rfl) dX10_stands_31 ⟨Nat.zero_le _, Nat.zero_le _⟩ (fun H locs hM hS => ?_)
        refine W.eq (g2 := F0 m 34 ls [.int r13]) rfl ?_
        refine lv_iload_n hx hb dX10_stands_34 rfl (lv_at hl 2 rfl) ?_
        refine lv_icmp_eq (tgt := 41) hx hb dX10_stands_35 (by decide) (fun c16 => ?_) (fun c16 => ?_)
        · replace hf := ift hf c16
          refine lv_aload_n hx hb dX10_stands_41 rfl (lv_at hl 0 rfl) ?_
          refine lv_iload_n hx hb dX10_stands_42 rfl (lv_at hl 2 rfl) ?_
          obtain ⟨r17, h19, hc18, hf⟩ := bnd_some hf
          refine z_callV (As := [.int p2]) (rest := []) (C := RX10) hx hb hml hown hL hK hM hS (kX10_inRow l G A V h15 p2 hc18) (zg_X10_inRow zw4_107) zv_X10_inRow ⟨rfl, rfl⟩ ⟨Nat.le_of_ble_eq_true rfl, Nat.le_of_ble_eq_true rfl⟩ (hM.recv hK dm_16 (ze_16 G V 0 0 h15) rfl) rfl hl.1 rfl (Nat.le_of_ble_eq_true rfl) dX10_stands_43 ⟨Nat.zero_le _, Nat.zero_le _⟩ (fun H locs hM hS => ?_)
          refine W.eq (g2 := F0 m 46 ls [.int r17]) rfl ?_
          refine lv_iconst (v := 4) hx hb dX10_stands_46 (by decide) ?_
          refine lv_icmp_ne (tgt := 53) hx hb dX10_stands_47 (by decide) (fun c20 => ?_) (fun c20 => ?_)
          · replace hf := iff_ hf c20
            refine lv_aload_n hx hb dX10_stands_53 rfl (lv_at hl 0 rfl) ?_
            refine lv_iload_n hx hb dX10_stands_54 rfl (lv_at hl 1 rfl) ?_
            refine lv_iconst (v := 1) hx hb dX10_stands_55 (by decide) ?_
            refine lv_iload_n hx hb dX10_stands_56 rfl (lv_at hl 2 rfl) ?_
            obtain ⟨r21, h23, hc22, hf⟩ := bnd_some hf
            refine z_callV (As := [.int p1, .int (1 : Int32), .int p2]) (rest := []) (C := RX10) hx hb hml hown hL hK hM hS (kX10_lay l G A V h19 p1 (1 : Int32) p2 hc22) (zg_X10_lay zw4_71) zv_X10_lay ⟨rfl, rfl⟩ ⟨Nat.le_of_ble_eq_true rfl, Nat.le_of_ble_eq_true rfl⟩ (hM.recv hK dm_16 (ze_16 G V 0 0 h19) rfl) rfl hl.1 rfl (Nat.le_of_ble_eq_true rfl) dX10_stands_57 ⟨Nat.zero_le _, Nat.zero_le _⟩ (fun H locs hM hS => ?_)
            refine W.eq (g2 := F0 m 60 ls []) rfl ?_
            refine lv_aload_n hx hb dX10_stands_60 rfl (lv_at hl 0 rfl) ?_
            refine lv_iload_n hx hb dX10_stands_61 rfl (lv_at hl 1 rfl) ?_
            obtain ⟨r24, h26, hc25, hf⟩ := bnd_some hf
            refine z_callV (As := [.int p1]) (rest := []) (C := RX10) hx hb hml hown hL hK hM hS (kX10_frees l G A V h23 p1 hc25) (zg_X10_frees zw4_111) zv_X10_frees ⟨rfl, rfl⟩ ⟨Nat.le_of_ble_eq_true rfl, Nat.le_of_ble_eq_true rfl⟩ (hM.recv hK dm_16 (ze_16 G V 0 0 h23) rfl) rfl hl.1 rfl (Nat.le_of_ble_eq_true rfl) dX10_stands_62 ⟨Nat.zero_le _, Nat.zero_le _⟩ (fun H locs hM hS => ?_)
            refine W.eq (g2 := F0 m 65 ls []) rfl ?_
            refine lv_aload_n hx hb dX10_stands_65 rfl (lv_at hl 0 rfl) ?_
            refine lv_iload_n hx hb dX10_stands_66 rfl (lv_at hl 2 rfl) ?_
            obtain ⟨r27, h29, hc28, hf⟩ := bnd_some hf
            refine z_callV (As := [.int p2]) (rest := []) (C := RX10) hx hb hml hown hL hK hM hS (kX10_inRow l G A V h26 p2 hc28) (zg_X10_inRow zw4_107) zv_X10_inRow ⟨rfl, rfl⟩ ⟨Nat.le_of_ble_eq_true rfl, Nat.le_of_ble_eq_true rfl⟩ (hM.recv hK dm_16 (ze_16 G V 0 0 h26) rfl) rfl hl.1 rfl (Nat.le_of_ble_eq_true rfl) dX10_stands_67 ⟨Nat.zero_le _, Nat.zero_le _⟩ (fun H locs hM hS => ?_)
            refine W.eq (g2 := F0 m 70 ls [.int r27]) rfl ?_
            exact hQf hf hM hS dX10_stands_70
          · replace hf := ift hf c20
            refine lv_bipush (v := -3) hx hb dX10_stands_50 (by decide) ?_
            exact hQf hf hM hS dX10_stands_52
        · replace hf := iff_ hf c16
          refine lv_bipush (v := -2) hx hb dX10_stands_38 (by decide) ?_
          exact hQf hf hM hS dX10_stands_40
    · replace hf := ift hf c8
      refine lv_iconst (v := -1) hx hb dX10_stands_17 (by decide) ?_
      exact hQf hf hM hS dX10_stands_18
abbrev rX10_lends : Room := { frames := 3, cells := 0, slots := 0, locals := 67 }
set_option maxRecDepth 100000 in
set_option maxHeartbeats 4000000 in
theorem kX10_lends (l : Launch) (G : zG) (A : Nat → Prop) (V : zV3) (h : zV2) (p1 : Int32) (p2 : Int32) {r : Int32} {h' : zV2} (hf : xX10_lends h p1 p2 = some (r, h')) : zCt l G A yX10_lends cX10_lends 4 (some .int) rX10_lends [.ref (gA G 16 0 0), .int p1, .int p2] (upG V 8 h) (some (.int r)) (upG V 8 h') := by
  refine z_CtI (by decide) (Nat.le_of_ble_eq_true rfl) ?_
  intro p e s m args below meth c Q hx hb hml hown hL hK hM hS hQ ls hl
  replace hl : lv_has ls 4 [(0, .ref (gA G 16 0 0)), (1, .int p1), (2, .int p2)] := hl
  have hQf : ∀ {a : Int32} {k : zV2} {H : Heap} {locs : List Loc} {pc : Nat} {ls : Array Slot}, some (a, k) = some (r, h') → zM G (upG V 8 k) H → va_S A s.heap H locs → decode cX10_lends pc = .ok (.ireturn, 1) → W p l e rX10_lends s m args below meth c H locs 0 0 Q (F0 m pc ls [.int a]) := by
    intro a k H locs pc ls e1 hM hS hd
    cases e1
    exact hQ H locs pc ls hM hS hd
  unfold xX10_lends at hf
  refine lv_aload_n hx hb dX10_lends_0 rfl (lv_at hl 0 rfl) ?_
  refine lv_iload_n hx hb dX10_lends_1 rfl (lv_at hl 1 rfl) ?_
  obtain ⟨r1, h3, hc2, hf⟩ := bnd_some hf
  refine z_callV (As := [.int p1]) (rest := []) (C := RX10) hx hb hml hown hL hK hM hS (kX10_isPerson l G A V h p1 hc2) (zg_X10_isPerson zw4_143) zv_X10_isPerson ⟨rfl, rfl⟩ ⟨Nat.le_of_ble_eq_true rfl, Nat.le_of_ble_eq_true rfl⟩ (hM.recv hK dm_16 (ze_16 G V 0 0 h) rfl) rfl hl.1 rfl (Nat.le_of_ble_eq_true rfl) dX10_lends_2 ⟨Nat.zero_le _, Nat.zero_le _⟩ (fun H locs hM hS => ?_)
  refine W.eq (g2 := F0 m 5 ls [.int r1]) rfl ?_
  refine lv_if_eq (tgt := 17) hx hb dX10_lends_5 (by decide) (fun c4 => ?_) (fun c4 => ?_)
  · replace hf := ift hf c4
    refine lv_iconst (v := -1) hx hb dX10_lends_17 (by decide) ?_
    exact hQf hf hM hS dX10_lends_18
  · replace hf := iff_ hf c4
    refine lv_iload_n hx hb dX10_lends_8 rfl (lv_at hl 2 rfl) ?_
    refine lv_iconst (v := 0) hx hb dX10_lends_9 (by decide) ?_
    refine lv_iconst (v := 3) hx hb dX10_lends_10 (by decide) ?_
    obtain ⟨r5, h7, hc6, hf⟩ := bnd_some hf
    refine z_callS (As := [.int p2, .int (0 : Int32), .int (3 : Int32)]) (rest := []) hx hb hml hown hL hK hM hS (kX10_in l G A V h3 p2 (0 : Int32) (3 : Int32) hc6) (zg_X10_in zw4_68) zy_X10_in ⟨rfl, rfl⟩ ⟨Nat.le_of_ble_eq_true rfl, Nat.le_of_ble_eq_true rfl⟩ rfl hl.1 rfl (Nat.le_of_ble_eq_true rfl) dX10_lends_11 ⟨Nat.zero_le _, Nat.zero_le _⟩ (fun H locs hM hS => ?_)
    refine W.eq (g2 := F0 m 14 ls [.int r5]) rfl ?_
    refine lv_if_ne (tgt := 19) hx hb dX10_lends_14 (by decide) (fun c8 => ?_) (fun c8 => ?_)
    · replace hf := iff_ hf c8
      refine lv_aload_n hx hb dX10_lends_19 rfl (lv_at hl 0 rfl) ?_
      refine lv_iload_n hx hb dX10_lends_20 rfl (lv_at hl 1 rfl) ?_
      refine lv_iconst (v := 0) hx hb dX10_lends_21 (by decide) ?_
      obtain ⟨r9, h11, hc10, hf⟩ := bnd_some hf
      refine z_callV (As := [.int p1, .int (0 : Int32)]) (rest := []) (C := RX10) hx hb hml hown hL hK hM hS (kX10_ofP l G A V h7 p1 (0 : Int32) hc10) (zg_X10_ofP zw4_147) zv_X10_ofP ⟨rfl, rfl⟩ ⟨Nat.le_of_ble_eq_true rfl, Nat.le_of_ble_eq_true rfl⟩ (hM.recv hK dm_16 (ze_16 G V 0 0 h7) rfl) rfl hl.1 rfl (Nat.le_of_ble_eq_true rfl) dX10_lends_22 ⟨Nat.zero_le _, Nat.zero_le _⟩ (fun H locs hM hS => ?_)
      refine W.eq (g2 := F0 m 25 ls [.int r9]) rfl ?_
      refine lv_if_ge (tgt := 47) hx hb dX10_lends_25 (by decide) (fun c12 => ?_) (fun c12 => ?_)
      · replace hf := ift hf c12
        refine lv_bipush (v := -2) hx hb dX10_lends_47 (by decide) ?_
        exact hQf hf hM hS dX10_lends_49
      · replace hf := iff_ hf c12
        refine lv_aload_n hx hb dX10_lends_28 rfl (lv_at hl 0 rfl) ?_
        refine lv_iload_n hx hb dX10_lends_29 rfl (lv_at hl 1 rfl) ?_
        obtain ⟨r13, h15, hc14, hf⟩ := bnd_some hf
        refine z_callV (As := [.int p1]) (rest := []) (C := RX10) hx hb hml hown hL hK hM hS (kX10_placeOf l G A V h11 p1 hc14) (zg_X10_placeOf zw4_151) zv_X10_placeOf ⟨rfl, rfl⟩ ⟨Nat.le_of_ble_eq_true rfl, Nat.le_of_ble_eq_true rfl⟩ (hM.recv hK dm_16 (ze_16 G V 0 0 h11) rfl) rfl hl.1 rfl (Nat.le_of_ble_eq_true rfl) dX10_lends_30 ⟨Nat.zero_le _, Nat.zero_le _⟩ (fun H locs hM hS => ?_)
        refine W.eq (g2 := F0 m 33 ls [.int r13]) rfl ?_
        refine lv_if_ge (tgt := 47) hx hb dX10_lends_33 (by decide) (fun c16 => ?_) (fun c16 => ?_)
        · replace hf := ift hf c16
          refine lv_bipush (v := -2) hx hb dX10_lends_47 (by decide) ?_
          exact hQf hf hM hS dX10_lends_49
        · replace hf := iff_ hf c16
          refine lv_aload_n hx hb dX10_lends_36 rfl (lv_at hl 0 rfl) ?_
          refine lv_iload_n hx hb dX10_lends_37 rfl (lv_at hl 1 rfl) ?_
          refine lv_iconst (v := 3) hx hb dX10_lends_38 (by decide) ?_
          obtain ⟨r17, h19, hc18, hf⟩ := bnd_some hf
          refine z_callV (As := [.int p1, .int (3 : Int32)]) (rest := []) (C := RX10) hx hb hml hown hL hK hM hS (kX10_ofP l G A V h15 p1 (3 : Int32) hc18) (zg_X10_ofP zw4_147) zv_X10_ofP ⟨rfl, rfl⟩ ⟨Nat.le_of_ble_eq_true rfl, Nat.le_of_ble_eq_true rfl⟩ (hM.recv hK dm_16 (ze_16 G V 0 0 h15) rfl) rfl hl.1 rfl (Nat.le_of_ble_eq_true rfl) dX10_lends_39 ⟨Nat.zero_le _, Nat.zero_le _⟩ (fun H locs hM hS => ?_)
          refine W.eq (g2 := F0 m 42 ls [.int r17]) rfl ?_
          refine lv_bipush (v := 30) hx hb dX10_lends_42 (by decide) ?_
          refine lv_icmp_le (tgt := 50) hx hb dX10_lends_44 (by decide) (fun c20 => ?_) (fun c20 => ?_)
          · replace hf := ift hf c20
            refine lv_aload_n hx hb dX10_lends_50 rfl (lv_at hl 0 rfl) ?_
            refine lv_iload_n hx hb dX10_lends_51 rfl (lv_at hl 2 rfl) ?_
            obtain ⟨r21, h23, hc22, hf⟩ := bnd_some hf
            refine z_callV (As := [.int p2]) (rest := []) (C := RX10) hx hb hml hown hL hK hM hS (kX10_lowestFree l G A V h19 p2 hc22) (zg_X10_lowestFree zw4_155) zv_X10_lowestFree ⟨rfl, rfl⟩ ⟨Nat.le_of_ble_eq_true rfl, Nat.le_of_ble_eq_true rfl⟩ (hM.recv hK dm_16 (ze_16 G V 0 0 h19) rfl) rfl hl.1 rfl (Nat.le_of_ble_eq_true rfl) dX10_lends_52 ⟨Nat.zero_le _, Nat.zero_le _⟩ (fun H locs hM hS => ?_)
            refine W.eq (g2 := F0 m 55 ls [.int r21]) rfl ?_
            refine lv_istore_n (lv' := [(3, .int r21), (0, .ref (gA G 16 0 0)), (1, .int p1), (2, .int p2)]) hx hb dX10_lends_55 rfl hl (by decide) rfl (fun ls hl => ?_)
            refine lv_iload_n hx hb dX10_lends_56 rfl (lv_at hl 0 rfl) ?_
            refine lv_if_lt (tgt := 68) hx hb dX10_lends_57 (by decide) (fun c24 => ?_) (fun c24 => ?_)
            · replace hf := ift hf c24
              refine lv_aload_n hx hb dX10_lends_68 rfl (lv_at hl 1 rfl) ?_
              refine lv_iload_n hx hb dX10_lends_69 rfl (lv_at hl 2 rfl) ?_
              refine lv_iload_n hx hb dX10_lends_70 rfl (lv_at hl 3 rfl) ?_
              obtain ⟨r25, h27, hc26, hf⟩ := bnd_some hf
              refine z_callV (As := [.int p1, .int p2]) (rest := []) (C := RX10) hx hb hml hown hL hK hM hS (kX10_waitsFor l G A V h23 p1 p2 hc26) (zg_X10_waitsFor zw4_159) zv_X10_waitsFor ⟨rfl, rfl⟩ ⟨Nat.le_of_ble_eq_true rfl, Nat.le_of_ble_eq_true rfl⟩ (hM.recv hK dm_16 (ze_16 G V 0 0 h23) rfl) rfl hl.1 rfl (Nat.le_of_ble_eq_true rfl) dX10_lends_71 ⟨Nat.zero_le _, Nat.zero_le _⟩ (fun H locs hM hS => ?_)
              refine W.eq (g2 := F0 m 74 ls []) rfl ?_
              refine lv_bipush (v := 100) hx hb dX10_lends_74 (by decide) ?_
              refine lv_aload_n hx hb dX10_lends_76 rfl (lv_at hl 1 rfl) ?_
              refine z_get (own := RX10) (C := RX10) (T := TX10) (N := 12) (ci := 8) (v := .ref (gA G 17 0 0)) hx hb hL inX10 hown hK hM dm_16 (ze_16 G V 0 0 h27) rfl 0 (by decide) (hL _ zw4_19) rfl rfl dX10_lends_77 ?_
              refine lv_bipush (v := 6) hx hb dX10_lends_80 (by decide) ?_
              obtain ⟨hb28, hf⟩ := grd_some hf
              refine z_iald hx hb hK hM (dm_17 (i := 0) (by decide)) (ze_17_0 G V h27) (inb_in hb28) dX10_lends_82 ?_
              refine lv_iadd hx hb dX10_lends_83 ?_
              exact hQf hf hM hS dX10_lends_84
            · replace hf := iff_ hf c24
              refine lv_aload_n hx hb dX10_lends_60 rfl (lv_at hl 1 rfl) ?_
              refine lv_iload_n hx hb dX10_lends_61 rfl (lv_at hl 2 rfl) ?_
              refine lv_iload_n hx hb dX10_lends_62 rfl (lv_at hl 0 rfl) ?_
              obtain ⟨r29, h31, hc30, hf⟩ := bnd_some hf
              refine z_callV (As := [.int p1, .int r21]) (rest := []) (C := RX10) hx hb hml hown hL hK hM hS (kX10_beginsLoan l G A V h23 p1 r21 hc30) (zg_X10_beginsLoan zw4_127) zv_X10_beginsLoan ⟨rfl, rfl⟩ ⟨Nat.le_of_ble_eq_true rfl, Nat.le_of_ble_eq_true rfl⟩ (hM.recv hK dm_16 (ze_16 G V 0 0 h23) rfl) rfl hl.1 rfl (Nat.le_of_ble_eq_true rfl) dX10_lends_63 ⟨Nat.zero_le _, Nat.zero_le _⟩ (fun H locs hM hS => ?_)
              refine W.eq (g2 := F0 m 66 ls []) rfl ?_
              refine lv_iload_n hx hb dX10_lends_66 rfl (lv_at hl 0 rfl) ?_
              exact hQf hf hM hS dX10_lends_67
          · replace hf := iff_ hf c20
            refine lv_bipush (v := -2) hx hb dX10_lends_47 (by decide) ?_
            exact hQf hf hM hS dX10_lends_49
    · replace hf := ift hf c8
      refine lv_iconst (v := -1) hx hb dX10_lends_17 (by decide) ?_
      exact hQf hf hM hS dX10_lends_18
abbrev rX10_givesBack : Room := { frames := 4, cells := 0, slots := 0, locals := 90 }
set_option maxRecDepth 100000 in
set_option maxHeartbeats 4000000 in
theorem kX10_givesBack (l : Launch) (G : zG) (A : Nat → Prop) (V : zV3) (h : zV2) (p1 : Int32) {r : Int32} {h' : zV2} (hf : xX10_givesBack h p1 = some (r, h')) : zCt l G A yX10_givesBack cX10_givesBack 4 (some .int) rX10_givesBack [.ref (gA G 16 0 0), .int p1] (upG V 8 h) (some (.int r)) (upG V 8 h') := by
  refine z_CtI (by decide) (Nat.le_of_ble_eq_true rfl) ?_
  intro p e s m args below meth c Q hx hb hml hown hL hK hM hS hQ ls hl
  replace hl : lv_has ls 4 [(0, .ref (gA G 16 0 0)), (1, .int p1)] := hl
  have hQf : ∀ {a : Int32} {k : zV2} {H : Heap} {locs : List Loc} {pc : Nat} {ls : Array Slot}, some (a, k) = some (r, h') → zM G (upG V 8 k) H → va_S A s.heap H locs → decode cX10_givesBack pc = .ok (.ireturn, 1) → W p l e rX10_givesBack s m args below meth c H locs 0 0 Q (F0 m pc ls [.int a]) := by
    intro a k H locs pc ls e1 hM hS hd
    cases e1
    exact hQ H locs pc ls hM hS hd
  unfold xX10_givesBack at hf
  refine lv_aload_n hx hb dX10_givesBack_0 rfl (lv_at hl 0 rfl) ?_
  refine lv_iload_n hx hb dX10_givesBack_1 rfl (lv_at hl 1 rfl) ?_
  obtain ⟨r1, h3, hc2, hf⟩ := bnd_some hf
  refine z_callV (As := [.int p1]) (rest := []) (C := RX10) hx hb hml hown hL hK hM hS (kX10_isPerson l G A V h p1 hc2) (zg_X10_isPerson zw4_143) zv_X10_isPerson ⟨rfl, rfl⟩ ⟨Nat.le_of_ble_eq_true rfl, Nat.le_of_ble_eq_true rfl⟩ (hM.recv hK dm_16 (ze_16 G V 0 0 h) rfl) rfl hl.1 rfl (Nat.le_of_ble_eq_true rfl) dX10_givesBack_2 ⟨Nat.zero_le _, Nat.zero_le _⟩ (fun H locs hM hS => ?_)
  refine W.eq (g2 := F0 m 5 ls [.int r1]) rfl ?_
  refine lv_if_ne (tgt := 10) hx hb dX10_givesBack_5 (by decide) (fun c4 => ?_) (fun c4 => ?_)
  · replace hf := iff_ hf c4
    refine lv_aload_n hx hb dX10_givesBack_10 rfl (lv_at hl 0 rfl) ?_
    refine lv_iload_n hx hb dX10_givesBack_11 rfl (lv_at hl 1 rfl) ?_
    obtain ⟨r5, h7, hc6, hf⟩ := bnd_some hf
    refine z_callV (As := [.int p1]) (rest := []) (C := RX10) hx hb hml hown hL hK hM hS (kX10_placeOf l G A V h3 p1 hc6) (zg_X10_placeOf zw4_151) zv_X10_placeOf ⟨rfl, rfl⟩ ⟨Nat.le_of_ble_eq_true rfl, Nat.le_of_ble_eq_true rfl⟩ (hM.recv hK dm_16 (ze_16 G V 0 0 h3) rfl) rfl hl.1 rfl (Nat.le_of_ble_eq_true rfl) dX10_givesBack_12 ⟨Nat.zero_le _, Nat.zero_le _⟩ (fun H locs hM hS => ?_)
    refine W.eq (g2 := F0 m 15 ls [.int r5]) rfl ?_
    refine lv_istore_n (lv' := [(2, .int r5), (0, .ref (gA G 16 0 0)), (1, .int p1)]) hx hb dX10_givesBack_15 rfl hl (by decide) rfl (fun ls hl => ?_)
    refine lv_iload_n hx hb dX10_givesBack_16 rfl (lv_at hl 0 rfl) ?_
    refine lv_if_lt (tgt := 27) hx hb dX10_givesBack_17 (by decide) (fun c8 => ?_) (fun c8 => ?_)
    · replace hf := ift hf c8
      refine lv_aload_n hx hb dX10_givesBack_27 rfl (lv_at hl 1 rfl) ?_
      refine lv_iload_n hx hb dX10_givesBack_28 rfl (lv_at hl 2 rfl) ?_
      refine lv_iconst (v := 0) hx hb dX10_givesBack_29 (by decide) ?_
      obtain ⟨r9, h11, hc10, hf⟩ := bnd_some hf
      refine z_callV (As := [.int p1, .int (0 : Int32)]) (rest := []) (C := RX10) hx hb hml hown hL hK hM hS (kX10_ofP l G A V h7 p1 (0 : Int32) hc10) (zg_X10_ofP zw4_147) zv_X10_ofP ⟨rfl, rfl⟩ ⟨Nat.le_of_ble_eq_true rfl, Nat.le_of_ble_eq_true rfl⟩ (hM.recv hK dm_16 (ze_16 G V 0 0 h7) rfl) rfl hl.1 rfl (Nat.le_of_ble_eq_true rfl) dX10_givesBack_30 ⟨Nat.zero_le _, Nat.zero_le _⟩ (fun H locs hM hS => ?_)
      refine W.eq (g2 := F0 m 33 ls [.int r9]) rfl ?_
      refine lv_if_ge (tgt := 39) hx hb dX10_givesBack_33 (by decide) (fun c12 => ?_) (fun c12 => ?_)
      · replace hf := ift hf c12
        refine lv_aload_n hx hb dX10_givesBack_39 rfl (lv_at hl 1 rfl) ?_
        refine lv_iload_n hx hb dX10_givesBack_40 rfl (lv_at hl 2 rfl) ?_
        obtain ⟨r13, h15, hc14, hf⟩ := bnd_some hf
        refine z_callV (As := [.int p1]) (rest := []) (C := RX10) hx hb hml hown hL hK hM hS (kX10_overdue l G A V h11 p1 hc14) (zg_X10_overdue zw4_171) zv_X10_overdue ⟨rfl, rfl⟩ ⟨Nat.le_of_ble_eq_true rfl, Nat.le_of_ble_eq_true rfl⟩ (hM.recv hK dm_16 (ze_16 G V 0 0 h11) rfl) rfl hl.1 rfl (Nat.le_of_ble_eq_true rfl) dX10_givesBack_41 ⟨Nat.zero_le _, Nat.zero_le _⟩ (fun H locs hM hS => ?_)
        refine W.eq (g2 := F0 m 44 ls [.int r13]) rfl ?_
        refine lv_istore_n (lv' := [(3, .int r13), (2, .int r5), (0, .ref (gA G 16 0 0)), (1, .int p1)]) hx hb dX10_givesBack_44 rfl hl (by decide) rfl (fun ls hl => ?_)
        refine lv_aload_n hx hb dX10_givesBack_45 rfl (lv_at hl 2 rfl) ?_
        refine lv_aload_n hx hb dX10_givesBack_46 rfl (lv_at hl 2 rfl) ?_
        refine lv_iload_n hx hb dX10_givesBack_47 rfl (lv_at hl 3 rfl) ?_
        obtain ⟨r16, h18, hc17, hf⟩ := bnd_some hf
        refine z_callV (As := [.int p1]) (rest := [.ref (gA G 16 0 0)]) (C := RX10) hx hb hml hown hL hK hM hS (kX10_endsLoan l G A V h15 p1 hc17) (zg_X10_endsLoan zw4_175) zv_X10_endsLoan ⟨rfl, rfl⟩ ⟨Nat.le_of_ble_eq_true rfl, Nat.le_of_ble_eq_true rfl⟩ (hM.recv hK dm_16 (ze_16 G V 0 0 h15) rfl) rfl hl.1 rfl (Nat.le_of_ble_eq_true rfl) dX10_givesBack_48 ⟨Nat.zero_le _, Nat.zero_le _⟩ (fun H locs hM hS => ?_)
        refine W.eq (g2 := F0 m 51 ls [.int r16, .ref (gA G 16 0 0)]) rfl ?_
        obtain ⟨r19, h21, hc20, hf⟩ := bnd_some hf
        refine z_callV (As := [.int r16]) (rest := []) (C := RX10) hx hb hml hown hL hK hM hS (kX10_frees l G A V h18 r16 hc20) (zg_X10_frees zw4_111) zv_X10_frees ⟨rfl, rfl⟩ ⟨Nat.le_of_ble_eq_true rfl, Nat.le_of_ble_eq_true rfl⟩ (hM.recv hK dm_16 (ze_16 G V 0 0 h18) rfl) rfl hl.1 rfl (Nat.le_of_ble_eq_true rfl) dX10_givesBack_51 ⟨Nat.zero_le _, Nat.zero_le _⟩ (fun H locs hM hS => ?_)
        refine W.eq (g2 := F0 m 54 ls []) rfl ?_
        refine lv_iload_n hx hb dX10_givesBack_54 rfl (lv_at hl 0 rfl) ?_
        exact hQf hf hM hS dX10_givesBack_55
      · replace hf := iff_ hf c12
        refine lv_bipush (v := -2) hx hb dX10_givesBack_36 (by decide) ?_
        exact hQf hf hM hS dX10_givesBack_38
    · replace hf := iff_ hf c8
      refine lv_aload_n hx hb dX10_givesBack_20 rfl (lv_at hl 1 rfl) ?_
      refine lv_iload_n hx hb dX10_givesBack_21 rfl (lv_at hl 0 rfl) ?_
      obtain ⟨r22, h24, hc23, hf⟩ := bnd_some hf
      refine z_callV (As := [.int r5]) (rest := []) (C := RX10) hx hb hml hown hL hK hM hS (kX10_waitsNoMore l G A V h7 r5 hc23) (zg_X10_waitsNoMore zw4_123) zv_X10_waitsNoMore ⟨rfl, rfl⟩ ⟨Nat.le_of_ble_eq_true rfl, Nat.le_of_ble_eq_true rfl⟩ (hM.recv hK dm_16 (ze_16 G V 0 0 h7) rfl) rfl hl.1 rfl (Nat.le_of_ble_eq_true rfl) dX10_givesBack_22 ⟨Nat.zero_le _, Nat.zero_le _⟩ (fun H locs hM hS => ?_)
      refine W.eq (g2 := F0 m 25 ls []) rfl ?_
      refine lv_iconst (v := 0) hx hb dX10_givesBack_25 (by decide) ?_
      exact hQf hf hM hS dX10_givesBack_26
  · replace hf := ift hf c4
    refine lv_iconst (v := -1) hx hb dX10_givesBack_8 (by decide) ?_
    exact hQf hf hM hS dX10_givesBack_9
abbrev rX10_renews : Room := { frames := 2, cells := 0, slots := 0, locals := 44 }
set_option maxRecDepth 100000 in
set_option maxHeartbeats 4000000 in
theorem kX10_renews (l : Launch) (G : zG) (A : Nat → Prop) (V : zV3) (h : zV2) (p1 : Int32) {r : Int32} {h' : zV2} (hf : xX10_renews h p1 = some (r, h')) : zCt l G A yX10_renews cX10_renews 3 (some .int) rX10_renews [.ref (gA G 16 0 0), .int p1] (upG V 8 h) (some (.int r)) (upG V 8 h') := by
  refine z_CtI (by decide) (Nat.le_of_ble_eq_true rfl) ?_
  intro p e s m args below meth c Q hx hb hml hown hL hK hM hS hQ ls hl
  replace hl : lv_has ls 3 [(0, .ref (gA G 16 0 0)), (1, .int p1)] := hl
  have hQf : ∀ {a : Int32} {k : zV2} {H : Heap} {locs : List Loc} {pc : Nat} {ls : Array Slot}, some (a, k) = some (r, h') → zM G (upG V 8 k) H → va_S A s.heap H locs → decode cX10_renews pc = .ok (.ireturn, 1) → W p l e rX10_renews s m args below meth c H locs 0 0 Q (F0 m pc ls [.int a]) := by
    intro a k H locs pc ls e1 hM hS hd
    cases e1
    exact hQ H locs pc ls hM hS hd
  unfold xX10_renews at hf
  refine lv_aload_n hx hb dX10_renews_0 rfl (lv_at hl 0 rfl) ?_
  refine lv_iload_n hx hb dX10_renews_1 rfl (lv_at hl 1 rfl) ?_
  obtain ⟨r1, h3, hc2, hf⟩ := bnd_some hf
  refine z_callV (As := [.int p1]) (rest := []) (C := RX10) hx hb hml hown hL hK hM hS (kX10_isPerson l G A V h p1 hc2) (zg_X10_isPerson zw4_143) zv_X10_isPerson ⟨rfl, rfl⟩ ⟨Nat.le_of_ble_eq_true rfl, Nat.le_of_ble_eq_true rfl⟩ (hM.recv hK dm_16 (ze_16 G V 0 0 h) rfl) rfl hl.1 rfl (Nat.le_of_ble_eq_true rfl) dX10_renews_2 ⟨Nat.zero_le _, Nat.zero_le _⟩ (fun H locs hM hS => ?_)
  refine W.eq (g2 := F0 m 5 ls [.int r1]) rfl ?_
  refine lv_if_ne (tgt := 10) hx hb dX10_renews_5 (by decide) (fun c4 => ?_) (fun c4 => ?_)
  · replace hf := iff_ hf c4
    refine lv_aload_n hx hb dX10_renews_10 rfl (lv_at hl 0 rfl) ?_
    refine lv_iload_n hx hb dX10_renews_11 rfl (lv_at hl 1 rfl) ?_
    refine lv_iconst (v := 0) hx hb dX10_renews_12 (by decide) ?_
    obtain ⟨r5, h7, hc6, hf⟩ := bnd_some hf
    refine z_callV (As := [.int p1, .int (0 : Int32)]) (rest := []) (C := RX10) hx hb hml hown hL hK hM hS (kX10_ofP l G A V h3 p1 (0 : Int32) hc6) (zg_X10_ofP zw4_147) zv_X10_ofP ⟨rfl, rfl⟩ ⟨Nat.le_of_ble_eq_true rfl, Nat.le_of_ble_eq_true rfl⟩ (hM.recv hK dm_16 (ze_16 G V 0 0 h3) rfl) rfl hl.1 rfl (Nat.le_of_ble_eq_true rfl) dX10_renews_13 ⟨Nat.zero_le _, Nat.zero_le _⟩ (fun H locs hM hS => ?_)
    refine W.eq (g2 := F0 m 16 ls [.int r5]) rfl ?_
    refine lv_istore_n (lv' := [(2, .int r5), (0, .ref (gA G 16 0 0)), (1, .int p1)]) hx hb dX10_renews_16 rfl hl (by decide) rfl (fun ls hl => ?_)
    refine lv_iload_n hx hb dX10_renews_17 rfl (lv_at hl 0 rfl) ?_
    refine lv_if_lt (tgt := 42) hx hb dX10_renews_18 (by decide) (fun c8 => ?_) (fun c8 => ?_)
    · replace hf := ift hf c8
      refine lv_bipush (v := -2) hx hb dX10_renews_42 (by decide) ?_
      exact hQf hf hM hS dX10_renews_44
    · replace hf := iff_ hf c8
      refine lv_aload_n hx hb dX10_renews_21 rfl (lv_at hl 1 rfl) ?_
      refine lv_iload_n hx hb dX10_renews_22 rfl (lv_at hl 2 rfl) ?_
      obtain ⟨r9, h11, hc10, hf⟩ := bnd_some hf
      refine z_callV (As := [.int p1]) (rest := []) (C := RX10) hx hb hml hown hL hK hM hS (kX10_overdue l G A V h7 p1 hc10) (zg_X10_overdue zw4_171) zv_X10_overdue ⟨rfl, rfl⟩ ⟨Nat.le_of_ble_eq_true rfl, Nat.le_of_ble_eq_true rfl⟩ (hM.recv hK dm_16 (ze_16 G V 0 0 h7) rfl) rfl hl.1 rfl (Nat.le_of_ble_eq_true rfl) dX10_renews_23 ⟨Nat.zero_le _, Nat.zero_le _⟩ (fun H locs hM hS => ?_)
      refine W.eq (g2 := F0 m 26 ls [.int r9]) rfl ?_
      refine lv_if_gt (tgt := 42) hx hb dX10_renews_26 (by decide) (fun c12 => ?_) (fun c12 => ?_)
      · replace hf := ift hf c12
        refine lv_bipush (v := -2) hx hb dX10_renews_42 (by decide) ?_
        exact hQf hf hM hS dX10_renews_44
      · replace hf := iff_ hf c12
        refine lv_aload_n hx hb dX10_renews_29 rfl (lv_at hl 1 rfl) ?_
        refine lv_aload_n hx hb dX10_renews_30 rfl (lv_at hl 1 rfl) ?_
        refine lv_iload_n hx hb dX10_renews_31 rfl (lv_at hl 0 rfl) ?_
        refine lv_iconst (v := 0) hx hb dX10_renews_32 (by decide) ?_
        obtain ⟨r13, h15, hc14, hf⟩ := bnd_some hf
        refine z_callV (As := [.int r5, .int (0 : Int32)]) (rest := [.ref (gA G 16 0 0)]) (C := RX10) hx hb hml hown hL hK hM hS (kX10_of l G A V h11 r5 (0 : Int32) hc14) (zg_X10_of zw4_103) zv_X10_of ⟨rfl, rfl⟩ ⟨Nat.le_of_ble_eq_true rfl, Nat.le_of_ble_eq_true rfl⟩ (hM.recv hK dm_16 (ze_16 G V 0 0 h11) rfl) rfl hl.1 rfl (Nat.le_of_ble_eq_true rfl) dX10_renews_33 ⟨Nat.zero_le _, Nat.zero_le _⟩ (fun H locs hM hS => ?_)
        refine W.eq (g2 := F0 m 36 ls [.int r13, .ref (gA G 16 0 0)]) rfl ?_
        obtain ⟨r16, h18, hc17, hf⟩ := bnd_some hf
        refine z_callV (As := [.int r13]) (rest := []) (C := RX10) hx hb hml hown hL hK hM hS (kX10_firstWaiting l G A V h15 r13 hc17) (zg_X10_firstWaiting zw4_119) zv_X10_firstWaiting ⟨rfl, rfl⟩ ⟨Nat.le_of_ble_eq_true rfl, Nat.le_of_ble_eq_true rfl⟩ (hM.recv hK dm_16 (ze_16 G V 0 0 h15) rfl) rfl hl.1 rfl (Nat.le_of_ble_eq_true rfl) dX10_renews_36 ⟨Nat.zero_le _, Nat.zero_le _⟩ (fun H locs hM hS => ?_)
        refine W.eq (g2 := F0 m 39 ls [.int r16]) rfl ?_
        refine lv_if_lt (tgt := 45) hx hb dX10_renews_39 (by decide) (fun c19 => ?_) (fun c19 => ?_)
        · replace hf := ift hf c19
          refine lv_aload_n hx hb dX10_renews_45 rfl (lv_at hl 1 rfl) ?_
          refine lv_iload_n hx hb dX10_renews_46 rfl (lv_at hl 2 rfl) ?_
          refine lv_iconst (v := 2) hx hb dX10_renews_47 (by decide) ?_
          obtain ⟨r20, h22, hc21, hf⟩ := bnd_some hf
          refine z_callV (As := [.int p1, .int (2 : Int32)]) (rest := []) (C := RX10) hx hb hml hown hL hK hM hS (kX10_ofP l G A V h18 p1 (2 : Int32) hc21) (zg_X10_ofP zw4_147) zv_X10_ofP ⟨rfl, rfl⟩ ⟨Nat.le_of_ble_eq_true rfl, Nat.le_of_ble_eq_true rfl⟩ (hM.recv hK dm_16 (ze_16 G V 0 0 h18) rfl) rfl hl.1 rfl (Nat.le_of_ble_eq_true rfl) dX10_renews_48 ⟨Nat.zero_le _, Nat.zero_le _⟩ (fun H locs hM hS => ?_)
          refine W.eq (g2 := F0 m 51 ls [.int r20]) rfl ?_
          refine lv_aload_n hx hb dX10_renews_51 rfl (lv_at hl 1 rfl) ?_
          refine z_get (own := RX10) (C := RX10) (T := TX10) (N := 12) (ci := 8) (v := .ref (gA G 17 0 0)) hx hb hL inX10 hown hK hM dm_16 (ze_16 G V 0 0 h22) rfl 0 (by decide) (hL _ zw4_19) rfl rfl dX10_renews_52 ?_
          refine lv_iconst (v := 1) hx hb dX10_renews_55 (by decide) ?_
          obtain ⟨hb23, hf⟩ := grd_some hf
          refine z_iald hx hb hK hM (dm_17 (i := 0) (by decide)) (ze_17_0 G V h22) (inb_in hb23) dX10_renews_56 ?_
          refine lv_icmp_lt (tgt := 63) hx hb dX10_renews_57 (by decide) (fun c24 => ?_) (fun c24 => ?_)
          · replace hf := ift hf c24
            refine lv_aload_n hx hb dX10_renews_63 rfl (lv_at hl 1 rfl) ?_
            refine lv_iload_n hx hb dX10_renews_64 rfl (lv_at hl 2 rfl) ?_
            refine lv_iconst (v := 2) hx hb dX10_renews_65 (by decide) ?_
            refine lv_aload_n hx hb dX10_renews_66 rfl (lv_at hl 1 rfl) ?_
            refine lv_iload_n hx hb dX10_renews_67 rfl (lv_at hl 2 rfl) ?_
            refine lv_iconst (v := 2) hx hb dX10_renews_68 (by decide) ?_
            obtain ⟨r25, h27, hc26, hf⟩ := bnd_some hf
            refine z_callV (As := [.int p1, .int (2 : Int32)]) (rest := [.int (2 : Int32), .int p1, .ref (gA G 16 0 0)]) (C := RX10) hx hb hml hown hL hK hM hS (kX10_ofP l G A V h22 p1 (2 : Int32) hc26) (zg_X10_ofP zw4_147) zv_X10_ofP ⟨rfl, rfl⟩ ⟨Nat.le_of_ble_eq_true rfl, Nat.le_of_ble_eq_true rfl⟩ (hM.recv hK dm_16 (ze_16 G V 0 0 h22) rfl) rfl hl.1 rfl (Nat.le_of_ble_eq_true rfl) dX10_renews_69 ⟨Nat.zero_le _, Nat.zero_le _⟩ (fun H locs hM hS => ?_)
            refine W.eq (g2 := F0 m 72 ls [.int r25, .int (2 : Int32), .int p1, .ref (gA G 16 0 0)]) rfl ?_
            refine lv_iconst (v := 1) hx hb dX10_renews_72 (by decide) ?_
            refine lv_iadd hx hb dX10_renews_73 ?_
            obtain ⟨r28, h30, hc29, hf⟩ := bnd_some hf
            refine z_callV (As := [.int p1, .int (2 : Int32), .int (r25 + (1 : Int32))]) (rest := []) (C := RX10) hx hb hml hown hL hK hM hS (kX10_layP l G A V h27 p1 (2 : Int32) (r25 + (1 : Int32)) hc29) (zg_X10_layP zw4_87) zv_X10_layP ⟨rfl, rfl⟩ ⟨Nat.le_of_ble_eq_true rfl, Nat.le_of_ble_eq_true rfl⟩ (hM.recv hK dm_16 (ze_16 G V 0 0 h27) rfl) rfl hl.1 rfl (Nat.le_of_ble_eq_true rfl) dX10_renews_74 ⟨Nat.zero_le _, Nat.zero_le _⟩ (fun H locs hM hS => ?_)
            refine W.eq (g2 := F0 m 77 ls []) rfl ?_
            refine lv_aload_n hx hb dX10_renews_77 rfl (lv_at hl 1 rfl) ?_
            refine lv_iload_n hx hb dX10_renews_78 rfl (lv_at hl 2 rfl) ?_
            refine lv_iconst (v := 1) hx hb dX10_renews_79 (by decide) ?_
            refine lv_aload_n hx hb dX10_renews_80 rfl (lv_at hl 1 rfl) ?_
            refine lv_iload_n hx hb dX10_renews_81 rfl (lv_at hl 2 rfl) ?_
            refine lv_iconst (v := 1) hx hb dX10_renews_82 (by decide) ?_
            obtain ⟨r31, h33, hc32, hf⟩ := bnd_some hf
            refine z_callV (As := [.int p1, .int (1 : Int32)]) (rest := [.int (1 : Int32), .int p1, .ref (gA G 16 0 0)]) (C := RX10) hx hb hml hown hL hK hM hS (kX10_ofP l G A V h30 p1 (1 : Int32) hc32) (zg_X10_ofP zw4_147) zv_X10_ofP ⟨rfl, rfl⟩ ⟨Nat.le_of_ble_eq_true rfl, Nat.le_of_ble_eq_true rfl⟩ (hM.recv hK dm_16 (ze_16 G V 0 0 h30) rfl) rfl hl.1 rfl (Nat.le_of_ble_eq_true rfl) dX10_renews_83 ⟨Nat.zero_le _, Nat.zero_le _⟩ (fun H locs hM hS => ?_)
            refine W.eq (g2 := F0 m 86 ls [.int r31, .int (1 : Int32), .int p1, .ref (gA G 16 0 0)]) rfl ?_
            refine lv_aload_n hx hb dX10_renews_86 rfl (lv_at hl 1 rfl) ?_
            refine z_get (own := RX10) (C := RX10) (T := TX10) (N := 12) (ci := 8) (v := .ref (gA G 17 0 0)) hx hb hL inX10 hown hK hM dm_16 (ze_16 G V 0 0 h33) rfl 0 (by decide) (hL _ zw4_19) rfl rfl dX10_renews_87 ?_
            refine lv_iconst (v := 0) hx hb dX10_renews_90 (by decide) ?_
            obtain ⟨hb34, hf⟩ := grd_some hf
            refine z_iald hx hb hK hM (dm_17 (i := 0) (by decide)) (ze_17_0 G V h33) (inb_in hb34) dX10_renews_91 ?_
            refine lv_iadd hx hb dX10_renews_92 ?_
            obtain ⟨r35, h37, hc36, hf⟩ := bnd_some hf
            refine z_callV (As := [.int p1, .int (1 : Int32), .int (r31 + (h33 0 ((0 : Int32).toNatClampNeg)))]) (rest := []) (C := RX10) hx hb hml hown hL hK hM hS (kX10_layP l G A V h33 p1 (1 : Int32) (r31 + (h33 0 ((0 : Int32).toNatClampNeg))) hc36) (zg_X10_layP zw4_87) zv_X10_layP ⟨rfl, rfl⟩ ⟨Nat.le_of_ble_eq_true rfl, Nat.le_of_ble_eq_true rfl⟩ (hM.recv hK dm_16 (ze_16 G V 0 0 h33) rfl) rfl hl.1 rfl (Nat.le_of_ble_eq_true rfl) dX10_renews_93 ⟨Nat.zero_le _, Nat.zero_le _⟩ (fun H locs hM hS => ?_)
            refine W.eq (g2 := F0 m 96 ls []) rfl ?_
            refine lv_aload_n hx hb dX10_renews_96 rfl (lv_at hl 1 rfl) ?_
            refine lv_iload_n hx hb dX10_renews_97 rfl (lv_at hl 2 rfl) ?_
            refine lv_iconst (v := 1) hx hb dX10_renews_98 (by decide) ?_
            obtain ⟨r38, h40, hc39, hf⟩ := bnd_some hf
            refine z_callV (As := [.int p1, .int (1 : Int32)]) (rest := []) (C := RX10) hx hb hml hown hL hK hM hS (kX10_ofP l G A V h37 p1 (1 : Int32) hc39) (zg_X10_ofP zw4_147) zv_X10_ofP ⟨rfl, rfl⟩ ⟨Nat.le_of_ble_eq_true rfl, Nat.le_of_ble_eq_true rfl⟩ (hM.recv hK dm_16 (ze_16 G V 0 0 h37) rfl) rfl hl.1 rfl (Nat.le_of_ble_eq_true rfl) dX10_renews_99 ⟨Nat.zero_le _, Nat.zero_le _⟩ (fun H locs hM hS => ?_)
            refine W.eq (g2 := F0 m 102 ls [.int r38]) rfl ?_
            exact hQf hf hM hS dX10_renews_102
          · replace hf := iff_ hf c24
            refine lv_bipush (v := -3) hx hb dX10_renews_60 (by decide) ?_
            exact hQf hf hM hS dX10_renews_62
        · replace hf := iff_ hf c19
          refine lv_bipush (v := -2) hx hb dX10_renews_42 (by decide) ?_
          exact hQf hf hM hS dX10_renews_44
  · replace hf := ift hf c4
    refine lv_iconst (v := -1) hx hb dX10_renews_8 (by decide) ?_
    exact hQf hf hM hS dX10_renews_9
