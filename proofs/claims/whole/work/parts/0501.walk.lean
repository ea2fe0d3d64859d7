abbrev rX1_standingOf : Room := { frames := 0, cells := 0, slots := 0, locals := 0 }
set_option maxRecDepth 100000 in
set_option maxHeartbeats 4000000 in
theorem kX1_standingOf (l : Launch) (G : zG) (A : Nat → Prop) (V : zV3) (g : Nat) (hg : g < 7) (h : zV2) (p1 : Int32) {r : Int32} {h' : zV2} (hf : xX1_standingOf h p1 = some (r, h')) : zCt l G A yX1_standingOf cX1_standingOf 4 (some .int) rX1_standingOf [.ref (gA G 0 g 0), .int p1] (upG V g h) (some (.int r)) (upG V g h') := by
  refine z_CtI (by decide) (Nat.le_of_ble_eq_true rfl) ?_
  intro p e s m args below meth c Q hx hb hml hown hL hK hM hS hQ ls hl
  replace hl : lv_has ls 4 [(0, .ref (gA G 0 g 0)), (1, .int p1)] := hl
  have hQf : ∀ {a : Int32} {k : zV2} {H : Heap} {locs : List Loc} {pc : Nat} {ls : Array Slot}, some (a, k) = some (r, h') → zM G (upG V g k) H → va_S A s.heap H locs → decode cX1_standingOf pc = .ok (.ireturn, 1) → W p l e rX1_standingOf s m args below meth c H locs 0 0 Q (F0 m pc ls [.int a]) := by
    intro a k H locs pc ls e1 hM hS hd
    cases e1
    exact hQ H locs pc ls hM hS hd
  have L4 : ∀ (n : Nat) (h : zV2) (a2 : Int32) (a3 : Int32), xX1_standingOf_L4 p1 n h a2 a3 = some (r, h') → ∀ (H : Heap) (locs : List Loc) (ls : Array Slot), zM G (upG V g h) H → va_S A s.heap H locs → lv_has ls 4 [(0, .ref (gA G 0 g 0)), (1, .int p1), (2, .int a2), (3, .int a3)] → W p l e rX1_standingOf s m args below meth c H locs 0 0 Q (F0 m 4 ls []) := by
    intro n
    induction n with
    | zero =>
      intro h a2 a3 hf H locs ls hM hS hl
      rw [xX1_standingOf_L4] at hf
      cases hf
    | succ n ih =>
      intro h a2 a3 hf H locs ls hM hS hl
      rw [xX1_standingOf_L4] at hf
      refine lv_iload_n hx hb dX1_standingOf_4 rfl (lv_at hl 3 rfl) ?_
      refine lv_bipush (v := 12) hx hb dX1_standingOf_5 (by decide) ?_
      refine lv_icmp_ge (tgt := 49) hx hb dX1_standingOf_7 (by decide) (fun c1 => ?_) (fun c1 => ?_)
      · replace hf := ift hf c1
        refine lv_iload_n hx hb dX1_standingOf_49 rfl (lv_at hl 2 rfl) ?_
        exact hQf hf hM hS dX1_standingOf_50
      · replace hf := iff_ hf c1
        refine lv_iload_n hx hb dX1_standingOf_10 rfl (lv_at hl 2 rfl) ?_
        refine lv_aload_n hx hb dX1_standingOf_11 rfl (lv_at hl 0 rfl) ?_
        refine z_get (own := RX1) (C := RX1) (T := TX1) (N := 10) (ci := 0) (v := .ref (gA G 1 g 0)) hx hb hL inX1 hown hK hM (dm_0 (g := g) (i := 0) hg rfl) (ze_0 G V g 0 h) rfl 0 (by decide) (hL _ zw1_128) rfl rfl dX1_standingOf_12 ?_
        refine lv_iload_n hx hb dX1_standingOf_15 rfl (lv_at hl 3 rfl) ?_
        obtain ⟨hb2, hf⟩ := grd_some hf
        refine z_aald hx hb hK hM (dm_1 (g := g) (i := 0) hg rfl) 2 (zd_1 G (upG V g h) g 0) rfl (inb_in hb2) dX1_standingOf_16 ?_
        refine z_getN (own := RX1) (C := RX4) (T := TX4) (N := 7) (ci := 3) (v := .int (h 1 a3.toNatClampNeg)) hx hb hL inX4 hown hK hM (dm_8 (g := g) (i := a3.toNatClampNeg) hg (inb_lt hb2)) (ze_8 G V g a3.toNatClampNeg h) rfl 2 (by decide) 23 rfl rfl rfl dX1_standingOf_17 ?_
        refine lv_if_eq (tgt := 40) hx hb dX1_standingOf_20 (by decide) (fun c3 => ?_) (fun c3 => ?_)
        · replace hf := ift hf c3
          refine lv_iconst (v := 0) hx hb dX1_standingOf_40 (by decide) ?_
          refine lv_iadd hx hb dX1_standingOf_41 ?_
          refine lv_topi (fun y4 ey4 => ?_)
          replace hf := ltI_some hf ey4
          refine lv_istore_n (lv' := [(2, .int y4), (0, .ref (gA G 0 g 0)), (1, .int p1), (3, .int a3)]) hx hb dX1_standingOf_42 rfl hl (by decide) rfl (fun ls hl => ?_)
          obtain ⟨y5, ey5⟩ : ∃ y : Int32, y = a3 + (1 : Int32) := ⟨_, rfl⟩
          replace hf := ltI_some hf ey5
          refine lv_iinc (v := y5) (lv' := [(3, .int y5), (2, .int y4), (0, .ref (gA G 0 g 0)), (1, .int p1)]) hx hb dX1_standingOf_43 hl (k := 3) rfl (by rw [ey5]; rfl) (by decide) rfl (fun ls hl => ?_)
          refine lv_goto (tgt := 4) hx hb dX1_standingOf_46 (by decide) ?_
          exact ih h y4 y5 hf _ _ _ hM hS (lv_sub hl [2, 3, 1, 0] rfl)
        · replace hf := iff_ hf c3
          refine lv_aload_n hx hb dX1_standingOf_23 rfl (lv_at hl 0 rfl) ?_
          refine z_get (own := RX1) (C := RX1) (T := TX1) (N := 10) (ci := 0) (v := .ref (gA G 1 g 0)) hx hb hL inX1 hown hK hM (dm_0 (g := g) (i := 0) hg rfl) (ze_0 G V g 0 h) rfl 0 (by decide) (hL _ zw1_128) rfl rfl dX1_standingOf_24 ?_
          refine lv_iload_n hx hb dX1_standingOf_27 rfl (lv_at hl 3 rfl) ?_
          obtain ⟨hb6, hf⟩ := grd_some hf
          refine z_aald hx hb hK hM (dm_1 (g := g) (i := 0) hg rfl) 2 (zd_1 G (upG V g h) g 0) rfl (inb_in hb6) dX1_standingOf_28 ?_
          refine z_getN (own := RX1) (C := RX4) (T := TX4) (N := 7) (ci := 3) (v := .int (h 0 a3.toNatClampNeg)) hx hb hL inX4 hown hK hM (dm_8 (g := g) (i := a3.toNatClampNeg) hg (inb_lt hb6)) (ze_8 G V g a3.toNatClampNeg h) rfl 1 (by decide) 22 rfl rfl rfl dX1_standingOf_29 ?_
          refine lv_iload_n hx hb dX1_standingOf_32 rfl (lv_at hl 1 rfl) ?_
          refine lv_icmp_ne (tgt := 40) hx hb dX1_standingOf_33 (by decide) (fun c7 => ?_) (fun c7 => ?_)
          · replace hf := iff_ hf c7
            refine lv_iconst (v := 0) hx hb dX1_standingOf_40 (by decide) ?_
            refine lv_iadd hx hb dX1_standingOf_41 ?_
            refine lv_topi (fun y8 ey8 => ?_)
            replace hf := ltI_some hf ey8
            refine lv_istore_n (lv' := [(2, .int y8), (0, .ref (gA G 0 g 0)), (1, .int p1), (3, .int a3)]) hx hb dX1_standingOf_42 rfl hl (by decide) rfl (fun ls hl => ?_)
            obtain ⟨y9, ey9⟩ : ∃ y : Int32, y = a3 + (1 : Int32) := ⟨_, rfl⟩
            replace hf := ltI_some hf ey9
            refine lv_iinc (v := y9) (lv' := [(3, .int y9), (2, .int y8), (0, .ref (gA G 0 g 0)), (1, .int p1)]) hx hb dX1_standingOf_43 hl (k := 3) rfl (by rw [ey9]; rfl) (by decide) rfl (fun ls hl => ?_)
            refine lv_goto (tgt := 4) hx hb dX1_standingOf_46 (by decide) ?_
            exact ih h y8 y9 hf _ _ _ hM hS (lv_sub hl [2, 3, 1, 0] rfl)
          · replace hf := ift hf c7
            refine lv_iconst (v := 1) hx hb dX1_standingOf_36 (by decide) ?_
            refine lv_goto (tgt := 41) hx hb dX1_standingOf_37 (by decide) ?_
            refine lv_iadd hx hb dX1_standingOf_41 ?_
            refine lv_topi (fun y10 ey10 => ?_)
            replace hf := ltI_some hf ey10
            refine lv_istore_n (lv' := [(2, .int y10), (0, .ref (gA G 0 g 0)), (1, .int p1), (3, .int a3)]) hx hb dX1_standingOf_42 rfl hl (by decide) rfl (fun ls hl => ?_)
            obtain ⟨y11, ey11⟩ : ∃ y : Int32, y = a3 + (1 : Int32) := ⟨_, rfl⟩
            replace hf := ltI_some hf ey11
            refine lv_iinc (v := y11) (lv' := [(3, .int y11), (2, .int y10), (0, .ref (gA G 0 g 0)), (1, .int p1)]) hx hb dX1_standingOf_43 hl (k := 3) rfl (by rw [ey11]; rfl) (by decide) rfl (fun ls hl => ?_)
            refine lv_goto (tgt := 4) hx hb dX1_standingOf_46 (by decide) ?_
            exact ih h y10 y11 hf _ _ _ hM hS (lv_sub hl [2, 3, 1, 0] rfl)
  unfold xX1_standingOf at hf
  refine lv_iconst (v := 0) hx hb dX1_standingOf_0 (by decide) ?_
  refine lv_istore_n (lv' := [(2, .int (0 : Int32)), (0, .ref (gA G 0 g 0)), (1, .int p1)]) hx hb dX1_standingOf_1 rfl hl (by decide) rfl (fun ls hl => ?_)
  refine lv_iconst (v := 0) hx hb dX1_standingOf_2 (by decide) ?_
  refine lv_istore_n (lv' := [(3, .int (0 : Int32)), (2, .int (0 : Int32)), (0, .ref (gA G 0 g 0)), (1, .int p1)]) hx hb dX1_standingOf_3 rfl hl (by decide) rfl (fun ls hl => ?_)
  exact L4 1000 h (0 : Int32) (0 : Int32) hf _ _ _ hM hS (lv_sub hl [2, 3, 1, 0] rfl)
abbrev rX1_putIntoRow : Room := { frames := 2, cells := 0, slots := 0, locals := 45 }
set_option maxRecDepth 100000 in
set_option maxHeartbeats 4000000 in
theorem kX1_putIntoRow (l : Launch) (G : zG) (A : Nat → Prop) (V : zV3) (g : Nat) (hg : g < 7) (h : zV2) (p1 : Int32) (p2 : Int32) {r : Int32} {h' : zV2} (hf : xX1_putIntoRow h p1 p2 = some (r, h')) : zCt l G A yX1_putIntoRow cX1_putIntoRow 5 (some .int) rX1_putIntoRow [.ref (gA G 0 g 0), .int p1, .int p2] (upG V g h) (some (.int r)) (upG V g h') := by
  refine z_CtI (by decide) (Nat.le_of_ble_eq_true rfl) ?_
  intro p e s m args below meth c Q hx hb hml hown hL hK hM hS hQ ls hl
  replace hl : lv_has ls 5 [(0, .ref (gA G 0 g 0)), (1, .int p1), (2, .int p2)] := hl
  have hQf : ∀ {a : Int32} {k : zV2} {H : Heap} {locs : List Loc} {pc : Nat} {ls : Array Slot}, some (a, k) = some (r, h') → zM G (upG V g k) H → va_S A s.heap H locs → decode cX1_putIntoRow pc = .ok (.ireturn, 1) → W p l e rX1_putIntoRow s m args below meth c H locs 0 0 Q (F0 m pc ls [.int a]) := by
    intro a k H locs pc ls e1 hM hS hd
    cases e1
    exact hQ H locs pc ls hM hS hd
  unfold xX1_putIntoRow at hf
  refine lv_aload_n hx hb dX1_putIntoRow_0 rfl (lv_at hl 0 rfl) ?_
  refine lv_iload_n hx hb dX1_putIntoRow_1 rfl (lv_at hl 1 rfl) ?_
  obtain ⟨r1, h3, hc2, hf⟩ := bnd_some hf
  refine z_callV (As := [.int p1]) (rest := []) (C := RX1) hx hb hml hown hL hK hM hS (kX1_lockerAt l G A V g hg h p1 hc2) (zg_X1_lockerAt zw2_69) zv_X1_lockerAt ⟨rfl, rfl⟩ ⟨Nat.le_of_ble_eq_true rfl, Nat.le_of_ble_eq_true rfl⟩ (hM.recv hK (dm_0 (g := g) (i := 0) hg rfl) (ze_0 G V g 0 h) rfl) rfl hl.1 rfl (Nat.le_of_ble_eq_true rfl) dX1_putIntoRow_2 ⟨Nat.zero_le _, Nat.zero_le _⟩ (fun H locs hM hS => ?_)
  cases r1 with
  | none =>
    replace hf := optm_none hf
    refine W.eq (g2 := F0 m 5 ls [.null]) rfl ?_
    refine lv_astore_nN (lv' := [(3, .null), (0, .ref (gA G 0 g 0)), (1, .int p1), (2, .int p2)]) hx hb dX1_putIntoRow_5 rfl hl (by decide) rfl (fun ls hl => ?_)
    refine lv_aload_nN hx hb dX1_putIntoRow_6 rfl (lv_at hl 0 rfl) ?_
    refine lv_ifnullN (tgt := 19) hx hb dX1_putIntoRow_7 (by decide) ?_
    refine lv_iconst (v := -1) hx hb dX1_putIntoRow_19 (by decide) ?_
    exact hQf hf hM hS dX1_putIntoRow_20
  | some q4 =>
    replace hf := optm_s hf
    obtain ⟨hq4, hf⟩ := grd_some hf
    replace hq4 := of_decide_eq_true hq4
    refine W.eq (g2 := F0 m 5 ls [.ref (gA G 8 g q4)]) rfl ?_
    refine lv_astore_n (lv' := [(3, .ref (gA G 8 g q4)), (0, .ref (gA G 0 g 0)), (1, .int p1), (2, .int p2)]) hx hb dX1_putIntoRow_5 rfl hl (by decide) rfl (fun ls hl => ?_)
    refine lv_aload_n hx hb dX1_putIntoRow_6 rfl (lv_at hl 0 rfl) ?_
    refine lv_ifnull hx hb dX1_putIntoRow_7 ?_
    refine lv_iload_n hx hb dX1_putIntoRow_10 rfl (lv_at hl 3 rfl) ?_
    refine lv_if_lt (tgt := 19) hx hb dX1_putIntoRow_11 (by decide) (fun c5 => ?_) (fun c5 => ?_)
    · replace hf := ift hf c5
      refine lv_iconst (v := -1) hx hb dX1_putIntoRow_19 (by decide) ?_
      exact hQf hf hM hS dX1_putIntoRow_20
    · replace hf := iff_ hf c5
      refine lv_iload_n hx hb dX1_putIntoRow_14 rfl (lv_at hl 3 rfl) ?_
      refine lv_iconst (v := 2) hx hb dX1_putIntoRow_15 (by decide) ?_
      refine lv_icmp_le (tgt := 21) hx hb dX1_putIntoRow_16 (by decide) (fun c6 => ?_) (fun c6 => ?_)
      · replace hf := ift hf c6
        refine lv_aload_n hx hb dX1_putIntoRow_21 rfl (lv_at hl 0 rfl) ?_
        refine z_getN (own := RX1) (C := RX4) (T := TX4) (N := 7) (ci := 3) (v := .int (h3 1 q4)) hx hb hL inX4 hown hK hM (dm_8 (g := g) (i := q4) hg hq4) (ze_8 G V g q4 h3) rfl 2 (by decide) 23 rfl rfl rfl dX1_putIntoRow_22 ?_
        refine lv_if_ne (tgt := 36) hx hb dX1_putIntoRow_25 (by decide) (fun c7 => ?_) (fun c7 => ?_)
        · replace hf := iff_ hf c7
          refine lv_bipush (v := -2) hx hb dX1_putIntoRow_36 (by decide) ?_
          exact hQf hf hM hS dX1_putIntoRow_38
        · replace hf := ift hf c7
          refine lv_aload_n hx hb dX1_putIntoRow_28 rfl (lv_at hl 0 rfl) ?_
          refine z_getN (own := RX1) (C := RX4) (T := TX4) (N := 7) (ci := 3) (v := .int (h3 0 q4)) hx hb hL inX4 hown hK hM (dm_8 (g := g) (i := q4) hg hq4) (ze_8 G V g q4 h3) rfl 1 (by decide) 22 rfl rfl rfl dX1_putIntoRow_29 ?_
          refine lv_iload_n hx hb dX1_putIntoRow_32 rfl (lv_at hl 3 rfl) ?_
          refine lv_icmp_eq (tgt := 39) hx hb dX1_putIntoRow_33 (by decide) (fun c8 => ?_) (fun c8 => ?_)
          · replace hf := ift hf c8
            refine lv_aload_n hx hb dX1_putIntoRow_39 rfl (lv_at hl 1 rfl) ?_
            refine lv_iload_n hx hb dX1_putIntoRow_40 rfl (lv_at hl 3 rfl) ?_
            obtain ⟨r9, h11, hc10, hf⟩ := bnd_some hf
            refine z_callV (As := [.int p2]) (rest := []) (C := RX1) hx hb hml hown hL hK hM hS (kX1_standingOf l G A V g hg h3 p2 hc10) (zg_X1_standingOf zw2_73) zv_X1_standingOf ⟨rfl, rfl⟩ ⟨Nat.le_of_ble_eq_true rfl, Nat.le_of_ble_eq_true rfl⟩ (hM.recv hK (dm_0 (g := g) (i := 0) hg rfl) (ze_0 G V g 0 h3) rfl) rfl hl.1 rfl (Nat.le_of_ble_eq_true rfl) dX1_putIntoRow_41 ⟨Nat.zero_le _, Nat.zero_le _⟩ (fun H locs hM hS => ?_)
            refine W.eq (g2 := F0 m 44 ls [.int r9]) rfl ?_
            refine lv_istore (lv' := [(4, .int r9), (3, .ref (gA G 8 g q4)), (0, .ref (gA G 0 g 0)), (1, .int p1), (2, .int p2)]) hx hb dX1_putIntoRow_44 hl (by decide) rfl (fun ls hl => ?_)
            refine lv_iload hx hb dX1_putIntoRow_46 (lv_at hl 0 rfl) ?_
            refine lv_iconst (v := 4) hx hb dX1_putIntoRow_48 (by decide) ?_
            refine lv_icmp_lt (tgt := 55) hx hb dX1_putIntoRow_49 (by decide) (fun c12 => ?_) (fun c12 => ?_)
            · replace hf := ift hf c12
              refine lv_aload_n hx hb dX1_putIntoRow_55 rfl (lv_at hl 1 rfl) ?_
              refine lv_iconst (v := 1) hx hb dX1_putIntoRow_56 (by decide) ?_
              obtain ⟨h13, eh13⟩ : ∃ y, y = up2 h11 1 q4 (1 : Int32) := ⟨_, rfl⟩
              replace hf := put2_some hf eh13
              refine z_putN (own := RX1) (C := RX4) (T := TX4) (N := 7) (ci := 3) (V' := upG V g h13) hx hb hL inX4 tyX4 tyX4_ok nmX4 hown hK hM hS (dm_8 (g := g) (i := q4) hg hq4) (ze_8 G V g q4 h11) rfl 2 (by decide) 23 rfl rfl rfl rfl rfl (Nat.le_of_ble_eq_true rfl) (by rw [eh13]; exact zn_8_1 G V g hg h11 q4 (1 : Int32)) dX1_putIntoRow_57 (fun H locs hM hS => ?_)
              refine lv_aload_n hx hb dX1_putIntoRow_60 rfl (lv_at hl 2 rfl) ?_
              refine lv_aload_n hx hb dX1_putIntoRow_61 rfl (lv_at hl 1 rfl) ?_
              obtain ⟨r14, h16, hc15, hf⟩ := bnd_some hf
              refine z_callV (As := [.ref (gA G 8 g q4)]) (rest := []) (C := RX1) hx hb hml hown hL hK hM hS (kX1_offer l G A V g hg q4 hq4 h13 hc15) (zg_X1_offer zw2_77) zv_X1_offer ⟨rfl, rfl⟩ ⟨Nat.le_of_ble_eq_true rfl, Nat.le_of_ble_eq_true rfl⟩ (hM.recv hK (dm_0 (g := g) (i := 0) hg rfl) (ze_0 G V g 0 h13) rfl) rfl hl.1 rfl (Nat.le_of_ble_eq_true rfl) dX1_putIntoRow_62 ⟨Nat.zero_le _, Nat.zero_le _⟩ (fun H locs hM hS => ?_)
              refine W.eq (g2 := F0 m 65 ls []) rfl ?_
              refine lv_iload hx hb dX1_putIntoRow_65 (lv_at hl 0 rfl) ?_
              refine lv_iconst (v := 1) hx hb dX1_putIntoRow_67 (by decide) ?_
              refine lv_iadd hx hb dX1_putIntoRow_68 ?_
              exact hQf hf hM hS dX1_putIntoRow_69
            · replace hf := iff_ hf c12
              refine lv_bipush (v := -3) hx hb dX1_putIntoRow_52 (by decide) ?_
              exact hQf hf hM hS dX1_putIntoRow_54
          · replace hf := iff_ hf c8
            refine lv_bipush (v := -2) hx hb dX1_putIntoRow_36 (by decide) ?_
            exact hQf hf hM hS dX1_putIntoRow_38
      · replace hf := iff_ hf c6
        refine lv_iconst (v := -1) hx hb dX1_putIntoRow_19 (by decide) ?_
        exact hQf hf hM hS dX1_putIntoRow_20
abbrev rX1_lowestFree : Room := { frames := 1, cells := 0, slots := 0, locals := 20 }
set_option maxRecDepth 100000 in
set_option maxHeartbeats 4000000 in
theorem kX1_lowestFree (l : Launch) (G : zG) (A : Nat → Prop) (V : zV3) (g : Nat) (hg : g < 7) (h : zV2) (p1 : Int32) {r : Option Nat} {h' : zV2} (hf : xX1_lowestFree h p1 = some (r, h')) : zCt l G A yX1_lowestFree cX1_lowestFree 4 (some (.object "LockerChains$Locker")) rX1_lowestFree [.ref (gA G 0 g 0), .int p1] (upG V g h) (some (va_rf (r.map (gA G 8 g)))) (upG V g h') := by
  refine z_CtQ (by decide) (Nat.le_of_ble_eq_true rfl) ?_
  intro p e s m args below meth c Q hx hb hml hown hL hK hM hS hQ ls hl
  replace hl : lv_has ls 4 [(0, .ref (gA G 0 g 0)), (1, .int p1)] := hl
  have hQf : ∀ {a : Option Nat} {k : zV2} {H : Heap} {locs : List Loc} {pc : Nat} {ls : Array Slot}, some (a, k) = some (r, h') → zM G (upG V g k) H → va_S A s.heap H locs → decode cX1_lowestFree pc = .ok (.areturn, 1) → W p l e rX1_lowestFree s m args below meth c H locs 0 0 Q (F0 m pc ls [va_rf (a.map (gA G 8 g))]) := by
    intro a k H locs pc ls e1 hM hS hd
    cases e1
    exact hQ H locs pc ls hM hS hd
  have L2 : ∀ (n : Nat) (h : zV2) (a2 : Int32), xX1_lowestFree_L2 p1 n h a2 = some (r, h') → ∀ (H : Heap) (locs : List Loc) (ls : Array Slot), zM G (upG V g h) H → va_S A s.heap H locs → lv_has ls 4 [(0, .ref (gA G 0 g 0)), (1, .int p1), (2, .int a2)] → W p l e rX1_lowestFree s m args below meth c H locs 0 0 Q (F0 m 2 ls []) := by
    intro n
    induction n with
    | zero =>
      intro h a2 hf H locs ls hM hS hl
      rw [xX1_lowestFree_L2] at hf
      cases hf
    | succ n ih =>
      intro h a2 hf H locs ls hM hS hl
      rw [xX1_lowestFree_L2] at hf
      refine lv_iload_n hx hb dX1_lowestFree_2 rfl (lv_at hl 2 rfl) ?_
      refine lv_bipush (v := 12) hx hb dX1_lowestFree_3 (by decide) ?_
      refine lv_icmp_ge (tgt := 43) hx hb dX1_lowestFree_5 (by decide) (fun c1 => ?_) (fun c1 => ?_)
      · replace hf := ift hf c1
        refine lv_null hx hb dX1_lowestFree_43 ?_
        exact hQf (a := none) hf hM hS dX1_lowestFree_44
      · replace hf := iff_ hf c1
        refine lv_aload_n hx hb dX1_lowestFree_8 rfl (lv_at hl 0 rfl) ?_
        refine z_get (own := RX1) (C := RX1) (T := TX1) (N := 10) (ci := 0) (v := .ref (gA G 1 g 0)) hx hb hL inX1 hown hK hM (dm_0 (g := g) (i := 0) hg rfl) (ze_0 G V g 0 h) rfl 0 (by decide) (hL _ zw1_128) rfl rfl dX1_lowestFree_9 ?_
        refine lv_iload_n hx hb dX1_lowestFree_12 rfl (lv_at hl 2 rfl) ?_
        obtain ⟨hb2, hf⟩ := grd_some hf
        refine z_aald hx hb hK hM (dm_1 (g := g) (i := 0) hg rfl) 2 (zd_1 G (upG V g h) g 0) rfl (inb_in hb2) dX1_lowestFree_13 ?_
        refine lv_astore_n (lv' := [(3, .ref (gA G 8 g a2.toNatClampNeg)), (0, .ref (gA G 0 g 0)), (1, .int p1), (2, .int a2)]) hx hb dX1_lowestFree_14 rfl hl (by decide) rfl (fun ls hl => ?_)
        refine lv_aload_n hx hb dX1_lowestFree_15 rfl (lv_at hl 0 rfl) ?_
        obtain ⟨r3, h5, hc4, hf⟩ := bnd_some hf
        refine z_callV (As := []) (rest := []) (C := RX4) hx hb hml hown hL hK hM hS (kX4_isFree l G A V g hg a2.toNatClampNeg (inb_lt hb2) h hc4) (zg_X4_isFree zw2_89) zv_X4_isFree ⟨rfl, rfl⟩ ⟨Nat.le_of_ble_eq_true rfl, Nat.le_of_ble_eq_true rfl⟩ (hM.recv hK (dm_8 (g := g) (i := a2.toNatClampNeg) hg (inb_lt hb2)) (ze_8 G V g a2.toNatClampNeg h) rfl) rfl hl.1 rfl (Nat.le_of_ble_eq_true rfl) dX1_lowestFree_16 ⟨Nat.zero_le _, Nat.zero_le _⟩ (fun H locs hM hS => ?_)
        refine W.eq (g2 := F0 m 19 ls [.int r3]) rfl ?_
        refine lv_if_eq (tgt := 37) hx hb dX1_lowestFree_19 (by decide) (fun c6 => ?_) (fun c6 => ?_)
        · replace hf := ift hf c6
          obtain ⟨y7, ey7⟩ : ∃ y : Int32, y = a2 + (1 : Int32) := ⟨_, rfl⟩
          replace hf := ltI_some hf ey7
          refine lv_iinc (v := y7) (lv' := [(2, .int y7), (3, .ref (gA G 8 g a2.toNatClampNeg)), (0, .ref (gA G 0 g 0)), (1, .int p1)]) hx hb dX1_lowestFree_37 hl (k := 3) rfl (by rw [ey7]; rfl) (by decide) rfl (fun ls hl => ?_)
          refine lv_goto (tgt := 2) hx hb dX1_lowestFree_40 (by decide) ?_
          exact ih h5 y7 hf _ _ _ hM hS (lv_sub hl [2, 3, 0] rfl)
        · replace hf := iff_ hf c6
          refine lv_iload_n hx hb dX1_lowestFree_22 rfl (lv_at hl 2 rfl) ?_
          refine lv_iconst (v := 3) hx hb dX1_lowestFree_23 (by decide) ?_
          refine lv_icmp_eq (tgt := 35) hx hb dX1_lowestFree_24 (by decide) (fun c8 => ?_) (fun c8 => ?_)
          · replace hf := ift hf c8
            refine lv_aload_n hx hb dX1_lowestFree_35 rfl (lv_at hl 0 rfl) ?_
            exact hQf (a := some a2.toNatClampNeg) hf hM hS dX1_lowestFree_36
          · replace hf := iff_ hf c8
            refine lv_iload_n hx hb dX1_lowestFree_27 rfl (lv_at hl 2 rfl) ?_
            refine lv_aload_n hx hb dX1_lowestFree_28 rfl (lv_at hl 0 rfl) ?_
            refine z_getN (own := RX1) (C := RX4) (T := TX4) (N := 7) (ci := 3) (v := .int (h5 0 a2.toNatClampNeg)) hx hb hL inX4 hown hK hM (dm_8 (g := g) (i := a2.toNatClampNeg) hg (inb_lt hb2)) (ze_8 G V g a2.toNatClampNeg h5) rfl 1 (by decide) 22 rfl rfl rfl dX1_lowestFree_29 ?_
            refine lv_icmp_ne (tgt := 37) hx hb dX1_lowestFree_32 (by decide) (fun c9 => ?_) (fun c9 => ?_)
            · replace hf := iff_ hf c9
              obtain ⟨y10, ey10⟩ : ∃ y : Int32, y = a2 + (1 : Int32) := ⟨_, rfl⟩
              replace hf := ltI_some hf ey10
              refine lv_iinc (v := y10) (lv' := [(2, .int y10), (3, .ref (gA G 8 g a2.toNatClampNeg)), (0, .ref (gA G 0 g 0)), (1, .int p1)]) hx hb dX1_lowestFree_37 hl (k := 3) rfl (by rw [ey10]; rfl) (by decide) rfl (fun ls hl => ?_)
              refine lv_goto (tgt := 2) hx hb dX1_lowestFree_40 (by decide) ?_
              exact ih h5 y10 hf _ _ _ hM hS (lv_sub hl [2, 3, 0] rfl)
            · replace hf := ift hf c9
              refine lv_aload_n hx hb dX1_lowestFree_35 rfl (lv_at hl 0 rfl) ?_
              exact hQf (a := some a2.toNatClampNeg) hf hM hS dX1_lowestFree_36
  unfold xX1_lowestFree at hf
  refine lv_iconst (v := 0) hx hb dX1_lowestFree_0 (by decide) ?_
  refine lv_istore_n (lv' := [(2, .int (0 : Int32)), (0, .ref (gA G 0 g 0)), (1, .int p1)]) hx hb dX1_lowestFree_1 rfl hl (by decide) rfl (fun ls hl => ?_)
  exact L2 1000 h (0 : Int32) hf _ _ _ hM hS (lv_sub hl [1, 2, 0] rfl)
abbrev rX3_add : Room := { frames := 0, cells := 0, slots := 0, locals := 0 }
set_option maxRecDepth 100000 in
set_option maxHeartbeats 4000000 in
theorem kX3_add (l : Launch) (G : zG) (A : Nat → Prop) (V : zV3) (g : Nat) (hg : g < 7) (w : Nat) (hw : w < 2) (h : zV2) (p1 : Int32) (p2 : Int32) {r : Unit} {h' : zV2} (hf : xX3_add w h p1 p2 = some (r, h')) : zCt l G A yX3_add cX3_add 3 none rX3_add [.ref (gA G 3 g w), .int p1, .int p2] (upG V g h) none (upG V g h') := by
  refine z_CtV (by decide) (Nat.le_of_ble_eq_true rfl) ?_
  intro p e s m args below meth c Q hx hb hml hown hL hK hM hS hQ ls hl
  replace hl : lv_has ls 3 [(0, .ref (gA G 3 g w)), (1, .int p1), (2, .int p2)] := hl
  have hQf : ∀ {a : Unit} {k : zV2} {H : Heap} {locs : List Loc} {pc : Nat} {ls : Array Slot}, some (a, k) = some (r, h') → zM G (upG V g k) H → va_S A s.heap H locs → decode cX3_add pc = .ok (.return_, 1) → W p l e rX3_add s m args below meth c H locs 0 0 Q (F0 m pc ls []) := by
    intro a k H locs pc ls e1 hM hS hd
    cases e1
    exact hQ H locs pc ls hM hS hd
  unfold xX3_add at hf
  refine lv_aload_n hx hb dX3_add_0 rfl (lv_at hl 0 rfl) ?_
  refine z_get (own := RX3) (C := RX3) (T := TX3) (N := 3) (ci := 2) (v := .int (h (23 + w) 0)) hx hb hL inX3 hown hK hM (dm_3 (g := g) (i := w) hg hw) (ze_3 G V g w h) rfl 2 (by decide) (hL _ zw1_44) rfl rfl dX3_add_1 ?_
  refine lv_bipush (v := 10) hx hb dX3_add_4 (by decide) ?_
  refine lv_icmp_ge (tgt := 39) hx hb dX3_add_6 (by decide) (fun c1 => ?_) (fun c1 => ?_)
  · replace hf := ift hf c1
    exact hQf hf hM hS dX3_add_39
  · replace hf := iff_ hf c1
    refine lv_aload_n hx hb dX3_add_9 rfl (lv_at hl 0 rfl) ?_
    refine z_get (own := RX3) (C := RX3) (T := TX3) (N := 3) (ci := 2) (v := .ref (gA G 6 g w)) hx hb hL inX3 hown hK hM (dm_3 (g := g) (i := w) hg hw) (ze_3 G V g w h) rfl 0 (by decide) (hL _ zw1_42) rfl rfl dX3_add_10 ?_
    refine lv_aload_n hx hb dX3_add_13 rfl (lv_at hl 0 rfl) ?_
    refine z_get (own := RX3) (C := RX3) (T := TX3) (N := 3) (ci := 2) (v := .int (h (23 + w) 0)) hx hb hL inX3 hown hK hM (dm_3 (g := g) (i := w) hg hw) (ze_3 G V g w h) rfl 2 (by decide) (hL _ zw1_44) rfl rfl dX3_add_14 ?_
    refine lv_iload_n hx hb dX3_add_17 rfl (lv_at hl 1 rfl) ?_
    obtain ⟨hb2, hf⟩ := grd_some hf
    obtain ⟨h3, eh3⟩ : ∃ y, y = up2 h (19 + w) ((h (23 + w) 0).toNatClampNeg) p1 := ⟨_, rfl⟩
    replace hf := put2_some hf eh3
    refine z_iast (V' := upG V g h3) hx hb hK hM hS (dm_6 (g := g) (i := w) hg hw) (ze_6 G V g w h) (inb_in hb2) (by rw [eh3]; exact zn_6_19 G V g hg h w hw ((h (23 + w) 0).toNatClampNeg) p1) dX3_add_18 (fun H locs hM hS => ?_)
    refine lv_aload_n hx hb dX3_add_19 rfl (lv_at hl 0 rfl) ?_
    refine z_get (own := RX3) (C := RX3) (T := TX3) (N := 3) (ci := 2) (v := .ref (gA G 7 g w)) hx hb hL inX3 hown hK hM (dm_3 (g := g) (i := w) hg hw) (ze_3 G V g w h3) rfl 1 (by decide) (hL _ zw1_43) rfl rfl dX3_add_20 ?_
    refine lv_aload_n hx hb dX3_add_23 rfl (lv_at hl 0 rfl) ?_
    refine z_get (own := RX3) (C := RX3) (T := TX3) (N := 3) (ci := 2) (v := .int (h3 (23 + w) 0)) hx hb hL inX3 hown hK hM (dm_3 (g := g) (i := w) hg hw) (ze_3 G V g w h3) rfl 2 (by decide) (hL _ zw1_44) rfl rfl dX3_add_24 ?_
    refine lv_iload_n hx hb dX3_add_27 rfl (lv_at hl 2 rfl) ?_
    obtain ⟨hb4, hf⟩ := grd_some hf
    obtain ⟨h5, eh5⟩ : ∃ y, y = up2 h3 (21 + w) ((h3 (23 + w) 0).toNatClampNeg) p2 := ⟨_, rfl⟩
    replace hf := put2_some hf eh5
    refine z_iast (V' := upG V g h5) hx hb hK hM hS (dm_7 (g := g) (i := w) hg hw) (ze_7 G V g w h3) (inb_in hb4) (by rw [eh5]; exact zn_7_21 G V g hg h3 w hw ((h3 (23 + w) 0).toNatClampNeg) p2) dX3_add_28 (fun H locs hM hS => ?_)
    refine lv_aload_n hx hb dX3_add_29 rfl (lv_at hl 0 rfl) ?_
    refine lv_dup hx hb dX3_add_30 rfl ?_
    refine z_get (own := RX3) (C := RX3) (T := TX3) (N := 3) (ci := 2) (v := .int (h5 (23 + w) 0)) hx hb hL inX3 hown hK hM (dm_3 (g := g) (i := w) hg hw) (ze_3 G V g w h5) rfl 2 (by decide) (hL _ zw1_44) rfl rfl dX3_add_31 ?_
    refine lv_iconst (v := 1) hx hb dX3_add_34 (by decide) ?_
    refine lv_iadd hx hb dX3_add_35 ?_
    obtain ⟨h6, eh6⟩ : ∃ y, y = up2 h5 (23 + w) 0 ((h5 (23 + w) 0) + (1 : Int32)) := ⟨_, rfl⟩
    replace hf := put2_some hf eh6
    refine z_put (own := RX3) (C := RX3) (T := TX3) (N := 3) (ci := 2) (V' := upG V g h6) hx hb hL inX3 tyX3 tyX3_ok nmX3 hown hK hM hS (dm_3 (g := g) (i := w) hg hw) (ze_3 G V g w h5) rfl 2 (by decide) (hL _ zw1_44) rfl rfl rfl rfl (Nat.le_of_ble_eq_true rfl) (by rw [eh6]; exact zn_3_23 G V g hg h5 w hw ((h5 (23 + w) 0) + (1 : Int32))) dX3_add_36 (fun H locs hM hS => ?_)
    exact hQf hf hM hS dX3_add_39
abbrev rX3_placeOf : Room := { frames := 0, cells := 0, slots := 0, locals := 0 }
set_option maxRecDepth 100000 in
set_option maxHeartbeats 4000000 in
theorem kX3_placeOf (l : Launch) (G : zG) (A : Nat → Prop) (V : zV3) (g : Nat) (hg : g < 7) (w : Nat) (hw : w < 2) (h : zV2) (p1 : Int32) {r : Int32} {h' : zV2} (hf : xX3_placeOf w h p1 = some (r, h')) : zCt l G A yX3_placeOf cX3_placeOf 3 (some .int) rX3_placeOf [.ref (gA G 3 g w), .int p1] (upG V g h) (some (.int r)) (upG V g h') := by
  refine z_CtI (by decide) (Nat.le_of_ble_eq_true rfl) ?_
  intro p e s m args below meth c Q hx hb hml hown hL hK hM hS hQ ls hl
  replace hl : lv_has ls 3 [(0, .ref (gA G 3 g w)), (1, .int p1)] := hl
  have hQf : ∀ {a : Int32} {k : zV2} {H : Heap} {locs : List Loc} {pc : Nat} {ls : Array Slot}, some (a, k) = some (r, h') → zM G (upG V g k) H → va_S A s.heap H locs → decode cX3_placeOf pc = .ok (.ireturn, 1) → W p l e rX3_placeOf s m args below meth c H locs 0 0 Q (F0 m pc ls [.int a]) := by
    intro a k H locs pc ls e1 hM hS hd
    cases e1
    exact hQ H locs pc ls hM hS hd
  have L2 : ∀ (n : Nat) (h : zV2) (a2 : Int32), xX3_placeOf_L2 w p1 n h a2 = some (r, h') → ∀ (H : Heap) (locs : List Loc) (ls : Array Slot), zM G (upG V g h) H → va_S A s.heap H locs → lv_has ls 3 [(0, .ref (gA G 3 g w)), (1, .int p1), (2, .int a2)] → W p l e rX3_placeOf s m args below meth c H locs 0 0 Q (F0 m 2 ls []) := by
    intro n
    induction n with
    | zero =>
      intro h a2 hf H locs ls hM hS hl
      rw [xX3_placeOf_L2] at hf
      cases hf
    | succ n ih =>
      intro h a2 hf H locs ls hM hS hl
      rw [xX3_placeOf_L2] at hf
      refine lv_iload_n hx hb dX3_placeOf_2 rfl (lv_at hl 2 rfl) ?_
      refine lv_aload_n hx hb dX3_placeOf_3 rfl (lv_at hl 0 rfl) ?_
      refine z_get (own := RX3) (C := RX3) (T := TX3) (N := 3) (ci := 2) (v := .int (h (23 + w) 0)) hx hb hL inX3 hown hK hM (dm_3 (g := g) (i := w) hg hw) (ze_3 G V g w h) rfl 2 (by decide) (hL _ zw1_44) rfl rfl dX3_placeOf_4 ?_
      refine lv_icmp_ge (tgt := 34) hx hb dX3_placeOf_7 (by decide) (fun c1 => ?_) (fun c1 => ?_)
      · replace hf := ift hf c1
        refine lv_iconst (v := -1) hx hb dX3_placeOf_34 (by decide) ?_
        exact hQf hf hM hS dX3_placeOf_35
      · replace hf := iff_ hf c1
        refine lv_iload_n hx hb dX3_placeOf_10 rfl (lv_at hl 2 rfl) ?_
        refine lv_bipush (v := 10) hx hb dX3_placeOf_11 (by decide) ?_
        refine lv_icmp_ge (tgt := 34) hx hb dX3_placeOf_13 (by decide) (fun c2 => ?_) (fun c2 => ?_)
        · replace hf := ift hf c2
          refine lv_iconst (v := -1) hx hb dX3_placeOf_34 (by decide) ?_
          exact hQf hf hM hS dX3_placeOf_35
        · replace hf := iff_ hf c2
          refine lv_aload_n hx hb dX3_placeOf_16 rfl (lv_at hl 0 rfl) ?_
          refine z_get (own := RX3) (C := RX3) (T := TX3) (N := 3) (ci := 2) (v := .ref (gA G 6 g w)) hx hb hL inX3 hown hK hM (dm_3 (g := g) (i := w) hg hw) (ze_3 G V g w h) rfl 0 (by decide) (hL _ zw1_42) rfl rfl dX3_placeOf_17 ?_
          refine lv_iload_n hx hb dX3_placeOf_20 rfl (lv_at hl 2 rfl) ?_
          obtain ⟨hb3, hf⟩ := grd_some hf
          refine z_iald hx hb hK hM (dm_6 (g := g) (i := w) hg hw) (ze_6 G V g w h) (inb_in hb3) dX3_placeOf_21 ?_
          refine lv_iload_n hx hb dX3_placeOf_22 rfl (lv_at hl 1 rfl) ?_
          refine lv_icmp_ne (tgt := 28) hx hb dX3_placeOf_23 (by decide) (fun c4 => ?_) (fun c4 => ?_)
          · replace hf := iff_ hf c4
            obtain ⟨y5, ey5⟩ : ∃ y : Int32, y = a2 + (1 : Int32) := ⟨_, rfl⟩
            replace hf := ltI_some hf ey5
            refine lv_iinc (v := y5) (lv' := [(2, .int y5), (0, .ref (gA G 3 g w)), (1, .int p1)]) hx hb dX3_placeOf_28 hl (k := 2) rfl (by rw [ey5]; rfl) (by decide) rfl (fun ls hl => ?_)
            refine lv_goto (tgt := 2) hx hb dX3_placeOf_31 (by decide) ?_
            exact ih h y5 hf _ _ _ hM hS (lv_sub hl [1, 2, 0] rfl)
          · replace hf := ift hf c4
            refine lv_iload_n hx hb dX3_placeOf_26 rfl (lv_at hl 2 rfl) ?_
            exact hQf hf hM hS dX3_placeOf_27
  unfold xX3_placeOf at hf
  refine lv_iconst (v := 0) hx hb dX3_placeOf_0 (by decide) ?_
  refine lv_istore_n (lv' := [(2, .int (0 : Int32)), (0, .ref (gA G 3 g w)), (1, .int p1)]) hx hb dX3_placeOf_1 rfl hl (by decide) rfl (fun ls hl => ?_)
  exact L2 1000 h (0 : Int32) hf _ _ _ hM hS (lv_sub hl [1, 2, 0] rfl)
abbrev rX1_lendTo : Room := { frames := 2, cells := 0, slots := 0, locals := 43 }
set_option maxRecDepth 100000 in
set_option maxHeartbeats 4000000 in
theorem kX1_lendTo (l : Launch) (G : zG) (A : Nat → Prop) (V : zV3) (g : Nat) (hg : g < 7) (h : zV2) (p1 : Int32) (p2 : Int32) {r : Int32} {h' : zV2} (hf : xX1_lendTo h p1 p2 = some (r, h')) : zCt l G A yX1_lendTo cX1_lendTo 5 (some .int) rX1_lendTo [.ref (gA G 0 g 0), .int p1, .int p2] (upG V g h) (some (.int r)) (upG V g h') := by
  refine z_CtI (by decide) (Nat.le_of_ble_eq_true rfl) ?_
  intro p e s m args below meth c Q hx hb hml hown hL hK hM hS hQ ls hl
  replace hl : lv_has ls 5 [(0, .ref (gA G 0 g 0)), (1, .int p1), (2, .int p2)] := hl
  have hQf : ∀ {a : Int32} {k : zV2} {H : Heap} {locs : List Loc} {pc : Nat} {ls : Array Slot}, some (a, k) = some (r, h') → zM G (upG V g k) H → va_S A s.heap H locs → decode cX1_lendTo pc = .ok (.ireturn, 1) → W p l e rX1_lendTo s m args below meth c H locs 0 0 Q (F0 m pc ls [.int a]) := by
    intro a k H locs pc ls e1 hM hS hd
    cases e1
    exact hQ H locs pc ls hM hS hd
  unfold xX1_lendTo at hf
  refine lv_aload_n hx hb dX1_lendTo_0 rfl (lv_at hl 0 rfl) ?_
  refine lv_iload_n hx hb dX1_lendTo_1 rfl (lv_at hl 1 rfl) ?_
  obtain ⟨r1, h3, hc2, hf⟩ := bnd_some hf
  refine z_callV (As := [.int p1]) (rest := []) (C := RX1) hx hb hml hown hL hK hM hS (kX1_personAt l G A V g hg h p1 hc2) (zg_X1_personAt zw2_85) zv_X1_personAt ⟨rfl, rfl⟩ ⟨Nat.le_of_ble_eq_true rfl, Nat.le_of_ble_eq_true rfl⟩ (hM.recv hK (dm_0 (g := g) (i := 0) hg rfl) (ze_0 G V g 0 h) rfl) rfl hl.1 rfl (Nat.le_of_ble_eq_true rfl) dX1_lendTo_2 ⟨Nat.zero_le _, Nat.zero_le _⟩ (fun H locs hM hS => ?_)
  cases r1 with
  | none =>
    replace hf := optm_none hf
    refine W.eq (g2 := F0 m 5 ls [.null]) rfl ?_
    refine lv_astore_nN (lv' := [(3, .null), (0, .ref (gA G 0 g 0)), (1, .int p1), (2, .int p2)]) hx hb dX1_lendTo_5 rfl hl (by decide) rfl (fun ls hl => ?_)
    refine lv_aload_nN hx hb dX1_lendTo_6 rfl (lv_at hl 0 rfl) ?_
    refine lv_ifnullN (tgt := 19) hx hb dX1_lendTo_7 (by decide) ?_
    refine lv_iconst (v := -1) hx hb dX1_lendTo_19 (by decide) ?_
    exact hQf hf hM hS dX1_lendTo_20
  | some q4 =>
    replace hf := optm_s hf
    obtain ⟨hq4, hf⟩ := grd_some hf
    replace hq4 := of_decide_eq_true hq4
    refine W.eq (g2 := F0 m 5 ls [.ref (gA G 9 g q4)]) rfl ?_
    refine lv_astore_n (lv' := [(3, .ref (gA G 9 g q4)), (0, .ref (gA G 0 g 0)), (1, .int p1), (2, .int p2)]) hx hb dX1_lendTo_5 rfl hl (by decide) rfl (fun ls hl => ?_)
    refine lv_aload_n hx hb dX1_lendTo_6 rfl (lv_at hl 0 rfl) ?_
    refine lv_ifnull hx hb dX1_lendTo_7 ?_
    refine lv_iload_n hx hb dX1_lendTo_10 rfl (lv_at hl 3 rfl) ?_
    refine lv_if_lt (tgt := 19) hx hb dX1_lendTo_11 (by decide) (fun c5 => ?_) (fun c5 => ?_)
    · replace hf := ift hf c5
      refine lv_iconst (v := -1) hx hb dX1_lendTo_19 (by decide) ?_
      exact hQf hf hM hS dX1_lendTo_20
    · replace hf := iff_ hf c5
      refine lv_iload_n hx hb dX1_lendTo_14 rfl (lv_at hl 3 rfl) ?_
      refine lv_iconst (v := 3) hx hb dX1_lendTo_15 (by decide) ?_
      refine lv_icmp_le (tgt := 21) hx hb dX1_lendTo_16 (by decide) (fun c6 => ?_) (fun c6 => ?_)
      · replace hf := ift hf c6
        refine lv_aload_n hx hb dX1_lendTo_21 rfl (lv_at hl 0 rfl) ?_
        refine z_getN (own := RX1) (C := RX5) (T := TX5) (N := 8) (ci := 4) (v := .int (h3 6 q4)) hx hb hL inX5 hown hK hM (dm_9 (g := g) (i := q4) hg hq4) (ze_9 G V g q4 h3) rfl 1 (by decide) 21 rfl rfl rfl dX1_lendTo_22 ?_
        refine lv_iconst (v := -1) hx hb dX1_lendTo_25 (by decide) ?_
        refine lv_icmp_ne (tgt := 50) hx hb dX1_lendTo_26 (by decide) (fun c7 => ?_) (fun c7 => ?_)
        · replace hf := iff_ hf c7
          refine lv_bipush (v := -2) hx hb dX1_lendTo_50 (by decide) ?_
          exact hQf hf hM hS dX1_lendTo_52
        · replace hf := ift hf c7
          refine lv_aload_n hx hb dX1_lendTo_29 rfl (lv_at hl 1 rfl) ?_
          refine z_get (own := RX1) (C := RX1) (T := TX1) (N := 10) (ci := 0) (v := .ref (gA G 3 g 0)) hx hb hL inX1 hown hK hM (dm_0 (g := g) (i := 0) hg rfl) (ze_0 G V g 0 h3) rfl 2 (by decide) (hL _ zw1_130) rfl rfl dX1_lendTo_30 ?_
          refine lv_iload_n hx hb dX1_lendTo_33 rfl (lv_at hl 2 rfl) ?_
          obtain ⟨r8, h10, hc9, hf⟩ := bnd_some hf
          refine z_callV (As := [.int p1]) (rest := []) (C := RX3) hx hb hml hown hL hK hM hS (kX3_placeOf l G A V g hg 0 (by decide) h3 p1 hc9) (zg_X3_placeOf zw2_109) zv_X3_placeOf ⟨rfl, rfl⟩ ⟨Nat.le_of_ble_eq_true rfl, Nat.le_of_ble_eq_true rfl⟩ (hM.recv hK (dm_3 (g := g) (i := 0) hg (by decide)) (ze_3 G V g 0 h3) rfl) rfl hl.1 rfl (Nat.le_of_ble_eq_true rfl) dX1_lendTo_34 ⟨Nat.zero_le _, Nat.zero_le _⟩ (fun H locs hM hS => ?_)
          refine W.eq (g2 := F0 m 37 ls [.int r8]) rfl ?_
          refine lv_iconst (v := -1) hx hb dX1_lendTo_37 (by decide) ?_
          refine lv_icmp_ne (tgt := 50) hx hb dX1_lendTo_38 (by decide) (fun c11 => ?_) (fun c11 => ?_)
          · replace hf := iff_ hf c11
            refine lv_bipush (v := -2) hx hb dX1_lendTo_50 (by decide) ?_
            exact hQf hf hM hS dX1_lendTo_52
          · replace hf := ift hf c11
            refine lv_aload_n hx hb dX1_lendTo_41 rfl (lv_at hl 0 rfl) ?_
            refine z_getN (own := RX1) (C := RX5) (T := TX5) (N := 8) (ci := 4) (v := .int (h10 9 q4)) hx hb hL inX5 hown hK hM (dm_9 (g := g) (i := q4) hg hq4) (ze_9 G V g q4 h10) rfl 4 (by decide) 24 rfl rfl rfl dX1_lendTo_42 ?_
            refine lv_bipush (v := 30) hx hb dX1_lendTo_45 (by decide) ?_
            refine lv_icmp_le (tgt := 53) hx hb dX1_lendTo_47 (by decide) (fun c12 => ?_) (fun c12 => ?_)
            · replace hf := ift hf c12
              refine lv_aload_n hx hb dX1_lendTo_53 rfl (lv_at hl 1 rfl) ?_
              refine lv_iload_n hx hb dX1_lendTo_54 rfl (lv_at hl 3 rfl) ?_
              obtain ⟨r13, h15, hc14, hf⟩ := bnd_some hf
              refine z_callV (As := [.int p2]) (rest := []) (C := RX1) hx hb hml hown hL hK hM hS (kX1_lowestFree l G A V g hg h10 p2 hc14) (zg_X1_lowestFree zw2_113) zv_X1_lowestFree ⟨rfl, rfl⟩ ⟨Nat.le_of_ble_eq_true rfl, Nat.le_of_ble_eq_true rfl⟩ (hM.recv hK (dm_0 (g := g) (i := 0) hg rfl) (ze_0 G V g 0 h10) rfl) rfl hl.1 rfl (Nat.le_of_ble_eq_true rfl) dX1_lendTo_55 ⟨Nat.zero_le _, Nat.zero_le _⟩ (fun H locs hM hS => ?_)
              cases r13 with
              | none =>
                replace hf := optm_none hf
                refine W.eq (g2 := F0 m 58 ls [.null]) rfl ?_
                refine lv_astoreN (lv' := [(4, .null), (3, .ref (gA G 9 g q4)), (0, .ref (gA G 0 g 0)), (1, .int p1), (2, .int p2)]) hx hb dX1_lendTo_58 hl (by decide) rfl (fun ls hl => ?_)
                refine lv_aloadN hx hb dX1_lendTo_60 (lv_at hl 0 rfl) ?_
                refine lv_ifnonnullN hx hb dX1_lendTo_62 ?_
                refine lv_aload_n hx hb dX1_lendTo_65 rfl (lv_at hl 2 rfl) ?_
                refine z_get (own := RX1) (C := RX1) (T := TX1) (N := 10) (ci := 0) (v := .ref (gA G 3 g 0)) hx hb hL inX1 hown hK hM (dm_0 (g := g) (i := 0) hg rfl) (ze_0 G V g 0 h15) rfl 2 (by decide) (hL _ zw1_130) rfl rfl dX1_lendTo_66 ?_
                refine lv_iload_n hx hb dX1_lendTo_69 rfl (lv_at hl 3 rfl) ?_
                refine lv_iload_n hx hb dX1_lendTo_70 rfl (lv_at hl 4 rfl) ?_
                obtain ⟨r17, h19, hc18, hf⟩ := bnd_some hf
                refine z_callV (As := [.int p1, .int p2]) (rest := []) (C := RX3) hx hb hml hown hL hK hM hS (kX3_add l G A V g hg 0 (by decide) h15 p1 p2 hc18) (zg_X3_add zw2_117) zv_X3_add ⟨rfl, rfl⟩ ⟨Nat.le_of_ble_eq_true rfl, Nat.le_of_ble_eq_true rfl⟩ (hM.recv hK (dm_3 (g := g) (i := 0) hg (by decide)) (ze_3 G V g 0 h15) rfl) rfl hl.1 rfl (Nat.le_of_ble_eq_true rfl) dX1_lendTo_71 ⟨Nat.zero_le _, Nat.zero_le _⟩ (fun H locs hM hS => ?_)
                refine W.eq (g2 := F0 m 74 ls []) rfl ?_
                refine lv_bipush (v := 100) hx hb dX1_lendTo_74 (by decide) ?_
                refine lv_aload_n hx hb dX1_lendTo_76 rfl (lv_at hl 2 rfl) ?_
                refine z_get (own := RX1) (C := RX1) (T := TX1) (N := 10) (ci := 0) (v := .ref (gA G 3 g 0)) hx hb hL inX1 hown hK hM (dm_0 (g := g) (i := 0) hg rfl) (ze_0 G V g 0 h19) rfl 2 (by decide) (hL _ zw1_130) rfl rfl dX1_lendTo_77 ?_
                refine z_getN (own := RX1) (C := RX3) (T := TX3) (N := 3) (ci := 2) (v := .int (h19 (23 + 0) 0)) hx hb hL inX3 hown hK hM (dm_3 (g := g) (i := 0) hg (by decide)) (ze_3 G V g 0 h19) rfl 2 (by decide) 9 rfl rfl rfl dX1_lendTo_80 ?_
                refine lv_iadd hx hb dX1_lendTo_83 ?_
                exact hQf hf hM hS dX1_lendTo_84
              | some q16 =>
                replace hf := optm_s hf
                obtain ⟨hq16, hf⟩ := grd_some hf
                replace hq16 := of_decide_eq_true hq16
                refine W.eq (g2 := F0 m 58 ls [.ref (gA G 8 g q16)]) rfl ?_
                refine lv_astore (lv' := [(4, .ref (gA G 8 g q16)), (3, .ref (gA G 9 g q4)), (0, .ref (gA G 0 g 0)), (1, .int p1), (2, .int p2)]) hx hb dX1_lendTo_58 hl (by decide) rfl (fun ls hl => ?_)
                refine lv_aload hx hb dX1_lendTo_60 (lv_at hl 0 rfl) ?_
                refine lv_ifnonnull (tgt := 85) hx hb dX1_lendTo_62 (by decide) ?_
                refine lv_aload_n hx hb dX1_lendTo_85 rfl (lv_at hl 2 rfl) ?_
                refine lv_aload_n hx hb dX1_lendTo_86 rfl (lv_at hl 1 rfl) ?_
                refine lv_aload hx hb dX1_lendTo_87 (lv_at hl 0 rfl) ?_
                obtain ⟨r20, h22, hc21, hf⟩ := bnd_some hf
                refine z_callV (As := [.ref (gA G 9 g q4), .ref (gA G 8 g q16)]) (rest := []) (C := RX1) hx hb hml hown hL hK hM hS (kX1_beginLoan l G A V g hg q4 hq4 q16 hq16 h15 hc21) (zg_X1_beginLoan zw2_97) zv_X1_beginLoan ⟨rfl, rfl⟩ ⟨Nat.le_of_ble_eq_true rfl, Nat.le_of_ble_eq_true rfl⟩ (hM.recv hK (dm_0 (g := g) (i := 0) hg rfl) (ze_0 G V g 0 h15) rfl) rfl hl.1 rfl (Nat.le_of_ble_eq_true rfl) dX1_lendTo_89 ⟨Nat.zero_le _, Nat.zero_le _⟩ (fun H locs hM hS => ?_)
                refine W.eq (g2 := F0 m 92 ls []) rfl ?_
                refine lv_aload hx hb dX1_lendTo_92 (lv_at hl 0 rfl) ?_
                refine z_getN (own := RX1) (C := RX4) (T := TX4) (N := 7) (ci := 3) (v := .int (nI q16)) hx hb hL inX4 hown hK hM (dm_8 (g := g) (i := q16) hg hq16) (ze_8 G V g q16 h22) rfl 0 (by decide) 10 rfl rfl rfl dX1_lendTo_94 ?_
                exact hQf hf hM hS dX1_lendTo_97
            · replace hf := iff_ hf c12
              refine lv_bipush (v := -2) hx hb dX1_lendTo_50 (by decide) ?_
              exact hQf hf hM hS dX1_lendTo_52
      · replace hf := iff_ hf c6
        refine lv_iconst (v := -1) hx hb dX1_lendTo_19 (by decide) ?_
        exact hQf hf hM hS dX1_lendTo_20
abbrev rX1_endLoan : Room := { frames := 1, cells := 0, slots := 0, locals := 23 }
set_option maxRecDepth 100000 in
set_option maxHeartbeats 4000000 in
theorem kX1_endLoan (l : Launch) (G : zG) (A : Nat → Prop) (V : zV3) (g : Nat) (hg : g < 7) (n1 : Nat) (hn1 : n1 < 10) (n2 : Nat) (hn2 : n2 < 12) (h : zV2) {r : Unit} {h' : zV2} (hf : xX1_endLoan n1 n2 h  = some (r, h')) : zCt l G A yX1_endLoan cX1_endLoan 3 none rX1_endLoan [.ref (gA G 0 g 0), .ref (gA G 9 g n1), .ref (gA G 8 g n2)] (upG V g h) none (upG V g h') := by
  refine z_CtV (by decide) (Nat.le_of_ble_eq_true rfl) ?_
  intro p e s m args below meth c Q hx hb hml hown hL hK hM hS hQ ls hl
  replace hl : lv_has ls 3 [(0, .ref (gA G 0 g 0)), (1, .ref (gA G 9 g n1)), (2, .ref (gA G 8 g n2))] := hl
  have hQf : ∀ {a : Unit} {k : zV2} {H : Heap} {locs : List Loc} {pc : Nat} {ls : Array Slot}, some (a, k) = some (r, h') → zM G (upG V g k) H → va_S A s.heap H locs → decode cX1_endLoan pc = .ok (.return_, 1) → W p l e rX1_endLoan s m args below meth c H locs 0 0 Q (F0 m pc ls []) := by
    intro a k H locs pc ls e1 hM hS hd
    cases e1
    exact hQ H locs pc ls hM hS hd
  unfold xX1_endLoan at hf
  refine lv_aload_n hx hb dX1_endLoan_0 rfl (lv_at hl 1 rfl) ?_
  refine lv_iconst (v := -1) hx hb dX1_endLoan_1 (by decide) ?_
  obtain ⟨h1, eh1⟩ : ∃ y, y = up2 h 6 n1 (-1 : Int32) := ⟨_, rfl⟩
  replace hf := put2_some hf eh1
  refine z_putN (own := RX1) (C := RX5) (T := TX5) (N := 8) (ci := 4) (V' := upG V g h1) hx hb hL inX5 tyX5 tyX5_ok nmX5 hown hK hM hS (dm_9 (g := g) (i := n1) hg hn1) (ze_9 G V g n1 h) rfl 1 (by decide) 21 rfl rfl rfl rfl rfl (Nat.le_of_ble_eq_true rfl) (by rw [eh1]; exact zn_9_6 G V g hg h n1 (-1 : Int32)) dX1_endLoan_2 (fun H locs hM hS => ?_)
  refine lv_aload_n hx hb dX1_endLoan_5 rfl (lv_at hl 2 rfl) ?_
  refine lv_iconst (v := -1) hx hb dX1_endLoan_6 (by decide) ?_
  obtain ⟨h2, eh2⟩ : ∃ y, y = up2 h1 2 n2 (-1 : Int32) := ⟨_, rfl⟩
  replace hf := put2_some hf eh2
  refine z_putN (own := RX1) (C := RX4) (T := TX4) (N := 7) (ci := 3) (V' := upG V g h2) hx hb hL inX4 tyX4 tyX4_ok nmX4 hown hK hM hS (dm_8 (g := g) (i := n2) hg hn2) (ze_8 G V g n2 h1) rfl 3 (by decide) 17 rfl rfl rfl rfl rfl (Nat.le_of_ble_eq_true rfl) (by rw [eh2]; exact zn_8_2 G V g hg h1 n2 (-1 : Int32)) dX1_endLoan_7 (fun H locs hM hS => ?_)
  refine lv_aload_n hx hb dX1_endLoan_10 rfl (lv_at hl 0 rfl) ?_
  refine z_get (own := RX1) (C := RX1) (T := TX1) (N := 10) (ci := 0) (v := .ref (gA G 3 g 1)) hx hb hL inX1 hown hK hM (dm_0 (g := g) (i := 0) hg rfl) (ze_0 G V g 0 h2) rfl 3 (by decide) (hL _ zw1_132) rfl rfl dX1_endLoan_11 ?_
  refine lv_aload_n hx hb dX1_endLoan_14 rfl (lv_at hl 1 rfl) ?_
  refine z_getN (own := RX1) (C := RX5) (T := TX5) (N := 8) (ci := 4) (v := .int (nI n1)) hx hb hL inX5 hown hK hM (dm_9 (g := g) (i := n1) hg hn1) (ze_9 G V g n1 h2) rfl 0 (by decide) 16 rfl rfl rfl dX1_endLoan_15 ?_
  obtain ⟨r3, h5, hc4, hf⟩ := bnd_some hf
  refine z_callV (As := [.int (nI n1)]) (rest := []) (C := RX3) hx hb hml hown hL hK hM hS (kX3_remove l G A V g hg 1 (by decide) h2 (nI n1) hc4) (zg_X3_remove zw2_93) zv_X3_remove ⟨rfl, rfl⟩ ⟨Nat.le_of_ble_eq_true rfl, Nat.le_of_ble_eq_true rfl⟩ (hM.recv hK (dm_3 (g := g) (i := 1) hg (by decide)) (ze_3 G V g 1 h2) rfl) rfl hl.1 rfl (Nat.le_of_ble_eq_true rfl) dX1_endLoan_18 ⟨Nat.zero_le _, Nat.zero_le _⟩ (fun H locs hM hS => ?_)
  refine W.eq (g2 := F0 m 21 ls []) rfl ?_
  exact hQf hf hM hS dX1_endLoan_21
abbrev rX5_overdueOn : Room := { frames := 0, cells := 0, slots := 0, locals := 0 }
set_option maxRecDepth 100000 in
set_option maxHeartbeats 4000000 in
theorem kX5_overdueOn (l : Launch) (G : zG) (A : Nat → Prop) (V : zV3) (g : Nat) (hg : g < 7) (i : Nat) (hi : i < 10) (h : zV2) (p1 : Int32) {r : Int32} {h' : zV2} (hf : xX5_overdueOn i h p1 = some (r, h')) : zCt l G A yX5_overdueOn cX5_overdueOn 2 (some .int) rX5_overdueOn [.ref (gA G 9 g i), .int p1] (upG V g h) (some (.int r)) (upG V g h') := by
  refine z_CtI (by decide) (Nat.le_of_ble_eq_true rfl) ?_
  intro p e s m args below meth c Q hx hb hml hown hL hK hM hS hQ ls hl
  replace hl : lv_has ls 2 [(0, .ref (gA G 9 g i)), (1, .int p1)] := hl
  have hQf : ∀ {a : Int32} {k : zV2} {H : Heap} {locs : List Loc} {pc : Nat} {ls : Array Slot}, some (a, k) = some (r, h') → zM G (upG V g k) H → va_S A s.heap H locs → decode cX5_overdueOn pc = .ok (.ireturn, 1) → W p l e rX5_overdueOn s m args below meth c H locs 0 0 Q (F0 m pc ls [.int a]) := by
    intro a k H locs pc ls e1 hM hS hd
    cases e1
    exact hQ H locs pc ls hM hS hd
  unfold xX5_overdueOn at hf
  refine lv_aload_n hx hb dX5_overdueOn_0 rfl (lv_at hl 0 rfl) ?_
  refine z_get (own := RX5) (C := RX5) (T := TX5) (N := 8) (ci := 4) (v := .int (h 6 i)) hx hb hL inX5 hown hK hM (dm_9 (g := g) (i := i) hg hi) (ze_9 G V g i h) rfl 1 (by decide) (hL _ zw1_96) rfl rfl dX5_overdueOn_1 ?_
  refine lv_iconst (v := -1) hx hb dX5_overdueOn_4 (by decide) ?_
  refine lv_icmp_eq (tgt := 16) hx hb dX5_overdueOn_5 (by decide) (fun c1 => ?_) (fun c1 => ?_)
  · replace hf := ift hf c1
    refine lv_iconst (v := 0) hx hb dX5_overdueOn_16 (by decide) ?_
    refine lv_goto (tgt := 26) hx hb dX5_overdueOn_17 (by decide) ?_
    exact hQf hf hM hS dX5_overdueOn_26
  · replace hf := iff_ hf c1
    refine lv_iload_n hx hb dX5_overdueOn_8 rfl (lv_at hl 1 rfl) ?_
    refine lv_aload_n hx hb dX5_overdueOn_9 rfl (lv_at hl 0 rfl) ?_
    refine z_get (own := RX5) (C := RX5) (T := TX5) (N := 8) (ci := 4) (v := .int (h 7 i)) hx hb hL inX5 hown hK hM (dm_9 (g := g) (i := i) hg hi) (ze_9 G V g i h) rfl 2 (by decide) (hL _ zw1_98) rfl rfl dX5_overdueOn_10 ?_
    refine lv_icmp_gt (tgt := 20) hx hb dX5_overdueOn_13 (by decide) (fun c2 => ?_) (fun c2 => ?_)
    · replace hf := ift hf c2
      refine lv_iload_n hx hb dX5_overdueOn_20 rfl (lv_at hl 1 rfl) ?_
      refine lv_aload_n hx hb dX5_overdueOn_21 rfl (lv_at hl 0 rfl) ?_
      refine z_get (own := RX5) (C := RX5) (T := TX5) (N := 8) (ci := 4) (v := .int (h 7 i)) hx hb hL inX5 hown hK hM (dm_9 (g := g) (i := i) hg hi) (ze_9 G V g i h) rfl 2 (by decide) (hL _ zw1_98) rfl rfl dX5_overdueOn_22 ?_
      refine lv_isub hx hb dX5_overdueOn_25 ?_
      exact hQf hf hM hS dX5_overdueOn_26
    · replace hf := iff_ hf c2
      refine lv_iconst (v := 0) hx hb dX5_overdueOn_16 (by decide) ?_
      refine lv_goto (tgt := 26) hx hb dX5_overdueOn_17 (by decide) ?_
      exact hQf hf hM hS dX5_overdueOn_26
abbrev rX1_takeBack : Room := { frames := 2, cells := 0, slots := 0, locals := 45 }
set_option maxRecDepth 100000 in
set_option maxHeartbeats 4000000 in
theorem kX1_takeBack (l : Launch) (G : zG) (A : Nat → Prop) (V : zV3) (g : Nat) (hg : g < 7) (h : zV2) (p1 : Int32) {r : Int32} {h' : zV2} (hf : xX1_takeBack h p1 = some (r, h')) : zCt l G A yX1_takeBack cX1_takeBack 5 (some .int) rX1_takeBack [.ref (gA G 0 g 0), .int p1] (upG V g h) (some (.int r)) (upG V g h') := by
  refine z_CtI (by decide) (Nat.le_of_ble_eq_true rfl) ?_
  intro p e s m args below meth c Q hx hb hml hown hL hK hM hS hQ ls hl
  replace hl : lv_has ls 5 [(0, .ref (gA G 0 g 0)), (1, .int p1)] := hl
  have hQf : ∀ {a : Int32} {k : zV2} {H : Heap} {locs : List Loc} {pc : Nat} {ls : Array Slot}, some (a, k) = some (r, h') → zM G (upG V g k) H → va_S A s.heap H locs → decode cX1_takeBack pc = .ok (.ireturn, 1) → W p l e rX1_takeBack s m args below meth c H locs 0 0 Q (F0 m pc ls [.int a]) := by
    intro a k H locs pc ls e1 hM hS hd
    cases e1
    exact hQ H locs pc ls hM hS hd
  unfold xX1_takeBack at hf
  refine lv_aload_n hx hb dX1_takeBack_0 rfl (lv_at hl 0 rfl) ?_
  refine lv_iload_n hx hb dX1_takeBack_1 rfl (lv_at hl 1 rfl) ?_
  obtain ⟨r1, h3, hc2, hf⟩ := bnd_some hf
  refine z_callV (As := [.int p1]) (rest := []) (C := RX1) hx hb hml hown hL hK hM hS (kX1_personAt l G A V g hg h p1 hc2) (zg_X1_personAt zw2_85) zv_X1_personAt ⟨rfl, rfl⟩ ⟨Nat.le_of_ble_eq_true rfl, Nat.le_of_ble_eq_true rfl⟩ (hM.recv hK (dm_0 (g := g) (i := 0) hg rfl) (ze_0 G V g 0 h) rfl) rfl hl.1 rfl (Nat.le_of_ble_eq_true rfl) dX1_takeBack_2 ⟨Nat.zero_le _, Nat.zero_le _⟩ (fun H locs hM hS => ?_)
  cases r1 with
  | none =>
    replace hf := optm_none hf
    refine W.eq (g2 := F0 m 5 ls [.null]) rfl ?_
    refine lv_astore_nN (lv' := [(2, .null), (0, .ref (gA G 0 g 0)), (1, .int p1)]) hx hb dX1_takeBack_5 rfl hl (by decide) rfl (fun ls hl => ?_)
    refine lv_aload_nN hx hb dX1_takeBack_6 rfl (lv_at hl 0 rfl) ?_
    refine lv_ifnonnullN hx hb dX1_takeBack_7 ?_
    refine lv_iconst (v := -1) hx hb dX1_takeBack_10 (by decide) ?_
    exact hQf hf hM hS dX1_takeBack_11
  | some q4 =>
    replace hf := optm_s hf
    obtain ⟨hq4, hf⟩ := grd_some hf
    replace hq4 := of_decide_eq_true hq4
    refine W.eq (g2 := F0 m 5 ls [.ref (gA G 9 g q4)]) rfl ?_
    refine lv_astore_n (lv' := [(2, .ref (gA G 9 g q4)), (0, .ref (gA G 0 g 0)), (1, .int p1)]) hx hb dX1_takeBack_5 rfl hl (by decide) rfl (fun ls hl => ?_)
    refine lv_aload_n hx hb dX1_takeBack_6 rfl (lv_at hl 0 rfl) ?_
    refine lv_ifnonnull (tgt := 12) hx hb dX1_takeBack_7 (by decide) ?_
    refine lv_aload_n hx hb dX1_takeBack_12 rfl (lv_at hl 1 rfl) ?_
    refine z_get (own := RX1) (C := RX1) (T := TX1) (N := 10) (ci := 0) (v := .ref (gA G 3 g 0)) hx hb hL inX1 hown hK hM (dm_0 (g := g) (i := 0) hg rfl) (ze_0 G V g 0 h3) rfl 2 (by decide) (hL _ zw1_130) rfl rfl dX1_takeBack_13 ?_
    refine lv_iload_n hx hb dX1_takeBack_16 rfl (lv_at hl 2 rfl) ?_
    obtain ⟨r5, h7, hc6, hf⟩ := bnd_some hf
    refine z_callV (As := [.int p1]) (rest := []) (C := RX3) hx hb hml hown hL hK hM hS (kX3_placeOf l G A V g hg 0 (by decide) h3 p1 hc6) (zg_X3_placeOf zw2_109) zv_X3_placeOf ⟨rfl, rfl⟩ ⟨Nat.le_of_ble_eq_true rfl, Nat.le_of_ble_eq_true rfl⟩ (hM.recv hK (dm_3 (g := g) (i := 0) hg (by decide)) (ze_3 G V g 0 h3) rfl) rfl hl.1 rfl (Nat.le_of_ble_eq_true rfl) dX1_takeBack_17 ⟨Nat.zero_le _, Nat.zero_le _⟩ (fun H locs hM hS => ?_)
    refine W.eq (g2 := F0 m 20 ls [.int r5]) rfl ?_
    refine lv_iconst (v := -1) hx hb dX1_takeBack_20 (by decide) ?_
    refine lv_icmp_eq (tgt := 34) hx hb dX1_takeBack_21 (by decide) (fun c8 => ?_) (fun c8 => ?_)
    · replace hf := ift hf c8
      refine lv_aload_n hx hb dX1_takeBack_34 rfl (lv_at hl 1 rfl) ?_
      refine lv_aload_n hx hb dX1_takeBack_35 rfl (lv_at hl 0 rfl) ?_
      refine z_getN (own := RX1) (C := RX5) (T := TX5) (N := 8) (ci := 4) (v := .int (h7 6 q4)) hx hb hL inX5 hown hK hM (dm_9 (g := g) (i := q4) hg hq4) (ze_9 G V g q4 h7) rfl 1 (by decide) 21 rfl rfl rfl dX1_takeBack_36 ?_
      obtain ⟨r9, h11, hc10, hf⟩ := bnd_some hf
      refine z_callV (As := [.int (h7 6 q4)]) (rest := []) (C := RX1) hx hb hml hown hL hK hM hS (kX1_lockerAt l G A V g hg h7 (h7 6 q4) hc10) (zg_X1_lockerAt zw2_69) zv_X1_lockerAt ⟨rfl, rfl⟩ ⟨Nat.le_of_ble_eq_true rfl, Nat.le_of_ble_eq_true rfl⟩ (hM.recv hK (dm_0 (g := g) (i := 0) hg rfl) (ze_0 G V g 0 h7) rfl) rfl hl.1 rfl (Nat.le_of_ble_eq_true rfl) dX1_takeBack_39 ⟨Nat.zero_le _, Nat.zero_le _⟩ (fun H locs hM hS => ?_)
      cases r9 with
      | none =>
        replace hf := optm_none hf
        refine W.eq (g2 := F0 m 42 ls [.null]) rfl ?_
        refine lv_astore_nN (lv' := [(3, .null), (2, .ref (gA G 9 g q4)), (0, .ref (gA G 0 g 0)), (1, .int p1)]) hx hb dX1_takeBack_42 rfl hl (by decide) rfl (fun ls hl => ?_)
        refine lv_aload_nN hx hb dX1_takeBack_43 rfl (lv_at hl 0 rfl) ?_
        refine lv_ifnonnullN hx hb dX1_takeBack_44 ?_
        refine lv_bipush (v := -2) hx hb dX1_takeBack_47 (by decide) ?_
        exact hQf hf hM hS dX1_takeBack_49
      | some q12 =>
        replace hf := optm_s hf
        obtain ⟨hq12, hf⟩ := grd_some hf
        replace hq12 := of_decide_eq_true hq12
        refine W.eq (g2 := F0 m 42 ls [.ref (gA G 8 g q12)]) rfl ?_
        refine lv_astore_n (lv' := [(3, .ref (gA G 8 g q12)), (2, .ref (gA G 9 g q4)), (0, .ref (gA G 0 g 0)), (1, .int p1)]) hx hb dX1_takeBack_42 rfl hl (by decide) rfl (fun ls hl => ?_)
        refine lv_aload_n hx hb dX1_takeBack_43 rfl (lv_at hl 0 rfl) ?_
        refine lv_ifnonnull (tgt := 50) hx hb dX1_takeBack_44 (by decide) ?_
        refine lv_aload_n hx hb dX1_takeBack_50 rfl (lv_at hl 1 rfl) ?_
        refine lv_aload_n hx hb dX1_takeBack_51 rfl (lv_at hl 2 rfl) ?_
        refine z_get (own := RX1) (C := RX1) (T := TX1) (N := 10) (ci := 0) (v := .int (h11 15 0)) hx hb hL inX1 hown hK hM (dm_0 (g := g) (i := 0) hg rfl) (ze_0 G V g 0 h11) rfl 8 (by decide) (hL _ zw1_137) rfl rfl dX1_takeBack_52 ?_
        obtain ⟨r13, h15, hc14, hf⟩ := bnd_some hf
        refine z_callV (As := [.int (h11 15 0)]) (rest := []) (C := RX5) hx hb hml hown hL hK hM hS (kX5_overdueOn l G A V g hg q4 hq4 h11 (h11 15 0) hc14) (zg_X5_overdueOn zw2_129) zv_X5_overdueOn ⟨rfl, rfl⟩ ⟨Nat.le_of_ble_eq_true rfl, Nat.le_of_ble_eq_true rfl⟩ (hM.recv hK (dm_9 (g := g) (i := q4) hg hq4) (ze_9 G V g q4 h11) rfl) rfl hl.1 rfl (Nat.le_of_ble_eq_true rfl) dX1_takeBack_55 ⟨Nat.zero_le _, Nat.zero_le _⟩ (fun H locs hM hS => ?_)
        refine W.eq (g2 := F0 m 58 ls [.int r13]) rfl ?_
        refine lv_istore (lv' := [(4, .int r13), (3, .ref (gA G 8 g q12)), (2, .ref (gA G 9 g q4)), (0, .ref (gA G 0 g 0)), (1, .int p1)]) hx hb dX1_takeBack_58 hl (by decide) rfl (fun ls hl => ?_)
        refine lv_aload_n hx hb dX1_takeBack_60 rfl (lv_at hl 3 rfl) ?_
        refine lv_aload_n hx hb dX1_takeBack_61 rfl (lv_at hl 2 rfl) ?_
        refine lv_aload_n hx hb dX1_takeBack_62 rfl (lv_at hl 1 rfl) ?_
        obtain ⟨r16, h18, hc17, hf⟩ := bnd_some hf
        refine z_callV (As := [.ref (gA G 9 g q4), .ref (gA G 8 g q12)]) (rest := []) (C := RX1) hx hb hml hown hL hK hM hS (kX1_endLoan l G A V g hg q4 hq4 q12 hq12 h15 hc17) (zg_X1_endLoan zw2_133) zv_X1_endLoan ⟨rfl, rfl⟩ ⟨Nat.le_of_ble_eq_true rfl, Nat.le_of_ble_eq_true rfl⟩ (hM.recv hK (dm_0 (g := g) (i := 0) hg rfl) (ze_0 G V g 0 h15) rfl) rfl hl.1 rfl (Nat.le_of_ble_eq_true rfl) dX1_takeBack_63 ⟨Nat.zero_le _, Nat.zero_le _⟩ (fun H locs hM hS => ?_)
        refine W.eq (g2 := F0 m 66 ls []) rfl ?_
        refine lv_aload_n hx hb dX1_takeBack_66 rfl (lv_at hl 3 rfl) ?_
        refine lv_aload_n hx hb dX1_takeBack_67 rfl (lv_at hl 1 rfl) ?_
        obtain ⟨r19, h21, hc20, hf⟩ := bnd_some hf
        refine z_callV (As := [.ref (gA G 8 g q12)]) (rest := []) (C := RX1) hx hb hml hown hL hK hM hS (kX1_offer l G A V g hg q12 hq12 h18 hc20) (zg_X1_offer zw2_77) zv_X1_offer ⟨rfl, rfl⟩ ⟨Nat.le_of_ble_eq_true rfl, Nat.le_of_ble_eq_true rfl⟩ (hM.recv hK (dm_0 (g := g) (i := 0) hg rfl) (ze_0 G V g 0 h18) rfl) rfl hl.1 rfl (Nat.le_of_ble_eq_true rfl) dX1_takeBack_68 ⟨Nat.zero_le _, Nat.zero_le _⟩ (fun H locs hM hS => ?_)
        refine W.eq (g2 := F0 m 71 ls []) rfl ?_
        refine lv_iload hx hb dX1_takeBack_71 (lv_at hl 0 rfl) ?_
        exact hQf hf hM hS dX1_takeBack_73
    · replace hf := iff_ hf c8
      refine lv_aload_n hx hb dX1_takeBack_24 rfl (lv_at hl 1 rfl) ?_
      refine z_get (own := RX1) (C := RX1) (T := TX1) (N := 10) (ci := 0) (v := .ref (gA G 3 g 0)) hx hb hL inX1 hown hK hM (dm_0 (g := g) (i := 0) hg rfl) (ze_0 G V g 0 h7) rfl 2 (by decide) (hL _ zw1_130) rfl rfl dX1_takeBack_25 ?_
      refine lv_iload_n hx hb dX1_takeBack_28 rfl (lv_at hl 2 rfl) ?_
      obtain ⟨r22, h24, hc23, hf⟩ := bnd_some hf
      refine z_callV (As := [.int p1]) (rest := []) (C := RX3) hx hb hml hown hL hK hM hS (kX3_remove l G A V g hg 0 (by decide) h7 p1 hc23) (zg_X3_remove zw2_93) zv_X3_remove ⟨rfl, rfl⟩ ⟨Nat.le_of_ble_eq_true rfl, Nat.le_of_ble_eq_true rfl⟩ (hM.recv hK (dm_3 (g := g) (i := 0) hg (by decide)) (ze_3 G V g 0 h7) rfl) rfl hl.1 rfl (Nat.le_of_ble_eq_true rfl) dX1_takeBack_29 ⟨Nat.zero_le _, Nat.zero_le _⟩ (fun H locs hM hS => ?_)
      refine W.eq (g2 := F0 m 32 ls []) rfl ?_
      refine lv_iconst (v := 0) hx hb dX1_takeBack_32 (by decide) ?_
      exact hQf hf hM hS dX1_takeBack_33
abbrev rX1_prolong : Room := { frames := 1, cells := 0, slots := 0, locals := 22 }
set_option maxRecDepth 100000 in
set_option maxHeartbeats 4000000 in
theorem kX1_prolong (l : Launch) (G : zG) (A : Nat → Prop) (V : zV3) (g : Nat) (hg : g < 7) (h : zV2) (p1 : Int32) {r : Int32} {h' : zV2} (hf : xX1_prolong h p1 = some (r, h')) : zCt l G A yX1_prolong cX1_prolong 4 (some .int) rX1_prolong [.ref (gA G 0 g 0), .int p1] (upG V g h) (some (.int r)) (upG V g h') := by
  refine z_CtI (by decide) (Nat.le_of_ble_eq_true rfl) ?_
  intro p e s m args below meth c Q hx hb hml hown hL hK hM hS hQ ls hl
  replace hl : lv_has ls 4 [(0, .ref (gA G 0 g 0)), (1, .int p1)] := hl
  have hQf : ∀ {a : Int32} {k : zV2} {H : Heap} {locs : List Loc} {pc : Nat} {ls : Array Slot}, some (a, k) = some (r, h') → zM G (upG V g k) H → va_S A s.heap H locs → decode cX1_prolong pc = .ok (.ireturn, 1) → W p l e rX1_prolong s m args below meth c H locs 0 0 Q (F0 m pc ls [.int a]) := by
    intro a k H locs pc ls e1 hM hS hd
    cases e1
    exact hQ H locs pc ls hM hS hd
  unfold xX1_prolong at hf
  refine lv_aload_n hx hb dX1_prolong_0 rfl (lv_at hl 0 rfl) ?_
  refine lv_iload_n hx hb dX1_prolong_1 rfl (lv_at hl 1 rfl) ?_
  obtain ⟨r1, h3, hc2, hf⟩ := bnd_some hf
  refine z_callV (As := [.int p1]) (rest := []) (C := RX1) hx hb hml hown hL hK hM hS (kX1_personAt l G A V g hg h p1 hc2) (zg_X1_personAt zw2_85) zv_X1_personAt ⟨rfl, rfl⟩ ⟨Nat.le_of_ble_eq_true rfl, Nat.le_of_ble_eq_true rfl⟩ (hM.recv hK (dm_0 (g := g) (i := 0) hg rfl) (ze_0 G V g 0 h) rfl) rfl hl.1 rfl (Nat.le_of_ble_eq_true rfl) dX1_prolong_2 ⟨Nat.zero_le _, Nat.zero_le _⟩ (fun H locs hM hS => ?_)
  cases r1 with
  | none =>
    replace hf := optm_none hf
    refine W.eq (g2 := F0 m 5 ls [.null]) rfl ?_
    refine lv_astore_nN (lv' := [(2, .null), (0, .ref (gA G 0 g 0)), (1, .int p1)]) hx hb dX1_prolong_5 rfl hl (by decide) rfl (fun ls hl => ?_)
    refine lv_aload_nN hx hb dX1_prolong_6 rfl (lv_at hl 0 rfl) ?_
    refine lv_ifnonnullN hx hb dX1_prolong_7 ?_
    refine lv_iconst (v := -1) hx hb dX1_prolong_10 (by decide) ?_
    exact hQf hf hM hS dX1_prolong_11
  | some q4 =>
    replace hf := optm_s hf
    obtain ⟨hq4, hf⟩ := grd_some hf
    replace hq4 := of_decide_eq_true hq4
    refine W.eq (g2 := F0 m 5 ls [.ref (gA G 9 g q4)]) rfl ?_
    refine lv_astore_n (lv' := [(2, .ref (gA G 9 g q4)), (0, .ref (gA G 0 g 0)), (1, .int p1)]) hx hb dX1_prolong_5 rfl hl (by decide) rfl (fun ls hl => ?_)
    refine lv_aload_n hx hb dX1_prolong_6 rfl (lv_at hl 0 rfl) ?_
    refine lv_ifnonnull (tgt := 12) hx hb dX1_prolong_7 (by decide) ?_
    refine lv_aload_n hx hb dX1_prolong_12 rfl (lv_at hl 1 rfl) ?_
    refine lv_aload_n hx hb dX1_prolong_13 rfl (lv_at hl 0 rfl) ?_
    refine z_getN (own := RX1) (C := RX5) (T := TX5) (N := 8) (ci := 4) (v := .int (h3 6 q4)) hx hb hL inX5 hown hK hM (dm_9 (g := g) (i := q4) hg hq4) (ze_9 G V g q4 h3) rfl 1 (by decide) 21 rfl rfl rfl dX1_prolong_14 ?_
    obtain ⟨r5, h7, hc6, hf⟩ := bnd_some hf
    refine z_callV (As := [.int (h3 6 q4)]) (rest := []) (C := RX1) hx hb hml hown hL hK hM hS (kX1_lockerAt l G A V g hg h3 (h3 6 q4) hc6) (zg_X1_lockerAt zw2_69) zv_X1_lockerAt ⟨rfl, rfl⟩ ⟨Nat.le_of_ble_eq_true rfl, Nat.le_of_ble_eq_true rfl⟩ (hM.recv hK (dm_0 (g := g) (i := 0) hg rfl) (ze_0 G V g 0 h3) rfl) rfl hl.1 rfl (Nat.le_of_ble_eq_true rfl) dX1_prolong_17 ⟨Nat.zero_le _, Nat.zero_le _⟩ (fun H locs hM hS => ?_)
    cases r5 with
    | none =>
      replace hf := optm_none hf
      refine W.eq (g2 := F0 m 20 ls [.null]) rfl ?_
      refine lv_astore_nN (lv' := [(3, .null), (2, .ref (gA G 9 g q4)), (0, .ref (gA G 0 g 0)), (1, .int p1)]) hx hb dX1_prolong_20 rfl hl (by decide) rfl (fun ls hl => ?_)
      refine lv_aload_nN hx hb dX1_prolong_21 rfl (lv_at hl 0 rfl) ?_
      refine lv_ifnullN (tgt := 51) hx hb dX1_prolong_22 (by decide) ?_
      refine lv_bipush (v := -2) hx hb dX1_prolong_51 (by decide) ?_
      exact hQf hf hM hS dX1_prolong_53
    | some q8 =>
      replace hf := optm_s hf
      obtain ⟨hq8, hf⟩ := grd_some hf
      replace hq8 := of_decide_eq_true hq8
      refine W.eq (g2 := F0 m 20 ls [.ref (gA G 8 g q8)]) rfl ?_
      refine lv_astore_n (lv' := [(3, .ref (gA G 8 g q8)), (2, .ref (gA G 9 g q4)), (0, .ref (gA G 0 g 0)), (1, .int p1)]) hx hb dX1_prolong_20 rfl hl (by decide) rfl (fun ls hl => ?_)
      refine lv_aload_n hx hb dX1_prolong_21 rfl (lv_at hl 0 rfl) ?_
      refine lv_ifnull hx hb dX1_prolong_22 ?_
      refine lv_aload_n hx hb dX1_prolong_25 rfl (lv_at hl 1 rfl) ?_
      refine lv_aload_n hx hb dX1_prolong_26 rfl (lv_at hl 2 rfl) ?_
      refine z_get (own := RX1) (C := RX1) (T := TX1) (N := 10) (ci := 0) (v := .int (h7 15 0)) hx hb hL inX1 hown hK hM (dm_0 (g := g) (i := 0) hg rfl) (ze_0 G V g 0 h7) rfl 8 (by decide) (hL _ zw1_137) rfl rfl dX1_prolong_27 ?_
      obtain ⟨r9, h11, hc10, hf⟩ := bnd_some hf
      refine z_callV (As := [.int (h7 15 0)]) (rest := []) (C := RX5) hx hb hml hown hL hK hM hS (kX5_overdueOn l G A V g hg q4 hq4 h7 (h7 15 0) hc10) (zg_X5_overdueOn zw2_129) zv_X5_overdueOn ⟨rfl, rfl⟩ ⟨Nat.le_of_ble_eq_true rfl, Nat.le_of_ble_eq_true rfl⟩ (hM.recv hK (dm_9 (g := g) (i := q4) hg hq4) (ze_9 G V g q4 h7) rfl) rfl hl.1 rfl (Nat.le_of_ble_eq_true rfl) dX1_prolong_30 ⟨Nat.zero_le _, Nat.zero_le _⟩ (fun H locs hM hS => ?_)
      refine W.eq (g2 := F0 m 33 ls [.int r9]) rfl ?_
      refine lv_if_gt (tgt := 51) hx hb dX1_prolong_33 (by decide) (fun c12 => ?_) (fun c12 => ?_)
      · replace hf := ift hf c12
        refine lv_bipush (v := -2) hx hb dX1_prolong_51 (by decide) ?_
        exact hQf hf hM hS dX1_prolong_53
      · replace hf := iff_ hf c12
        refine lv_aload_n hx hb dX1_prolong_36 rfl (lv_at hl 2 rfl) ?_
        refine z_get (own := RX1) (C := RX1) (T := TX1) (N := 10) (ci := 0) (v := .ref (gA G 3 g 0)) hx hb hL inX1 hown hK hM (dm_0 (g := g) (i := 0) hg rfl) (ze_0 G V g 0 h11) rfl 2 (by decide) (hL _ zw1_130) rfl rfl dX1_prolong_37 ?_
        refine lv_aload_n hx hb dX1_prolong_40 rfl (lv_at hl 0 rfl) ?_
        refine z_getN (own := RX1) (C := RX4) (T := TX4) (N := 7) (ci := 3) (v := .int (h11 0 q8)) hx hb hL inX4 hown hK hM (dm_8 (g := g) (i := q8) hg hq8) (ze_8 G V g q8 h11) rfl 1 (by decide) 22 rfl rfl rfl dX1_prolong_41 ?_
        obtain ⟨r13, h15, hc14, hf⟩ := bnd_some hf
        refine z_callV (As := [.int (h11 0 q8)]) (rest := []) (C := RX3) hx hb hml hown hL hK hM hS (kX3_firstFor l G A V g hg 0 (by decide) h11 (h11 0 q8) hc14) (zg_X3_firstFor zw2_81) zv_X3_firstFor ⟨rfl, rfl⟩ ⟨Nat.le_of_ble_eq_true rfl, Nat.le_of_ble_eq_true rfl⟩ (hM.recv hK (dm_3 (g := g) (i := 0) hg (by decide)) (ze_3 G V g 0 h11) rfl) rfl hl.1 rfl (Nat.le_of_ble_eq_true rfl) dX1_prolong_44 ⟨Nat.zero_le _, Nat.zero_le _⟩ (fun H locs hM hS => ?_)
        refine W.eq (g2 := F0 m 47 ls [.int r13]) rfl ?_
        refine lv_iconst (v := -1) hx hb dX1_prolong_47 (by decide) ?_
        refine lv_icmp_eq (tgt := 54) hx hb dX1_prolong_48 (by decide) (fun c16 => ?_) (fun c16 => ?_)
        · replace hf := ift hf c16
          refine lv_aload_n hx hb dX1_prolong_54 rfl (lv_at hl 1 rfl) ?_
          refine z_getN (own := RX1) (C := RX5) (T := TX5) (N := 8) (ci := 4) (v := .int (h15 8 q4)) hx hb hL inX5 hown hK hM (dm_9 (g := g) (i := q4) hg hq4) (ze_9 G V g q4 h15) rfl 3 (by decide) 11 rfl rfl rfl dX1_prolong_55 ?_
          refine lv_aload_n hx hb dX1_prolong_58 rfl (lv_at hl 2 rfl) ?_
          refine z_get (own := RX1) (C := RX1) (T := TX1) (N := 10) (ci := 0) (v := .ref (gA G 4 g 0)) hx hb hL inX1 hown hK hM (dm_0 (g := g) (i := 0) hg rfl) (ze_0 G V g 0 h15) rfl 4 (by decide) (hL _ zw1_133) rfl rfl dX1_prolong_59 ?_
          refine lv_iconst (v := 1) hx hb dX1_prolong_62 (by decide) ?_
          obtain ⟨hb17, hf⟩ := grd_some hf
          refine z_iald hx hb hK hM (dm_4 (g := g) (i := 0) hg rfl) (ze_4 G V g 0 h15) (inb_in hb17) dX1_prolong_63 ?_
          refine lv_icmp_lt (tgt := 70) hx hb dX1_prolong_64 (by decide) (fun c18 => ?_) (fun c18 => ?_)
          · replace hf := ift hf c18
            refine lv_aload_n hx hb dX1_prolong_70 rfl (lv_at hl 1 rfl) ?_
            refine lv_dup hx hb dX1_prolong_71 rfl ?_
            refine z_getN (own := RX1) (C := RX5) (T := TX5) (N := 8) (ci := 4) (v := .int (h15 8 q4)) hx hb hL inX5 hown hK hM (dm_9 (g := g) (i := q4) hg hq4) (ze_9 G V g q4 h15) rfl 3 (by decide) 11 rfl rfl rfl dX1_prolong_72 ?_
            refine lv_iconst (v := 1) hx hb dX1_prolong_75 (by decide) ?_
            refine lv_iadd hx hb dX1_prolong_76 ?_
            obtain ⟨h19, eh19⟩ : ∃ y, y = up2 h15 8 q4 ((h15 8 q4) + (1 : Int32)) := ⟨_, rfl⟩
            replace hf := put2_some hf eh19
            refine z_putN (own := RX1) (C := RX5) (T := TX5) (N := 8) (ci := 4) (V' := upG V g h19) hx hb hL inX5 tyX5 tyX5_ok nmX5 hown hK hM hS (dm_9 (g := g) (i := q4) hg hq4) (ze_9 G V g q4 h15) rfl 3 (by decide) 11 rfl rfl rfl rfl rfl (Nat.le_of_ble_eq_true rfl) (by rw [eh19]; exact zn_9_8 G V g hg h15 q4 ((h15 8 q4) + (1 : Int32))) dX1_prolong_77 (fun H locs hM hS => ?_)
            refine lv_aload_n hx hb dX1_prolong_80 rfl (lv_at hl 1 rfl) ?_
            refine lv_dup hx hb dX1_prolong_81 rfl ?_
            refine z_getN (own := RX1) (C := RX5) (T := TX5) (N := 8) (ci := 4) (v := .int (h19 7 q4)) hx hb hL inX5 hown hK hM (dm_9 (g := g) (i := q4) hg hq4) (ze_9 G V g q4 h19) rfl 2 (by decide) 12 rfl rfl rfl dX1_prolong_82 ?_
            refine lv_aload_n hx hb dX1_prolong_85 rfl (lv_at hl 2 rfl) ?_
            refine z_get (own := RX1) (C := RX1) (T := TX1) (N := 10) (ci := 0) (v := .ref (gA G 4 g 0)) hx hb hL inX1 hown hK hM (dm_0 (g := g) (i := 0) hg rfl) (ze_0 G V g 0 h19) rfl 4 (by decide) (hL _ zw1_133) rfl rfl dX1_prolong_86 ?_
            refine lv_iconst (v := 0) hx hb dX1_prolong_89 (by decide) ?_
            obtain ⟨hb20, hf⟩ := grd_some hf
            refine z_iald hx hb hK hM (dm_4 (g := g) (i := 0) hg rfl) (ze_4 G V g 0 h19) (inb_in hb20) dX1_prolong_90 ?_
            refine lv_iadd hx hb dX1_prolong_91 ?_
            obtain ⟨h21, eh21⟩ : ∃ y, y = up2 h19 7 q4 ((h19 7 q4) + (h19 17 ((0 : Int32).toNatClampNeg))) := ⟨_, rfl⟩
            replace hf := put2_some hf eh21
            refine z_putN (own := RX1) (C := RX5) (T := TX5) (N := 8) (ci := 4) (V' := upG V g h21) hx hb hL inX5 tyX5 tyX5_ok nmX5 hown hK hM hS (dm_9 (g := g) (i := q4) hg hq4) (ze_9 G V g q4 h19) rfl 2 (by decide) 12 rfl rfl rfl rfl rfl (Nat.le_of_ble_eq_true rfl) (by rw [eh21]; exact zn_9_7 G V g hg h19 q4 ((h19 7 q4) + (h19 17 ((0 : Int32).toNatClampNeg)))) dX1_prolong_92 (fun H locs hM hS => ?_)
            refine lv_aload_n hx hb dX1_prolong_95 rfl (lv_at hl 1 rfl) ?_
            refine z_getN (own := RX1) (C := RX5) (T := TX5) (N := 8) (ci := 4) (v := .int (h21 7 q4)) hx hb hL inX5 hown hK hM (dm_9 (g := g) (i := q4) hg hq4) (ze_9 G V g q4 h21) rfl 2 (by decide) 12 rfl rfl rfl dX1_prolong_96 ?_
            exact hQf hf hM hS dX1_prolong_99
          · replace hf := iff_ hf c18
            refine lv_bipush (v := -3) hx hb dX1_prolong_67 (by decide) ?_
            exact hQf hf hM hS dX1_prolong_69
        · replace hf := iff_ hf c16
          refine lv_bipush (v := -2) hx hb dX1_prolong_51 (by decide) ?_
          exact hQf hf hM hS dX1_prolong_53
abbrev rX1_changeLock : Room := { frames := 2, cells := 0, slots := 0, locals := 45 }
set_option maxRecDepth 100000 in
set_option maxHeartbeats 4000000 in
theorem kX1_changeLock (l : Launch) (G : zG) (A : Nat → Prop) (V : zV3) (g : Nat) (hg : g < 7) (n1 : Nat) (hn1 : n1 < 10) (n2 : Nat) (hn2 : n2 < 12) (h : zV2) {r : Unit} {h' : zV2} (hf : xX1_changeLock n1 n2 h  = some (r, h')) : zCt l G A yX1_changeLock cX1_changeLock 4 none rX1_changeLock [.ref (gA G 0 g 0), .ref (gA G 9 g n1), .ref (gA G 8 g n2)] (upG V g h) none (upG V g h') := by
  refine z_CtV (by decide) (Nat.le_of_ble_eq_true rfl) ?_
  intro p e s m args below meth c Q hx hb hml hown hL hK hM hS hQ ls hl
  replace hl : lv_has ls 4 [(0, .ref (gA G 0 g 0)), (1, .ref (gA G 9 g n1)), (2, .ref (gA G 8 g n2))] := hl
  have hQf : ∀ {a : Unit} {k : zV2} {H : Heap} {locs : List Loc} {pc : Nat} {ls : Array Slot}, some (a, k) = some (r, h') → zM G (upG V g k) H → va_S A s.heap H locs → decode cX1_changeLock pc = .ok (.return_, 1) → W p l e rX1_changeLock s m args below meth c H locs 0 0 Q (F0 m pc ls []) := by
    intro a k H locs pc ls e1 hM hS hd
    cases e1
    exact hQ H locs pc ls hM hS hd
  unfold xX1_changeLock at hf
  refine lv_aload_n hx hb dX1_changeLock_0 rfl (lv_at hl 1 rfl) ?_
  refine lv_dup hx hb dX1_changeLock_1 rfl ?_
  refine z_getN (own := RX1) (C := RX5) (T := TX5) (N := 8) (ci := 4) (v := .int (h 9 n1)) hx hb hL inX5 hown hK hM (dm_9 (g := g) (i := n1) hg hn1) (ze_9 G V g n1 h) rfl 4 (by decide) 24 rfl rfl rfl dX1_changeLock_2 ?_
  refine lv_bipush (v := 20) hx hb dX1_changeLock_5 (by decide) ?_
  refine lv_iadd hx hb dX1_changeLock_7 ?_
  obtain ⟨h1, eh1⟩ : ∃ y, y = up2 h 9 n1 ((h 9 n1) + (20 : Int32)) := ⟨_, rfl⟩
  replace hf := put2_some hf eh1
  refine z_putN (own := RX1) (C := RX5) (T := TX5) (N := 8) (ci := 4) (V' := upG V g h1) hx hb hL inX5 tyX5 tyX5_ok nmX5 hown hK hM hS (dm_9 (g := g) (i := n1) hg hn1) (ze_9 G V g n1 h) rfl 4 (by decide) 24 rfl rfl rfl rfl rfl (Nat.le_of_ble_eq_true rfl) (by rw [eh1]; exact zn_9_9 G V g hg h n1 ((h 9 n1) + (20 : Int32))) dX1_changeLock_8 (fun H locs hM hS => ?_)
  refine lv_aload_n hx hb dX1_changeLock_11 rfl (lv_at hl 0 rfl) ?_
  refine lv_aload_n hx hb dX1_changeLock_12 rfl (lv_at hl 1 rfl) ?_
  refine lv_aload_n hx hb dX1_changeLock_13 rfl (lv_at hl 2 rfl) ?_
  obtain ⟨r2, h4, hc3, hf⟩ := bnd_some hf
  refine z_callV (As := [.ref (gA G 9 g n1), .ref (gA G 8 g n2)]) (rest := []) (C := RX1) hx hb hml hown hL hK hM hS (kX1_endLoan l G A V g hg n1 hn1 n2 hn2 h1 hc3) (zg_X1_endLoan zw2_133) zv_X1_endLoan ⟨rfl, rfl⟩ ⟨Nat.le_of_ble_eq_true rfl, Nat.le_of_ble_eq_true rfl⟩ (hM.recv hK (dm_0 (g := g) (i := 0) hg rfl) (ze_0 G V g 0 h1) rfl) rfl hl.1 rfl (Nat.le_of_ble_eq_true rfl) dX1_changeLock_14 ⟨Nat.zero_le _, Nat.zero_le _⟩ (fun H locs hM hS => ?_)
  refine W.eq (g2 := F0 m 17 ls []) rfl ?_
  refine lv_aload_n hx hb dX1_changeLock_17 rfl (lv_at hl 2 rfl) ?_
  refine lv_iconst (v := 1) hx hb dX1_changeLock_18 (by decide) ?_
  obtain ⟨h5, eh5⟩ : ∃ y, y = up2 h4 3 n2 (1 : Int32) := ⟨_, rfl⟩
  replace hf := put2_some hf eh5
  refine z_putN (own := RX1) (C := RX4) (T := TX4) (N := 7) (ci := 3) (V' := upG V g h5) hx hb hL inX4 tyX4 tyX4_ok nmX4 hown hK hM hS (dm_8 (g := g) (i := n2) hg hn2) (ze_8 G V g n2 h4) rfl 4 (by decide) 14 rfl rfl rfl rfl rfl (Nat.le_of_ble_eq_true rfl) (by rw [eh5]; exact zn_8_3 G V g hg h4 n2 (1 : Int32)) dX1_changeLock_19 (fun H locs hM hS => ?_)
  refine lv_aload_n hx hb dX1_changeLock_22 rfl (lv_at hl 2 rfl) ?_
  refine lv_aload_n hx hb dX1_changeLock_23 rfl (lv_at hl 0 rfl) ?_
  refine z_get (own := RX1) (C := RX1) (T := TX1) (N := 10) (ci := 0) (v := .int (h5 15 0)) hx hb hL inX1 hown hK hM (dm_0 (g := g) (i := 0) hg rfl) (ze_0 G V g 0 h5) rfl 8 (by decide) (hL _ zw1_137) rfl rfl dX1_changeLock_24 ?_
  refine lv_iconst (v := 3) hx hb dX1_changeLock_27 (by decide) ?_
  refine lv_iadd hx hb dX1_changeLock_28 ?_
  obtain ⟨h6, eh6⟩ : ∃ y, y = up2 h5 4 n2 ((h5 15 0) + (3 : Int32)) := ⟨_, rfl⟩
  replace hf := put2_some hf eh6
  refine z_putN (own := RX1) (C := RX4) (T := TX4) (N := 7) (ci := 3) (V' := upG V g h6) hx hb hL inX4 tyX4 tyX4_ok nmX4 hown hK hM hS (dm_8 (g := g) (i := n2) hg hn2) (ze_8 G V g n2 h5) rfl 5 (by decide) 15 rfl rfl rfl rfl rfl (Nat.le_of_ble_eq_true rfl) (by rw [eh6]; exact zn_8_4 G V g hg h5 n2 ((h5 15 0) + (3 : Int32))) dX1_changeLock_29 (fun H locs hM hS => ?_)
  refine lv_aload_n hx hb dX1_changeLock_32 rfl (lv_at hl 0 rfl) ?_
  refine lv_aload_n hx hb dX1_changeLock_33 rfl (lv_at hl 2 rfl) ?_
  refine z_getN (own := RX1) (C := RX4) (T := TX4) (N := 7) (ci := 3) (v := .int (h6 0 n2)) hx hb hL inX4 hown hK hM (dm_8 (g := g) (i := n2) hg hn2) (ze_8 G V g n2 h6) rfl 1 (by decide) 22 rfl rfl rfl dX1_changeLock_34 ?_
  obtain ⟨r7, h9, hc8, hf⟩ := bnd_some hf
  refine z_callV (As := [.int (h6 0 n2)]) (rest := []) (C := RX1) hx hb hml hown hL hK hM hS (kX1_lowestFree l G A V g hg h6 (h6 0 n2) hc8) (zg_X1_lowestFree zw2_113) zv_X1_lowestFree ⟨rfl, rfl⟩ ⟨Nat.le_of_ble_eq_true rfl, Nat.le_of_ble_eq_true rfl⟩ (hM.recv hK (dm_0 (g := g) (i := 0) hg rfl) (ze_0 G V g 0 h6) rfl) rfl hl.1 rfl (Nat.le_of_ble_eq_true rfl) dX1_changeLock_37 ⟨Nat.zero_le _, Nat.zero_le _⟩ (fun H locs hM hS => ?_)
  cases r7 with
  | none =>
    replace hf := optm_none hf
    refine W.eq (g2 := F0 m 40 ls [.null]) rfl ?_
    refine lv_astore_nN (lv' := [(3, .null), (0, .ref (gA G 0 g 0)), (1, .ref (gA G 9 g n1)), (2, .ref (gA G 8 g n2))]) hx hb dX1_changeLock_40 rfl hl (by decide) rfl (fun ls hl => ?_)
    refine lv_aload_nN hx hb dX1_changeLock_41 rfl (lv_at hl 0 rfl) ?_
    refine lv_ifnonnullN hx hb dX1_changeLock_42 ?_
    refine lv_aload_n hx hb dX1_changeLock_45 rfl (lv_at hl 1 rfl) ?_
    refine z_get (own := RX1) (C := RX1) (T := TX1) (N := 10) (ci := 0) (v := .ref (gA G 3 g 0)) hx hb hL inX1 hown hK hM (dm_0 (g := g) (i := 0) hg rfl) (ze_0 G V g 0 h9) rfl 2 (by decide) (hL _ zw1_130) rfl rfl dX1_changeLock_46 ?_
    refine lv_aload_n hx hb dX1_changeLock_49 rfl (lv_at hl 2 rfl) ?_
    refine z_getN (own := RX1) (C := RX5) (T := TX5) (N := 8) (ci := 4) (v := .int (nI n1)) hx hb hL inX5 hown hK hM (dm_9 (g := g) (i := n1) hg hn1) (ze_9 G V g n1 h9) rfl 0 (by decide) 16 rfl rfl rfl dX1_changeLock_50 ?_
    refine lv_aload_n hx hb dX1_changeLock_53 rfl (lv_at hl 3 rfl) ?_
    refine z_getN (own := RX1) (C := RX4) (T := TX4) (N := 7) (ci := 3) (v := .int (h9 0 n2)) hx hb hL inX4 hown hK hM (dm_8 (g := g) (i := n2) hg hn2) (ze_8 G V g n2 h9) rfl 1 (by decide) 22 rfl rfl rfl dX1_changeLock_54 ?_
    obtain ⟨r11, h13, hc12, hf⟩ := bnd_some hf
    refine z_callV (As := [.int (nI n1), .int (h9 0 n2)]) (rest := []) (C := RX3) hx hb hml hown hL hK hM hS (kX3_add l G A V g hg 0 (by decide) h9 (nI n1) (h9 0 n2) hc12) (zg_X3_add zw2_117) zv_X3_add ⟨rfl, rfl⟩ ⟨Nat.le_of_ble_eq_true rfl, Nat.le_of_ble_eq_true rfl⟩ (hM.recv hK (dm_3 (g := g) (i := 0) hg (by decide)) (ze_3 G V g 0 h9) rfl) rfl hl.1 rfl (Nat.le_of_ble_eq_true rfl) dX1_changeLock_57 ⟨Nat.zero_le _, Nat.zero_le _⟩ (fun H locs hM hS => ?_)
    refine W.eq (g2 := F0 m 60 ls []) rfl ?_
    refine lv_goto (tgt := 69) hx hb dX1_changeLock_60 (by decide) ?_
    exact hQf hf hM hS dX1_changeLock_69
  | some q10 =>
    replace hf := optm_s hf
    obtain ⟨hq10, hf⟩ := grd_some hf
    replace hq10 := of_decide_eq_true hq10
    refine W.eq (g2 := F0 m 40 ls [.ref (gA G 8 g q10)]) rfl ?_
    refine lv_astore_n (lv' := [(3, .ref (gA G 8 g q10)), (0, .ref (gA G 0 g 0)), (1, .ref (gA G 9 g n1)), (2, .ref (gA G 8 g n2))]) hx hb dX1_changeLock_40 rfl hl (by decide) rfl (fun ls hl => ?_)
    refine lv_aload_n hx hb dX1_changeLock_41 rfl (lv_at hl 0 rfl) ?_
    refine lv_ifnonnull (tgt := 63) hx hb dX1_changeLock_42 (by decide) ?_
    refine lv_aload_n hx hb dX1_changeLock_63 rfl (lv_at hl 1 rfl) ?_
    refine lv_aload_n hx hb dX1_changeLock_64 rfl (lv_at hl 2 rfl) ?_
    refine lv_aload_n hx hb dX1_changeLock_65 rfl (lv_at hl 0 rfl) ?_
    obtain ⟨r14, h16, hc15, hf⟩ := bnd_some hf
    refine z_callV (As := [.ref (gA G 9 g n1), .ref (gA G 8 g q10)]) (rest := []) (C := RX1) hx hb hml hown hL hK hM hS (kX1_beginLoan l G A V g hg n1 hn1 q10 hq10 h9 hc15) (zg_X1_beginLoan zw2_97) zv_X1_beginLoan ⟨rfl, rfl⟩ ⟨Nat.le_of_ble_eq_true rfl, Nat.le_of_ble_eq_true rfl⟩ (hM.recv hK (dm_0 (g := g) (i := 0) hg rfl) (ze_0 G V g 0 h9) rfl) rfl hl.1 rfl (Nat.le_of_ble_eq_true rfl) dX1_changeLock_66 ⟨Nat.zero_le _, Nat.zero_le _⟩ (fun H locs hM hS => ?_)
    refine W.eq (g2 := F0 m 69 ls []) rfl ?_
    exact hQf hf hM hS dX1_changeLock_69
abbrev rX1_loseKey : Room := { frames := 3, cells := 0, slots := 0, locals := 68 }
set_option maxRecDepth 100000 in
set_option maxHeartbeats 4000000 in
theorem kX1_loseKey (l : Launch) (G : zG) (A : Nat → Prop) (V : zV3) (g : Nat) (hg : g < 7) (h : zV2) (p1 : Int32) {r : Int32} {h' : zV2} (hf : xX1_loseKey h p1 = some (r, h')) : zCt l G A yX1_loseKey cX1_loseKey 4 (some .int) rX1_loseKey [.ref (gA G 0 g 0), .int p1] (upG V g h) (some (.int r)) (upG V g h') := by
  refine z_CtI (by decide) (Nat.le_of_ble_eq_true rfl) ?_
  intro p e s m args below meth c Q hx hb hml hown hL hK hM hS hQ ls hl
  replace hl : lv_has ls 4 [(0, .ref (gA G 0 g 0)), (1, .int p1)] := hl
  have hQf : ∀ {a : Int32} {k : zV2} {H : Heap} {locs : List Loc} {pc : Nat} {ls : Array Slot}, some (a, k) = some (r, h') → zM G (upG V g k) H → va_S A s.heap H locs → decode cX1_loseKey pc = .ok (.ireturn, 1) → W p l e rX1_loseKey s m args below meth c H locs 0 0 Q (F0 m pc ls [.int a]) := by
    intro a k H locs pc ls e1 hM hS hd
    cases e1
    exact hQ H locs pc ls hM hS hd
  unfold xX1_loseKey at hf
  refine lv_aload_n hx hb dX1_loseKey_0 rfl (lv_at hl 0 rfl) ?_
  refine lv_iload_n hx hb dX1_loseKey_1 rfl (lv_at hl 1 rfl) ?_
  obtain ⟨r1, h3, hc2, hf⟩ := bnd_some hf
  refine z_callV (As := [.int p1]) (rest := []) (C := RX1) hx hb hml hown hL hK hM hS (kX1_personAt l G A V g hg h p1 hc2) (zg_X1_personAt zw2_85) zv_X1_personAt ⟨rfl, rfl⟩ ⟨Nat.le_of_ble_eq_true rfl, Nat.le_of_ble_eq_true rfl⟩ (hM.recv hK (dm_0 (g := g) (i := 0) hg rfl) (ze_0 G V g 0 h) rfl) rfl hl.1 rfl (Nat.le_of_ble_eq_true rfl) dX1_loseKey_2 ⟨Nat.zero_le _, Nat.zero_le _⟩ (fun H locs hM hS => ?_)
  cases r1 with
  | none =>
    replace hf := optm_none hf
    refine W.eq (g2 := F0 m 5 ls [.null]) rfl ?_
    refine lv_astore_nN (lv' := [(2, .null), (0, .ref (gA G 0 g 0)), (1, .int p1)]) hx hb dX1_loseKey_5 rfl hl (by decide) rfl (fun ls hl => ?_)
    refine lv_aload_nN hx hb dX1_loseKey_6 rfl (lv_at hl 0 rfl) ?_
    refine lv_ifnonnullN hx hb dX1_loseKey_7 ?_
    refine lv_iconst (v := -1) hx hb dX1_loseKey_10 (by decide) ?_
    exact hQf hf hM hS dX1_loseKey_11
  | some q4 =>
    replace hf := optm_s hf
    obtain ⟨hq4, hf⟩ := grd_some hf
    replace hq4 := of_decide_eq_true hq4
    refine W.eq (g2 := F0 m 5 ls [.ref (gA G 9 g q4)]) rfl ?_
    refine lv_astore_n (lv' := [(2, .ref (gA G 9 g q4)), (0, .ref (gA G 0 g 0)), (1, .int p1)]) hx hb dX1_loseKey_5 rfl hl (by decide) rfl (fun ls hl => ?_)
    refine lv_aload_n hx hb dX1_loseKey_6 rfl (lv_at hl 0 rfl) ?_
    refine lv_ifnonnull (tgt := 12) hx hb dX1_loseKey_7 (by decide) ?_
    refine lv_aload_n hx hb dX1_loseKey_12 rfl (lv_at hl 1 rfl) ?_
    refine lv_aload_n hx hb dX1_loseKey_13 rfl (lv_at hl 0 rfl) ?_
    refine z_getN (own := RX1) (C := RX5) (T := TX5) (N := 8) (ci := 4) (v := .int (h3 6 q4)) hx hb hL inX5 hown hK hM (dm_9 (g := g) (i := q4) hg hq4) (ze_9 G V g q4 h3) rfl 1 (by decide) 21 rfl rfl rfl dX1_loseKey_14 ?_
    obtain ⟨r5, h7, hc6, hf⟩ := bnd_some hf
    refine z_callV (As := [.int (h3 6 q4)]) (rest := []) (C := RX1) hx hb hml hown hL hK hM hS (kX1_lockerAt l G A V g hg h3 (h3 6 q4) hc6) (zg_X1_lockerAt zw2_69) zv_X1_lockerAt ⟨rfl, rfl⟩ ⟨Nat.le_of_ble_eq_true rfl, Nat.le_of_ble_eq_true rfl⟩ (hM.recv hK (dm_0 (g := g) (i := 0) hg rfl) (ze_0 G V g 0 h3) rfl) rfl hl.1 rfl (Nat.le_of_ble_eq_true rfl) dX1_loseKey_17 ⟨Nat.zero_le _, Nat.zero_le _⟩ (fun H locs hM hS => ?_)
    cases r5 with
    | none =>
      replace hf := optm_none hf
      refine W.eq (g2 := F0 m 20 ls [.null]) rfl ?_
      refine lv_astore_nN (lv' := [(3, .null), (2, .ref (gA G 9 g q4)), (0, .ref (gA G 0 g 0)), (1, .int p1)]) hx hb dX1_loseKey_20 rfl hl (by decide) rfl (fun ls hl => ?_)
      refine lv_aload_nN hx hb dX1_loseKey_21 rfl (lv_at hl 0 rfl) ?_
      refine lv_ifnonnullN hx hb dX1_loseKey_22 ?_
      refine lv_bipush (v := -2) hx hb dX1_loseKey_25 (by decide) ?_
      exact hQf hf hM hS dX1_loseKey_27
    | some q8 =>
      replace hf := optm_s hf
      obtain ⟨hq8, hf⟩ := grd_some hf
      replace hq8 := of_decide_eq_true hq8
      refine W.eq (g2 := F0 m 20 ls [.ref (gA G 8 g q8)]) rfl ?_
      refine lv_astore_n (lv' := [(3, .ref (gA G 8 g q8)), (2, .ref (gA G 9 g q4)), (0, .ref (gA G 0 g 0)), (1, .int p1)]) hx hb dX1_loseKey_20 rfl hl (by decide) rfl (fun ls hl => ?_)
      refine lv_aload_n hx hb dX1_loseKey_21 rfl (lv_at hl 0 rfl) ?_
      refine lv_ifnonnull (tgt := 28) hx hb dX1_loseKey_22 (by decide) ?_
      refine lv_aload_n hx hb dX1_loseKey_28 rfl (lv_at hl 1 rfl) ?_
      refine lv_dup hx hb dX1_loseKey_29 rfl ?_
      refine z_getN (own := RX1) (C := RX5) (T := TX5) (N := 8) (ci := 4) (v := .int (h7 11 q4)) hx hb hL inX5 hown hK hM (dm_9 (g := g) (i := q4) hg hq4) (ze_9 G V g q4 h7) rfl 6 (by decide) 13 rfl rfl rfl dX1_loseKey_30 ?_
      refine lv_iconst (v := 1) hx hb dX1_loseKey_33 (by decide) ?_
      refine lv_iadd hx hb dX1_loseKey_34 ?_
      obtain ⟨h9, eh9⟩ : ∃ y, y = up2 h7 11 q4 ((h7 11 q4) + (1 : Int32)) := ⟨_, rfl⟩
      replace hf := put2_some hf eh9
      refine z_putN (own := RX1) (C := RX5) (T := TX5) (N := 8) (ci := 4) (V' := upG V g h9) hx hb hL inX5 tyX5 tyX5_ok nmX5 hown hK hM hS (dm_9 (g := g) (i := q4) hg hq4) (ze_9 G V g q4 h7) rfl 6 (by decide) 13 rfl rfl rfl rfl rfl (Nat.le_of_ble_eq_true rfl) (by rw [eh9]; exact zn_9_11 G V g hg h7 q4 ((h7 11 q4) + (1 : Int32))) dX1_loseKey_35 (fun H locs hM hS => ?_)
      refine lv_aload_n hx hb dX1_loseKey_38 rfl (lv_at hl 1 rfl) ?_
      refine lv_dup hx hb dX1_loseKey_39 rfl ?_
      refine z_getN (own := RX1) (C := RX5) (T := TX5) (N := 8) (ci := 4) (v := .int (h9 9 q4)) hx hb hL inX5 hown hK hM (dm_9 (g := g) (i := q4) hg hq4) (ze_9 G V g q4 h9) rfl 4 (by decide) 24 rfl rfl rfl dX1_loseKey_40 ?_
      refine lv_iconst (v := 5) hx hb dX1_loseKey_43 (by decide) ?_
      refine lv_iadd hx hb dX1_loseKey_44 ?_
      obtain ⟨h10, eh10⟩ : ∃ y, y = up2 h9 9 q4 ((h9 9 q4) + (5 : Int32)) := ⟨_, rfl⟩
      replace hf := put2_some hf eh10
      refine z_putN (own := RX1) (C := RX5) (T := TX5) (N := 8) (ci := 4) (V' := upG V g h10) hx hb hL inX5 tyX5 tyX5_ok nmX5 hown hK hM hS (dm_9 (g := g) (i := q4) hg hq4) (ze_9 G V g q4 h9) rfl 4 (by decide) 24 rfl rfl rfl rfl rfl (Nat.le_of_ble_eq_true rfl) (by rw [eh10]; exact zn_9_9 G V g hg h9 q4 ((h9 9 q4) + (5 : Int32))) dX1_loseKey_45 (fun H locs hM hS => ?_)
      refine lv_aload_n hx hb dX1_loseKey_48 rfl (lv_at hl 0 rfl) ?_
      refine z_getN (own := RX1) (C := RX4) (T := TX4) (N := 7) (ci := 3) (v := .int (h10 3 q8)) hx hb hL inX4 hown hK hM (dm_8 (g := g) (i := q8) hg hq8) (ze_8 G V g q8 h10) rfl 4 (by decide) 14 rfl rfl rfl dX1_loseKey_49 ?_
      refine lv_if_eq (tgt := 63) hx hb dX1_loseKey_52 (by decide) (fun c11 => ?_) (fun c11 => ?_)
      · replace hf := ift hf c11
        refine lv_aload_n hx hb dX1_loseKey_63 rfl (lv_at hl 2 rfl) ?_
        refine lv_aload_n hx hb dX1_loseKey_64 rfl (lv_at hl 1 rfl) ?_
        refine lv_aload_n hx hb dX1_loseKey_65 rfl (lv_at hl 0 rfl) ?_
        obtain ⟨r12, h14, hc13, hf⟩ := bnd_some hf
        refine z_callV (As := [.ref (gA G 9 g q4), .ref (gA G 8 g q8)]) (rest := []) (C := RX1) hx hb hml hown hL hK hM hS (kX1_changeLock l G A V g hg q4 hq4 q8 hq8 h10 hc13) (zg_X1_changeLock zw2_153) zv_X1_changeLock ⟨rfl, rfl⟩ ⟨Nat.le_of_ble_eq_true rfl, Nat.le_of_ble_eq_true rfl⟩ (hM.recv hK (dm_0 (g := g) (i := 0) hg rfl) (ze_0 G V g 0 h10) rfl) rfl hl.1 rfl (Nat.le_of_ble_eq_true rfl) dX1_loseKey_66 ⟨Nat.zero_le _, Nat.zero_le _⟩ (fun H locs hM hS => ?_)
        refine W.eq (g2 := F0 m 69 ls []) rfl ?_
        refine lv_aload_n hx hb dX1_loseKey_69 rfl (lv_at hl 1 rfl) ?_
        refine z_getN (own := RX1) (C := RX5) (T := TX5) (N := 8) (ci := 4) (v := .int (h14 9 q4)) hx hb hL inX5 hown hK hM (dm_9 (g := g) (i := q4) hg hq4) (ze_9 G V g q4 h14) rfl 4 (by decide) 24 rfl rfl rfl dX1_loseKey_70 ?_
        exact hQf hf hM hS dX1_loseKey_73
      · replace hf := iff_ hf c11
        refine lv_aload_n hx hb dX1_loseKey_55 rfl (lv_at hl 0 rfl) ?_
        refine lv_iconst (v := 0) hx hb dX1_loseKey_56 (by decide) ?_
        obtain ⟨h15, eh15⟩ : ∃ y, y = up2 h10 3 q8 (0 : Int32) := ⟨_, rfl⟩
        replace hf := put2_some hf eh15
        refine z_putN (own := RX1) (C := RX4) (T := TX4) (N := 7) (ci := 3) (V' := upG V g h15) hx hb hL inX4 tyX4 tyX4_ok nmX4 hown hK hM hS (dm_8 (g := g) (i := q8) hg hq8) (ze_8 G V g q8 h10) rfl 4 (by decide) 14 rfl rfl rfl rfl rfl (Nat.le_of_ble_eq_true rfl) (by rw [eh15]; exact zn_8_3 G V g hg h10 q8 (0 : Int32)) dX1_loseKey_57 (fun H locs hM hS => ?_)
        refine lv_goto (tgt := 69) hx hb dX1_loseKey_60 (by decide) ?_
        refine lv_aload_n hx hb dX1_loseKey_69 rfl (lv_at hl 1 rfl) ?_
        refine z_getN (own := RX1) (C := RX5) (T := TX5) (N := 8) (ci := 4) (v := .int (h15 9 q4)) hx hb hL inX5 hown hK hM (dm_9 (g := g) (i := q4) hg hq4) (ze_9 G V g q4 h15) rfl 4 (by decide) 24 rfl rfl rfl dX1_loseKey_70 ?_
        exact hQf hf hM hS dX1_loseKey_73
