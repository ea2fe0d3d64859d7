abbrev rX1_moveToFree : Room := { frames := 2, cells := 0, slots := 0, locals := 46 }
set_option maxRecDepth 100000 in
set_option maxHeartbeats 4000000 in
theorem kX1_moveToFree (l : Launch) (G : zG) (A : Nat → Prop) (V : zV3) (g : Nat) (hg : g < 7) (h : zV2) {r : Int32} {h' : zV2} (hf : xX1_moveToFree h  = some (r, h')) : zCt l G A yX1_moveToFree cX1_moveToFree 5 (some .int) rX1_moveToFree [.ref (gA G 0 g 0)] (upG V g h) (some (.int r)) (upG V g h') := by
  refine z_CtI (by decide) (Nat.le_of_ble_eq_true rfl) ?_
  intro p e s m args below meth c Q hx hb hml hown hL hK hM hS hQ ls hl
  replace hl : lv_has ls 5 [(0, .ref (gA G 0 g 0))] := hl
  have hQf : ∀ {a : Int32} {k : zV2} {H : Heap} {locs : List Loc} {pc : Nat} {ls : Array Slot}, some (a, k) = some (r, h') → zM G (upG V g k) H → va_S A s.heap H locs → decode cX1_moveToFree pc = .ok (.ireturn, 1) → W p l e rX1_moveToFree s m args below meth c H locs 0 0 Q (F0 m pc ls [.int a]) := by
    intro a k H locs pc ls e1 hM hS hd
    cases e1
    exact hQ H locs pc ls hM hS hd
  have L2 : ∀ (n : Nat) (h : zV2) (a1 : Int32), xX1_moveToFree_L2 n h a1 = some (r, h') → ∀ (H : Heap) (locs : List Loc) (ls : Array Slot), zM G (upG V g h) H → va_S A s.heap H locs → lv_has ls 5 [(0, .ref (gA G 0 g 0)), (1, .int a1)] → W p l e rX1_moveToFree s m args below meth c H locs 0 0 Q (F0 m 2 ls []) := by
    intro n
    induction n with
    | zero =>
      intro h a1 hf H locs ls hM hS hl
      rw [xX1_moveToFree_L2] at hf
      cases hf
    | succ n ih =>
      intro h a1 hf H locs ls hM hS hl
      rw [xX1_moveToFree_L2] at hf
      refine lv_iload_n hx hb dX1_moveToFree_2 rfl (lv_at hl 1 rfl) ?_
      refine lv_aload_n hx hb dX1_moveToFree_3 rfl (lv_at hl 0 rfl) ?_
      refine z_get (own := RX1) (C := RX1) (T := TX1) (N := 10) (ci := 0) (v := .ref (gA G 3 g 1)) hx hb hL inX1 hown hK hM (dm_0 (g := g) (i := 0) hg rfl) (ze_0 G V g 0 h) rfl 3 (by decide) (hL _ zw1_132) rfl rfl dX1_moveToFree_4 ?_
      refine z_getN (own := RX1) (C := RX3) (T := TX3) (N := 3) (ci := 2) (v := .int (h (23 + 1) 0)) hx hb hL inX3 hown hK hM (dm_3 (g := g) (i := 1) hg (by decide)) (ze_3 G V g 1 h) rfl 2 (by decide) 9 rfl rfl rfl dX1_moveToFree_7 ?_
      refine lv_icmp_ge (tgt := 77) hx hb dX1_moveToFree_10 (by decide) (fun c1 => ?_) (fun c1 => ?_)
      · replace hf := ift hf c1
        refine lv_iconst (v := 0) hx hb dX1_moveToFree_77 (by decide) ?_
        exact hQf hf hM hS dX1_moveToFree_78
      · replace hf := iff_ hf c1
        refine lv_aload_n hx hb dX1_moveToFree_13 rfl (lv_at hl 0 rfl) ?_
        refine z_get (own := RX1) (C := RX1) (T := TX1) (N := 10) (ci := 0) (v := .ref (gA G 3 g 1)) hx hb hL inX1 hown hK hM (dm_0 (g := g) (i := 0) hg rfl) (ze_0 G V g 0 h) rfl 3 (by decide) (hL _ zw1_132) rfl rfl dX1_moveToFree_14 ?_
        refine lv_iload_n hx hb dX1_moveToFree_17 rfl (lv_at hl 1 rfl) ?_
        obtain ⟨r2, h4, hc3, hf⟩ := bnd_some hf
        refine z_callV (As := [.int a1]) (rest := []) (C := RX3) hx hb hml hown hL hK hM hS (kX3_personAt l G A V g hg 1 (by decide) h a1 hc3) (zg_X3_personAt zw2_189) zv_X3_personAt ⟨rfl, rfl⟩ ⟨Nat.le_of_ble_eq_true rfl, Nat.le_of_ble_eq_true rfl⟩ (hM.recv hK (dm_3 (g := g) (i := 1) hg (by decide)) (ze_3 G V g 1 h) rfl) rfl hl.1 rfl (Nat.le_of_ble_eq_true rfl) dX1_moveToFree_18 ⟨Nat.zero_le _, Nat.zero_le _⟩ (fun H locs hM hS => ?_)
        refine W.eq (g2 := F0 m 21 ls [.int r2]) rfl ?_
        refine lv_istore_n (lv' := [(2, .int r2), (0, .ref (gA G 0 g 0)), (1, .int a1)]) hx hb dX1_moveToFree_21 rfl hl (by decide) rfl (fun ls hl => ?_)
        refine lv_aload_n hx hb dX1_moveToFree_22 rfl (lv_at hl 1 rfl) ?_
        refine lv_aload_n hx hb dX1_moveToFree_23 rfl (lv_at hl 1 rfl) ?_
        refine z_get (own := RX1) (C := RX1) (T := TX1) (N := 10) (ci := 0) (v := .ref (gA G 3 g 1)) hx hb hL inX1 hown hK hM (dm_0 (g := g) (i := 0) hg rfl) (ze_0 G V g 0 h4) rfl 3 (by decide) (hL _ zw1_132) rfl rfl dX1_moveToFree_24 ?_
        refine lv_iload_n hx hb dX1_moveToFree_27 rfl (lv_at hl 2 rfl) ?_
        obtain ⟨r5, h7, hc6, hf⟩ := bnd_some hf
        refine z_callV (As := [.int a1]) (rest := [.ref (gA G 0 g 0)]) (C := RX3) hx hb hml hown hL hK hM hS (kX3_sizeAt l G A V g hg 1 (by decide) h4 a1 hc6) (zg_X3_sizeAt zw2_193) zv_X3_sizeAt ⟨rfl, rfl⟩ ⟨Nat.le_of_ble_eq_true rfl, Nat.le_of_ble_eq_true rfl⟩ (hM.recv hK (dm_3 (g := g) (i := 1) hg (by decide)) (ze_3 G V g 1 h4) rfl) rfl hl.1 rfl (Nat.le_of_ble_eq_true rfl) dX1_moveToFree_28 ⟨Nat.zero_le _, Nat.zero_le _⟩ (fun H locs hM hS => ?_)
        refine W.eq (g2 := F0 m 31 ls [.int r5, .ref (gA G 0 g 0)]) rfl ?_
        obtain ⟨r8, h10, hc9, hf⟩ := bnd_some hf
        refine z_callV (As := [.int r5]) (rest := []) (C := RX1) hx hb hml hown hL hK hM hS (kX1_lowestFree l G A V g hg h7 r5 hc9) (zg_X1_lowestFree zw2_113) zv_X1_lowestFree ⟨rfl, rfl⟩ ⟨Nat.le_of_ble_eq_true rfl, Nat.le_of_ble_eq_true rfl⟩ (hM.recv hK (dm_0 (g := g) (i := 0) hg rfl) (ze_0 G V g 0 h7) rfl) rfl hl.1 rfl (Nat.le_of_ble_eq_true rfl) dX1_moveToFree_31 ⟨Nat.zero_le _, Nat.zero_le _⟩ (fun H locs hM hS => ?_)
        cases r8 with
        | none =>
          replace hf := optm_none hf
          refine W.eq (g2 := F0 m 34 ls [.null]) rfl ?_
          refine lv_astore_nN (lv' := [(3, .null), (2, .int r2), (0, .ref (gA G 0 g 0)), (1, .int a1)]) hx hb dX1_moveToFree_34 rfl hl (by decide) rfl (fun ls hl => ?_)
          refine lv_aload_n hx hb dX1_moveToFree_35 rfl (lv_at hl 2 rfl) ?_
          refine lv_iload_n hx hb dX1_moveToFree_36 rfl (lv_at hl 1 rfl) ?_
          obtain ⟨r12, h14, hc13, hf⟩ := bnd_some hf
          refine z_callV (As := [.int r2]) (rest := []) (C := RX1) hx hb hml hown hL hK hM hS (kX1_lockerOfPerson l G A V g hg h10 r2 hc13) (zg_X1_lockerOfPerson zw2_197) zv_X1_lockerOfPerson ⟨rfl, rfl⟩ ⟨Nat.le_of_ble_eq_true rfl, Nat.le_of_ble_eq_true rfl⟩ (hM.recv hK (dm_0 (g := g) (i := 0) hg rfl) (ze_0 G V g 0 h10) rfl) rfl hl.1 rfl (Nat.le_of_ble_eq_true rfl) dX1_moveToFree_37 ⟨Nat.zero_le _, Nat.zero_le _⟩ (fun H locs hM hS => ?_)
          cases r12 with
          | none =>
            replace hf := optm_none hf
            refine W.eq (g2 := F0 m 40 ls [.null]) rfl ?_
            refine lv_astoreN (lv' := [(4, .null), (3, .null), (2, .int r2), (0, .ref (gA G 0 g 0)), (1, .int a1)]) hx hb dX1_moveToFree_40 hl (by decide) rfl (fun ls hl => ?_)
            refine lv_aload_nN hx hb dX1_moveToFree_42 rfl (lv_at hl 1 rfl) ?_
            refine lv_ifnullN (tgt := 71) hx hb dX1_moveToFree_43 (by decide) ?_
            obtain ⟨y16, ey16⟩ : ∃ y : Int32, y = a1 + (1 : Int32) := ⟨_, rfl⟩
            replace hf := ltI_some hf ey16
            refine lv_iinc (v := y16) (lv' := [(1, .int y16), (4, .null), (3, .null), (2, .int r2), (0, .ref (gA G 0 g 0))]) hx hb dX1_moveToFree_71 hl (k := 4) rfl (by rw [ey16]; rfl) (by decide) rfl (fun ls hl => ?_)
            refine lv_goto (tgt := 2) hx hb dX1_moveToFree_74 (by decide) ?_
            exact ih h14 y16 hf _ _ _ hM hS (lv_sub hl [4, 0] rfl)
          | some q15 =>
            replace hf := optm_s hf
            obtain ⟨hq15, hf⟩ := grd_some hf
            replace hq15 := of_decide_eq_true hq15
            refine W.eq (g2 := F0 m 40 ls [.ref (gA G 8 g q15)]) rfl ?_
            refine lv_astore (lv' := [(4, .ref (gA G 8 g q15)), (3, .null), (2, .int r2), (0, .ref (gA G 0 g 0)), (1, .int a1)]) hx hb dX1_moveToFree_40 hl (by decide) rfl (fun ls hl => ?_)
            refine lv_aload_nN hx hb dX1_moveToFree_42 rfl (lv_at hl 1 rfl) ?_
            refine lv_ifnullN (tgt := 71) hx hb dX1_moveToFree_43 (by decide) ?_
            obtain ⟨y17, ey17⟩ : ∃ y : Int32, y = a1 + (1 : Int32) := ⟨_, rfl⟩
            replace hf := ltI_some hf ey17
            refine lv_iinc (v := y17) (lv' := [(1, .int y17), (4, .ref (gA G 8 g q15)), (3, .null), (2, .int r2), (0, .ref (gA G 0 g 0))]) hx hb dX1_moveToFree_71 hl (k := 4) rfl (by rw [ey17]; rfl) (by decide) rfl (fun ls hl => ?_)
            refine lv_goto (tgt := 2) hx hb dX1_moveToFree_74 (by decide) ?_
            exact ih h14 y17 hf _ _ _ hM hS (lv_sub hl [4, 0] rfl)
        | some q11 =>
          replace hf := optm_s hf
          obtain ⟨hq11, hf⟩ := grd_some hf
          replace hq11 := of_decide_eq_true hq11
          refine W.eq (g2 := F0 m 34 ls [.ref (gA G 8 g q11)]) rfl ?_
          refine lv_astore_n (lv' := [(3, .ref (gA G 8 g q11)), (2, .int r2), (0, .ref (gA G 0 g 0)), (1, .int a1)]) hx hb dX1_moveToFree_34 rfl hl (by decide) rfl (fun ls hl => ?_)
          refine lv_aload_n hx hb dX1_moveToFree_35 rfl (lv_at hl 2 rfl) ?_
          refine lv_iload_n hx hb dX1_moveToFree_36 rfl (lv_at hl 1 rfl) ?_
          obtain ⟨r18, h20, hc19, hf⟩ := bnd_some hf
          refine z_callV (As := [.int r2]) (rest := []) (C := RX1) hx hb hml hown hL hK hM hS (kX1_lockerOfPerson l G A V g hg h10 r2 hc19) (zg_X1_lockerOfPerson zw2_197) zv_X1_lockerOfPerson ⟨rfl, rfl⟩ ⟨Nat.le_of_ble_eq_true rfl, Nat.le_of_ble_eq_true rfl⟩ (hM.recv hK (dm_0 (g := g) (i := 0) hg rfl) (ze_0 G V g 0 h10) rfl) rfl hl.1 rfl (Nat.le_of_ble_eq_true rfl) dX1_moveToFree_37 ⟨Nat.zero_le _, Nat.zero_le _⟩ (fun H locs hM hS => ?_)
          cases r18 with
          | none =>
            replace hf := optm_none hf
            refine W.eq (g2 := F0 m 40 ls [.null]) rfl ?_
            refine lv_astoreN (lv' := [(4, .null), (3, .ref (gA G 8 g q11)), (2, .int r2), (0, .ref (gA G 0 g 0)), (1, .int a1)]) hx hb dX1_moveToFree_40 hl (by decide) rfl (fun ls hl => ?_)
            refine lv_aload_n hx hb dX1_moveToFree_42 rfl (lv_at hl 1 rfl) ?_
            refine lv_ifnull hx hb dX1_moveToFree_43 ?_
            refine lv_aloadN hx hb dX1_moveToFree_46 (lv_at hl 0 rfl) ?_
            refine lv_ifnullN (tgt := 71) hx hb dX1_moveToFree_48 (by decide) ?_
            obtain ⟨y22, ey22⟩ : ∃ y : Int32, y = a1 + (1 : Int32) := ⟨_, rfl⟩
            replace hf := ltI_some hf ey22
            refine lv_iinc (v := y22) (lv' := [(1, .int y22), (4, .null), (3, .ref (gA G 8 g q11)), (2, .int r2), (0, .ref (gA G 0 g 0))]) hx hb dX1_moveToFree_71 hl (k := 4) rfl (by rw [ey22]; rfl) (by decide) rfl (fun ls hl => ?_)
            refine lv_goto (tgt := 2) hx hb dX1_moveToFree_74 (by decide) ?_
            exact ih h20 y22 hf _ _ _ hM hS (lv_sub hl [4, 0] rfl)
          | some q21 =>
            replace hf := optm_s hf
            obtain ⟨hq21, hf⟩ := grd_some hf
            replace hq21 := of_decide_eq_true hq21
            refine W.eq (g2 := F0 m 40 ls [.ref (gA G 8 g q21)]) rfl ?_
            refine lv_astore (lv' := [(4, .ref (gA G 8 g q21)), (3, .ref (gA G 8 g q11)), (2, .int r2), (0, .ref (gA G 0 g 0)), (1, .int a1)]) hx hb dX1_moveToFree_40 hl (by decide) rfl (fun ls hl => ?_)
            refine lv_aload_n hx hb dX1_moveToFree_42 rfl (lv_at hl 1 rfl) ?_
            refine lv_ifnull hx hb dX1_moveToFree_43 ?_
            refine lv_aload hx hb dX1_moveToFree_46 (lv_at hl 0 rfl) ?_
            refine lv_ifnull hx hb dX1_moveToFree_48 ?_
            refine lv_aload hx hb dX1_moveToFree_51 (lv_at hl 0 rfl) ?_
            refine lv_iconst (v := -1) hx hb dX1_moveToFree_53 (by decide) ?_
            obtain ⟨h23, eh23⟩ : ∃ y, y = up2 h20 2 q21 (-1 : Int32) := ⟨_, rfl⟩
            replace hf := put2_some hf eh23
            refine z_putN (own := RX1) (C := RX4) (T := TX4) (N := 7) (ci := 3) (V' := upG V g h23) hx hb hL inX4 tyX4 tyX4_ok nmX4 hown hK hM hS (dm_8 (g := g) (i := q21) hg hq21) (ze_8 G V g q21 h20) rfl 3 (by decide) 17 rfl rfl rfl rfl rfl (Nat.le_of_ble_eq_true rfl) (by rw [eh23]; exact zn_8_2 G V g hg h20 q21 (-1 : Int32)) dX1_moveToFree_54 (fun H locs hM hS => ?_)
            refine lv_aload_n hx hb dX1_moveToFree_57 rfl (lv_at hl 3 rfl) ?_
            refine lv_iload_n hx hb dX1_moveToFree_58 rfl (lv_at hl 2 rfl) ?_
            refine lv_aload_n hx hb dX1_moveToFree_59 rfl (lv_at hl 1 rfl) ?_
            obtain ⟨r24, h26, hc25, hf⟩ := bnd_some hf
            refine z_callV (As := [.int r2, .ref (gA G 8 g q11)]) (rest := []) (C := RX1) hx hb hml hown hL hK hM hS (kX1_move l G A V g hg (some q11) h23 r2 hc25) (zg_X1_move zw2_201) zv_X1_move ⟨rfl, rfl⟩ ⟨Nat.le_of_ble_eq_true rfl, Nat.le_of_ble_eq_true rfl⟩ (hM.recv hK (dm_0 (g := g) (i := 0) hg rfl) (ze_0 G V g 0 h23) rfl) rfl hl.1 rfl (Nat.le_of_ble_eq_true rfl) dX1_moveToFree_60 ⟨Nat.zero_le _, Nat.zero_le _⟩ (fun H locs hM hS => ?_)
            refine W.eq (g2 := F0 m 63 ls []) rfl ?_
            refine lv_aload_n hx hb dX1_moveToFree_63 rfl (lv_at hl 3 rfl) ?_
            refine lv_aload hx hb dX1_moveToFree_64 (lv_at hl 0 rfl) ?_
            obtain ⟨r27, h29, hc28, hf⟩ := bnd_some hf
            refine z_callV (As := [.ref (gA G 8 g q21)]) (rest := []) (C := RX1) hx hb hml hown hL hK hM hS (kX1_offer l G A V g hg q21 hq21 h26 hc28) (zg_X1_offer zw2_77) zv_X1_offer ⟨rfl, rfl⟩ ⟨Nat.le_of_ble_eq_true rfl, Nat.le_of_ble_eq_true rfl⟩ (hM.recv hK (dm_0 (g := g) (i := 0) hg rfl) (ze_0 G V g 0 h26) rfl) rfl hl.1 rfl (Nat.le_of_ble_eq_true rfl) dX1_moveToFree_66 ⟨Nat.zero_le _, Nat.zero_le _⟩ (fun H locs hM hS => ?_)
            refine W.eq (g2 := F0 m 69 ls []) rfl ?_
            refine lv_iconst (v := 1) hx hb dX1_moveToFree_69 (by decide) ?_
            exact hQf hf hM hS dX1_moveToFree_70
  unfold xX1_moveToFree at hf
  refine lv_iconst (v := 0) hx hb dX1_moveToFree_0 (by decide) ?_
  refine lv_istore_n (lv' := [(1, .int (0 : Int32)), (0, .ref (gA G 0 g 0))]) hx hb dX1_moveToFree_1 rfl hl (by decide) rfl (fun ls hl => ?_)
  exact L2 1000 h (0 : Int32) hf _ _ _ hM hS (lv_sub hl [1, 0] rfl)
abbrev rX1_swapAll : Room := { frames := 3, cells := 0, slots := 0, locals := 70 }
set_option maxRecDepth 100000 in
set_option maxHeartbeats 4000000 in
theorem kX1_swapAll (l : Launch) (G : zG) (A : Nat → Prop) (V : zV3) (g : Nat) (hg : g < 7) (h : zV2) {r : Int32} {h' : zV2} (hf : xX1_swapAll h  = some (r, h')) : zCt l G A yX1_swapAll cX1_swapAll 4 (some .int) rX1_swapAll [.ref (gA G 0 g 0)] (upG V g h) (some (.int r)) (upG V g h') := by
  refine z_CtI (by decide) (Nat.le_of_ble_eq_true rfl) ?_
  intro p e s m args below meth c Q hx hb hml hown hL hK hM hS hQ ls hl
  replace hl : lv_has ls 4 [(0, .ref (gA G 0 g 0))] := hl
  have hQf : ∀ {a : Int32} {k : zV2} {H : Heap} {locs : List Loc} {pc : Nat} {ls : Array Slot}, some (a, k) = some (r, h') → zM G (upG V g k) H → va_S A s.heap H locs → decode cX1_swapAll pc = .ok (.ireturn, 1) → W p l e rX1_swapAll s m args below meth c H locs 0 0 Q (F0 m pc ls [.int a]) := by
    intro a k H locs pc ls e1 hM hS hd
    cases e1
    exact hQ H locs pc ls hM hS hd
  have L46 : ∀ (h : zV2) (a1 : Int32), xX1_swapAll_L46 h a1 = some (r, h') → ∀ (H : Heap) (locs : List Loc) (ls : Array Slot), zM G (upG V g h) H → va_S A s.heap H locs → lv_has ls 4 [(0, .ref (gA G 0 g 0)), (1, .int a1)] → W p l e rX1_swapAll s m args below meth c H locs 0 0 Q (F0 m 46 ls []) := by
    intro h a1 hf H locs ls hM hS hl
    unfold xX1_swapAll_L46 at hf
    refine lv_aload_n hx hb dX1_swapAll_46 rfl (lv_at hl 0 rfl) ?_
    refine lv_dup hx hb dX1_swapAll_47 rfl ?_
    refine z_get (own := RX1) (C := RX1) (T := TX1) (N := 10) (ci := 0) (v := .int (h 16 0)) hx hb hL inX1 hown hK hM (dm_0 (g := g) (i := 0) hg rfl) (ze_0 G V g 0 h) rfl 9 (by decide) (hL _ zw1_138) rfl rfl dX1_swapAll_48 ?_
    refine lv_iload_n hx hb dX1_swapAll_51 rfl (lv_at hl 1 rfl) ?_
    refine lv_iadd hx hb dX1_swapAll_52 ?_
    obtain ⟨h1, eh1⟩ : ∃ y, y = up2 h 16 0 ((h 16 0) + a1) := ⟨_, rfl⟩
    replace hf := put2_some hf eh1
    refine z_put (own := RX1) (C := RX1) (T := TX1) (N := 10) (ci := 0) (V' := upG V g h1) hx hb hL inX1 tyX1 tyX1_ok nmX1 hown hK hM hS (dm_0 (g := g) (i := 0) hg rfl) (ze_0 G V g 0 h) rfl 9 (by decide) (hL _ zw1_138) rfl rfl rfl rfl (Nat.le_of_ble_eq_true rfl) (by rw [eh1]; exact zn_0_16 G V g hg h ((h 16 0) + a1)) dX1_swapAll_53 (fun H locs hM hS => ?_)
    refine lv_iload_n hx hb dX1_swapAll_56 rfl (lv_at hl 1 rfl) ?_
    exact hQf hf hM hS dX1_swapAll_57
  have L29 : ∀ (K4 : zV2 → Int32 → Int32 → Option (Int32 × zV2)), (∀ (h : zV2) (a1 : Int32) (a2 : Int32), K4 h a1 a2 = some (r, h') → ∀ (H : Heap) (locs : List Loc) (ls : Array Slot), zM G (upG V g h) H → va_S A s.heap H locs → lv_has ls 4 [(0, .ref (gA G 0 g 0)), (1, .int a1), (2, .int a2)] → W p l e rX1_swapAll s m args below meth c H locs 0 0 Q (F0 m 4 ls [])) → ∀ (h : zV2) (a1 : Int32) (a2 : Int32) (a3 : Int32), xX1_swapAll_L29 K4 h a1 a2 a3 = some (r, h') → ∀ (H : Heap) (locs : List Loc) (ls : Array Slot), zM G (upG V g h) H → va_S A s.heap H locs → lv_has ls 4 [(0, .ref (gA G 0 g 0)), (1, .int a1), (2, .int a2), (3, .int a3)] → W p l e rX1_swapAll s m args below meth c H locs 0 0 Q (F0 m 29 ls []) := by
    intro K4 hK4 h a1 a2 a3 hf H locs ls hM hS hl
    unfold xX1_swapAll_L29 at hf
    refine lv_iload_n hx hb dX1_swapAll_29 rfl (lv_at hl 3 rfl) ?_
    refine lv_if_ne (tgt := 36) hx hb dX1_swapAll_30 (by decide) (fun c1 => ?_) (fun c1 => ?_)
    · replace hf := iff_ hf c1
      refine lv_iload_n hx hb dX1_swapAll_36 rfl (lv_at hl 1 rfl) ?_
      refine lv_iload_n hx hb dX1_swapAll_37 rfl (lv_at hl 3 rfl) ?_
      refine lv_iadd hx hb dX1_swapAll_38 ?_
      refine lv_topi (fun y2 ey2 => ?_)
      replace hf := ltI_some hf ey2
      refine lv_istore_n (lv' := [(1, .int y2), (0, .ref (gA G 0 g 0)), (2, .int a2), (3, .int a3)]) hx hb dX1_swapAll_39 rfl hl (by decide) rfl (fun ls hl => ?_)
      obtain ⟨y3, ey3⟩ : ∃ y : Int32, y = a2 + (1 : Int32) := ⟨_, rfl⟩
      replace hf := ltI_some hf ey3
      refine lv_iinc (v := y3) (lv' := [(2, .int y3), (1, .int y2), (0, .ref (gA G 0 g 0)), (3, .int a3)]) hx hb dX1_swapAll_40 hl (k := 2) rfl (by rw [ey3]; rfl) (by decide) rfl (fun ls hl => ?_)
      refine lv_goto (tgt := 4) hx hb dX1_swapAll_43 (by decide) ?_
      exact hK4 h y2 y3 hf _ _ _ hM hS (lv_sub hl [2, 1, 0] rfl)
    · replace hf := ift hf c1
      refine lv_goto (tgt := 46) hx hb dX1_swapAll_33 (by decide) ?_
      exact L46 h a1 hf _ _ _ hM hS (lv_sub hl [0, 1] rfl)
  have L4 : ∀ (n : Nat) (h : zV2) (a1 : Int32) (a2 : Int32), xX1_swapAll_L4 n h a1 a2 = some (r, h') → ∀ (H : Heap) (locs : List Loc) (ls : Array Slot), zM G (upG V g h) H → va_S A s.heap H locs → lv_has ls 4 [(0, .ref (gA G 0 g 0)), (1, .int a1), (2, .int a2)] → W p l e rX1_swapAll s m args below meth c H locs 0 0 Q (F0 m 4 ls []) := by
    intro n
    induction n with
    | zero =>
      intro h a1 a2 hf H locs ls hM hS hl
      rw [xX1_swapAll_L4] at hf
      cases hf
    | succ n ih =>
      intro h a1 a2 hf H locs ls hM hS hl
      rw [xX1_swapAll_L4] at hf
      refine lv_iload_n hx hb dX1_swapAll_4 rfl (lv_at hl 2 rfl) ?_
      refine lv_bipush (v := 10) hx hb dX1_swapAll_5 (by decide) ?_
      refine lv_icmp_gt (tgt := 46) hx hb dX1_swapAll_7 (by decide) (fun c1 => ?_) (fun c1 => ?_)
      · replace hf := ift hf c1
        exact L46 h a1 hf _ _ _ hM hS (lv_sub hl [0, 1] rfl)
      · replace hf := iff_ hf c1
        refine lv_aload_n hx hb dX1_swapAll_10 rfl (lv_at hl 0 rfl) ?_
        obtain ⟨r2, h4, hc3, hf⟩ := bnd_some hf
        refine z_callV (As := []) (rest := []) (C := RX1) hx hb hml hown hL hK hM hS (kX1_moveToFree l G A V g hg h hc3) (zg_X1_moveToFree zw2_185) zv_X1_moveToFree ⟨rfl, rfl⟩ ⟨Nat.le_of_ble_eq_true rfl, Nat.le_of_ble_eq_true rfl⟩ (hM.recv hK (dm_0 (g := g) (i := 0) hg rfl) (ze_0 G V g 0 h) rfl) rfl hl.1 rfl (Nat.le_of_ble_eq_true rfl) dX1_swapAll_11 ⟨Nat.zero_le _, Nat.zero_le _⟩ (fun H locs hM hS => ?_)
        refine W.eq (g2 := F0 m 14 ls [.int r2]) rfl ?_
        refine lv_istore_n (lv' := [(3, .int r2), (0, .ref (gA G 0 g 0)), (1, .int a1), (2, .int a2)]) hx hb dX1_swapAll_14 rfl hl (by decide) rfl (fun ls hl => ?_)
        refine lv_iload_n hx hb dX1_swapAll_15 rfl (lv_at hl 0 rfl) ?_
        refine lv_if_ne (tgt := 29) hx hb dX1_swapAll_16 (by decide) (fun c5 => ?_) (fun c5 => ?_)
        · replace hf := iff_ hf c5
          exact L29 _ ih h4 a1 a2 r2 hf _ _ _ hM hS (lv_sub hl [1, 2, 3, 0] rfl)
        · replace hf := ift hf c5
          refine lv_aload_n hx hb dX1_swapAll_19 rfl (lv_at hl 1 rfl) ?_
          obtain ⟨r6, h8, hc7, hf⟩ := bnd_some hf
          refine z_callV (As := []) (rest := []) (C := RX1) hx hb hml hown hL hK hM hS (kX1_findRing l G A V g hg h4 hc7) (zg_X1_findRing zw2_205) zv_X1_findRing ⟨rfl, rfl⟩ ⟨Nat.le_of_ble_eq_true rfl, Nat.le_of_ble_eq_true rfl⟩ (hM.recv hK (dm_0 (g := g) (i := 0) hg rfl) (ze_0 G V g 0 h4) rfl) rfl hl.1 rfl (Nat.le_of_ble_eq_true rfl) dX1_swapAll_20 ⟨Nat.zero_le _, Nat.zero_le _⟩ (fun H locs hM hS => ?_)
          refine W.eq (g2 := F0 m 23 ls [.int r6]) rfl ?_
          refine lv_istore_n (lv' := [(3, .int r6), (0, .ref (gA G 0 g 0)), (1, .int a1), (2, .int a2)]) hx hb dX1_swapAll_23 rfl hl (by decide) rfl (fun ls hl => ?_)
          refine lv_aload_n hx hb dX1_swapAll_24 rfl (lv_at hl 1 rfl) ?_
          refine lv_iload_n hx hb dX1_swapAll_25 rfl (lv_at hl 0 rfl) ?_
          obtain ⟨r9, h11, hc10, hf⟩ := bnd_some hf
          refine z_callV (As := [.int r6]) (rest := []) (C := RX1) hx hb hml hown hL hK hM hS (kX1_moveAround l G A V g hg h8 r6 hc10) (zg_X1_moveAround zw2_213) zv_X1_moveAround ⟨rfl, rfl⟩ ⟨Nat.le_of_ble_eq_true rfl, Nat.le_of_ble_eq_true rfl⟩ (hM.recv hK (dm_0 (g := g) (i := 0) hg rfl) (ze_0 G V g 0 h8) rfl) rfl hl.1 rfl (Nat.le_of_ble_eq_true rfl) dX1_swapAll_26 ⟨Nat.zero_le _, Nat.zero_le _⟩ (fun H locs hM hS => ?_)
          refine W.eq (g2 := F0 m 29 ls []) rfl ?_
          exact L29 _ ih h11 a1 a2 r6 hf _ _ _ hM hS (lv_sub hl [1, 2, 3, 0] rfl)
  unfold xX1_swapAll at hf
  refine lv_iconst (v := 0) hx hb dX1_swapAll_0 (by decide) ?_
  refine lv_istore_n (lv' := [(1, .int (0 : Int32)), (0, .ref (gA G 0 g 0))]) hx hb dX1_swapAll_1 rfl hl (by decide) rfl (fun ls hl => ?_)
  refine lv_iconst (v := 0) hx hb dX1_swapAll_2 (by decide) ?_
  refine lv_istore_n (lv' := [(2, .int (0 : Int32)), (1, .int (0 : Int32)), (0, .ref (gA G 0 g 0))]) hx hb dX1_swapAll_3 rfl hl (by decide) rfl (fun ls hl => ?_)
  exact L4 1000 h (0 : Int32) (0 : Int32) hf _ _ _ hM hS (lv_sub hl [2, 1, 0] rfl)
abbrev rX1_payCoins : Room := { frames := 1, cells := 0, slots := 0, locals := 21 }
set_option maxRecDepth 100000 in
set_option maxHeartbeats 4000000 in
theorem kX1_payCoins (l : Launch) (G : zG) (A : Nat → Prop) (V : zV3) (g : Nat) (hg : g < 7) (h : zV2) (p1 : Int32) (p2 : Int32) {r : Int32} {h' : zV2} (hf : xX1_payCoins h p1 p2 = some (r, h')) : zCt l G A yX1_payCoins cX1_payCoins 4 (some .int) rX1_payCoins [.ref (gA G 0 g 0), .int p1, .int p2] (upG V g h) (some (.int r)) (upG V g h') := by
  refine z_CtI (by decide) (Nat.le_of_ble_eq_true rfl) ?_
  intro p e s m args below meth c Q hx hb hml hown hL hK hM hS hQ ls hl
  replace hl : lv_has ls 4 [(0, .ref (gA G 0 g 0)), (1, .int p1), (2, .int p2)] := hl
  have hQf : ∀ {a : Int32} {k : zV2} {H : Heap} {locs : List Loc} {pc : Nat} {ls : Array Slot}, some (a, k) = some (r, h') → zM G (upG V g k) H → va_S A s.heap H locs → decode cX1_payCoins pc = .ok (.ireturn, 1) → W p l e rX1_payCoins s m args below meth c H locs 0 0 Q (F0 m pc ls [.int a]) := by
    intro a k H locs pc ls e1 hM hS hd
    cases e1
    exact hQ H locs pc ls hM hS hd
  unfold xX1_payCoins at hf
  refine lv_aload_n hx hb dX1_payCoins_0 rfl (lv_at hl 0 rfl) ?_
  refine lv_iload_n hx hb dX1_payCoins_1 rfl (lv_at hl 1 rfl) ?_
  obtain ⟨r1, h3, hc2, hf⟩ := bnd_some hf
  refine z_callV (As := [.int p1]) (rest := []) (C := RX1) hx hb hml hown hL hK hM hS (kX1_personAt l G A V g hg h p1 hc2) (zg_X1_personAt zw2_85) zv_X1_personAt ⟨rfl, rfl⟩ ⟨Nat.le_of_ble_eq_true rfl, Nat.le_of_ble_eq_true rfl⟩ (hM.recv hK (dm_0 (g := g) (i := 0) hg rfl) (ze_0 G V g 0 h) rfl) rfl hl.1 rfl (Nat.le_of_ble_eq_true rfl) dX1_payCoins_2 ⟨Nat.zero_le _, Nat.zero_le _⟩ (fun H locs hM hS => ?_)
  cases r1 with
  | none =>
    replace hf := optm_none hf
    refine W.eq (g2 := F0 m 5 ls [.null]) rfl ?_
    refine lv_astore_nN (lv' := [(3, .null), (0, .ref (gA G 0 g 0)), (1, .int p1), (2, .int p2)]) hx hb dX1_payCoins_5 rfl hl (by decide) rfl (fun ls hl => ?_)
    refine lv_aload_nN hx hb dX1_payCoins_6 rfl (lv_at hl 0 rfl) ?_
    refine lv_ifnullN (tgt := 22) hx hb dX1_payCoins_7 (by decide) ?_
    refine lv_iconst (v := -1) hx hb dX1_payCoins_22 (by decide) ?_
    exact hQf hf hM hS dX1_payCoins_23
  | some q4 =>
    replace hf := optm_s hf
    obtain ⟨hq4, hf⟩ := grd_some hf
    replace hq4 := of_decide_eq_true hq4
    refine W.eq (g2 := F0 m 5 ls [.ref (gA G 9 g q4)]) rfl ?_
    refine lv_astore_n (lv' := [(3, .ref (gA G 9 g q4)), (0, .ref (gA G 0 g 0)), (1, .int p1), (2, .int p2)]) hx hb dX1_payCoins_5 rfl hl (by decide) rfl (fun ls hl => ?_)
    refine lv_aload_n hx hb dX1_payCoins_6 rfl (lv_at hl 0 rfl) ?_
    refine lv_ifnull hx hb dX1_payCoins_7 ?_
    refine lv_iload_n hx hb dX1_payCoins_10 rfl (lv_at hl 3 rfl) ?_
    refine lv_iconst (v := 1) hx hb dX1_payCoins_11 (by decide) ?_
    refine lv_icmp_lt (tgt := 22) hx hb dX1_payCoins_12 (by decide) (fun c5 => ?_) (fun c5 => ?_)
    · replace hf := ift hf c5
      refine lv_iconst (v := -1) hx hb dX1_payCoins_22 (by decide) ?_
      exact hQf hf hM hS dX1_payCoins_23
    · replace hf := iff_ hf c5
      refine lv_iload_n hx hb dX1_payCoins_15 rfl (lv_at hl 3 rfl) ?_
      refine lv_sipush (v := 999) hx hb dX1_payCoins_16 (by decide) ?_
      refine lv_icmp_le (tgt := 24) hx hb dX1_payCoins_19 (by decide) (fun c6 => ?_) (fun c6 => ?_)
      · replace hf := ift hf c6
        refine lv_aload_n hx hb dX1_payCoins_24 rfl (lv_at hl 0 rfl) ?_
        refine z_getN (own := RX1) (C := RX5) (T := TX5) (N := 8) (ci := 4) (v := .int (h3 9 q4)) hx hb hL inX5 hown hK hM (dm_9 (g := g) (i := q4) hg hq4) (ze_9 G V g q4 h3) rfl 4 (by decide) 24 rfl rfl rfl dX1_payCoins_25 ?_
        refine lv_iload_n hx hb dX1_payCoins_28 rfl (lv_at hl 3 rfl) ?_
        refine lv_icmp_ge (tgt := 35) hx hb dX1_payCoins_29 (by decide) (fun c7 => ?_) (fun c7 => ?_)
        · replace hf := ift hf c7
          refine lv_aload_n hx hb dX1_payCoins_35 rfl (lv_at hl 0 rfl) ?_
          refine lv_dup hx hb dX1_payCoins_36 rfl ?_
          refine z_getN (own := RX1) (C := RX5) (T := TX5) (N := 8) (ci := 4) (v := .int (h3 9 q4)) hx hb hL inX5 hown hK hM (dm_9 (g := g) (i := q4) hg hq4) (ze_9 G V g q4 h3) rfl 4 (by decide) 24 rfl rfl rfl dX1_payCoins_37 ?_
          refine lv_iload_n hx hb dX1_payCoins_40 rfl (lv_at hl 3 rfl) ?_
          refine lv_isub hx hb dX1_payCoins_41 ?_
          obtain ⟨h8, eh8⟩ : ∃ y, y = up2 h3 9 q4 ((h3 9 q4) - p2) := ⟨_, rfl⟩
          replace hf := put2_some hf eh8
          refine z_putN (own := RX1) (C := RX5) (T := TX5) (N := 8) (ci := 4) (V' := upG V g h8) hx hb hL inX5 tyX5 tyX5_ok nmX5 hown hK hM hS (dm_9 (g := g) (i := q4) hg hq4) (ze_9 G V g q4 h3) rfl 4 (by decide) 24 rfl rfl rfl rfl rfl (Nat.le_of_ble_eq_true rfl) (by rw [eh8]; exact zn_9_9 G V g hg h3 q4 ((h3 9 q4) - p2)) dX1_payCoins_42 (fun H locs hM hS => ?_)
          refine lv_aload_n hx hb dX1_payCoins_45 rfl (lv_at hl 0 rfl) ?_
          refine lv_dup hx hb dX1_payCoins_46 rfl ?_
          refine z_getN (own := RX1) (C := RX5) (T := TX5) (N := 8) (ci := 4) (v := .int (h8 10 q4)) hx hb hL inX5 hown hK hM (dm_9 (g := g) (i := q4) hg hq4) (ze_9 G V g q4 h8) rfl 5 (by decide) 18 rfl rfl rfl dX1_payCoins_47 ?_
          refine lv_iload_n hx hb dX1_payCoins_50 rfl (lv_at hl 3 rfl) ?_
          refine lv_iadd hx hb dX1_payCoins_51 ?_
          obtain ⟨h9, eh9⟩ : ∃ y, y = up2 h8 10 q4 ((h8 10 q4) + p2) := ⟨_, rfl⟩
          replace hf := put2_some hf eh9
          refine z_putN (own := RX1) (C := RX5) (T := TX5) (N := 8) (ci := 4) (V' := upG V g h9) hx hb hL inX5 tyX5 tyX5_ok nmX5 hown hK hM hS (dm_9 (g := g) (i := q4) hg hq4) (ze_9 G V g q4 h8) rfl 5 (by decide) 18 rfl rfl rfl rfl rfl (Nat.le_of_ble_eq_true rfl) (by rw [eh9]; exact zn_9_10 G V g hg h8 q4 ((h8 10 q4) + p2)) dX1_payCoins_52 (fun H locs hM hS => ?_)
          refine lv_aload_n hx hb dX1_payCoins_55 rfl (lv_at hl 0 rfl) ?_
          refine z_getN (own := RX1) (C := RX5) (T := TX5) (N := 8) (ci := 4) (v := .int (h9 9 q4)) hx hb hL inX5 hown hK hM (dm_9 (g := g) (i := q4) hg hq4) (ze_9 G V g q4 h9) rfl 4 (by decide) 24 rfl rfl rfl dX1_payCoins_56 ?_
          exact hQf hf hM hS dX1_payCoins_59
        · replace hf := iff_ hf c7
          refine lv_bipush (v := -2) hx hb dX1_payCoins_32 (by decide) ?_
          exact hQf hf hM hS dX1_payCoins_34
      · replace hf := iff_ hf c6
        refine lv_iconst (v := -1) hx hb dX1_payCoins_22 (by decide) ?_
        exact hQf hf hM hS dX1_payCoins_23
abbrev rX1_feeOfDay : Room := { frames := 0, cells := 0, slots := 0, locals := 0 }
set_option maxRecDepth 100000 in
set_option maxHeartbeats 4000000 in
theorem kX1_feeOfDay (l : Launch) (G : zG) (A : Nat → Prop) (V : zV3) (g : Nat) (hg : g < 7) (h : zV2) (p1 : Int32) {r : Int32} {h' : zV2} (hf : xX1_feeOfDay h p1 = some (r, h')) : zCt l G A yX1_feeOfDay cX1_feeOfDay 1 (some .int) rX1_feeOfDay [.int p1] (upG V g h) (some (.int r)) (upG V g h') := by
  refine z_CtI (by decide) (Nat.le_of_ble_eq_true rfl) ?_
  intro p e s m args below meth c Q hx hb hml hown hL hK hM hS hQ ls hl
  replace hl : lv_has ls 1 [(0, .int p1)] := hl
  have hQf : ∀ {a : Int32} {k : zV2} {H : Heap} {locs : List Loc} {pc : Nat} {ls : Array Slot}, some (a, k) = some (r, h') → zM G (upG V g k) H → va_S A s.heap H locs → decode cX1_feeOfDay pc = .ok (.ireturn, 1) → W p l e rX1_feeOfDay s m args below meth c H locs 0 0 Q (F0 m pc ls [.int a]) := by
    intro a k H locs pc ls e1 hM hS hd
    cases e1
    exact hQ H locs pc ls hM hS hd
  unfold xX1_feeOfDay at hf
  refine lv_iload_n hx hb dX1_feeOfDay_0 rfl (lv_at hl 0 rfl) ?_
  refine lv_bipush (v := 7) hx hb dX1_feeOfDay_1 (by decide) ?_
  refine lv_icmp_gt (tgt := 8) hx hb dX1_feeOfDay_3 (by decide) (fun c1 => ?_) (fun c1 => ?_)
  · replace hf := ift hf c1
    refine lv_iload_n hx hb dX1_feeOfDay_8 rfl (lv_at hl 0 rfl) ?_
    refine lv_bipush (v := 14) hx hb dX1_feeOfDay_9 (by decide) ?_
    refine lv_icmp_gt (tgt := 18) hx hb dX1_feeOfDay_11 (by decide) (fun c2 => ?_) (fun c2 => ?_)
    · replace hf := ift hf c2
      refine lv_iconst (v := 4) hx hb dX1_feeOfDay_18 (by decide) ?_
      exact hQf hf hM hS dX1_feeOfDay_19
    · replace hf := iff_ hf c2
      refine lv_iconst (v := 2) hx hb dX1_feeOfDay_14 (by decide) ?_
      refine lv_goto (tgt := 19) hx hb dX1_feeOfDay_15 (by decide) ?_
      exact hQf hf hM hS dX1_feeOfDay_19
  · replace hf := iff_ hf c1
    refine lv_iconst (v := 1) hx hb dX1_feeOfDay_6 (by decide) ?_
    exact hQf hf hM hS dX1_feeOfDay_7
abbrev rX1_chargeOverdue : Room := { frames := 2, cells := 0, slots := 0, locals := 45 }
set_option maxRecDepth 100000 in
set_option maxHeartbeats 4000000 in
theorem kX1_chargeOverdue (l : Launch) (G : zG) (A : Nat → Prop) (V : zV3) (g : Nat) (hg : g < 7) (h : zV2) {r : Int32} {h' : zV2} (hf : xX1_chargeOverdue h  = some (r, h')) : zCt l G A yX1_chargeOverdue cX1_chargeOverdue 6 (some .int) rX1_chargeOverdue [.ref (gA G 0 g 0)] (upG V g h) (some (.int r)) (upG V g h') := by
  refine z_CtI (by decide) (Nat.le_of_ble_eq_true rfl) ?_
  intro p e s m args below meth c Q hx hb hml hown hL hK hM hS hQ ls hl
  replace hl : lv_has ls 6 [(0, .ref (gA G 0 g 0))] := hl
  have hQf : ∀ {a : Int32} {k : zV2} {H : Heap} {locs : List Loc} {pc : Nat} {ls : Array Slot}, some (a, k) = some (r, h') → zM G (upG V g k) H → va_S A s.heap H locs → decode cX1_chargeOverdue pc = .ok (.ireturn, 1) → W p l e rX1_chargeOverdue s m args below meth c H locs 0 0 Q (F0 m pc ls [.int a]) := by
    intro a k H locs pc ls e1 hM hS hd
    cases e1
    exact hQ H locs pc ls hM hS hd
  have L44 : ∀ (K4 : zV2 → Int32 → Int32 → Option (Int32 × zV2)), (∀ (h : zV2) (a1 : Int32) (a2 : Int32), K4 h a1 a2 = some (r, h') → ∀ (H : Heap) (locs : List Loc) (ls : Array Slot), zM G (upG V g h) H → va_S A s.heap H locs → lv_has ls 6 [(0, .ref (gA G 0 g 0)), (1, .int a1), (2, .int a2)] → W p l e rX1_chargeOverdue s m args below meth c H locs 0 0 Q (F0 m 4 ls [])) → ∀ (h : zV2) (a1 : Int32) (a2 : Int32) (n3 : Nat) (a4 : Int32) (os0 : Option Nat), n3 < 10 → xX1_chargeOverdue_L44 K4 h a1 a2 n3 a4 os0 = some (r, h') → ∀ (H : Heap) (locs : List Loc) (ls : Array Slot), zM G (upG V g h) H → va_S A s.heap H locs → lv_has ls 6 [(0, .ref (gA G 0 g 0)), (1, .int a1), (2, .int a2), (3, .ref (gA G 9 g n3)), (4, .int a4)] → W p l e rX1_chargeOverdue s m args below meth c H locs 0 0 Q (F0 m 44 ls [va_rf (os0.map (gA G 8 g))]) := by
    intro K4 hK4 h a1 a2 n3 a4 os0 hn3 hf H locs ls hM hS hl
    unfold xX1_chargeOverdue_L44 at hf
    cases os0 with
    | none =>
      replace hf := optm_none hf
      replace hl : lv_has ls 6 [(0, .ref (gA G 0 g 0)), (1, .int a1), (2, .int a2), (3, .ref (gA G 9 g n3)), (4, .int a4)] := hl
      refine W.eq (g2 := F0 m 44 ls [.null]) rfl ?_
      refine lv_astoreN (lv' := [(5, .null), (0, .ref (gA G 0 g 0)), (1, .int a1), (2, .int a2), (3, .ref (gA G 9 g n3)), (4, .int a4)]) hx hb dX1_chargeOverdue_44 hl (by decide) rfl (fun ls hl => ?_)
      refine lv_aloadN hx hb dX1_chargeOverdue_46 (lv_at hl 0 rfl) ?_
      refine lv_ifnullN (tgt := 121) hx hb dX1_chargeOverdue_48 (by decide) ?_
      obtain ⟨y2, ey2⟩ : ∃ y : Int32, y = a2 + (1 : Int32) := ⟨_, rfl⟩
      replace hf := ltI_some hf ey2
      refine lv_iinc (v := y2) (lv' := [(2, .int y2), (5, .null), (0, .ref (gA G 0 g 0)), (1, .int a1), (3, .ref (gA G 9 g n3)), (4, .int a4)]) hx hb dX1_chargeOverdue_121 hl (k := 3) rfl (by rw [ey2]; rfl) (by decide) rfl (fun ls hl => ?_)
      refine lv_goto (tgt := 4) hx hb dX1_chargeOverdue_124 (by decide) ?_
      exact hK4 h a1 y2 hf _ _ _ hM hS (lv_sub hl [2, 3, 0] rfl)
    | some q1 =>
      replace hf := optm_s hf
      obtain ⟨hq1, hf⟩ := grd_some hf
      replace hq1 := of_decide_eq_true hq1
      replace hl : lv_has ls 6 [(0, .ref (gA G 0 g 0)), (1, .int a1), (2, .int a2), (3, .ref (gA G 9 g n3)), (4, .int a4)] := hl
      refine W.eq (g2 := F0 m 44 ls [.ref (gA G 8 g q1)]) rfl ?_
      refine lv_astore (lv' := [(5, .ref (gA G 8 g q1)), (0, .ref (gA G 0 g 0)), (1, .int a1), (2, .int a2), (3, .ref (gA G 9 g n3)), (4, .int a4)]) hx hb dX1_chargeOverdue_44 hl (by decide) rfl (fun ls hl => ?_)
      refine lv_aload hx hb dX1_chargeOverdue_46 (lv_at hl 0 rfl) ?_
      refine lv_ifnull hx hb dX1_chargeOverdue_48 ?_
      refine lv_aload_n hx hb dX1_chargeOverdue_51 rfl (lv_at hl 4 rfl) ?_
      refine lv_dup hx hb dX1_chargeOverdue_52 rfl ?_
      refine z_getN (own := RX1) (C := RX5) (T := TX5) (N := 8) (ci := 4) (v := .int (h 9 n3)) hx hb hL inX5 hown hK hM (dm_9 (g := g) (i := n3) hg hn3) (ze_9 G V g n3 h) rfl 4 (by decide) 24 rfl rfl rfl dX1_chargeOverdue_53 ?_
      refine lv_iload hx hb dX1_chargeOverdue_56 (lv_at hl 5 rfl) ?_
      obtain ⟨r3, h5, hc4, hf⟩ := bnd_some hf
      refine z_callS (As := [.int a4]) (rest := [.int (h 9 n3), .ref (gA G 9 g n3)]) hx hb hml hown hL hK hM hS (kX1_feeOfDay l G A V g hg h a4 hc4) (zg_X1_feeOfDay zw3_1) zy_X1_feeOfDay ⟨rfl, rfl⟩ ⟨Nat.le_of_ble_eq_true rfl, Nat.le_of_ble_eq_true rfl⟩ rfl hl.1 rfl (Nat.le_of_ble_eq_true rfl) dX1_chargeOverdue_58 ⟨Nat.zero_le _, Nat.zero_le _⟩ (fun H locs hM hS => ?_)
      refine W.eq (g2 := F0 m 61 ls [.int r3, .int (h 9 n3), .ref (gA G 9 g n3)]) rfl ?_
      refine lv_aload hx hb dX1_chargeOverdue_61 (lv_at hl 0 rfl) ?_
      refine z_getN (own := RX1) (C := RX4) (T := TX4) (N := 7) (ci := 3) (v := .int (h5 0 q1)) hx hb hL inX4 hown hK hM (dm_8 (g := g) (i := q1) hg hq1) (ze_8 G V g q1 h5) rfl 1 (by decide) 22 rfl rfl rfl dX1_chargeOverdue_63 ?_
      refine lv_iconst (v := 1) hx hb dX1_chargeOverdue_66 (by decide) ?_
      refine lv_iadd hx hb dX1_chargeOverdue_67 ?_
      refine lv_imul hx hb dX1_chargeOverdue_68 ?_
      refine lv_iadd hx hb dX1_chargeOverdue_69 ?_
      obtain ⟨h6, eh6⟩ : ∃ y, y = up2 h5 9 n3 ((h 9 n3) + (r3 * ((h5 0 q1) + (1 : Int32)))) := ⟨_, rfl⟩
      replace hf := put2_some hf eh6
      refine z_putN (own := RX1) (C := RX5) (T := TX5) (N := 8) (ci := 4) (V' := upG V g h6) hx hb hL inX5 tyX5 tyX5_ok nmX5 hown hK hM hS (dm_9 (g := g) (i := n3) hg hn3) (ze_9 G V g n3 h5) rfl 4 (by decide) 24 rfl rfl rfl rfl rfl (Nat.le_of_ble_eq_true rfl) (by rw [eh6]; exact zn_9_9 G V g hg h5 n3 ((h 9 n3) + (r3 * ((h5 0 q1) + (1 : Int32))))) dX1_chargeOverdue_70 (fun H locs hM hS => ?_)
      refine lv_iload hx hb dX1_chargeOverdue_73 (lv_at hl 5 rfl) ?_
      refine lv_bipush (v := 21) hx hb dX1_chargeOverdue_75 (by decide) ?_
      refine lv_icmp_lt (tgt := 121) hx hb dX1_chargeOverdue_77 (by decide) (fun c7 => ?_) (fun c7 => ?_)
      · replace hf := ift hf c7
        obtain ⟨y8, ey8⟩ : ∃ y : Int32, y = a2 + (1 : Int32) := ⟨_, rfl⟩
        replace hf := ltI_some hf ey8
        refine lv_iinc (v := y8) (lv' := [(2, .int y8), (5, .ref (gA G 8 g q1)), (0, .ref (gA G 0 g 0)), (1, .int a1), (3, .ref (gA G 9 g n3)), (4, .int a4)]) hx hb dX1_chargeOverdue_121 hl (k := 3) rfl (by rw [ey8]; rfl) (by decide) rfl (fun ls hl => ?_)
        refine lv_goto (tgt := 4) hx hb dX1_chargeOverdue_124 (by decide) ?_
        exact hK4 h6 a1 y8 hf _ _ _ hM hS (lv_sub hl [2, 3, 0] rfl)
      · replace hf := iff_ hf c7
        refine lv_aload_n hx hb dX1_chargeOverdue_80 rfl (lv_at hl 4 rfl) ?_
        refine lv_dup hx hb dX1_chargeOverdue_81 rfl ?_
        refine z_getN (own := RX1) (C := RX5) (T := TX5) (N := 8) (ci := 4) (v := .int (h6 9 n3)) hx hb hL inX5 hown hK hM (dm_9 (g := g) (i := n3) hg hn3) (ze_9 G V g n3 h6) rfl 4 (by decide) 24 rfl rfl rfl dX1_chargeOverdue_82 ?_
        refine lv_aload_n hx hb dX1_chargeOverdue_85 rfl (lv_at hl 1 rfl) ?_
        refine z_get (own := RX1) (C := RX1) (T := TX1) (N := 10) (ci := 0) (v := .ref (gA G 4 g 0)) hx hb hL inX1 hown hK hM (dm_0 (g := g) (i := 0) hg rfl) (ze_0 G V g 0 h6) rfl 4 (by decide) (hL _ zw1_133) rfl rfl dX1_chargeOverdue_86 ?_
        refine lv_iconst (v := 2) hx hb dX1_chargeOverdue_89 (by decide) ?_
        obtain ⟨hb9, hf⟩ := grd_some hf
        refine z_iald hx hb hK hM (dm_4 (g := g) (i := 0) hg rfl) (ze_4 G V g 0 h6) (inb_in hb9) dX1_chargeOverdue_90 ?_
        refine lv_iadd hx hb dX1_chargeOverdue_91 ?_
        obtain ⟨h10, eh10⟩ : ∃ y, y = up2 h6 9 n3 ((h6 9 n3) + (h6 17 ((2 : Int32).toNatClampNeg))) := ⟨_, rfl⟩
        replace hf := put2_some hf eh10
        refine z_putN (own := RX1) (C := RX5) (T := TX5) (N := 8) (ci := 4) (V' := upG V g h10) hx hb hL inX5 tyX5 tyX5_ok nmX5 hown hK hM hS (dm_9 (g := g) (i := n3) hg hn3) (ze_9 G V g n3 h6) rfl 4 (by decide) 24 rfl rfl rfl rfl rfl (Nat.le_of_ble_eq_true rfl) (by rw [eh10]; exact zn_9_9 G V g hg h6 n3 ((h6 9 n3) + (h6 17 ((2 : Int32).toNatClampNeg)))) dX1_chargeOverdue_92 (fun H locs hM hS => ?_)
        refine lv_aload_n hx hb dX1_chargeOverdue_95 rfl (lv_at hl 4 rfl) ?_
        refine lv_dup hx hb dX1_chargeOverdue_96 rfl ?_
        refine z_getN (own := RX1) (C := RX5) (T := TX5) (N := 8) (ci := 4) (v := .int (h10 12 n3)) hx hb hL inX5 hown hK hM (dm_9 (g := g) (i := n3) hg hn3) (ze_9 G V g n3 h10) rfl 7 (by decide) 19 rfl rfl rfl dX1_chargeOverdue_97 ?_
        refine lv_iconst (v := 1) hx hb dX1_chargeOverdue_100 (by decide) ?_
        refine lv_iadd hx hb dX1_chargeOverdue_101 ?_
        obtain ⟨h11, eh11⟩ : ∃ y, y = up2 h10 12 n3 ((h10 12 n3) + (1 : Int32)) := ⟨_, rfl⟩
        replace hf := put2_some hf eh11
        refine z_putN (own := RX1) (C := RX5) (T := TX5) (N := 8) (ci := 4) (V' := upG V g h11) hx hb hL inX5 tyX5 tyX5_ok nmX5 hown hK hM hS (dm_9 (g := g) (i := n3) hg hn3) (ze_9 G V g n3 h10) rfl 7 (by decide) 19 rfl rfl rfl rfl rfl (Nat.le_of_ble_eq_true rfl) (by rw [eh11]; exact zn_9_12 G V g hg h10 n3 ((h10 12 n3) + (1 : Int32))) dX1_chargeOverdue_102 (fun H locs hM hS => ?_)
        refine lv_aload_n hx hb dX1_chargeOverdue_105 rfl (lv_at hl 1 rfl) ?_
        refine lv_aload_n hx hb dX1_chargeOverdue_106 rfl (lv_at hl 4 rfl) ?_
        refine lv_aload hx hb dX1_chargeOverdue_107 (lv_at hl 0 rfl) ?_
        obtain ⟨r12, h14, hc13, hf⟩ := bnd_some hf
        refine z_callV (As := [.ref (gA G 9 g n3), .ref (gA G 8 g q1)]) (rest := []) (C := RX1) hx hb hml hown hL hK hM hS (kX1_endLoan l G A V g hg n3 hn3 q1 hq1 h11 hc13) (zg_X1_endLoan zw2_133) zv_X1_endLoan ⟨rfl, rfl⟩ ⟨Nat.le_of_ble_eq_true rfl, Nat.le_of_ble_eq_true rfl⟩ (hM.recv hK (dm_0 (g := g) (i := 0) hg rfl) (ze_0 G V g 0 h11) rfl) rfl hl.1 rfl (Nat.le_of_ble_eq_true rfl) dX1_chargeOverdue_109 ⟨Nat.zero_le _, Nat.zero_le _⟩ (fun H locs hM hS => ?_)
        refine W.eq (g2 := F0 m 112 ls []) rfl ?_
        refine lv_aload_n hx hb dX1_chargeOverdue_112 rfl (lv_at hl 1 rfl) ?_
        refine lv_aload hx hb dX1_chargeOverdue_113 (lv_at hl 0 rfl) ?_
        obtain ⟨r15, h17, hc16, hf⟩ := bnd_some hf
        refine z_callV (As := [.ref (gA G 8 g q1)]) (rest := []) (C := RX1) hx hb hml hown hL hK hM hS (kX1_offer l G A V g hg q1 hq1 h14 hc16) (zg_X1_offer zw2_77) zv_X1_offer ⟨rfl, rfl⟩ ⟨Nat.le_of_ble_eq_true rfl, Nat.le_of_ble_eq_true rfl⟩ (hM.recv hK (dm_0 (g := g) (i := 0) hg rfl) (ze_0 G V g 0 h14) rfl) rfl hl.1 rfl (Nat.le_of_ble_eq_true rfl) dX1_chargeOverdue_115 ⟨Nat.zero_le _, Nat.zero_le _⟩ (fun H locs hM hS => ?_)
        refine W.eq (g2 := F0 m 118 ls []) rfl ?_
        obtain ⟨y18, ey18⟩ : ∃ y : Int32, y = a1 + (1 : Int32) := ⟨_, rfl⟩
        replace hf := ltI_some hf ey18
        refine lv_iinc (v := y18) (lv' := [(1, .int y18), (5, .ref (gA G 8 g q1)), (0, .ref (gA G 0 g 0)), (2, .int a2), (3, .ref (gA G 9 g n3)), (4, .int a4)]) hx hb dX1_chargeOverdue_118 hl (k := 2) rfl (by rw [ey18]; rfl) (by decide) rfl (fun ls hl => ?_)
        obtain ⟨y19, ey19⟩ : ∃ y : Int32, y = a2 + (1 : Int32) := ⟨_, rfl⟩
        replace hf := ltI_some hf ey19
        refine lv_iinc (v := y19) (lv' := [(2, .int y19), (1, .int y18), (5, .ref (gA G 8 g q1)), (0, .ref (gA G 0 g 0)), (3, .ref (gA G 9 g n3)), (4, .int a4)]) hx hb dX1_chargeOverdue_121 hl (k := 3) rfl (by rw [ey19]; rfl) (by decide) rfl (fun ls hl => ?_)
        refine lv_goto (tgt := 4) hx hb dX1_chargeOverdue_124 (by decide) ?_
        exact hK4 h17 y18 y19 hf _ _ _ hM hS (lv_sub hl [3, 1, 0] rfl)
  have L4 : ∀ (n : Nat) (h : zV2) (a1 : Int32) (a2 : Int32), xX1_chargeOverdue_L4 n h a1 a2 = some (r, h') → ∀ (H : Heap) (locs : List Loc) (ls : Array Slot), zM G (upG V g h) H → va_S A s.heap H locs → lv_has ls 6 [(0, .ref (gA G 0 g 0)), (1, .int a1), (2, .int a2)] → W p l e rX1_chargeOverdue s m args below meth c H locs 0 0 Q (F0 m 4 ls []) := by
    intro n
    induction n with
    | zero =>
      intro h a1 a2 hf H locs ls hM hS hl
      rw [xX1_chargeOverdue_L4] at hf
      cases hf
    | succ n ih =>
      intro h a1 a2 hf H locs ls hM hS hl
      rw [xX1_chargeOverdue_L4] at hf
      refine lv_iload_n hx hb dX1_chargeOverdue_4 rfl (lv_at hl 2 rfl) ?_
      refine lv_bipush (v := 10) hx hb dX1_chargeOverdue_5 (by decide) ?_
      refine lv_icmp_ge (tgt := 127) hx hb dX1_chargeOverdue_7 (by decide) (fun c1 => ?_) (fun c1 => ?_)
      · replace hf := ift hf c1
        refine lv_iload_n hx hb dX1_chargeOverdue_127 rfl (lv_at hl 1 rfl) ?_
        exact hQf hf hM hS dX1_chargeOverdue_128
      · replace hf := iff_ hf c1
        refine lv_aload_n hx hb dX1_chargeOverdue_10 rfl (lv_at hl 0 rfl) ?_
        refine z_get (own := RX1) (C := RX1) (T := TX1) (N := 10) (ci := 0) (v := .ref (gA G 2 g 0)) hx hb hL inX1 hown hK hM (dm_0 (g := g) (i := 0) hg rfl) (ze_0 G V g 0 h) rfl 1 (by decide) (hL _ zw1_129) rfl rfl dX1_chargeOverdue_11 ?_
        refine lv_iload_n hx hb dX1_chargeOverdue_14 rfl (lv_at hl 2 rfl) ?_
        obtain ⟨hb2, hf⟩ := grd_some hf
        refine z_aald hx hb hK hM (dm_2 (g := g) (i := 0) hg rfl) 3 (zd_2 G (upG V g h) g 0) rfl (inb_in hb2) dX1_chargeOverdue_15 ?_
        refine lv_astore_n (lv' := [(3, .ref (gA G 9 g a2.toNatClampNeg)), (0, .ref (gA G 0 g 0)), (1, .int a1), (2, .int a2)]) hx hb dX1_chargeOverdue_16 rfl hl (by decide) rfl (fun ls hl => ?_)
        refine lv_aload_n hx hb dX1_chargeOverdue_17 rfl (lv_at hl 0 rfl) ?_
        refine lv_aload_n hx hb dX1_chargeOverdue_18 rfl (lv_at hl 1 rfl) ?_
        refine z_get (own := RX1) (C := RX1) (T := TX1) (N := 10) (ci := 0) (v := .int (h 15 0)) hx hb hL inX1 hown hK hM (dm_0 (g := g) (i := 0) hg rfl) (ze_0 G V g 0 h) rfl 8 (by decide) (hL _ zw1_137) rfl rfl dX1_chargeOverdue_19 ?_
        obtain ⟨r3, h5, hc4, hf⟩ := bnd_some hf
        refine z_callV (As := [.int (h 15 0)]) (rest := []) (C := RX5) hx hb hml hown hL hK hM hS (kX5_overdueOn l G A V g hg a2.toNatClampNeg (inb_lt hb2) h (h 15 0) hc4) (zg_X5_overdueOn zw2_129) zv_X5_overdueOn ⟨rfl, rfl⟩ ⟨Nat.le_of_ble_eq_true rfl, Nat.le_of_ble_eq_true rfl⟩ (hM.recv hK (dm_9 (g := g) (i := a2.toNatClampNeg) hg (inb_lt hb2)) (ze_9 G V g a2.toNatClampNeg h) rfl) rfl hl.1 rfl (Nat.le_of_ble_eq_true rfl) dX1_chargeOverdue_22 ⟨Nat.zero_le _, Nat.zero_le _⟩ (fun H locs hM hS => ?_)
        refine W.eq (g2 := F0 m 25 ls [.int r3]) rfl ?_
        refine lv_istore (lv' := [(4, .int r3), (3, .ref (gA G 9 g a2.toNatClampNeg)), (0, .ref (gA G 0 g 0)), (1, .int a1), (2, .int a2)]) hx hb dX1_chargeOverdue_25 hl (by decide) rfl (fun ls hl => ?_)
        refine lv_iload hx hb dX1_chargeOverdue_27 (lv_at hl 0 rfl) ?_
        refine lv_if_le (tgt := 43) hx hb dX1_chargeOverdue_29 (by decide) (fun c6 => ?_) (fun c6 => ?_)
        · replace hf := ift hf c6
          refine lv_null hx hb dX1_chargeOverdue_43 ?_
          exact L44 _ ih h5 a1 a2 a2.toNatClampNeg r3 none (inb_lt hb2) hf _ _ _ hM hS (lv_sub hl [2, 3, 4, 1, 0] rfl)
        · replace hf := iff_ hf c6
          refine lv_aload_n hx hb dX1_chargeOverdue_32 rfl (lv_at hl 2 rfl) ?_
          refine lv_aload_n hx hb dX1_chargeOverdue_33 rfl (lv_at hl 1 rfl) ?_
          refine z_getN (own := RX1) (C := RX5) (T := TX5) (N := 8) (ci := 4) (v := .int (h5 6 a2.toNatClampNeg)) hx hb hL inX5 hown hK hM (dm_9 (g := g) (i := a2.toNatClampNeg) hg (inb_lt hb2)) (ze_9 G V g a2.toNatClampNeg h5) rfl 1 (by decide) 21 rfl rfl rfl dX1_chargeOverdue_34 ?_
          obtain ⟨r7, h9, hc8, hf⟩ := bnd_some hf
          refine z_callV (As := [.int (h5 6 a2.toNatClampNeg)]) (rest := []) (C := RX1) hx hb hml hown hL hK hM hS (kX1_lockerAt l G A V g hg h5 (h5 6 a2.toNatClampNeg) hc8) (zg_X1_lockerAt zw2_69) zv_X1_lockerAt ⟨rfl, rfl⟩ ⟨Nat.le_of_ble_eq_true rfl, Nat.le_of_ble_eq_true rfl⟩ (hM.recv hK (dm_0 (g := g) (i := 0) hg rfl) (ze_0 G V g 0 h5) rfl) rfl hl.1 rfl (Nat.le_of_ble_eq_true rfl) dX1_chargeOverdue_37 ⟨Nat.zero_le _, Nat.zero_le _⟩ (fun H locs hM hS => ?_)
          cases r7 with
          | none =>
            replace hf := optm_none hf
            refine W.eq (g2 := F0 m 40 ls [.null]) rfl ?_
            refine lv_goto (tgt := 44) hx hb dX1_chargeOverdue_40 (by decide) ?_
            exact L44 _ ih h9 a1 a2 a2.toNatClampNeg r3 none (inb_lt hb2) hf _ _ _ hM hS (lv_sub hl [2, 3, 4, 1, 0] rfl)
          | some q10 =>
            replace hf := optm_s hf
            obtain ⟨hq10, hf⟩ := grd_some hf
            replace hq10 := of_decide_eq_true hq10
            refine W.eq (g2 := F0 m 40 ls [.ref (gA G 8 g q10)]) rfl ?_
            refine lv_goto (tgt := 44) hx hb dX1_chargeOverdue_40 (by decide) ?_
            exact L44 _ ih h9 a1 a2 a2.toNatClampNeg r3 (some q10) (inb_lt hb2) hf _ _ _ hM hS (lv_sub hl [2, 3, 4, 1, 0] rfl)
  unfold xX1_chargeOverdue at hf
  refine lv_iconst (v := 0) hx hb dX1_chargeOverdue_0 (by decide) ?_
  refine lv_istore_n (lv' := [(1, .int (0 : Int32)), (0, .ref (gA G 0 g 0))]) hx hb dX1_chargeOverdue_1 rfl hl (by decide) rfl (fun ls hl => ?_)
  refine lv_iconst (v := 0) hx hb dX1_chargeOverdue_2 (by decide) ?_
  refine lv_istore_n (lv' := [(2, .int (0 : Int32)), (1, .int (0 : Int32)), (0, .ref (gA G 0 g 0))]) hx hb dX1_chargeOverdue_3 rfl hl (by decide) rfl (fun ls hl => ?_)
  exact L4 1000 h (0 : Int32) (0 : Int32) hf _ _ _ hM hS (lv_sub hl [2, 1, 0] rfl)
abbrev rX1_endClosing : Room := { frames := 2, cells := 0, slots := 0, locals := 45 }
set_option maxRecDepth 100000 in
set_option maxHeartbeats 4000000 in
theorem kX1_endClosing (l : Launch) (G : zG) (A : Nat → Prop) (V : zV3) (g : Nat) (hg : g < 7) (h : zV2) {r : Unit} {h' : zV2} (hf : xX1_endClosing h  = some (r, h')) : zCt l G A yX1_endClosing cX1_endClosing 3 none rX1_endClosing [.ref (gA G 0 g 0)] (upG V g h) none (upG V g h') := by
  refine z_CtV (by decide) (Nat.le_of_ble_eq_true rfl) ?_
  intro p e s m args below meth c Q hx hb hml hown hL hK hM hS hQ ls hl
  replace hl : lv_has ls 3 [(0, .ref (gA G 0 g 0))] := hl
  have hQf : ∀ {a : Unit} {k : zV2} {H : Heap} {locs : List Loc} {pc : Nat} {ls : Array Slot}, some (a, k) = some (r, h') → zM G (upG V g k) H → va_S A s.heap H locs → decode cX1_endClosing pc = .ok (.return_, 1) → W p l e rX1_endClosing s m args below meth c H locs 0 0 Q (F0 m pc ls []) := by
    intro a k H locs pc ls e1 hM hS hd
    cases e1
    exact hQ H locs pc ls hM hS hd
  have L2 : ∀ (n : Nat) (h : zV2) (a1 : Int32), xX1_endClosing_L2 n h a1 = some (r, h') → ∀ (H : Heap) (locs : List Loc) (ls : Array Slot), zM G (upG V g h) H → va_S A s.heap H locs → lv_has ls 3 [(0, .ref (gA G 0 g 0)), (1, .int a1)] → W p l e rX1_endClosing s m args below meth c H locs 0 0 Q (F0 m 2 ls []) := by
    intro n
    induction n with
    | zero =>
      intro h a1 hf H locs ls hM hS hl
      rw [xX1_endClosing_L2] at hf
      cases hf
    | succ n ih =>
      intro h a1 hf H locs ls hM hS hl
      rw [xX1_endClosing_L2] at hf
      refine lv_iload_n hx hb dX1_endClosing_2 rfl (lv_at hl 1 rfl) ?_
      refine lv_bipush (v := 12) hx hb dX1_endClosing_3 (by decide) ?_
      refine lv_icmp_ge (tgt := 50) hx hb dX1_endClosing_5 (by decide) (fun c1 => ?_) (fun c1 => ?_)
      · replace hf := ift hf c1
        exact hQf hf hM hS dX1_endClosing_50
      · replace hf := iff_ hf c1
        refine lv_aload_n hx hb dX1_endClosing_8 rfl (lv_at hl 0 rfl) ?_
        refine z_get (own := RX1) (C := RX1) (T := TX1) (N := 10) (ci := 0) (v := .ref (gA G 1 g 0)) hx hb hL inX1 hown hK hM (dm_0 (g := g) (i := 0) hg rfl) (ze_0 G V g 0 h) rfl 0 (by decide) (hL _ zw1_128) rfl rfl dX1_endClosing_9 ?_
        refine lv_iload_n hx hb dX1_endClosing_12 rfl (lv_at hl 1 rfl) ?_
        obtain ⟨hb2, hf⟩ := grd_some hf
        refine z_aald hx hb hK hM (dm_1 (g := g) (i := 0) hg rfl) 2 (zd_1 G (upG V g h) g 0) rfl (inb_in hb2) dX1_endClosing_13 ?_
        refine lv_astore_n (lv' := [(2, .ref (gA G 8 g a1.toNatClampNeg)), (0, .ref (gA G 0 g 0)), (1, .int a1)]) hx hb dX1_endClosing_14 rfl hl (by decide) rfl (fun ls hl => ?_)
        refine lv_aload_n hx hb dX1_endClosing_15 rfl (lv_at hl 0 rfl) ?_
        refine z_getN (own := RX1) (C := RX4) (T := TX4) (N := 7) (ci := 3) (v := .int (h 4 a1.toNatClampNeg)) hx hb hL inX4 hown hK hM (dm_8 (g := g) (i := a1.toNatClampNeg) hg (inb_lt hb2)) (ze_8 G V g a1.toNatClampNeg h) rfl 5 (by decide) 15 rfl rfl rfl dX1_endClosing_16 ?_
        refine lv_iconst (v := -1) hx hb dX1_endClosing_19 (by decide) ?_
        refine lv_icmp_eq (tgt := 44) hx hb dX1_endClosing_20 (by decide) (fun c3 => ?_) (fun c3 => ?_)
        · replace hf := ift hf c3
          obtain ⟨y4, ey4⟩ : ∃ y : Int32, y = a1 + (1 : Int32) := ⟨_, rfl⟩
          replace hf := ltI_some hf ey4
          refine lv_iinc (v := y4) (lv' := [(1, .int y4), (2, .ref (gA G 8 g a1.toNatClampNeg)), (0, .ref (gA G 0 g 0))]) hx hb dX1_endClosing_44 hl (k := 2) rfl (by rw [ey4]; rfl) (by decide) rfl (fun ls hl => ?_)
          refine lv_goto (tgt := 2) hx hb dX1_endClosing_47 (by decide) ?_
          exact ih h y4 hf _ _ _ hM hS (lv_sub hl [2, 0] rfl)
        · replace hf := iff_ hf c3
          refine lv_aload_n hx hb dX1_endClosing_23 rfl (lv_at hl 0 rfl) ?_
          refine z_getN (own := RX1) (C := RX4) (T := TX4) (N := 7) (ci := 3) (v := .int (h 4 a1.toNatClampNeg)) hx hb hL inX4 hown hK hM (dm_8 (g := g) (i := a1.toNatClampNeg) hg (inb_lt hb2)) (ze_8 G V g a1.toNatClampNeg h) rfl 5 (by decide) 15 rfl rfl rfl dX1_endClosing_24 ?_
          refine lv_aload_n hx hb dX1_endClosing_27 rfl (lv_at hl 1 rfl) ?_
          refine z_get (own := RX1) (C := RX1) (T := TX1) (N := 10) (ci := 0) (v := .int (h 15 0)) hx hb hL inX1 hown hK hM (dm_0 (g := g) (i := 0) hg rfl) (ze_0 G V g 0 h) rfl 8 (by decide) (hL _ zw1_137) rfl rfl dX1_endClosing_28 ?_
          refine lv_icmp_gt (tgt := 44) hx hb dX1_endClosing_31 (by decide) (fun c5 => ?_) (fun c5 => ?_)
          · replace hf := ift hf c5
            obtain ⟨y6, ey6⟩ : ∃ y : Int32, y = a1 + (1 : Int32) := ⟨_, rfl⟩
            replace hf := ltI_some hf ey6
            refine lv_iinc (v := y6) (lv' := [(1, .int y6), (2, .ref (gA G 8 g a1.toNatClampNeg)), (0, .ref (gA G 0 g 0))]) hx hb dX1_endClosing_44 hl (k := 2) rfl (by rw [ey6]; rfl) (by decide) rfl (fun ls hl => ?_)
            refine lv_goto (tgt := 2) hx hb dX1_endClosing_47 (by decide) ?_
            exact ih h y6 hf _ _ _ hM hS (lv_sub hl [2, 0] rfl)
          · replace hf := iff_ hf c5
            refine lv_aload_n hx hb dX1_endClosing_34 rfl (lv_at hl 0 rfl) ?_
            refine lv_iconst (v := -1) hx hb dX1_endClosing_35 (by decide) ?_
            obtain ⟨h7, eh7⟩ : ∃ y, y = up2 h 4 a1.toNatClampNeg (-1 : Int32) := ⟨_, rfl⟩
            replace hf := put2_some hf eh7
            refine z_putN (own := RX1) (C := RX4) (T := TX4) (N := 7) (ci := 3) (V' := upG V g h7) hx hb hL inX4 tyX4 tyX4_ok nmX4 hown hK hM hS (dm_8 (g := g) (i := a1.toNatClampNeg) hg (inb_lt hb2)) (ze_8 G V g a1.toNatClampNeg h) rfl 5 (by decide) 15 rfl rfl rfl rfl rfl (Nat.le_of_ble_eq_true rfl) (by rw [eh7]; exact zn_8_4 G V g hg h a1.toNatClampNeg (-1 : Int32)) dX1_endClosing_36 (fun H locs hM hS => ?_)
            refine lv_aload_n hx hb dX1_endClosing_39 rfl (lv_at hl 1 rfl) ?_
            refine lv_aload_n hx hb dX1_endClosing_40 rfl (lv_at hl 0 rfl) ?_
            obtain ⟨r8, h10, hc9, hf⟩ := bnd_some hf
            refine z_callV (As := [.ref (gA G 8 g a1.toNatClampNeg)]) (rest := []) (C := RX1) hx hb hml hown hL hK hM hS (kX1_offer l G A V g hg a1.toNatClampNeg (inb_lt hb2) h7 hc9) (zg_X1_offer zw2_77) zv_X1_offer ⟨rfl, rfl⟩ ⟨Nat.le_of_ble_eq_true rfl, Nat.le_of_ble_eq_true rfl⟩ (hM.recv hK (dm_0 (g := g) (i := 0) hg rfl) (ze_0 G V g 0 h7) rfl) rfl hl.1 rfl (Nat.le_of_ble_eq_true rfl) dX1_endClosing_41 ⟨Nat.zero_le _, Nat.zero_le _⟩ (fun H locs hM hS => ?_)
            refine W.eq (g2 := F0 m 44 ls []) rfl ?_
            obtain ⟨y11, ey11⟩ : ∃ y : Int32, y = a1 + (1 : Int32) := ⟨_, rfl⟩
            replace hf := ltI_some hf ey11
            refine lv_iinc (v := y11) (lv' := [(1, .int y11), (2, .ref (gA G 8 g a1.toNatClampNeg)), (0, .ref (gA G 0 g 0))]) hx hb dX1_endClosing_44 hl (k := 2) rfl (by rw [ey11]; rfl) (by decide) rfl (fun ls hl => ?_)
            refine lv_goto (tgt := 2) hx hb dX1_endClosing_47 (by decide) ?_
            exact ih h10 y11 hf _ _ _ hM hS (lv_sub hl [2, 0] rfl)
  unfold xX1_endClosing at hf
  refine lv_iconst (v := 0) hx hb dX1_endClosing_0 (by decide) ?_
  refine lv_istore_n (lv' := [(1, .int (0 : Int32)), (0, .ref (gA G 0 g 0))]) hx hb dX1_endClosing_1 rfl hl (by decide) rfl (fun ls hl => ?_)
  exact L2 1000 h (0 : Int32) hf _ _ _ hM hS (lv_sub hl [1, 0] rfl)
abbrev rX1_passDays : Room := { frames := 3, cells := 0, slots := 0, locals := 70 }
set_option maxRecDepth 100000 in
set_option maxHeartbeats 4000000 in
theorem kX1_passDays (l : Launch) (G : zG) (A : Nat → Prop) (V : zV3) (g : Nat) (hg : g < 7) (h : zV2) (p1 : Int32) (p2 : Int32) {r : Int32} {h' : zV2} (hf : xX1_passDays h p1 p2 = some (r, h')) : zCt l G A yX1_passDays cX1_passDays 5 (some .int) rX1_passDays [.ref (gA G 0 g 0), .int p1, .int p2] (upG V g h) (some (.int r)) (upG V g h') := by
  refine z_CtI (by decide) (Nat.le_of_ble_eq_true rfl) ?_
  intro p e s m args below meth c Q hx hb hml hown hL hK hM hS hQ ls hl
  replace hl : lv_has ls 5 [(0, .ref (gA G 0 g 0)), (1, .int p1), (2, .int p2)] := hl
  have hQf : ∀ {a : Int32} {k : zV2} {H : Heap} {locs : List Loc} {pc : Nat} {ls : Array Slot}, some (a, k) = some (r, h') → zM G (upG V g k) H → va_S A s.heap H locs → decode cX1_passDays pc = .ok (.ireturn, 1) → W p l e rX1_passDays s m args below meth c H locs 0 0 Q (F0 m pc ls [.int a]) := by
    intro a k H locs pc ls e1 hM hS hd
    cases e1
    exact hQ H locs pc ls hM hS hd
  have L31 : ∀ (n : Nat) (h : zV2) (a3 : Int32) (a4 : Int32), xX1_passDays_L31 p1 p2 n h a3 a4 = some (r, h') → ∀ (H : Heap) (locs : List Loc) (ls : Array Slot), zM G (upG V g h) H → va_S A s.heap H locs → lv_has ls 5 [(0, .ref (gA G 0 g 0)), (1, .int p1), (3, .int a3), (4, .int a4)] → W p l e rX1_passDays s m args below meth c H locs 0 0 Q (F0 m 31 ls []) := by
    intro n
    induction n with
    | zero =>
      intro h a3 a4 hf H locs ls hM hS hl
      rw [xX1_passDays_L31] at hf
      cases hf
    | succ n ih =>
      intro h a3 a4 hf H locs ls hM hS hl
      rw [xX1_passDays_L31] at hf
      refine lv_iload hx hb dX1_passDays_31 (lv_at hl 3 rfl) ?_
      refine lv_iload_n hx hb dX1_passDays_33 rfl (lv_at hl 1 rfl) ?_
      refine lv_icmp_ge (tgt := 64) hx hb dX1_passDays_34 (by decide) (fun c1 => ?_) (fun c1 => ?_)
      · replace hf := ift hf c1
        refine lv_iload_n hx hb dX1_passDays_64 rfl (lv_at hl 2 rfl) ?_
        exact hQf hf hM hS dX1_passDays_65
      · replace hf := iff_ hf c1
        refine lv_aload_n hx hb dX1_passDays_37 rfl (lv_at hl 0 rfl) ?_
        refine lv_dup hx hb dX1_passDays_38 rfl ?_
        refine z_get (own := RX1) (C := RX1) (T := TX1) (N := 10) (ci := 0) (v := .int (h 15 0)) hx hb hL inX1 hown hK hM (dm_0 (g := g) (i := 0) hg rfl) (ze_0 G V g 0 h) rfl 8 (by decide) (hL _ zw1_137) rfl rfl dX1_passDays_39 ?_
        refine lv_iconst (v := 1) hx hb dX1_passDays_42 (by decide) ?_
        refine lv_iadd hx hb dX1_passDays_43 ?_
        obtain ⟨h2, eh2⟩ : ∃ y, y = up2 h 15 0 ((h 15 0) + (1 : Int32)) := ⟨_, rfl⟩
        replace hf := put2_some hf eh2
        refine z_put (own := RX1) (C := RX1) (T := TX1) (N := 10) (ci := 0) (V' := upG V g h2) hx hb hL inX1 tyX1 tyX1_ok nmX1 hown hK hM hS (dm_0 (g := g) (i := 0) hg rfl) (ze_0 G V g 0 h) rfl 8 (by decide) (hL _ zw1_137) rfl rfl rfl rfl (Nat.le_of_ble_eq_true rfl) (by rw [eh2]; exact zn_0_15 G V g hg h ((h 15 0) + (1 : Int32))) dX1_passDays_44 (fun H locs hM hS => ?_)
        refine lv_aload_n hx hb dX1_passDays_47 rfl (lv_at hl 0 rfl) ?_
        obtain ⟨r3, h5, hc4, hf⟩ := bnd_some hf
        refine z_callV (As := []) (rest := []) (C := RX1) hx hb hml hown hL hK hM hS (kX1_endClosing l G A V g hg h2 hc4) (zg_X1_endClosing zw2_233) zv_X1_endClosing ⟨rfl, rfl⟩ ⟨Nat.le_of_ble_eq_true rfl, Nat.le_of_ble_eq_true rfl⟩ (hM.recv hK (dm_0 (g := g) (i := 0) hg rfl) (ze_0 G V g 0 h2) rfl) rfl hl.1 rfl (Nat.le_of_ble_eq_true rfl) dX1_passDays_48 ⟨Nat.zero_le _, Nat.zero_le _⟩ (fun H locs hM hS => ?_)
        refine W.eq (g2 := F0 m 51 ls []) rfl ?_
        refine lv_iload_n hx hb dX1_passDays_51 rfl (lv_at hl 2 rfl) ?_
        refine lv_aload_n hx hb dX1_passDays_52 rfl (lv_at hl 0 rfl) ?_
        obtain ⟨r6, h8, hc7, hf⟩ := bnd_some hf
        refine z_callV (As := []) (rest := [.int a3]) (C := RX1) hx hb hml hown hL hK hM hS (kX1_chargeOverdue l G A V g hg h5 hc7) (zg_X1_chargeOverdue zw2_237) zv_X1_chargeOverdue ⟨rfl, rfl⟩ ⟨Nat.le_of_ble_eq_true rfl, Nat.le_of_ble_eq_true rfl⟩ (hM.recv hK (dm_0 (g := g) (i := 0) hg rfl) (ze_0 G V g 0 h5) rfl) rfl hl.1 rfl (Nat.le_of_ble_eq_true rfl) dX1_passDays_53 ⟨Nat.zero_le _, Nat.zero_le _⟩ (fun H locs hM hS => ?_)
        refine W.eq (g2 := F0 m 56 ls [.int r6, .int a3]) rfl ?_
        refine lv_iadd hx hb dX1_passDays_56 ?_
        refine lv_topi (fun y9 ey9 => ?_)
        replace hf := ltI_some hf ey9
        refine lv_istore_n (lv' := [(3, .int y9), (0, .ref (gA G 0 g 0)), (1, .int p1), (4, .int a4)]) hx hb dX1_passDays_57 rfl hl (by decide) rfl (fun ls hl => ?_)
        obtain ⟨y10, ey10⟩ : ∃ y : Int32, y = a4 + (1 : Int32) := ⟨_, rfl⟩
        replace hf := ltI_some hf ey10
        refine lv_iinc (v := y10) (lv' := [(4, .int y10), (3, .int y9), (0, .ref (gA G 0 g 0)), (1, .int p1)]) hx hb dX1_passDays_58 hl (k := 3) rfl (by rw [ey10]; rfl) (by decide) rfl (fun ls hl => ?_)
        refine lv_goto (tgt := 31) hx hb dX1_passDays_61 (by decide) ?_
        exact ih h8 y9 y10 hf _ _ _ hM hS (lv_sub hl [2, 3, 1, 0] rfl)
  unfold xX1_passDays at hf
  refine lv_iload_n hx hb dX1_passDays_0 rfl (lv_at hl 1 rfl) ?_
  refine lv_iconst (v := 1) hx hb dX1_passDays_1 (by decide) ?_
  refine lv_icmp_lt (tgt := 11) hx hb dX1_passDays_2 (by decide) (fun c1 => ?_) (fun c1 => ?_)
  · replace hf := ift hf c1
    refine lv_iconst (v := -1) hx hb dX1_passDays_11 (by decide) ?_
    exact hQf hf hM hS dX1_passDays_12
  · replace hf := iff_ hf c1
    refine lv_iload_n hx hb dX1_passDays_5 rfl (lv_at hl 1 rfl) ?_
    refine lv_bipush (v := 99) hx hb dX1_passDays_6 (by decide) ?_
    refine lv_icmp_le (tgt := 13) hx hb dX1_passDays_8 (by decide) (fun c2 => ?_) (fun c2 => ?_)
    · replace hf := ift hf c2
      refine lv_aload_n hx hb dX1_passDays_13 rfl (lv_at hl 0 rfl) ?_
      refine z_get (own := RX1) (C := RX1) (T := TX1) (N := 10) (ci := 0) (v := .int (h 15 0)) hx hb hL inX1 hown hK hM (dm_0 (g := g) (i := 0) hg rfl) (ze_0 G V g 0 h) rfl 8 (by decide) (hL _ zw1_137) rfl rfl dX1_passDays_14 ?_
      refine lv_iload_n hx hb dX1_passDays_17 rfl (lv_at hl 1 rfl) ?_
      refine lv_iadd hx hb dX1_passDays_18 ?_
      refine lv_iload_n hx hb dX1_passDays_19 rfl (lv_at hl 2 rfl) ?_
      refine lv_icmp_le (tgt := 26) hx hb dX1_passDays_20 (by decide) (fun c3 => ?_) (fun c3 => ?_)
      · replace hf := ift hf c3
        refine lv_iconst (v := 0) hx hb dX1_passDays_26 (by decide) ?_
        refine lv_istore_n (lv' := [(3, .int (0 : Int32)), (0, .ref (gA G 0 g 0)), (1, .int p1), (2, .int p2)]) hx hb dX1_passDays_27 rfl hl (by decide) rfl (fun ls hl => ?_)
        refine lv_iconst (v := 0) hx hb dX1_passDays_28 (by decide) ?_
        refine lv_istore (lv' := [(4, .int (0 : Int32)), (3, .int (0 : Int32)), (0, .ref (gA G 0 g 0)), (1, .int p1), (2, .int p2)]) hx hb dX1_passDays_29 hl (by decide) rfl (fun ls hl => ?_)
        exact L31 1000 h (0 : Int32) (0 : Int32) hf _ _ _ hM hS (lv_sub hl [2, 3, 1, 0] rfl)
      · replace hf := iff_ hf c3
        refine lv_bipush (v := -3) hx hb dX1_passDays_23 (by decide) ?_
        exact hQf hf hM hS dX1_passDays_25
    · replace hf := iff_ hf c2
      refine lv_iconst (v := -1) hx hb dX1_passDays_11 (by decide) ?_
      exact hQf hf hM hS dX1_passDays_12
abbrev rX1_highestSetting : Room := { frames := 0, cells := 0, slots := 0, locals := 0 }
set_option maxRecDepth 100000 in
set_option maxHeartbeats 4000000 in
theorem kX1_highestSetting (l : Launch) (G : zG) (A : Nat → Prop) (V : zV3) (g : Nat) (hg : g < 7) (h : zV2) (p1 : Int32) {r : Int32} {h' : zV2} (hf : xX1_highestSetting h p1 = some (r, h')) : zCt l G A yX1_highestSetting cX1_highestSetting 1 (some .int) rX1_highestSetting [.int p1] (upG V g h) (some (.int r)) (upG V g h') := by
  refine z_CtI (by decide) (Nat.le_of_ble_eq_true rfl) ?_
  intro p e s m args below meth c Q hx hb hml hown hL hK hM hS hQ ls hl
  replace hl : lv_has ls 1 [(0, .int p1)] := hl
  have hQf : ∀ {a : Int32} {k : zV2} {H : Heap} {locs : List Loc} {pc : Nat} {ls : Array Slot}, some (a, k) = some (r, h') → zM G (upG V g k) H → va_S A s.heap H locs → decode cX1_highestSetting pc = .ok (.ireturn, 1) → W p l e rX1_highestSetting s m args below meth c H locs 0 0 Q (F0 m pc ls [.int a]) := by
    intro a k H locs pc ls e1 hM hS hd
    cases e1
    exact hQ H locs pc ls hM hS hd
  unfold xX1_highestSetting at hf
  refine lv_iload_n hx hb dX1_highestSetting_0 rfl (lv_at hl 0 rfl) ?_
  by_cases c1 : p1 = (0 : Int32)
  · replace hf := ift hf c1
    refine lv_lookup (off := 27) (tgt := 28) hx hb dX1_highestSetting_1 (by decide) (by rw [c1]; rfl) (by decide) ?_
    refine lv_bipush (v := 60) hx hb dX1_highestSetting_28 (by decide) ?_
    exact hQf hf hM hS dX1_highestSetting_30
  · replace hf := iff_ hf c1
    by_cases c2 : p1 = (1 : Int32)
    · replace hf := ift hf c2
      refine lv_lookup (off := 30) (tgt := 31) hx hb dX1_highestSetting_1 (by decide) (by rw [c2]; rfl) (by decide) ?_
      refine lv_iconst (v := 5) hx hb dX1_highestSetting_31 (by decide) ?_
      exact hQf hf hM hS dX1_highestSetting_32
    · replace hf := iff_ hf c2
      refine lv_lookup (off := 32) (tgt := 33) hx hb dX1_highestSetting_1 (by decide) ((lv_osw c1 (by decide)).trans ((lv_osw c2 (by decide)).trans rfl)) (by decide) ?_
      refine lv_bipush (v := 99) hx hb dX1_highestSetting_33 (by decide) ?_
      exact hQf hf hM hS dX1_highestSetting_35
abbrev rX1_lowestSetting : Room := { frames := 0, cells := 0, slots := 0, locals := 0 }
set_option maxRecDepth 100000 in
set_option maxHeartbeats 4000000 in
theorem kX1_lowestSetting (l : Launch) (G : zG) (A : Nat → Prop) (V : zV3) (g : Nat) (hg : g < 7) (h : zV2) (p1 : Int32) {r : Int32} {h' : zV2} (hf : xX1_lowestSetting h p1 = some (r, h')) : zCt l G A yX1_lowestSetting cX1_lowestSetting 1 (some .int) rX1_lowestSetting [.int p1] (upG V g h) (some (.int r)) (upG V g h') := by
  refine z_CtI (by decide) (Nat.le_of_ble_eq_true rfl) ?_
  intro p e s m args below meth c Q hx hb hml hown hL hK hM hS hQ ls hl
  replace hl : lv_has ls 1 [(0, .int p1)] := hl
  have hQf : ∀ {a : Int32} {k : zV2} {H : Heap} {locs : List Loc} {pc : Nat} {ls : Array Slot}, some (a, k) = some (r, h') → zM G (upG V g k) H → va_S A s.heap H locs → decode cX1_lowestSetting pc = .ok (.ireturn, 1) → W p l e rX1_lowestSetting s m args below meth c H locs 0 0 Q (F0 m pc ls [.int a]) := by
    intro a k H locs pc ls e1 hM hS hd
    cases e1
    exact hQ H locs pc ls hM hS hd
  unfold xX1_lowestSetting at hf
  refine lv_iload_n hx hb dX1_lowestSetting_0 rfl (lv_at hl 0 rfl) ?_
  refine lv_if_ne (tgt := 8) hx hb dX1_lowestSetting_1 (by decide) (fun c1 => ?_) (fun c1 => ?_)
  · replace hf := iff_ hf c1
    refine lv_iconst (v := 0) hx hb dX1_lowestSetting_8 (by decide) ?_
    exact hQf hf hM hS dX1_lowestSetting_9
  · replace hf := ift hf c1
    refine lv_iconst (v := 1) hx hb dX1_lowestSetting_4 (by decide) ?_
    refine lv_goto (tgt := 9) hx hb dX1_lowestSetting_5 (by decide) ?_
    exact hQf hf hM hS dX1_lowestSetting_9
abbrev rX1_changeSetting : Room := { frames := 1, cells := 0, slots := 0, locals := 20 }
set_option maxRecDepth 100000 in
set_option maxHeartbeats 4000000 in
theorem kX1_changeSetting (l : Launch) (G : zG) (A : Nat → Prop) (V : zV3) (g : Nat) (hg : g < 7) (h : zV2) (p1 : Int32) (p2 : Int32) {r : Int32} {h' : zV2} (hf : xX1_changeSetting h p1 p2 = some (r, h')) : zCt l G A yX1_changeSetting cX1_changeSetting 4 (some .int) rX1_changeSetting [.ref (gA G 0 g 0), .int p1, .int p2] (upG V g h) (some (.int r)) (upG V g h') := by
  refine z_CtI (by decide) (Nat.le_of_ble_eq_true rfl) ?_
  intro p e s m args below meth c Q hx hb hml hown hL hK hM hS hQ ls hl
  replace hl : lv_has ls 4 [(0, .ref (gA G 0 g 0)), (1, .int p1), (2, .int p2)] := hl
  have hQf : ∀ {a : Int32} {k : zV2} {H : Heap} {locs : List Loc} {pc : Nat} {ls : Array Slot}, some (a, k) = some (r, h') → zM G (upG V g k) H → va_S A s.heap H locs → decode cX1_changeSetting pc = .ok (.ireturn, 1) → W p l e rX1_changeSetting s m args below meth c H locs 0 0 Q (F0 m pc ls [.int a]) := by
    intro a k H locs pc ls e1 hM hS hd
    cases e1
    exact hQ H locs pc ls hM hS hd
  unfold xX1_changeSetting at hf
  refine lv_iload_n hx hb dX1_changeSetting_0 rfl (lv_at hl 1 rfl) ?_
  refine lv_if_lt (tgt := 25) hx hb dX1_changeSetting_1 (by decide) (fun c1 => ?_) (fun c1 => ?_)
  · replace hf := ift hf c1
    refine lv_iconst (v := -1) hx hb dX1_changeSetting_25 (by decide) ?_
    exact hQf hf hM hS dX1_changeSetting_26
  · replace hf := iff_ hf c1
    refine lv_iload_n hx hb dX1_changeSetting_4 rfl (lv_at hl 1 rfl) ?_
    refine lv_iconst (v := 3) hx hb dX1_changeSetting_5 (by decide) ?_
    refine lv_icmp_ge (tgt := 25) hx hb dX1_changeSetting_6 (by decide) (fun c2 => ?_) (fun c2 => ?_)
    · replace hf := ift hf c2
      refine lv_iconst (v := -1) hx hb dX1_changeSetting_25 (by decide) ?_
      exact hQf hf hM hS dX1_changeSetting_26
    · replace hf := iff_ hf c2
      refine lv_iload_n hx hb dX1_changeSetting_9 rfl (lv_at hl 2 rfl) ?_
      refine lv_iload_n hx hb dX1_changeSetting_10 rfl (lv_at hl 1 rfl) ?_
      obtain ⟨r3, h5, hc4, hf⟩ := bnd_some hf
      refine z_callS (As := [.int p1]) (rest := [.int p2]) hx hb hml hown hL hK hM hS (kX1_lowestSetting l G A V g hg h p1 hc4) (zg_X1_lowestSetting zw3_12) zy_X1_lowestSetting ⟨rfl, rfl⟩ ⟨Nat.le_of_ble_eq_true rfl, Nat.le_of_ble_eq_true rfl⟩ rfl hl.1 rfl (Nat.le_of_ble_eq_true rfl) dX1_changeSetting_11 ⟨Nat.zero_le _, Nat.zero_le _⟩ (fun H locs hM hS => ?_)
      refine W.eq (g2 := F0 m 14 ls [.int r3, .int p2]) rfl ?_
      refine lv_icmp_lt (tgt := 25) hx hb dX1_changeSetting_14 (by decide) (fun c6 => ?_) (fun c6 => ?_)
      · replace hf := ift hf c6
        refine lv_iconst (v := -1) hx hb dX1_changeSetting_25 (by decide) ?_
        exact hQf hf hM hS dX1_changeSetting_26
      · replace hf := iff_ hf c6
        refine lv_iload_n hx hb dX1_changeSetting_17 rfl (lv_at hl 2 rfl) ?_
        refine lv_iload_n hx hb dX1_changeSetting_18 rfl (lv_at hl 1 rfl) ?_
        obtain ⟨r7, h9, hc8, hf⟩ := bnd_some hf
        refine z_callS (As := [.int p1]) (rest := [.int p2]) hx hb hml hown hL hK hM hS (kX1_highestSetting l G A V g hg h5 p1 hc8) (zg_X1_highestSetting zw3_15) zy_X1_highestSetting ⟨rfl, rfl⟩ ⟨Nat.le_of_ble_eq_true rfl, Nat.le_of_ble_eq_true rfl⟩ rfl hl.1 rfl (Nat.le_of_ble_eq_true rfl) dX1_changeSetting_19 ⟨Nat.zero_le _, Nat.zero_le _⟩ (fun H locs hM hS => ?_)
        refine W.eq (g2 := F0 m 22 ls [.int r7, .int p2]) rfl ?_
        refine lv_icmp_le (tgt := 27) hx hb dX1_changeSetting_22 (by decide) (fun c10 => ?_) (fun c10 => ?_)
        · replace hf := ift hf c10
          refine lv_aload_n hx hb dX1_changeSetting_27 rfl (lv_at hl 0 rfl) ?_
          refine z_get (own := RX1) (C := RX1) (T := TX1) (N := 10) (ci := 0) (v := .ref (gA G 4 g 0)) hx hb hL inX1 hown hK hM (dm_0 (g := g) (i := 0) hg rfl) (ze_0 G V g 0 h9) rfl 4 (by decide) (hL _ zw1_133) rfl rfl dX1_changeSetting_28 ?_
          refine lv_iload_n hx hb dX1_changeSetting_31 rfl (lv_at hl 1 rfl) ?_
          obtain ⟨hb11, hf⟩ := grd_some hf
          refine z_iald hx hb hK hM (dm_4 (g := g) (i := 0) hg rfl) (ze_4 G V g 0 h9) (inb_in hb11) dX1_changeSetting_32 ?_
          refine lv_topi (fun y12 ey12 => ?_)
          replace hf := ltI_some hf ey12
          refine lv_istore_n (lv' := [(3, .int y12), (0, .ref (gA G 0 g 0)), (1, .int p1), (2, .int p2)]) hx hb dX1_changeSetting_33 rfl hl (by decide) rfl (fun ls hl => ?_)
          refine lv_aload_n hx hb dX1_changeSetting_34 rfl (lv_at hl 1 rfl) ?_
          refine z_get (own := RX1) (C := RX1) (T := TX1) (N := 10) (ci := 0) (v := .ref (gA G 4 g 0)) hx hb hL inX1 hown hK hM (dm_0 (g := g) (i := 0) hg rfl) (ze_0 G V g 0 h9) rfl 4 (by decide) (hL _ zw1_133) rfl rfl dX1_changeSetting_35 ?_
          refine lv_iload_n hx hb dX1_changeSetting_38 rfl (lv_at hl 2 rfl) ?_
          refine lv_iload_n hx hb dX1_changeSetting_39 rfl (lv_at hl 3 rfl) ?_
          obtain ⟨hb13, hf⟩ := grd_some hf
          obtain ⟨h14, eh14⟩ : ∃ y, y = up2 h9 17 p1.toNatClampNeg p2 := ⟨_, rfl⟩
          replace hf := put2_some hf eh14
          refine z_iast (V' := upG V g h14) hx hb hK hM hS (dm_4 (g := g) (i := 0) hg rfl) (ze_4 G V g 0 h9) (inb_in hb13) (by rw [eh14]; exact zn_4_17 G V g hg h9 p1.toNatClampNeg p2) dX1_changeSetting_40 (fun H locs hM hS => ?_)
          refine lv_iload_n hx hb dX1_changeSetting_41 rfl (lv_at hl 0 rfl) ?_
          exact hQf hf hM hS dX1_changeSetting_42
        · replace hf := iff_ hf c10
          refine lv_iconst (v := -1) hx hb dX1_changeSetting_25 (by decide) ?_
          exact hQf hf hM hS dX1_changeSetting_26
abbrev rX1_foundOr : Room := { frames := 0, cells := 0, slots := 0, locals := 0 }
set_option maxRecDepth 100000 in
set_option maxHeartbeats 4000000 in
theorem kX1_foundOr (l : Launch) (G : zG) (A : Nat → Prop) (V : zV3) (g : Nat) (hg : g < 7) (h : zV2) (p1 : Int32) {r : Int32} {h' : zV2} (hf : xX1_foundOr h p1 = some (r, h')) : zCt l G A yX1_foundOr cX1_foundOr 1 (some .int) rX1_foundOr [.int p1] (upG V g h) (some (.int r)) (upG V g h') := by
  refine z_CtI (by decide) (Nat.le_of_ble_eq_true rfl) ?_
  intro p e s m args below meth c Q hx hb hml hown hL hK hM hS hQ ls hl
  replace hl : lv_has ls 1 [(0, .int p1)] := hl
  have hQf : ∀ {a : Int32} {k : zV2} {H : Heap} {locs : List Loc} {pc : Nat} {ls : Array Slot}, some (a, k) = some (r, h') → zM G (upG V g k) H → va_S A s.heap H locs → decode cX1_foundOr pc = .ok (.ireturn, 1) → W p l e rX1_foundOr s m args below meth c H locs 0 0 Q (F0 m pc ls [.int a]) := by
    intro a k H locs pc ls e1 hM hS hd
    cases e1
    exact hQ H locs pc ls hM hS hd
  unfold xX1_foundOr at hf
  refine lv_iload_n hx hb dX1_foundOr_0 rfl (lv_at hl 0 rfl) ?_
  refine lv_iconst (v := -1) hx hb dX1_foundOr_1 (by decide) ?_
  refine lv_icmp_ne (tgt := 10) hx hb dX1_foundOr_2 (by decide) (fun c1 => ?_) (fun c1 => ?_)
  · replace hf := iff_ hf c1
    refine lv_iload_n hx hb dX1_foundOr_10 rfl (lv_at hl 0 rfl) ?_
    exact hQf hf hM hS dX1_foundOr_11
  · replace hf := ift hf c1
    refine lv_bipush (v := -4) hx hb dX1_foundOr_5 (by decide) ?_
    refine lv_goto (tgt := 11) hx hb dX1_foundOr_7 (by decide) ?_
    exact hQf hf hM hS dX1_foundOr_11
abbrev rX1_tellOfPerson : Room := { frames := 1, cells := 0, slots := 0, locals := 22 }
set_option maxRecDepth 100000 in
set_option maxHeartbeats 4000000 in
theorem kX1_tellOfPerson (l : Launch) (G : zG) (A : Nat → Prop) (V : zV3) (g : Nat) (hg : g < 7) (h : zV2) (p1 : Int32) (p2 : Int32) {r : Int32} {h' : zV2} (hf : xX1_tellOfPerson h p1 p2 = some (r, h')) : zCt l G A yX1_tellOfPerson cX1_tellOfPerson 4 (some .int) rX1_tellOfPerson [.ref (gA G 0 g 0), .int p1, .int p2] (upG V g h) (some (.int r)) (upG V g h') := by
  refine z_CtI (by decide) (Nat.le_of_ble_eq_true rfl) ?_
  intro p e s m args below meth c Q hx hb hml hown hL hK hM hS hQ ls hl
  replace hl : lv_has ls 4 [(0, .ref (gA G 0 g 0)), (1, .int p1), (2, .int p2)] := hl
  have hQf : ∀ {a : Int32} {k : zV2} {H : Heap} {locs : List Loc} {pc : Nat} {ls : Array Slot}, some (a, k) = some (r, h') → zM G (upG V g k) H → va_S A s.heap H locs → decode cX1_tellOfPerson pc = .ok (.ireturn, 1) → W p l e rX1_tellOfPerson s m args below meth c H locs 0 0 Q (F0 m pc ls [.int a]) := by
    intro a k H locs pc ls e1 hM hS hd
    cases e1
    exact hQ H locs pc ls hM hS hd
  have L38 : ∀ (h : zV2) (n3 : Nat), n3 < 10 → xX1_tellOfPerson_L38 p1 p2 h n3 = some (r, h') → ∀ (H : Heap) (locs : List Loc) (ls : Array Slot), zM G (upG V g h) H → va_S A s.heap H locs → lv_has ls 4 [(0, .ref (gA G 0 g 0)), (1, .int p1), (2, .int p2), (3, .ref (gA G 9 g n3))] → W p l e rX1_tellOfPerson s m args below meth c H locs 0 0 Q (F0 m 38 ls []) := by
    intro h n3 hn3 hf H locs ls hM hS hl
    unfold xX1_tellOfPerson_L38 at hf
    refine lv_iload_n hx hb dX1_tellOfPerson_38 rfl (lv_at hl 2 rfl) ?_
    by_cases c1 : p2 = (0 : Int32)
    · replace hf := ift hf c1
      refine lv_tableIn (off := 49) (tgt := 88) hx hb dX1_tellOfPerson_39 (by rw [c1]; decide) (by rw [c1]; decide) (by rw [c1]; rfl) (by decide) ?_
      refine lv_aload_n hx hb dX1_tellOfPerson_88 rfl (lv_at hl 3 rfl) ?_
      refine z_getN (own := RX1) (C := RX5) (T := TX5) (N := 8) (ci := 4) (v := .int (h 6 n3)) hx hb hL inX5 hown hK hM (dm_9 (g := g) (i := n3) hg hn3) (ze_9 G V g n3 h) rfl 1 (by decide) 21 rfl rfl rfl dX1_tellOfPerson_89 ?_
      exact hQf hf hM hS dX1_tellOfPerson_92
    · replace hf := iff_ hf c1
      by_cases c2 : p2 = (1 : Int32)
      · replace hf := ift hf c2
        refine lv_tableIn (off := 54) (tgt := 93) hx hb dX1_tellOfPerson_39 (by rw [c2]; decide) (by rw [c2]; decide) (by rw [c2]; rfl) (by decide) ?_
        refine lv_aload_n hx hb dX1_tellOfPerson_93 rfl (lv_at hl 3 rfl) ?_
        refine z_getN (own := RX1) (C := RX5) (T := TX5) (N := 8) (ci := 4) (v := .int (h 7 n3)) hx hb hL inX5 hown hK hM (dm_9 (g := g) (i := n3) hg hn3) (ze_9 G V g n3 h) rfl 2 (by decide) 12 rfl rfl rfl dX1_tellOfPerson_94 ?_
        exact hQf hf hM hS dX1_tellOfPerson_97
      · replace hf := iff_ hf c2
        by_cases c3 : p2 = (2 : Int32)
        · replace hf := ift hf c3
          refine lv_tableIn (off := 59) (tgt := 98) hx hb dX1_tellOfPerson_39 (by rw [c3]; decide) (by rw [c3]; decide) (by rw [c3]; rfl) (by decide) ?_
          refine lv_aload_n hx hb dX1_tellOfPerson_98 rfl (lv_at hl 3 rfl) ?_
          refine z_getN (own := RX1) (C := RX5) (T := TX5) (N := 8) (ci := 4) (v := .int (h 8 n3)) hx hb hL inX5 hown hK hM (dm_9 (g := g) (i := n3) hg hn3) (ze_9 G V g n3 h) rfl 3 (by decide) 11 rfl rfl rfl dX1_tellOfPerson_99 ?_
          exact hQf hf hM hS dX1_tellOfPerson_102
        · replace hf := iff_ hf c3
          by_cases c4 : p2 = (3 : Int32)
          · replace hf := ift hf c4
            refine lv_tableIn (off := 64) (tgt := 103) hx hb dX1_tellOfPerson_39 (by rw [c4]; decide) (by rw [c4]; decide) (by rw [c4]; rfl) (by decide) ?_
            refine lv_aload_n hx hb dX1_tellOfPerson_103 rfl (lv_at hl 3 rfl) ?_
            refine lv_aload_n hx hb dX1_tellOfPerson_104 rfl (lv_at hl 0 rfl) ?_
            refine z_get (own := RX1) (C := RX1) (T := TX1) (N := 10) (ci := 0) (v := .int (h 15 0)) hx hb hL inX1 hown hK hM (dm_0 (g := g) (i := 0) hg rfl) (ze_0 G V g 0 h) rfl 8 (by decide) (hL _ zw1_137) rfl rfl dX1_tellOfPerson_105 ?_
            obtain ⟨r5, h7, hc6, hf⟩ := bnd_some hf
            refine z_callV (As := [.int (h 15 0)]) (rest := []) (C := RX5) hx hb hml hown hL hK hM hS (kX5_overdueOn l G A V g hg n3 hn3 h (h 15 0) hc6) (zg_X5_overdueOn zw2_129) zv_X5_overdueOn ⟨rfl, rfl⟩ ⟨Nat.le_of_ble_eq_true rfl, Nat.le_of_ble_eq_true rfl⟩ (hM.recv hK (dm_9 (g := g) (i := n3) hg hn3) (ze_9 G V g n3 h) rfl) rfl hl.1 rfl (Nat.le_of_ble_eq_true rfl) dX1_tellOfPerson_108 ⟨Nat.zero_le _, Nat.zero_le _⟩ (fun H locs hM hS => ?_)
            refine W.eq (g2 := F0 m 111 ls [.int r5]) rfl ?_
            exact hQf hf hM hS dX1_tellOfPerson_111
          · replace hf := iff_ hf c4
            by_cases c8 : p2 = (4 : Int32)
            · replace hf := ift hf c8
              refine lv_tableIn (off := 73) (tgt := 112) hx hb dX1_tellOfPerson_39 (by rw [c8]; decide) (by rw [c8]; decide) (by rw [c8]; rfl) (by decide) ?_
              refine lv_aload_n hx hb dX1_tellOfPerson_112 rfl (lv_at hl 3 rfl) ?_
              refine z_getN (own := RX1) (C := RX5) (T := TX5) (N := 8) (ci := 4) (v := .int (h 9 n3)) hx hb hL inX5 hown hK hM (dm_9 (g := g) (i := n3) hg hn3) (ze_9 G V g n3 h) rfl 4 (by decide) 24 rfl rfl rfl dX1_tellOfPerson_113 ?_
              exact hQf hf hM hS dX1_tellOfPerson_116
            · replace hf := iff_ hf c8
              by_cases c9 : p2 = (5 : Int32)
              · replace hf := ift hf c9
                refine lv_tableIn (off := 78) (tgt := 117) hx hb dX1_tellOfPerson_39 (by rw [c9]; decide) (by rw [c9]; decide) (by rw [c9]; rfl) (by decide) ?_
                refine lv_aload_n hx hb dX1_tellOfPerson_117 rfl (lv_at hl 3 rfl) ?_
                refine z_getN (own := RX1) (C := RX5) (T := TX5) (N := 8) (ci := 4) (v := .int (h 10 n3)) hx hb hL inX5 hown hK hM (dm_9 (g := g) (i := n3) hg hn3) (ze_9 G V g n3 h) rfl 5 (by decide) 18 rfl rfl rfl dX1_tellOfPerson_118 ?_
                exact hQf hf hM hS dX1_tellOfPerson_121
              · replace hf := iff_ hf c9
                by_cases c10 : p2 = (6 : Int32)
                · replace hf := ift hf c10
                  refine lv_tableIn (off := 83) (tgt := 122) hx hb dX1_tellOfPerson_39 (by rw [c10]; decide) (by rw [c10]; decide) (by rw [c10]; rfl) (by decide) ?_
                  refine lv_aload_n hx hb dX1_tellOfPerson_122 rfl (lv_at hl 0 rfl) ?_
                  refine z_get (own := RX1) (C := RX1) (T := TX1) (N := 10) (ci := 0) (v := .ref (gA G 3 g 1)) hx hb hL inX1 hown hK hM (dm_0 (g := g) (i := 0) hg rfl) (ze_0 G V g 0 h) rfl 3 (by decide) (hL _ zw1_132) rfl rfl dX1_tellOfPerson_123 ?_
                  refine lv_iload_n hx hb dX1_tellOfPerson_126 rfl (lv_at hl 1 rfl) ?_
                  obtain ⟨r11, h13, hc12, hf⟩ := bnd_some hf
                  refine z_callV (As := [.int p1]) (rest := []) (C := RX3) hx hb hml hown hL hK hM hS (kX3_sizeOf l G A V g hg 1 (by decide) h p1 hc12) (zg_X3_sizeOf zw2_173) zv_X3_sizeOf ⟨rfl, rfl⟩ ⟨Nat.le_of_ble_eq_true rfl, Nat.le_of_ble_eq_true rfl⟩ (hM.recv hK (dm_3 (g := g) (i := 1) hg (by decide)) (ze_3 G V g 1 h) rfl) rfl hl.1 rfl (Nat.le_of_ble_eq_true rfl) dX1_tellOfPerson_127 ⟨Nat.zero_le _, Nat.zero_le _⟩ (fun H locs hM hS => ?_)
                  refine W.eq (g2 := F0 m 130 ls [.int r11]) rfl ?_
                  obtain ⟨r14, h16, hc15, hf⟩ := bnd_some hf
                  refine z_callS (As := [.int r11]) (rest := []) hx hb hml hown hL hK hM hS (kX1_foundOr l G A V g hg h13 r11 hc15) (zg_X1_foundOr zw3_26) zy_X1_foundOr ⟨rfl, rfl⟩ ⟨Nat.le_of_ble_eq_true rfl, Nat.le_of_ble_eq_true rfl⟩ rfl hl.1 rfl (Nat.le_of_ble_eq_true rfl) dX1_tellOfPerson_130 ⟨Nat.zero_le _, Nat.zero_le _⟩ (fun H locs hM hS => ?_)
                  refine W.eq (g2 := F0 m 133 ls [.int r14]) rfl ?_
                  exact hQf hf hM hS dX1_tellOfPerson_133
                · replace hf := iff_ hf c10
                  by_cases c17 : p2 = (7 : Int32)
                  · replace hf := ift hf c17
                    refine lv_tableIn (off := 95) (tgt := 134) hx hb dX1_tellOfPerson_39 (by rw [c17]; decide) (by rw [c17]; decide) (by rw [c17]; rfl) (by decide) ?_
                    refine lv_aload_n hx hb dX1_tellOfPerson_134 rfl (lv_at hl 0 rfl) ?_
                    refine z_get (own := RX1) (C := RX1) (T := TX1) (N := 10) (ci := 0) (v := .ref (gA G 3 g 0)) hx hb hL inX1 hown hK hM (dm_0 (g := g) (i := 0) hg rfl) (ze_0 G V g 0 h) rfl 2 (by decide) (hL _ zw1_130) rfl rfl dX1_tellOfPerson_135 ?_
                    refine lv_iload_n hx hb dX1_tellOfPerson_138 rfl (lv_at hl 1 rfl) ?_
                    obtain ⟨r18, h20, hc19, hf⟩ := bnd_some hf
                    refine z_callV (As := [.int p1]) (rest := []) (C := RX3) hx hb hml hown hL hK hM hS (kX3_placeOf l G A V g hg 0 (by decide) h p1 hc19) (zg_X3_placeOf zw2_109) zv_X3_placeOf ⟨rfl, rfl⟩ ⟨Nat.le_of_ble_eq_true rfl, Nat.le_of_ble_eq_true rfl⟩ (hM.recv hK (dm_3 (g := g) (i := 0) hg (by decide)) (ze_3 G V g 0 h) rfl) rfl hl.1 rfl (Nat.le_of_ble_eq_true rfl) dX1_tellOfPerson_139 ⟨Nat.zero_le _, Nat.zero_le _⟩ (fun H locs hM hS => ?_)
                    refine W.eq (g2 := F0 m 142 ls [.int r18]) rfl ?_
                    obtain ⟨r21, h23, hc22, hf⟩ := bnd_some hf
                    refine z_callS (As := [.int r18]) (rest := []) hx hb hml hown hL hK hM hS (kX1_foundOr l G A V g hg h20 r18 hc22) (zg_X1_foundOr zw3_26) zy_X1_foundOr ⟨rfl, rfl⟩ ⟨Nat.le_of_ble_eq_true rfl, Nat.le_of_ble_eq_true rfl⟩ rfl hl.1 rfl (Nat.le_of_ble_eq_true rfl) dX1_tellOfPerson_142 ⟨Nat.zero_le _, Nat.zero_le _⟩ (fun H locs hM hS => ?_)
                    refine W.eq (g2 := F0 m 145 ls [.int r21]) rfl ?_
                    exact hQf hf hM hS dX1_tellOfPerson_145
                  · replace hf := iff_ hf c17
                    by_cases c24 : p2 = (8 : Int32)
                    · replace hf := ift hf c24
                      refine lv_tableIn (off := 107) (tgt := 146) hx hb dX1_tellOfPerson_39 (by rw [c24]; decide) (by rw [c24]; decide) (by rw [c24]; rfl) (by decide) ?_
                      refine lv_aload_n hx hb dX1_tellOfPerson_146 rfl (lv_at hl 3 rfl) ?_
                      refine z_getN (own := RX1) (C := RX5) (T := TX5) (N := 8) (ci := 4) (v := .int (h 11 n3)) hx hb hL inX5 hown hK hM (dm_9 (g := g) (i := n3) hg hn3) (ze_9 G V g n3 h) rfl 6 (by decide) 13 rfl rfl rfl dX1_tellOfPerson_147 ?_
                      exact hQf hf hM hS dX1_tellOfPerson_150
                    · replace hf := iff_ hf c24
                      refine lv_tableOut (tgt := 151) hx hb dX1_tellOfPerson_39 (by have t0 := lv_neT c1 (a := 0) (by decide); have t1 := lv_neT c2 (a := 1) (by decide); have t2 := lv_neT c3 (a := 2) (by decide); have t3 := lv_neT c4 (a := 3) (by decide); have t4 := lv_neT c8 (a := 4) (by decide); have t5 := lv_neT c9 (a := 5) (by decide); have t6 := lv_neT c10 (a := 6) (by decide); have t7 := lv_neT c17 (a := 7) (by decide); have t8 := lv_neT c24 (a := 8) (by decide); omega) (by decide) ?_
                      refine lv_aload_n hx hb dX1_tellOfPerson_151 rfl (lv_at hl 3 rfl) ?_
                      refine z_getN (own := RX1) (C := RX5) (T := TX5) (N := 8) (ci := 4) (v := .int (h 12 n3)) hx hb hL inX5 hown hK hM (dm_9 (g := g) (i := n3) hg hn3) (ze_9 G V g n3 h) rfl 7 (by decide) 19 rfl rfl rfl dX1_tellOfPerson_152 ?_
                      exact hQf hf hM hS dX1_tellOfPerson_155
  unfold xX1_tellOfPerson at hf
  refine lv_aload_n hx hb dX1_tellOfPerson_0 rfl (lv_at hl 0 rfl) ?_
  refine lv_iload_n hx hb dX1_tellOfPerson_1 rfl (lv_at hl 1 rfl) ?_
  obtain ⟨r1, h3, hc2, hf⟩ := bnd_some hf
  refine z_callV (As := [.int p1]) (rest := []) (C := RX1) hx hb hml hown hL hK hM hS (kX1_personAt l G A V g hg h p1 hc2) (zg_X1_personAt zw2_85) zv_X1_personAt ⟨rfl, rfl⟩ ⟨Nat.le_of_ble_eq_true rfl, Nat.le_of_ble_eq_true rfl⟩ (hM.recv hK (dm_0 (g := g) (i := 0) hg rfl) (ze_0 G V g 0 h) rfl) rfl hl.1 rfl (Nat.le_of_ble_eq_true rfl) dX1_tellOfPerson_2 ⟨Nat.zero_le _, Nat.zero_le _⟩ (fun H locs hM hS => ?_)
  cases r1 with
  | none =>
    replace hf := optm_none hf
    refine W.eq (g2 := F0 m 5 ls [.null]) rfl ?_
    refine lv_astore_nN (lv' := [(3, .null), (0, .ref (gA G 0 g 0)), (1, .int p1), (2, .int p2)]) hx hb dX1_tellOfPerson_5 rfl hl (by decide) rfl (fun ls hl => ?_)
    refine lv_aload_nN hx hb dX1_tellOfPerson_6 rfl (lv_at hl 0 rfl) ?_
    refine lv_ifnullN (tgt := 20) hx hb dX1_tellOfPerson_7 (by decide) ?_
    refine lv_iconst (v := -1) hx hb dX1_tellOfPerson_20 (by decide) ?_
    exact hQf hf hM hS dX1_tellOfPerson_21
  | some q4 =>
    replace hf := optm_s hf
    obtain ⟨hq4, hf⟩ := grd_some hf
    replace hq4 := of_decide_eq_true hq4
    refine W.eq (g2 := F0 m 5 ls [.ref (gA G 9 g q4)]) rfl ?_
    refine lv_astore_n (lv' := [(3, .ref (gA G 9 g q4)), (0, .ref (gA G 0 g 0)), (1, .int p1), (2, .int p2)]) hx hb dX1_tellOfPerson_5 rfl hl (by decide) rfl (fun ls hl => ?_)
    refine lv_aload_n hx hb dX1_tellOfPerson_6 rfl (lv_at hl 0 rfl) ?_
    refine lv_ifnull hx hb dX1_tellOfPerson_7 ?_
    refine lv_iload_n hx hb dX1_tellOfPerson_10 rfl (lv_at hl 3 rfl) ?_
    refine lv_if_lt (tgt := 20) hx hb dX1_tellOfPerson_11 (by decide) (fun c5 => ?_) (fun c5 => ?_)
    · replace hf := ift hf c5
      refine lv_iconst (v := -1) hx hb dX1_tellOfPerson_20 (by decide) ?_
      exact hQf hf hM hS dX1_tellOfPerson_21
    · replace hf := iff_ hf c5
      refine lv_iload_n hx hb dX1_tellOfPerson_14 rfl (lv_at hl 3 rfl) ?_
      refine lv_bipush (v := 9) hx hb dX1_tellOfPerson_15 (by decide) ?_
      refine lv_icmp_le (tgt := 22) hx hb dX1_tellOfPerson_17 (by decide) (fun c6 => ?_) (fun c6 => ?_)
      · replace hf := ift hf c6
        refine lv_iload_n hx hb dX1_tellOfPerson_22 rfl (lv_at hl 3 rfl) ?_
        refine lv_iconst (v := 3) hx hb dX1_tellOfPerson_23 (by decide) ?_
        refine lv_icmp_gt (tgt := 38) hx hb dX1_tellOfPerson_24 (by decide) (fun c7 => ?_) (fun c7 => ?_)
        · replace hf := ift hf c7
          exact L38 h3 q4 hq4 hf _ _ _ hM hS (lv_sub hl [1, 2, 3, 0] rfl)
        · replace hf := iff_ hf c7
          refine lv_aload_n hx hb dX1_tellOfPerson_27 rfl (lv_at hl 0 rfl) ?_
          refine z_getN (own := RX1) (C := RX5) (T := TX5) (N := 8) (ci := 4) (v := .int (h3 6 q4)) hx hb hL inX5 hown hK hM (dm_9 (g := g) (i := q4) hg hq4) (ze_9 G V g q4 h3) rfl 1 (by decide) 21 rfl rfl rfl dX1_tellOfPerson_28 ?_
          refine lv_iconst (v := -1) hx hb dX1_tellOfPerson_31 (by decide) ?_
          refine lv_icmp_ne (tgt := 38) hx hb dX1_tellOfPerson_32 (by decide) (fun c8 => ?_) (fun c8 => ?_)
          · replace hf := iff_ hf c8
            exact L38 h3 q4 hq4 hf _ _ _ hM hS (lv_sub hl [1, 2, 3, 0] rfl)
          · replace hf := ift hf c8
            refine lv_bipush (v := -4) hx hb dX1_tellOfPerson_35 (by decide) ?_
            exact hQf hf hM hS dX1_tellOfPerson_37
      · replace hf := iff_ hf c6
        refine lv_iconst (v := -1) hx hb dX1_tellOfPerson_20 (by decide) ?_
        exact hQf hf hM hS dX1_tellOfPerson_21
