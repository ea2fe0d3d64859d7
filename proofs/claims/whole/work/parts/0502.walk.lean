abbrev rX1_wishFor : Room := { frames := 1, cells := 0, slots := 0, locals := 23 }
set_option maxRecDepth 100000 in
set_option maxHeartbeats 4000000 in
theorem kX1_wishFor (l : Launch) (G : zG) (A : Nat → Prop) (V : zV3) (g : Nat) (hg : g < 7) (h : zV2) (p1 : Int32) (p2 : Int32) {r : Int32} {h' : zV2} (hf : xX1_wishFor h p1 p2 = some (r, h')) : zCt l G A yX1_wishFor cX1_wishFor 5 (some .int) rX1_wishFor [.ref (gA G 0 g 0), .int p1, .int p2] (upG V g h) (some (.int r)) (upG V g h') := by
  refine z_CtI (by decide) (Nat.le_of_ble_eq_true rfl) ?_
  intro p e s m args below meth c Q hx hb hml hown hL hK hM hS hQ ls hl
  replace hl : lv_has ls 5 [(0, .ref (gA G 0 g 0)), (1, .int p1), (2, .int p2)] := hl
  have hQf : ∀ {a : Int32} {k : zV2} {H : Heap} {locs : List Loc} {pc : Nat} {ls : Array Slot}, some (a, k) = some (r, h') → zM G (upG V g k) H → va_S A s.heap H locs → decode cX1_wishFor pc = .ok (.ireturn, 1) → W p l e rX1_wishFor s m args below meth c H locs 0 0 Q (F0 m pc ls [.int a]) := by
    intro a k H locs pc ls e1 hM hS hd
    cases e1
    exact hQ H locs pc ls hM hS hd
  unfold xX1_wishFor at hf
  refine lv_aload_n hx hb dX1_wishFor_0 rfl (lv_at hl 0 rfl) ?_
  refine lv_iload_n hx hb dX1_wishFor_1 rfl (lv_at hl 1 rfl) ?_
  obtain ⟨r1, h3, hc2, hf⟩ := bnd_some hf
  refine z_callV (As := [.int p1]) (rest := []) (C := RX1) hx hb hml hown hL hK hM hS (kX1_personAt l G A V g hg h p1 hc2) (zg_X1_personAt zw2_85) zv_X1_personAt ⟨rfl, rfl⟩ ⟨Nat.le_of_ble_eq_true rfl, Nat.le_of_ble_eq_true rfl⟩ (hM.recv hK (dm_0 (g := g) (i := 0) hg rfl) (ze_0 G V g 0 h) rfl) rfl hl.1 rfl (Nat.le_of_ble_eq_true rfl) dX1_wishFor_2 ⟨Nat.zero_le _, Nat.zero_le _⟩ (fun H locs hM hS => ?_)
  cases r1 with
  | none =>
    replace hf := optm_none hf
    refine W.eq (g2 := F0 m 5 ls [.null]) rfl ?_
    refine lv_astore_nN (lv' := [(3, .null), (0, .ref (gA G 0 g 0)), (1, .int p1), (2, .int p2)]) hx hb dX1_wishFor_5 rfl hl (by decide) rfl (fun ls hl => ?_)
    refine lv_aload_nN hx hb dX1_wishFor_6 rfl (lv_at hl 0 rfl) ?_
    refine lv_ifnullN (tgt := 19) hx hb dX1_wishFor_7 (by decide) ?_
    refine lv_iconst (v := -1) hx hb dX1_wishFor_19 (by decide) ?_
    exact hQf hf hM hS dX1_wishFor_20
  | some q4 =>
    replace hf := optm_s hf
    obtain ⟨hq4, hf⟩ := grd_some hf
    replace hq4 := of_decide_eq_true hq4
    refine W.eq (g2 := F0 m 5 ls [.ref (gA G 9 g q4)]) rfl ?_
    refine lv_astore_n (lv' := [(3, .ref (gA G 9 g q4)), (0, .ref (gA G 0 g 0)), (1, .int p1), (2, .int p2)]) hx hb dX1_wishFor_5 rfl hl (by decide) rfl (fun ls hl => ?_)
    refine lv_aload_n hx hb dX1_wishFor_6 rfl (lv_at hl 0 rfl) ?_
    refine lv_ifnull hx hb dX1_wishFor_7 ?_
    refine lv_iload_n hx hb dX1_wishFor_10 rfl (lv_at hl 3 rfl) ?_
    refine lv_if_lt (tgt := 19) hx hb dX1_wishFor_11 (by decide) (fun c5 => ?_) (fun c5 => ?_)
    · replace hf := ift hf c5
      refine lv_iconst (v := -1) hx hb dX1_wishFor_19 (by decide) ?_
      exact hQf hf hM hS dX1_wishFor_20
    · replace hf := iff_ hf c5
      refine lv_iload_n hx hb dX1_wishFor_14 rfl (lv_at hl 3 rfl) ?_
      refine lv_iconst (v := 2) hx hb dX1_wishFor_15 (by decide) ?_
      refine lv_icmp_le (tgt := 21) hx hb dX1_wishFor_16 (by decide) (fun c6 => ?_) (fun c6 => ?_)
      · replace hf := ift hf c6
        refine lv_aload_n hx hb dX1_wishFor_21 rfl (lv_at hl 1 rfl) ?_
        refine lv_aload_n hx hb dX1_wishFor_22 rfl (lv_at hl 0 rfl) ?_
        refine z_getN (own := RX1) (C := RX5) (T := TX5) (N := 8) (ci := 4) (v := .int (h3 6 q4)) hx hb hL inX5 hown hK hM (dm_9 (g := g) (i := q4) hg hq4) (ze_9 G V g q4 h3) rfl 1 (by decide) 21 rfl rfl rfl dX1_wishFor_23 ?_
        obtain ⟨r7, h9, hc8, hf⟩ := bnd_some hf
        refine z_callV (As := [.int (h3 6 q4)]) (rest := []) (C := RX1) hx hb hml hown hL hK hM hS (kX1_lockerAt l G A V g hg h3 (h3 6 q4) hc8) (zg_X1_lockerAt zw2_69) zv_X1_lockerAt ⟨rfl, rfl⟩ ⟨Nat.le_of_ble_eq_true rfl, Nat.le_of_ble_eq_true rfl⟩ (hM.recv hK (dm_0 (g := g) (i := 0) hg rfl) (ze_0 G V g 0 h3) rfl) rfl hl.1 rfl (Nat.le_of_ble_eq_true rfl) dX1_wishFor_26 ⟨Nat.zero_le _, Nat.zero_le _⟩ (fun H locs hM hS => ?_)
        cases r7 with
        | none =>
          replace hf := optm_none hf
          refine W.eq (g2 := F0 m 29 ls [.null]) rfl ?_
          refine lv_astoreN (lv' := [(4, .null), (3, .ref (gA G 9 g q4)), (0, .ref (gA G 0 g 0)), (1, .int p1), (2, .int p2)]) hx hb dX1_wishFor_29 hl (by decide) rfl (fun ls hl => ?_)
          refine lv_aloadN hx hb dX1_wishFor_31 (lv_at hl 0 rfl) ?_
          refine lv_ifnullN (tgt := 45) hx hb dX1_wishFor_33 (by decide) ?_
          refine lv_bipush (v := -2) hx hb dX1_wishFor_45 (by decide) ?_
          exact hQf hf hM hS dX1_wishFor_47
        | some q10 =>
          replace hf := optm_s hf
          obtain ⟨hq10, hf⟩ := grd_some hf
          replace hq10 := of_decide_eq_true hq10
          refine W.eq (g2 := F0 m 29 ls [.ref (gA G 8 g q10)]) rfl ?_
          refine lv_astore (lv' := [(4, .ref (gA G 8 g q10)), (3, .ref (gA G 9 g q4)), (0, .ref (gA G 0 g 0)), (1, .int p1), (2, .int p2)]) hx hb dX1_wishFor_29 hl (by decide) rfl (fun ls hl => ?_)
          refine lv_aload hx hb dX1_wishFor_31 (lv_at hl 0 rfl) ?_
          refine lv_ifnull hx hb dX1_wishFor_33 ?_
          refine lv_aload hx hb dX1_wishFor_36 (lv_at hl 0 rfl) ?_
          refine z_getN (own := RX1) (C := RX4) (T := TX4) (N := 7) (ci := 3) (v := .int (h9 0 q10)) hx hb hL inX4 hown hK hM (dm_8 (g := g) (i := q10) hg hq10) (ze_8 G V g q10 h9) rfl 1 (by decide) 22 rfl rfl rfl dX1_wishFor_38 ?_
          refine lv_iload_n hx hb dX1_wishFor_41 rfl (lv_at hl 4 rfl) ?_
          refine lv_icmp_ne (tgt := 48) hx hb dX1_wishFor_42 (by decide) (fun c11 => ?_) (fun c11 => ?_)
          · replace hf := iff_ hf c11
            refine lv_aload_n hx hb dX1_wishFor_48 rfl (lv_at hl 2 rfl) ?_
            refine z_get (own := RX1) (C := RX1) (T := TX1) (N := 10) (ci := 0) (v := .ref (gA G 3 g 1)) hx hb hL inX1 hown hK hM (dm_0 (g := g) (i := 0) hg rfl) (ze_0 G V g 0 h9) rfl 3 (by decide) (hL _ zw1_132) rfl rfl dX1_wishFor_49 ?_
            refine lv_iload_n hx hb dX1_wishFor_52 rfl (lv_at hl 3 rfl) ?_
            obtain ⟨r12, h14, hc13, hf⟩ := bnd_some hf
            refine z_callV (As := [.int p1]) (rest := []) (C := RX3) hx hb hml hown hL hK hM hS (kX3_remove l G A V g hg 1 (by decide) h9 p1 hc13) (zg_X3_remove zw2_93) zv_X3_remove ⟨rfl, rfl⟩ ⟨Nat.le_of_ble_eq_true rfl, Nat.le_of_ble_eq_true rfl⟩ (hM.recv hK (dm_3 (g := g) (i := 1) hg (by decide)) (ze_3 G V g 1 h9) rfl) rfl hl.1 rfl (Nat.le_of_ble_eq_true rfl) dX1_wishFor_53 ⟨Nat.zero_le _, Nat.zero_le _⟩ (fun H locs hM hS => ?_)
            refine W.eq (g2 := F0 m 56 ls []) rfl ?_
            refine lv_aload_n hx hb dX1_wishFor_56 rfl (lv_at hl 2 rfl) ?_
            refine z_get (own := RX1) (C := RX1) (T := TX1) (N := 10) (ci := 0) (v := .ref (gA G 3 g 1)) hx hb hL inX1 hown hK hM (dm_0 (g := g) (i := 0) hg rfl) (ze_0 G V g 0 h14) rfl 3 (by decide) (hL _ zw1_132) rfl rfl dX1_wishFor_57 ?_
            refine lv_iload_n hx hb dX1_wishFor_60 rfl (lv_at hl 3 rfl) ?_
            refine lv_iload_n hx hb dX1_wishFor_61 rfl (lv_at hl 4 rfl) ?_
            obtain ⟨r15, h17, hc16, hf⟩ := bnd_some hf
            refine z_callV (As := [.int p1, .int p2]) (rest := []) (C := RX3) hx hb hml hown hL hK hM hS (kX3_add l G A V g hg 1 (by decide) h14 p1 p2 hc16) (zg_X3_add zw2_117) zv_X3_add ⟨rfl, rfl⟩ ⟨Nat.le_of_ble_eq_true rfl, Nat.le_of_ble_eq_true rfl⟩ (hM.recv hK (dm_3 (g := g) (i := 1) hg (by decide)) (ze_3 G V g 1 h14) rfl) rfl hl.1 rfl (Nat.le_of_ble_eq_true rfl) dX1_wishFor_62 ⟨Nat.zero_le _, Nat.zero_le _⟩ (fun H locs hM hS => ?_)
            refine W.eq (g2 := F0 m 65 ls []) rfl ?_
            refine lv_aload_n hx hb dX1_wishFor_65 rfl (lv_at hl 2 rfl) ?_
            refine z_get (own := RX1) (C := RX1) (T := TX1) (N := 10) (ci := 0) (v := .ref (gA G 3 g 1)) hx hb hL inX1 hown hK hM (dm_0 (g := g) (i := 0) hg rfl) (ze_0 G V g 0 h17) rfl 3 (by decide) (hL _ zw1_132) rfl rfl dX1_wishFor_66 ?_
            refine z_getN (own := RX1) (C := RX3) (T := TX3) (N := 3) (ci := 2) (v := .int (h17 (23 + 1) 0)) hx hb hL inX3 hown hK hM (dm_3 (g := g) (i := 1) hg (by decide)) (ze_3 G V g 1 h17) rfl 2 (by decide) 9 rfl rfl rfl dX1_wishFor_69 ?_
            exact hQf hf hM hS dX1_wishFor_72
          · replace hf := ift hf c11
            refine lv_bipush (v := -2) hx hb dX1_wishFor_45 (by decide) ?_
            exact hQf hf hM hS dX1_wishFor_47
      · replace hf := iff_ hf c6
        refine lv_iconst (v := -1) hx hb dX1_wishFor_19 (by decide) ?_
        exact hQf hf hM hS dX1_wishFor_20
abbrev rX3_sizeOf : Room := { frames := 0, cells := 0, slots := 0, locals := 0 }
set_option maxRecDepth 100000 in
set_option maxHeartbeats 4000000 in
theorem kX3_sizeOf (l : Launch) (G : zG) (A : Nat → Prop) (V : zV3) (g : Nat) (hg : g < 7) (w : Nat) (hw : w < 2) (h : zV2) (p1 : Int32) {r : Int32} {h' : zV2} (hf : xX3_sizeOf w h p1 = some (r, h')) : zCt l G A yX3_sizeOf cX3_sizeOf 3 (some .int) rX3_sizeOf [.ref (gA G 3 g w), .int p1] (upG V g h) (some (.int r)) (upG V g h') := by
  refine z_CtI (by decide) (Nat.le_of_ble_eq_true rfl) ?_
  intro p e s m args below meth c Q hx hb hml hown hL hK hM hS hQ ls hl
  replace hl : lv_has ls 3 [(0, .ref (gA G 3 g w)), (1, .int p1)] := hl
  have hQf : ∀ {a : Int32} {k : zV2} {H : Heap} {locs : List Loc} {pc : Nat} {ls : Array Slot}, some (a, k) = some (r, h') → zM G (upG V g k) H → va_S A s.heap H locs → decode cX3_sizeOf pc = .ok (.ireturn, 1) → W p l e rX3_sizeOf s m args below meth c H locs 0 0 Q (F0 m pc ls [.int a]) := by
    intro a k H locs pc ls e1 hM hS hd
    cases e1
    exact hQ H locs pc ls hM hS hd
  have L2 : ∀ (n : Nat) (h : zV2) (a2 : Int32), xX3_sizeOf_L2 w p1 n h a2 = some (r, h') → ∀ (H : Heap) (locs : List Loc) (ls : Array Slot), zM G (upG V g h) H → va_S A s.heap H locs → lv_has ls 3 [(0, .ref (gA G 3 g w)), (1, .int p1), (2, .int a2)] → W p l e rX3_sizeOf s m args below meth c H locs 0 0 Q (F0 m 2 ls []) := by
    intro n
    induction n with
    | zero =>
      intro h a2 hf H locs ls hM hS hl
      rw [xX3_sizeOf_L2] at hf
      cases hf
    | succ n ih =>
      intro h a2 hf H locs ls hM hS hl
      rw [xX3_sizeOf_L2] at hf
      refine lv_iload_n hx hb dX3_sizeOf_2 rfl (lv_at hl 2 rfl) ?_
      refine lv_aload_n hx hb dX3_sizeOf_3 rfl (lv_at hl 0 rfl) ?_
      refine z_get (own := RX3) (C := RX3) (T := TX3) (N := 3) (ci := 2) (v := .int (h (23 + w) 0)) hx hb hL inX3 hown hK hM (dm_3 (g := g) (i := w) hg hw) (ze_3 G V g w h) rfl 2 (by decide) (hL _ zw1_44) rfl rfl dX3_sizeOf_4 ?_
      refine lv_icmp_ge (tgt := 39) hx hb dX3_sizeOf_7 (by decide) (fun c1 => ?_) (fun c1 => ?_)
      · replace hf := ift hf c1
        refine lv_iconst (v := -1) hx hb dX3_sizeOf_39 (by decide) ?_
        exact hQf hf hM hS dX3_sizeOf_40
      · replace hf := iff_ hf c1
        refine lv_iload_n hx hb dX3_sizeOf_10 rfl (lv_at hl 2 rfl) ?_
        refine lv_bipush (v := 10) hx hb dX3_sizeOf_11 (by decide) ?_
        refine lv_icmp_ge (tgt := 39) hx hb dX3_sizeOf_13 (by decide) (fun c2 => ?_) (fun c2 => ?_)
        · replace hf := ift hf c2
          refine lv_iconst (v := -1) hx hb dX3_sizeOf_39 (by decide) ?_
          exact hQf hf hM hS dX3_sizeOf_40
        · replace hf := iff_ hf c2
          refine lv_aload_n hx hb dX3_sizeOf_16 rfl (lv_at hl 0 rfl) ?_
          refine z_get (own := RX3) (C := RX3) (T := TX3) (N := 3) (ci := 2) (v := .ref (gA G 6 g w)) hx hb hL inX3 hown hK hM (dm_3 (g := g) (i := w) hg hw) (ze_3 G V g w h) rfl 0 (by decide) (hL _ zw1_42) rfl rfl dX3_sizeOf_17 ?_
          refine lv_iload_n hx hb dX3_sizeOf_20 rfl (lv_at hl 2 rfl) ?_
          obtain ⟨hb3, hf⟩ := grd_some hf
          refine z_iald hx hb hK hM (dm_6 (g := g) (i := w) hg hw) (ze_6 G V g w h) (inb_in hb3) dX3_sizeOf_21 ?_
          refine lv_iload_n hx hb dX3_sizeOf_22 rfl (lv_at hl 1 rfl) ?_
          refine lv_icmp_ne (tgt := 33) hx hb dX3_sizeOf_23 (by decide) (fun c4 => ?_) (fun c4 => ?_)
          · replace hf := iff_ hf c4
            obtain ⟨y5, ey5⟩ : ∃ y : Int32, y = a2 + (1 : Int32) := ⟨_, rfl⟩
            replace hf := ltI_some hf ey5
            refine lv_iinc (v := y5) (lv' := [(2, .int y5), (0, .ref (gA G 3 g w)), (1, .int p1)]) hx hb dX3_sizeOf_33 hl (k := 2) rfl (by rw [ey5]; rfl) (by decide) rfl (fun ls hl => ?_)
            refine lv_goto (tgt := 2) hx hb dX3_sizeOf_36 (by decide) ?_
            exact ih h y5 hf _ _ _ hM hS (lv_sub hl [1, 2, 0] rfl)
          · replace hf := ift hf c4
            refine lv_aload_n hx hb dX3_sizeOf_26 rfl (lv_at hl 0 rfl) ?_
            refine z_get (own := RX3) (C := RX3) (T := TX3) (N := 3) (ci := 2) (v := .ref (gA G 7 g w)) hx hb hL inX3 hown hK hM (dm_3 (g := g) (i := w) hg hw) (ze_3 G V g w h) rfl 1 (by decide) (hL _ zw1_43) rfl rfl dX3_sizeOf_27 ?_
            refine lv_iload_n hx hb dX3_sizeOf_30 rfl (lv_at hl 2 rfl) ?_
            obtain ⟨hb6, hf⟩ := grd_some hf
            refine z_iald hx hb hK hM (dm_7 (g := g) (i := w) hg hw) (ze_7 G V g w h) (inb_in hb6) dX3_sizeOf_31 ?_
            exact hQf hf hM hS dX3_sizeOf_32
  unfold xX3_sizeOf at hf
  refine lv_iconst (v := 0) hx hb dX3_sizeOf_0 (by decide) ?_
  refine lv_istore_n (lv' := [(2, .int (0 : Int32)), (0, .ref (gA G 3 g w)), (1, .int p1)]) hx hb dX3_sizeOf_1 rfl hl (by decide) rfl (fun ls hl => ?_)
  exact L2 1000 h (0 : Int32) hf _ _ _ hM hS (lv_sub hl [1, 2, 0] rfl)
abbrev rX1_endWish : Room := { frames := 1, cells := 0, slots := 0, locals := 23 }
set_option maxRecDepth 100000 in
set_option maxHeartbeats 4000000 in
theorem kX1_endWish (l : Launch) (G : zG) (A : Nat → Prop) (V : zV3) (g : Nat) (hg : g < 7) (h : zV2) (p1 : Int32) {r : Int32} {h' : zV2} (hf : xX1_endWish h p1 = some (r, h')) : zCt l G A yX1_endWish cX1_endWish 3 (some .int) rX1_endWish [.ref (gA G 0 g 0), .int p1] (upG V g h) (some (.int r)) (upG V g h') := by
  refine z_CtI (by decide) (Nat.le_of_ble_eq_true rfl) ?_
  intro p e s m args below meth c Q hx hb hml hown hL hK hM hS hQ ls hl
  replace hl : lv_has ls 3 [(0, .ref (gA G 0 g 0)), (1, .int p1)] := hl
  have hQf : ∀ {a : Int32} {k : zV2} {H : Heap} {locs : List Loc} {pc : Nat} {ls : Array Slot}, some (a, k) = some (r, h') → zM G (upG V g k) H → va_S A s.heap H locs → decode cX1_endWish pc = .ok (.ireturn, 1) → W p l e rX1_endWish s m args below meth c H locs 0 0 Q (F0 m pc ls [.int a]) := by
    intro a k H locs pc ls e1 hM hS hd
    cases e1
    exact hQ H locs pc ls hM hS hd
  unfold xX1_endWish at hf
  refine lv_aload_n hx hb dX1_endWish_0 rfl (lv_at hl 0 rfl) ?_
  refine lv_iload_n hx hb dX1_endWish_1 rfl (lv_at hl 1 rfl) ?_
  obtain ⟨r1, h3, hc2, hf⟩ := bnd_some hf
  refine z_callV (As := [.int p1]) (rest := []) (C := RX1) hx hb hml hown hL hK hM hS (kX1_personAt l G A V g hg h p1 hc2) (zg_X1_personAt zw2_85) zv_X1_personAt ⟨rfl, rfl⟩ ⟨Nat.le_of_ble_eq_true rfl, Nat.le_of_ble_eq_true rfl⟩ (hM.recv hK (dm_0 (g := g) (i := 0) hg rfl) (ze_0 G V g 0 h) rfl) rfl hl.1 rfl (Nat.le_of_ble_eq_true rfl) dX1_endWish_2 ⟨Nat.zero_le _, Nat.zero_le _⟩ (fun H locs hM hS => ?_)
  cases r1 with
  | none =>
    replace hf := optm_none hf
    refine W.eq (g2 := F0 m 5 ls [.null]) rfl ?_
    refine lv_ifnonnullN hx hb dX1_endWish_5 ?_
    refine lv_iconst (v := -1) hx hb dX1_endWish_8 (by decide) ?_
    exact hQf hf hM hS dX1_endWish_9
  | some q4 =>
    replace hf := optm_s hf
    obtain ⟨hq4, hf⟩ := grd_some hf
    replace hq4 := of_decide_eq_true hq4
    refine W.eq (g2 := F0 m 5 ls [.ref (gA G 9 g q4)]) rfl ?_
    refine lv_ifnonnull (tgt := 10) hx hb dX1_endWish_5 (by decide) ?_
    refine lv_aload_n hx hb dX1_endWish_10 rfl (lv_at hl 0 rfl) ?_
    refine z_get (own := RX1) (C := RX1) (T := TX1) (N := 10) (ci := 0) (v := .ref (gA G 3 g 1)) hx hb hL inX1 hown hK hM (dm_0 (g := g) (i := 0) hg rfl) (ze_0 G V g 0 h3) rfl 3 (by decide) (hL _ zw1_132) rfl rfl dX1_endWish_11 ?_
    refine lv_iload_n hx hb dX1_endWish_14 rfl (lv_at hl 1 rfl) ?_
    obtain ⟨r5, h7, hc6, hf⟩ := bnd_some hf
    refine z_callV (As := [.int p1]) (rest := []) (C := RX3) hx hb hml hown hL hK hM hS (kX3_sizeOf l G A V g hg 1 (by decide) h3 p1 hc6) (zg_X3_sizeOf zw2_173) zv_X3_sizeOf ⟨rfl, rfl⟩ ⟨Nat.le_of_ble_eq_true rfl, Nat.le_of_ble_eq_true rfl⟩ (hM.recv hK (dm_3 (g := g) (i := 1) hg (by decide)) (ze_3 G V g 1 h3) rfl) rfl hl.1 rfl (Nat.le_of_ble_eq_true rfl) dX1_endWish_15 ⟨Nat.zero_le _, Nat.zero_le _⟩ (fun H locs hM hS => ?_)
    refine W.eq (g2 := F0 m 18 ls [.int r5]) rfl ?_
    refine lv_istore_n (lv' := [(2, .int r5), (0, .ref (gA G 0 g 0)), (1, .int p1)]) hx hb dX1_endWish_18 rfl hl (by decide) rfl (fun ls hl => ?_)
    refine lv_iload_n hx hb dX1_endWish_19 rfl (lv_at hl 0 rfl) ?_
    refine lv_iconst (v := -1) hx hb dX1_endWish_20 (by decide) ?_
    refine lv_icmp_ne (tgt := 27) hx hb dX1_endWish_21 (by decide) (fun c8 => ?_) (fun c8 => ?_)
    · replace hf := iff_ hf c8
      refine lv_aload_n hx hb dX1_endWish_27 rfl (lv_at hl 1 rfl) ?_
      refine z_get (own := RX1) (C := RX1) (T := TX1) (N := 10) (ci := 0) (v := .ref (gA G 3 g 1)) hx hb hL inX1 hown hK hM (dm_0 (g := g) (i := 0) hg rfl) (ze_0 G V g 0 h7) rfl 3 (by decide) (hL _ zw1_132) rfl rfl dX1_endWish_28 ?_
      refine lv_iload_n hx hb dX1_endWish_31 rfl (lv_at hl 2 rfl) ?_
      obtain ⟨r9, h11, hc10, hf⟩ := bnd_some hf
      refine z_callV (As := [.int p1]) (rest := []) (C := RX3) hx hb hml hown hL hK hM hS (kX3_remove l G A V g hg 1 (by decide) h7 p1 hc10) (zg_X3_remove zw2_93) zv_X3_remove ⟨rfl, rfl⟩ ⟨Nat.le_of_ble_eq_true rfl, Nat.le_of_ble_eq_true rfl⟩ (hM.recv hK (dm_3 (g := g) (i := 1) hg (by decide)) (ze_3 G V g 1 h7) rfl) rfl hl.1 rfl (Nat.le_of_ble_eq_true rfl) dX1_endWish_32 ⟨Nat.zero_le _, Nat.zero_le _⟩ (fun H locs hM hS => ?_)
      refine W.eq (g2 := F0 m 35 ls []) rfl ?_
      refine lv_iload_n hx hb dX1_endWish_35 rfl (lv_at hl 0 rfl) ?_
      exact hQf hf hM hS dX1_endWish_36
    · replace hf := ift hf c8
      refine lv_bipush (v := -2) hx hb dX1_endWish_24 (by decide) ?_
      exact hQf hf hM hS dX1_endWish_26
abbrev rX1_wants : Room := { frames := 1, cells := 0, slots := 0, locals := 22 }
set_option maxRecDepth 100000 in
set_option maxHeartbeats 4000000 in
theorem kX1_wants (l : Launch) (G : zG) (A : Nat → Prop) (V : zV3) (g : Nat) (hg : g < 7) (n1 : Nat) (hn1 : n1 < 10) (n2 : Nat) (hn2 : n2 < 10) (h : zV2) {r : Int32} {h' : zV2} (hf : xX1_wants n1 n2 h  = some (r, h')) : zCt l G A yX1_wants cX1_wants 4 (some .boolean) rX1_wants [.ref (gA G 0 g 0), .ref (gA G 9 g n1), .ref (gA G 9 g n2)] (upG V g h) (some (.int r)) (upG V g h') := by
  refine z_CtZ (by decide) (Nat.le_of_ble_eq_true rfl) ?_
  intro p e s m args below meth c Q hx hb hml hown hL hK hM hS hQ ls hl
  replace hl : lv_has ls 4 [(0, .ref (gA G 0 g 0)), (1, .ref (gA G 9 g n1)), (2, .ref (gA G 9 g n2))] := hl
  have hQf : ∀ {a : Int32} {k : zV2} {H : Heap} {locs : List Loc} {pc : Nat} {ls : Array Slot}, narrow .boolean (.int a) = .int a → some (a, k) = some (r, h') → zM G (upG V g k) H → va_S A s.heap H locs → decode cX1_wants pc = .ok (.ireturn, 1) → W p l e rX1_wants s m args below meth c H locs 0 0 Q (F0 m pc ls [.int a]) := by
    intro a k H locs pc ls hnr e1 hM hS hd
    cases e1
    exact hQ H locs pc ls hnr hM hS hd
  unfold xX1_wants at hf
  refine lv_aload_n hx hb dX1_wants_0 rfl (lv_at hl 0 rfl) ?_
  refine lv_aload_n hx hb dX1_wants_1 rfl (lv_at hl 2 rfl) ?_
  refine z_getN (own := RX1) (C := RX5) (T := TX5) (N := 8) (ci := 4) (v := .int (h 6 n2)) hx hb hL inX5 hown hK hM (dm_9 (g := g) (i := n2) hg hn2) (ze_9 G V g n2 h) rfl 1 (by decide) 21 rfl rfl rfl dX1_wants_2 ?_
  obtain ⟨r1, h3, hc2, hf⟩ := bnd_some hf
  refine z_callV (As := [.int (h 6 n2)]) (rest := []) (C := RX1) hx hb hml hown hL hK hM hS (kX1_lockerAt l G A V g hg h (h 6 n2) hc2) (zg_X1_lockerAt zw2_69) zv_X1_lockerAt ⟨rfl, rfl⟩ ⟨Nat.le_of_ble_eq_true rfl, Nat.le_of_ble_eq_true rfl⟩ (hM.recv hK (dm_0 (g := g) (i := 0) hg rfl) (ze_0 G V g 0 h) rfl) rfl hl.1 rfl (Nat.le_of_ble_eq_true rfl) dX1_wants_5 ⟨Nat.zero_le _, Nat.zero_le _⟩ (fun H locs hM hS => ?_)
  cases r1 with
  | none =>
    replace hf := optm_none hf
    refine W.eq (g2 := F0 m 8 ls [.null]) rfl ?_
    refine lv_astore_nN (lv' := [(3, .null), (0, .ref (gA G 0 g 0)), (1, .ref (gA G 9 g n1)), (2, .ref (gA G 9 g n2))]) hx hb dX1_wants_8 rfl hl (by decide) rfl (fun ls hl => ?_)
    refine lv_aload_nN hx hb dX1_wants_9 rfl (lv_at hl 0 rfl) ?_
    refine lv_ifnullN (tgt := 35) hx hb dX1_wants_10 (by decide) ?_
    refine lv_iconst (v := 0) hx hb dX1_wants_35 (by decide) ?_
    exact hQf rfl hf hM hS dX1_wants_36
  | some q4 =>
    replace hf := optm_s hf
    obtain ⟨hq4, hf⟩ := grd_some hf
    replace hq4 := of_decide_eq_true hq4
    refine W.eq (g2 := F0 m 8 ls [.ref (gA G 8 g q4)]) rfl ?_
    refine lv_astore_n (lv' := [(3, .ref (gA G 8 g q4)), (0, .ref (gA G 0 g 0)), (1, .ref (gA G 9 g n1)), (2, .ref (gA G 9 g n2))]) hx hb dX1_wants_8 rfl hl (by decide) rfl (fun ls hl => ?_)
    refine lv_aload_n hx hb dX1_wants_9 rfl (lv_at hl 0 rfl) ?_
    refine lv_ifnull hx hb dX1_wants_10 ?_
    refine lv_aload_n hx hb dX1_wants_13 rfl (lv_at hl 1 rfl) ?_
    refine z_get (own := RX1) (C := RX1) (T := TX1) (N := 10) (ci := 0) (v := .ref (gA G 3 g 1)) hx hb hL inX1 hown hK hM (dm_0 (g := g) (i := 0) hg rfl) (ze_0 G V g 0 h3) rfl 3 (by decide) (hL _ zw1_132) rfl rfl dX1_wants_14 ?_
    refine lv_aload_n hx hb dX1_wants_17 rfl (lv_at hl 2 rfl) ?_
    refine z_getN (own := RX1) (C := RX5) (T := TX5) (N := 8) (ci := 4) (v := .int (nI n1)) hx hb hL inX5 hown hK hM (dm_9 (g := g) (i := n1) hg hn1) (ze_9 G V g n1 h3) rfl 0 (by decide) 16 rfl rfl rfl dX1_wants_18 ?_
    obtain ⟨r5, h7, hc6, hf⟩ := bnd_some hf
    refine z_callV (As := [.int (nI n1)]) (rest := []) (C := RX3) hx hb hml hown hL hK hM hS (kX3_sizeOf l G A V g hg 1 (by decide) h3 (nI n1) hc6) (zg_X3_sizeOf zw2_173) zv_X3_sizeOf ⟨rfl, rfl⟩ ⟨Nat.le_of_ble_eq_true rfl, Nat.le_of_ble_eq_true rfl⟩ (hM.recv hK (dm_3 (g := g) (i := 1) hg (by decide)) (ze_3 G V g 1 h3) rfl) rfl hl.1 rfl (Nat.le_of_ble_eq_true rfl) dX1_wants_21 ⟨Nat.zero_le _, Nat.zero_le _⟩ (fun H locs hM hS => ?_)
    refine W.eq (g2 := F0 m 24 ls [.int r5]) rfl ?_
    refine lv_aload_n hx hb dX1_wants_24 rfl (lv_at hl 0 rfl) ?_
    refine z_getN (own := RX1) (C := RX4) (T := TX4) (N := 7) (ci := 3) (v := .int (h7 0 q4)) hx hb hL inX4 hown hK hM (dm_8 (g := g) (i := q4) hg hq4) (ze_8 G V g q4 h7) rfl 1 (by decide) 22 rfl rfl rfl dX1_wants_25 ?_
    refine lv_icmp_ne (tgt := 35) hx hb dX1_wants_28 (by decide) (fun c8 => ?_) (fun c8 => ?_)
    · replace hf := iff_ hf c8
      refine lv_iconst (v := 0) hx hb dX1_wants_35 (by decide) ?_
      exact hQf rfl hf hM hS dX1_wants_36
    · replace hf := ift hf c8
      refine lv_iconst (v := 1) hx hb dX1_wants_31 (by decide) ?_
      refine lv_goto (tgt := 36) hx hb dX1_wants_32 (by decide) ?_
      exact hQf rfl hf hM hS dX1_wants_36
abbrev rX1_findRing : Room := { frames := 2, cells := 0, slots := 0, locals := 45 }
set_option maxRecDepth 100000 in
set_option maxHeartbeats 4000000 in
theorem kX1_findRing (l : Launch) (G : zG) (A : Nat → Prop) (V : zV3) (g : Nat) (hg : g < 7) (h : zV2) {r : Int32} {h' : zV2} (hf : xX1_findRing h  = some (r, h')) : zCt l G A yX1_findRing cX1_findRing 4 (some .int) rX1_findRing [.ref (gA G 0 g 0)] (upG V g h) (some (.int r)) (upG V g h') := by
  refine z_CtI (by decide) (Nat.le_of_ble_eq_true rfl) ?_
  intro p e s m args below meth c Q hx hb hml hown hL hK hM hS hQ ls hl
  replace hl : lv_has ls 4 [(0, .ref (gA G 0 g 0))] := hl
  have hQf : ∀ {a : Int32} {k : zV2} {H : Heap} {locs : List Loc} {pc : Nat} {ls : Array Slot}, some (a, k) = some (r, h') → zM G (upG V g k) H → va_S A s.heap H locs → decode cX1_findRing pc = .ok (.ireturn, 1) → W p l e rX1_findRing s m args below meth c H locs 0 0 Q (F0 m pc ls [.int a]) := by
    intro a k H locs pc ls e1 hM hS hd
    cases e1
    exact hQ H locs pc ls hM hS hd
  have L79 : ∀ (K2 : zV2 → Int32 → Option (Int32 × zV2)), (∀ (h : zV2) (a1 : Int32), K2 h a1 = some (r, h') → ∀ (H : Heap) (locs : List Loc) (ls : Array Slot), zM G (upG V g h) H → va_S A s.heap H locs → lv_has ls 4 [(0, .ref (gA G 0 g 0)), (1, .int a1)] → W p l e rX1_findRing s m args below meth c H locs 0 0 Q (F0 m 2 ls [])) → ∀ (K12 : zV2 → Int32 → Int32 → Option (Int32 × zV2)), (∀ (h : zV2) (a1 : Int32) (a2 : Int32), K12 h a1 a2 = some (r, h') → ∀ (H : Heap) (locs : List Loc) (ls : Array Slot), zM G (upG V g h) H → va_S A s.heap H locs → lv_has ls 4 [(0, .ref (gA G 0 g 0)), (1, .int a1), (2, .int a2)] → W p l e rX1_findRing s m args below meth c H locs 0 0 Q (F0 m 12 ls [])) → ∀ (n : Nat) (h : zV2) (a1 : Int32) (a2 : Int32) (a3 : Int32), xX1_findRing_L79 K2 K12 n h a1 a2 a3 = some (r, h') → ∀ (H : Heap) (locs : List Loc) (ls : Array Slot), zM G (upG V g h) H → va_S A s.heap H locs → lv_has ls 4 [(0, .ref (gA G 0 g 0)), (1, .int a1), (2, .int a2), (3, .int a3)] → W p l e rX1_findRing s m args below meth c H locs 0 0 Q (F0 m 79 ls []) := by
    intro K2 hK2 K12 hK12
    intro n
    induction n with
    | zero =>
      intro h a1 a2 a3 hf H locs ls hM hS hl
      rw [xX1_findRing_L79] at hf
      cases hf
    | succ n ih =>
      intro h a1 a2 a3 hf H locs ls hM hS hl
      rw [xX1_findRing_L79] at hf
      refine lv_iload_n hx hb dX1_findRing_79 rfl (lv_at hl 3 rfl) ?_
      refine lv_bipush (v := 10) hx hb dX1_findRing_80 (by decide) ?_
      refine lv_icmp_ge (tgt := 143) hx hb dX1_findRing_82 (by decide) (fun c1 => ?_) (fun c1 => ?_)
      · replace hf := ift hf c1
        obtain ⟨y2, ey2⟩ : ∃ y : Int32, y = a2 + (1 : Int32) := ⟨_, rfl⟩
        replace hf := ltI_some hf ey2
        refine lv_iinc (v := y2) (lv' := [(2, .int y2), (0, .ref (gA G 0 g 0)), (1, .int a1), (3, .int a3)]) hx hb dX1_findRing_143 hl (k := 2) rfl (by rw [ey2]; rfl) (by decide) rfl (fun ls hl => ?_)
        refine lv_goto (tgt := 12) hx hb dX1_findRing_146 (by decide) ?_
        exact hK12 h a1 y2 hf _ _ _ hM hS (lv_sub hl [1, 2, 0] rfl)
      · replace hf := iff_ hf c1
        refine lv_iload_n hx hb dX1_findRing_85 rfl (lv_at hl 3 rfl) ?_
        refine lv_iload_n hx hb dX1_findRing_86 rfl (lv_at hl 2 rfl) ?_
        refine lv_icmp_eq (tgt := 137) hx hb dX1_findRing_87 (by decide) (fun c3 => ?_) (fun c3 => ?_)
        · replace hf := ift hf c3
          obtain ⟨y4, ey4⟩ : ∃ y : Int32, y = a3 + (1 : Int32) := ⟨_, rfl⟩
          replace hf := ltI_some hf ey4
          refine lv_iinc (v := y4) (lv' := [(3, .int y4), (0, .ref (gA G 0 g 0)), (1, .int a1), (2, .int a2)]) hx hb dX1_findRing_137 hl (k := 3) rfl (by rw [ey4]; rfl) (by decide) rfl (fun ls hl => ?_)
          refine lv_goto (tgt := 79) hx hb dX1_findRing_140 (by decide) ?_
          exact ih h a1 a2 y4 hf _ _ _ hM hS (lv_sub hl [1, 2, 3, 0] rfl)
        · replace hf := iff_ hf c3
          refine lv_aload_n hx hb dX1_findRing_90 rfl (lv_at hl 0 rfl) ?_
          refine lv_aload_n hx hb dX1_findRing_91 rfl (lv_at hl 0 rfl) ?_
          refine z_get (own := RX1) (C := RX1) (T := TX1) (N := 10) (ci := 0) (v := .ref (gA G 2 g 0)) hx hb hL inX1 hown hK hM (dm_0 (g := g) (i := 0) hg rfl) (ze_0 G V g 0 h) rfl 1 (by decide) (hL _ zw1_129) rfl rfl dX1_findRing_92 ?_
          refine lv_iload_n hx hb dX1_findRing_95 rfl (lv_at hl 2 rfl) ?_
          obtain ⟨hb5, hf⟩ := grd_some hf
          refine z_aald hx hb hK hM (dm_2 (g := g) (i := 0) hg rfl) 3 (zd_2 G (upG V g h) g 0) rfl (inb_in hb5) dX1_findRing_96 ?_
          refine lv_aload_n hx hb dX1_findRing_97 rfl (lv_at hl 0 rfl) ?_
          refine z_get (own := RX1) (C := RX1) (T := TX1) (N := 10) (ci := 0) (v := .ref (gA G 2 g 0)) hx hb hL inX1 hown hK hM (dm_0 (g := g) (i := 0) hg rfl) (ze_0 G V g 0 h) rfl 1 (by decide) (hL _ zw1_129) rfl rfl dX1_findRing_98 ?_
          refine lv_iload_n hx hb dX1_findRing_101 rfl (lv_at hl 3 rfl) ?_
          obtain ⟨hb6, hf⟩ := grd_some hf
          refine z_aald hx hb hK hM (dm_2 (g := g) (i := 0) hg rfl) 3 (zd_2 G (upG V g h) g 0) rfl (inb_in hb6) dX1_findRing_102 ?_
          obtain ⟨r7, h9, hc8, hf⟩ := bnd_some hf
          refine z_callV (As := [.ref (gA G 9 g a2.toNatClampNeg), .ref (gA G 9 g a3.toNatClampNeg)]) (rest := []) (C := RX1) hx hb hml hown hL hK hM hS (kX1_wants l G A V g hg a2.toNatClampNeg (inb_lt hb5) a3.toNatClampNeg (inb_lt hb6) h hc8) (zg_X1_wants zw2_209) zv_X1_wants ⟨rfl, rfl⟩ ⟨Nat.le_of_ble_eq_true rfl, Nat.le_of_ble_eq_true rfl⟩ (hM.recv hK (dm_0 (g := g) (i := 0) hg rfl) (ze_0 G V g 0 h) rfl) rfl hl.1 rfl (Nat.le_of_ble_eq_true rfl) dX1_findRing_103 ⟨Nat.zero_le _, Nat.zero_le _⟩ (fun H locs hM hS => ?_)
          refine W.eq (g2 := F0 m 106 ls [.int r7]) rfl ?_
          refine lv_if_eq (tgt := 137) hx hb dX1_findRing_106 (by decide) (fun c10 => ?_) (fun c10 => ?_)
          · replace hf := ift hf c10
            obtain ⟨y11, ey11⟩ : ∃ y : Int32, y = a3 + (1 : Int32) := ⟨_, rfl⟩
            replace hf := ltI_some hf ey11
            refine lv_iinc (v := y11) (lv' := [(3, .int y11), (0, .ref (gA G 0 g 0)), (1, .int a1), (2, .int a2)]) hx hb dX1_findRing_137 hl (k := 3) rfl (by rw [ey11]; rfl) (by decide) rfl (fun ls hl => ?_)
            refine lv_goto (tgt := 79) hx hb dX1_findRing_140 (by decide) ?_
            exact ih h9 a1 a2 y11 hf _ _ _ hM hS (lv_sub hl [1, 2, 3, 0] rfl)
          · replace hf := iff_ hf c10
            refine lv_aload_n hx hb dX1_findRing_109 rfl (lv_at hl 0 rfl) ?_
            refine lv_aload_n hx hb dX1_findRing_110 rfl (lv_at hl 0 rfl) ?_
            refine z_get (own := RX1) (C := RX1) (T := TX1) (N := 10) (ci := 0) (v := .ref (gA G 2 g 0)) hx hb hL inX1 hown hK hM (dm_0 (g := g) (i := 0) hg rfl) (ze_0 G V g 0 h9) rfl 1 (by decide) (hL _ zw1_129) rfl rfl dX1_findRing_111 ?_
            refine lv_iload_n hx hb dX1_findRing_114 rfl (lv_at hl 3 rfl) ?_
            obtain ⟨hb12, hf⟩ := grd_some hf
            refine z_aald hx hb hK hM (dm_2 (g := g) (i := 0) hg rfl) 3 (zd_2 G (upG V g h9) g 0) rfl (inb_in hb12) dX1_findRing_115 ?_
            refine lv_aload_n hx hb dX1_findRing_116 rfl (lv_at hl 0 rfl) ?_
            refine z_get (own := RX1) (C := RX1) (T := TX1) (N := 10) (ci := 0) (v := .ref (gA G 2 g 0)) hx hb hL inX1 hown hK hM (dm_0 (g := g) (i := 0) hg rfl) (ze_0 G V g 0 h9) rfl 1 (by decide) (hL _ zw1_129) rfl rfl dX1_findRing_117 ?_
            refine lv_iload_n hx hb dX1_findRing_120 rfl (lv_at hl 1 rfl) ?_
            obtain ⟨hb13, hf⟩ := grd_some hf
            refine z_aald hx hb hK hM (dm_2 (g := g) (i := 0) hg rfl) 3 (zd_2 G (upG V g h9) g 0) rfl (inb_in hb13) dX1_findRing_121 ?_
            obtain ⟨r14, h16, hc15, hf⟩ := bnd_some hf
            refine z_callV (As := [.ref (gA G 9 g a3.toNatClampNeg), .ref (gA G 9 g a1.toNatClampNeg)]) (rest := []) (C := RX1) hx hb hml hown hL hK hM hS (kX1_wants l G A V g hg a3.toNatClampNeg (inb_lt hb12) a1.toNatClampNeg (inb_lt hb13) h9 hc15) (zg_X1_wants zw2_209) zv_X1_wants ⟨rfl, rfl⟩ ⟨Nat.le_of_ble_eq_true rfl, Nat.le_of_ble_eq_true rfl⟩ (hM.recv hK (dm_0 (g := g) (i := 0) hg rfl) (ze_0 G V g 0 h9) rfl) rfl hl.1 rfl (Nat.le_of_ble_eq_true rfl) dX1_findRing_122 ⟨Nat.zero_le _, Nat.zero_le _⟩ (fun H locs hM hS => ?_)
            refine W.eq (g2 := F0 m 125 ls [.int r14]) rfl ?_
            refine lv_if_eq (tgt := 137) hx hb dX1_findRing_125 (by decide) (fun c17 => ?_) (fun c17 => ?_)
            · replace hf := ift hf c17
              obtain ⟨y18, ey18⟩ : ∃ y : Int32, y = a3 + (1 : Int32) := ⟨_, rfl⟩
              replace hf := ltI_some hf ey18
              refine lv_iinc (v := y18) (lv' := [(3, .int y18), (0, .ref (gA G 0 g 0)), (1, .int a1), (2, .int a2)]) hx hb dX1_findRing_137 hl (k := 3) rfl (by rw [ey18]; rfl) (by decide) rfl (fun ls hl => ?_)
              refine lv_goto (tgt := 79) hx hb dX1_findRing_140 (by decide) ?_
              exact ih h16 a1 a2 y18 hf _ _ _ hM hS (lv_sub hl [1, 2, 3, 0] rfl)
            · replace hf := iff_ hf c17
              refine lv_aload_n hx hb dX1_findRing_128 rfl (lv_at hl 0 rfl) ?_
              refine z_get (own := RX1) (C := RX1) (T := TX1) (N := 10) (ci := 0) (v := .ref (gA G 5 g 0)) hx hb hL inX1 hown hK hM (dm_0 (g := g) (i := 0) hg rfl) (ze_0 G V g 0 h16) rfl 5 (by decide) (hL _ zw1_134) rfl rfl dX1_findRing_129 ?_
              refine lv_iconst (v := 2) hx hb dX1_findRing_132 (by decide) ?_
              refine lv_iload_n hx hb dX1_findRing_133 rfl (lv_at hl 3 rfl) ?_
              obtain ⟨hb19, hf⟩ := grd_some hf
              obtain ⟨h20, eh20⟩ : ∃ y, y = up2 h16 18 ((2 : Int32).toNatClampNeg) a3 := ⟨_, rfl⟩
              replace hf := put2_some hf eh20
              refine z_iast (V' := upG V g h20) hx hb hK hM hS (dm_5 (g := g) (i := 0) hg rfl) (ze_5 G V g 0 h16) (inb_in hb19) (by rw [eh20]; exact zn_5_18 G V g hg h16 ((2 : Int32).toNatClampNeg) a3) dX1_findRing_134 (fun H locs hM hS => ?_)
              refine lv_iconst (v := 3) hx hb dX1_findRing_135 (by decide) ?_
              exact hQf hf hM hS dX1_findRing_136
  have L12 : ∀ (K2 : zV2 → Int32 → Option (Int32 × zV2)), (∀ (h : zV2) (a1 : Int32), K2 h a1 = some (r, h') → ∀ (H : Heap) (locs : List Loc) (ls : Array Slot), zM G (upG V g h) H → va_S A s.heap H locs → lv_has ls 4 [(0, .ref (gA G 0 g 0)), (1, .int a1)] → W p l e rX1_findRing s m args below meth c H locs 0 0 Q (F0 m 2 ls [])) → ∀ (n : Nat) (h : zV2) (a1 : Int32) (a2 : Int32), xX1_findRing_L12 K2 n h a1 a2 = some (r, h') → ∀ (H : Heap) (locs : List Loc) (ls : Array Slot), zM G (upG V g h) H → va_S A s.heap H locs → lv_has ls 4 [(0, .ref (gA G 0 g 0)), (1, .int a1), (2, .int a2)] → W p l e rX1_findRing s m args below meth c H locs 0 0 Q (F0 m 12 ls []) := by
    intro K2 hK2
    intro n
    induction n with
    | zero =>
      intro h a1 a2 hf H locs ls hM hS hl
      rw [xX1_findRing_L12] at hf
      cases hf
    | succ n ih =>
      intro h a1 a2 hf H locs ls hM hS hl
      rw [xX1_findRing_L12] at hf
      refine lv_iload_n hx hb dX1_findRing_12 rfl (lv_at hl 2 rfl) ?_
      refine lv_bipush (v := 10) hx hb dX1_findRing_13 (by decide) ?_
      refine lv_icmp_ge (tgt := 149) hx hb dX1_findRing_15 (by decide) (fun c1 => ?_) (fun c1 => ?_)
      · replace hf := ift hf c1
        obtain ⟨y2, ey2⟩ : ∃ y : Int32, y = a1 + (1 : Int32) := ⟨_, rfl⟩
        replace hf := ltI_some hf ey2
        refine lv_iinc (v := y2) (lv' := [(1, .int y2), (0, .ref (gA G 0 g 0)), (2, .int a2)]) hx hb dX1_findRing_149 hl (k := 1) rfl (by rw [ey2]; rfl) (by decide) rfl (fun ls hl => ?_)
        refine lv_goto (tgt := 2) hx hb dX1_findRing_152 (by decide) ?_
        exact hK2 h y2 hf _ _ _ hM hS (lv_sub hl [1, 0] rfl)
      · replace hf := iff_ hf c1
        refine lv_aload_n hx hb dX1_findRing_18 rfl (lv_at hl 0 rfl) ?_
        refine lv_aload_n hx hb dX1_findRing_19 rfl (lv_at hl 0 rfl) ?_
        refine z_get (own := RX1) (C := RX1) (T := TX1) (N := 10) (ci := 0) (v := .ref (gA G 2 g 0)) hx hb hL inX1 hown hK hM (dm_0 (g := g) (i := 0) hg rfl) (ze_0 G V g 0 h) rfl 1 (by decide) (hL _ zw1_129) rfl rfl dX1_findRing_20 ?_
        refine lv_iload_n hx hb dX1_findRing_23 rfl (lv_at hl 1 rfl) ?_
        obtain ⟨hb3, hf⟩ := grd_some hf
        refine z_aald hx hb hK hM (dm_2 (g := g) (i := 0) hg rfl) 3 (zd_2 G (upG V g h) g 0) rfl (inb_in hb3) dX1_findRing_24 ?_
        refine lv_aload_n hx hb dX1_findRing_25 rfl (lv_at hl 0 rfl) ?_
        refine z_get (own := RX1) (C := RX1) (T := TX1) (N := 10) (ci := 0) (v := .ref (gA G 2 g 0)) hx hb hL inX1 hown hK hM (dm_0 (g := g) (i := 0) hg rfl) (ze_0 G V g 0 h) rfl 1 (by decide) (hL _ zw1_129) rfl rfl dX1_findRing_26 ?_
        refine lv_iload_n hx hb dX1_findRing_29 rfl (lv_at hl 2 rfl) ?_
        obtain ⟨hb4, hf⟩ := grd_some hf
        refine z_aald hx hb hK hM (dm_2 (g := g) (i := 0) hg rfl) 3 (zd_2 G (upG V g h) g 0) rfl (inb_in hb4) dX1_findRing_30 ?_
        obtain ⟨r5, h7, hc6, hf⟩ := bnd_some hf
        refine z_callV (As := [.ref (gA G 9 g a1.toNatClampNeg), .ref (gA G 9 g a2.toNatClampNeg)]) (rest := []) (C := RX1) hx hb hml hown hL hK hM hS (kX1_wants l G A V g hg a1.toNatClampNeg (inb_lt hb3) a2.toNatClampNeg (inb_lt hb4) h hc6) (zg_X1_wants zw2_209) zv_X1_wants ⟨rfl, rfl⟩ ⟨Nat.le_of_ble_eq_true rfl, Nat.le_of_ble_eq_true rfl⟩ (hM.recv hK (dm_0 (g := g) (i := 0) hg rfl) (ze_0 G V g 0 h) rfl) rfl hl.1 rfl (Nat.le_of_ble_eq_true rfl) dX1_findRing_31 ⟨Nat.zero_le _, Nat.zero_le _⟩ (fun H locs hM hS => ?_)
        refine W.eq (g2 := F0 m 34 ls [.int r5]) rfl ?_
        refine lv_if_ne (tgt := 40) hx hb dX1_findRing_34 (by decide) (fun c8 => ?_) (fun c8 => ?_)
        · replace hf := iff_ hf c8
          refine lv_aload_n hx hb dX1_findRing_40 rfl (lv_at hl 0 rfl) ?_
          refine z_get (own := RX1) (C := RX1) (T := TX1) (N := 10) (ci := 0) (v := .ref (gA G 5 g 0)) hx hb hL inX1 hown hK hM (dm_0 (g := g) (i := 0) hg rfl) (ze_0 G V g 0 h7) rfl 5 (by decide) (hL _ zw1_134) rfl rfl dX1_findRing_41 ?_
          refine lv_iconst (v := 0) hx hb dX1_findRing_44 (by decide) ?_
          refine lv_iload_n hx hb dX1_findRing_45 rfl (lv_at hl 1 rfl) ?_
          obtain ⟨hb9, hf⟩ := grd_some hf
          obtain ⟨h10, eh10⟩ : ∃ y, y = up2 h7 18 ((0 : Int32).toNatClampNeg) a1 := ⟨_, rfl⟩
          replace hf := put2_some hf eh10
          refine z_iast (V' := upG V g h10) hx hb hK hM hS (dm_5 (g := g) (i := 0) hg rfl) (ze_5 G V g 0 h7) (inb_in hb9) (by rw [eh10]; exact zn_5_18 G V g hg h7 ((0 : Int32).toNatClampNeg) a1) dX1_findRing_46 (fun H locs hM hS => ?_)
          refine lv_aload_n hx hb dX1_findRing_47 rfl (lv_at hl 0 rfl) ?_
          refine z_get (own := RX1) (C := RX1) (T := TX1) (N := 10) (ci := 0) (v := .ref (gA G 5 g 0)) hx hb hL inX1 hown hK hM (dm_0 (g := g) (i := 0) hg rfl) (ze_0 G V g 0 h10) rfl 5 (by decide) (hL _ zw1_134) rfl rfl dX1_findRing_48 ?_
          refine lv_iconst (v := 1) hx hb dX1_findRing_51 (by decide) ?_
          refine lv_iload_n hx hb dX1_findRing_52 rfl (lv_at hl 2 rfl) ?_
          obtain ⟨hb11, hf⟩ := grd_some hf
          obtain ⟨h12, eh12⟩ : ∃ y, y = up2 h10 18 ((1 : Int32).toNatClampNeg) a2 := ⟨_, rfl⟩
          replace hf := put2_some hf eh12
          refine z_iast (V' := upG V g h12) hx hb hK hM hS (dm_5 (g := g) (i := 0) hg rfl) (ze_5 G V g 0 h10) (inb_in hb11) (by rw [eh12]; exact zn_5_18 G V g hg h10 ((1 : Int32).toNatClampNeg) a2) dX1_findRing_53 (fun H locs hM hS => ?_)
          refine lv_aload_n hx hb dX1_findRing_54 rfl (lv_at hl 0 rfl) ?_
          refine lv_aload_n hx hb dX1_findRing_55 rfl (lv_at hl 0 rfl) ?_
          refine z_get (own := RX1) (C := RX1) (T := TX1) (N := 10) (ci := 0) (v := .ref (gA G 2 g 0)) hx hb hL inX1 hown hK hM (dm_0 (g := g) (i := 0) hg rfl) (ze_0 G V g 0 h12) rfl 1 (by decide) (hL _ zw1_129) rfl rfl dX1_findRing_56 ?_
          refine lv_iload_n hx hb dX1_findRing_59 rfl (lv_at hl 2 rfl) ?_
          obtain ⟨hb13, hf⟩ := grd_some hf
          refine z_aald hx hb hK hM (dm_2 (g := g) (i := 0) hg rfl) 3 (zd_2 G (upG V g h12) g 0) rfl (inb_in hb13) dX1_findRing_60 ?_
          refine lv_aload_n hx hb dX1_findRing_61 rfl (lv_at hl 0 rfl) ?_
          refine z_get (own := RX1) (C := RX1) (T := TX1) (N := 10) (ci := 0) (v := .ref (gA G 2 g 0)) hx hb hL inX1 hown hK hM (dm_0 (g := g) (i := 0) hg rfl) (ze_0 G V g 0 h12) rfl 1 (by decide) (hL _ zw1_129) rfl rfl dX1_findRing_62 ?_
          refine lv_iload_n hx hb dX1_findRing_65 rfl (lv_at hl 1 rfl) ?_
          obtain ⟨hb14, hf⟩ := grd_some hf
          refine z_aald hx hb hK hM (dm_2 (g := g) (i := 0) hg rfl) 3 (zd_2 G (upG V g h12) g 0) rfl (inb_in hb14) dX1_findRing_66 ?_
          obtain ⟨r15, h17, hc16, hf⟩ := bnd_some hf
          refine z_callV (As := [.ref (gA G 9 g a2.toNatClampNeg), .ref (gA G 9 g a1.toNatClampNeg)]) (rest := []) (C := RX1) hx hb hml hown hL hK hM hS (kX1_wants l G A V g hg a2.toNatClampNeg (inb_lt hb13) a1.toNatClampNeg (inb_lt hb14) h12 hc16) (zg_X1_wants zw2_209) zv_X1_wants ⟨rfl, rfl⟩ ⟨Nat.le_of_ble_eq_true rfl, Nat.le_of_ble_eq_true rfl⟩ (hM.recv hK (dm_0 (g := g) (i := 0) hg rfl) (ze_0 G V g 0 h12) rfl) rfl hl.1 rfl (Nat.le_of_ble_eq_true rfl) dX1_findRing_67 ⟨Nat.zero_le _, Nat.zero_le _⟩ (fun H locs hM hS => ?_)
          refine W.eq (g2 := F0 m 70 ls [.int r15]) rfl ?_
          refine lv_if_eq (tgt := 75) hx hb dX1_findRing_70 (by decide) (fun c18 => ?_) (fun c18 => ?_)
          · replace hf := ift hf c18
            refine lv_iload_n hx hb dX1_findRing_75 rfl (lv_at hl 1 rfl) ?_
            refine lv_iconst (v := 1) hx hb dX1_findRing_76 (by decide) ?_
            refine lv_iadd hx hb dX1_findRing_77 ?_
            refine lv_topi (fun y19 ey19 => ?_)
            replace hf := ltI_some hf ey19
            refine lv_istore_n (lv' := [(3, .int y19), (0, .ref (gA G 0 g 0)), (1, .int a1), (2, .int a2)]) hx hb dX1_findRing_78 rfl hl (by decide) rfl (fun ls hl => ?_)
            exact L79 K2 hK2 _ ih 1000 h17 a1 a2 y19 hf _ _ _ hM hS (lv_sub hl [1, 2, 3, 0] rfl)
          · replace hf := iff_ hf c18
            refine lv_iconst (v := 2) hx hb dX1_findRing_73 (by decide) ?_
            exact hQf hf hM hS dX1_findRing_74
        · replace hf := ift hf c8
          refine lv_goto (tgt := 143) hx hb dX1_findRing_37 (by decide) ?_
          obtain ⟨y20, ey20⟩ : ∃ y : Int32, y = a2 + (1 : Int32) := ⟨_, rfl⟩
          replace hf := ltI_some hf ey20
          refine lv_iinc (v := y20) (lv' := [(2, .int y20), (0, .ref (gA G 0 g 0)), (1, .int a1)]) hx hb dX1_findRing_143 hl (k := 2) rfl (by rw [ey20]; rfl) (by decide) rfl (fun ls hl => ?_)
          refine lv_goto (tgt := 12) hx hb dX1_findRing_146 (by decide) ?_
          exact ih h7 a1 y20 hf _ _ _ hM hS (lv_sub hl [1, 2, 0] rfl)
  have L2 : ∀ (n : Nat) (h : zV2) (a1 : Int32), xX1_findRing_L2 n h a1 = some (r, h') → ∀ (H : Heap) (locs : List Loc) (ls : Array Slot), zM G (upG V g h) H → va_S A s.heap H locs → lv_has ls 4 [(0, .ref (gA G 0 g 0)), (1, .int a1)] → W p l e rX1_findRing s m args below meth c H locs 0 0 Q (F0 m 2 ls []) := by
    intro n
    induction n with
    | zero =>
      intro h a1 hf H locs ls hM hS hl
      rw [xX1_findRing_L2] at hf
      cases hf
    | succ n ih =>
      intro h a1 hf H locs ls hM hS hl
      rw [xX1_findRing_L2] at hf
      refine lv_iload_n hx hb dX1_findRing_2 rfl (lv_at hl 1 rfl) ?_
      refine lv_bipush (v := 10) hx hb dX1_findRing_3 (by decide) ?_
      refine lv_icmp_ge (tgt := 155) hx hb dX1_findRing_5 (by decide) (fun c1 => ?_) (fun c1 => ?_)
      · replace hf := ift hf c1
        refine lv_iconst (v := 0) hx hb dX1_findRing_155 (by decide) ?_
        exact hQf hf hM hS dX1_findRing_156
      · replace hf := iff_ hf c1
        refine lv_iload_n hx hb dX1_findRing_8 rfl (lv_at hl 1 rfl) ?_
        refine lv_iconst (v := 1) hx hb dX1_findRing_9 (by decide) ?_
        refine lv_iadd hx hb dX1_findRing_10 ?_
        refine lv_topi (fun y2 ey2 => ?_)
        replace hf := ltI_some hf ey2
        refine lv_istore_n (lv' := [(2, .int y2), (0, .ref (gA G 0 g 0)), (1, .int a1)]) hx hb dX1_findRing_11 rfl hl (by decide) rfl (fun ls hl => ?_)
        exact L12 _ ih 1000 h a1 y2 hf _ _ _ hM hS (lv_sub hl [1, 2, 0] rfl)
  unfold xX1_findRing at hf
  refine lv_iconst (v := 0) hx hb dX1_findRing_0 (by decide) ?_
  refine lv_istore_n (lv' := [(1, .int (0 : Int32)), (0, .ref (gA G 0 g 0))]) hx hb dX1_findRing_1 rfl hl (by decide) rfl (fun ls hl => ?_)
  exact L2 1000 h (0 : Int32) hf _ _ _ hM hS (lv_sub hl [1, 0] rfl)
abbrev rX1_move : Room := { frames := 1, cells := 0, slots := 0, locals := 23 }
set_option maxRecDepth 100000 in
set_option maxHeartbeats 4000000 in
theorem kX1_move (l : Launch) (G : zG) (A : Nat → Prop) (V : zV3) (g : Nat) (hg : g < 7) (n2 : Option Nat) (h : zV2) (p1 : Int32) {r : Unit} {h' : zV2} (hf : xX1_move n2 h p1 = some (r, h')) : zCt l G A yX1_move cX1_move 4 none rX1_move [.ref (gA G 0 g 0), .int p1, va_rf (n2.map (gA G 8 g))] (upG V g h) none (upG V g h') := by
  refine z_CtV (by decide) (by cases n2 <;> exact Nat.le_of_ble_eq_true rfl) ?_
  intro p e s m args below meth c Q hx hb hml hown hL hK hM hS hQ ls hl
  replace hl : lv_has ls 4 [(0, .ref (gA G 0 g 0)), (1, .int p1), (2, va_rf (n2.map (gA G 8 g)))] := hl
  have hQf : ∀ {a : Unit} {k : zV2} {H : Heap} {locs : List Loc} {pc : Nat} {ls : Array Slot}, some (a, k) = some (r, h') → zM G (upG V g k) H → va_S A s.heap H locs → decode cX1_move pc = .ok (.return_, 1) → W p l e rX1_move s m args below meth c H locs 0 0 Q (F0 m pc ls []) := by
    intro a k H locs pc ls e1 hM hS hd
    cases e1
    exact hQ H locs pc ls hM hS hd
  unfold xX1_move at hf
  cases n2 with
  | none =>
    replace hf := optm_none hf
    replace hl : lv_has ls 4 [(0, .ref (gA G 0 g 0)), (1, .int p1), (2, .null)] := hl
    refine W.eq (g2 := F0 m 0 ls []) rfl ?_
    refine lv_aload_n hx hb dX1_move_0 rfl (lv_at hl 0 rfl) ?_
    refine lv_iload_n hx hb dX1_move_1 rfl (lv_at hl 1 rfl) ?_
    obtain ⟨r2, h4, hc3, hf⟩ := bnd_some hf
    refine z_callV (As := [.int p1]) (rest := []) (C := RX1) hx hb hml hown hL hK hM hS (kX1_personAt l G A V g hg h p1 hc3) (zg_X1_personAt zw2_85) zv_X1_personAt ⟨rfl, rfl⟩ ⟨Nat.le_of_ble_eq_true rfl, Nat.le_of_ble_eq_true rfl⟩ (hM.recv hK (dm_0 (g := g) (i := 0) hg rfl) (ze_0 G V g 0 h) rfl) rfl hl.1 rfl (Nat.le_of_ble_eq_true rfl) dX1_move_2 ⟨Nat.zero_le _, Nat.zero_le _⟩ (fun H locs hM hS => ?_)
    cases r2 with
    | none =>
      replace hf := optm_none hf
      refine W.eq (g2 := F0 m 5 ls [.null]) rfl ?_
      refine lv_astore_nN (lv' := [(3, .null), (0, .ref (gA G 0 g 0)), (1, .int p1), (2, .null)]) hx hb dX1_move_5 rfl hl (by decide) rfl (fun ls hl => ?_)
      refine lv_aload_nN hx hb dX1_move_6 rfl (lv_at hl 0 rfl) ?_
      refine lv_ifnullN (tgt := 14) hx hb dX1_move_7 (by decide) ?_
      exact hQf hf hM hS dX1_move_14
    | some q5 =>
      replace hf := optm_s hf
      obtain ⟨hq5, hf⟩ := grd_some hf
      replace hq5 := of_decide_eq_true hq5
      refine W.eq (g2 := F0 m 5 ls [.ref (gA G 9 g q5)]) rfl ?_
      refine lv_astore_n (lv' := [(3, .ref (gA G 9 g q5)), (0, .ref (gA G 0 g 0)), (1, .int p1), (2, .null)]) hx hb dX1_move_5 rfl hl (by decide) rfl (fun ls hl => ?_)
      refine lv_aload_n hx hb dX1_move_6 rfl (lv_at hl 0 rfl) ?_
      refine lv_ifnull hx hb dX1_move_7 ?_
      refine lv_aload_nN hx hb dX1_move_10 rfl (lv_at hl 3 rfl) ?_
      refine lv_ifnonnullN hx hb dX1_move_11 ?_
      exact hQf hf hM hS dX1_move_14
  | some q1 =>
    replace hf := optm_s hf
    obtain ⟨hq1, hf⟩ := grd_some hf
    replace hq1 := of_decide_eq_true hq1
    replace hl : lv_has ls 4 [(0, .ref (gA G 0 g 0)), (1, .int p1), (2, .ref (gA G 8 g q1))] := hl
    refine W.eq (g2 := F0 m 0 ls []) rfl ?_
    refine lv_aload_n hx hb dX1_move_0 rfl (lv_at hl 0 rfl) ?_
    refine lv_iload_n hx hb dX1_move_1 rfl (lv_at hl 1 rfl) ?_
    obtain ⟨r6, h8, hc7, hf⟩ := bnd_some hf
    refine z_callV (As := [.int p1]) (rest := []) (C := RX1) hx hb hml hown hL hK hM hS (kX1_personAt l G A V g hg h p1 hc7) (zg_X1_personAt zw2_85) zv_X1_personAt ⟨rfl, rfl⟩ ⟨Nat.le_of_ble_eq_true rfl, Nat.le_of_ble_eq_true rfl⟩ (hM.recv hK (dm_0 (g := g) (i := 0) hg rfl) (ze_0 G V g 0 h) rfl) rfl hl.1 rfl (Nat.le_of_ble_eq_true rfl) dX1_move_2 ⟨Nat.zero_le _, Nat.zero_le _⟩ (fun H locs hM hS => ?_)
    cases r6 with
    | none =>
      replace hf := optm_none hf
      refine W.eq (g2 := F0 m 5 ls [.null]) rfl ?_
      refine lv_astore_nN (lv' := [(3, .null), (0, .ref (gA G 0 g 0)), (1, .int p1), (2, .ref (gA G 8 g q1))]) hx hb dX1_move_5 rfl hl (by decide) rfl (fun ls hl => ?_)
      refine lv_aload_nN hx hb dX1_move_6 rfl (lv_at hl 0 rfl) ?_
      refine lv_ifnullN (tgt := 14) hx hb dX1_move_7 (by decide) ?_
      exact hQf hf hM hS dX1_move_14
    | some q9 =>
      replace hf := optm_s hf
      obtain ⟨hq9, hf⟩ := grd_some hf
      replace hq9 := of_decide_eq_true hq9
      refine W.eq (g2 := F0 m 5 ls [.ref (gA G 9 g q9)]) rfl ?_
      refine lv_astore_n (lv' := [(3, .ref (gA G 9 g q9)), (0, .ref (gA G 0 g 0)), (1, .int p1), (2, .ref (gA G 8 g q1))]) hx hb dX1_move_5 rfl hl (by decide) rfl (fun ls hl => ?_)
      refine lv_aload_n hx hb dX1_move_6 rfl (lv_at hl 0 rfl) ?_
      refine lv_ifnull hx hb dX1_move_7 ?_
      refine lv_aload_n hx hb dX1_move_10 rfl (lv_at hl 3 rfl) ?_
      refine lv_ifnonnull (tgt := 15) hx hb dX1_move_11 (by decide) ?_
      refine lv_aload_n hx hb dX1_move_15 rfl (lv_at hl 0 rfl) ?_
      refine lv_aload_n hx hb dX1_move_16 rfl (lv_at hl 3 rfl) ?_
      refine z_getN (own := RX1) (C := RX4) (T := TX4) (N := 7) (ci := 3) (v := .int (nI q1)) hx hb hL inX4 hown hK hM (dm_8 (g := g) (i := q1) hg hq1) (ze_8 G V g q1 h8) rfl 0 (by decide) 10 rfl rfl rfl dX1_move_17 ?_
      obtain ⟨h10, eh10⟩ : ∃ y, y = up2 h8 6 q9 (nI q1) := ⟨_, rfl⟩
      replace hf := put2_some hf eh10
      refine z_putN (own := RX1) (C := RX5) (T := TX5) (N := 8) (ci := 4) (V' := upG V g h10) hx hb hL inX5 tyX5 tyX5_ok nmX5 hown hK hM hS (dm_9 (g := g) (i := q9) hg hq9) (ze_9 G V g q9 h8) rfl 1 (by decide) 21 rfl rfl rfl rfl rfl (Nat.le_of_ble_eq_true rfl) (by rw [eh10]; exact zn_9_6 G V g hg h8 q9 (nI q1)) dX1_move_20 (fun H locs hM hS => ?_)
      refine lv_aload_n hx hb dX1_move_23 rfl (lv_at hl 3 rfl) ?_
      refine lv_iload_n hx hb dX1_move_24 rfl (lv_at hl 2 rfl) ?_
      obtain ⟨h11, eh11⟩ : ∃ y, y = up2 h10 2 q1 p1 := ⟨_, rfl⟩
      replace hf := put2_some hf eh11
      refine z_putN (own := RX1) (C := RX4) (T := TX4) (N := 7) (ci := 3) (V' := upG V g h11) hx hb hL inX4 tyX4 tyX4_ok nmX4 hown hK hM hS (dm_8 (g := g) (i := q1) hg hq1) (ze_8 G V g q1 h10) rfl 3 (by decide) 17 rfl rfl rfl rfl rfl (Nat.le_of_ble_eq_true rfl) (by rw [eh11]; exact zn_8_2 G V g hg h10 q1 p1) dX1_move_25 (fun H locs hM hS => ?_)
      refine lv_aload_n hx hb dX1_move_28 rfl (lv_at hl 3 rfl) ?_
      refine lv_dup hx hb dX1_move_29 rfl ?_
      refine z_getN (own := RX1) (C := RX4) (T := TX4) (N := 7) (ci := 3) (v := .int (h11 5 q1)) hx hb hL inX4 hown hK hM (dm_8 (g := g) (i := q1) hg hq1) (ze_8 G V g q1 h11) rfl 6 (by decide) 20 rfl rfl rfl dX1_move_30 ?_
      refine lv_iconst (v := 1) hx hb dX1_move_33 (by decide) ?_
      refine lv_iadd hx hb dX1_move_34 ?_
      obtain ⟨h12, eh12⟩ : ∃ y, y = up2 h11 5 q1 ((h11 5 q1) + (1 : Int32)) := ⟨_, rfl⟩
      replace hf := put2_some hf eh12
      refine z_putN (own := RX1) (C := RX4) (T := TX4) (N := 7) (ci := 3) (V' := upG V g h12) hx hb hL inX4 tyX4 tyX4_ok nmX4 hown hK hM hS (dm_8 (g := g) (i := q1) hg hq1) (ze_8 G V g q1 h11) rfl 6 (by decide) 20 rfl rfl rfl rfl rfl (Nat.le_of_ble_eq_true rfl) (by rw [eh12]; exact zn_8_5 G V g hg h11 q1 ((h11 5 q1) + (1 : Int32))) dX1_move_35 (fun H locs hM hS => ?_)
      refine lv_aload_n hx hb dX1_move_38 rfl (lv_at hl 1 rfl) ?_
      refine z_get (own := RX1) (C := RX1) (T := TX1) (N := 10) (ci := 0) (v := .ref (gA G 3 g 1)) hx hb hL inX1 hown hK hM (dm_0 (g := g) (i := 0) hg rfl) (ze_0 G V g 0 h12) rfl 3 (by decide) (hL _ zw1_132) rfl rfl dX1_move_39 ?_
      refine lv_iload_n hx hb dX1_move_42 rfl (lv_at hl 2 rfl) ?_
      obtain ⟨r13, h15, hc14, hf⟩ := bnd_some hf
      refine z_callV (As := [.int p1]) (rest := []) (C := RX3) hx hb hml hown hL hK hM hS (kX3_remove l G A V g hg 1 (by decide) h12 p1 hc14) (zg_X3_remove zw2_93) zv_X3_remove ⟨rfl, rfl⟩ ⟨Nat.le_of_ble_eq_true rfl, Nat.le_of_ble_eq_true rfl⟩ (hM.recv hK (dm_3 (g := g) (i := 1) hg (by decide)) (ze_3 G V g 1 h12) rfl) rfl hl.1 rfl (Nat.le_of_ble_eq_true rfl) dX1_move_43 ⟨Nat.zero_le _, Nat.zero_le _⟩ (fun H locs hM hS => ?_)
      refine W.eq (g2 := F0 m 46 ls []) rfl ?_
      exact hQf hf hM hS dX1_move_46
abbrev rX1_moveAround : Room := { frames := 2, cells := 0, slots := 0, locals := 46 }
set_option maxRecDepth 100000 in
set_option maxHeartbeats 4000000 in
theorem kX1_moveAround (l : Launch) (G : zG) (A : Nat → Prop) (V : zV3) (g : Nat) (hg : g < 7) (h : zV2) (p1 : Int32) {r : Unit} {h' : zV2} (hf : xX1_moveAround h p1 = some (r, h')) : zCt l G A yX1_moveAround cX1_moveAround 5 none rX1_moveAround [.ref (gA G 0 g 0), .int p1] (upG V g h) none (upG V g h') := by
  refine z_CtV (by decide) (Nat.le_of_ble_eq_true rfl) ?_
  intro p e s m args below meth c Q hx hb hml hown hL hK hM hS hQ ls hl
  replace hl : lv_has ls 5 [(0, .ref (gA G 0 g 0)), (1, .int p1)] := hl
  have hQf : ∀ {a : Unit} {k : zV2} {H : Heap} {locs : List Loc} {pc : Nat} {ls : Array Slot}, some (a, k) = some (r, h') → zM G (upG V g k) H → va_S A s.heap H locs → decode cX1_moveAround pc = .ok (.return_, 1) → W p l e rX1_moveAround s m args below meth c H locs 0 0 Q (F0 m pc ls []) := by
    intro a k H locs pc ls e1 hM hS hd
    cases e1
    exact hQ H locs pc ls hM hS hd
  have L42 : ∀ (K13 : zV2 → Option Nat → Int32 → Option (Unit × zV2)), (∀ (h : zV2) (o2 : Option Nat) (a3 : Int32), K13 h o2 a3 = some (r, h') → ∀ (H : Heap) (locs : List Loc) (ls : Array Slot), zM G (upG V g h) H → va_S A s.heap H locs → lv_has ls 5 [(0, .ref (gA G 0 g 0)), (1, .int p1), (2, va_rf (o2.map (gA G 8 g))), (3, .int a3)] → W p l e rX1_moveAround s m args below meth c H locs 0 0 Q (F0 m 13 ls [])) → ∀ (h : zV2) (o2 : Option Nat) (a3 : Int32) (s0 : Int32), xX1_moveAround_L42 p1 K13 h o2 a3 s0 = some (r, h') → ∀ (H : Heap) (locs : List Loc) (ls : Array Slot), zM G (upG V g h) H → va_S A s.heap H locs → lv_has ls 5 [(0, .ref (gA G 0 g 0)), (1, .int p1), (2, va_rf (o2.map (gA G 8 g))), (3, .int a3)] → W p l e rX1_moveAround s m args below meth c H locs 0 0 Q (F0 m 42 ls [.int s0]) := by
    intro K13 hK13 h o2 a3 s0 hf H locs ls hM hS hl
    unfold xX1_moveAround_L42 at hf
    cases o2 with
    | none =>
      replace hf := optm_none hf
      replace hl : lv_has ls 5 [(0, .ref (gA G 0 g 0)), (1, .int p1), (2, .null), (3, .int a3)] := hl
      refine W.eq (g2 := F0 m 42 ls [.int s0]) rfl ?_
      refine lv_istore (lv' := [(4, .int s0), (0, .ref (gA G 0 g 0)), (1, .int p1), (2, .null), (3, .int a3)]) hx hb dX1_moveAround_42 hl (by decide) rfl (fun ls hl => ?_)
      refine lv_aload_n hx hb dX1_moveAround_44 rfl (lv_at hl 1 rfl) ?_
      refine lv_aload_n hx hb dX1_moveAround_45 rfl (lv_at hl 1 rfl) ?_
      refine z_get (own := RX1) (C := RX1) (T := TX1) (N := 10) (ci := 0) (v := .ref (gA G 5 g 0)) hx hb hL inX1 hown hK hM (dm_0 (g := g) (i := 0) hg rfl) (ze_0 G V g 0 h) rfl 5 (by decide) (hL _ zw1_134) rfl rfl dX1_moveAround_46 ?_
      refine lv_iload_n hx hb dX1_moveAround_49 rfl (lv_at hl 4 rfl) ?_
      obtain ⟨hb2, hf⟩ := grd_some hf
      refine z_iald hx hb hK hM (dm_5 (g := g) (i := 0) hg rfl) (ze_5 G V g 0 h) (inb_in hb2) dX1_moveAround_50 ?_
      refine lv_iload hx hb dX1_moveAround_51 (lv_at hl 0 rfl) ?_
      refine lv_if_eq (tgt := 71) hx hb dX1_moveAround_53 (by decide) (fun c3 => ?_) (fun c3 => ?_)
      · replace hf := ift hf c3
        refine lv_aload_nN hx hb dX1_moveAround_71 rfl (lv_at hl 3 rfl) ?_
        obtain ⟨r4, h6, hc5, hf⟩ := bnd_some hf
        refine z_callV (As := [.int (h 18 a3.toNatClampNeg), .null]) (rest := []) (C := RX1) hx hb hml hown hL hK hM hS (kX1_move l G A V g hg none h (h 18 a3.toNatClampNeg) hc5) (zg_X1_move zw2_201) zv_X1_move ⟨rfl, rfl⟩ ⟨Nat.le_of_ble_eq_true rfl, Nat.le_of_ble_eq_true rfl⟩ (hM.recv hK (dm_0 (g := g) (i := 0) hg rfl) (ze_0 G V g 0 h) rfl) rfl hl.1 rfl (Nat.le_of_ble_eq_true rfl) dX1_moveAround_72 ⟨Nat.zero_le _, Nat.zero_le _⟩ (fun H locs hM hS => ?_)
        refine W.eq (g2 := F0 m 75 ls []) rfl ?_
        obtain ⟨y7, ey7⟩ : ∃ y : Int32, y = a3 + (1 : Int32) := ⟨_, rfl⟩
        replace hf := ltI_some hf ey7
        refine lv_iinc (v := y7) (lv' := [(3, .int y7), (4, .int s0), (0, .ref (gA G 0 g 0)), (1, .int p1), (2, .null)]) hx hb dX1_moveAround_75 hl (k := 4) rfl (by rw [ey7]; rfl) (by decide) rfl (fun ls hl => ?_)
        refine lv_goto (tgt := 13) hx hb dX1_moveAround_78 (by decide) ?_
        exact hK13 h6 none y7 hf _ _ _ hM hS (lv_sub hl [2, 3, 4, 0] rfl)
      · replace hf := iff_ hf c3
        refine lv_aload_n hx hb dX1_moveAround_56 rfl (lv_at hl 1 rfl) ?_
        refine lv_aload_n hx hb dX1_moveAround_57 rfl (lv_at hl 1 rfl) ?_
        refine z_get (own := RX1) (C := RX1) (T := TX1) (N := 10) (ci := 0) (v := .ref (gA G 5 g 0)) hx hb hL inX1 hown hK hM (dm_0 (g := g) (i := 0) hg rfl) (ze_0 G V g 0 h) rfl 5 (by decide) (hL _ zw1_134) rfl rfl dX1_moveAround_58 ?_
        refine lv_iload_n hx hb dX1_moveAround_61 rfl (lv_at hl 4 rfl) ?_
        refine lv_iconst (v := 1) hx hb dX1_moveAround_62 (by decide) ?_
        refine lv_iadd hx hb dX1_moveAround_63 ?_
        obtain ⟨hb8, hf⟩ := grd_some hf
        refine z_iald hx hb hK hM (dm_5 (g := g) (i := 0) hg rfl) (ze_5 G V g 0 h) (inb_in hb8) dX1_moveAround_64 ?_
        obtain ⟨r9, h11, hc10, hf⟩ := bnd_some hf
        refine z_callV (As := [.int (h 18 ((a3 + (1 : Int32)).toNatClampNeg))]) (rest := [.int (h 18 a3.toNatClampNeg), .ref (gA G 0 g 0)]) (C := RX1) hx hb hml hown hL hK hM hS (kX1_lockerOfPerson l G A V g hg h (h 18 ((a3 + (1 : Int32)).toNatClampNeg)) hc10) (zg_X1_lockerOfPerson zw2_197) zv_X1_lockerOfPerson ⟨rfl, rfl⟩ ⟨Nat.le_of_ble_eq_true rfl, Nat.le_of_ble_eq_true rfl⟩ (hM.recv hK (dm_0 (g := g) (i := 0) hg rfl) (ze_0 G V g 0 h) rfl) rfl hl.1 rfl (Nat.le_of_ble_eq_true rfl) dX1_moveAround_65 ⟨Nat.zero_le _, Nat.zero_le _⟩ (fun H locs hM hS => ?_)
        cases r9 with
        | none =>
          replace hf := optm_none hf
          refine W.eq (g2 := F0 m 68 ls [.null, .int (h 18 a3.toNatClampNeg), .ref (gA G 0 g 0)]) rfl ?_
          refine lv_goto (tgt := 72) hx hb dX1_moveAround_68 (by decide) ?_
          obtain ⟨r13, h15, hc14, hf⟩ := bnd_some hf
          refine z_callV (As := [.int (h 18 a3.toNatClampNeg), .null]) (rest := []) (C := RX1) hx hb hml hown hL hK hM hS (kX1_move l G A V g hg none h11 (h 18 a3.toNatClampNeg) hc14) (zg_X1_move zw2_201) zv_X1_move ⟨rfl, rfl⟩ ⟨Nat.le_of_ble_eq_true rfl, Nat.le_of_ble_eq_true rfl⟩ (hM.recv hK (dm_0 (g := g) (i := 0) hg rfl) (ze_0 G V g 0 h11) rfl) rfl hl.1 rfl (Nat.le_of_ble_eq_true rfl) dX1_moveAround_72 ⟨Nat.zero_le _, Nat.zero_le _⟩ (fun H locs hM hS => ?_)
          refine W.eq (g2 := F0 m 75 ls []) rfl ?_
          obtain ⟨y16, ey16⟩ : ∃ y : Int32, y = a3 + (1 : Int32) := ⟨_, rfl⟩
          replace hf := ltI_some hf ey16
          refine lv_iinc (v := y16) (lv' := [(3, .int y16), (4, .int s0), (0, .ref (gA G 0 g 0)), (1, .int p1), (2, .null)]) hx hb dX1_moveAround_75 hl (k := 4) rfl (by rw [ey16]; rfl) (by decide) rfl (fun ls hl => ?_)
          refine lv_goto (tgt := 13) hx hb dX1_moveAround_78 (by decide) ?_
          exact hK13 h15 none y16 hf _ _ _ hM hS (lv_sub hl [2, 3, 4, 0] rfl)
        | some q12 =>
          replace hf := optm_s hf
          obtain ⟨hq12, hf⟩ := grd_some hf
          replace hq12 := of_decide_eq_true hq12
          refine W.eq (g2 := F0 m 68 ls [.ref (gA G 8 g q12), .int (h 18 a3.toNatClampNeg), .ref (gA G 0 g 0)]) rfl ?_
          refine lv_goto (tgt := 72) hx hb dX1_moveAround_68 (by decide) ?_
          obtain ⟨r17, h19, hc18, hf⟩ := bnd_some hf
          refine z_callV (As := [.int (h 18 a3.toNatClampNeg), .ref (gA G 8 g q12)]) (rest := []) (C := RX1) hx hb hml hown hL hK hM hS (kX1_move l G A V g hg (some q12) h11 (h 18 a3.toNatClampNeg) hc18) (zg_X1_move zw2_201) zv_X1_move ⟨rfl, rfl⟩ ⟨Nat.le_of_ble_eq_true rfl, Nat.le_of_ble_eq_true rfl⟩ (hM.recv hK (dm_0 (g := g) (i := 0) hg rfl) (ze_0 G V g 0 h11) rfl) rfl hl.1 rfl (Nat.le_of_ble_eq_true rfl) dX1_moveAround_72 ⟨Nat.zero_le _, Nat.zero_le _⟩ (fun H locs hM hS => ?_)
          refine W.eq (g2 := F0 m 75 ls []) rfl ?_
          obtain ⟨y20, ey20⟩ : ∃ y : Int32, y = a3 + (1 : Int32) := ⟨_, rfl⟩
          replace hf := ltI_some hf ey20
          refine lv_iinc (v := y20) (lv' := [(3, .int y20), (4, .int s0), (0, .ref (gA G 0 g 0)), (1, .int p1), (2, .null)]) hx hb dX1_moveAround_75 hl (k := 4) rfl (by rw [ey20]; rfl) (by decide) rfl (fun ls hl => ?_)
          refine lv_goto (tgt := 13) hx hb dX1_moveAround_78 (by decide) ?_
          exact hK13 h19 none y20 hf _ _ _ hM hS (lv_sub hl [2, 3, 4, 0] rfl)
    | some q1 =>
      replace hf := optm_s hf
      obtain ⟨hq1, hf⟩ := grd_some hf
      replace hq1 := of_decide_eq_true hq1
      replace hl : lv_has ls 5 [(0, .ref (gA G 0 g 0)), (1, .int p1), (2, .ref (gA G 8 g q1)), (3, .int a3)] := hl
      refine W.eq (g2 := F0 m 42 ls [.int s0]) rfl ?_
      refine lv_istore (lv' := [(4, .int s0), (0, .ref (gA G 0 g 0)), (1, .int p1), (2, .ref (gA G 8 g q1)), (3, .int a3)]) hx hb dX1_moveAround_42 hl (by decide) rfl (fun ls hl => ?_)
      refine lv_aload_n hx hb dX1_moveAround_44 rfl (lv_at hl 1 rfl) ?_
      refine lv_aload_n hx hb dX1_moveAround_45 rfl (lv_at hl 1 rfl) ?_
      refine z_get (own := RX1) (C := RX1) (T := TX1) (N := 10) (ci := 0) (v := .ref (gA G 5 g 0)) hx hb hL inX1 hown hK hM (dm_0 (g := g) (i := 0) hg rfl) (ze_0 G V g 0 h) rfl 5 (by decide) (hL _ zw1_134) rfl rfl dX1_moveAround_46 ?_
      refine lv_iload_n hx hb dX1_moveAround_49 rfl (lv_at hl 4 rfl) ?_
      obtain ⟨hb21, hf⟩ := grd_some hf
      refine z_iald hx hb hK hM (dm_5 (g := g) (i := 0) hg rfl) (ze_5 G V g 0 h) (inb_in hb21) dX1_moveAround_50 ?_
      refine lv_iload hx hb dX1_moveAround_51 (lv_at hl 0 rfl) ?_
      refine lv_if_eq (tgt := 71) hx hb dX1_moveAround_53 (by decide) (fun c22 => ?_) (fun c22 => ?_)
      · replace hf := ift hf c22
        refine lv_aload_n hx hb dX1_moveAround_71 rfl (lv_at hl 3 rfl) ?_
        obtain ⟨r23, h25, hc24, hf⟩ := bnd_some hf
        refine z_callV (As := [.int (h 18 a3.toNatClampNeg), .ref (gA G 8 g q1)]) (rest := []) (C := RX1) hx hb hml hown hL hK hM hS (kX1_move l G A V g hg (some q1) h (h 18 a3.toNatClampNeg) hc24) (zg_X1_move zw2_201) zv_X1_move ⟨rfl, rfl⟩ ⟨Nat.le_of_ble_eq_true rfl, Nat.le_of_ble_eq_true rfl⟩ (hM.recv hK (dm_0 (g := g) (i := 0) hg rfl) (ze_0 G V g 0 h) rfl) rfl hl.1 rfl (Nat.le_of_ble_eq_true rfl) dX1_moveAround_72 ⟨Nat.zero_le _, Nat.zero_le _⟩ (fun H locs hM hS => ?_)
        refine W.eq (g2 := F0 m 75 ls []) rfl ?_
        obtain ⟨y26, ey26⟩ : ∃ y : Int32, y = a3 + (1 : Int32) := ⟨_, rfl⟩
        replace hf := ltI_some hf ey26
        refine lv_iinc (v := y26) (lv' := [(3, .int y26), (4, .int s0), (0, .ref (gA G 0 g 0)), (1, .int p1), (2, .ref (gA G 8 g q1))]) hx hb dX1_moveAround_75 hl (k := 4) rfl (by rw [ey26]; rfl) (by decide) rfl (fun ls hl => ?_)
        refine lv_goto (tgt := 13) hx hb dX1_moveAround_78 (by decide) ?_
        exact hK13 h25 (some q1) y26 hf _ _ _ hM hS (lv_sub hl [2, 3, 4, 0] rfl)
      · replace hf := iff_ hf c22
        refine lv_aload_n hx hb dX1_moveAround_56 rfl (lv_at hl 1 rfl) ?_
        refine lv_aload_n hx hb dX1_moveAround_57 rfl (lv_at hl 1 rfl) ?_
        refine z_get (own := RX1) (C := RX1) (T := TX1) (N := 10) (ci := 0) (v := .ref (gA G 5 g 0)) hx hb hL inX1 hown hK hM (dm_0 (g := g) (i := 0) hg rfl) (ze_0 G V g 0 h) rfl 5 (by decide) (hL _ zw1_134) rfl rfl dX1_moveAround_58 ?_
        refine lv_iload_n hx hb dX1_moveAround_61 rfl (lv_at hl 4 rfl) ?_
        refine lv_iconst (v := 1) hx hb dX1_moveAround_62 (by decide) ?_
        refine lv_iadd hx hb dX1_moveAround_63 ?_
        obtain ⟨hb27, hf⟩ := grd_some hf
        refine z_iald hx hb hK hM (dm_5 (g := g) (i := 0) hg rfl) (ze_5 G V g 0 h) (inb_in hb27) dX1_moveAround_64 ?_
        obtain ⟨r28, h30, hc29, hf⟩ := bnd_some hf
        refine z_callV (As := [.int (h 18 ((a3 + (1 : Int32)).toNatClampNeg))]) (rest := [.int (h 18 a3.toNatClampNeg), .ref (gA G 0 g 0)]) (C := RX1) hx hb hml hown hL hK hM hS (kX1_lockerOfPerson l G A V g hg h (h 18 ((a3 + (1 : Int32)).toNatClampNeg)) hc29) (zg_X1_lockerOfPerson zw2_197) zv_X1_lockerOfPerson ⟨rfl, rfl⟩ ⟨Nat.le_of_ble_eq_true rfl, Nat.le_of_ble_eq_true rfl⟩ (hM.recv hK (dm_0 (g := g) (i := 0) hg rfl) (ze_0 G V g 0 h) rfl) rfl hl.1 rfl (Nat.le_of_ble_eq_true rfl) dX1_moveAround_65 ⟨Nat.zero_le _, Nat.zero_le _⟩ (fun H locs hM hS => ?_)
        cases r28 with
        | none =>
          replace hf := optm_none hf
          refine W.eq (g2 := F0 m 68 ls [.null, .int (h 18 a3.toNatClampNeg), .ref (gA G 0 g 0)]) rfl ?_
          refine lv_goto (tgt := 72) hx hb dX1_moveAround_68 (by decide) ?_
          obtain ⟨r32, h34, hc33, hf⟩ := bnd_some hf
          refine z_callV (As := [.int (h 18 a3.toNatClampNeg), .null]) (rest := []) (C := RX1) hx hb hml hown hL hK hM hS (kX1_move l G A V g hg none h30 (h 18 a3.toNatClampNeg) hc33) (zg_X1_move zw2_201) zv_X1_move ⟨rfl, rfl⟩ ⟨Nat.le_of_ble_eq_true rfl, Nat.le_of_ble_eq_true rfl⟩ (hM.recv hK (dm_0 (g := g) (i := 0) hg rfl) (ze_0 G V g 0 h30) rfl) rfl hl.1 rfl (Nat.le_of_ble_eq_true rfl) dX1_moveAround_72 ⟨Nat.zero_le _, Nat.zero_le _⟩ (fun H locs hM hS => ?_)
          refine W.eq (g2 := F0 m 75 ls []) rfl ?_
          obtain ⟨y35, ey35⟩ : ∃ y : Int32, y = a3 + (1 : Int32) := ⟨_, rfl⟩
          replace hf := ltI_some hf ey35
          refine lv_iinc (v := y35) (lv' := [(3, .int y35), (4, .int s0), (0, .ref (gA G 0 g 0)), (1, .int p1), (2, .ref (gA G 8 g q1))]) hx hb dX1_moveAround_75 hl (k := 4) rfl (by rw [ey35]; rfl) (by decide) rfl (fun ls hl => ?_)
          refine lv_goto (tgt := 13) hx hb dX1_moveAround_78 (by decide) ?_
          exact hK13 h34 (some q1) y35 hf _ _ _ hM hS (lv_sub hl [2, 3, 4, 0] rfl)
        | some q31 =>
          replace hf := optm_s hf
          obtain ⟨hq31, hf⟩ := grd_some hf
          replace hq31 := of_decide_eq_true hq31
          refine W.eq (g2 := F0 m 68 ls [.ref (gA G 8 g q31), .int (h 18 a3.toNatClampNeg), .ref (gA G 0 g 0)]) rfl ?_
          refine lv_goto (tgt := 72) hx hb dX1_moveAround_68 (by decide) ?_
          obtain ⟨r36, h38, hc37, hf⟩ := bnd_some hf
          refine z_callV (As := [.int (h 18 a3.toNatClampNeg), .ref (gA G 8 g q31)]) (rest := []) (C := RX1) hx hb hml hown hL hK hM hS (kX1_move l G A V g hg (some q31) h30 (h 18 a3.toNatClampNeg) hc37) (zg_X1_move zw2_201) zv_X1_move ⟨rfl, rfl⟩ ⟨Nat.le_of_ble_eq_true rfl, Nat.le_of_ble_eq_true rfl⟩ (hM.recv hK (dm_0 (g := g) (i := 0) hg rfl) (ze_0 G V g 0 h30) rfl) rfl hl.1 rfl (Nat.le_of_ble_eq_true rfl) dX1_moveAround_72 ⟨Nat.zero_le _, Nat.zero_le _⟩ (fun H locs hM hS => ?_)
          refine W.eq (g2 := F0 m 75 ls []) rfl ?_
          obtain ⟨y39, ey39⟩ : ∃ y : Int32, y = a3 + (1 : Int32) := ⟨_, rfl⟩
          replace hf := ltI_some hf ey39
          refine lv_iinc (v := y39) (lv' := [(3, .int y39), (4, .int s0), (0, .ref (gA G 0 g 0)), (1, .int p1), (2, .ref (gA G 8 g q1))]) hx hb dX1_moveAround_75 hl (k := 4) rfl (by rw [ey39]; rfl) (by decide) rfl (fun ls hl => ?_)
          refine lv_goto (tgt := 13) hx hb dX1_moveAround_78 (by decide) ?_
          exact hK13 h38 (some q1) y39 hf _ _ _ hM hS (lv_sub hl [2, 3, 4, 0] rfl)
  have L41 : ∀ (K13 : zV2 → Option Nat → Int32 → Option (Unit × zV2)), (∀ (h : zV2) (o2 : Option Nat) (a3 : Int32), K13 h o2 a3 = some (r, h') → ∀ (H : Heap) (locs : List Loc) (ls : Array Slot), zM G (upG V g h) H → va_S A s.heap H locs → lv_has ls 5 [(0, .ref (gA G 0 g 0)), (1, .int p1), (2, va_rf (o2.map (gA G 8 g))), (3, .int a3)] → W p l e rX1_moveAround s m args below meth c H locs 0 0 Q (F0 m 13 ls [])) → ∀ (h : zV2) (o2 : Option Nat) (a3 : Int32), xX1_moveAround_L41 p1 K13 h o2 a3 = some (r, h') → ∀ (H : Heap) (locs : List Loc) (ls : Array Slot), zM G (upG V g h) H → va_S A s.heap H locs → lv_has ls 5 [(0, .ref (gA G 0 g 0)), (1, .int p1), (2, va_rf (o2.map (gA G 8 g))), (3, .int a3)] → W p l e rX1_moveAround s m args below meth c H locs 0 0 Q (F0 m 41 ls []) := by
    intro K13 hK13 h o2 a3 hf H locs ls hM hS hl
    unfold xX1_moveAround_L41 at hf
    cases o2 with
    | none =>
      replace hf := optm_none hf
      replace hl : lv_has ls 5 [(0, .ref (gA G 0 g 0)), (1, .int p1), (2, .null), (3, .int a3)] := hl
      refine W.eq (g2 := F0 m 41 ls []) rfl ?_
      refine lv_iconst (v := 0) hx hb dX1_moveAround_41 (by decide) ?_
      exact L42 K13 hK13 h none a3 (0 : Int32) hf _ _ _ hM hS (lv_sub hl [0, 1, 2, 3] rfl)
    | some q1 =>
      replace hf := optm_s hf
      obtain ⟨hq1, hf⟩ := grd_some hf
      replace hq1 := of_decide_eq_true hq1
      replace hl : lv_has ls 5 [(0, .ref (gA G 0 g 0)), (1, .int p1), (2, .ref (gA G 8 g q1)), (3, .int a3)] := hl
      refine W.eq (g2 := F0 m 41 ls []) rfl ?_
      refine lv_iconst (v := 0) hx hb dX1_moveAround_41 (by decide) ?_
      exact L42 K13 hK13 h (some q1) a3 (0 : Int32) hf _ _ _ hM hS (lv_sub hl [0, 1, 2, 3] rfl)
  have L13 : ∀ (n : Nat) (h : zV2) (o2 : Option Nat) (a3 : Int32), xX1_moveAround_L13 p1 n h o2 a3 = some (r, h') → ∀ (H : Heap) (locs : List Loc) (ls : Array Slot), zM G (upG V g h) H → va_S A s.heap H locs → lv_has ls 5 [(0, .ref (gA G 0 g 0)), (1, .int p1), (2, va_rf (o2.map (gA G 8 g))), (3, .int a3)] → W p l e rX1_moveAround s m args below meth c H locs 0 0 Q (F0 m 13 ls []) := by
    intro n
    induction n with
    | zero =>
      intro h o2 a3 hf H locs ls hM hS hl
      rw [xX1_moveAround_L13] at hf
      cases hf
    | succ n ih =>
      intro h o2 a3 hf H locs ls hM hS hl
      rw [xX1_moveAround_L13] at hf
      cases o2 with
      | none =>
        replace hf := optm_none hf
        replace hl : lv_has ls 5 [(0, .ref (gA G 0 g 0)), (1, .int p1), (2, .null), (3, .int a3)] := hl
        refine W.eq (g2 := F0 m 13 ls []) rfl ?_
        refine lv_iload_n hx hb dX1_moveAround_13 rfl (lv_at hl 3 rfl) ?_
        refine lv_iload_n hx hb dX1_moveAround_14 rfl (lv_at hl 1 rfl) ?_
        refine lv_icmp_ge (tgt := 81) hx hb dX1_moveAround_15 (by decide) (fun c2 => ?_) (fun c2 => ?_)
        · replace hf := ift hf c2
          exact hQf hf hM hS dX1_moveAround_81
        · replace hf := iff_ hf c2
          refine lv_iload_n hx hb dX1_moveAround_18 rfl (lv_at hl 3 rfl) ?_
          refine lv_iconst (v := 3) hx hb dX1_moveAround_19 (by decide) ?_
          refine lv_icmp_ge (tgt := 81) hx hb dX1_moveAround_20 (by decide) (fun c3 => ?_) (fun c3 => ?_)
          · replace hf := ift hf c3
            exact hQf hf hM hS dX1_moveAround_81
          · replace hf := iff_ hf c3
            refine lv_iload_n hx hb dX1_moveAround_23 rfl (lv_at hl 3 rfl) ?_
            refine lv_iconst (v := 1) hx hb dX1_moveAround_24 (by decide) ?_
            refine lv_iadd hx hb dX1_moveAround_25 ?_
            refine lv_iload_n hx hb dX1_moveAround_26 rfl (lv_at hl 1 rfl) ?_
            refine lv_icmp_ge (tgt := 41) hx hb dX1_moveAround_27 (by decide) (fun c4 => ?_) (fun c4 => ?_)
            · replace hf := ift hf c4
              exact L41 _ ih h none a3 hf _ _ _ hM hS (lv_sub hl [0, 1, 2, 3] rfl)
            · replace hf := iff_ hf c4
              refine lv_iload_n hx hb dX1_moveAround_30 rfl (lv_at hl 3 rfl) ?_
              refine lv_iconst (v := 1) hx hb dX1_moveAround_31 (by decide) ?_
              refine lv_iadd hx hb dX1_moveAround_32 ?_
              refine lv_iconst (v := 3) hx hb dX1_moveAround_33 (by decide) ?_
              refine lv_icmp_ge (tgt := 41) hx hb dX1_moveAround_34 (by decide) (fun c5 => ?_) (fun c5 => ?_)
              · replace hf := ift hf c5
                exact L41 _ ih h none a3 hf _ _ _ hM hS (lv_sub hl [0, 1, 2, 3] rfl)
              · replace hf := iff_ hf c5
                refine lv_iconst (v := 1) hx hb dX1_moveAround_37 (by decide) ?_
                refine lv_goto (tgt := 42) hx hb dX1_moveAround_38 (by decide) ?_
                exact L42 _ ih h none a3 (1 : Int32) hf _ _ _ hM hS (lv_sub hl [0, 1, 2, 3] rfl)
      | some q1 =>
        replace hf := optm_s hf
        obtain ⟨hq1, hf⟩ := grd_some hf
        replace hq1 := of_decide_eq_true hq1
        replace hl : lv_has ls 5 [(0, .ref (gA G 0 g 0)), (1, .int p1), (2, .ref (gA G 8 g q1)), (3, .int a3)] := hl
        refine W.eq (g2 := F0 m 13 ls []) rfl ?_
        refine lv_iload_n hx hb dX1_moveAround_13 rfl (lv_at hl 3 rfl) ?_
        refine lv_iload_n hx hb dX1_moveAround_14 rfl (lv_at hl 1 rfl) ?_
        refine lv_icmp_ge (tgt := 81) hx hb dX1_moveAround_15 (by decide) (fun c6 => ?_) (fun c6 => ?_)
        · replace hf := ift hf c6
          exact hQf hf hM hS dX1_moveAround_81
        · replace hf := iff_ hf c6
          refine lv_iload_n hx hb dX1_moveAround_18 rfl (lv_at hl 3 rfl) ?_
          refine lv_iconst (v := 3) hx hb dX1_moveAround_19 (by decide) ?_
          refine lv_icmp_ge (tgt := 81) hx hb dX1_moveAround_20 (by decide) (fun c7 => ?_) (fun c7 => ?_)
          · replace hf := ift hf c7
            exact hQf hf hM hS dX1_moveAround_81
          · replace hf := iff_ hf c7
            refine lv_iload_n hx hb dX1_moveAround_23 rfl (lv_at hl 3 rfl) ?_
            refine lv_iconst (v := 1) hx hb dX1_moveAround_24 (by decide) ?_
            refine lv_iadd hx hb dX1_moveAround_25 ?_
            refine lv_iload_n hx hb dX1_moveAround_26 rfl (lv_at hl 1 rfl) ?_
            refine lv_icmp_ge (tgt := 41) hx hb dX1_moveAround_27 (by decide) (fun c8 => ?_) (fun c8 => ?_)
            · replace hf := ift hf c8
              exact L41 _ ih h (some q1) a3 hf _ _ _ hM hS (lv_sub hl [0, 1, 2, 3] rfl)
            · replace hf := iff_ hf c8
              refine lv_iload_n hx hb dX1_moveAround_30 rfl (lv_at hl 3 rfl) ?_
              refine lv_iconst (v := 1) hx hb dX1_moveAround_31 (by decide) ?_
              refine lv_iadd hx hb dX1_moveAround_32 ?_
              refine lv_iconst (v := 3) hx hb dX1_moveAround_33 (by decide) ?_
              refine lv_icmp_ge (tgt := 41) hx hb dX1_moveAround_34 (by decide) (fun c9 => ?_) (fun c9 => ?_)
              · replace hf := ift hf c9
                exact L41 _ ih h (some q1) a3 hf _ _ _ hM hS (lv_sub hl [0, 1, 2, 3] rfl)
              · replace hf := iff_ hf c9
                refine lv_iconst (v := 1) hx hb dX1_moveAround_37 (by decide) ?_
                refine lv_goto (tgt := 42) hx hb dX1_moveAround_38 (by decide) ?_
                exact L42 _ ih h (some q1) a3 (1 : Int32) hf _ _ _ hM hS (lv_sub hl [0, 1, 2, 3] rfl)
  unfold xX1_moveAround at hf
  refine lv_aload_n hx hb dX1_moveAround_0 rfl (lv_at hl 0 rfl) ?_
  refine lv_aload_n hx hb dX1_moveAround_1 rfl (lv_at hl 0 rfl) ?_
  refine z_get (own := RX1) (C := RX1) (T := TX1) (N := 10) (ci := 0) (v := .ref (gA G 5 g 0)) hx hb hL inX1 hown hK hM (dm_0 (g := g) (i := 0) hg rfl) (ze_0 G V g 0 h) rfl 5 (by decide) (hL _ zw1_134) rfl rfl dX1_moveAround_2 ?_
  refine lv_iconst (v := 0) hx hb dX1_moveAround_5 (by decide) ?_
  obtain ⟨hb1, hf⟩ := grd_some hf
  refine z_iald hx hb hK hM (dm_5 (g := g) (i := 0) hg rfl) (ze_5 G V g 0 h) (inb_in hb1) dX1_moveAround_6 ?_
  obtain ⟨r2, h4, hc3, hf⟩ := bnd_some hf
  refine z_callV (As := [.int (h 18 ((0 : Int32).toNatClampNeg))]) (rest := []) (C := RX1) hx hb hml hown hL hK hM hS (kX1_lockerOfPerson l G A V g hg h (h 18 ((0 : Int32).toNatClampNeg)) hc3) (zg_X1_lockerOfPerson zw2_197) zv_X1_lockerOfPerson ⟨rfl, rfl⟩ ⟨Nat.le_of_ble_eq_true rfl, Nat.le_of_ble_eq_true rfl⟩ (hM.recv hK (dm_0 (g := g) (i := 0) hg rfl) (ze_0 G V g 0 h) rfl) rfl hl.1 rfl (Nat.le_of_ble_eq_true rfl) dX1_moveAround_7 ⟨Nat.zero_le _, Nat.zero_le _⟩ (fun H locs hM hS => ?_)
  cases r2 with
  | none =>
    replace hf := optm_none hf
    refine W.eq (g2 := F0 m 10 ls [.null]) rfl ?_
    refine lv_astore_nN (lv' := [(2, .null), (0, .ref (gA G 0 g 0)), (1, .int p1)]) hx hb dX1_moveAround_10 rfl hl (by decide) rfl (fun ls hl => ?_)
    refine lv_iconst (v := 0) hx hb dX1_moveAround_11 (by decide) ?_
    refine lv_istore_n (lv' := [(3, .int (0 : Int32)), (2, .null), (0, .ref (gA G 0 g 0)), (1, .int p1)]) hx hb dX1_moveAround_12 rfl hl (by decide) rfl (fun ls hl => ?_)
    exact L13 1000 h4 none (0 : Int32) hf _ _ _ hM hS (lv_sub hl [2, 3, 1, 0] rfl)
  | some q5 =>
    replace hf := optm_s hf
    obtain ⟨hq5, hf⟩ := grd_some hf
    replace hq5 := of_decide_eq_true hq5
    refine W.eq (g2 := F0 m 10 ls [.ref (gA G 8 g q5)]) rfl ?_
    refine lv_astore_n (lv' := [(2, .ref (gA G 8 g q5)), (0, .ref (gA G 0 g 0)), (1, .int p1)]) hx hb dX1_moveAround_10 rfl hl (by decide) rfl (fun ls hl => ?_)
    refine lv_iconst (v := 0) hx hb dX1_moveAround_11 (by decide) ?_
    refine lv_istore_n (lv' := [(3, .int (0 : Int32)), (2, .ref (gA G 8 g q5)), (0, .ref (gA G 0 g 0)), (1, .int p1)]) hx hb dX1_moveAround_12 rfl hl (by decide) rfl (fun ls hl => ?_)
    exact L13 1000 h4 (some q5) (0 : Int32) hf _ _ _ hM hS (lv_sub hl [2, 3, 1, 0] rfl)
abbrev rX3_personAt : Room := { frames := 0, cells := 0, slots := 0, locals := 0 }
set_option maxRecDepth 100000 in
set_option maxHeartbeats 4000000 in
theorem kX3_personAt (l : Launch) (G : zG) (A : Nat → Prop) (V : zV3) (g : Nat) (hg : g < 7) (w : Nat) (hw : w < 2) (h : zV2) (p1 : Int32) {r : Int32} {h' : zV2} (hf : xX3_personAt w h p1 = some (r, h')) : zCt l G A yX3_personAt cX3_personAt 2 (some .int) rX3_personAt [.ref (gA G 3 g w), .int p1] (upG V g h) (some (.int r)) (upG V g h') := by
  refine z_CtI (by decide) (Nat.le_of_ble_eq_true rfl) ?_
  intro p e s m args below meth c Q hx hb hml hown hL hK hM hS hQ ls hl
  replace hl : lv_has ls 2 [(0, .ref (gA G 3 g w)), (1, .int p1)] := hl
  have hQf : ∀ {a : Int32} {k : zV2} {H : Heap} {locs : List Loc} {pc : Nat} {ls : Array Slot}, some (a, k) = some (r, h') → zM G (upG V g k) H → va_S A s.heap H locs → decode cX3_personAt pc = .ok (.ireturn, 1) → W p l e rX3_personAt s m args below meth c H locs 0 0 Q (F0 m pc ls [.int a]) := by
    intro a k H locs pc ls e1 hM hS hd
    cases e1
    exact hQ H locs pc ls hM hS hd
  unfold xX3_personAt at hf
  refine lv_iload_n hx hb dX3_personAt_0 rfl (lv_at hl 1 rfl) ?_
  refine lv_if_lt (tgt := 27) hx hb dX3_personAt_1 (by decide) (fun c1 => ?_) (fun c1 => ?_)
  · replace hf := ift hf c1
    refine lv_iconst (v := -1) hx hb dX3_personAt_27 (by decide) ?_
    exact hQf hf hM hS dX3_personAt_28
  · replace hf := iff_ hf c1
    refine lv_iload_n hx hb dX3_personAt_4 rfl (lv_at hl 1 rfl) ?_
    refine lv_aload_n hx hb dX3_personAt_5 rfl (lv_at hl 0 rfl) ?_
    refine z_get (own := RX3) (C := RX3) (T := TX3) (N := 3) (ci := 2) (v := .int (h (23 + w) 0)) hx hb hL inX3 hown hK hM (dm_3 (g := g) (i := w) hg hw) (ze_3 G V g w h) rfl 2 (by decide) (hL _ zw1_44) rfl rfl dX3_personAt_6 ?_
    refine lv_icmp_ge (tgt := 27) hx hb dX3_personAt_9 (by decide) (fun c2 => ?_) (fun c2 => ?_)
    · replace hf := ift hf c2
      refine lv_iconst (v := -1) hx hb dX3_personAt_27 (by decide) ?_
      exact hQf hf hM hS dX3_personAt_28
    · replace hf := iff_ hf c2
      refine lv_iload_n hx hb dX3_personAt_12 rfl (lv_at hl 1 rfl) ?_
      refine lv_bipush (v := 10) hx hb dX3_personAt_13 (by decide) ?_
      refine lv_icmp_ge (tgt := 27) hx hb dX3_personAt_15 (by decide) (fun c3 => ?_) (fun c3 => ?_)
      · replace hf := ift hf c3
        refine lv_iconst (v := -1) hx hb dX3_personAt_27 (by decide) ?_
        exact hQf hf hM hS dX3_personAt_28
      · replace hf := iff_ hf c3
        refine lv_aload_n hx hb dX3_personAt_18 rfl (lv_at hl 0 rfl) ?_
        refine z_get (own := RX3) (C := RX3) (T := TX3) (N := 3) (ci := 2) (v := .ref (gA G 6 g w)) hx hb hL inX3 hown hK hM (dm_3 (g := g) (i := w) hg hw) (ze_3 G V g w h) rfl 0 (by decide) (hL _ zw1_42) rfl rfl dX3_personAt_19 ?_
        refine lv_iload_n hx hb dX3_personAt_22 rfl (lv_at hl 1 rfl) ?_
        obtain ⟨hb4, hf⟩ := grd_some hf
        refine z_iald hx hb hK hM (dm_6 (g := g) (i := w) hg hw) (ze_6 G V g w h) (inb_in hb4) dX3_personAt_23 ?_
        refine lv_goto (tgt := 28) hx hb dX3_personAt_24 (by decide) ?_
        exact hQf hf hM hS dX3_personAt_28
abbrev rX3_sizeAt : Room := { frames := 0, cells := 0, slots := 0, locals := 0 }
set_option maxRecDepth 100000 in
set_option maxHeartbeats 4000000 in
theorem kX3_sizeAt (l : Launch) (G : zG) (A : Nat → Prop) (V : zV3) (g : Nat) (hg : g < 7) (w : Nat) (hw : w < 2) (h : zV2) (p1 : Int32) {r : Int32} {h' : zV2} (hf : xX3_sizeAt w h p1 = some (r, h')) : zCt l G A yX3_sizeAt cX3_sizeAt 2 (some .int) rX3_sizeAt [.ref (gA G 3 g w), .int p1] (upG V g h) (some (.int r)) (upG V g h') := by
  refine z_CtI (by decide) (Nat.le_of_ble_eq_true rfl) ?_
  intro p e s m args below meth c Q hx hb hml hown hL hK hM hS hQ ls hl
  replace hl : lv_has ls 2 [(0, .ref (gA G 3 g w)), (1, .int p1)] := hl
  have hQf : ∀ {a : Int32} {k : zV2} {H : Heap} {locs : List Loc} {pc : Nat} {ls : Array Slot}, some (a, k) = some (r, h') → zM G (upG V g k) H → va_S A s.heap H locs → decode cX3_sizeAt pc = .ok (.ireturn, 1) → W p l e rX3_sizeAt s m args below meth c H locs 0 0 Q (F0 m pc ls [.int a]) := by
    intro a k H locs pc ls e1 hM hS hd
    cases e1
    exact hQ H locs pc ls hM hS hd
  unfold xX3_sizeAt at hf
  refine lv_iload_n hx hb dX3_sizeAt_0 rfl (lv_at hl 1 rfl) ?_
  refine lv_if_lt (tgt := 27) hx hb dX3_sizeAt_1 (by decide) (fun c1 => ?_) (fun c1 => ?_)
  · replace hf := ift hf c1
    refine lv_iconst (v := -1) hx hb dX3_sizeAt_27 (by decide) ?_
    exact hQf hf hM hS dX3_sizeAt_28
  · replace hf := iff_ hf c1
    refine lv_iload_n hx hb dX3_sizeAt_4 rfl (lv_at hl 1 rfl) ?_
    refine lv_aload_n hx hb dX3_sizeAt_5 rfl (lv_at hl 0 rfl) ?_
    refine z_get (own := RX3) (C := RX3) (T := TX3) (N := 3) (ci := 2) (v := .int (h (23 + w) 0)) hx hb hL inX3 hown hK hM (dm_3 (g := g) (i := w) hg hw) (ze_3 G V g w h) rfl 2 (by decide) (hL _ zw1_44) rfl rfl dX3_sizeAt_6 ?_
    refine lv_icmp_ge (tgt := 27) hx hb dX3_sizeAt_9 (by decide) (fun c2 => ?_) (fun c2 => ?_)
    · replace hf := ift hf c2
      refine lv_iconst (v := -1) hx hb dX3_sizeAt_27 (by decide) ?_
      exact hQf hf hM hS dX3_sizeAt_28
    · replace hf := iff_ hf c2
      refine lv_iload_n hx hb dX3_sizeAt_12 rfl (lv_at hl 1 rfl) ?_
      refine lv_bipush (v := 10) hx hb dX3_sizeAt_13 (by decide) ?_
      refine lv_icmp_ge (tgt := 27) hx hb dX3_sizeAt_15 (by decide) (fun c3 => ?_) (fun c3 => ?_)
      · replace hf := ift hf c3
        refine lv_iconst (v := -1) hx hb dX3_sizeAt_27 (by decide) ?_
        exact hQf hf hM hS dX3_sizeAt_28
      · replace hf := iff_ hf c3
        refine lv_aload_n hx hb dX3_sizeAt_18 rfl (lv_at hl 0 rfl) ?_
        refine z_get (own := RX3) (C := RX3) (T := TX3) (N := 3) (ci := 2) (v := .ref (gA G 7 g w)) hx hb hL inX3 hown hK hM (dm_3 (g := g) (i := w) hg hw) (ze_3 G V g w h) rfl 1 (by decide) (hL _ zw1_43) rfl rfl dX3_sizeAt_19 ?_
        refine lv_iload_n hx hb dX3_sizeAt_22 rfl (lv_at hl 1 rfl) ?_
        obtain ⟨hb4, hf⟩ := grd_some hf
        refine z_iald hx hb hK hM (dm_7 (g := g) (i := w) hg hw) (ze_7 G V g w h) (inb_in hb4) dX3_sizeAt_23 ?_
        refine lv_goto (tgt := 28) hx hb dX3_sizeAt_24 (by decide) ?_
        exact hQf hf hM hS dX3_sizeAt_28
