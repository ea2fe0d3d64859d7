abbrev rX1_tellOfLocker : Room := { frames := 1, cells := 0, slots := 0, locals := 21 }
set_option maxRecDepth 100000 in
set_option maxHeartbeats 4000000 in
theorem kX1_tellOfLocker (l : Launch) (G : zG) (A : Nat → Prop) (V : zV3) (g : Nat) (hg : g < 7) (h : zV2) (p1 : Int32) (p2 : Int32) {r : Int32} {h' : zV2} (hf : xX1_tellOfLocker h p1 p2 = some (r, h')) : zCt l G A yX1_tellOfLocker cX1_tellOfLocker 4 (some .int) rX1_tellOfLocker [.ref (gA G 0 g 0), .int p1, .int p2] (upG V g h) (some (.int r)) (upG V g h') := by
  refine z_CtI (by decide) (Nat.le_of_ble_eq_true rfl) ?_
  intro p e s m args below meth c Q hx hb hml hown hL hK hM hS hQ ls hl
  replace hl : lv_has ls 4 [(0, .ref (gA G 0 g 0)), (1, .int p1), (2, .int p2)] := hl
  have hQf : ∀ {a : Int32} {k : zV2} {H : Heap} {locs : List Loc} {pc : Nat} {ls : Array Slot}, some (a, k) = some (r, h') → zM G (upG V g k) H → va_S A s.heap H locs → decode cX1_tellOfLocker pc = .ok (.ireturn, 1) → W p l e rX1_tellOfLocker s m args below meth c H locs 0 0 Q (F0 m pc ls [.int a]) := by
    intro a k H locs pc ls e1 hM hS hd
    cases e1
    exact hQ H locs pc ls hM hS hd
  unfold xX1_tellOfLocker at hf
  refine lv_aload_n hx hb dX1_tellOfLocker_0 rfl (lv_at hl 0 rfl) ?_
  refine lv_iload_n hx hb dX1_tellOfLocker_1 rfl (lv_at hl 1 rfl) ?_
  obtain ⟨r1, h3, hc2, hf⟩ := bnd_some hf
  refine z_callV (As := [.int p1]) (rest := []) (C := RX1) hx hb hml hown hL hK hM hS (kX1_lockerAt l G A V g hg h p1 hc2) (zg_X1_lockerAt zw2_69) zv_X1_lockerAt ⟨rfl, rfl⟩ ⟨Nat.le_of_ble_eq_true rfl, Nat.le_of_ble_eq_true rfl⟩ (hM.recv hK (dm_0 (g := g) (i := 0) hg rfl) (ze_0 G V g 0 h) rfl) rfl hl.1 rfl (Nat.le_of_ble_eq_true rfl) dX1_tellOfLocker_2 ⟨Nat.zero_le _, Nat.zero_le _⟩ (fun H locs hM hS => ?_)
  cases r1 with
  | none =>
    replace hf := optm_none hf
    refine W.eq (g2 := F0 m 5 ls [.null]) rfl ?_
    refine lv_astore_nN (lv' := [(3, .null), (0, .ref (gA G 0 g 0)), (1, .int p1), (2, .int p2)]) hx hb dX1_tellOfLocker_5 rfl hl (by decide) rfl (fun ls hl => ?_)
    refine lv_aload_nN hx hb dX1_tellOfLocker_6 rfl (lv_at hl 0 rfl) ?_
    refine lv_ifnonnullN hx hb dX1_tellOfLocker_7 ?_
    refine lv_iconst (v := -1) hx hb dX1_tellOfLocker_10 (by decide) ?_
    exact hQf hf hM hS dX1_tellOfLocker_11
  | some q4 =>
    replace hf := optm_s hf
    obtain ⟨hq4, hf⟩ := grd_some hf
    replace hq4 := of_decide_eq_true hq4
    refine W.eq (g2 := F0 m 5 ls [.ref (gA G 8 g q4)]) rfl ?_
    refine lv_astore_n (lv' := [(3, .ref (gA G 8 g q4)), (0, .ref (gA G 0 g 0)), (1, .int p1), (2, .int p2)]) hx hb dX1_tellOfLocker_5 rfl hl (by decide) rfl (fun ls hl => ?_)
    refine lv_aload_n hx hb dX1_tellOfLocker_6 rfl (lv_at hl 0 rfl) ?_
    refine lv_ifnonnull (tgt := 12) hx hb dX1_tellOfLocker_7 (by decide) ?_
    refine lv_iload_n hx hb dX1_tellOfLocker_12 rfl (lv_at hl 3 rfl) ?_
    by_cases c5 : p2 = (0 : Int32)
    · replace hf := ift hf c5
      refine lv_tableIn (off := 43) (tgt := 56) hx hb dX1_tellOfLocker_13 (by rw [c5]; decide) (by rw [c5]; decide) (by rw [c5]; rfl) (by decide) ?_
      refine lv_aload_n hx hb dX1_tellOfLocker_56 rfl (lv_at hl 0 rfl) ?_
      refine z_getN (own := RX1) (C := RX4) (T := TX4) (N := 7) (ci := 3) (v := .int (h3 0 q4)) hx hb hL inX4 hown hK hM (dm_8 (g := g) (i := q4) hg hq4) (ze_8 G V g q4 h3) rfl 1 (by decide) 22 rfl rfl rfl dX1_tellOfLocker_57 ?_
      exact hQf hf hM hS dX1_tellOfLocker_60
    · replace hf := iff_ hf c5
      by_cases c6 : p2 = (1 : Int32)
      · replace hf := ift hf c6
        refine lv_tableIn (off := 48) (tgt := 61) hx hb dX1_tellOfLocker_13 (by rw [c6]; decide) (by rw [c6]; decide) (by rw [c6]; rfl) (by decide) ?_
        refine lv_aload_n hx hb dX1_tellOfLocker_61 rfl (lv_at hl 0 rfl) ?_
        refine z_getN (own := RX1) (C := RX4) (T := TX4) (N := 7) (ci := 3) (v := .int (h3 1 q4)) hx hb hL inX4 hown hK hM (dm_8 (g := g) (i := q4) hg hq4) (ze_8 G V g q4 h3) rfl 2 (by decide) 23 rfl rfl rfl dX1_tellOfLocker_62 ?_
        refine lv_if_eq (tgt := 72) hx hb dX1_tellOfLocker_65 (by decide) (fun c7 => ?_) (fun c7 => ?_)
        · replace hf := ift hf c7
          refine lv_iconst (v := 0) hx hb dX1_tellOfLocker_72 (by decide) ?_
          exact hQf hf hM hS dX1_tellOfLocker_73
        · replace hf := iff_ hf c7
          refine lv_iconst (v := 1) hx hb dX1_tellOfLocker_68 (by decide) ?_
          refine lv_goto (tgt := 73) hx hb dX1_tellOfLocker_69 (by decide) ?_
          exact hQf hf hM hS dX1_tellOfLocker_73
      · replace hf := iff_ hf c6
        by_cases c8 : p2 = (2 : Int32)
        · replace hf := ift hf c8
          refine lv_tableIn (off := 61) (tgt := 74) hx hb dX1_tellOfLocker_13 (by rw [c8]; decide) (by rw [c8]; decide) (by rw [c8]; rfl) (by decide) ?_
          refine lv_aload_n hx hb dX1_tellOfLocker_74 rfl (lv_at hl 0 rfl) ?_
          refine z_getN (own := RX1) (C := RX4) (T := TX4) (N := 7) (ci := 3) (v := .int (h3 2 q4)) hx hb hL inX4 hown hK hM (dm_8 (g := g) (i := q4) hg hq4) (ze_8 G V g q4 h3) rfl 3 (by decide) 17 rfl rfl rfl dX1_tellOfLocker_75 ?_
          obtain ⟨r9, h11, hc10, hf⟩ := bnd_some hf
          refine z_callS (As := [.int (h3 2 q4)]) (rest := []) hx hb hml hown hL hK hM hS (kX1_foundOr l G A V g hg h3 (h3 2 q4) hc10) (zg_X1_foundOr zw3_26) zy_X1_foundOr ⟨rfl, rfl⟩ ⟨Nat.le_of_ble_eq_true rfl, Nat.le_of_ble_eq_true rfl⟩ rfl hl.1 rfl (Nat.le_of_ble_eq_true rfl) dX1_tellOfLocker_78 ⟨Nat.zero_le _, Nat.zero_le _⟩ (fun H locs hM hS => ?_)
          refine W.eq (g2 := F0 m 81 ls [.int r9]) rfl ?_
          exact hQf hf hM hS dX1_tellOfLocker_81
        · replace hf := iff_ hf c8
          by_cases c12 : p2 = (3 : Int32)
          · replace hf := ift hf c12
            refine lv_tableIn (off := 69) (tgt := 82) hx hb dX1_tellOfLocker_13 (by rw [c12]; decide) (by rw [c12]; decide) (by rw [c12]; rfl) (by decide) ?_
            refine lv_aload_n hx hb dX1_tellOfLocker_82 rfl (lv_at hl 0 rfl) ?_
            obtain ⟨r13, h15, hc14, hf⟩ := bnd_some hf
            refine z_callV (As := []) (rest := []) (C := RX4) hx hb hml hown hL hK hM hS (kX4_isFree l G A V g hg q4 hq4 h3 hc14) (zg_X4_isFree zw2_89) zv_X4_isFree ⟨rfl, rfl⟩ ⟨Nat.le_of_ble_eq_true rfl, Nat.le_of_ble_eq_true rfl⟩ (hM.recv hK (dm_8 (g := g) (i := q4) hg hq4) (ze_8 G V g q4 h3) rfl) rfl hl.1 rfl (Nat.le_of_ble_eq_true rfl) dX1_tellOfLocker_83 ⟨Nat.zero_le _, Nat.zero_le _⟩ (fun H locs hM hS => ?_)
            refine W.eq (g2 := F0 m 86 ls [.int r13]) rfl ?_
            refine lv_if_eq (tgt := 93) hx hb dX1_tellOfLocker_86 (by decide) (fun c16 => ?_) (fun c16 => ?_)
            · replace hf := ift hf c16
              refine lv_iconst (v := 0) hx hb dX1_tellOfLocker_93 (by decide) ?_
              exact hQf hf hM hS dX1_tellOfLocker_94
            · replace hf := iff_ hf c16
              refine lv_iconst (v := 1) hx hb dX1_tellOfLocker_89 (by decide) ?_
              refine lv_goto (tgt := 94) hx hb dX1_tellOfLocker_90 (by decide) ?_
              exact hQf hf hM hS dX1_tellOfLocker_94
          · replace hf := iff_ hf c12
            by_cases c17 : p2 = (4 : Int32)
            · replace hf := ift hf c17
              refine lv_tableIn (off := 82) (tgt := 95) hx hb dX1_tellOfLocker_13 (by rw [c17]; decide) (by rw [c17]; decide) (by rw [c17]; rfl) (by decide) ?_
              refine lv_aload_n hx hb dX1_tellOfLocker_95 rfl (lv_at hl 0 rfl) ?_
              refine z_getN (own := RX1) (C := RX4) (T := TX4) (N := 7) (ci := 3) (v := .int (h3 3 q4)) hx hb hL inX4 hown hK hM (dm_8 (g := g) (i := q4) hg hq4) (ze_8 G V g q4 h3) rfl 4 (by decide) 14 rfl rfl rfl dX1_tellOfLocker_96 ?_
              refine lv_if_eq (tgt := 106) hx hb dX1_tellOfLocker_99 (by decide) (fun c18 => ?_) (fun c18 => ?_)
              · replace hf := ift hf c18
                refine lv_iconst (v := 0) hx hb dX1_tellOfLocker_106 (by decide) ?_
                exact hQf hf hM hS dX1_tellOfLocker_107
              · replace hf := iff_ hf c18
                refine lv_iconst (v := 1) hx hb dX1_tellOfLocker_102 (by decide) ?_
                refine lv_goto (tgt := 107) hx hb dX1_tellOfLocker_103 (by decide) ?_
                exact hQf hf hM hS dX1_tellOfLocker_107
            · replace hf := iff_ hf c17
              by_cases c19 : p2 = (5 : Int32)
              · replace hf := ift hf c19
                refine lv_tableIn (off := 95) (tgt := 108) hx hb dX1_tellOfLocker_13 (by rw [c19]; decide) (by rw [c19]; decide) (by rw [c19]; rfl) (by decide) ?_
                refine lv_aload_n hx hb dX1_tellOfLocker_108 rfl (lv_at hl 0 rfl) ?_
                refine z_getN (own := RX1) (C := RX4) (T := TX4) (N := 7) (ci := 3) (v := .int (h3 4 q4)) hx hb hL inX4 hown hK hM (dm_8 (g := g) (i := q4) hg hq4) (ze_8 G V g q4 h3) rfl 5 (by decide) 15 rfl rfl rfl dX1_tellOfLocker_109 ?_
                obtain ⟨r20, h22, hc21, hf⟩ := bnd_some hf
                refine z_callS (As := [.int (h3 4 q4)]) (rest := []) hx hb hml hown hL hK hM hS (kX1_foundOr l G A V g hg h3 (h3 4 q4) hc21) (zg_X1_foundOr zw3_26) zy_X1_foundOr ⟨rfl, rfl⟩ ⟨Nat.le_of_ble_eq_true rfl, Nat.le_of_ble_eq_true rfl⟩ rfl hl.1 rfl (Nat.le_of_ble_eq_true rfl) dX1_tellOfLocker_112 ⟨Nat.zero_le _, Nat.zero_le _⟩ (fun H locs hM hS => ?_)
                refine W.eq (g2 := F0 m 115 ls [.int r20]) rfl ?_
                exact hQf hf hM hS dX1_tellOfLocker_115
              · replace hf := iff_ hf c19
                by_cases c23 : p2 = (6 : Int32)
                · replace hf := ift hf c23
                  refine lv_tableIn (off := 103) (tgt := 116) hx hb dX1_tellOfLocker_13 (by rw [c23]; decide) (by rw [c23]; decide) (by rw [c23]; rfl) (by decide) ?_
                  refine lv_aload_n hx hb dX1_tellOfLocker_116 rfl (lv_at hl 0 rfl) ?_
                  refine z_getN (own := RX1) (C := RX4) (T := TX4) (N := 7) (ci := 3) (v := .int (h3 5 q4)) hx hb hL inX4 hown hK hM (dm_8 (g := g) (i := q4) hg hq4) (ze_8 G V g q4 h3) rfl 6 (by decide) 20 rfl rfl rfl dX1_tellOfLocker_117 ?_
                  exact hQf hf hM hS dX1_tellOfLocker_120
                · replace hf := iff_ hf c23
                  refine lv_tableOut (tgt := 121) hx hb dX1_tellOfLocker_13 (by have t0 := lv_neT c5 (a := 0) (by decide); have t1 := lv_neT c6 (a := 1) (by decide); have t2 := lv_neT c8 (a := 2) (by decide); have t3 := lv_neT c12 (a := 3) (by decide); have t4 := lv_neT c17 (a := 4) (by decide); have t5 := lv_neT c19 (a := 5) (by decide); have t6 := lv_neT c23 (a := 6) (by decide); omega) (by decide) ?_
                  refine lv_iconst (v := -1) hx hb dX1_tellOfLocker_121 (by decide) ?_
                  exact hQf hf hM hS dX1_tellOfLocker_122
abbrev rX1_closedLockers : Room := { frames := 0, cells := 0, slots := 0, locals := 0 }
set_option maxRecDepth 100000 in
set_option maxHeartbeats 4000000 in
theorem kX1_closedLockers (l : Launch) (G : zG) (A : Nat → Prop) (V : zV3) (g : Nat) (hg : g < 7) (h : zV2) {r : Int32} {h' : zV2} (hf : xX1_closedLockers h  = some (r, h')) : zCt l G A yX1_closedLockers cX1_closedLockers 3 (some .int) rX1_closedLockers [.ref (gA G 0 g 0)] (upG V g h) (some (.int r)) (upG V g h') := by
  refine z_CtI (by decide) (Nat.le_of_ble_eq_true rfl) ?_
  intro p e s m args below meth c Q hx hb hml hown hL hK hM hS hQ ls hl
  replace hl : lv_has ls 3 [(0, .ref (gA G 0 g 0))] := hl
  have hQf : ∀ {a : Int32} {k : zV2} {H : Heap} {locs : List Loc} {pc : Nat} {ls : Array Slot}, some (a, k) = some (r, h') → zM G (upG V g k) H → va_S A s.heap H locs → decode cX1_closedLockers pc = .ok (.ireturn, 1) → W p l e rX1_closedLockers s m args below meth c H locs 0 0 Q (F0 m pc ls [.int a]) := by
    intro a k H locs pc ls e1 hM hS hd
    cases e1
    exact hQ H locs pc ls hM hS hd
  have L4 : ∀ (n : Nat) (h : zV2) (a1 : Int32) (a2 : Int32), xX1_closedLockers_L4 n h a1 a2 = some (r, h') → ∀ (H : Heap) (locs : List Loc) (ls : Array Slot), zM G (upG V g h) H → va_S A s.heap H locs → lv_has ls 3 [(0, .ref (gA G 0 g 0)), (1, .int a1), (2, .int a2)] → W p l e rX1_closedLockers s m args below meth c H locs 0 0 Q (F0 m 4 ls []) := by
    intro n
    induction n with
    | zero =>
      intro h a1 a2 hf H locs ls hM hS hl
      rw [xX1_closedLockers_L4] at hf
      cases hf
    | succ n ih =>
      intro h a1 a2 hf H locs ls hM hS hl
      rw [xX1_closedLockers_L4] at hf
      refine lv_iload_n hx hb dX1_closedLockers_4 rfl (lv_at hl 2 rfl) ?_
      refine lv_bipush (v := 12) hx hb dX1_closedLockers_5 (by decide) ?_
      refine lv_icmp_ge (tgt := 37) hx hb dX1_closedLockers_7 (by decide) (fun c1 => ?_) (fun c1 => ?_)
      · replace hf := ift hf c1
        refine lv_iload_n hx hb dX1_closedLockers_37 rfl (lv_at hl 1 rfl) ?_
        exact hQf hf hM hS dX1_closedLockers_38
      · replace hf := iff_ hf c1
        refine lv_iload_n hx hb dX1_closedLockers_10 rfl (lv_at hl 1 rfl) ?_
        refine lv_aload_n hx hb dX1_closedLockers_11 rfl (lv_at hl 0 rfl) ?_
        refine z_get (own := RX1) (C := RX1) (T := TX1) (N := 10) (ci := 0) (v := .ref (gA G 1 g 0)) hx hb hL inX1 hown hK hM (dm_0 (g := g) (i := 0) hg rfl) (ze_0 G V g 0 h) rfl 0 (by decide) (hL _ zw1_128) rfl rfl dX1_closedLockers_12 ?_
        refine lv_iload_n hx hb dX1_closedLockers_15 rfl (lv_at hl 2 rfl) ?_
        obtain ⟨hb2, hf⟩ := grd_some hf
        refine z_aald hx hb hK hM (dm_1 (g := g) (i := 0) hg rfl) 2 (zd_1 G (upG V g h) g 0) rfl (inb_in hb2) dX1_closedLockers_16 ?_
        refine z_getN (own := RX1) (C := RX4) (T := TX4) (N := 7) (ci := 3) (v := .int (h 4 a2.toNatClampNeg)) hx hb hL inX4 hown hK hM (dm_8 (g := g) (i := a2.toNatClampNeg) hg (inb_lt hb2)) (ze_8 G V g a2.toNatClampNeg h) rfl 5 (by decide) 15 rfl rfl rfl dX1_closedLockers_17 ?_
        refine lv_iconst (v := -1) hx hb dX1_closedLockers_20 (by decide) ?_
        refine lv_icmp_eq (tgt := 28) hx hb dX1_closedLockers_21 (by decide) (fun c3 => ?_) (fun c3 => ?_)
        · replace hf := ift hf c3
          refine lv_iconst (v := 0) hx hb dX1_closedLockers_28 (by decide) ?_
          refine lv_iadd hx hb dX1_closedLockers_29 ?_
          refine lv_topi (fun y4 ey4 => ?_)
          replace hf := ltI_some hf ey4
          refine lv_istore_n (lv' := [(1, .int y4), (0, .ref (gA G 0 g 0)), (2, .int a2)]) hx hb dX1_closedLockers_30 rfl hl (by decide) rfl (fun ls hl => ?_)
          obtain ⟨y5, ey5⟩ : ∃ y : Int32, y = a2 + (1 : Int32) := ⟨_, rfl⟩
          replace hf := ltI_some hf ey5
          refine lv_iinc (v := y5) (lv' := [(2, .int y5), (1, .int y4), (0, .ref (gA G 0 g 0))]) hx hb dX1_closedLockers_31 hl (k := 2) rfl (by rw [ey5]; rfl) (by decide) rfl (fun ls hl => ?_)
          refine lv_goto (tgt := 4) hx hb dX1_closedLockers_34 (by decide) ?_
          exact ih h y4 y5 hf _ _ _ hM hS (lv_sub hl [2, 1, 0] rfl)
        · replace hf := iff_ hf c3
          refine lv_iconst (v := 1) hx hb dX1_closedLockers_24 (by decide) ?_
          refine lv_goto (tgt := 29) hx hb dX1_closedLockers_25 (by decide) ?_
          refine lv_iadd hx hb dX1_closedLockers_29 ?_
          refine lv_topi (fun y6 ey6 => ?_)
          replace hf := ltI_some hf ey6
          refine lv_istore_n (lv' := [(1, .int y6), (0, .ref (gA G 0 g 0)), (2, .int a2)]) hx hb dX1_closedLockers_30 rfl hl (by decide) rfl (fun ls hl => ?_)
          obtain ⟨y7, ey7⟩ : ∃ y : Int32, y = a2 + (1 : Int32) := ⟨_, rfl⟩
          replace hf := ltI_some hf ey7
          refine lv_iinc (v := y7) (lv' := [(2, .int y7), (1, .int y6), (0, .ref (gA G 0 g 0))]) hx hb dX1_closedLockers_31 hl (k := 2) rfl (by rw [ey7]; rfl) (by decide) rfl (fun ls hl => ?_)
          refine lv_goto (tgt := 4) hx hb dX1_closedLockers_34 (by decide) ?_
          exact ih h y6 y7 hf _ _ _ hM hS (lv_sub hl [2, 1, 0] rfl)
  unfold xX1_closedLockers at hf
  refine lv_iconst (v := 0) hx hb dX1_closedLockers_0 (by decide) ?_
  refine lv_istore_n (lv' := [(1, .int (0 : Int32)), (0, .ref (gA G 0 g 0))]) hx hb dX1_closedLockers_1 rfl hl (by decide) rfl (fun ls hl => ?_)
  refine lv_iconst (v := 0) hx hb dX1_closedLockers_2 (by decide) ?_
  refine lv_istore_n (lv' := [(2, .int (0 : Int32)), (1, .int (0 : Int32)), (0, .ref (gA G 0 g 0))]) hx hb dX1_closedLockers_3 rfl hl (by decide) rfl (fun ls hl => ?_)
  exact L4 1000 h (0 : Int32) (0 : Int32) hf _ _ _ hM hS (lv_sub hl [2, 1, 0] rfl)
abbrev rX1_freeLockers : Room := { frames := 1, cells := 0, slots := 0, locals := 20 }
set_option maxRecDepth 100000 in
set_option maxHeartbeats 4000000 in
theorem kX1_freeLockers (l : Launch) (G : zG) (A : Nat → Prop) (V : zV3) (g : Nat) (hg : g < 7) (h : zV2) {r : Int32} {h' : zV2} (hf : xX1_freeLockers h  = some (r, h')) : zCt l G A yX1_freeLockers cX1_freeLockers 3 (some .int) rX1_freeLockers [.ref (gA G 0 g 0)] (upG V g h) (some (.int r)) (upG V g h') := by
  refine z_CtI (by decide) (Nat.le_of_ble_eq_true rfl) ?_
  intro p e s m args below meth c Q hx hb hml hown hL hK hM hS hQ ls hl
  replace hl : lv_has ls 3 [(0, .ref (gA G 0 g 0))] := hl
  have hQf : ∀ {a : Int32} {k : zV2} {H : Heap} {locs : List Loc} {pc : Nat} {ls : Array Slot}, some (a, k) = some (r, h') → zM G (upG V g k) H → va_S A s.heap H locs → decode cX1_freeLockers pc = .ok (.ireturn, 1) → W p l e rX1_freeLockers s m args below meth c H locs 0 0 Q (F0 m pc ls [.int a]) := by
    intro a k H locs pc ls e1 hM hS hd
    cases e1
    exact hQ H locs pc ls hM hS hd
  have L4 : ∀ (n : Nat) (h : zV2) (a1 : Int32) (a2 : Int32), xX1_freeLockers_L4 n h a1 a2 = some (r, h') → ∀ (H : Heap) (locs : List Loc) (ls : Array Slot), zM G (upG V g h) H → va_S A s.heap H locs → lv_has ls 3 [(0, .ref (gA G 0 g 0)), (1, .int a1), (2, .int a2)] → W p l e rX1_freeLockers s m args below meth c H locs 0 0 Q (F0 m 4 ls []) := by
    intro n
    induction n with
    | zero =>
      intro h a1 a2 hf H locs ls hM hS hl
      rw [xX1_freeLockers_L4] at hf
      cases hf
    | succ n ih =>
      intro h a1 a2 hf H locs ls hM hS hl
      rw [xX1_freeLockers_L4] at hf
      refine lv_iload_n hx hb dX1_freeLockers_4 rfl (lv_at hl 2 rfl) ?_
      refine lv_bipush (v := 12) hx hb dX1_freeLockers_5 (by decide) ?_
      refine lv_icmp_ge (tgt := 36) hx hb dX1_freeLockers_7 (by decide) (fun c1 => ?_) (fun c1 => ?_)
      · replace hf := ift hf c1
        refine lv_iload_n hx hb dX1_freeLockers_36 rfl (lv_at hl 1 rfl) ?_
        exact hQf hf hM hS dX1_freeLockers_37
      · replace hf := iff_ hf c1
        refine lv_iload_n hx hb dX1_freeLockers_10 rfl (lv_at hl 1 rfl) ?_
        refine lv_aload_n hx hb dX1_freeLockers_11 rfl (lv_at hl 0 rfl) ?_
        refine z_get (own := RX1) (C := RX1) (T := TX1) (N := 10) (ci := 0) (v := .ref (gA G 1 g 0)) hx hb hL inX1 hown hK hM (dm_0 (g := g) (i := 0) hg rfl) (ze_0 G V g 0 h) rfl 0 (by decide) (hL _ zw1_128) rfl rfl dX1_freeLockers_12 ?_
        refine lv_iload_n hx hb dX1_freeLockers_15 rfl (lv_at hl 2 rfl) ?_
        obtain ⟨hb2, hf⟩ := grd_some hf
        refine z_aald hx hb hK hM (dm_1 (g := g) (i := 0) hg rfl) 2 (zd_1 G (upG V g h) g 0) rfl (inb_in hb2) dX1_freeLockers_16 ?_
        obtain ⟨r3, h5, hc4, hf⟩ := bnd_some hf
        refine z_callV (As := []) (rest := [.int a1]) (C := RX4) hx hb hml hown hL hK hM hS (kX4_isFree l G A V g hg a2.toNatClampNeg (inb_lt hb2) h hc4) (zg_X4_isFree zw2_89) zv_X4_isFree ⟨rfl, rfl⟩ ⟨Nat.le_of_ble_eq_true rfl, Nat.le_of_ble_eq_true rfl⟩ (hM.recv hK (dm_8 (g := g) (i := a2.toNatClampNeg) hg (inb_lt hb2)) (ze_8 G V g a2.toNatClampNeg h) rfl) rfl hl.1 rfl (Nat.le_of_ble_eq_true rfl) dX1_freeLockers_17 ⟨Nat.zero_le _, Nat.zero_le _⟩ (fun H locs hM hS => ?_)
        refine W.eq (g2 := F0 m 20 ls [.int r3, .int a1]) rfl ?_
        refine lv_if_eq (tgt := 27) hx hb dX1_freeLockers_20 (by decide) (fun c6 => ?_) (fun c6 => ?_)
        · replace hf := ift hf c6
          refine lv_iconst (v := 0) hx hb dX1_freeLockers_27 (by decide) ?_
          refine lv_iadd hx hb dX1_freeLockers_28 ?_
          refine lv_topi (fun y7 ey7 => ?_)
          replace hf := ltI_some hf ey7
          refine lv_istore_n (lv' := [(1, .int y7), (0, .ref (gA G 0 g 0)), (2, .int a2)]) hx hb dX1_freeLockers_29 rfl hl (by decide) rfl (fun ls hl => ?_)
          obtain ⟨y8, ey8⟩ : ∃ y : Int32, y = a2 + (1 : Int32) := ⟨_, rfl⟩
          replace hf := ltI_some hf ey8
          refine lv_iinc (v := y8) (lv' := [(2, .int y8), (1, .int y7), (0, .ref (gA G 0 g 0))]) hx hb dX1_freeLockers_30 hl (k := 2) rfl (by rw [ey8]; rfl) (by decide) rfl (fun ls hl => ?_)
          refine lv_goto (tgt := 4) hx hb dX1_freeLockers_33 (by decide) ?_
          exact ih h5 y7 y8 hf _ _ _ hM hS (lv_sub hl [2, 1, 0] rfl)
        · replace hf := iff_ hf c6
          refine lv_iconst (v := 1) hx hb dX1_freeLockers_23 (by decide) ?_
          refine lv_goto (tgt := 28) hx hb dX1_freeLockers_24 (by decide) ?_
          refine lv_iadd hx hb dX1_freeLockers_28 ?_
          refine lv_topi (fun y9 ey9 => ?_)
          replace hf := ltI_some hf ey9
          refine lv_istore_n (lv' := [(1, .int y9), (0, .ref (gA G 0 g 0)), (2, .int a2)]) hx hb dX1_freeLockers_29 rfl hl (by decide) rfl (fun ls hl => ?_)
          obtain ⟨y10, ey10⟩ : ∃ y : Int32, y = a2 + (1 : Int32) := ⟨_, rfl⟩
          replace hf := ltI_some hf ey10
          refine lv_iinc (v := y10) (lv' := [(2, .int y10), (1, .int y9), (0, .ref (gA G 0 g 0))]) hx hb dX1_freeLockers_30 hl (k := 2) rfl (by rw [ey10]; rfl) (by decide) rfl (fun ls hl => ?_)
          refine lv_goto (tgt := 4) hx hb dX1_freeLockers_33 (by decide) ?_
          exact ih h5 y9 y10 hf _ _ _ hM hS (lv_sub hl [2, 1, 0] rfl)
  unfold xX1_freeLockers at hf
  refine lv_iconst (v := 0) hx hb dX1_freeLockers_0 (by decide) ?_
  refine lv_istore_n (lv' := [(1, .int (0 : Int32)), (0, .ref (gA G 0 g 0))]) hx hb dX1_freeLockers_1 rfl hl (by decide) rfl (fun ls hl => ?_)
  refine lv_iconst (v := 0) hx hb dX1_freeLockers_2 (by decide) ?_
  refine lv_istore_n (lv' := [(2, .int (0 : Int32)), (1, .int (0 : Int32)), (0, .ref (gA G 0 g 0))]) hx hb dX1_freeLockers_3 rfl hl (by decide) rfl (fun ls hl => ?_)
  exact L4 1000 h (0 : Int32) (0 : Int32) hf _ _ _ hM hS (lv_sub hl [2, 1, 0] rfl)
abbrev rX1_lentLockers : Room := { frames := 0, cells := 0, slots := 0, locals := 0 }
set_option maxRecDepth 100000 in
set_option maxHeartbeats 4000000 in
theorem kX1_lentLockers (l : Launch) (G : zG) (A : Nat → Prop) (V : zV3) (g : Nat) (hg : g < 7) (h : zV2) {r : Int32} {h' : zV2} (hf : xX1_lentLockers h  = some (r, h')) : zCt l G A yX1_lentLockers cX1_lentLockers 3 (some .int) rX1_lentLockers [.ref (gA G 0 g 0)] (upG V g h) (some (.int r)) (upG V g h') := by
  refine z_CtI (by decide) (Nat.le_of_ble_eq_true rfl) ?_
  intro p e s m args below meth c Q hx hb hml hown hL hK hM hS hQ ls hl
  replace hl : lv_has ls 3 [(0, .ref (gA G 0 g 0))] := hl
  have hQf : ∀ {a : Int32} {k : zV2} {H : Heap} {locs : List Loc} {pc : Nat} {ls : Array Slot}, some (a, k) = some (r, h') → zM G (upG V g k) H → va_S A s.heap H locs → decode cX1_lentLockers pc = .ok (.ireturn, 1) → W p l e rX1_lentLockers s m args below meth c H locs 0 0 Q (F0 m pc ls [.int a]) := by
    intro a k H locs pc ls e1 hM hS hd
    cases e1
    exact hQ H locs pc ls hM hS hd
  have L4 : ∀ (n : Nat) (h : zV2) (a1 : Int32) (a2 : Int32), xX1_lentLockers_L4 n h a1 a2 = some (r, h') → ∀ (H : Heap) (locs : List Loc) (ls : Array Slot), zM G (upG V g h) H → va_S A s.heap H locs → lv_has ls 3 [(0, .ref (gA G 0 g 0)), (1, .int a1), (2, .int a2)] → W p l e rX1_lentLockers s m args below meth c H locs 0 0 Q (F0 m 4 ls []) := by
    intro n
    induction n with
    | zero =>
      intro h a1 a2 hf H locs ls hM hS hl
      rw [xX1_lentLockers_L4] at hf
      cases hf
    | succ n ih =>
      intro h a1 a2 hf H locs ls hM hS hl
      rw [xX1_lentLockers_L4] at hf
      refine lv_iload_n hx hb dX1_lentLockers_4 rfl (lv_at hl 2 rfl) ?_
      refine lv_bipush (v := 12) hx hb dX1_lentLockers_5 (by decide) ?_
      refine lv_icmp_ge (tgt := 37) hx hb dX1_lentLockers_7 (by decide) (fun c1 => ?_) (fun c1 => ?_)
      · replace hf := ift hf c1
        refine lv_iload_n hx hb dX1_lentLockers_37 rfl (lv_at hl 1 rfl) ?_
        exact hQf hf hM hS dX1_lentLockers_38
      · replace hf := iff_ hf c1
        refine lv_iload_n hx hb dX1_lentLockers_10 rfl (lv_at hl 1 rfl) ?_
        refine lv_aload_n hx hb dX1_lentLockers_11 rfl (lv_at hl 0 rfl) ?_
        refine z_get (own := RX1) (C := RX1) (T := TX1) (N := 10) (ci := 0) (v := .ref (gA G 1 g 0)) hx hb hL inX1 hown hK hM (dm_0 (g := g) (i := 0) hg rfl) (ze_0 G V g 0 h) rfl 0 (by decide) (hL _ zw1_128) rfl rfl dX1_lentLockers_12 ?_
        refine lv_iload_n hx hb dX1_lentLockers_15 rfl (lv_at hl 2 rfl) ?_
        obtain ⟨hb2, hf⟩ := grd_some hf
        refine z_aald hx hb hK hM (dm_1 (g := g) (i := 0) hg rfl) 2 (zd_1 G (upG V g h) g 0) rfl (inb_in hb2) dX1_lentLockers_16 ?_
        refine z_getN (own := RX1) (C := RX4) (T := TX4) (N := 7) (ci := 3) (v := .int (h 2 a2.toNatClampNeg)) hx hb hL inX4 hown hK hM (dm_8 (g := g) (i := a2.toNatClampNeg) hg (inb_lt hb2)) (ze_8 G V g a2.toNatClampNeg h) rfl 3 (by decide) 17 rfl rfl rfl dX1_lentLockers_17 ?_
        refine lv_iconst (v := -1) hx hb dX1_lentLockers_20 (by decide) ?_
        refine lv_icmp_eq (tgt := 28) hx hb dX1_lentLockers_21 (by decide) (fun c3 => ?_) (fun c3 => ?_)
        · replace hf := ift hf c3
          refine lv_iconst (v := 0) hx hb dX1_lentLockers_28 (by decide) ?_
          refine lv_iadd hx hb dX1_lentLockers_29 ?_
          refine lv_topi (fun y4 ey4 => ?_)
          replace hf := ltI_some hf ey4
          refine lv_istore_n (lv' := [(1, .int y4), (0, .ref (gA G 0 g 0)), (2, .int a2)]) hx hb dX1_lentLockers_30 rfl hl (by decide) rfl (fun ls hl => ?_)
          obtain ⟨y5, ey5⟩ : ∃ y : Int32, y = a2 + (1 : Int32) := ⟨_, rfl⟩
          replace hf := ltI_some hf ey5
          refine lv_iinc (v := y5) (lv' := [(2, .int y5), (1, .int y4), (0, .ref (gA G 0 g 0))]) hx hb dX1_lentLockers_31 hl (k := 2) rfl (by rw [ey5]; rfl) (by decide) rfl (fun ls hl => ?_)
          refine lv_goto (tgt := 4) hx hb dX1_lentLockers_34 (by decide) ?_
          exact ih h y4 y5 hf _ _ _ hM hS (lv_sub hl [2, 1, 0] rfl)
        · replace hf := iff_ hf c3
          refine lv_iconst (v := 1) hx hb dX1_lentLockers_24 (by decide) ?_
          refine lv_goto (tgt := 29) hx hb dX1_lentLockers_25 (by decide) ?_
          refine lv_iadd hx hb dX1_lentLockers_29 ?_
          refine lv_topi (fun y6 ey6 => ?_)
          replace hf := ltI_some hf ey6
          refine lv_istore_n (lv' := [(1, .int y6), (0, .ref (gA G 0 g 0)), (2, .int a2)]) hx hb dX1_lentLockers_30 rfl hl (by decide) rfl (fun ls hl => ?_)
          obtain ⟨y7, ey7⟩ : ∃ y : Int32, y = a2 + (1 : Int32) := ⟨_, rfl⟩
          replace hf := ltI_some hf ey7
          refine lv_iinc (v := y7) (lv' := [(2, .int y7), (1, .int y6), (0, .ref (gA G 0 g 0))]) hx hb dX1_lentLockers_31 hl (k := 2) rfl (by rw [ey7]; rfl) (by decide) rfl (fun ls hl => ?_)
          refine lv_goto (tgt := 4) hx hb dX1_lentLockers_34 (by decide) ?_
          exact ih h y6 y7 hf _ _ _ hM hS (lv_sub hl [2, 1, 0] rfl)
  unfold xX1_lentLockers at hf
  refine lv_iconst (v := 0) hx hb dX1_lentLockers_0 (by decide) ?_
  refine lv_istore_n (lv' := [(1, .int (0 : Int32)), (0, .ref (gA G 0 g 0))]) hx hb dX1_lentLockers_1 rfl hl (by decide) rfl (fun ls hl => ?_)
  refine lv_iconst (v := 0) hx hb dX1_lentLockers_2 (by decide) ?_
  refine lv_istore_n (lv' := [(2, .int (0 : Int32)), (1, .int (0 : Int32)), (0, .ref (gA G 0 g 0))]) hx hb dX1_lentLockers_3 rfl hl (by decide) rfl (fun ls hl => ?_)
  exact L4 1000 h (0 : Int32) (0 : Int32) hf _ _ _ hM hS (lv_sub hl [2, 1, 0] rfl)
abbrev rX1_owedByAll : Room := { frames := 0, cells := 0, slots := 0, locals := 0 }
set_option maxRecDepth 100000 in
set_option maxHeartbeats 4000000 in
theorem kX1_owedByAll (l : Launch) (G : zG) (A : Nat → Prop) (V : zV3) (g : Nat) (hg : g < 7) (h : zV2) {r : Int32} {h' : zV2} (hf : xX1_owedByAll h  = some (r, h')) : zCt l G A yX1_owedByAll cX1_owedByAll 3 (some .int) rX1_owedByAll [.ref (gA G 0 g 0)] (upG V g h) (some (.int r)) (upG V g h') := by
  refine z_CtI (by decide) (Nat.le_of_ble_eq_true rfl) ?_
  intro p e s m args below meth c Q hx hb hml hown hL hK hM hS hQ ls hl
  replace hl : lv_has ls 3 [(0, .ref (gA G 0 g 0))] := hl
  have hQf : ∀ {a : Int32} {k : zV2} {H : Heap} {locs : List Loc} {pc : Nat} {ls : Array Slot}, some (a, k) = some (r, h') → zM G (upG V g k) H → va_S A s.heap H locs → decode cX1_owedByAll pc = .ok (.ireturn, 1) → W p l e rX1_owedByAll s m args below meth c H locs 0 0 Q (F0 m pc ls [.int a]) := by
    intro a k H locs pc ls e1 hM hS hd
    cases e1
    exact hQ H locs pc ls hM hS hd
  have L4 : ∀ (n : Nat) (h : zV2) (a1 : Int32) (a2 : Int32), xX1_owedByAll_L4 n h a1 a2 = some (r, h') → ∀ (H : Heap) (locs : List Loc) (ls : Array Slot), zM G (upG V g h) H → va_S A s.heap H locs → lv_has ls 3 [(0, .ref (gA G 0 g 0)), (1, .int a1), (2, .int a2)] → W p l e rX1_owedByAll s m args below meth c H locs 0 0 Q (F0 m 4 ls []) := by
    intro n
    induction n with
    | zero =>
      intro h a1 a2 hf H locs ls hM hS hl
      rw [xX1_owedByAll_L4] at hf
      cases hf
    | succ n ih =>
      intro h a1 a2 hf H locs ls hM hS hl
      rw [xX1_owedByAll_L4] at hf
      refine lv_iload_n hx hb dX1_owedByAll_4 rfl (lv_at hl 2 rfl) ?_
      refine lv_bipush (v := 10) hx hb dX1_owedByAll_5 (by decide) ?_
      refine lv_icmp_ge (tgt := 28) hx hb dX1_owedByAll_7 (by decide) (fun c1 => ?_) (fun c1 => ?_)
      · replace hf := ift hf c1
        refine lv_iload_n hx hb dX1_owedByAll_28 rfl (lv_at hl 1 rfl) ?_
        exact hQf hf hM hS dX1_owedByAll_29
      · replace hf := iff_ hf c1
        refine lv_iload_n hx hb dX1_owedByAll_10 rfl (lv_at hl 1 rfl) ?_
        refine lv_aload_n hx hb dX1_owedByAll_11 rfl (lv_at hl 0 rfl) ?_
        refine z_get (own := RX1) (C := RX1) (T := TX1) (N := 10) (ci := 0) (v := .ref (gA G 2 g 0)) hx hb hL inX1 hown hK hM (dm_0 (g := g) (i := 0) hg rfl) (ze_0 G V g 0 h) rfl 1 (by decide) (hL _ zw1_129) rfl rfl dX1_owedByAll_12 ?_
        refine lv_iload_n hx hb dX1_owedByAll_15 rfl (lv_at hl 2 rfl) ?_
        obtain ⟨hb2, hf⟩ := grd_some hf
        refine z_aald hx hb hK hM (dm_2 (g := g) (i := 0) hg rfl) 3 (zd_2 G (upG V g h) g 0) rfl (inb_in hb2) dX1_owedByAll_16 ?_
        refine z_getN (own := RX1) (C := RX5) (T := TX5) (N := 8) (ci := 4) (v := .int (h 9 a2.toNatClampNeg)) hx hb hL inX5 hown hK hM (dm_9 (g := g) (i := a2.toNatClampNeg) hg (inb_lt hb2)) (ze_9 G V g a2.toNatClampNeg h) rfl 4 (by decide) 24 rfl rfl rfl dX1_owedByAll_17 ?_
        refine lv_iadd hx hb dX1_owedByAll_20 ?_
        refine lv_topi (fun y3 ey3 => ?_)
        replace hf := ltI_some hf ey3
        refine lv_istore_n (lv' := [(1, .int y3), (0, .ref (gA G 0 g 0)), (2, .int a2)]) hx hb dX1_owedByAll_21 rfl hl (by decide) rfl (fun ls hl => ?_)
        obtain ⟨y4, ey4⟩ : ∃ y : Int32, y = a2 + (1 : Int32) := ⟨_, rfl⟩
        replace hf := ltI_some hf ey4
        refine lv_iinc (v := y4) (lv' := [(2, .int y4), (1, .int y3), (0, .ref (gA G 0 g 0))]) hx hb dX1_owedByAll_22 hl (k := 2) rfl (by rw [ey4]; rfl) (by decide) rfl (fun ls hl => ?_)
        refine lv_goto (tgt := 4) hx hb dX1_owedByAll_25 (by decide) ?_
        exact ih h y3 y4 hf _ _ _ hM hS (lv_sub hl [2, 1, 0] rfl)
  unfold xX1_owedByAll at hf
  refine lv_iconst (v := 0) hx hb dX1_owedByAll_0 (by decide) ?_
  refine lv_istore_n (lv' := [(1, .int (0 : Int32)), (0, .ref (gA G 0 g 0))]) hx hb dX1_owedByAll_1 rfl hl (by decide) rfl (fun ls hl => ?_)
  refine lv_iconst (v := 0) hx hb dX1_owedByAll_2 (by decide) ?_
  refine lv_istore_n (lv' := [(2, .int (0 : Int32)), (1, .int (0 : Int32)), (0, .ref (gA G 0 g 0))]) hx hb dX1_owedByAll_3 rfl hl (by decide) rfl (fun ls hl => ?_)
  exact L4 1000 h (0 : Int32) (0 : Int32) hf _ _ _ hM hS (lv_sub hl [2, 1, 0] rfl)
abbrev rX1_paidByAll : Room := { frames := 0, cells := 0, slots := 0, locals := 0 }
set_option maxRecDepth 100000 in
set_option maxHeartbeats 4000000 in
theorem kX1_paidByAll (l : Launch) (G : zG) (A : Nat → Prop) (V : zV3) (g : Nat) (hg : g < 7) (h : zV2) {r : Int32} {h' : zV2} (hf : xX1_paidByAll h  = some (r, h')) : zCt l G A yX1_paidByAll cX1_paidByAll 3 (some .int) rX1_paidByAll [.ref (gA G 0 g 0)] (upG V g h) (some (.int r)) (upG V g h') := by
  refine z_CtI (by decide) (Nat.le_of_ble_eq_true rfl) ?_
  intro p e s m args below meth c Q hx hb hml hown hL hK hM hS hQ ls hl
  replace hl : lv_has ls 3 [(0, .ref (gA G 0 g 0))] := hl
  have hQf : ∀ {a : Int32} {k : zV2} {H : Heap} {locs : List Loc} {pc : Nat} {ls : Array Slot}, some (a, k) = some (r, h') → zM G (upG V g k) H → va_S A s.heap H locs → decode cX1_paidByAll pc = .ok (.ireturn, 1) → W p l e rX1_paidByAll s m args below meth c H locs 0 0 Q (F0 m pc ls [.int a]) := by
    intro a k H locs pc ls e1 hM hS hd
    cases e1
    exact hQ H locs pc ls hM hS hd
  have L4 : ∀ (n : Nat) (h : zV2) (a1 : Int32) (a2 : Int32), xX1_paidByAll_L4 n h a1 a2 = some (r, h') → ∀ (H : Heap) (locs : List Loc) (ls : Array Slot), zM G (upG V g h) H → va_S A s.heap H locs → lv_has ls 3 [(0, .ref (gA G 0 g 0)), (1, .int a1), (2, .int a2)] → W p l e rX1_paidByAll s m args below meth c H locs 0 0 Q (F0 m 4 ls []) := by
    intro n
    induction n with
    | zero =>
      intro h a1 a2 hf H locs ls hM hS hl
      rw [xX1_paidByAll_L4] at hf
      cases hf
    | succ n ih =>
      intro h a1 a2 hf H locs ls hM hS hl
      rw [xX1_paidByAll_L4] at hf
      refine lv_iload_n hx hb dX1_paidByAll_4 rfl (lv_at hl 2 rfl) ?_
      refine lv_bipush (v := 10) hx hb dX1_paidByAll_5 (by decide) ?_
      refine lv_icmp_ge (tgt := 28) hx hb dX1_paidByAll_7 (by decide) (fun c1 => ?_) (fun c1 => ?_)
      · replace hf := ift hf c1
        refine lv_iload_n hx hb dX1_paidByAll_28 rfl (lv_at hl 1 rfl) ?_
        exact hQf hf hM hS dX1_paidByAll_29
      · replace hf := iff_ hf c1
        refine lv_iload_n hx hb dX1_paidByAll_10 rfl (lv_at hl 1 rfl) ?_
        refine lv_aload_n hx hb dX1_paidByAll_11 rfl (lv_at hl 0 rfl) ?_
        refine z_get (own := RX1) (C := RX1) (T := TX1) (N := 10) (ci := 0) (v := .ref (gA G 2 g 0)) hx hb hL inX1 hown hK hM (dm_0 (g := g) (i := 0) hg rfl) (ze_0 G V g 0 h) rfl 1 (by decide) (hL _ zw1_129) rfl rfl dX1_paidByAll_12 ?_
        refine lv_iload_n hx hb dX1_paidByAll_15 rfl (lv_at hl 2 rfl) ?_
        obtain ⟨hb2, hf⟩ := grd_some hf
        refine z_aald hx hb hK hM (dm_2 (g := g) (i := 0) hg rfl) 3 (zd_2 G (upG V g h) g 0) rfl (inb_in hb2) dX1_paidByAll_16 ?_
        refine z_getN (own := RX1) (C := RX5) (T := TX5) (N := 8) (ci := 4) (v := .int (h 10 a2.toNatClampNeg)) hx hb hL inX5 hown hK hM (dm_9 (g := g) (i := a2.toNatClampNeg) hg (inb_lt hb2)) (ze_9 G V g a2.toNatClampNeg h) rfl 5 (by decide) 18 rfl rfl rfl dX1_paidByAll_17 ?_
        refine lv_iadd hx hb dX1_paidByAll_20 ?_
        refine lv_topi (fun y3 ey3 => ?_)
        replace hf := ltI_some hf ey3
        refine lv_istore_n (lv' := [(1, .int y3), (0, .ref (gA G 0 g 0)), (2, .int a2)]) hx hb dX1_paidByAll_21 rfl hl (by decide) rfl (fun ls hl => ?_)
        obtain ⟨y4, ey4⟩ : ∃ y : Int32, y = a2 + (1 : Int32) := ⟨_, rfl⟩
        replace hf := ltI_some hf ey4
        refine lv_iinc (v := y4) (lv' := [(2, .int y4), (1, .int y3), (0, .ref (gA G 0 g 0))]) hx hb dX1_paidByAll_22 hl (k := 2) rfl (by rw [ey4]; rfl) (by decide) rfl (fun ls hl => ?_)
        refine lv_goto (tgt := 4) hx hb dX1_paidByAll_25 (by decide) ?_
        exact ih h y3 y4 hf _ _ _ hM hS (lv_sub hl [2, 1, 0] rfl)
  unfold xX1_paidByAll at hf
  refine lv_iconst (v := 0) hx hb dX1_paidByAll_0 (by decide) ?_
  refine lv_istore_n (lv' := [(1, .int (0 : Int32)), (0, .ref (gA G 0 g 0))]) hx hb dX1_paidByAll_1 rfl hl (by decide) rfl (fun ls hl => ?_)
  refine lv_iconst (v := 0) hx hb dX1_paidByAll_2 (by decide) ?_
  refine lv_istore_n (lv' := [(2, .int (0 : Int32)), (1, .int (0 : Int32)), (0, .ref (gA G 0 g 0))]) hx hb dX1_paidByAll_3 rfl hl (by decide) rfl (fun ls hl => ?_)
  exact L4 1000 h (0 : Int32) (0 : Int32) hf _ _ _ hM hS (lv_sub hl [2, 1, 0] rfl)
abbrev rX1_tellSetting : Room := { frames := 0, cells := 0, slots := 0, locals := 0 }
set_option maxRecDepth 100000 in
set_option maxHeartbeats 4000000 in
theorem kX1_tellSetting (l : Launch) (G : zG) (A : Nat → Prop) (V : zV3) (g : Nat) (hg : g < 7) (h : zV2) (p1 : Int32) {r : Int32} {h' : zV2} (hf : xX1_tellSetting h p1 = some (r, h')) : zCt l G A yX1_tellSetting cX1_tellSetting 2 (some .int) rX1_tellSetting [.ref (gA G 0 g 0), .int p1] (upG V g h) (some (.int r)) (upG V g h') := by
  refine z_CtI (by decide) (Nat.le_of_ble_eq_true rfl) ?_
  intro p e s m args below meth c Q hx hb hml hown hL hK hM hS hQ ls hl
  replace hl : lv_has ls 2 [(0, .ref (gA G 0 g 0)), (1, .int p1)] := hl
  have hQf : ∀ {a : Int32} {k : zV2} {H : Heap} {locs : List Loc} {pc : Nat} {ls : Array Slot}, some (a, k) = some (r, h') → zM G (upG V g k) H → va_S A s.heap H locs → decode cX1_tellSetting pc = .ok (.ireturn, 1) → W p l e rX1_tellSetting s m args below meth c H locs 0 0 Q (F0 m pc ls [.int a]) := by
    intro a k H locs pc ls e1 hM hS hd
    cases e1
    exact hQ H locs pc ls hM hS hd
  unfold xX1_tellSetting at hf
  refine lv_iload_n hx hb dX1_tellSetting_0 rfl (lv_at hl 1 rfl) ?_
  refine lv_if_lt (tgt := 18) hx hb dX1_tellSetting_1 (by decide) (fun c1 => ?_) (fun c1 => ?_)
  · replace hf := ift hf c1
    refine lv_iconst (v := -1) hx hb dX1_tellSetting_18 (by decide) ?_
    exact hQf hf hM hS dX1_tellSetting_19
  · replace hf := iff_ hf c1
    refine lv_iload_n hx hb dX1_tellSetting_4 rfl (lv_at hl 1 rfl) ?_
    refine lv_iconst (v := 3) hx hb dX1_tellSetting_5 (by decide) ?_
    refine lv_icmp_ge (tgt := 18) hx hb dX1_tellSetting_6 (by decide) (fun c2 => ?_) (fun c2 => ?_)
    · replace hf := ift hf c2
      refine lv_iconst (v := -1) hx hb dX1_tellSetting_18 (by decide) ?_
      exact hQf hf hM hS dX1_tellSetting_19
    · replace hf := iff_ hf c2
      refine lv_aload_n hx hb dX1_tellSetting_9 rfl (lv_at hl 0 rfl) ?_
      refine z_get (own := RX1) (C := RX1) (T := TX1) (N := 10) (ci := 0) (v := .ref (gA G 4 g 0)) hx hb hL inX1 hown hK hM (dm_0 (g := g) (i := 0) hg rfl) (ze_0 G V g 0 h) rfl 4 (by decide) (hL _ zw1_133) rfl rfl dX1_tellSetting_10 ?_
      refine lv_iload_n hx hb dX1_tellSetting_13 rfl (lv_at hl 1 rfl) ?_
      obtain ⟨hb3, hf⟩ := grd_some hf
      refine z_iald hx hb hK hM (dm_4 (g := g) (i := 0) hg rfl) (ze_4 G V g 0 h) (inb_in hb3) dX1_tellSetting_14 ?_
      refine lv_goto (tgt := 19) hx hb dX1_tellSetting_15 (by decide) ?_
      exact hQf hf hM hS dX1_tellSetting_19
abbrev rX1_tellNumber : Room := { frames := 2, cells := 0, slots := 0, locals := 42 }
set_option maxRecDepth 100000 in
set_option maxHeartbeats 4000000 in
theorem kX1_tellNumber (l : Launch) (G : zG) (A : Nat → Prop) (V : zV3) (g : Nat) (hg : g < 7) (h : zV2) (p1 : Int32) {r : Int32} {h' : zV2} (hf : xX1_tellNumber h p1 = some (r, h')) : zCt l G A yX1_tellNumber cX1_tellNumber 2 (some .int) rX1_tellNumber [.ref (gA G 0 g 0), .int p1] (upG V g h) (some (.int r)) (upG V g h') := by
  refine z_CtI (by decide) (Nat.le_of_ble_eq_true rfl) ?_
  intro p e s m args below meth c Q hx hb hml hown hL hK hM hS hQ ls hl
  replace hl : lv_has ls 2 [(0, .ref (gA G 0 g 0)), (1, .int p1)] := hl
  have hQf : ∀ {a : Int32} {k : zV2} {H : Heap} {locs : List Loc} {pc : Nat} {ls : Array Slot}, some (a, k) = some (r, h') → zM G (upG V g k) H → va_S A s.heap H locs → decode cX1_tellNumber pc = .ok (.ireturn, 1) → W p l e rX1_tellNumber s m args below meth c H locs 0 0 Q (F0 m pc ls [.int a]) := by
    intro a k H locs pc ls e1 hM hS hd
    cases e1
    exact hQ H locs pc ls hM hS hd
  unfold xX1_tellNumber at hf
  refine lv_iload_n hx hb dX1_tellNumber_0 rfl (lv_at hl 1 rfl) ?_
  by_cases c1 : p1 = (0 : Int32)
  · replace hf := ift hf c1
    refine lv_tableIn (off := 63) (tgt := 64) hx hb dX1_tellNumber_1 (by rw [c1]; decide) (by rw [c1]; decide) (by rw [c1]; rfl) (by decide) ?_
    refine lv_aload_n hx hb dX1_tellNumber_64 rfl (lv_at hl 0 rfl) ?_
    refine z_get (own := RX1) (C := RX1) (T := TX1) (N := 10) (ci := 0) (v := .int (h 13 0)) hx hb hL inX1 hown hK hM (dm_0 (g := g) (i := 0) hg rfl) (ze_0 G V g 0 h) rfl 6 (by decide) (hL _ zw1_135) rfl rfl dX1_tellNumber_65 ?_
    exact hQf hf hM hS dX1_tellNumber_68
  · replace hf := iff_ hf c1
    by_cases c2 : p1 = (1 : Int32)
    · replace hf := ift hf c2
      refine lv_tableIn (off := 68) (tgt := 69) hx hb dX1_tellNumber_1 (by rw [c2]; decide) (by rw [c2]; decide) (by rw [c2]; rfl) (by decide) ?_
      refine lv_aload_n hx hb dX1_tellNumber_69 rfl (lv_at hl 0 rfl) ?_
      refine z_get (own := RX1) (C := RX1) (T := TX1) (N := 10) (ci := 0) (v := .int (h 14 0)) hx hb hL inX1 hown hK hM (dm_0 (g := g) (i := 0) hg rfl) (ze_0 G V g 0 h) rfl 7 (by decide) (hL _ zw1_136) rfl rfl dX1_tellNumber_70 ?_
      exact hQf hf hM hS dX1_tellNumber_73
    · replace hf := iff_ hf c2
      by_cases c3 : p1 = (2 : Int32)
      · replace hf := ift hf c3
        refine lv_tableIn (off := 73) (tgt := 74) hx hb dX1_tellNumber_1 (by rw [c3]; decide) (by rw [c3]; decide) (by rw [c3]; rfl) (by decide) ?_
        refine lv_aload_n hx hb dX1_tellNumber_74 rfl (lv_at hl 0 rfl) ?_
        refine z_get (own := RX1) (C := RX1) (T := TX1) (N := 10) (ci := 0) (v := .int (h 15 0)) hx hb hL inX1 hown hK hM (dm_0 (g := g) (i := 0) hg rfl) (ze_0 G V g 0 h) rfl 8 (by decide) (hL _ zw1_137) rfl rfl dX1_tellNumber_75 ?_
        exact hQf hf hM hS dX1_tellNumber_78
      · replace hf := iff_ hf c3
        by_cases c4 : p1 = (3 : Int32)
        · replace hf := ift hf c4
          refine lv_tableIn (off := 78) (tgt := 79) hx hb dX1_tellNumber_1 (by rw [c4]; decide) (by rw [c4]; decide) (by rw [c4]; rfl) (by decide) ?_
          refine lv_aload_n hx hb dX1_tellNumber_79 rfl (lv_at hl 0 rfl) ?_
          obtain ⟨r5, h7, hc6, hf⟩ := bnd_some hf
          refine z_callV (As := []) (rest := []) (C := RX1) hx hb hml hown hL hK hM hS (kX1_freeLockers l G A V g hg h hc6) (zg_X1_freeLockers zw3_51) zv_X1_freeLockers ⟨rfl, rfl⟩ ⟨Nat.le_of_ble_eq_true rfl, Nat.le_of_ble_eq_true rfl⟩ (hM.recv hK (dm_0 (g := g) (i := 0) hg rfl) (ze_0 G V g 0 h) rfl) rfl hl.1 rfl (Nat.le_of_ble_eq_true rfl) dX1_tellNumber_80 ⟨Nat.zero_le _, Nat.zero_le _⟩ (fun H locs hM hS => ?_)
          refine W.eq (g2 := F0 m 83 ls [.int r5]) rfl ?_
          exact hQf hf hM hS dX1_tellNumber_83
        · replace hf := iff_ hf c4
          by_cases c8 : p1 = (4 : Int32)
          · replace hf := ift hf c8
            refine lv_tableIn (off := 83) (tgt := 84) hx hb dX1_tellNumber_1 (by rw [c8]; decide) (by rw [c8]; decide) (by rw [c8]; rfl) (by decide) ?_
            refine lv_aload_n hx hb dX1_tellNumber_84 rfl (lv_at hl 0 rfl) ?_
            obtain ⟨r9, h11, hc10, hf⟩ := bnd_some hf
            refine z_callV (As := []) (rest := []) (C := RX1) hx hb hml hown hL hK hM hS (kX1_lentLockers l G A V g hg h hc10) (zg_X1_lentLockers zw3_55) zv_X1_lentLockers ⟨rfl, rfl⟩ ⟨Nat.le_of_ble_eq_true rfl, Nat.le_of_ble_eq_true rfl⟩ (hM.recv hK (dm_0 (g := g) (i := 0) hg rfl) (ze_0 G V g 0 h) rfl) rfl hl.1 rfl (Nat.le_of_ble_eq_true rfl) dX1_tellNumber_85 ⟨Nat.zero_le _, Nat.zero_le _⟩ (fun H locs hM hS => ?_)
            refine W.eq (g2 := F0 m 88 ls [.int r9]) rfl ?_
            exact hQf hf hM hS dX1_tellNumber_88
          · replace hf := iff_ hf c8
            by_cases c12 : p1 = (5 : Int32)
            · replace hf := ift hf c12
              refine lv_tableIn (off := 88) (tgt := 89) hx hb dX1_tellNumber_1 (by rw [c12]; decide) (by rw [c12]; decide) (by rw [c12]; rfl) (by decide) ?_
              refine lv_aload_n hx hb dX1_tellNumber_89 rfl (lv_at hl 0 rfl) ?_
              obtain ⟨r13, h15, hc14, hf⟩ := bnd_some hf
              refine z_callV (As := []) (rest := []) (C := RX1) hx hb hml hown hL hK hM hS (kX1_closedLockers l G A V g hg h hc14) (zg_X1_closedLockers zw3_59) zv_X1_closedLockers ⟨rfl, rfl⟩ ⟨Nat.le_of_ble_eq_true rfl, Nat.le_of_ble_eq_true rfl⟩ (hM.recv hK (dm_0 (g := g) (i := 0) hg rfl) (ze_0 G V g 0 h) rfl) rfl hl.1 rfl (Nat.le_of_ble_eq_true rfl) dX1_tellNumber_90 ⟨Nat.zero_le _, Nat.zero_le _⟩ (fun H locs hM hS => ?_)
              refine W.eq (g2 := F0 m 93 ls [.int r13]) rfl ?_
              exact hQf hf hM hS dX1_tellNumber_93
            · replace hf := iff_ hf c12
              by_cases c16 : p1 = (6 : Int32)
              · replace hf := ift hf c16
                refine lv_tableIn (off := 93) (tgt := 94) hx hb dX1_tellNumber_1 (by rw [c16]; decide) (by rw [c16]; decide) (by rw [c16]; rfl) (by decide) ?_
                refine lv_aload_n hx hb dX1_tellNumber_94 rfl (lv_at hl 0 rfl) ?_
                refine z_get (own := RX1) (C := RX1) (T := TX1) (N := 10) (ci := 0) (v := .ref (gA G 3 g 0)) hx hb hL inX1 hown hK hM (dm_0 (g := g) (i := 0) hg rfl) (ze_0 G V g 0 h) rfl 2 (by decide) (hL _ zw1_130) rfl rfl dX1_tellNumber_95 ?_
                refine z_getN (own := RX1) (C := RX3) (T := TX3) (N := 3) (ci := 2) (v := .int (h (23 + 0) 0)) hx hb hL inX3 hown hK hM (dm_3 (g := g) (i := 0) hg (by decide)) (ze_3 G V g 0 h) rfl 2 (by decide) 9 rfl rfl rfl dX1_tellNumber_98 ?_
                exact hQf hf hM hS dX1_tellNumber_101
              · replace hf := iff_ hf c16
                by_cases c17 : p1 = (7 : Int32)
                · replace hf := ift hf c17
                  refine lv_tableIn (off := 101) (tgt := 102) hx hb dX1_tellNumber_1 (by rw [c17]; decide) (by rw [c17]; decide) (by rw [c17]; rfl) (by decide) ?_
                  refine lv_aload_n hx hb dX1_tellNumber_102 rfl (lv_at hl 0 rfl) ?_
                  refine z_get (own := RX1) (C := RX1) (T := TX1) (N := 10) (ci := 0) (v := .ref (gA G 3 g 1)) hx hb hL inX1 hown hK hM (dm_0 (g := g) (i := 0) hg rfl) (ze_0 G V g 0 h) rfl 3 (by decide) (hL _ zw1_132) rfl rfl dX1_tellNumber_103 ?_
                  refine z_getN (own := RX1) (C := RX3) (T := TX3) (N := 3) (ci := 2) (v := .int (h (23 + 1) 0)) hx hb hL inX3 hown hK hM (dm_3 (g := g) (i := 1) hg (by decide)) (ze_3 G V g 1 h) rfl 2 (by decide) 9 rfl rfl rfl dX1_tellNumber_106 ?_
                  exact hQf hf hM hS dX1_tellNumber_109
                · replace hf := iff_ hf c17
                  by_cases c18 : p1 = (8 : Int32)
                  · replace hf := ift hf c18
                    refine lv_tableIn (off := 109) (tgt := 110) hx hb dX1_tellNumber_1 (by rw [c18]; decide) (by rw [c18]; decide) (by rw [c18]; rfl) (by decide) ?_
                    refine lv_aload_n hx hb dX1_tellNumber_110 rfl (lv_at hl 0 rfl) ?_
                    obtain ⟨r19, h21, hc20, hf⟩ := bnd_some hf
                    refine z_callV (As := []) (rest := []) (C := RX1) hx hb hml hown hL hK hM hS (kX1_owedByAll l G A V g hg h hc20) (zg_X1_owedByAll zw3_63) zv_X1_owedByAll ⟨rfl, rfl⟩ ⟨Nat.le_of_ble_eq_true rfl, Nat.le_of_ble_eq_true rfl⟩ (hM.recv hK (dm_0 (g := g) (i := 0) hg rfl) (ze_0 G V g 0 h) rfl) rfl hl.1 rfl (Nat.le_of_ble_eq_true rfl) dX1_tellNumber_111 ⟨Nat.zero_le _, Nat.zero_le _⟩ (fun H locs hM hS => ?_)
                    refine W.eq (g2 := F0 m 114 ls [.int r19]) rfl ?_
                    exact hQf hf hM hS dX1_tellNumber_114
                  · replace hf := iff_ hf c18
                    by_cases c22 : p1 = (9 : Int32)
                    · replace hf := ift hf c22
                      refine lv_tableIn (off := 114) (tgt := 115) hx hb dX1_tellNumber_1 (by rw [c22]; decide) (by rw [c22]; decide) (by rw [c22]; rfl) (by decide) ?_
                      refine lv_aload_n hx hb dX1_tellNumber_115 rfl (lv_at hl 0 rfl) ?_
                      obtain ⟨r23, h25, hc24, hf⟩ := bnd_some hf
                      refine z_callV (As := []) (rest := []) (C := RX1) hx hb hml hown hL hK hM hS (kX1_paidByAll l G A V g hg h hc24) (zg_X1_paidByAll zw3_67) zv_X1_paidByAll ⟨rfl, rfl⟩ ⟨Nat.le_of_ble_eq_true rfl, Nat.le_of_ble_eq_true rfl⟩ (hM.recv hK (dm_0 (g := g) (i := 0) hg rfl) (ze_0 G V g 0 h) rfl) rfl hl.1 rfl (Nat.le_of_ble_eq_true rfl) dX1_tellNumber_116 ⟨Nat.zero_le _, Nat.zero_le _⟩ (fun H locs hM hS => ?_)
                      refine W.eq (g2 := F0 m 119 ls [.int r23]) rfl ?_
                      exact hQf hf hM hS dX1_tellNumber_119
                    · replace hf := iff_ hf c22
                      by_cases c26 : p1 = (10 : Int32)
                      · replace hf := ift hf c26
                        refine lv_tableIn (off := 119) (tgt := 120) hx hb dX1_tellNumber_1 (by rw [c26]; decide) (by rw [c26]; decide) (by rw [c26]; rfl) (by decide) ?_
                        refine lv_aload_n hx hb dX1_tellNumber_120 rfl (lv_at hl 0 rfl) ?_
                        obtain ⟨r27, h29, hc28, hf⟩ := bnd_some hf
                        refine z_callV (As := []) (rest := []) (C := RX1) hx hb hml hown hL hK hM hS (kX1_owedByAll l G A V g hg h hc28) (zg_X1_owedByAll zw3_63) zv_X1_owedByAll ⟨rfl, rfl⟩ ⟨Nat.le_of_ble_eq_true rfl, Nat.le_of_ble_eq_true rfl⟩ (hM.recv hK (dm_0 (g := g) (i := 0) hg rfl) (ze_0 G V g 0 h) rfl) rfl hl.1 rfl (Nat.le_of_ble_eq_true rfl) dX1_tellNumber_121 ⟨Nat.zero_le _, Nat.zero_le _⟩ (fun H locs hM hS => ?_)
                        refine W.eq (g2 := F0 m 124 ls [.int r27]) rfl ?_
                        refine lv_aload_n hx hb dX1_tellNumber_124 rfl (lv_at hl 0 rfl) ?_
                        obtain ⟨r30, h32, hc31, hf⟩ := bnd_some hf
                        refine z_callV (As := []) (rest := [.int r27]) (C := RX1) hx hb hml hown hL hK hM hS (kX1_paidByAll l G A V g hg h29 hc31) (zg_X1_paidByAll zw3_67) zv_X1_paidByAll ⟨rfl, rfl⟩ ⟨Nat.le_of_ble_eq_true rfl, Nat.le_of_ble_eq_true rfl⟩ (hM.recv hK (dm_0 (g := g) (i := 0) hg rfl) (ze_0 G V g 0 h29) rfl) rfl hl.1 rfl (Nat.le_of_ble_eq_true rfl) dX1_tellNumber_125 ⟨Nat.zero_le _, Nat.zero_le _⟩ (fun H locs hM hS => ?_)
                        refine W.eq (g2 := F0 m 128 ls [.int r30, .int r27]) rfl ?_
                        refine lv_iadd hx hb dX1_tellNumber_128 ?_
                        exact hQf hf hM hS dX1_tellNumber_129
                      · replace hf := iff_ hf c26
                        by_cases c33 : p1 = (11 : Int32)
                        · replace hf := ift hf c33
                          refine lv_tableIn (off := 129) (tgt := 130) hx hb dX1_tellNumber_1 (by rw [c33]; decide) (by rw [c33]; decide) (by rw [c33]; rfl) (by decide) ?_
                          refine lv_aload_n hx hb dX1_tellNumber_130 rfl (lv_at hl 0 rfl) ?_
                          refine z_get (own := RX1) (C := RX1) (T := TX1) (N := 10) (ci := 0) (v := .int (h 16 0)) hx hb hL inX1 hown hK hM (dm_0 (g := g) (i := 0) hg rfl) (ze_0 G V g 0 h) rfl 9 (by decide) (hL _ zw1_138) rfl rfl dX1_tellNumber_131 ?_
                          exact hQf hf hM hS dX1_tellNumber_134
                        · replace hf := iff_ hf c33
                          refine lv_tableOut (tgt := 135) hx hb dX1_tellNumber_1 (by have t0 := lv_neT c1 (a := 0) (by decide); have t1 := lv_neT c2 (a := 1) (by decide); have t2 := lv_neT c3 (a := 2) (by decide); have t3 := lv_neT c4 (a := 3) (by decide); have t4 := lv_neT c8 (a := 4) (by decide); have t5 := lv_neT c12 (a := 5) (by decide); have t6 := lv_neT c16 (a := 6) (by decide); have t7 := lv_neT c17 (a := 7) (by decide); have t8 := lv_neT c18 (a := 8) (by decide); have t9 := lv_neT c22 (a := 9) (by decide); have t10 := lv_neT c26 (a := 10) (by decide); have t11 := lv_neT c33 (a := 11) (by decide); omega) (by decide) ?_
                          refine lv_aload_n hx hb dX1_tellNumber_135 rfl (lv_at hl 0 rfl) ?_
                          refine lv_iload_n hx hb dX1_tellNumber_136 rfl (lv_at hl 1 rfl) ?_
                          refine lv_bipush (v := 20) hx hb dX1_tellNumber_137 (by decide) ?_
                          refine lv_isub hx hb dX1_tellNumber_139 ?_
                          obtain ⟨r34, h36, hc35, hf⟩ := bnd_some hf
                          refine z_callV (As := [.int (p1 - (20 : Int32))]) (rest := []) (C := RX1) hx hb hml hown hL hK hM hS (kX1_tellSetting l G A V g hg h (p1 - (20 : Int32)) hc35) (zg_X1_tellSetting zw3_71) zv_X1_tellSetting ⟨rfl, rfl⟩ ⟨Nat.le_of_ble_eq_true rfl, Nat.le_of_ble_eq_true rfl⟩ (hM.recv hK (dm_0 (g := g) (i := 0) hg rfl) (ze_0 G V g 0 h) rfl) rfl hl.1 rfl (Nat.le_of_ble_eq_true rfl) dX1_tellNumber_140 ⟨Nat.zero_le _, Nat.zero_le _⟩ (fun H locs hM hS => ?_)
                          refine W.eq (g2 := F0 m 143 ls [.int r34]) rfl ?_
                          exact hQf hf hM hS dX1_tellNumber_143
abbrev rX1_overdueDays : Room := { frames := 1, cells := 0, slots := 0, locals := 21 }
set_option maxRecDepth 100000 in
set_option maxHeartbeats 4000000 in
theorem kX1_overdueDays (l : Launch) (G : zG) (A : Nat → Prop) (V : zV3) (g : Nat) (hg : g < 7) (h : zV2) {r : Int32} {h' : zV2} (hf : xX1_overdueDays h  = some (r, h')) : zCt l G A yX1_overdueDays cX1_overdueDays 3 (some .int) rX1_overdueDays [.ref (gA G 0 g 0)] (upG V g h) (some (.int r)) (upG V g h') := by
  refine z_CtI (by decide) (Nat.le_of_ble_eq_true rfl) ?_
  intro p e s m args below meth c Q hx hb hml hown hL hK hM hS hQ ls hl
  replace hl : lv_has ls 3 [(0, .ref (gA G 0 g 0))] := hl
  have hQf : ∀ {a : Int32} {k : zV2} {H : Heap} {locs : List Loc} {pc : Nat} {ls : Array Slot}, some (a, k) = some (r, h') → zM G (upG V g k) H → va_S A s.heap H locs → decode cX1_overdueDays pc = .ok (.ireturn, 1) → W p l e rX1_overdueDays s m args below meth c H locs 0 0 Q (F0 m pc ls [.int a]) := by
    intro a k H locs pc ls e1 hM hS hd
    cases e1
    exact hQ H locs pc ls hM hS hd
  have L4 : ∀ (n : Nat) (h : zV2) (a1 : Int32) (a2 : Int32), xX1_overdueDays_L4 n h a1 a2 = some (r, h') → ∀ (H : Heap) (locs : List Loc) (ls : Array Slot), zM G (upG V g h) H → va_S A s.heap H locs → lv_has ls 3 [(0, .ref (gA G 0 g 0)), (1, .int a1), (2, .int a2)] → W p l e rX1_overdueDays s m args below meth c H locs 0 0 Q (F0 m 4 ls []) := by
    intro n
    induction n with
    | zero =>
      intro h a1 a2 hf H locs ls hM hS hl
      rw [xX1_overdueDays_L4] at hf
      cases hf
    | succ n ih =>
      intro h a1 a2 hf H locs ls hM hS hl
      rw [xX1_overdueDays_L4] at hf
      refine lv_iload_n hx hb dX1_overdueDays_4 rfl (lv_at hl 2 rfl) ?_
      refine lv_bipush (v := 10) hx hb dX1_overdueDays_5 (by decide) ?_
      refine lv_icmp_ge (tgt := 32) hx hb dX1_overdueDays_7 (by decide) (fun c1 => ?_) (fun c1 => ?_)
      · replace hf := ift hf c1
        refine lv_iload_n hx hb dX1_overdueDays_32 rfl (lv_at hl 1 rfl) ?_
        exact hQf hf hM hS dX1_overdueDays_33
      · replace hf := iff_ hf c1
        refine lv_iload_n hx hb dX1_overdueDays_10 rfl (lv_at hl 1 rfl) ?_
        refine lv_aload_n hx hb dX1_overdueDays_11 rfl (lv_at hl 0 rfl) ?_
        refine z_get (own := RX1) (C := RX1) (T := TX1) (N := 10) (ci := 0) (v := .ref (gA G 2 g 0)) hx hb hL inX1 hown hK hM (dm_0 (g := g) (i := 0) hg rfl) (ze_0 G V g 0 h) rfl 1 (by decide) (hL _ zw1_129) rfl rfl dX1_overdueDays_12 ?_
        refine lv_iload_n hx hb dX1_overdueDays_15 rfl (lv_at hl 2 rfl) ?_
        obtain ⟨hb2, hf⟩ := grd_some hf
        refine z_aald hx hb hK hM (dm_2 (g := g) (i := 0) hg rfl) 3 (zd_2 G (upG V g h) g 0) rfl (inb_in hb2) dX1_overdueDays_16 ?_
        refine lv_aload_n hx hb dX1_overdueDays_17 rfl (lv_at hl 0 rfl) ?_
        refine z_get (own := RX1) (C := RX1) (T := TX1) (N := 10) (ci := 0) (v := .int (h 15 0)) hx hb hL inX1 hown hK hM (dm_0 (g := g) (i := 0) hg rfl) (ze_0 G V g 0 h) rfl 8 (by decide) (hL _ zw1_137) rfl rfl dX1_overdueDays_18 ?_
        obtain ⟨r3, h5, hc4, hf⟩ := bnd_some hf
        refine z_callV (As := [.int (h 15 0)]) (rest := [.int a1]) (C := RX5) hx hb hml hown hL hK hM hS (kX5_overdueOn l G A V g hg a2.toNatClampNeg (inb_lt hb2) h (h 15 0) hc4) (zg_X5_overdueOn zw2_129) zv_X5_overdueOn ⟨rfl, rfl⟩ ⟨Nat.le_of_ble_eq_true rfl, Nat.le_of_ble_eq_true rfl⟩ (hM.recv hK (dm_9 (g := g) (i := a2.toNatClampNeg) hg (inb_lt hb2)) (ze_9 G V g a2.toNatClampNeg h) rfl) rfl hl.1 rfl (Nat.le_of_ble_eq_true rfl) dX1_overdueDays_21 ⟨Nat.zero_le _, Nat.zero_le _⟩ (fun H locs hM hS => ?_)
        refine W.eq (g2 := F0 m 24 ls [.int r3, .int a1]) rfl ?_
        refine lv_iadd hx hb dX1_overdueDays_24 ?_
        refine lv_topi (fun y6 ey6 => ?_)
        replace hf := ltI_some hf ey6
        refine lv_istore_n (lv' := [(1, .int y6), (0, .ref (gA G 0 g 0)), (2, .int a2)]) hx hb dX1_overdueDays_25 rfl hl (by decide) rfl (fun ls hl => ?_)
        obtain ⟨y7, ey7⟩ : ∃ y : Int32, y = a2 + (1 : Int32) := ⟨_, rfl⟩
        replace hf := ltI_some hf ey7
        refine lv_iinc (v := y7) (lv' := [(2, .int y7), (1, .int y6), (0, .ref (gA G 0 g 0))]) hx hb dX1_overdueDays_26 hl (k := 2) rfl (by rw [ey7]; rfl) (by decide) rfl (fun ls hl => ?_)
        refine lv_goto (tgt := 4) hx hb dX1_overdueDays_29 (by decide) ?_
        exact ih h5 y6 y7 hf _ _ _ hM hS (lv_sub hl [2, 1, 0] rfl)
  unfold xX1_overdueDays at hf
  refine lv_iconst (v := 0) hx hb dX1_overdueDays_0 (by decide) ?_
  refine lv_istore_n (lv' := [(1, .int (0 : Int32)), (0, .ref (gA G 0 g 0))]) hx hb dX1_overdueDays_1 rfl hl (by decide) rfl (fun ls hl => ?_)
  refine lv_iconst (v := 0) hx hb dX1_overdueDays_2 (by decide) ?_
  refine lv_istore_n (lv' := [(2, .int (0 : Int32)), (1, .int (0 : Int32)), (0, .ref (gA G 0 g 0))]) hx hb dX1_overdueDays_3 rfl hl (by decide) rfl (fun ls hl => ?_)
  exact L4 1000 h (0 : Int32) (0 : Int32) hf _ _ _ hM hS (lv_sub hl [2, 1, 0] rfl)
abbrev rJ9_floorMod_7cf53 : Room := { frames := 0, cells := 0, slots := 0, locals := 0 }
set_option maxRecDepth 100000 in
set_option maxHeartbeats 4000000 in
theorem kJ9_floorMod_7cf53 (l : Launch) (G : zG) (A : Nat → Prop) (V : zV3) (h : zV2) (p1 : Int32) (p2 : Int32) {r : Int32} {h' : zV2} (hf : xJ9_floorMod_7cf53 h p1 p2 = some (r, h')) : zCt l G A yJ9_floorMod_7cf53 cJ9_floorMod_7cf53 3 (some .int) rJ9_floorMod_7cf53 [.int p1, .int p2] (upG V 7 h) (some (.int r)) (upG V 7 h') := by
  refine z_CFI (by decide +kernel) (Nat.le_of_ble_eq_true rfl) ?_
  intro p e s m args below meth c Q hx hb hml hown hL hK hM hS hQ ls hl
  replace hl : lv_has ls 3 [(0, .int p1), (1, .int p2)] := hl
  have hQf : ∀ {a : Int32} {k : zV2} {H : Heap} {locs : List Loc} {pc : Nat} {ls : Array Slot}, some (a, k) = some (r, h') → zM G (upG V 7 k) H → va_S A s.heap H locs → decode cJ9_floorMod_7cf53 pc = .ok (.ireturn, 1) → W p l e rJ9_floorMod_7cf53 s m args below meth c H locs 0 0 Q (F0 m pc ls [.int a]) := by
    intro a k H locs pc ls e1 hM hS hd
    cases e1
    exact hQ H locs pc ls hM hS hd
  unfold xJ9_floorMod_7cf53 at hf
  refine lv_iload_n hx hb dJ9_floorMod_7cf53_0 rfl (lv_at hl 0 rfl) ?_
  refine lv_iload_n hx hb dJ9_floorMod_7cf53_1 rfl (lv_at hl 1 rfl) ?_
  obtain ⟨hb1, hf⟩ := grd_some hf
  refine lv_irem hx hb dJ9_floorMod_7cf53_2 (of_decide_eq_true hb1) ?_
  refine lv_topi (fun y2 ey2 => ?_)
  replace hf := ltI_some hf ey2
  refine lv_istore_n (lv' := [(2, .int y2), (0, .int p1), (1, .int p2)]) hx hb dJ9_floorMod_7cf53_3 rfl hl (by decide) rfl (fun ls hl => ?_)
  refine lv_iload_n hx hb dJ9_floorMod_7cf53_4 rfl (lv_at hl 1 rfl) ?_
  refine lv_iload_n hx hb dJ9_floorMod_7cf53_5 rfl (lv_at hl 2 rfl) ?_
  refine lv_ixor hx hb dJ9_floorMod_7cf53_6 ?_
  refine lv_if_ge (tgt := 18) hx hb dJ9_floorMod_7cf53_7 (by decide) (fun c3 => ?_) (fun c3 => ?_)
  · replace hf := ift hf c3
    refine lv_iload_n hx hb dJ9_floorMod_7cf53_18 rfl (lv_at hl 0 rfl) ?_
    exact hQf hf hM hS dJ9_floorMod_7cf53_19
  · replace hf := iff_ hf c3
    refine lv_iload_n hx hb dJ9_floorMod_7cf53_10 rfl (lv_at hl 0 rfl) ?_
    refine lv_if_eq (tgt := 18) hx hb dJ9_floorMod_7cf53_11 (by decide) (fun c4 => ?_) (fun c4 => ?_)
    · replace hf := ift hf c4
      refine lv_iload_n hx hb dJ9_floorMod_7cf53_18 rfl (lv_at hl 0 rfl) ?_
      exact hQf hf hM hS dJ9_floorMod_7cf53_19
    · replace hf := iff_ hf c4
      refine lv_iload_n hx hb dJ9_floorMod_7cf53_14 rfl (lv_at hl 0 rfl) ?_
      refine lv_iload_n hx hb dJ9_floorMod_7cf53_15 rfl (lv_at hl 2 rfl) ?_
      refine lv_iadd hx hb dJ9_floorMod_7cf53_16 ?_
      exact hQf hf hM hS dJ9_floorMod_7cf53_17
abbrev rX2_slot : Room := { frames := 1, cells := 0, slots := 0, locals := 22 }
set_option maxRecDepth 100000 in
set_option maxHeartbeats 4000000 in
theorem kX2_slot (l : Launch) (G : zG) (A : Nat → Prop) (V : zV3) (h : zV2) (p1 : Int32) {r : Nat} {h' : zV2} (hf : xX2_slot h p1 = some (r, h')) : zCt l G A yX2_slot cX2_slot 2 (some (.object "LockerChains$Hall")) rX2_slot [.ref (gA G 11 0 0), .int p1] (upG V 7 h) (some (va_rf (some (gA G 0 r 0)))) (upG V 7 h') := by
  refine z_CtQ (by decide) (Nat.le_of_ble_eq_true rfl) ?_
  intro p e s m args below meth c Q hx hb hml hown hL hK hM hS hQ ls hl
  replace hl : lv_has ls 2 [(0, .ref (gA G 11 0 0)), (1, .int p1)] := hl
  have hQf : ∀ {a : Nat} {k : zV2} {H : Heap} {locs : List Loc} {pc : Nat} {ls : Array Slot}, some (a, k) = some (r, h') → zM G (upG V 7 k) H → va_S A s.heap H locs → decode cX2_slot pc = .ok (.areturn, 1) → W p l e rX2_slot s m args below meth c H locs 0 0 Q (F0 m pc ls [va_rf (some (gA G 0 a 0))]) := by
    intro a k H locs pc ls e1 hM hS hd
    cases e1
    exact hQ H locs pc ls hM hS hd
  unfold xX2_slot at hf
  refine lv_aload_n hx hb dX2_slot_0 rfl (lv_at hl 0 rfl) ?_
  refine z_get (own := RX2) (C := RX2) (T := TX2) (N := 3) (ci := 1) (v := .ref (gA G 12 0 0)) hx hb hL inX2 hown hK hM dm_11 (ze_11 G V 0 0 h) rfl 0 (by decide) (hL _ zw1_169) rfl rfl dX2_slot_1 ?_
  refine lv_aload_n hx hb dX2_slot_4 rfl (lv_at hl 0 rfl) ?_
  refine z_get (own := RX2) (C := RX2) (T := TX2) (N := 3) (ci := 1) (v := .int (h 0 0)) hx hb hL inX2 hown hK hM dm_11 (ze_11 G V 0 0 h) rfl 1 (by decide) (hL _ zw1_170) rfl rfl dX2_slot_5 ?_
  refine lv_iload_n hx hb dX2_slot_8 rfl (lv_at hl 1 rfl) ?_
  refine lv_iadd hx hb dX2_slot_9 ?_
  refine lv_iconst (v := 5) hx hb dX2_slot_10 (by decide) ?_
  obtain ⟨r1, h3, hc2, hf⟩ := bnd_some hf
  refine z_callS (As := [.int ((h 0 0) + p1), .int (5 : Int32)]) (rest := [.ref (gA G 12 0 0)]) hx hb hml hown hL hK hM hS (kJ9_floorMod_7cf53 l G A V h ((h 0 0) + p1) (5 : Int32) hc2) (zg_J9_floorMod_7cf53 zw2_26) zy_J9_floorMod_7cf53 ⟨rfl, rfl⟩ ⟨Nat.le_of_ble_eq_true rfl, Nat.le_of_ble_eq_true rfl⟩ rfl hl.1 rfl (Nat.le_of_ble_eq_true rfl) dX2_slot_11 ⟨Nat.zero_le _, Nat.zero_le _⟩ (fun H locs hM hS => ?_)
  refine W.eq (g2 := F0 m 14 ls [.int r1, .ref (gA G 12 0 0)]) rfl ?_
  obtain ⟨hb4, hf⟩ := grd_some hf
  refine z_aald hx hb hK hM dm_12 4 (zd_12 G (upG V 7 h3)) rfl (inb_in hb4) dX2_slot_14 ?_
  exact hQf (a := (r1.toNatClampNeg + 1)) hf hM hS dX2_slot_15
abbrev rX2_prepare : Room := { frames := 2, cells := 0, slots := 0, locals := 44 }
set_option maxRecDepth 100000 in
set_option maxHeartbeats 4000000 in
theorem kX2_prepare (l : Launch) (G : zG) (A : Nat → Prop) (V : zV3) (g : Nat) (hg : g < 7) {r : Unit} {V' : zV3} (hf : xX2_prepare g V  = some (r, V')) : zCt l G A yX2_prepare cX2_prepare 2 none rX2_prepare [.ref (gA G 11 0 0), .ref (gA G 0 g 0)] V none V' := by
  refine z_CtV (by decide) (Nat.le_of_ble_eq_true rfl) ?_
  intro p e s m args below meth c Q hx hb hml hown hL hK hM hS hQ ls hl
  replace hl : lv_has ls 2 [(0, .ref (gA G 11 0 0)), (1, .ref (gA G 0 g 0))] := hl
  have hQf : ∀ {a : Unit} {k : zV3} {H : Heap} {locs : List Loc} {pc : Nat} {ls : Array Slot}, some (a, k) = some (r, V') → zM G k H → va_S A s.heap H locs → decode cX2_prepare pc = .ok (.return_, 1) → W p l e rX2_prepare s m args below meth c H locs 0 0 Q (F0 m pc ls []) := by
    intro a k H locs pc ls e1 hM hS hd
    cases e1
    exact hQ H locs pc ls hM hS hd
  unfold xX2_prepare at hf
  refine lv_aload_n hx hb dX2_prepare_0 rfl (lv_at hl 0 rfl) ?_
  refine lv_aload_n hx hb dX2_prepare_1 rfl (lv_at hl 0 rfl) ?_
  refine z_get (own := RX2) (C := RX2) (T := TX2) (N := 3) (ci := 1) (v := .int (V 7 1 0)) hx hb hL inX2 hown hK hM dm_11 (zd_11 G V 0 0) rfl 2 (by decide) (hL _ zw1_171) rfl rfl dX2_prepare_2 ?_
  obtain ⟨r1, k3, V4, hc2, eV4, hf⟩ := bndG_some hf
  refine z_callV (As := [.int (V 7 1 0)]) (rest := []) (C := RX2) hx hb hml hown hL hK hM hS (z_ctG (kX2_slot l G A V (V 7) (V 7 1 0) hc2)) (zg_X2_slot zw2_22) zv_X2_slot ⟨rfl, rfl⟩ ⟨Nat.le_of_ble_eq_true rfl, Nat.le_of_ble_eq_true rfl⟩ (hM.recv hK dm_11 (zd_11 G V 0 0) rfl) rfl hl.1 rfl (Nat.le_of_ble_eq_true rfl) dX2_prepare_5 ⟨Nat.zero_le _, Nat.zero_le _⟩ (fun H locs hM hS => ?_)
  rw [← eV4] at hM
  obtain ⟨hb5, hf⟩ := grd_some hf
  replace hb5 := of_decide_eq_true hb5
  refine W.eq (g2 := F0 m 8 ls [.ref (gA G 0 r1 0)]) rfl ?_
  refine lv_aload_n hx hb dX2_prepare_8 rfl (lv_at hl 1 rfl) ?_
  obtain ⟨r6, V8, hc7, hf⟩ := bnd_some hf
  refine z_callV (As := [.ref (gA G 0 g 0)]) (rest := []) (C := RX1) hx hb hml hown hL hK hM hS (kX1_copyFrom l G A V4 r1 hb5 g hg hc7) (zg_X1_copyFrom zw2_29) zv_X1_copyFrom ⟨rfl, rfl⟩ ⟨Nat.le_of_ble_eq_true rfl, Nat.le_of_ble_eq_true rfl⟩ (hM.recv hK (dm_0 (g := r1) (i := 0) hb5 rfl) (zd_0 G V4 r1 0) rfl) rfl hl.1 rfl (Nat.le_of_ble_eq_true rfl) dX2_prepare_9 ⟨Nat.zero_le _, Nat.zero_le _⟩ (fun H locs hM hS => ?_)
  refine W.eq (g2 := F0 m 12 ls []) rfl ?_
  exact hQf hf hM hS dX2_prepare_12
abbrev rX2_settle : Room := { frames := 1, cells := 0, slots := 0, locals := 22 }
set_option maxRecDepth 100000 in
set_option maxHeartbeats 4000000 in
theorem kX2_settle (l : Launch) (G : zG) (A : Nat → Prop) (V : zV3) (h : zV2) (p1 : Int32) {r : Int32} {h' : zV2} (hf : xX2_settle h p1 = some (r, h')) : zCt l G A yX2_settle cX2_settle 2 (some .int) rX2_settle [.ref (gA G 11 0 0), .int p1] (upG V 7 h) (some (.int r)) (upG V 7 h') := by
  refine z_CtI (by decide) (Nat.le_of_ble_eq_true rfl) ?_
  intro p e s m args below meth c Q hx hb hml hown hL hK hM hS hQ ls hl
  replace hl : lv_has ls 2 [(0, .ref (gA G 11 0 0)), (1, .int p1)] := hl
  have hQf : ∀ {a : Int32} {k : zV2} {H : Heap} {locs : List Loc} {pc : Nat} {ls : Array Slot}, some (a, k) = some (r, h') → zM G (upG V 7 k) H → va_S A s.heap H locs → decode cX2_settle pc = .ok (.ireturn, 1) → W p l e rX2_settle s m args below meth c H locs 0 0 Q (F0 m pc ls [.int a]) := by
    intro a k H locs pc ls e1 hM hS hd
    cases e1
    exact hQ H locs pc ls hM hS hd
  unfold xX2_settle at hf
  refine lv_iload_n hx hb dX2_settle_0 rfl (lv_at hl 1 rfl) ?_
  refine lv_if_lt (tgt := 41) hx hb dX2_settle_1 (by decide) (fun c1 => ?_) (fun c1 => ?_)
  · replace hf := ift hf c1
    refine lv_iload_n hx hb dX2_settle_41 rfl (lv_at hl 1 rfl) ?_
    exact hQf hf hM hS dX2_settle_42
  · replace hf := iff_ hf c1
    refine lv_aload_n hx hb dX2_settle_4 rfl (lv_at hl 0 rfl) ?_
    refine lv_dup hx hb dX2_settle_5 rfl ?_
    refine z_get (own := RX2) (C := RX2) (T := TX2) (N := 3) (ci := 1) (v := .int (h 1 0)) hx hb hL inX2 hown hK hM dm_11 (ze_11 G V 0 0 h) rfl 2 (by decide) (hL _ zw1_171) rfl rfl dX2_settle_6 ?_
    refine lv_iconst (v := 1) hx hb dX2_settle_9 (by decide) ?_
    refine lv_iadd hx hb dX2_settle_10 ?_
    obtain ⟨h2, eh2⟩ : ∃ y, y = up2 h 1 0 ((h 1 0) + (1 : Int32)) := ⟨_, rfl⟩
    replace hf := put2_some hf eh2
    refine z_put (own := RX2) (C := RX2) (T := TX2) (N := 3) (ci := 1) (V' := upG V 7 h2) hx hb hL inX2 tyX2 tyX2_ok nmX2 hown hK hM hS dm_11 (ze_11 G V 0 0 h) rfl 2 (by decide) (hL _ zw1_171) rfl rfl rfl rfl (Nat.le_of_ble_eq_true rfl) (by rw [eh2]; exact zn_11_1 G V h ((h 1 0) + (1 : Int32))) dX2_settle_11 (fun H locs hM hS => ?_)
    refine lv_aload_n hx hb dX2_settle_14 rfl (lv_at hl 0 rfl) ?_
    refine z_get (own := RX2) (C := RX2) (T := TX2) (N := 3) (ci := 1) (v := .int (h2 1 0)) hx hb hL inX2 hown hK hM dm_11 (ze_11 G V 0 0 h2) rfl 2 (by decide) (hL _ zw1_171) rfl rfl dX2_settle_15 ?_
    refine lv_iconst (v := 4) hx hb dX2_settle_18 (by decide) ?_
    refine lv_icmp_le (tgt := 41) hx hb dX2_settle_19 (by decide) (fun c3 => ?_) (fun c3 => ?_)
    · replace hf := ift hf c3
      refine lv_iload_n hx hb dX2_settle_41 rfl (lv_at hl 1 rfl) ?_
      exact hQf hf hM hS dX2_settle_42
    · replace hf := iff_ hf c3
      refine lv_aload_n hx hb dX2_settle_22 rfl (lv_at hl 0 rfl) ?_
      refine lv_iconst (v := 4) hx hb dX2_settle_23 (by decide) ?_
      obtain ⟨h4, eh4⟩ : ∃ y, y = up2 h2 1 0 (4 : Int32) := ⟨_, rfl⟩
      replace hf := put2_some hf eh4
      refine z_put (own := RX2) (C := RX2) (T := TX2) (N := 3) (ci := 1) (V' := upG V 7 h4) hx hb hL inX2 tyX2 tyX2_ok nmX2 hown hK hM hS dm_11 (ze_11 G V 0 0 h2) rfl 2 (by decide) (hL _ zw1_171) rfl rfl rfl rfl (Nat.le_of_ble_eq_true rfl) (by rw [eh4]; exact zn_11_1 G V h2 (4 : Int32)) dX2_settle_24 (fun H locs hM hS => ?_)
      refine lv_aload_n hx hb dX2_settle_27 rfl (lv_at hl 0 rfl) ?_
      refine lv_aload_n hx hb dX2_settle_28 rfl (lv_at hl 0 rfl) ?_
      refine z_get (own := RX2) (C := RX2) (T := TX2) (N := 3) (ci := 1) (v := .int (h4 0 0)) hx hb hL inX2 hown hK hM dm_11 (ze_11 G V 0 0 h4) rfl 1 (by decide) (hL _ zw1_170) rfl rfl dX2_settle_29 ?_
      refine lv_iconst (v := 1) hx hb dX2_settle_32 (by decide) ?_
      refine lv_iadd hx hb dX2_settle_33 ?_
      refine lv_iconst (v := 5) hx hb dX2_settle_34 (by decide) ?_
      obtain ⟨r5, h7, hc6, hf⟩ := bnd_some hf
      refine z_callS (As := [.int ((h4 0 0) + (1 : Int32)), .int (5 : Int32)]) (rest := [.ref (gA G 11 0 0)]) hx hb hml hown hL hK hM hS (kJ9_floorMod_7cf53 l G A V h4 ((h4 0 0) + (1 : Int32)) (5 : Int32) hc6) (zg_J9_floorMod_7cf53 zw2_26) zy_J9_floorMod_7cf53 ⟨rfl, rfl⟩ ⟨Nat.le_of_ble_eq_true rfl, Nat.le_of_ble_eq_true rfl⟩ rfl hl.1 rfl (Nat.le_of_ble_eq_true rfl) dX2_settle_35 ⟨Nat.zero_le _, Nat.zero_le _⟩ (fun H locs hM hS => ?_)
      refine W.eq (g2 := F0 m 38 ls [.int r5, .ref (gA G 11 0 0)]) rfl ?_
      obtain ⟨h8, eh8⟩ : ∃ y, y = up2 h7 0 0 r5 := ⟨_, rfl⟩
      replace hf := put2_some hf eh8
      refine z_put (own := RX2) (C := RX2) (T := TX2) (N := 3) (ci := 1) (V' := upG V 7 h8) hx hb hL inX2 tyX2 tyX2_ok nmX2 hown hK hM hS dm_11 (ze_11 G V 0 0 h7) rfl 1 (by decide) (hL _ zw1_170) rfl rfl rfl rfl (Nat.le_of_ble_eq_true rfl) (by rw [eh8]; exact zn_11_0 G V h7 r5) dX2_settle_38 (fun H locs hM hS => ?_)
      refine lv_iload_n hx hb dX2_settle_41 rfl (lv_at hl 1 rfl) ?_
      exact hQf hf hM hS dX2_settle_42
abbrev rX2_restore : Room := { frames := 2, cells := 0, slots := 0, locals := 44 }
set_option maxRecDepth 100000 in
set_option maxHeartbeats 4000000 in
theorem kX2_restore (l : Launch) (G : zG) (A : Nat → Prop) (V : zV3) (g : Nat) (hg : g < 7) {r : Int32} {V' : zV3} (hf : xX2_restore g V  = some (r, V')) : zCt l G A yX2_restore cX2_restore 2 (some .int) rX2_restore [.ref (gA G 11 0 0), .ref (gA G 0 g 0)] V (some (.int r)) V' := by
  refine z_CtI (by decide) (Nat.le_of_ble_eq_true rfl) ?_
  intro p e s m args below meth c Q hx hb hml hown hL hK hM hS hQ ls hl
  replace hl : lv_has ls 2 [(0, .ref (gA G 11 0 0)), (1, .ref (gA G 0 g 0))] := hl
  have hQf : ∀ {a : Int32} {k : zV3} {H : Heap} {locs : List Loc} {pc : Nat} {ls : Array Slot}, some (a, k) = some (r, V') → zM G k H → va_S A s.heap H locs → decode cX2_restore pc = .ok (.ireturn, 1) → W p l e rX2_restore s m args below meth c H locs 0 0 Q (F0 m pc ls [.int a]) := by
    intro a k H locs pc ls e1 hM hS hd
    cases e1
    exact hQ H locs pc ls hM hS hd
  unfold xX2_restore at hf
  refine lv_aload_n hx hb dX2_restore_0 rfl (lv_at hl 0 rfl) ?_
  refine z_get (own := RX2) (C := RX2) (T := TX2) (N := 3) (ci := 1) (v := .int (V 7 1 0)) hx hb hL inX2 hown hK hM dm_11 (zd_11 G V 0 0) rfl 2 (by decide) (hL _ zw1_171) rfl rfl dX2_restore_1 ?_
  refine lv_if_ne (tgt := 10) hx hb dX2_restore_4 (by decide) (fun c1 => ?_) (fun c1 => ?_)
  · replace hf := iff_ hf c1
    refine lv_aload_n hx hb dX2_restore_10 rfl (lv_at hl 0 rfl) ?_
    refine lv_dup hx hb dX2_restore_11 rfl ?_
    refine z_get (own := RX2) (C := RX2) (T := TX2) (N := 3) (ci := 1) (v := .int (V 7 1 0)) hx hb hL inX2 hown hK hM dm_11 (zd_11 G V 0 0) rfl 2 (by decide) (hL _ zw1_171) rfl rfl dX2_restore_12 ?_
    refine lv_iconst (v := 1) hx hb dX2_restore_15 (by decide) ?_
    refine lv_isub hx hb dX2_restore_16 ?_
    obtain ⟨V2, eV2⟩ : ∃ y, y = upG V 7 (up2 (V 7) 1 0 ((V 7 1 0) - (1 : Int32))) := ⟨_, rfl⟩
    replace hf := put3_some hf eV2
    refine z_put (own := RX2) (C := RX2) (T := TX2) (N := 3) (ci := 1) (V' := V2) hx hb hL inX2 tyX2 tyX2_ok nmX2 hown hK hM hS dm_11 (zd_11 G V 0 0) rfl 2 (by decide) (hL _ zw1_171) rfl rfl rfl rfl (Nat.le_of_ble_eq_true rfl) (by rw [eV2]; exact zm_11_1 G V ((V 7 1 0) - (1 : Int32))) dX2_restore_17 (fun H locs hM hS => ?_)
    refine lv_aload_n hx hb dX2_restore_20 rfl (lv_at hl 1 rfl) ?_
    refine lv_aload_n hx hb dX2_restore_21 rfl (lv_at hl 0 rfl) ?_
    refine lv_aload_n hx hb dX2_restore_22 rfl (lv_at hl 0 rfl) ?_
    refine z_get (own := RX2) (C := RX2) (T := TX2) (N := 3) (ci := 1) (v := .int (V2 7 1 0)) hx hb hL inX2 hown hK hM dm_11 (zd_11 G V2 0 0) rfl 2 (by decide) (hL _ zw1_171) rfl rfl dX2_restore_23 ?_
    obtain ⟨r3, k5, V6, hc4, eV6, hf⟩ := bndG_some hf
    refine z_callV (As := [.int (V2 7 1 0)]) (rest := [.ref (gA G 0 g 0)]) (C := RX2) hx hb hml hown hL hK hM hS (z_ctG (kX2_slot l G A V2 (V2 7) (V2 7 1 0) hc4)) (zg_X2_slot zw2_22) zv_X2_slot ⟨rfl, rfl⟩ ⟨Nat.le_of_ble_eq_true rfl, Nat.le_of_ble_eq_true rfl⟩ (hM.recv hK dm_11 (zd_11 G V2 0 0) rfl) rfl hl.1 rfl (Nat.le_of_ble_eq_true rfl) dX2_restore_26 ⟨Nat.zero_le _, Nat.zero_le _⟩ (fun H locs hM hS => ?_)
    rw [← eV6] at hM
    obtain ⟨hb7, hf⟩ := grd_some hf
    replace hb7 := of_decide_eq_true hb7
    refine W.eq (g2 := F0 m 29 ls [.ref (gA G 0 r3 0), .ref (gA G 0 g 0)]) rfl ?_
    obtain ⟨r8, V10, hc9, hf⟩ := bnd_some hf
    refine z_callV (As := [.ref (gA G 0 r3 0)]) (rest := []) (C := RX1) hx hb hml hown hL hK hM hS (kX1_copyFrom l G A V6 g hg r3 hb7 hc9) (zg_X1_copyFrom zw2_29) zv_X1_copyFrom ⟨rfl, rfl⟩ ⟨Nat.le_of_ble_eq_true rfl, Nat.le_of_ble_eq_true rfl⟩ (hM.recv hK (dm_0 (g := g) (i := 0) hg rfl) (zd_0 G V6 g 0) rfl) rfl hl.1 rfl (Nat.le_of_ble_eq_true rfl) dX2_restore_29 ⟨Nat.zero_le _, Nat.zero_le _⟩ (fun H locs hM hS => ?_)
    refine W.eq (g2 := F0 m 32 ls []) rfl ?_
    refine lv_aload_n hx hb dX2_restore_32 rfl (lv_at hl 0 rfl) ?_
    refine z_get (own := RX2) (C := RX2) (T := TX2) (N := 3) (ci := 1) (v := .int (V10 7 1 0)) hx hb hL inX2 hown hK hM dm_11 (zd_11 G V10 0 0) rfl 2 (by decide) (hL _ zw1_171) rfl rfl dX2_restore_33 ?_
    exact hQf hf hM hS dX2_restore_36
  · replace hf := ift hf c1
    refine lv_bipush (v := -2) hx hb dX2_restore_7 (by decide) ?_
    exact hQf hf hM hS dX2_restore_9
abbrev rX6_feeOf : Room := { frames := 4, cells := 0, slots := 0, locals := 94 }
set_option maxRecDepth 100000 in
set_option maxHeartbeats 4000000 in
theorem kX6_feeOf (l : Launch) (G : zG) (A : Nat → Prop) (V : zV3) (g : Nat) (hg : g < 7) (p2 : Int32) (p3 : Int32) {r : Int32} {V' : zV3} (hf : xX6_feeOf g V p2 p3 = some (r, V')) : zCt l G A yX6_feeOf cX6_feeOf 6 (some .int) rX6_feeOf [.ref (gA G 15 0 0), .ref (gA G 0 g 0), .int p2, .int p3] V (some (.int r)) V' := by
  refine z_CtI (by decide) (Nat.le_of_ble_eq_true rfl) ?_
  intro p e s m args below meth c Q hx hb hml hown hL hK hM hS hQ ls hl
  replace hl : lv_has ls 6 [(0, .ref (gA G 15 0 0)), (1, .ref (gA G 0 g 0)), (2, .int p2), (3, .int p3)] := hl
  have hQf : ∀ {a : Int32} {k : zV3} {H : Heap} {locs : List Loc} {pc : Nat} {ls : Array Slot}, some (a, k) = some (r, V') → zM G k H → va_S A s.heap H locs → decode cX6_feeOf pc = .ok (.ireturn, 1) → W p l e rX6_feeOf s m args below meth c H locs 0 0 Q (F0 m pc ls [.int a]) := by
    intro a k H locs pc ls e1 hM hS hd
    cases e1
    exact hQ H locs pc ls hM hS hd
  unfold xX6_feeOf at hf
  refine lv_aload_n hx hb dX6_feeOf_0 rfl (lv_at hl 1 rfl) ?_
  refine lv_iload_n hx hb dX6_feeOf_1 rfl (lv_at hl 2 rfl) ?_
  obtain ⟨r1, k3, V4, hc2, eV4, hf⟩ := bndG_some hf
  refine z_callN (As := [.int p2]) (rest := []) (C := RX1) hx hb hml hown hL hK hM hS (z_ctG (kX1_personAt l G A V g hg (V g) p2 hc2)) zw2_88 zw2_87 zwp1_3 zw1_2 3 rfl zy_X1_personAt ⟨rfl, rfl⟩ ⟨Nat.le_of_ble_eq_true rfl, Nat.le_of_ble_eq_true rfl⟩ (hM.recv hK (dm_0 (g := g) (i := 0) hg rfl) (zd_0 G V g 0) rfl) rfl hl.1 rfl (Nat.le_of_ble_eq_true rfl) dX6_feeOf_2 ⟨Nat.zero_le _, Nat.zero_le _⟩ (fun H locs hM hS => ?_)
  rw [← eV4] at hM
  cases r1 with
  | none =>
    replace hf := optm_none hf
    refine W.eq (g2 := F0 m 5 ls [.null]) rfl ?_
    refine lv_astoreN (lv' := [(4, .null), (0, .ref (gA G 15 0 0)), (1, .ref (gA G 0 g 0)), (2, .int p2), (3, .int p3)]) hx hb dX6_feeOf_5 hl (by decide) rfl (fun ls hl => ?_)
    refine lv_aloadN hx hb dX6_feeOf_7 (lv_at hl 0 rfl) ?_
    refine lv_ifnullN (tgt := 23) hx hb dX6_feeOf_9 (by decide) ?_
    refine lv_iconst (v := -1) hx hb dX6_feeOf_23 (by decide) ?_
    exact hQf hf hM hS dX6_feeOf_24
  | some q5 =>
    replace hf := optm_s hf
    obtain ⟨hq5, hf⟩ := grd_some hf
    replace hq5 := of_decide_eq_true hq5
    refine W.eq (g2 := F0 m 5 ls [.ref (gA G 9 g q5)]) rfl ?_
    refine lv_astore (lv' := [(4, .ref (gA G 9 g q5)), (0, .ref (gA G 15 0 0)), (1, .ref (gA G 0 g 0)), (2, .int p2), (3, .int p3)]) hx hb dX6_feeOf_5 hl (by decide) rfl (fun ls hl => ?_)
    refine lv_aload hx hb dX6_feeOf_7 (lv_at hl 0 rfl) ?_
    refine lv_ifnull hx hb dX6_feeOf_9 ?_
    refine lv_iload_n hx hb dX6_feeOf_12 rfl (lv_at hl 4 rfl) ?_
    refine lv_iconst (v := 1) hx hb dX6_feeOf_13 (by decide) ?_
    refine lv_icmp_lt (tgt := 23) hx hb dX6_feeOf_14 (by decide) (fun c6 => ?_) (fun c6 => ?_)
    · replace hf := ift hf c6
      refine lv_iconst (v := -1) hx hb dX6_feeOf_23 (by decide) ?_
      exact hQf hf hM hS dX6_feeOf_24
    · replace hf := iff_ hf c6
      refine lv_iload_n hx hb dX6_feeOf_17 rfl (lv_at hl 4 rfl) ?_
      refine lv_bipush (v := 99) hx hb dX6_feeOf_18 (by decide) ?_
      refine lv_icmp_le (tgt := 25) hx hb dX6_feeOf_20 (by decide) (fun c7 => ?_) (fun c7 => ?_)
      · replace hf := ift hf c7
        refine lv_aload_n hx hb dX6_feeOf_25 rfl (lv_at hl 1 rfl) ?_
        refine z_get (own := RX6) (C := RX6) (T := TX6) (N := 5) (ci := 5) (v := .ref (gA G 0 6 0)) hx hb hL inX6 hown hK hM dm_15 (zd_15 G V4 0 0) rfl 0 (by decide) (hL _ zw1_220) rfl rfl dX6_feeOf_26 ?_
        refine lv_aload_n hx hb dX6_feeOf_29 rfl (lv_at hl 2 rfl) ?_
        obtain ⟨r8, V10, hc9, hf⟩ := bnd_some hf
        refine z_callV (As := [.ref (gA G 0 g 0)]) (rest := []) (C := RX1) hx hb hml hown hL hK hM hS (kX1_copyFrom l G A V4 6 (by decide) g hg hc9) (zg_X1_copyFrom zw3_84) zv_X1_copyFrom ⟨rfl, rfl⟩ ⟨Nat.le_of_ble_eq_true rfl, Nat.le_of_ble_eq_true rfl⟩ (hM.recv hK (dm_0 (g := 6) (i := 0) (by decide) rfl) (zd_0 G V4 6 0) rfl) rfl hl.1 rfl (Nat.le_of_ble_eq_true rfl) dX6_feeOf_30 ⟨Nat.zero_le _, Nat.zero_le _⟩ (fun H locs hM hS => ?_)
        refine W.eq (g2 := F0 m 33 ls []) rfl ?_
        refine lv_aload_n hx hb dX6_feeOf_33 rfl (lv_at hl 1 rfl) ?_
        refine z_get (own := RX6) (C := RX6) (T := TX6) (N := 5) (ci := 5) (v := .ref (gA G 0 6 0)) hx hb hL inX6 hown hK hM dm_15 (zd_15 G V10 0 0) rfl 0 (by decide) (hL _ zw1_220) rfl rfl dX6_feeOf_34 ?_
        refine lv_iload_n hx hb dX6_feeOf_37 rfl (lv_at hl 4 rfl) ?_
        refine lv_sipush (v := 5099) hx hb dX6_feeOf_38 (by decide) ?_
        obtain ⟨r11, k13, V14, hc12, eV14, hf⟩ := bndG_some hf
        refine z_callV (As := [.int p3, .int (5099 : Int32)]) (rest := []) (C := RX1) hx hb hml hown hL hK hM hS (z_ctG (kX1_passDays l G A V10 6 (by decide) (V10 6) p3 (5099 : Int32) hc12)) (zg_X1_passDays zw3_85) zv_X1_passDays ⟨rfl, rfl⟩ ⟨Nat.le_of_ble_eq_true rfl, Nat.le_of_ble_eq_true rfl⟩ (hM.recv hK (dm_0 (g := 6) (i := 0) (by decide) rfl) (zd_0 G V10 6 0) rfl) rfl hl.1 rfl (Nat.le_of_ble_eq_true rfl) dX6_feeOf_41 ⟨Nat.zero_le _, Nat.zero_le _⟩ (fun H locs hM hS => ?_)
        rw [← eV14] at hM
        refine W.eq (g2 := F0 m 44 ls [.int r11]) rfl ?_
        refine lv_pop hx hb dX6_feeOf_44 rfl ?_
        refine lv_aload_n hx hb dX6_feeOf_45 rfl (lv_at hl 1 rfl) ?_
        refine z_get (own := RX6) (C := RX6) (T := TX6) (N := 5) (ci := 5) (v := .ref (gA G 0 6 0)) hx hb hL inX6 hown hK hM dm_15 (zd_15 G V14 0 0) rfl 0 (by decide) (hL _ zw1_220) rfl rfl dX6_feeOf_46 ?_
        refine lv_iload_n hx hb dX6_feeOf_49 rfl (lv_at hl 3 rfl) ?_
        obtain ⟨r15, k17, V18, hc16, eV18, hf⟩ := bndG_some hf
        refine z_callN (As := [.int p2]) (rest := []) (C := RX1) hx hb hml hown hL hK hM hS (z_ctG (kX1_personAt l G A V14 6 (by decide) (V14 6) p2 hc16)) zw2_88 zw2_87 zwp1_3 zw1_2 3 rfl zy_X1_personAt ⟨rfl, rfl⟩ ⟨Nat.le_of_ble_eq_true rfl, Nat.le_of_ble_eq_true rfl⟩ (hM.recv hK (dm_0 (g := 6) (i := 0) (by decide) rfl) (zd_0 G V14 6 0) rfl) rfl hl.1 rfl (Nat.le_of_ble_eq_true rfl) dX6_feeOf_50 ⟨Nat.zero_le _, Nat.zero_le _⟩ (fun H locs hM hS => ?_)
        rw [← eV18] at hM
        cases r15 with
        | none =>
          replace hf := optm_none hf
          refine W.eq (g2 := F0 m 53 ls [.null]) rfl ?_
          refine lv_astoreN (lv' := [(5, .null), (4, .ref (gA G 9 g q5)), (0, .ref (gA G 15 0 0)), (1, .ref (gA G 0 g 0)), (2, .int p2), (3, .int p3)]) hx hb dX6_feeOf_53 hl (by decide) rfl (fun ls hl => ?_)
          refine lv_aloadN hx hb dX6_feeOf_55 (lv_at hl 0 rfl) ?_
          refine lv_ifnonnullN hx hb dX6_feeOf_57 ?_
          refine lv_iconst (v := -1) hx hb dX6_feeOf_60 (by decide) ?_
          refine lv_goto (tgt := 75) hx hb dX6_feeOf_61 (by decide) ?_
          exact hQf hf hM hS dX6_feeOf_75
        | some q19 =>
          replace hf := optm_s hf
          obtain ⟨hq19, hf⟩ := grd_some hf
          replace hq19 := of_decide_eq_true hq19
          refine W.eq (g2 := F0 m 53 ls [.ref (gA G 9 6 q19)]) rfl ?_
          refine lv_astore (lv' := [(5, .ref (gA G 9 6 q19)), (4, .ref (gA G 9 g q5)), (0, .ref (gA G 15 0 0)), (1, .ref (gA G 0 g 0)), (2, .int p2), (3, .int p3)]) hx hb dX6_feeOf_53 hl (by decide) rfl (fun ls hl => ?_)
          refine lv_aload hx hb dX6_feeOf_55 (lv_at hl 0 rfl) ?_
          refine lv_ifnonnull (tgt := 64) hx hb dX6_feeOf_57 (by decide) ?_
          refine lv_aload hx hb dX6_feeOf_64 (lv_at hl 0 rfl) ?_
          refine z_getN (own := RX6) (C := RX5) (T := TX5) (N := 8) (ci := 4) (v := .int (V18 6 9 q19)) hx hb hL inX5 hown hK hM (dm_9 (g := 6) (i := q19) (by decide) hq19) (zd_9 G V18 6 q19) rfl 4 (by decide) 25 rfl rfl rfl dX6_feeOf_66 ?_
          refine lv_aload hx hb dX6_feeOf_69 (lv_at hl 1 rfl) ?_
          refine z_getN (own := RX6) (C := RX5) (T := TX5) (N := 8) (ci := 4) (v := .int (V18 g 9 q5)) hx hb hL inX5 hown hK hM (dm_9 (g := g) (i := q5) hg hq5) (zd_9 G V18 g q5) rfl 4 (by decide) 25 rfl rfl rfl dX6_feeOf_71 ?_
          refine lv_isub hx hb dX6_feeOf_74 ?_
          exact hQf hf hM hS dX6_feeOf_75
      · replace hf := iff_ hf c7
        refine lv_iconst (v := -1) hx hb dX6_feeOf_23 (by decide) ?_
        exact hQf hf hM hS dX6_feeOf_24
abbrev rX6_lockerBehindSwapping : Room := { frames := 4, cells := 0, slots := 0, locals := 93 }
set_option maxRecDepth 100000 in
set_option maxHeartbeats 4000000 in
theorem kX6_lockerBehindSwapping (l : Launch) (G : zG) (A : Nat → Prop) (V : zV3) (g : Nat) (hg : g < 7) (p2 : Int32) {r : Int32} {V' : zV3} (hf : xX6_lockerBehindSwapping g V p2 = some (r, V')) : zCt l G A yX6_lockerBehindSwapping cX6_lockerBehindSwapping 3 (some .int) rX6_lockerBehindSwapping [.ref (gA G 15 0 0), .ref (gA G 0 g 0), .int p2] V (some (.int r)) V' := by
  refine z_CtI (by decide) (Nat.le_of_ble_eq_true rfl) ?_
  intro p e s m args below meth c Q hx hb hml hown hL hK hM hS hQ ls hl
  replace hl : lv_has ls 3 [(0, .ref (gA G 15 0 0)), (1, .ref (gA G 0 g 0)), (2, .int p2)] := hl
  have hQf : ∀ {a : Int32} {k : zV3} {H : Heap} {locs : List Loc} {pc : Nat} {ls : Array Slot}, some (a, k) = some (r, V') → zM G k H → va_S A s.heap H locs → decode cX6_lockerBehindSwapping pc = .ok (.ireturn, 1) → W p l e rX6_lockerBehindSwapping s m args below meth c H locs 0 0 Q (F0 m pc ls [.int a]) := by
    intro a k H locs pc ls e1 hM hS hd
    cases e1
    exact hQ H locs pc ls hM hS hd
  unfold xX6_lockerBehindSwapping at hf
  refine lv_aload_n hx hb dX6_lockerBehindSwapping_0 rfl (lv_at hl 0 rfl) ?_
  refine z_get (own := RX6) (C := RX6) (T := TX6) (N := 5) (ci := 5) (v := .ref (gA G 0 6 0)) hx hb hL inX6 hown hK hM dm_15 (zd_15 G V 0 0) rfl 0 (by decide) (hL _ zw1_220) rfl rfl dX6_lockerBehindSwapping_1 ?_
  refine lv_aload_n hx hb dX6_lockerBehindSwapping_4 rfl (lv_at hl 1 rfl) ?_
  obtain ⟨r1, V3, hc2, hf⟩ := bnd_some hf
  refine z_callV (As := [.ref (gA G 0 g 0)]) (rest := []) (C := RX1) hx hb hml hown hL hK hM hS (kX1_copyFrom l G A V 6 (by decide) g hg hc2) (zg_X1_copyFrom zw3_84) zv_X1_copyFrom ⟨rfl, rfl⟩ ⟨Nat.le_of_ble_eq_true rfl, Nat.le_of_ble_eq_true rfl⟩ (hM.recv hK (dm_0 (g := 6) (i := 0) (by decide) rfl) (zd_0 G V 6 0) rfl) rfl hl.1 rfl (Nat.le_of_ble_eq_true rfl) dX6_lockerBehindSwapping_5 ⟨Nat.zero_le _, Nat.zero_le _⟩ (fun H locs hM hS => ?_)
  refine W.eq (g2 := F0 m 8 ls []) rfl ?_
  refine lv_aload_n hx hb dX6_lockerBehindSwapping_8 rfl (lv_at hl 0 rfl) ?_
  refine z_get (own := RX6) (C := RX6) (T := TX6) (N := 5) (ci := 5) (v := .ref (gA G 0 6 0)) hx hb hL inX6 hown hK hM dm_15 (zd_15 G V3 0 0) rfl 0 (by decide) (hL _ zw1_220) rfl rfl dX6_lockerBehindSwapping_9 ?_
  obtain ⟨r4, k6, V7, hc5, eV7, hf⟩ := bndG_some hf
  refine z_callV (As := []) (rest := []) (C := RX1) hx hb hml hown hL hK hM hS (z_ctG (kX1_swapAll l G A V3 6 (by decide) (V3 6) hc5)) (zg_X1_swapAll zw3_94) zv_X1_swapAll ⟨rfl, rfl⟩ ⟨Nat.le_of_ble_eq_true rfl, Nat.le_of_ble_eq_true rfl⟩ (hM.recv hK (dm_0 (g := 6) (i := 0) (by decide) rfl) (zd_0 G V3 6 0) rfl) rfl hl.1 rfl (Nat.le_of_ble_eq_true rfl) dX6_lockerBehindSwapping_12 ⟨Nat.zero_le _, Nat.zero_le _⟩ (fun H locs hM hS => ?_)
  rw [← eV7] at hM
  refine W.eq (g2 := F0 m 15 ls [.int r4]) rfl ?_
  refine lv_pop hx hb dX6_lockerBehindSwapping_15 rfl ?_
  refine lv_aload_n hx hb dX6_lockerBehindSwapping_16 rfl (lv_at hl 0 rfl) ?_
  refine z_get (own := RX6) (C := RX6) (T := TX6) (N := 5) (ci := 5) (v := .ref (gA G 0 6 0)) hx hb hL inX6 hown hK hM dm_15 (zd_15 G V7 0 0) rfl 0 (by decide) (hL _ zw1_220) rfl rfl dX6_lockerBehindSwapping_17 ?_
  refine lv_iload_n hx hb dX6_lockerBehindSwapping_20 rfl (lv_at hl 2 rfl) ?_
  refine lv_iconst (v := 0) hx hb dX6_lockerBehindSwapping_21 (by decide) ?_
  obtain ⟨r8, k10, V11, hc9, eV11, hf⟩ := bndG_some hf
  refine z_callV (As := [.int p2, .int (0 : Int32)]) (rest := []) (C := RX1) hx hb hml hown hL hK hM hS (z_ctG (kX1_tellOfPerson l G A V7 6 (by decide) (V7 6) p2 (0 : Int32) hc9)) (zg_X1_tellOfPerson zw3_95) zv_X1_tellOfPerson ⟨rfl, rfl⟩ ⟨Nat.le_of_ble_eq_true rfl, Nat.le_of_ble_eq_true rfl⟩ (hM.recv hK (dm_0 (g := 6) (i := 0) (by decide) rfl) (zd_0 G V7 6 0) rfl) rfl hl.1 rfl (Nat.le_of_ble_eq_true rfl) dX6_lockerBehindSwapping_22 ⟨Nat.zero_le _, Nat.zero_le _⟩ (fun H locs hM hS => ?_)
  rw [← eV11] at hM
  refine W.eq (g2 := F0 m 25 ls [.int r8]) rfl ?_
  exact hQf hf hM hS dX6_lockerBehindSwapping_25
abbrev rX6_failed : Room := { frames := 0, cells := 0, slots := 0, locals := 0 }
set_option maxRecDepth 100000 in
set_option maxHeartbeats 4000000 in
theorem kX6_failed (l : Launch) (G : zG) (A : Nat → Prop) (V : zV3) (h : zV2) {r : Int32} {h' : zV2} (hf : xX6_failed h  = some (r, h')) : zCt l G A yX6_failed cX6_failed 1 (some .boolean) rX6_failed [.ref (gA G 15 0 0)] (upG V 7 h) (some (.int r)) (upG V 7 h') := by
  refine z_CtZ (by decide) (Nat.le_of_ble_eq_true rfl) ?_
  intro p e s m args below meth c Q hx hb hml hown hL hK hM hS hQ ls hl
  replace hl : lv_has ls 1 [(0, .ref (gA G 15 0 0))] := hl
  have hQf : ∀ {a : Int32} {k : zV2} {H : Heap} {locs : List Loc} {pc : Nat} {ls : Array Slot}, narrow .boolean (.int a) = .int a → some (a, k) = some (r, h') → zM G (upG V 7 k) H → va_S A s.heap H locs → decode cX6_failed pc = .ok (.ireturn, 1) → W p l e rX6_failed s m args below meth c H locs 0 0 Q (F0 m pc ls [.int a]) := by
    intro a k H locs pc ls hnr e1 hM hS hd
    cases e1
    exact hQ H locs pc ls hnr hM hS hd
  unfold xX6_failed at hf
  refine lv_aload_n hx hb dX6_failed_0 rfl (lv_at hl 0 rfl) ?_
  refine z_get (own := RX6) (C := RX6) (T := TX6) (N := 5) (ci := 5) (v := .int (h 8 0)) hx hb hL inX6 hown hK hM dm_15 (ze_15 G V 0 0 h) rfl 1 (by decide) (hL _ zw1_222) rfl rfl dX6_failed_1 ?_
  refine lv_iconst (v := -1) hx hb dX6_failed_4 (by decide) ?_
  refine lv_icmp_eq (tgt := 12) hx hb dX6_failed_5 (by decide) (fun c1 => ?_) (fun c1 => ?_)
  · replace hf := ift hf c1
    refine lv_iconst (v := 0) hx hb dX6_failed_12 (by decide) ?_
    exact hQf rfl hf hM hS dX6_failed_13
  · replace hf := iff_ hf c1
    refine lv_iconst (v := 1) hx hb dX6_failed_8 (by decide) ?_
    refine lv_goto (tgt := 13) hx hb dX6_failed_9 (by decide) ?_
    exact hQf rfl hf hM hS dX6_failed_13
