abbrev rX3_copyFrom : Room := { frames := 0, cells := 0, slots := 0, locals := 0 }
set_option maxRecDepth 100000 in
set_option maxHeartbeats 4000000 in
theorem kX3_copyFrom (l : Launch) (G : zG) (A : Nat → Prop) (V : zV3) (g : Nat) (hg : g < 7) (w : Nat) (hw : w < 2) (g2 : Nat) (hg2 : g2 < 7) (w2 : Nat) (hw2 : w2 < 2) {r : Unit} {V' : zV3} (hf : xX3_copyFrom g w g2 w2 V  = some (r, V')) : zCt l G A yX3_copyFrom cX3_copyFrom 3 none rX3_copyFrom [.ref (gA G 3 g w), .ref (gA G 3 g2 w2)] V none V' := by
  refine z_CtV (by decide) (Nat.le_of_ble_eq_true rfl) ?_
  intro p e s m args below meth c Q hx hb hml hown hL hK hM hS hQ ls hl
  replace hl : lv_has ls 3 [(0, .ref (gA G 3 g w)), (1, .ref (gA G 3 g2 w2))] := hl
  have hQf : ∀ {a : Unit} {k : zV3} {H : Heap} {locs : List Loc} {pc : Nat} {ls : Array Slot}, some (a, k) = some (r, V') → zM G k H → va_S A s.heap H locs → decode cX3_copyFrom pc = .ok (.return_, 1) → W p l e rX3_copyFrom s m args below meth c H locs 0 0 Q (F0 m pc ls []) := by
    intro a k H locs pc ls e1 hM hS hd
    cases e1
    exact hQ H locs pc ls hM hS hd
  have L2 : ∀ (n : Nat) (V : zV3) (a2 : Int32), xX3_copyFrom_L2 g w g2 w2 n V a2 = some (r, V') → ∀ (H : Heap) (locs : List Loc) (ls : Array Slot), zM G V H → va_S A s.heap H locs → lv_has ls 3 [(0, .ref (gA G 3 g w)), (1, .ref (gA G 3 g2 w2)), (2, .int a2)] → W p l e rX3_copyFrom s m args below meth c H locs 0 0 Q (F0 m 2 ls []) := by
    intro n
    induction n with
    | zero =>
      intro V a2 hf H locs ls hM hS hl
      rw [xX3_copyFrom_L2] at hf
      cases hf
    | succ n ih =>
      intro V a2 hf H locs ls hM hS hl
      rw [xX3_copyFrom_L2] at hf
      refine lv_iload_n hx hb dX3_copyFrom_2 rfl (lv_at hl 2 rfl) ?_
      refine lv_bipush (v := 10) hx hb dX3_copyFrom_3 (by decide) ?_
      refine lv_icmp_ge (tgt := 38) hx hb dX3_copyFrom_5 (by decide) (fun c1 => ?_) (fun c1 => ?_)
      · replace hf := ift hf c1
        refine lv_aload_n hx hb dX3_copyFrom_38 rfl (lv_at hl 0 rfl) ?_
        refine lv_aload_n hx hb dX3_copyFrom_39 rfl (lv_at hl 1 rfl) ?_
        refine z_get (own := RX3) (C := RX3) (T := TX3) (N := 3) (ci := 2) (v := .int (V g2 (23 + w2) 0)) hx hb hL inX3 hown hK hM (dm_3 (g := g2) (i := w2) hg2 hw2) (zd_3 G V g2 w2) rfl 2 (by decide) (hL _ zw1_44) rfl rfl dX3_copyFrom_40 ?_
        obtain ⟨V2, eV2⟩ : ∃ y, y = upG V g (up2 (V g) (23 + w) 0 (V g2 (23 + w2) 0)) := ⟨_, rfl⟩
        replace hf := put3_some hf eV2
        refine z_put (own := RX3) (C := RX3) (T := TX3) (N := 3) (ci := 2) (V' := V2) hx hb hL inX3 tyX3 tyX3_ok nmX3 hown hK hM hS (dm_3 (g := g) (i := w) hg hw) (zd_3 G V g w) rfl 2 (by decide) (hL _ zw1_44) rfl rfl rfl rfl (Nat.le_of_ble_eq_true rfl) (by rw [eV2]; exact zm_3_23 G V g hg w hw (V g2 (23 + w2) 0)) dX3_copyFrom_43 (fun H locs hM hS => ?_)
        exact hQf hf hM hS dX3_copyFrom_46
      · replace hf := iff_ hf c1
        refine lv_aload_n hx hb dX3_copyFrom_8 rfl (lv_at hl 0 rfl) ?_
        refine z_get (own := RX3) (C := RX3) (T := TX3) (N := 3) (ci := 2) (v := .ref (gA G 6 g w)) hx hb hL inX3 hown hK hM (dm_3 (g := g) (i := w) hg hw) (zd_3 G V g w) rfl 0 (by decide) (hL _ zw1_42) rfl rfl dX3_copyFrom_9 ?_
        refine lv_iload_n hx hb dX3_copyFrom_12 rfl (lv_at hl 2 rfl) ?_
        refine lv_aload_n hx hb dX3_copyFrom_13 rfl (lv_at hl 1 rfl) ?_
        refine z_get (own := RX3) (C := RX3) (T := TX3) (N := 3) (ci := 2) (v := .ref (gA G 6 g2 w2)) hx hb hL inX3 hown hK hM (dm_3 (g := g2) (i := w2) hg2 hw2) (zd_3 G V g2 w2) rfl 0 (by decide) (hL _ zw1_42) rfl rfl dX3_copyFrom_14 ?_
        refine lv_iload_n hx hb dX3_copyFrom_17 rfl (lv_at hl 2 rfl) ?_
        obtain ⟨hb3, hf⟩ := grd_some hf
        refine z_iald hx hb hK hM (dm_6 (g := g2) (i := w2) hg2 hw2) (zd_6 G V g2 w2) (inb_in hb3) dX3_copyFrom_18 ?_
        obtain ⟨hb4, hf⟩ := grd_some hf
        obtain ⟨V5, eV5⟩ : ∃ y, y = upG V g (up2 (V g) (19 + w) a2.toNatClampNeg (V g2 (19 + w2) a2.toNatClampNeg)) := ⟨_, rfl⟩
        replace hf := put3_some hf eV5
        refine z_iast (V' := V5) hx hb hK hM hS (dm_6 (g := g) (i := w) hg hw) (zd_6 G V g w) (inb_in hb4) (by rw [eV5]; exact zm_6_19 G V g hg w hw a2.toNatClampNeg (V g2 (19 + w2) a2.toNatClampNeg)) dX3_copyFrom_19 (fun H locs hM hS => ?_)
        refine lv_aload_n hx hb dX3_copyFrom_20 rfl (lv_at hl 0 rfl) ?_
        refine z_get (own := RX3) (C := RX3) (T := TX3) (N := 3) (ci := 2) (v := .ref (gA G 7 g w)) hx hb hL inX3 hown hK hM (dm_3 (g := g) (i := w) hg hw) (zd_3 G V5 g w) rfl 1 (by decide) (hL _ zw1_43) rfl rfl dX3_copyFrom_21 ?_
        refine lv_iload_n hx hb dX3_copyFrom_24 rfl (lv_at hl 2 rfl) ?_
        refine lv_aload_n hx hb dX3_copyFrom_25 rfl (lv_at hl 1 rfl) ?_
        refine z_get (own := RX3) (C := RX3) (T := TX3) (N := 3) (ci := 2) (v := .ref (gA G 7 g2 w2)) hx hb hL inX3 hown hK hM (dm_3 (g := g2) (i := w2) hg2 hw2) (zd_3 G V5 g2 w2) rfl 1 (by decide) (hL _ zw1_43) rfl rfl dX3_copyFrom_26 ?_
        refine lv_iload_n hx hb dX3_copyFrom_29 rfl (lv_at hl 2 rfl) ?_
        obtain ⟨hb6, hf⟩ := grd_some hf
        refine z_iald hx hb hK hM (dm_7 (g := g2) (i := w2) hg2 hw2) (zd_7 G V5 g2 w2) (inb_in hb6) dX3_copyFrom_30 ?_
        obtain ⟨hb7, hf⟩ := grd_some hf
        obtain ⟨V8, eV8⟩ : ∃ y, y = upG V5 g (up2 (V5 g) (21 + w) a2.toNatClampNeg (V5 g2 (21 + w2) a2.toNatClampNeg)) := ⟨_, rfl⟩
        replace hf := put3_some hf eV8
        refine z_iast (V' := V8) hx hb hK hM hS (dm_7 (g := g) (i := w) hg hw) (zd_7 G V5 g w) (inb_in hb7) (by rw [eV8]; exact zm_7_21 G V5 g hg w hw a2.toNatClampNeg (V5 g2 (21 + w2) a2.toNatClampNeg)) dX3_copyFrom_31 (fun H locs hM hS => ?_)
        obtain ⟨y9, ey9⟩ : ∃ y : Int32, y = a2 + (1 : Int32) := ⟨_, rfl⟩
        replace hf := ltI_some hf ey9
        refine lv_iinc (v := y9) (lv' := [(2, .int y9), (0, .ref (gA G 3 g w)), (1, .ref (gA G 3 g2 w2))]) hx hb dX3_copyFrom_32 hl (k := 2) rfl (by rw [ey9]; rfl) (by decide) rfl (fun ls hl => ?_)
        refine lv_goto (tgt := 2) hx hb dX3_copyFrom_35 (by decide) ?_
        exact ih V8 y9 hf _ _ _ hM hS (lv_sub hl [1, 2, 0] rfl)
  unfold xX3_copyFrom at hf
  refine lv_iconst (v := 0) hx hb dX3_copyFrom_0 (by decide) ?_
  refine lv_istore_n (lv' := [(2, .int (0 : Int32)), (0, .ref (gA G 3 g w)), (1, .ref (gA G 3 g2 w2))]) hx hb dX3_copyFrom_1 rfl hl (by decide) rfl (fun ls hl => ?_)
  exact L2 1000 V (0 : Int32) hf _ _ _ hM hS (lv_sub hl [1, 2, 0] rfl)
abbrev rX4_copyFrom : Room := { frames := 0, cells := 0, slots := 0, locals := 0 }
set_option maxRecDepth 100000 in
set_option maxHeartbeats 4000000 in
theorem kX4_copyFrom (l : Launch) (G : zG) (A : Nat → Prop) (V : zV3) (g : Nat) (hg : g < 7) (i : Nat) (hi : i < 12) (g2 : Nat) (hg2 : g2 < 7) (n1 : Nat) (hn1 : n1 < 12) {r : Unit} {V' : zV3} (hf : xX4_copyFrom g i g2 n1 V  = some (r, V')) : zCt l G A yX4_copyFrom cX4_copyFrom 2 none rX4_copyFrom [.ref (gA G 8 g i), .ref (gA G 8 g2 n1)] V none V' := by
  refine z_CtV (by decide) (Nat.le_of_ble_eq_true rfl) ?_
  intro p e s m args below meth c Q hx hb hml hown hL hK hM hS hQ ls hl
  replace hl : lv_has ls 2 [(0, .ref (gA G 8 g i)), (1, .ref (gA G 8 g2 n1))] := hl
  have hQf : ∀ {a : Unit} {k : zV3} {H : Heap} {locs : List Loc} {pc : Nat} {ls : Array Slot}, some (a, k) = some (r, V') → zM G k H → va_S A s.heap H locs → decode cX4_copyFrom pc = .ok (.return_, 1) → W p l e rX4_copyFrom s m args below meth c H locs 0 0 Q (F0 m pc ls []) := by
    intro a k H locs pc ls e1 hM hS hd
    cases e1
    exact hQ H locs pc ls hM hS hd
  unfold xX4_copyFrom at hf
  refine lv_aload_n hx hb dX4_copyFrom_0 rfl (lv_at hl 0 rfl) ?_
  refine lv_aload_n hx hb dX4_copyFrom_1 rfl (lv_at hl 1 rfl) ?_
  refine z_get (own := RX4) (C := RX4) (T := TX4) (N := 7) (ci := 3) (v := .int (V g2 0 n1)) hx hb hL inX4 hown hK hM (dm_8 (g := g2) (i := n1) hg2 hn1) (zd_8 G V g2 n1) rfl 1 (by decide) (hL _ zw1_62) rfl rfl dX4_copyFrom_2 ?_
  obtain ⟨V1, eV1⟩ : ∃ y, y = upG V g (up2 (V g) 0 i (V g2 0 n1)) := ⟨_, rfl⟩
  replace hf := put3_some hf eV1
  refine z_put (own := RX4) (C := RX4) (T := TX4) (N := 7) (ci := 3) (V' := V1) hx hb hL inX4 tyX4 tyX4_ok nmX4 hown hK hM hS (dm_8 (g := g) (i := i) hg hi) (zd_8 G V g i) rfl 1 (by decide) (hL _ zw1_62) rfl rfl rfl rfl (Nat.le_of_ble_eq_true rfl) (by rw [eV1]; exact zm_8_0 G V g hg i (V g2 0 n1)) dX4_copyFrom_5 (fun H locs hM hS => ?_)
  refine lv_aload_n hx hb dX4_copyFrom_8 rfl (lv_at hl 0 rfl) ?_
  refine lv_aload_n hx hb dX4_copyFrom_9 rfl (lv_at hl 1 rfl) ?_
  refine z_get (own := RX4) (C := RX4) (T := TX4) (N := 7) (ci := 3) (v := .int (V1 g2 1 n1)) hx hb hL inX4 hown hK hM (dm_8 (g := g2) (i := n1) hg2 hn1) (zd_8 G V1 g2 n1) rfl 2 (by decide) (hL _ zw1_64) rfl rfl dX4_copyFrom_10 ?_
  obtain ⟨hb2, hf⟩ := grd_some hf
  obtain ⟨V3, eV3⟩ : ∃ y, y = upG V1 g (up2 (V1 g) 1 i (V1 g2 1 n1)) := ⟨_, rfl⟩
  replace hf := put3_some hf eV3
  refine z_put (own := RX4) (C := RX4) (T := TX4) (N := 7) (ci := 3) (V' := V3) hx hb hL inX4 tyX4 tyX4_ok nmX4 hown hK hM hS (dm_8 (g := g) (i := i) hg hi) (zd_8 G V1 g i) rfl 2 (by decide) (hL _ zw1_64) rfl rfl (isb_z hb2) (isb_f hb2) (Nat.le_of_ble_eq_true rfl) (by rw [eV3]; exact zm_8_1 G V1 g hg i (V1 g2 1 n1)) dX4_copyFrom_13 (fun H locs hM hS => ?_)
  refine lv_aload_n hx hb dX4_copyFrom_16 rfl (lv_at hl 0 rfl) ?_
  refine lv_aload_n hx hb dX4_copyFrom_17 rfl (lv_at hl 1 rfl) ?_
  refine z_get (own := RX4) (C := RX4) (T := TX4) (N := 7) (ci := 3) (v := .int (V3 g2 2 n1)) hx hb hL inX4 hown hK hM (dm_8 (g := g2) (i := n1) hg2 hn1) (zd_8 G V3 g2 n1) rfl 3 (by decide) (hL _ zw1_66) rfl rfl dX4_copyFrom_18 ?_
  obtain ⟨V4, eV4⟩ : ∃ y, y = upG V3 g (up2 (V3 g) 2 i (V3 g2 2 n1)) := ⟨_, rfl⟩
  replace hf := put3_some hf eV4
  refine z_put (own := RX4) (C := RX4) (T := TX4) (N := 7) (ci := 3) (V' := V4) hx hb hL inX4 tyX4 tyX4_ok nmX4 hown hK hM hS (dm_8 (g := g) (i := i) hg hi) (zd_8 G V3 g i) rfl 3 (by decide) (hL _ zw1_66) rfl rfl rfl rfl (Nat.le_of_ble_eq_true rfl) (by rw [eV4]; exact zm_8_2 G V3 g hg i (V3 g2 2 n1)) dX4_copyFrom_21 (fun H locs hM hS => ?_)
  refine lv_aload_n hx hb dX4_copyFrom_24 rfl (lv_at hl 0 rfl) ?_
  refine lv_aload_n hx hb dX4_copyFrom_25 rfl (lv_at hl 1 rfl) ?_
  refine z_get (own := RX4) (C := RX4) (T := TX4) (N := 7) (ci := 3) (v := .int (V4 g2 3 n1)) hx hb hL inX4 hown hK hM (dm_8 (g := g2) (i := n1) hg2 hn1) (zd_8 G V4 g2 n1) rfl 4 (by decide) (hL _ zw1_68) rfl rfl dX4_copyFrom_26 ?_
  obtain ⟨hb5, hf⟩ := grd_some hf
  obtain ⟨V6, eV6⟩ : ∃ y, y = upG V4 g (up2 (V4 g) 3 i (V4 g2 3 n1)) := ⟨_, rfl⟩
  replace hf := put3_some hf eV6
  refine z_put (own := RX4) (C := RX4) (T := TX4) (N := 7) (ci := 3) (V' := V6) hx hb hL inX4 tyX4 tyX4_ok nmX4 hown hK hM hS (dm_8 (g := g) (i := i) hg hi) (zd_8 G V4 g i) rfl 4 (by decide) (hL _ zw1_68) rfl rfl (isb_z hb5) (isb_f hb5) (Nat.le_of_ble_eq_true rfl) (by rw [eV6]; exact zm_8_3 G V4 g hg i (V4 g2 3 n1)) dX4_copyFrom_29 (fun H locs hM hS => ?_)
  refine lv_aload_n hx hb dX4_copyFrom_32 rfl (lv_at hl 0 rfl) ?_
  refine lv_aload_n hx hb dX4_copyFrom_33 rfl (lv_at hl 1 rfl) ?_
  refine z_get (own := RX4) (C := RX4) (T := TX4) (N := 7) (ci := 3) (v := .int (V6 g2 4 n1)) hx hb hL inX4 hown hK hM (dm_8 (g := g2) (i := n1) hg2 hn1) (zd_8 G V6 g2 n1) rfl 5 (by decide) (hL _ zw1_70) rfl rfl dX4_copyFrom_34 ?_
  obtain ⟨V7, eV7⟩ : ∃ y, y = upG V6 g (up2 (V6 g) 4 i (V6 g2 4 n1)) := ⟨_, rfl⟩
  replace hf := put3_some hf eV7
  refine z_put (own := RX4) (C := RX4) (T := TX4) (N := 7) (ci := 3) (V' := V7) hx hb hL inX4 tyX4 tyX4_ok nmX4 hown hK hM hS (dm_8 (g := g) (i := i) hg hi) (zd_8 G V6 g i) rfl 5 (by decide) (hL _ zw1_70) rfl rfl rfl rfl (Nat.le_of_ble_eq_true rfl) (by rw [eV7]; exact zm_8_4 G V6 g hg i (V6 g2 4 n1)) dX4_copyFrom_37 (fun H locs hM hS => ?_)
  refine lv_aload_n hx hb dX4_copyFrom_40 rfl (lv_at hl 0 rfl) ?_
  refine lv_aload_n hx hb dX4_copyFrom_41 rfl (lv_at hl 1 rfl) ?_
  refine z_get (own := RX4) (C := RX4) (T := TX4) (N := 7) (ci := 3) (v := .int (V7 g2 5 n1)) hx hb hL inX4 hown hK hM (dm_8 (g := g2) (i := n1) hg2 hn1) (zd_8 G V7 g2 n1) rfl 6 (by decide) (hL _ zw1_72) rfl rfl dX4_copyFrom_42 ?_
  obtain ⟨V8, eV8⟩ : ∃ y, y = upG V7 g (up2 (V7 g) 5 i (V7 g2 5 n1)) := ⟨_, rfl⟩
  replace hf := put3_some hf eV8
  refine z_put (own := RX4) (C := RX4) (T := TX4) (N := 7) (ci := 3) (V' := V8) hx hb hL inX4 tyX4 tyX4_ok nmX4 hown hK hM hS (dm_8 (g := g) (i := i) hg hi) (zd_8 G V7 g i) rfl 6 (by decide) (hL _ zw1_72) rfl rfl rfl rfl (Nat.le_of_ble_eq_true rfl) (by rw [eV8]; exact zm_8_5 G V7 g hg i (V7 g2 5 n1)) dX4_copyFrom_45 (fun H locs hM hS => ?_)
  exact hQf hf hM hS dX4_copyFrom_48
abbrev rX5_copyFrom : Room := { frames := 0, cells := 0, slots := 0, locals := 0 }
set_option maxRecDepth 100000 in
set_option maxHeartbeats 4000000 in
theorem kX5_copyFrom (l : Launch) (G : zG) (A : Nat → Prop) (V : zV3) (g : Nat) (hg : g < 7) (i : Nat) (hi : i < 10) (g2 : Nat) (hg2 : g2 < 7) (n1 : Nat) (hn1 : n1 < 10) {r : Unit} {V' : zV3} (hf : xX5_copyFrom g i g2 n1 V  = some (r, V')) : zCt l G A yX5_copyFrom cX5_copyFrom 2 none rX5_copyFrom [.ref (gA G 9 g i), .ref (gA G 9 g2 n1)] V none V' := by
  refine z_CtV (by decide) (Nat.le_of_ble_eq_true rfl) ?_
  intro p e s m args below meth c Q hx hb hml hown hL hK hM hS hQ ls hl
  replace hl : lv_has ls 2 [(0, .ref (gA G 9 g i)), (1, .ref (gA G 9 g2 n1))] := hl
  have hQf : ∀ {a : Unit} {k : zV3} {H : Heap} {locs : List Loc} {pc : Nat} {ls : Array Slot}, some (a, k) = some (r, V') → zM G k H → va_S A s.heap H locs → decode cX5_copyFrom pc = .ok (.return_, 1) → W p l e rX5_copyFrom s m args below meth c H locs 0 0 Q (F0 m pc ls []) := by
    intro a k H locs pc ls e1 hM hS hd
    cases e1
    exact hQ H locs pc ls hM hS hd
  unfold xX5_copyFrom at hf
  refine lv_aload_n hx hb dX5_copyFrom_0 rfl (lv_at hl 0 rfl) ?_
  refine lv_aload_n hx hb dX5_copyFrom_1 rfl (lv_at hl 1 rfl) ?_
  refine z_get (own := RX5) (C := RX5) (T := TX5) (N := 8) (ci := 4) (v := .int (V g2 6 n1)) hx hb hL inX5 hown hK hM (dm_9 (g := g2) (i := n1) hg2 hn1) (zd_9 G V g2 n1) rfl 1 (by decide) (hL _ zw1_96) rfl rfl dX5_copyFrom_2 ?_
  obtain ⟨V1, eV1⟩ : ∃ y, y = upG V g (up2 (V g) 6 i (V g2 6 n1)) := ⟨_, rfl⟩
  replace hf := put3_some hf eV1
  refine z_put (own := RX5) (C := RX5) (T := TX5) (N := 8) (ci := 4) (V' := V1) hx hb hL inX5 tyX5 tyX5_ok nmX5 hown hK hM hS (dm_9 (g := g) (i := i) hg hi) (zd_9 G V g i) rfl 1 (by decide) (hL _ zw1_96) rfl rfl rfl rfl (Nat.le_of_ble_eq_true rfl) (by rw [eV1]; exact zm_9_6 G V g hg i (V g2 6 n1)) dX5_copyFrom_5 (fun H locs hM hS => ?_)
  refine lv_aload_n hx hb dX5_copyFrom_8 rfl (lv_at hl 0 rfl) ?_
  refine lv_aload_n hx hb dX5_copyFrom_9 rfl (lv_at hl 1 rfl) ?_
  refine z_get (own := RX5) (C := RX5) (T := TX5) (N := 8) (ci := 4) (v := .int (V1 g2 7 n1)) hx hb hL inX5 hown hK hM (dm_9 (g := g2) (i := n1) hg2 hn1) (zd_9 G V1 g2 n1) rfl 2 (by decide) (hL _ zw1_98) rfl rfl dX5_copyFrom_10 ?_
  obtain ⟨V2, eV2⟩ : ∃ y, y = upG V1 g (up2 (V1 g) 7 i (V1 g2 7 n1)) := ⟨_, rfl⟩
  replace hf := put3_some hf eV2
  refine z_put (own := RX5) (C := RX5) (T := TX5) (N := 8) (ci := 4) (V' := V2) hx hb hL inX5 tyX5 tyX5_ok nmX5 hown hK hM hS (dm_9 (g := g) (i := i) hg hi) (zd_9 G V1 g i) rfl 2 (by decide) (hL _ zw1_98) rfl rfl rfl rfl (Nat.le_of_ble_eq_true rfl) (by rw [eV2]; exact zm_9_7 G V1 g hg i (V1 g2 7 n1)) dX5_copyFrom_13 (fun H locs hM hS => ?_)
  refine lv_aload_n hx hb dX5_copyFrom_16 rfl (lv_at hl 0 rfl) ?_
  refine lv_aload_n hx hb dX5_copyFrom_17 rfl (lv_at hl 1 rfl) ?_
  refine z_get (own := RX5) (C := RX5) (T := TX5) (N := 8) (ci := 4) (v := .int (V2 g2 8 n1)) hx hb hL inX5 hown hK hM (dm_9 (g := g2) (i := n1) hg2 hn1) (zd_9 G V2 g2 n1) rfl 3 (by decide) (hL _ zw1_100) rfl rfl dX5_copyFrom_18 ?_
  obtain ⟨V3, eV3⟩ : ∃ y, y = upG V2 g (up2 (V2 g) 8 i (V2 g2 8 n1)) := ⟨_, rfl⟩
  replace hf := put3_some hf eV3
  refine z_put (own := RX5) (C := RX5) (T := TX5) (N := 8) (ci := 4) (V' := V3) hx hb hL inX5 tyX5 tyX5_ok nmX5 hown hK hM hS (dm_9 (g := g) (i := i) hg hi) (zd_9 G V2 g i) rfl 3 (by decide) (hL _ zw1_100) rfl rfl rfl rfl (Nat.le_of_ble_eq_true rfl) (by rw [eV3]; exact zm_9_8 G V2 g hg i (V2 g2 8 n1)) dX5_copyFrom_21 (fun H locs hM hS => ?_)
  refine lv_aload_n hx hb dX5_copyFrom_24 rfl (lv_at hl 0 rfl) ?_
  refine lv_aload_n hx hb dX5_copyFrom_25 rfl (lv_at hl 1 rfl) ?_
  refine z_get (own := RX5) (C := RX5) (T := TX5) (N := 8) (ci := 4) (v := .int (V3 g2 9 n1)) hx hb hL inX5 hown hK hM (dm_9 (g := g2) (i := n1) hg2 hn1) (zd_9 G V3 g2 n1) rfl 4 (by decide) (hL _ zw1_103) rfl rfl dX5_copyFrom_26 ?_
  obtain ⟨V4, eV4⟩ : ∃ y, y = upG V3 g (up2 (V3 g) 9 i (V3 g2 9 n1)) := ⟨_, rfl⟩
  replace hf := put3_some hf eV4
  refine z_put (own := RX5) (C := RX5) (T := TX5) (N := 8) (ci := 4) (V' := V4) hx hb hL inX5 tyX5 tyX5_ok nmX5 hown hK hM hS (dm_9 (g := g) (i := i) hg hi) (zd_9 G V3 g i) rfl 4 (by decide) (hL _ zw1_103) rfl rfl rfl rfl (Nat.le_of_ble_eq_true rfl) (by rw [eV4]; exact zm_9_9 G V3 g hg i (V3 g2 9 n1)) dX5_copyFrom_29 (fun H locs hM hS => ?_)
  refine lv_aload_n hx hb dX5_copyFrom_32 rfl (lv_at hl 0 rfl) ?_
  refine lv_aload_n hx hb dX5_copyFrom_33 rfl (lv_at hl 1 rfl) ?_
  refine z_get (own := RX5) (C := RX5) (T := TX5) (N := 8) (ci := 4) (v := .int (V4 g2 10 n1)) hx hb hL inX5 hown hK hM (dm_9 (g := g2) (i := n1) hg2 hn1) (zd_9 G V4 g2 n1) rfl 5 (by decide) (hL _ zw1_105) rfl rfl dX5_copyFrom_34 ?_
  obtain ⟨V5, eV5⟩ : ∃ y, y = upG V4 g (up2 (V4 g) 10 i (V4 g2 10 n1)) := ⟨_, rfl⟩
  replace hf := put3_some hf eV5
  refine z_put (own := RX5) (C := RX5) (T := TX5) (N := 8) (ci := 4) (V' := V5) hx hb hL inX5 tyX5 tyX5_ok nmX5 hown hK hM hS (dm_9 (g := g) (i := i) hg hi) (zd_9 G V4 g i) rfl 5 (by decide) (hL _ zw1_105) rfl rfl rfl rfl (Nat.le_of_ble_eq_true rfl) (by rw [eV5]; exact zm_9_10 G V4 g hg i (V4 g2 10 n1)) dX5_copyFrom_37 (fun H locs hM hS => ?_)
  refine lv_aload_n hx hb dX5_copyFrom_40 rfl (lv_at hl 0 rfl) ?_
  refine lv_aload_n hx hb dX5_copyFrom_41 rfl (lv_at hl 1 rfl) ?_
  refine z_get (own := RX5) (C := RX5) (T := TX5) (N := 8) (ci := 4) (v := .int (V5 g2 11 n1)) hx hb hL inX5 hown hK hM (dm_9 (g := g2) (i := n1) hg2 hn1) (zd_9 G V5 g2 n1) rfl 6 (by decide) (hL _ zw1_107) rfl rfl dX5_copyFrom_42 ?_
  obtain ⟨V6, eV6⟩ : ∃ y, y = upG V5 g (up2 (V5 g) 11 i (V5 g2 11 n1)) := ⟨_, rfl⟩
  replace hf := put3_some hf eV6
  refine z_put (own := RX5) (C := RX5) (T := TX5) (N := 8) (ci := 4) (V' := V6) hx hb hL inX5 tyX5 tyX5_ok nmX5 hown hK hM hS (dm_9 (g := g) (i := i) hg hi) (zd_9 G V5 g i) rfl 6 (by decide) (hL _ zw1_107) rfl rfl rfl rfl (Nat.le_of_ble_eq_true rfl) (by rw [eV6]; exact zm_9_11 G V5 g hg i (V5 g2 11 n1)) dX5_copyFrom_45 (fun H locs hM hS => ?_)
  refine lv_aload_n hx hb dX5_copyFrom_48 rfl (lv_at hl 0 rfl) ?_
  refine lv_aload_n hx hb dX5_copyFrom_49 rfl (lv_at hl 1 rfl) ?_
  refine z_get (own := RX5) (C := RX5) (T := TX5) (N := 8) (ci := 4) (v := .int (V6 g2 12 n1)) hx hb hL inX5 hown hK hM (dm_9 (g := g2) (i := n1) hg2 hn1) (zd_9 G V6 g2 n1) rfl 7 (by decide) (hL _ zw1_109) rfl rfl dX5_copyFrom_50 ?_
  obtain ⟨V7, eV7⟩ : ∃ y, y = upG V6 g (up2 (V6 g) 12 i (V6 g2 12 n1)) := ⟨_, rfl⟩
  replace hf := put3_some hf eV7
  refine z_put (own := RX5) (C := RX5) (T := TX5) (N := 8) (ci := 4) (V' := V7) hx hb hL inX5 tyX5 tyX5_ok nmX5 hown hK hM hS (dm_9 (g := g) (i := i) hg hi) (zd_9 G V6 g i) rfl 7 (by decide) (hL _ zw1_109) rfl rfl rfl rfl (Nat.le_of_ble_eq_true rfl) (by rw [eV7]; exact zm_9_12 G V6 g hg i (V6 g2 12 n1)) dX5_copyFrom_53 (fun H locs hM hS => ?_)
  exact hQf hf hM hS dX5_copyFrom_56
abbrev rX1_copyFrom : Room := { frames := 1, cells := 0, slots := 0, locals := 22 }
set_option maxRecDepth 100000 in
set_option maxHeartbeats 4000000 in
theorem kX1_copyFrom (l : Launch) (G : zG) (A : Nat → Prop) (V : zV3) (g : Nat) (hg : g < 7) (g2 : Nat) (hg2 : g2 < 7) {r : Unit} {V' : zV3} (hf : xX1_copyFrom g g2 V  = some (r, V')) : zCt l G A yX1_copyFrom cX1_copyFrom 3 none rX1_copyFrom [.ref (gA G 0 g 0), .ref (gA G 0 g2 0)] V none V' := by
  refine z_CtV (by decide) (Nat.le_of_ble_eq_true rfl) ?_
  intro p e s m args below meth c Q hx hb hml hown hL hK hM hS hQ ls hl
  replace hl : lv_has ls 3 [(0, .ref (gA G 0 g 0)), (1, .ref (gA G 0 g2 0))] := hl
  have hQf : ∀ {a : Unit} {k : zV3} {H : Heap} {locs : List Loc} {pc : Nat} {ls : Array Slot}, some (a, k) = some (r, V') → zM G k H → va_S A s.heap H locs → decode cX1_copyFrom pc = .ok (.return_, 1) → W p l e rX1_copyFrom s m args below meth c H locs 0 0 Q (F0 m pc ls []) := by
    intro a k H locs pc ls e1 hM hS hd
    cases e1
    exact hQ H locs pc ls hM hS hd
  have L60 : ∀ (n : Nat) (V : zV3) (a2 : Int32), xX1_copyFrom_L60 g g2 n V a2 = some (r, V') → ∀ (H : Heap) (locs : List Loc) (ls : Array Slot), zM G V H → va_S A s.heap H locs → lv_has ls 3 [(0, .ref (gA G 0 g 0)), (1, .ref (gA G 0 g2 0)), (2, .int a2)] → W p l e rX1_copyFrom s m args below meth c H locs 0 0 Q (F0 m 60 ls []) := by
    intro n
    induction n with
    | zero =>
      intro V a2 hf H locs ls hM hS hl
      rw [xX1_copyFrom_L60] at hf
      cases hf
    | succ n ih =>
      intro V a2 hf H locs ls hM hS hl
      rw [xX1_copyFrom_L60] at hf
      refine lv_iload_n hx hb dX1_copyFrom_60 rfl (lv_at hl 2 rfl) ?_
      refine lv_iconst (v := 3) hx hb dX1_copyFrom_61 (by decide) ?_
      refine lv_icmp_ge (tgt := 83) hx hb dX1_copyFrom_62 (by decide) (fun c1 => ?_) (fun c1 => ?_)
      · replace hf := ift hf c1
        refine lv_aload_n hx hb dX1_copyFrom_83 rfl (lv_at hl 0 rfl) ?_
        refine z_get (own := RX1) (C := RX1) (T := TX1) (N := 10) (ci := 0) (v := .ref (gA G 3 g 0)) hx hb hL inX1 hown hK hM (dm_0 (g := g) (i := 0) hg rfl) (zd_0 G V g 0) rfl 2 (by decide) (hL _ zw1_130) rfl rfl dX1_copyFrom_84 ?_
        refine lv_aload_n hx hb dX1_copyFrom_87 rfl (lv_at hl 1 rfl) ?_
        refine z_get (own := RX1) (C := RX1) (T := TX1) (N := 10) (ci := 0) (v := .ref (gA G 3 g2 0)) hx hb hL inX1 hown hK hM (dm_0 (g := g2) (i := 0) hg2 rfl) (zd_0 G V g2 0) rfl 2 (by decide) (hL _ zw1_130) rfl rfl dX1_copyFrom_88 ?_
        obtain ⟨r2, V4, hc3, hf⟩ := bnd_some hf
        refine z_callV (As := [.ref (gA G 3 g2 0)]) (rest := []) (C := RX3) hx hb hml hown hL hK hM hS (kX3_copyFrom l G A V g hg 0 (by decide) g2 hg2 0 (by decide) hc3) (zg_X3_copyFrom zw2_41) zv_X3_copyFrom ⟨rfl, rfl⟩ ⟨Nat.le_of_ble_eq_true rfl, Nat.le_of_ble_eq_true rfl⟩ (hM.recv hK (dm_3 (g := g) (i := 0) hg (by decide)) (zd_3 G V g 0) rfl) rfl hl.1 rfl (Nat.le_of_ble_eq_true rfl) dX1_copyFrom_91 ⟨Nat.zero_le _, Nat.zero_le _⟩ (fun H locs hM hS => ?_)
        refine W.eq (g2 := F0 m 94 ls []) rfl ?_
        refine lv_aload_n hx hb dX1_copyFrom_94 rfl (lv_at hl 0 rfl) ?_
        refine z_get (own := RX1) (C := RX1) (T := TX1) (N := 10) (ci := 0) (v := .ref (gA G 3 g 1)) hx hb hL inX1 hown hK hM (dm_0 (g := g) (i := 0) hg rfl) (zd_0 G V4 g 0) rfl 3 (by decide) (hL _ zw1_132) rfl rfl dX1_copyFrom_95 ?_
        refine lv_aload_n hx hb dX1_copyFrom_98 rfl (lv_at hl 1 rfl) ?_
        refine z_get (own := RX1) (C := RX1) (T := TX1) (N := 10) (ci := 0) (v := .ref (gA G 3 g2 1)) hx hb hL inX1 hown hK hM (dm_0 (g := g2) (i := 0) hg2 rfl) (zd_0 G V4 g2 0) rfl 3 (by decide) (hL _ zw1_132) rfl rfl dX1_copyFrom_99 ?_
        obtain ⟨r5, V7, hc6, hf⟩ := bnd_some hf
        refine z_callV (As := [.ref (gA G 3 g2 1)]) (rest := []) (C := RX3) hx hb hml hown hL hK hM hS (kX3_copyFrom l G A V4 g hg 1 (by decide) g2 hg2 1 (by decide) hc6) (zg_X3_copyFrom zw2_41) zv_X3_copyFrom ⟨rfl, rfl⟩ ⟨Nat.le_of_ble_eq_true rfl, Nat.le_of_ble_eq_true rfl⟩ (hM.recv hK (dm_3 (g := g) (i := 1) hg (by decide)) (zd_3 G V4 g 1) rfl) rfl hl.1 rfl (Nat.le_of_ble_eq_true rfl) dX1_copyFrom_102 ⟨Nat.zero_le _, Nat.zero_le _⟩ (fun H locs hM hS => ?_)
        refine W.eq (g2 := F0 m 105 ls []) rfl ?_
        refine lv_aload_n hx hb dX1_copyFrom_105 rfl (lv_at hl 0 rfl) ?_
        refine lv_aload_n hx hb dX1_copyFrom_106 rfl (lv_at hl 1 rfl) ?_
        refine z_get (own := RX1) (C := RX1) (T := TX1) (N := 10) (ci := 0) (v := .int (V7 g2 13 0)) hx hb hL inX1 hown hK hM (dm_0 (g := g2) (i := 0) hg2 rfl) (zd_0 G V7 g2 0) rfl 6 (by decide) (hL _ zw1_135) rfl rfl dX1_copyFrom_107 ?_
        obtain ⟨V8, eV8⟩ : ∃ y, y = upG V7 g (up2 (V7 g) 13 0 (V7 g2 13 0)) := ⟨_, rfl⟩
        replace hf := put3_some hf eV8
        refine z_put (own := RX1) (C := RX1) (T := TX1) (N := 10) (ci := 0) (V' := V8) hx hb hL inX1 tyX1 tyX1_ok nmX1 hown hK hM hS (dm_0 (g := g) (i := 0) hg rfl) (zd_0 G V7 g 0) rfl 6 (by decide) (hL _ zw1_135) rfl rfl rfl rfl (Nat.le_of_ble_eq_true rfl) (by rw [eV8]; exact zm_0_13 G V7 g hg (V7 g2 13 0)) dX1_copyFrom_110 (fun H locs hM hS => ?_)
        refine lv_aload_n hx hb dX1_copyFrom_113 rfl (lv_at hl 0 rfl) ?_
        refine lv_aload_n hx hb dX1_copyFrom_114 rfl (lv_at hl 1 rfl) ?_
        refine z_get (own := RX1) (C := RX1) (T := TX1) (N := 10) (ci := 0) (v := .int (V8 g2 14 0)) hx hb hL inX1 hown hK hM (dm_0 (g := g2) (i := 0) hg2 rfl) (zd_0 G V8 g2 0) rfl 7 (by decide) (hL _ zw1_136) rfl rfl dX1_copyFrom_115 ?_
        obtain ⟨V9, eV9⟩ : ∃ y, y = upG V8 g (up2 (V8 g) 14 0 (V8 g2 14 0)) := ⟨_, rfl⟩
        replace hf := put3_some hf eV9
        refine z_put (own := RX1) (C := RX1) (T := TX1) (N := 10) (ci := 0) (V' := V9) hx hb hL inX1 tyX1 tyX1_ok nmX1 hown hK hM hS (dm_0 (g := g) (i := 0) hg rfl) (zd_0 G V8 g 0) rfl 7 (by decide) (hL _ zw1_136) rfl rfl rfl rfl (Nat.le_of_ble_eq_true rfl) (by rw [eV9]; exact zm_0_14 G V8 g hg (V8 g2 14 0)) dX1_copyFrom_118 (fun H locs hM hS => ?_)
        refine lv_aload_n hx hb dX1_copyFrom_121 rfl (lv_at hl 0 rfl) ?_
        refine lv_aload_n hx hb dX1_copyFrom_122 rfl (lv_at hl 1 rfl) ?_
        refine z_get (own := RX1) (C := RX1) (T := TX1) (N := 10) (ci := 0) (v := .int (V9 g2 15 0)) hx hb hL inX1 hown hK hM (dm_0 (g := g2) (i := 0) hg2 rfl) (zd_0 G V9 g2 0) rfl 8 (by decide) (hL _ zw1_137) rfl rfl dX1_copyFrom_123 ?_
        obtain ⟨V10, eV10⟩ : ∃ y, y = upG V9 g (up2 (V9 g) 15 0 (V9 g2 15 0)) := ⟨_, rfl⟩
        replace hf := put3_some hf eV10
        refine z_put (own := RX1) (C := RX1) (T := TX1) (N := 10) (ci := 0) (V' := V10) hx hb hL inX1 tyX1 tyX1_ok nmX1 hown hK hM hS (dm_0 (g := g) (i := 0) hg rfl) (zd_0 G V9 g 0) rfl 8 (by decide) (hL _ zw1_137) rfl rfl rfl rfl (Nat.le_of_ble_eq_true rfl) (by rw [eV10]; exact zm_0_15 G V9 g hg (V9 g2 15 0)) dX1_copyFrom_126 (fun H locs hM hS => ?_)
        refine lv_aload_n hx hb dX1_copyFrom_129 rfl (lv_at hl 0 rfl) ?_
        refine lv_aload_n hx hb dX1_copyFrom_130 rfl (lv_at hl 1 rfl) ?_
        refine z_get (own := RX1) (C := RX1) (T := TX1) (N := 10) (ci := 0) (v := .int (V10 g2 16 0)) hx hb hL inX1 hown hK hM (dm_0 (g := g2) (i := 0) hg2 rfl) (zd_0 G V10 g2 0) rfl 9 (by decide) (hL _ zw1_138) rfl rfl dX1_copyFrom_131 ?_
        obtain ⟨V11, eV11⟩ : ∃ y, y = upG V10 g (up2 (V10 g) 16 0 (V10 g2 16 0)) := ⟨_, rfl⟩
        replace hf := put3_some hf eV11
        refine z_put (own := RX1) (C := RX1) (T := TX1) (N := 10) (ci := 0) (V' := V11) hx hb hL inX1 tyX1 tyX1_ok nmX1 hown hK hM hS (dm_0 (g := g) (i := 0) hg rfl) (zd_0 G V10 g 0) rfl 9 (by decide) (hL _ zw1_138) rfl rfl rfl rfl (Nat.le_of_ble_eq_true rfl) (by rw [eV11]; exact zm_0_16 G V10 g hg (V10 g2 16 0)) dX1_copyFrom_134 (fun H locs hM hS => ?_)
        exact hQf hf hM hS dX1_copyFrom_137
      · replace hf := iff_ hf c1
        refine lv_aload_n hx hb dX1_copyFrom_65 rfl (lv_at hl 0 rfl) ?_
        refine z_get (own := RX1) (C := RX1) (T := TX1) (N := 10) (ci := 0) (v := .ref (gA G 4 g 0)) hx hb hL inX1 hown hK hM (dm_0 (g := g) (i := 0) hg rfl) (zd_0 G V g 0) rfl 4 (by decide) (hL _ zw1_133) rfl rfl dX1_copyFrom_66 ?_
        refine lv_iload_n hx hb dX1_copyFrom_69 rfl (lv_at hl 2 rfl) ?_
        refine lv_aload_n hx hb dX1_copyFrom_70 rfl (lv_at hl 1 rfl) ?_
        refine z_get (own := RX1) (C := RX1) (T := TX1) (N := 10) (ci := 0) (v := .ref (gA G 4 g2 0)) hx hb hL inX1 hown hK hM (dm_0 (g := g2) (i := 0) hg2 rfl) (zd_0 G V g2 0) rfl 4 (by decide) (hL _ zw1_133) rfl rfl dX1_copyFrom_71 ?_
        refine lv_iload_n hx hb dX1_copyFrom_74 rfl (lv_at hl 2 rfl) ?_
        obtain ⟨hb12, hf⟩ := grd_some hf
        refine z_iald hx hb hK hM (dm_4 (g := g2) (i := 0) hg2 rfl) (zd_4 G V g2 0) (inb_in hb12) dX1_copyFrom_75 ?_
        obtain ⟨hb13, hf⟩ := grd_some hf
        obtain ⟨V14, eV14⟩ : ∃ y, y = upG V g (up2 (V g) 17 a2.toNatClampNeg (V g2 17 a2.toNatClampNeg)) := ⟨_, rfl⟩
        replace hf := put3_some hf eV14
        refine z_iast (V' := V14) hx hb hK hM hS (dm_4 (g := g) (i := 0) hg rfl) (zd_4 G V g 0) (inb_in hb13) (by rw [eV14]; exact zm_4_17 G V g hg a2.toNatClampNeg (V g2 17 a2.toNatClampNeg)) dX1_copyFrom_76 (fun H locs hM hS => ?_)
        obtain ⟨y15, ey15⟩ : ∃ y : Int32, y = a2 + (1 : Int32) := ⟨_, rfl⟩
        replace hf := ltI_some hf ey15
        refine lv_iinc (v := y15) (lv' := [(2, .int y15), (0, .ref (gA G 0 g 0)), (1, .ref (gA G 0 g2 0))]) hx hb dX1_copyFrom_77 hl (k := 2) rfl (by rw [ey15]; rfl) (by decide) rfl (fun ls hl => ?_)
        refine lv_goto (tgt := 60) hx hb dX1_copyFrom_80 (by decide) ?_
        exact ih V14 y15 hf _ _ _ hM hS (lv_sub hl [1, 2, 0] rfl)
  have L31 : ∀ (n : Nat) (V : zV3) (a2 : Int32), xX1_copyFrom_L31 g g2 n V a2 = some (r, V') → ∀ (H : Heap) (locs : List Loc) (ls : Array Slot), zM G V H → va_S A s.heap H locs → lv_has ls 3 [(0, .ref (gA G 0 g 0)), (1, .ref (gA G 0 g2 0)), (2, .int a2)] → W p l e rX1_copyFrom s m args below meth c H locs 0 0 Q (F0 m 31 ls []) := by
    intro n
    induction n with
    | zero =>
      intro V a2 hf H locs ls hM hS hl
      rw [xX1_copyFrom_L31] at hf
      cases hf
    | succ n ih =>
      intro V a2 hf H locs ls hM hS hl
      rw [xX1_copyFrom_L31] at hf
      refine lv_iload_n hx hb dX1_copyFrom_31 rfl (lv_at hl 2 rfl) ?_
      refine lv_bipush (v := 10) hx hb dX1_copyFrom_32 (by decide) ?_
      refine lv_icmp_ge (tgt := 58) hx hb dX1_copyFrom_34 (by decide) (fun c1 => ?_) (fun c1 => ?_)
      · replace hf := ift hf c1
        refine lv_iconst (v := 0) hx hb dX1_copyFrom_58 (by decide) ?_
        refine lv_istore_n (lv' := [(2, .int (0 : Int32)), (0, .ref (gA G 0 g 0)), (1, .ref (gA G 0 g2 0))]) hx hb dX1_copyFrom_59 rfl hl (by decide) rfl (fun ls hl => ?_)
        exact L60 1000 V (0 : Int32) hf _ _ _ hM hS (lv_sub hl [1, 2, 0] rfl)
      · replace hf := iff_ hf c1
        refine lv_aload_n hx hb dX1_copyFrom_37 rfl (lv_at hl 0 rfl) ?_
        refine z_get (own := RX1) (C := RX1) (T := TX1) (N := 10) (ci := 0) (v := .ref (gA G 2 g 0)) hx hb hL inX1 hown hK hM (dm_0 (g := g) (i := 0) hg rfl) (zd_0 G V g 0) rfl 1 (by decide) (hL _ zw1_129) rfl rfl dX1_copyFrom_38 ?_
        refine lv_iload_n hx hb dX1_copyFrom_41 rfl (lv_at hl 2 rfl) ?_
        obtain ⟨hb2, hf⟩ := grd_some hf
        refine z_aald hx hb hK hM (dm_2 (g := g) (i := 0) hg rfl) 3 (zd_2 G V g 0) rfl (inb_in hb2) dX1_copyFrom_42 ?_
        refine lv_aload_n hx hb dX1_copyFrom_43 rfl (lv_at hl 1 rfl) ?_
        refine z_get (own := RX1) (C := RX1) (T := TX1) (N := 10) (ci := 0) (v := .ref (gA G 2 g2 0)) hx hb hL inX1 hown hK hM (dm_0 (g := g2) (i := 0) hg2 rfl) (zd_0 G V g2 0) rfl 1 (by decide) (hL _ zw1_129) rfl rfl dX1_copyFrom_44 ?_
        refine lv_iload_n hx hb dX1_copyFrom_47 rfl (lv_at hl 2 rfl) ?_
        obtain ⟨hb3, hf⟩ := grd_some hf
        refine z_aald hx hb hK hM (dm_2 (g := g2) (i := 0) hg2 rfl) 3 (zd_2 G V g2 0) rfl (inb_in hb3) dX1_copyFrom_48 ?_
        obtain ⟨r4, V6, hc5, hf⟩ := bnd_some hf
        refine z_callV (As := [.ref (gA G 9 g2 a2.toNatClampNeg)]) (rest := []) (C := RX5) hx hb hml hown hL hK hM hS (kX5_copyFrom l G A V g hg a2.toNatClampNeg (inb_lt hb2) g2 hg2 a2.toNatClampNeg (inb_lt hb3) hc5) (zg_X5_copyFrom zw2_37) zv_X5_copyFrom ⟨rfl, rfl⟩ ⟨Nat.le_of_ble_eq_true rfl, Nat.le_of_ble_eq_true rfl⟩ (hM.recv hK (dm_9 (g := g) (i := a2.toNatClampNeg) hg (inb_lt hb2)) (zd_9 G V g a2.toNatClampNeg) rfl) rfl hl.1 rfl (Nat.le_of_ble_eq_true rfl) dX1_copyFrom_49 ⟨Nat.zero_le _, Nat.zero_le _⟩ (fun H locs hM hS => ?_)
        refine W.eq (g2 := F0 m 52 ls []) rfl ?_
        obtain ⟨y7, ey7⟩ : ∃ y : Int32, y = a2 + (1 : Int32) := ⟨_, rfl⟩
        replace hf := ltI_some hf ey7
        refine lv_iinc (v := y7) (lv' := [(2, .int y7), (0, .ref (gA G 0 g 0)), (1, .ref (gA G 0 g2 0))]) hx hb dX1_copyFrom_52 hl (k := 2) rfl (by rw [ey7]; rfl) (by decide) rfl (fun ls hl => ?_)
        refine lv_goto (tgt := 31) hx hb dX1_copyFrom_55 (by decide) ?_
        exact ih V6 y7 hf _ _ _ hM hS (lv_sub hl [1, 2, 0] rfl)
  have L2 : ∀ (n : Nat) (V : zV3) (a2 : Int32), xX1_copyFrom_L2 g g2 n V a2 = some (r, V') → ∀ (H : Heap) (locs : List Loc) (ls : Array Slot), zM G V H → va_S A s.heap H locs → lv_has ls 3 [(0, .ref (gA G 0 g 0)), (1, .ref (gA G 0 g2 0)), (2, .int a2)] → W p l e rX1_copyFrom s m args below meth c H locs 0 0 Q (F0 m 2 ls []) := by
    intro n
    induction n with
    | zero =>
      intro V a2 hf H locs ls hM hS hl
      rw [xX1_copyFrom_L2] at hf
      cases hf
    | succ n ih =>
      intro V a2 hf H locs ls hM hS hl
      rw [xX1_copyFrom_L2] at hf
      refine lv_iload_n hx hb dX1_copyFrom_2 rfl (lv_at hl 2 rfl) ?_
      refine lv_bipush (v := 12) hx hb dX1_copyFrom_3 (by decide) ?_
      refine lv_icmp_ge (tgt := 29) hx hb dX1_copyFrom_5 (by decide) (fun c1 => ?_) (fun c1 => ?_)
      · replace hf := ift hf c1
        refine lv_iconst (v := 0) hx hb dX1_copyFrom_29 (by decide) ?_
        refine lv_istore_n (lv' := [(2, .int (0 : Int32)), (0, .ref (gA G 0 g 0)), (1, .ref (gA G 0 g2 0))]) hx hb dX1_copyFrom_30 rfl hl (by decide) rfl (fun ls hl => ?_)
        exact L31 1000 V (0 : Int32) hf _ _ _ hM hS (lv_sub hl [1, 2, 0] rfl)
      · replace hf := iff_ hf c1
        refine lv_aload_n hx hb dX1_copyFrom_8 rfl (lv_at hl 0 rfl) ?_
        refine z_get (own := RX1) (C := RX1) (T := TX1) (N := 10) (ci := 0) (v := .ref (gA G 1 g 0)) hx hb hL inX1 hown hK hM (dm_0 (g := g) (i := 0) hg rfl) (zd_0 G V g 0) rfl 0 (by decide) (hL _ zw1_128) rfl rfl dX1_copyFrom_9 ?_
        refine lv_iload_n hx hb dX1_copyFrom_12 rfl (lv_at hl 2 rfl) ?_
        obtain ⟨hb2, hf⟩ := grd_some hf
        refine z_aald hx hb hK hM (dm_1 (g := g) (i := 0) hg rfl) 2 (zd_1 G V g 0) rfl (inb_in hb2) dX1_copyFrom_13 ?_
        refine lv_aload_n hx hb dX1_copyFrom_14 rfl (lv_at hl 1 rfl) ?_
        refine z_get (own := RX1) (C := RX1) (T := TX1) (N := 10) (ci := 0) (v := .ref (gA G 1 g2 0)) hx hb hL inX1 hown hK hM (dm_0 (g := g2) (i := 0) hg2 rfl) (zd_0 G V g2 0) rfl 0 (by decide) (hL _ zw1_128) rfl rfl dX1_copyFrom_15 ?_
        refine lv_iload_n hx hb dX1_copyFrom_18 rfl (lv_at hl 2 rfl) ?_
        obtain ⟨hb3, hf⟩ := grd_some hf
        refine z_aald hx hb hK hM (dm_1 (g := g2) (i := 0) hg2 rfl) 2 (zd_1 G V g2 0) rfl (inb_in hb3) dX1_copyFrom_19 ?_
        obtain ⟨r4, V6, hc5, hf⟩ := bnd_some hf
        refine z_callV (As := [.ref (gA G 8 g2 a2.toNatClampNeg)]) (rest := []) (C := RX4) hx hb hml hown hL hK hM hS (kX4_copyFrom l G A V g hg a2.toNatClampNeg (inb_lt hb2) g2 hg2 a2.toNatClampNeg (inb_lt hb3) hc5) (zg_X4_copyFrom zw2_33) zv_X4_copyFrom ⟨rfl, rfl⟩ ⟨Nat.le_of_ble_eq_true rfl, Nat.le_of_ble_eq_true rfl⟩ (hM.recv hK (dm_8 (g := g) (i := a2.toNatClampNeg) hg (inb_lt hb2)) (zd_8 G V g a2.toNatClampNeg) rfl) rfl hl.1 rfl (Nat.le_of_ble_eq_true rfl) dX1_copyFrom_20 ⟨Nat.zero_le _, Nat.zero_le _⟩ (fun H locs hM hS => ?_)
        refine W.eq (g2 := F0 m 23 ls []) rfl ?_
        obtain ⟨y7, ey7⟩ : ∃ y : Int32, y = a2 + (1 : Int32) := ⟨_, rfl⟩
        replace hf := ltI_some hf ey7
        refine lv_iinc (v := y7) (lv' := [(2, .int y7), (0, .ref (gA G 0 g 0)), (1, .ref (gA G 0 g2 0))]) hx hb dX1_copyFrom_23 hl (k := 2) rfl (by rw [ey7]; rfl) (by decide) rfl (fun ls hl => ?_)
        refine lv_goto (tgt := 2) hx hb dX1_copyFrom_26 (by decide) ?_
        exact ih V6 y7 hf _ _ _ hM hS (lv_sub hl [1, 2, 0] rfl)
  unfold xX1_copyFrom at hf
  refine lv_iconst (v := 0) hx hb dX1_copyFrom_0 (by decide) ?_
  refine lv_istore_n (lv' := [(2, .int (0 : Int32)), (0, .ref (gA G 0 g 0)), (1, .ref (gA G 0 g2 0))]) hx hb dX1_copyFrom_1 rfl hl (by decide) rfl (fun ls hl => ?_)
  exact L2 1000 V (0 : Int32) hf _ _ _ hM hS (lv_sub hl [1, 2, 0] rfl)
abbrev rX1_lockerAt : Room := { frames := 0, cells := 0, slots := 0, locals := 0 }
set_option maxRecDepth 100000 in
set_option maxHeartbeats 4000000 in
theorem kX1_lockerAt (l : Launch) (G : zG) (A : Nat → Prop) (V : zV3) (g : Nat) (hg : g < 7) (h : zV2) (p1 : Int32) {r : Option Nat} {h' : zV2} (hf : xX1_lockerAt h p1 = some (r, h')) : zCt l G A yX1_lockerAt cX1_lockerAt 2 (some (.object "LockerChains$Locker")) rX1_lockerAt [.ref (gA G 0 g 0), .int p1] (upG V g h) (some (va_rf (r.map (gA G 8 g)))) (upG V g h') := by
  refine z_CtQ (by decide) (Nat.le_of_ble_eq_true rfl) ?_
  intro p e s m args below meth c Q hx hb hml hown hL hK hM hS hQ ls hl
  replace hl : lv_has ls 2 [(0, .ref (gA G 0 g 0)), (1, .int p1)] := hl
  have hQf : ∀ {a : Option Nat} {k : zV2} {H : Heap} {locs : List Loc} {pc : Nat} {ls : Array Slot}, some (a, k) = some (r, h') → zM G (upG V g k) H → va_S A s.heap H locs → decode cX1_lockerAt pc = .ok (.areturn, 1) → W p l e rX1_lockerAt s m args below meth c H locs 0 0 Q (F0 m pc ls [va_rf (a.map (gA G 8 g))]) := by
    intro a k H locs pc ls e1 hM hS hd
    cases e1
    exact hQ H locs pc ls hM hS hd
  unfold xX1_lockerAt at hf
  refine lv_iload_n hx hb dX1_lockerAt_0 rfl (lv_at hl 1 rfl) ?_
  refine lv_if_lt (tgt := 27) hx hb dX1_lockerAt_1 (by decide) (fun c1 => ?_) (fun c1 => ?_)
  · replace hf := ift hf c1
    refine lv_null hx hb dX1_lockerAt_27 ?_
    exact hQf (a := none) hf hM hS dX1_lockerAt_28
  · replace hf := iff_ hf c1
    refine lv_iload_n hx hb dX1_lockerAt_4 rfl (lv_at hl 1 rfl) ?_
    refine lv_aload_n hx hb dX1_lockerAt_5 rfl (lv_at hl 0 rfl) ?_
    refine z_get (own := RX1) (C := RX1) (T := TX1) (N := 10) (ci := 0) (v := .int (h 13 0)) hx hb hL inX1 hown hK hM (dm_0 (g := g) (i := 0) hg rfl) (ze_0 G V g 0 h) rfl 6 (by decide) (hL _ zw1_135) rfl rfl dX1_lockerAt_6 ?_
    refine lv_icmp_ge (tgt := 27) hx hb dX1_lockerAt_9 (by decide) (fun c2 => ?_) (fun c2 => ?_)
    · replace hf := ift hf c2
      refine lv_null hx hb dX1_lockerAt_27 ?_
      exact hQf (a := none) hf hM hS dX1_lockerAt_28
    · replace hf := iff_ hf c2
      refine lv_iload_n hx hb dX1_lockerAt_12 rfl (lv_at hl 1 rfl) ?_
      refine lv_bipush (v := 12) hx hb dX1_lockerAt_13 (by decide) ?_
      refine lv_icmp_ge (tgt := 27) hx hb dX1_lockerAt_15 (by decide) (fun c3 => ?_) (fun c3 => ?_)
      · replace hf := ift hf c3
        refine lv_null hx hb dX1_lockerAt_27 ?_
        exact hQf (a := none) hf hM hS dX1_lockerAt_28
      · replace hf := iff_ hf c3
        refine lv_aload_n hx hb dX1_lockerAt_18 rfl (lv_at hl 0 rfl) ?_
        refine z_get (own := RX1) (C := RX1) (T := TX1) (N := 10) (ci := 0) (v := .ref (gA G 1 g 0)) hx hb hL inX1 hown hK hM (dm_0 (g := g) (i := 0) hg rfl) (ze_0 G V g 0 h) rfl 0 (by decide) (hL _ zw1_128) rfl rfl dX1_lockerAt_19 ?_
        refine lv_iload_n hx hb dX1_lockerAt_22 rfl (lv_at hl 1 rfl) ?_
        obtain ⟨hb4, hf⟩ := grd_some hf
        refine z_aald hx hb hK hM (dm_1 (g := g) (i := 0) hg rfl) 2 (zd_1 G (upG V g h) g 0) rfl (inb_in hb4) dX1_lockerAt_23 ?_
        refine lv_goto (tgt := 28) hx hb dX1_lockerAt_24 (by decide) ?_
        exact hQf (a := some p1.toNatClampNeg) hf hM hS dX1_lockerAt_28
abbrev rX1_personAt : Room := { frames := 0, cells := 0, slots := 0, locals := 0 }
set_option maxRecDepth 100000 in
set_option maxHeartbeats 4000000 in
theorem kX1_personAt (l : Launch) (G : zG) (A : Nat → Prop) (V : zV3) (g : Nat) (hg : g < 7) (h : zV2) (p1 : Int32) {r : Option Nat} {h' : zV2} (hf : xX1_personAt h p1 = some (r, h')) : zCt l G A yX1_personAt cX1_personAt 2 (some (.object "LockerChains$Person")) rX1_personAt [.ref (gA G 0 g 0), .int p1] (upG V g h) (some (va_rf (r.map (gA G 9 g)))) (upG V g h') := by
  refine z_CtQ (by decide) (Nat.le_of_ble_eq_true rfl) ?_
  intro p e s m args below meth c Q hx hb hml hown hL hK hM hS hQ ls hl
  replace hl : lv_has ls 2 [(0, .ref (gA G 0 g 0)), (1, .int p1)] := hl
  have hQf : ∀ {a : Option Nat} {k : zV2} {H : Heap} {locs : List Loc} {pc : Nat} {ls : Array Slot}, some (a, k) = some (r, h') → zM G (upG V g k) H → va_S A s.heap H locs → decode cX1_personAt pc = .ok (.areturn, 1) → W p l e rX1_personAt s m args below meth c H locs 0 0 Q (F0 m pc ls [va_rf (a.map (gA G 9 g))]) := by
    intro a k H locs pc ls e1 hM hS hd
    cases e1
    exact hQ H locs pc ls hM hS hd
  unfold xX1_personAt at hf
  refine lv_iload_n hx hb dX1_personAt_0 rfl (lv_at hl 1 rfl) ?_
  refine lv_if_lt (tgt := 27) hx hb dX1_personAt_1 (by decide) (fun c1 => ?_) (fun c1 => ?_)
  · replace hf := ift hf c1
    refine lv_null hx hb dX1_personAt_27 ?_
    exact hQf (a := none) hf hM hS dX1_personAt_28
  · replace hf := iff_ hf c1
    refine lv_iload_n hx hb dX1_personAt_4 rfl (lv_at hl 1 rfl) ?_
    refine lv_aload_n hx hb dX1_personAt_5 rfl (lv_at hl 0 rfl) ?_
    refine z_get (own := RX1) (C := RX1) (T := TX1) (N := 10) (ci := 0) (v := .int (h 14 0)) hx hb hL inX1 hown hK hM (dm_0 (g := g) (i := 0) hg rfl) (ze_0 G V g 0 h) rfl 7 (by decide) (hL _ zw1_136) rfl rfl dX1_personAt_6 ?_
    refine lv_icmp_ge (tgt := 27) hx hb dX1_personAt_9 (by decide) (fun c2 => ?_) (fun c2 => ?_)
    · replace hf := ift hf c2
      refine lv_null hx hb dX1_personAt_27 ?_
      exact hQf (a := none) hf hM hS dX1_personAt_28
    · replace hf := iff_ hf c2
      refine lv_iload_n hx hb dX1_personAt_12 rfl (lv_at hl 1 rfl) ?_
      refine lv_bipush (v := 10) hx hb dX1_personAt_13 (by decide) ?_
      refine lv_icmp_ge (tgt := 27) hx hb dX1_personAt_15 (by decide) (fun c3 => ?_) (fun c3 => ?_)
      · replace hf := ift hf c3
        refine lv_null hx hb dX1_personAt_27 ?_
        exact hQf (a := none) hf hM hS dX1_personAt_28
      · replace hf := iff_ hf c3
        refine lv_aload_n hx hb dX1_personAt_18 rfl (lv_at hl 0 rfl) ?_
        refine z_get (own := RX1) (C := RX1) (T := TX1) (N := 10) (ci := 0) (v := .ref (gA G 2 g 0)) hx hb hL inX1 hown hK hM (dm_0 (g := g) (i := 0) hg rfl) (ze_0 G V g 0 h) rfl 1 (by decide) (hL _ zw1_129) rfl rfl dX1_personAt_19 ?_
        refine lv_iload_n hx hb dX1_personAt_22 rfl (lv_at hl 1 rfl) ?_
        obtain ⟨hb4, hf⟩ := grd_some hf
        refine z_aald hx hb hK hM (dm_2 (g := g) (i := 0) hg rfl) 3 (zd_2 G (upG V g h) g 0) rfl (inb_in hb4) dX1_personAt_23 ?_
        refine lv_goto (tgt := 28) hx hb dX1_personAt_24 (by decide) ?_
        exact hQf (a := some p1.toNatClampNeg) hf hM hS dX1_personAt_28
abbrev rX1_lockerOfPerson : Room := { frames := 1, cells := 0, slots := 0, locals := 21 }
set_option maxRecDepth 100000 in
set_option maxHeartbeats 4000000 in
theorem kX1_lockerOfPerson (l : Launch) (G : zG) (A : Nat → Prop) (V : zV3) (g : Nat) (hg : g < 7) (h : zV2) (p1 : Int32) {r : Option Nat} {h' : zV2} (hf : xX1_lockerOfPerson h p1 = some (r, h')) : zCt l G A yX1_lockerOfPerson cX1_lockerOfPerson 3 (some (.object "LockerChains$Locker")) rX1_lockerOfPerson [.ref (gA G 0 g 0), .int p1] (upG V g h) (some (va_rf (r.map (gA G 8 g)))) (upG V g h') := by
  refine z_CtQ (by decide) (Nat.le_of_ble_eq_true rfl) ?_
  intro p e s m args below meth c Q hx hb hml hown hL hK hM hS hQ ls hl
  replace hl : lv_has ls 3 [(0, .ref (gA G 0 g 0)), (1, .int p1)] := hl
  have hQf : ∀ {a : Option Nat} {k : zV2} {H : Heap} {locs : List Loc} {pc : Nat} {ls : Array Slot}, some (a, k) = some (r, h') → zM G (upG V g k) H → va_S A s.heap H locs → decode cX1_lockerOfPerson pc = .ok (.areturn, 1) → W p l e rX1_lockerOfPerson s m args below meth c H locs 0 0 Q (F0 m pc ls [va_rf (a.map (gA G 8 g))]) := by
    intro a k H locs pc ls e1 hM hS hd
    cases e1
    exact hQ H locs pc ls hM hS hd
  unfold xX1_lockerOfPerson at hf
  refine lv_aload_n hx hb dX1_lockerOfPerson_0 rfl (lv_at hl 0 rfl) ?_
  refine lv_iload_n hx hb dX1_lockerOfPerson_1 rfl (lv_at hl 1 rfl) ?_
  obtain ⟨r1, h3, hc2, hf⟩ := bnd_some hf
  refine z_callV (As := [.int p1]) (rest := []) (C := RX1) hx hb hml hown hL hK hM hS (kX1_personAt l G A V g hg h p1 hc2) (zg_X1_personAt zw2_85) zv_X1_personAt ⟨rfl, rfl⟩ ⟨Nat.le_of_ble_eq_true rfl, Nat.le_of_ble_eq_true rfl⟩ (hM.recv hK (dm_0 (g := g) (i := 0) hg rfl) (ze_0 G V g 0 h) rfl) rfl hl.1 rfl (Nat.le_of_ble_eq_true rfl) dX1_lockerOfPerson_2 ⟨Nat.zero_le _, Nat.zero_le _⟩ (fun H locs hM hS => ?_)
  cases r1 with
  | none =>
    replace hf := optm_none hf
    refine W.eq (g2 := F0 m 5 ls [.null]) rfl ?_
    refine lv_astore_nN (lv' := [(2, .null), (0, .ref (gA G 0 g 0)), (1, .int p1)]) hx hb dX1_lockerOfPerson_5 rfl hl (by decide) rfl (fun ls hl => ?_)
    refine lv_aload_nN hx hb dX1_lockerOfPerson_6 rfl (lv_at hl 0 rfl) ?_
    refine lv_ifnonnullN hx hb dX1_lockerOfPerson_7 ?_
    refine lv_null hx hb dX1_lockerOfPerson_10 ?_
    refine lv_goto (tgt := 22) hx hb dX1_lockerOfPerson_11 (by decide) ?_
    exact hQf (a := none) hf hM hS dX1_lockerOfPerson_22
  | some q4 =>
    replace hf := optm_s hf
    obtain ⟨hq4, hf⟩ := grd_some hf
    replace hq4 := of_decide_eq_true hq4
    refine W.eq (g2 := F0 m 5 ls [.ref (gA G 9 g q4)]) rfl ?_
    refine lv_astore_n (lv' := [(2, .ref (gA G 9 g q4)), (0, .ref (gA G 0 g 0)), (1, .int p1)]) hx hb dX1_lockerOfPerson_5 rfl hl (by decide) rfl (fun ls hl => ?_)
    refine lv_aload_n hx hb dX1_lockerOfPerson_6 rfl (lv_at hl 0 rfl) ?_
    refine lv_ifnonnull (tgt := 14) hx hb dX1_lockerOfPerson_7 (by decide) ?_
    refine lv_aload_n hx hb dX1_lockerOfPerson_14 rfl (lv_at hl 1 rfl) ?_
    refine lv_aload_n hx hb dX1_lockerOfPerson_15 rfl (lv_at hl 0 rfl) ?_
    refine z_getN (own := RX1) (C := RX5) (T := TX5) (N := 8) (ci := 4) (v := .int (h3 6 q4)) hx hb hL inX5 hown hK hM (dm_9 (g := g) (i := q4) hg hq4) (ze_9 G V g q4 h3) rfl 1 (by decide) 21 rfl rfl rfl dX1_lockerOfPerson_16 ?_
    obtain ⟨r5, h7, hc6, hf⟩ := bnd_some hf
    refine z_callV (As := [.int (h3 6 q4)]) (rest := []) (C := RX1) hx hb hml hown hL hK hM hS (kX1_lockerAt l G A V g hg h3 (h3 6 q4) hc6) (zg_X1_lockerAt zw2_69) zv_X1_lockerAt ⟨rfl, rfl⟩ ⟨Nat.le_of_ble_eq_true rfl, Nat.le_of_ble_eq_true rfl⟩ (hM.recv hK (dm_0 (g := g) (i := 0) hg rfl) (ze_0 G V g 0 h3) rfl) rfl hl.1 rfl (Nat.le_of_ble_eq_true rfl) dX1_lockerOfPerson_19 ⟨Nat.zero_le _, Nat.zero_le _⟩ (fun H locs hM hS => ?_)
    cases r5 with
    | none =>
      replace hf := optm_none hf
      refine W.eq (g2 := F0 m 22 ls [.null]) rfl ?_
      exact hQf (a := none) hf hM hS dX1_lockerOfPerson_22
    | some q8 =>
      replace hf := optm_s hf
      obtain ⟨hq8, hf⟩ := grd_some hf
      replace hq8 := of_decide_eq_true hq8
      refine W.eq (g2 := F0 m 22 ls [.ref (gA G 8 g q8)]) rfl ?_
      exact hQf (a := some q8) hf hM hS dX1_lockerOfPerson_22
abbrev rX1_addLocker : Room := { frames := 0, cells := 0, slots := 0, locals := 0 }
set_option maxRecDepth 100000 in
set_option maxHeartbeats 4000000 in
theorem kX1_addLocker (l : Launch) (G : zG) (A : Nat → Prop) (V : zV3) (g : Nat) (hg : g < 7) (h : zV2) (p1 : Int32) {r : Int32} {h' : zV2} (hf : xX1_addLocker h p1 = some (r, h')) : zCt l G A yX1_addLocker cX1_addLocker 2 (some .int) rX1_addLocker [.ref (gA G 0 g 0), .int p1] (upG V g h) (some (.int r)) (upG V g h') := by
  refine z_CtI (by decide) (Nat.le_of_ble_eq_true rfl) ?_
  intro p e s m args below meth c Q hx hb hml hown hL hK hM hS hQ ls hl
  replace hl : lv_has ls 2 [(0, .ref (gA G 0 g 0)), (1, .int p1)] := hl
  have hQf : ∀ {a : Int32} {k : zV2} {H : Heap} {locs : List Loc} {pc : Nat} {ls : Array Slot}, some (a, k) = some (r, h') → zM G (upG V g k) H → va_S A s.heap H locs → decode cX1_addLocker pc = .ok (.ireturn, 1) → W p l e rX1_addLocker s m args below meth c H locs 0 0 Q (F0 m pc ls [.int a]) := by
    intro a k H locs pc ls e1 hM hS hd
    cases e1
    exact hQ H locs pc ls hM hS hd
  unfold xX1_addLocker at hf
  refine lv_iload_n hx hb dX1_addLocker_0 rfl (lv_at hl 1 rfl) ?_
  refine lv_if_lt (tgt := 9) hx hb dX1_addLocker_1 (by decide) (fun c1 => ?_) (fun c1 => ?_)
  · replace hf := ift hf c1
    refine lv_iconst (v := -1) hx hb dX1_addLocker_9 (by decide) ?_
    exact hQf hf hM hS dX1_addLocker_10
  · replace hf := iff_ hf c1
    refine lv_iload_n hx hb dX1_addLocker_4 rfl (lv_at hl 1 rfl) ?_
    refine lv_iconst (v := 2) hx hb dX1_addLocker_5 (by decide) ?_
    refine lv_icmp_le (tgt := 11) hx hb dX1_addLocker_6 (by decide) (fun c2 => ?_) (fun c2 => ?_)
    · replace hf := ift hf c2
      refine lv_aload_n hx hb dX1_addLocker_11 rfl (lv_at hl 0 rfl) ?_
      refine z_get (own := RX1) (C := RX1) (T := TX1) (N := 10) (ci := 0) (v := .int (h 13 0)) hx hb hL inX1 hown hK hM (dm_0 (g := g) (i := 0) hg rfl) (ze_0 G V g 0 h) rfl 6 (by decide) (hL _ zw1_135) rfl rfl dX1_addLocker_12 ?_
      refine lv_bipush (v := 12) hx hb dX1_addLocker_15 (by decide) ?_
      refine lv_icmp_lt (tgt := 23) hx hb dX1_addLocker_17 (by decide) (fun c3 => ?_) (fun c3 => ?_)
      · replace hf := ift hf c3
        refine lv_aload_n hx hb dX1_addLocker_23 rfl (lv_at hl 0 rfl) ?_
        refine z_get (own := RX1) (C := RX1) (T := TX1) (N := 10) (ci := 0) (v := .ref (gA G 1 g 0)) hx hb hL inX1 hown hK hM (dm_0 (g := g) (i := 0) hg rfl) (ze_0 G V g 0 h) rfl 0 (by decide) (hL _ zw1_128) rfl rfl dX1_addLocker_24 ?_
        refine lv_aload_n hx hb dX1_addLocker_27 rfl (lv_at hl 0 rfl) ?_
        refine z_get (own := RX1) (C := RX1) (T := TX1) (N := 10) (ci := 0) (v := .int (h 13 0)) hx hb hL inX1 hown hK hM (dm_0 (g := g) (i := 0) hg rfl) (ze_0 G V g 0 h) rfl 6 (by decide) (hL _ zw1_135) rfl rfl dX1_addLocker_28 ?_
        obtain ⟨hb4, hf⟩ := grd_some hf
        refine z_aald hx hb hK hM (dm_1 (g := g) (i := 0) hg rfl) 2 (zd_1 G (upG V g h) g 0) rfl (inb_in hb4) dX1_addLocker_31 ?_
        refine lv_iload_n hx hb dX1_addLocker_32 rfl (lv_at hl 1 rfl) ?_
        obtain ⟨h5, eh5⟩ : ∃ y, y = up2 h 0 ((h 13 0).toNatClampNeg) p1 := ⟨_, rfl⟩
        replace hf := put2_some hf eh5
        refine z_putN (own := RX1) (C := RX4) (T := TX4) (N := 7) (ci := 3) (V' := upG V g h5) hx hb hL inX4 tyX4 tyX4_ok nmX4 hown hK hM hS (dm_8 (g := g) (i := ((h 13 0).toNatClampNeg)) hg (inb_lt hb4)) (ze_8 G V g ((h 13 0).toNatClampNeg) h) rfl 1 (by decide) 22 rfl rfl rfl rfl rfl (Nat.le_of_ble_eq_true rfl) (by rw [eh5]; exact zn_8_0 G V g hg h ((h 13 0).toNatClampNeg) p1) dX1_addLocker_33 (fun H locs hM hS => ?_)
        refine lv_aload_n hx hb dX1_addLocker_36 rfl (lv_at hl 0 rfl) ?_
        refine lv_dup hx hb dX1_addLocker_37 rfl ?_
        refine z_get (own := RX1) (C := RX1) (T := TX1) (N := 10) (ci := 0) (v := .int (h5 13 0)) hx hb hL inX1 hown hK hM (dm_0 (g := g) (i := 0) hg rfl) (ze_0 G V g 0 h5) rfl 6 (by decide) (hL _ zw1_135) rfl rfl dX1_addLocker_38 ?_
        refine lv_iconst (v := 1) hx hb dX1_addLocker_41 (by decide) ?_
        refine lv_iadd hx hb dX1_addLocker_42 ?_
        obtain ⟨h6, eh6⟩ : ∃ y, y = up2 h5 13 0 ((h5 13 0) + (1 : Int32)) := ⟨_, rfl⟩
        replace hf := put2_some hf eh6
        refine z_put (own := RX1) (C := RX1) (T := TX1) (N := 10) (ci := 0) (V' := upG V g h6) hx hb hL inX1 tyX1 tyX1_ok nmX1 hown hK hM hS (dm_0 (g := g) (i := 0) hg rfl) (ze_0 G V g 0 h5) rfl 6 (by decide) (hL _ zw1_135) rfl rfl rfl rfl (Nat.le_of_ble_eq_true rfl) (by rw [eh6]; exact zn_0_13 G V g hg h5 ((h5 13 0) + (1 : Int32))) dX1_addLocker_43 (fun H locs hM hS => ?_)
        refine lv_aload_n hx hb dX1_addLocker_46 rfl (lv_at hl 0 rfl) ?_
        refine z_get (own := RX1) (C := RX1) (T := TX1) (N := 10) (ci := 0) (v := .int (h6 13 0)) hx hb hL inX1 hown hK hM (dm_0 (g := g) (i := 0) hg rfl) (ze_0 G V g 0 h6) rfl 6 (by decide) (hL _ zw1_135) rfl rfl dX1_addLocker_47 ?_
        refine lv_iconst (v := 1) hx hb dX1_addLocker_50 (by decide) ?_
        refine lv_isub hx hb dX1_addLocker_51 ?_
        exact hQf hf hM hS dX1_addLocker_52
      · replace hf := iff_ hf c3
        refine lv_bipush (v := -3) hx hb dX1_addLocker_20 (by decide) ?_
        exact hQf hf hM hS dX1_addLocker_22
    · replace hf := iff_ hf c2
      refine lv_iconst (v := -1) hx hb dX1_addLocker_9 (by decide) ?_
      exact hQf hf hM hS dX1_addLocker_10
abbrev rX1_addPerson : Room := { frames := 0, cells := 0, slots := 0, locals := 0 }
set_option maxRecDepth 100000 in
set_option maxHeartbeats 4000000 in
theorem kX1_addPerson (l : Launch) (G : zG) (A : Nat → Prop) (V : zV3) (g : Nat) (hg : g < 7) (h : zV2) {r : Int32} {h' : zV2} (hf : xX1_addPerson h  = some (r, h')) : zCt l G A yX1_addPerson cX1_addPerson 1 (some .int) rX1_addPerson [.ref (gA G 0 g 0)] (upG V g h) (some (.int r)) (upG V g h') := by
  refine z_CtI (by decide) (Nat.le_of_ble_eq_true rfl) ?_
  intro p e s m args below meth c Q hx hb hml hown hL hK hM hS hQ ls hl
  replace hl : lv_has ls 1 [(0, .ref (gA G 0 g 0))] := hl
  have hQf : ∀ {a : Int32} {k : zV2} {H : Heap} {locs : List Loc} {pc : Nat} {ls : Array Slot}, some (a, k) = some (r, h') → zM G (upG V g k) H → va_S A s.heap H locs → decode cX1_addPerson pc = .ok (.ireturn, 1) → W p l e rX1_addPerson s m args below meth c H locs 0 0 Q (F0 m pc ls [.int a]) := by
    intro a k H locs pc ls e1 hM hS hd
    cases e1
    exact hQ H locs pc ls hM hS hd
  unfold xX1_addPerson at hf
  refine lv_aload_n hx hb dX1_addPerson_0 rfl (lv_at hl 0 rfl) ?_
  refine z_get (own := RX1) (C := RX1) (T := TX1) (N := 10) (ci := 0) (v := .int (h 14 0)) hx hb hL inX1 hown hK hM (dm_0 (g := g) (i := 0) hg rfl) (ze_0 G V g 0 h) rfl 7 (by decide) (hL _ zw1_136) rfl rfl dX1_addPerson_1 ?_
  refine lv_bipush (v := 10) hx hb dX1_addPerson_4 (by decide) ?_
  refine lv_icmp_lt (tgt := 12) hx hb dX1_addPerson_6 (by decide) (fun c1 => ?_) (fun c1 => ?_)
  · replace hf := ift hf c1
    refine lv_aload_n hx hb dX1_addPerson_12 rfl (lv_at hl 0 rfl) ?_
    refine lv_dup hx hb dX1_addPerson_13 rfl ?_
    refine z_get (own := RX1) (C := RX1) (T := TX1) (N := 10) (ci := 0) (v := .int (h 14 0)) hx hb hL inX1 hown hK hM (dm_0 (g := g) (i := 0) hg rfl) (ze_0 G V g 0 h) rfl 7 (by decide) (hL _ zw1_136) rfl rfl dX1_addPerson_14 ?_
    refine lv_iconst (v := 1) hx hb dX1_addPerson_17 (by decide) ?_
    refine lv_iadd hx hb dX1_addPerson_18 ?_
    obtain ⟨h2, eh2⟩ : ∃ y, y = up2 h 14 0 ((h 14 0) + (1 : Int32)) := ⟨_, rfl⟩
    replace hf := put2_some hf eh2
    refine z_put (own := RX1) (C := RX1) (T := TX1) (N := 10) (ci := 0) (V' := upG V g h2) hx hb hL inX1 tyX1 tyX1_ok nmX1 hown hK hM hS (dm_0 (g := g) (i := 0) hg rfl) (ze_0 G V g 0 h) rfl 7 (by decide) (hL _ zw1_136) rfl rfl rfl rfl (Nat.le_of_ble_eq_true rfl) (by rw [eh2]; exact zn_0_14 G V g hg h ((h 14 0) + (1 : Int32))) dX1_addPerson_19 (fun H locs hM hS => ?_)
    refine lv_aload_n hx hb dX1_addPerson_22 rfl (lv_at hl 0 rfl) ?_
    refine z_get (own := RX1) (C := RX1) (T := TX1) (N := 10) (ci := 0) (v := .int (h2 14 0)) hx hb hL inX1 hown hK hM (dm_0 (g := g) (i := 0) hg rfl) (ze_0 G V g 0 h2) rfl 7 (by decide) (hL _ zw1_136) rfl rfl dX1_addPerson_23 ?_
    refine lv_iconst (v := 1) hx hb dX1_addPerson_26 (by decide) ?_
    refine lv_isub hx hb dX1_addPerson_27 ?_
    exact hQf hf hM hS dX1_addPerson_28
  · replace hf := iff_ hf c1
    refine lv_bipush (v := -3) hx hb dX1_addPerson_9 (by decide) ?_
    exact hQf hf hM hS dX1_addPerson_11
abbrev rX1_beginLoan : Room := { frames := 0, cells := 0, slots := 0, locals := 0 }
set_option maxRecDepth 100000 in
set_option maxHeartbeats 4000000 in
theorem kX1_beginLoan (l : Launch) (G : zG) (A : Nat → Prop) (V : zV3) (g : Nat) (hg : g < 7) (n1 : Nat) (hn1 : n1 < 10) (n2 : Nat) (hn2 : n2 < 12) (h : zV2) {r : Unit} {h' : zV2} (hf : xX1_beginLoan n1 n2 h  = some (r, h')) : zCt l G A yX1_beginLoan cX1_beginLoan 3 none rX1_beginLoan [.ref (gA G 0 g 0), .ref (gA G 9 g n1), .ref (gA G 8 g n2)] (upG V g h) none (upG V g h') := by
  refine z_CtV (by decide) (Nat.le_of_ble_eq_true rfl) ?_
  intro p e s m args below meth c Q hx hb hml hown hL hK hM hS hQ ls hl
  replace hl : lv_has ls 3 [(0, .ref (gA G 0 g 0)), (1, .ref (gA G 9 g n1)), (2, .ref (gA G 8 g n2))] := hl
  have hQf : ∀ {a : Unit} {k : zV2} {H : Heap} {locs : List Loc} {pc : Nat} {ls : Array Slot}, some (a, k) = some (r, h') → zM G (upG V g k) H → va_S A s.heap H locs → decode cX1_beginLoan pc = .ok (.return_, 1) → W p l e rX1_beginLoan s m args below meth c H locs 0 0 Q (F0 m pc ls []) := by
    intro a k H locs pc ls e1 hM hS hd
    cases e1
    exact hQ H locs pc ls hM hS hd
  unfold xX1_beginLoan at hf
  refine lv_aload_n hx hb dX1_beginLoan_0 rfl (lv_at hl 1 rfl) ?_
  refine lv_aload_n hx hb dX1_beginLoan_1 rfl (lv_at hl 2 rfl) ?_
  refine z_getN (own := RX1) (C := RX4) (T := TX4) (N := 7) (ci := 3) (v := .int (nI n2)) hx hb hL inX4 hown hK hM (dm_8 (g := g) (i := n2) hg hn2) (ze_8 G V g n2 h) rfl 0 (by decide) 10 rfl rfl rfl dX1_beginLoan_2 ?_
  obtain ⟨h1, eh1⟩ : ∃ y, y = up2 h 6 n1 (nI n2) := ⟨_, rfl⟩
  replace hf := put2_some hf eh1
  refine z_putN (own := RX1) (C := RX5) (T := TX5) (N := 8) (ci := 4) (V' := upG V g h1) hx hb hL inX5 tyX5 tyX5_ok nmX5 hown hK hM hS (dm_9 (g := g) (i := n1) hg hn1) (ze_9 G V g n1 h) rfl 1 (by decide) 21 rfl rfl rfl rfl rfl (Nat.le_of_ble_eq_true rfl) (by rw [eh1]; exact zn_9_6 G V g hg h n1 (nI n2)) dX1_beginLoan_5 (fun H locs hM hS => ?_)
  refine lv_aload_n hx hb dX1_beginLoan_8 rfl (lv_at hl 1 rfl) ?_
  refine lv_aload_n hx hb dX1_beginLoan_9 rfl (lv_at hl 0 rfl) ?_
  refine z_get (own := RX1) (C := RX1) (T := TX1) (N := 10) (ci := 0) (v := .int (h1 15 0)) hx hb hL inX1 hown hK hM (dm_0 (g := g) (i := 0) hg rfl) (ze_0 G V g 0 h1) rfl 8 (by decide) (hL _ zw1_137) rfl rfl dX1_beginLoan_10 ?_
  refine lv_aload_n hx hb dX1_beginLoan_13 rfl (lv_at hl 0 rfl) ?_
  refine z_get (own := RX1) (C := RX1) (T := TX1) (N := 10) (ci := 0) (v := .ref (gA G 4 g 0)) hx hb hL inX1 hown hK hM (dm_0 (g := g) (i := 0) hg rfl) (ze_0 G V g 0 h1) rfl 4 (by decide) (hL _ zw1_133) rfl rfl dX1_beginLoan_14 ?_
  refine lv_iconst (v := 0) hx hb dX1_beginLoan_17 (by decide) ?_
  obtain ⟨hb2, hf⟩ := grd_some hf
  refine z_iald hx hb hK hM (dm_4 (g := g) (i := 0) hg rfl) (ze_4 G V g 0 h1) (inb_in hb2) dX1_beginLoan_18 ?_
  refine lv_iadd hx hb dX1_beginLoan_19 ?_
  obtain ⟨h3, eh3⟩ : ∃ y, y = up2 h1 7 n1 ((h1 15 0) + (h1 17 ((0 : Int32).toNatClampNeg))) := ⟨_, rfl⟩
  replace hf := put2_some hf eh3
  refine z_putN (own := RX1) (C := RX5) (T := TX5) (N := 8) (ci := 4) (V' := upG V g h3) hx hb hL inX5 tyX5 tyX5_ok nmX5 hown hK hM hS (dm_9 (g := g) (i := n1) hg hn1) (ze_9 G V g n1 h1) rfl 2 (by decide) 12 rfl rfl rfl rfl rfl (Nat.le_of_ble_eq_true rfl) (by rw [eh3]; exact zn_9_7 G V g hg h1 n1 ((h1 15 0) + (h1 17 ((0 : Int32).toNatClampNeg)))) dX1_beginLoan_20 (fun H locs hM hS => ?_)
  refine lv_aload_n hx hb dX1_beginLoan_23 rfl (lv_at hl 1 rfl) ?_
  refine lv_iconst (v := 0) hx hb dX1_beginLoan_24 (by decide) ?_
  obtain ⟨h4, eh4⟩ : ∃ y, y = up2 h3 8 n1 (0 : Int32) := ⟨_, rfl⟩
  replace hf := put2_some hf eh4
  refine z_putN (own := RX1) (C := RX5) (T := TX5) (N := 8) (ci := 4) (V' := upG V g h4) hx hb hL inX5 tyX5 tyX5_ok nmX5 hown hK hM hS (dm_9 (g := g) (i := n1) hg hn1) (ze_9 G V g n1 h3) rfl 3 (by decide) 11 rfl rfl rfl rfl rfl (Nat.le_of_ble_eq_true rfl) (by rw [eh4]; exact zn_9_8 G V g hg h3 n1 (0 : Int32)) dX1_beginLoan_25 (fun H locs hM hS => ?_)
  refine lv_aload_n hx hb dX1_beginLoan_28 rfl (lv_at hl 2 rfl) ?_
  refine lv_aload_n hx hb dX1_beginLoan_29 rfl (lv_at hl 1 rfl) ?_
  refine z_getN (own := RX1) (C := RX5) (T := TX5) (N := 8) (ci := 4) (v := .int (nI n1)) hx hb hL inX5 hown hK hM (dm_9 (g := g) (i := n1) hg hn1) (ze_9 G V g n1 h4) rfl 0 (by decide) 16 rfl rfl rfl dX1_beginLoan_30 ?_
  obtain ⟨h5, eh5⟩ : ∃ y, y = up2 h4 2 n2 (nI n1) := ⟨_, rfl⟩
  replace hf := put2_some hf eh5
  refine z_putN (own := RX1) (C := RX4) (T := TX4) (N := 7) (ci := 3) (V' := upG V g h5) hx hb hL inX4 tyX4 tyX4_ok nmX4 hown hK hM hS (dm_8 (g := g) (i := n2) hg hn2) (ze_8 G V g n2 h4) rfl 3 (by decide) 17 rfl rfl rfl rfl rfl (Nat.le_of_ble_eq_true rfl) (by rw [eh5]; exact zn_8_2 G V g hg h4 n2 (nI n1)) dX1_beginLoan_33 (fun H locs hM hS => ?_)
  refine lv_aload_n hx hb dX1_beginLoan_36 rfl (lv_at hl 2 rfl) ?_
  refine lv_dup hx hb dX1_beginLoan_37 rfl ?_
  refine z_getN (own := RX1) (C := RX4) (T := TX4) (N := 7) (ci := 3) (v := .int (h5 5 n2)) hx hb hL inX4 hown hK hM (dm_8 (g := g) (i := n2) hg hn2) (ze_8 G V g n2 h5) rfl 6 (by decide) 20 rfl rfl rfl dX1_beginLoan_38 ?_
  refine lv_iconst (v := 1) hx hb dX1_beginLoan_41 (by decide) ?_
  refine lv_iadd hx hb dX1_beginLoan_42 ?_
  obtain ⟨h6, eh6⟩ : ∃ y, y = up2 h5 5 n2 ((h5 5 n2) + (1 : Int32)) := ⟨_, rfl⟩
  replace hf := put2_some hf eh6
  refine z_putN (own := RX1) (C := RX4) (T := TX4) (N := 7) (ci := 3) (V' := upG V g h6) hx hb hL inX4 tyX4 tyX4_ok nmX4 hown hK hM hS (dm_8 (g := g) (i := n2) hg hn2) (ze_8 G V g n2 h5) rfl 6 (by decide) 20 rfl rfl rfl rfl rfl (Nat.le_of_ble_eq_true rfl) (by rw [eh6]; exact zn_8_5 G V g hg h5 n2 ((h5 5 n2) + (1 : Int32))) dX1_beginLoan_43 (fun H locs hM hS => ?_)
  exact hQf hf hM hS dX1_beginLoan_46
abbrev rX3_firstFor : Room := { frames := 0, cells := 0, slots := 0, locals := 0 }
set_option maxRecDepth 100000 in
set_option maxHeartbeats 4000000 in
theorem kX3_firstFor (l : Launch) (G : zG) (A : Nat → Prop) (V : zV3) (g : Nat) (hg : g < 7) (w : Nat) (hw : w < 2) (h : zV2) (p1 : Int32) {r : Int32} {h' : zV2} (hf : xX3_firstFor w h p1 = some (r, h')) : zCt l G A yX3_firstFor cX3_firstFor 3 (some .int) rX3_firstFor [.ref (gA G 3 g w), .int p1] (upG V g h) (some (.int r)) (upG V g h') := by
  refine z_CtI (by decide) (Nat.le_of_ble_eq_true rfl) ?_
  intro p e s m args below meth c Q hx hb hml hown hL hK hM hS hQ ls hl
  replace hl : lv_has ls 3 [(0, .ref (gA G 3 g w)), (1, .int p1)] := hl
  have hQf : ∀ {a : Int32} {k : zV2} {H : Heap} {locs : List Loc} {pc : Nat} {ls : Array Slot}, some (a, k) = some (r, h') → zM G (upG V g k) H → va_S A s.heap H locs → decode cX3_firstFor pc = .ok (.ireturn, 1) → W p l e rX3_firstFor s m args below meth c H locs 0 0 Q (F0 m pc ls [.int a]) := by
    intro a k H locs pc ls e1 hM hS hd
    cases e1
    exact hQ H locs pc ls hM hS hd
  have L2 : ∀ (n : Nat) (h : zV2) (a2 : Int32), xX3_firstFor_L2 w p1 n h a2 = some (r, h') → ∀ (H : Heap) (locs : List Loc) (ls : Array Slot), zM G (upG V g h) H → va_S A s.heap H locs → lv_has ls 3 [(0, .ref (gA G 3 g w)), (1, .int p1), (2, .int a2)] → W p l e rX3_firstFor s m args below meth c H locs 0 0 Q (F0 m 2 ls []) := by
    intro n
    induction n with
    | zero =>
      intro h a2 hf H locs ls hM hS hl
      rw [xX3_firstFor_L2] at hf
      cases hf
    | succ n ih =>
      intro h a2 hf H locs ls hM hS hl
      rw [xX3_firstFor_L2] at hf
      refine lv_iload_n hx hb dX3_firstFor_2 rfl (lv_at hl 2 rfl) ?_
      refine lv_aload_n hx hb dX3_firstFor_3 rfl (lv_at hl 0 rfl) ?_
      refine z_get (own := RX3) (C := RX3) (T := TX3) (N := 3) (ci := 2) (v := .int (h (23 + w) 0)) hx hb hL inX3 hown hK hM (dm_3 (g := g) (i := w) hg hw) (ze_3 G V g w h) rfl 2 (by decide) (hL _ zw1_44) rfl rfl dX3_firstFor_4 ?_
      refine lv_icmp_ge (tgt := 49) hx hb dX3_firstFor_7 (by decide) (fun c1 => ?_) (fun c1 => ?_)
      · replace hf := ift hf c1
        refine lv_iconst (v := -1) hx hb dX3_firstFor_49 (by decide) ?_
        exact hQf hf hM hS dX3_firstFor_50
      · replace hf := iff_ hf c1
        refine lv_iload_n hx hb dX3_firstFor_10 rfl (lv_at hl 2 rfl) ?_
        refine lv_bipush (v := 10) hx hb dX3_firstFor_11 (by decide) ?_
        refine lv_icmp_ge (tgt := 49) hx hb dX3_firstFor_13 (by decide) (fun c2 => ?_) (fun c2 => ?_)
        · replace hf := ift hf c2
          refine lv_iconst (v := -1) hx hb dX3_firstFor_49 (by decide) ?_
          exact hQf hf hM hS dX3_firstFor_50
        · replace hf := iff_ hf c2
          refine lv_aload_n hx hb dX3_firstFor_16 rfl (lv_at hl 0 rfl) ?_
          refine z_get (own := RX3) (C := RX3) (T := TX3) (N := 3) (ci := 2) (v := .ref (gA G 7 g w)) hx hb hL inX3 hown hK hM (dm_3 (g := g) (i := w) hg hw) (ze_3 G V g w h) rfl 1 (by decide) (hL _ zw1_43) rfl rfl dX3_firstFor_17 ?_
          refine lv_iload_n hx hb dX3_firstFor_20 rfl (lv_at hl 2 rfl) ?_
          obtain ⟨hb3, hf⟩ := grd_some hf
          refine z_iald hx hb hK hM (dm_7 (g := g) (i := w) hg hw) (ze_7 G V g w h) (inb_in hb3) dX3_firstFor_21 ?_
          refine lv_iload_n hx hb dX3_firstFor_22 rfl (lv_at hl 1 rfl) ?_
          refine lv_icmp_eq (tgt := 36) hx hb dX3_firstFor_23 (by decide) (fun c4 => ?_) (fun c4 => ?_)
          · replace hf := ift hf c4
            refine lv_aload_n hx hb dX3_firstFor_36 rfl (lv_at hl 0 rfl) ?_
            refine z_get (own := RX3) (C := RX3) (T := TX3) (N := 3) (ci := 2) (v := .ref (gA G 6 g w)) hx hb hL inX3 hown hK hM (dm_3 (g := g) (i := w) hg hw) (ze_3 G V g w h) rfl 0 (by decide) (hL _ zw1_42) rfl rfl dX3_firstFor_37 ?_
            refine lv_iload_n hx hb dX3_firstFor_40 rfl (lv_at hl 2 rfl) ?_
            obtain ⟨hb5, hf⟩ := grd_some hf
            refine z_iald hx hb hK hM (dm_6 (g := g) (i := w) hg hw) (ze_6 G V g w h) (inb_in hb5) dX3_firstFor_41 ?_
            exact hQf hf hM hS dX3_firstFor_42
          · replace hf := iff_ hf c4
            refine lv_aload_n hx hb dX3_firstFor_26 rfl (lv_at hl 0 rfl) ?_
            refine z_get (own := RX3) (C := RX3) (T := TX3) (N := 3) (ci := 2) (v := .ref (gA G 7 g w)) hx hb hL inX3 hown hK hM (dm_3 (g := g) (i := w) hg hw) (ze_3 G V g w h) rfl 1 (by decide) (hL _ zw1_43) rfl rfl dX3_firstFor_27 ?_
            refine lv_iload_n hx hb dX3_firstFor_30 rfl (lv_at hl 2 rfl) ?_
            obtain ⟨hb6, hf⟩ := grd_some hf
            refine z_iald hx hb hK hM (dm_7 (g := g) (i := w) hg hw) (ze_7 G V g w h) (inb_in hb6) dX3_firstFor_31 ?_
            refine lv_iconst (v := 3) hx hb dX3_firstFor_32 (by decide) ?_
            refine lv_icmp_ne (tgt := 43) hx hb dX3_firstFor_33 (by decide) (fun c7 => ?_) (fun c7 => ?_)
            · replace hf := iff_ hf c7
              obtain ⟨y8, ey8⟩ : ∃ y : Int32, y = a2 + (1 : Int32) := ⟨_, rfl⟩
              replace hf := ltI_some hf ey8
              refine lv_iinc (v := y8) (lv' := [(2, .int y8), (0, .ref (gA G 3 g w)), (1, .int p1)]) hx hb dX3_firstFor_43 hl (k := 2) rfl (by rw [ey8]; rfl) (by decide) rfl (fun ls hl => ?_)
              refine lv_goto (tgt := 2) hx hb dX3_firstFor_46 (by decide) ?_
              exact ih h y8 hf _ _ _ hM hS (lv_sub hl [1, 2, 0] rfl)
            · replace hf := ift hf c7
              refine lv_aload_n hx hb dX3_firstFor_36 rfl (lv_at hl 0 rfl) ?_
              refine z_get (own := RX3) (C := RX3) (T := TX3) (N := 3) (ci := 2) (v := .ref (gA G 6 g w)) hx hb hL inX3 hown hK hM (dm_3 (g := g) (i := w) hg hw) (ze_3 G V g w h) rfl 0 (by decide) (hL _ zw1_42) rfl rfl dX3_firstFor_37 ?_
              refine lv_iload_n hx hb dX3_firstFor_40 rfl (lv_at hl 2 rfl) ?_
              obtain ⟨hb9, hf⟩ := grd_some hf
              refine z_iald hx hb hK hM (dm_6 (g := g) (i := w) hg hw) (ze_6 G V g w h) (inb_in hb9) dX3_firstFor_41 ?_
              exact hQf hf hM hS dX3_firstFor_42
  unfold xX3_firstFor at hf
  refine lv_iconst (v := 0) hx hb dX3_firstFor_0 (by decide) ?_
  refine lv_istore_n (lv' := [(2, .int (0 : Int32)), (0, .ref (gA G 3 g w)), (1, .int p1)]) hx hb dX3_firstFor_1 rfl hl (by decide) rfl (fun ls hl => ?_)
  exact L2 1000 h (0 : Int32) hf _ _ _ hM hS (lv_sub hl [1, 2, 0] rfl)
abbrev rX3_remove : Room := { frames := 0, cells := 0, slots := 0, locals := 0 }
set_option maxRecDepth 100000 in
set_option maxHeartbeats 4000000 in
theorem kX3_remove (l : Launch) (G : zG) (A : Nat → Prop) (V : zV3) (g : Nat) (hg : g < 7) (w : Nat) (hw : w < 2) (h : zV2) (p1 : Int32) {r : Unit} {h' : zV2} (hf : xX3_remove w h p1 = some (r, h')) : zCt l G A yX3_remove cX3_remove 4 none rX3_remove [.ref (gA G 3 g w), .int p1] (upG V g h) none (upG V g h') := by
  refine z_CtV (by decide) (Nat.le_of_ble_eq_true rfl) ?_
  intro p e s m args below meth c Q hx hb hml hown hL hK hM hS hQ ls hl
  replace hl : lv_has ls 4 [(0, .ref (gA G 3 g w)), (1, .int p1)] := hl
  have hQf : ∀ {a : Unit} {k : zV2} {H : Heap} {locs : List Loc} {pc : Nat} {ls : Array Slot}, some (a, k) = some (r, h') → zM G (upG V g k) H → va_S A s.heap H locs → decode cX3_remove pc = .ok (.return_, 1) → W p l e rX3_remove s m args below meth c H locs 0 0 Q (F0 m pc ls []) := by
    intro a k H locs pc ls e1 hM hS hd
    cases e1
    exact hQ H locs pc ls hM hS hd
  have L4 : ∀ (n : Nat) (h : zV2) (a2 : Int32) (a3 : Int32), xX3_remove_L4 w p1 n h a2 a3 = some (r, h') → ∀ (H : Heap) (locs : List Loc) (ls : Array Slot), zM G (upG V g h) H → va_S A s.heap H locs → lv_has ls 4 [(0, .ref (gA G 3 g w)), (1, .int p1), (2, .int a2), (3, .int a3)] → W p l e rX3_remove s m args below meth c H locs 0 0 Q (F0 m 4 ls []) := by
    intro n
    induction n with
    | zero =>
      intro h a2 a3 hf H locs ls hM hS hl
      rw [xX3_remove_L4] at hf
      cases hf
    | succ n ih =>
      intro h a2 a3 hf H locs ls hM hS hl
      rw [xX3_remove_L4] at hf
      refine lv_iload_n hx hb dX3_remove_4 rfl (lv_at hl 3 rfl) ?_
      refine lv_aload_n hx hb dX3_remove_5 rfl (lv_at hl 0 rfl) ?_
      refine z_get (own := RX3) (C := RX3) (T := TX3) (N := 3) (ci := 2) (v := .int (h (23 + w) 0)) hx hb hL inX3 hown hK hM (dm_3 (g := g) (i := w) hg hw) (ze_3 G V g w h) rfl 2 (by decide) (hL _ zw1_44) rfl rfl dX3_remove_6 ?_
      refine lv_icmp_ge (tgt := 61) hx hb dX3_remove_9 (by decide) (fun c1 => ?_) (fun c1 => ?_)
      · replace hf := ift hf c1
        refine lv_aload_n hx hb dX3_remove_61 rfl (lv_at hl 0 rfl) ?_
        refine lv_iload_n hx hb dX3_remove_62 rfl (lv_at hl 2 rfl) ?_
        obtain ⟨h2, eh2⟩ : ∃ y, y = up2 h (23 + w) 0 a2 := ⟨_, rfl⟩
        replace hf := put2_some hf eh2
        refine z_put (own := RX3) (C := RX3) (T := TX3) (N := 3) (ci := 2) (V' := upG V g h2) hx hb hL inX3 tyX3 tyX3_ok nmX3 hown hK hM hS (dm_3 (g := g) (i := w) hg hw) (ze_3 G V g w h) rfl 2 (by decide) (hL _ zw1_44) rfl rfl rfl rfl (Nat.le_of_ble_eq_true rfl) (by rw [eh2]; exact zn_3_23 G V g hg h w hw a2) dX3_remove_63 (fun H locs hM hS => ?_)
        exact hQf hf hM hS dX3_remove_66
      · replace hf := iff_ hf c1
        refine lv_iload_n hx hb dX3_remove_12 rfl (lv_at hl 3 rfl) ?_
        refine lv_bipush (v := 10) hx hb dX3_remove_13 (by decide) ?_
        refine lv_icmp_ge (tgt := 61) hx hb dX3_remove_15 (by decide) (fun c3 => ?_) (fun c3 => ?_)
        · replace hf := ift hf c3
          refine lv_aload_n hx hb dX3_remove_61 rfl (lv_at hl 0 rfl) ?_
          refine lv_iload_n hx hb dX3_remove_62 rfl (lv_at hl 2 rfl) ?_
          obtain ⟨h4, eh4⟩ : ∃ y, y = up2 h (23 + w) 0 a2 := ⟨_, rfl⟩
          replace hf := put2_some hf eh4
          refine z_put (own := RX3) (C := RX3) (T := TX3) (N := 3) (ci := 2) (V' := upG V g h4) hx hb hL inX3 tyX3 tyX3_ok nmX3 hown hK hM hS (dm_3 (g := g) (i := w) hg hw) (ze_3 G V g w h) rfl 2 (by decide) (hL _ zw1_44) rfl rfl rfl rfl (Nat.le_of_ble_eq_true rfl) (by rw [eh4]; exact zn_3_23 G V g hg h w hw a2) dX3_remove_63 (fun H locs hM hS => ?_)
          exact hQf hf hM hS dX3_remove_66
        · replace hf := iff_ hf c3
          refine lv_aload_n hx hb dX3_remove_18 rfl (lv_at hl 0 rfl) ?_
          refine z_get (own := RX3) (C := RX3) (T := TX3) (N := 3) (ci := 2) (v := .ref (gA G 6 g w)) hx hb hL inX3 hown hK hM (dm_3 (g := g) (i := w) hg hw) (ze_3 G V g w h) rfl 0 (by decide) (hL _ zw1_42) rfl rfl dX3_remove_19 ?_
          refine lv_iload_n hx hb dX3_remove_22 rfl (lv_at hl 3 rfl) ?_
          obtain ⟨hb5, hf⟩ := grd_some hf
          refine z_iald hx hb hK hM (dm_6 (g := g) (i := w) hg hw) (ze_6 G V g w h) (inb_in hb5) dX3_remove_23 ?_
          refine lv_iload_n hx hb dX3_remove_24 rfl (lv_at hl 1 rfl) ?_
          refine lv_icmp_eq (tgt := 55) hx hb dX3_remove_25 (by decide) (fun c6 => ?_) (fun c6 => ?_)
          · replace hf := ift hf c6
            obtain ⟨y7, ey7⟩ : ∃ y : Int32, y = a3 + (1 : Int32) := ⟨_, rfl⟩
            replace hf := ltI_some hf ey7
            refine lv_iinc (v := y7) (lv' := [(3, .int y7), (0, .ref (gA G 3 g w)), (1, .int p1), (2, .int a2)]) hx hb dX3_remove_55 hl (k := 3) rfl (by rw [ey7]; rfl) (by decide) rfl (fun ls hl => ?_)
            refine lv_goto (tgt := 4) hx hb dX3_remove_58 (by decide) ?_
            exact ih h a2 y7 hf _ _ _ hM hS (lv_sub hl [1, 2, 3, 0] rfl)
          · replace hf := iff_ hf c6
            refine lv_aload_n hx hb dX3_remove_28 rfl (lv_at hl 0 rfl) ?_
            refine z_get (own := RX3) (C := RX3) (T := TX3) (N := 3) (ci := 2) (v := .ref (gA G 6 g w)) hx hb hL inX3 hown hK hM (dm_3 (g := g) (i := w) hg hw) (ze_3 G V g w h) rfl 0 (by decide) (hL _ zw1_42) rfl rfl dX3_remove_29 ?_
            refine lv_iload_n hx hb dX3_remove_32 rfl (lv_at hl 2 rfl) ?_
            refine lv_aload_n hx hb dX3_remove_33 rfl (lv_at hl 0 rfl) ?_
            refine z_get (own := RX3) (C := RX3) (T := TX3) (N := 3) (ci := 2) (v := .ref (gA G 6 g w)) hx hb hL inX3 hown hK hM (dm_3 (g := g) (i := w) hg hw) (ze_3 G V g w h) rfl 0 (by decide) (hL _ zw1_42) rfl rfl dX3_remove_34 ?_
            refine lv_iload_n hx hb dX3_remove_37 rfl (lv_at hl 3 rfl) ?_
            obtain ⟨hb8, hf⟩ := grd_some hf
            refine z_iald hx hb hK hM (dm_6 (g := g) (i := w) hg hw) (ze_6 G V g w h) (inb_in hb8) dX3_remove_38 ?_
            obtain ⟨hb9, hf⟩ := grd_some hf
            obtain ⟨h10, eh10⟩ : ∃ y, y = up2 h (19 + w) a2.toNatClampNeg (h (19 + w) a3.toNatClampNeg) := ⟨_, rfl⟩
            replace hf := put2_some hf eh10
            refine z_iast (V' := upG V g h10) hx hb hK hM hS (dm_6 (g := g) (i := w) hg hw) (ze_6 G V g w h) (inb_in hb9) (by rw [eh10]; exact zn_6_19 G V g hg h w hw a2.toNatClampNeg (h (19 + w) a3.toNatClampNeg)) dX3_remove_39 (fun H locs hM hS => ?_)
            refine lv_aload_n hx hb dX3_remove_40 rfl (lv_at hl 0 rfl) ?_
            refine z_get (own := RX3) (C := RX3) (T := TX3) (N := 3) (ci := 2) (v := .ref (gA G 7 g w)) hx hb hL inX3 hown hK hM (dm_3 (g := g) (i := w) hg hw) (ze_3 G V g w h10) rfl 1 (by decide) (hL _ zw1_43) rfl rfl dX3_remove_41 ?_
            refine lv_iload_n hx hb dX3_remove_44 rfl (lv_at hl 2 rfl) ?_
            refine lv_aload_n hx hb dX3_remove_45 rfl (lv_at hl 0 rfl) ?_
            refine z_get (own := RX3) (C := RX3) (T := TX3) (N := 3) (ci := 2) (v := .ref (gA G 7 g w)) hx hb hL inX3 hown hK hM (dm_3 (g := g) (i := w) hg hw) (ze_3 G V g w h10) rfl 1 (by decide) (hL _ zw1_43) rfl rfl dX3_remove_46 ?_
            refine lv_iload_n hx hb dX3_remove_49 rfl (lv_at hl 3 rfl) ?_
            obtain ⟨hb11, hf⟩ := grd_some hf
            refine z_iald hx hb hK hM (dm_7 (g := g) (i := w) hg hw) (ze_7 G V g w h10) (inb_in hb11) dX3_remove_50 ?_
            obtain ⟨hb12, hf⟩ := grd_some hf
            obtain ⟨h13, eh13⟩ : ∃ y, y = up2 h10 (21 + w) a2.toNatClampNeg (h10 (21 + w) a3.toNatClampNeg) := ⟨_, rfl⟩
            replace hf := put2_some hf eh13
            refine z_iast (V' := upG V g h13) hx hb hK hM hS (dm_7 (g := g) (i := w) hg hw) (ze_7 G V g w h10) (inb_in hb12) (by rw [eh13]; exact zn_7_21 G V g hg h10 w hw a2.toNatClampNeg (h10 (21 + w) a3.toNatClampNeg)) dX3_remove_51 (fun H locs hM hS => ?_)
            obtain ⟨y14, ey14⟩ : ∃ y : Int32, y = a2 + (1 : Int32) := ⟨_, rfl⟩
            replace hf := ltI_some hf ey14
            refine lv_iinc (v := y14) (lv' := [(2, .int y14), (0, .ref (gA G 3 g w)), (1, .int p1), (3, .int a3)]) hx hb dX3_remove_52 hl (k := 2) rfl (by rw [ey14]; rfl) (by decide) rfl (fun ls hl => ?_)
            obtain ⟨y15, ey15⟩ : ∃ y : Int32, y = a3 + (1 : Int32) := ⟨_, rfl⟩
            replace hf := ltI_some hf ey15
            refine lv_iinc (v := y15) (lv' := [(3, .int y15), (2, .int y14), (0, .ref (gA G 3 g w)), (1, .int p1)]) hx hb dX3_remove_55 hl (k := 3) rfl (by rw [ey15]; rfl) (by decide) rfl (fun ls hl => ?_)
            refine lv_goto (tgt := 4) hx hb dX3_remove_58 (by decide) ?_
            exact ih h13 y14 y15 hf _ _ _ hM hS (lv_sub hl [2, 3, 1, 0] rfl)
  unfold xX3_remove at hf
  refine lv_iconst (v := 0) hx hb dX3_remove_0 (by decide) ?_
  refine lv_istore_n (lv' := [(2, .int (0 : Int32)), (0, .ref (gA G 3 g w)), (1, .int p1)]) hx hb dX3_remove_1 rfl hl (by decide) rfl (fun ls hl => ?_)
  refine lv_iconst (v := 0) hx hb dX3_remove_2 (by decide) ?_
  refine lv_istore_n (lv' := [(3, .int (0 : Int32)), (2, .int (0 : Int32)), (0, .ref (gA G 3 g w)), (1, .int p1)]) hx hb dX3_remove_3 rfl hl (by decide) rfl (fun ls hl => ?_)
  exact L4 1000 h (0 : Int32) (0 : Int32) hf _ _ _ hM hS (lv_sub hl [2, 3, 1, 0] rfl)
abbrev rX4_isFree : Room := { frames := 0, cells := 0, slots := 0, locals := 0 }
set_option maxRecDepth 100000 in
set_option maxHeartbeats 4000000 in
theorem kX4_isFree (l : Launch) (G : zG) (A : Nat → Prop) (V : zV3) (g : Nat) (hg : g < 7) (i : Nat) (hi : i < 12) (h : zV2) {r : Int32} {h' : zV2} (hf : xX4_isFree i h  = some (r, h')) : zCt l G A yX4_isFree cX4_isFree 1 (some .boolean) rX4_isFree [.ref (gA G 8 g i)] (upG V g h) (some (.int r)) (upG V g h') := by
  refine z_CtZ (by decide) (Nat.le_of_ble_eq_true rfl) ?_
  intro p e s m args below meth c Q hx hb hml hown hL hK hM hS hQ ls hl
  replace hl : lv_has ls 1 [(0, .ref (gA G 8 g i))] := hl
  have hQf : ∀ {a : Int32} {k : zV2} {H : Heap} {locs : List Loc} {pc : Nat} {ls : Array Slot}, narrow .boolean (.int a) = .int a → some (a, k) = some (r, h') → zM G (upG V g k) H → va_S A s.heap H locs → decode cX4_isFree pc = .ok (.ireturn, 1) → W p l e rX4_isFree s m args below meth c H locs 0 0 Q (F0 m pc ls [.int a]) := by
    intro a k H locs pc ls hnr e1 hM hS hd
    cases e1
    exact hQ H locs pc ls hnr hM hS hd
  unfold xX4_isFree at hf
  refine lv_aload_n hx hb dX4_isFree_0 rfl (lv_at hl 0 rfl) ?_
  refine z_get (own := RX4) (C := RX4) (T := TX4) (N := 7) (ci := 3) (v := .int (h 1 i)) hx hb hL inX4 hown hK hM (dm_8 (g := g) (i := i) hg hi) (ze_8 G V g i h) rfl 2 (by decide) (hL _ zw1_64) rfl rfl dX4_isFree_1 ?_
  refine lv_if_eq (tgt := 27) hx hb dX4_isFree_4 (by decide) (fun c1 => ?_) (fun c1 => ?_)
  · replace hf := ift hf c1
    refine lv_iconst (v := 0) hx hb dX4_isFree_27 (by decide) ?_
    exact hQf rfl hf hM hS dX4_isFree_28
  · replace hf := iff_ hf c1
    refine lv_aload_n hx hb dX4_isFree_7 rfl (lv_at hl 0 rfl) ?_
    refine z_get (own := RX4) (C := RX4) (T := TX4) (N := 7) (ci := 3) (v := .int (h 2 i)) hx hb hL inX4 hown hK hM (dm_8 (g := g) (i := i) hg hi) (ze_8 G V g i h) rfl 3 (by decide) (hL _ zw1_66) rfl rfl dX4_isFree_8 ?_
    refine lv_iconst (v := -1) hx hb dX4_isFree_11 (by decide) ?_
    refine lv_icmp_ne (tgt := 27) hx hb dX4_isFree_12 (by decide) (fun c2 => ?_) (fun c2 => ?_)
    · replace hf := iff_ hf c2
      refine lv_iconst (v := 0) hx hb dX4_isFree_27 (by decide) ?_
      exact hQf rfl hf hM hS dX4_isFree_28
    · replace hf := ift hf c2
      refine lv_aload_n hx hb dX4_isFree_15 rfl (lv_at hl 0 rfl) ?_
      refine z_get (own := RX4) (C := RX4) (T := TX4) (N := 7) (ci := 3) (v := .int (h 4 i)) hx hb hL inX4 hown hK hM (dm_8 (g := g) (i := i) hg hi) (ze_8 G V g i h) rfl 5 (by decide) (hL _ zw1_70) rfl rfl dX4_isFree_16 ?_
      refine lv_iconst (v := -1) hx hb dX4_isFree_19 (by decide) ?_
      refine lv_icmp_ne (tgt := 27) hx hb dX4_isFree_20 (by decide) (fun c3 => ?_) (fun c3 => ?_)
      · replace hf := iff_ hf c3
        refine lv_iconst (v := 0) hx hb dX4_isFree_27 (by decide) ?_
        exact hQf rfl hf hM hS dX4_isFree_28
      · replace hf := ift hf c3
        refine lv_iconst (v := 1) hx hb dX4_isFree_23 (by decide) ?_
        refine lv_goto (tgt := 28) hx hb dX4_isFree_24 (by decide) ?_
        exact hQf rfl hf hM hS dX4_isFree_28
abbrev rX1_offer : Room := { frames := 1, cells := 0, slots := 0, locals := 23 }
set_option maxRecDepth 100000 in
set_option maxHeartbeats 4000000 in
theorem kX1_offer (l : Launch) (G : zG) (A : Nat → Prop) (V : zV3) (g : Nat) (hg : g < 7) (n1 : Nat) (hn1 : n1 < 12) (h : zV2) {r : Unit} {h' : zV2} (hf : xX1_offer n1 h  = some (r, h')) : zCt l G A yX1_offer cX1_offer 3 none rX1_offer [.ref (gA G 0 g 0), .ref (gA G 8 g n1)] (upG V g h) none (upG V g h') := by
  refine z_CtV (by decide) (Nat.le_of_ble_eq_true rfl) ?_
  intro p e s m args below meth c Q hx hb hml hown hL hK hM hS hQ ls hl
  replace hl : lv_has ls 3 [(0, .ref (gA G 0 g 0)), (1, .ref (gA G 8 g n1))] := hl
  have hQf : ∀ {a : Unit} {k : zV2} {H : Heap} {locs : List Loc} {pc : Nat} {ls : Array Slot}, some (a, k) = some (r, h') → zM G (upG V g k) H → va_S A s.heap H locs → decode cX1_offer pc = .ok (.return_, 1) → W p l e rX1_offer s m args below meth c H locs 0 0 Q (F0 m pc ls []) := by
    intro a k H locs pc ls e1 hM hS hd
    cases e1
    exact hQ H locs pc ls hM hS hd
  unfold xX1_offer at hf
  refine lv_aload_n hx hb dX1_offer_0 rfl (lv_at hl 0 rfl) ?_
  refine lv_aload_n hx hb dX1_offer_1 rfl (lv_at hl 0 rfl) ?_
  refine z_get (own := RX1) (C := RX1) (T := TX1) (N := 10) (ci := 0) (v := .ref (gA G 3 g 0)) hx hb hL inX1 hown hK hM (dm_0 (g := g) (i := 0) hg rfl) (ze_0 G V g 0 h) rfl 2 (by decide) (hL _ zw1_130) rfl rfl dX1_offer_2 ?_
  refine lv_aload_n hx hb dX1_offer_5 rfl (lv_at hl 1 rfl) ?_
  refine z_getN (own := RX1) (C := RX4) (T := TX4) (N := 7) (ci := 3) (v := .int (h 0 n1)) hx hb hL inX4 hown hK hM (dm_8 (g := g) (i := n1) hg hn1) (ze_8 G V g n1 h) rfl 1 (by decide) 22 rfl rfl rfl dX1_offer_6 ?_
  obtain ⟨r1, h3, hc2, hf⟩ := bnd_some hf
  refine z_callV (As := [.int (h 0 n1)]) (rest := [.ref (gA G 0 g 0)]) (C := RX3) hx hb hml hown hL hK hM hS (kX3_firstFor l G A V g hg 0 (by decide) h (h 0 n1) hc2) (zg_X3_firstFor zw2_81) zv_X3_firstFor ⟨rfl, rfl⟩ ⟨Nat.le_of_ble_eq_true rfl, Nat.le_of_ble_eq_true rfl⟩ (hM.recv hK (dm_3 (g := g) (i := 0) hg (by decide)) (ze_3 G V g 0 h) rfl) rfl hl.1 rfl (Nat.le_of_ble_eq_true rfl) dX1_offer_9 ⟨Nat.zero_le _, Nat.zero_le _⟩ (fun H locs hM hS => ?_)
  refine W.eq (g2 := F0 m 12 ls [.int r1, .ref (gA G 0 g 0)]) rfl ?_
  obtain ⟨r4, h6, hc5, hf⟩ := bnd_some hf
  refine z_callV (As := [.int r1]) (rest := []) (C := RX1) hx hb hml hown hL hK hM hS (kX1_personAt l G A V g hg h3 r1 hc5) (zg_X1_personAt zw2_85) zv_X1_personAt ⟨rfl, rfl⟩ ⟨Nat.le_of_ble_eq_true rfl, Nat.le_of_ble_eq_true rfl⟩ (hM.recv hK (dm_0 (g := g) (i := 0) hg rfl) (ze_0 G V g 0 h3) rfl) rfl hl.1 rfl (Nat.le_of_ble_eq_true rfl) dX1_offer_12 ⟨Nat.zero_le _, Nat.zero_le _⟩ (fun H locs hM hS => ?_)
  cases r4 with
  | none =>
    replace hf := optm_none hf
    refine W.eq (g2 := F0 m 15 ls [.null]) rfl ?_
    refine lv_astore_nN (lv' := [(2, .null), (0, .ref (gA G 0 g 0)), (1, .ref (gA G 8 g n1))]) hx hb dX1_offer_15 rfl hl (by decide) rfl (fun ls hl => ?_)
    refine lv_aload_nN hx hb dX1_offer_16 rfl (lv_at hl 0 rfl) ?_
    refine lv_ifnullN (tgt := 44) hx hb dX1_offer_17 (by decide) ?_
    exact hQf hf hM hS dX1_offer_44
  | some q7 =>
    replace hf := optm_s hf
    obtain ⟨hq7, hf⟩ := grd_some hf
    replace hq7 := of_decide_eq_true hq7
    refine W.eq (g2 := F0 m 15 ls [.ref (gA G 9 g q7)]) rfl ?_
    refine lv_astore_n (lv' := [(2, .ref (gA G 9 g q7)), (0, .ref (gA G 0 g 0)), (1, .ref (gA G 8 g n1))]) hx hb dX1_offer_15 rfl hl (by decide) rfl (fun ls hl => ?_)
    refine lv_aload_n hx hb dX1_offer_16 rfl (lv_at hl 0 rfl) ?_
    refine lv_ifnull hx hb dX1_offer_17 ?_
    refine lv_aload_n hx hb dX1_offer_20 rfl (lv_at hl 2 rfl) ?_
    obtain ⟨r8, h10, hc9, hf⟩ := bnd_some hf
    refine z_callV (As := []) (rest := []) (C := RX4) hx hb hml hown hL hK hM hS (kX4_isFree l G A V g hg n1 hn1 h6 hc9) (zg_X4_isFree zw2_89) zv_X4_isFree ⟨rfl, rfl⟩ ⟨Nat.le_of_ble_eq_true rfl, Nat.le_of_ble_eq_true rfl⟩ (hM.recv hK (dm_8 (g := g) (i := n1) hg hn1) (ze_8 G V g n1 h6) rfl) rfl hl.1 rfl (Nat.le_of_ble_eq_true rfl) dX1_offer_21 ⟨Nat.zero_le _, Nat.zero_le _⟩ (fun H locs hM hS => ?_)
    refine W.eq (g2 := F0 m 24 ls [.int r8]) rfl ?_
    refine lv_if_eq (tgt := 44) hx hb dX1_offer_24 (by decide) (fun c11 => ?_) (fun c11 => ?_)
    · replace hf := ift hf c11
      exact hQf hf hM hS dX1_offer_44
    · replace hf := iff_ hf c11
      refine lv_aload_n hx hb dX1_offer_27 rfl (lv_at hl 1 rfl) ?_
      refine z_get (own := RX1) (C := RX1) (T := TX1) (N := 10) (ci := 0) (v := .ref (gA G 3 g 0)) hx hb hL inX1 hown hK hM (dm_0 (g := g) (i := 0) hg rfl) (ze_0 G V g 0 h10) rfl 2 (by decide) (hL _ zw1_130) rfl rfl dX1_offer_28 ?_
      refine lv_aload_n hx hb dX1_offer_31 rfl (lv_at hl 0 rfl) ?_
      refine z_getN (own := RX1) (C := RX5) (T := TX5) (N := 8) (ci := 4) (v := .int (nI q7)) hx hb hL inX5 hown hK hM (dm_9 (g := g) (i := q7) hg hq7) (ze_9 G V g q7 h10) rfl 0 (by decide) 16 rfl rfl rfl dX1_offer_32 ?_
      obtain ⟨r12, h14, hc13, hf⟩ := bnd_some hf
      refine z_callV (As := [.int (nI q7)]) (rest := []) (C := RX3) hx hb hml hown hL hK hM hS (kX3_remove l G A V g hg 0 (by decide) h10 (nI q7) hc13) (zg_X3_remove zw2_93) zv_X3_remove ⟨rfl, rfl⟩ ⟨Nat.le_of_ble_eq_true rfl, Nat.le_of_ble_eq_true rfl⟩ (hM.recv hK (dm_3 (g := g) (i := 0) hg (by decide)) (ze_3 G V g 0 h10) rfl) rfl hl.1 rfl (Nat.le_of_ble_eq_true rfl) dX1_offer_35 ⟨Nat.zero_le _, Nat.zero_le _⟩ (fun H locs hM hS => ?_)
      refine W.eq (g2 := F0 m 38 ls []) rfl ?_
      refine lv_aload_n hx hb dX1_offer_38 rfl (lv_at hl 1 rfl) ?_
      refine lv_aload_n hx hb dX1_offer_39 rfl (lv_at hl 0 rfl) ?_
      refine lv_aload_n hx hb dX1_offer_40 rfl (lv_at hl 2 rfl) ?_
      obtain ⟨r15, h17, hc16, hf⟩ := bnd_some hf
      refine z_callV (As := [.ref (gA G 9 g q7), .ref (gA G 8 g n1)]) (rest := []) (C := RX1) hx hb hml hown hL hK hM hS (kX1_beginLoan l G A V g hg q7 hq7 n1 hn1 h14 hc16) (zg_X1_beginLoan zw2_97) zv_X1_beginLoan ⟨rfl, rfl⟩ ⟨Nat.le_of_ble_eq_true rfl, Nat.le_of_ble_eq_true rfl⟩ (hM.recv hK (dm_0 (g := g) (i := 0) hg rfl) (ze_0 G V g 0 h14) rfl) rfl hl.1 rfl (Nat.le_of_ble_eq_true rfl) dX1_offer_41 ⟨Nat.zero_le _, Nat.zero_le _⟩ (fun H locs hM hS => ?_)
      refine W.eq (g2 := F0 m 44 ls []) rfl ?_
      exact hQf hf hM hS dX1_offer_44
