abbrev rX9_wouldHave : Room := { frames := 5, cells := 0, slots := 0, locals := 115 }
set_option maxRecDepth 100000 in
set_option maxHeartbeats 4000000 in
theorem kX9_wouldHave (l : Launch) (G : zG) (A : Nat → Prop) (V : zV3) (p1 : Int32) {r : Int32} {V' : zV3} (hf : xX9_wouldHave V p1 = some (r, V')) : zCt l G A yX9_wouldHave cX9_wouldHave 2 (some .int) rX9_wouldHave [.ref (gA G 10 0 0), .int p1] V (some (.int r)) V' := by
  refine z_CtI (by decide) (Nat.le_of_ble_eq_true rfl) ?_
  intro p e s m args below meth c Q hx hb hml hown hL hK hM hS hQ ls hl
  replace hl : lv_has ls 2 [(0, .ref (gA G 10 0 0)), (1, .int p1)] := hl
  have hQf : ∀ {a : Int32} {k : zV3} {H : Heap} {locs : List Loc} {pc : Nat} {ls : Array Slot}, some (a, k) = some (r, V') → zM G k H → va_S A s.heap H locs → decode cX9_wouldHave pc = .ok (.ireturn, 1) → W p l e rX9_wouldHave s m args below meth c H locs 0 0 Q (F0 m pc ls [.int a]) := by
    intro a k H locs pc ls e1 hM hS hd
    cases e1
    exact hQ H locs pc ls hM hS hd
  unfold xX9_wouldHave at hf
  refine lv_aload_n hx hb dX9_wouldHave_0 rfl (lv_at hl 0 rfl) ?_
  refine z_get (own := RX9) (C := RX9) (T := TX9) (N := 4) (ci := 7) (v := .ref (gA G 15 0 0)) hx hb hL inX9 hown hK hM dm_10 (zd_10 G V) rfl 3 (by decide) (hL _ zw2_4) rfl rfl dX9_wouldHave_1 ?_
  refine lv_aload_n hx hb dX9_wouldHave_4 rfl (lv_at hl 0 rfl) ?_
  refine z_get (own := RX9) (C := RX9) (T := TX9) (N := 4) (ci := 7) (v := .ref (gA G 0 0 0)) hx hb hL inX9 hown hK hM dm_10 (zd_10 G V) rfl 0 (by decide) (hL _ zw2_1) rfl rfl dX9_wouldHave_5 ?_
  refine lv_iload_n hx hb dX9_wouldHave_8 rfl (lv_at hl 1 rfl) ?_
  obtain ⟨r1, V3, hc2, hf⟩ := bnd_some hf
  refine z_callV (As := [.ref (gA G 0 0 0), .int p1]) (rest := []) (C := RX6) hx hb hml hown hL hK hM hS (kX6_lockerBehindSwapping l G A V 0 (by decide) p1 hc2) (zg_X6_lockerBehindSwapping zw3_90) zv_X6_lockerBehindSwapping ⟨rfl, rfl⟩ ⟨Nat.le_of_ble_eq_true rfl, Nat.le_of_ble_eq_true rfl⟩ (hM.recv hK dm_15 (zd_15 G V 0 0) rfl) rfl hl.1 rfl (Nat.le_of_ble_eq_true rfl) dX9_wouldHave_9 ⟨Nat.zero_le _, Nat.zero_le _⟩ (fun H locs hM hS => ?_)
  refine W.eq (g2 := F0 m 12 ls [.int r1]) rfl ?_
  exact hQf hf hM hS dX9_wouldHave_12
abbrev rX9_undo : Room := { frames := 3, cells := 0, slots := 0, locals := 65 }
set_option maxRecDepth 100000 in
set_option maxHeartbeats 4000000 in
theorem kX9_undo (l : Launch) (G : zG) (A : Nat → Prop) (V : zV3) {r : Int32} {V' : zV3} (hf : xX9_undo V  = some (r, V')) : zCt l G A yX9_undo cX9_undo 1 (some .int) rX9_undo [.ref (gA G 10 0 0)] V (some (.int r)) V' := by
  refine z_CtI (by decide) (Nat.le_of_ble_eq_true rfl) ?_
  intro p e s m args below meth c Q hx hb hml hown hL hK hM hS hQ ls hl
  replace hl : lv_has ls 1 [(0, .ref (gA G 10 0 0))] := hl
  have hQf : ∀ {a : Int32} {k : zV3} {H : Heap} {locs : List Loc} {pc : Nat} {ls : Array Slot}, some (a, k) = some (r, V') → zM G k H → va_S A s.heap H locs → decode cX9_undo pc = .ok (.ireturn, 1) → W p l e rX9_undo s m args below meth c H locs 0 0 Q (F0 m pc ls [.int a]) := by
    intro a k H locs pc ls e1 hM hS hd
    cases e1
    exact hQ H locs pc ls hM hS hd
  unfold xX9_undo at hf
  refine lv_aload_n hx hb dX9_undo_0 rfl (lv_at hl 0 rfl) ?_
  refine z_get (own := RX9) (C := RX9) (T := TX9) (N := 4) (ci := 7) (v := .ref (gA G 11 0 0)) hx hb hL inX9 hown hK hM dm_10 (zd_10 G V) rfl 1 (by decide) (hL _ zw2_2) rfl rfl dX9_undo_1 ?_
  refine lv_aload_n hx hb dX9_undo_4 rfl (lv_at hl 0 rfl) ?_
  refine z_get (own := RX9) (C := RX9) (T := TX9) (N := 4) (ci := 7) (v := .ref (gA G 0 0 0)) hx hb hL inX9 hown hK hM dm_10 (zd_10 G V) rfl 0 (by decide) (hL _ zw2_1) rfl rfl dX9_undo_5 ?_
  obtain ⟨r1, V3, hc2, hf⟩ := bnd_some hf
  refine z_callV (As := [.ref (gA G 0 0 0)]) (rest := []) (C := RX2) hx hb hml hown hL hK hM hS (kX2_restore l G A V 0 (by decide) hc2) (zg_X2_restore zw3_124) zv_X2_restore ⟨rfl, rfl⟩ ⟨Nat.le_of_ble_eq_true rfl, Nat.le_of_ble_eq_true rfl⟩ (hM.recv hK dm_11 (zd_11 G V 0 0) rfl) rfl hl.1 rfl (Nat.le_of_ble_eq_true rfl) dX9_undo_8 ⟨Nat.zero_le _, Nat.zero_le _⟩ (fun H locs hM hS => ?_)
  refine W.eq (g2 := F0 m 11 ls [.int r1]) rfl ?_
  exact hQf hf hM hS dX9_undo_11
abbrev rX9_type : Room := { frames := 1, cells := 0, slots := 0, locals := 21 }
set_option maxRecDepth 100000 in
set_option maxHeartbeats 4000000 in
theorem kX9_type (l : Launch) (G : zG) (A : Nat → Prop) (V : zV3) (p1 : Int32) {r : Int32} {V' : zV3} (hf : xX9_type V p1 = some (r, V')) : zCt l G A yX9_type cX9_type 2 (some .int) rX9_type [.ref (gA G 10 0 0), .int p1] V (some (.int r)) V' := by
  refine z_CtI (by decide) (Nat.le_of_ble_eq_true rfl) ?_
  intro p e s m args below meth c Q hx hb hml hown hL hK hM hS hQ ls hl
  replace hl : lv_has ls 2 [(0, .ref (gA G 10 0 0)), (1, .int p1)] := hl
  have hQf : ∀ {a : Int32} {k : zV3} {H : Heap} {locs : List Loc} {pc : Nat} {ls : Array Slot}, some (a, k) = some (r, V') → zM G k H → va_S A s.heap H locs → decode cX9_type pc = .ok (.ireturn, 1) → W p l e rX9_type s m args below meth c H locs 0 0 Q (F0 m pc ls [.int a]) := by
    intro a k H locs pc ls e1 hM hS hd
    cases e1
    exact hQ H locs pc ls hM hS hd
  unfold xX9_type at hf
  refine lv_aload_n hx hb dX9_type_0 rfl (lv_at hl 0 rfl) ?_
  refine z_get (own := RX9) (C := RX9) (T := TX9) (N := 4) (ci := 7) (v := .ref (gA G 13 0 0)) hx hb hL inX9 hown hK hM dm_10 (zd_10 G V) rfl 2 (by decide) (hL _ zw2_3) rfl rfl dX9_type_1 ?_
  refine lv_iload_n hx hb dX9_type_4 rfl (lv_at hl 1 rfl) ?_
  obtain ⟨r1, k3, V4, hc2, eV4, hf⟩ := bndG_some hf
  refine z_callV (As := [.int p1]) (rest := []) (C := RX7) hx hb hml hown hL hK hM hS (z_ctG (kX7_append l G A V (V 7) p1 hc2)) (zg_X7_append zw3_132) zv_X7_append ⟨rfl, rfl⟩ ⟨Nat.le_of_ble_eq_true rfl, Nat.le_of_ble_eq_true rfl⟩ (hM.recv hK dm_13 (zd_13 G V 0 0) rfl) rfl hl.1 rfl (Nat.le_of_ble_eq_true rfl) dX9_type_5 ⟨Nat.zero_le _, Nat.zero_le _⟩ (fun H locs hM hS => ?_)
  rw [← eV4] at hM
  refine W.eq (g2 := F0 m 8 ls [.int r1]) rfl ?_
  exact hQf hf hM hS dX9_type_8
abbrev rX9_clearText : Room := { frames := 1, cells := 0, slots := 0, locals := 21 }
set_option maxRecDepth 100000 in
set_option maxHeartbeats 4000000 in
theorem kX9_clearText (l : Launch) (G : zG) (A : Nat → Prop) (V : zV3) {r : Int32} {V' : zV3} (hf : xX9_clearText V  = some (r, V')) : zCt l G A yX9_clearText cX9_clearText 1 (some .int) rX9_clearText [.ref (gA G 10 0 0)] V (some (.int r)) V' := by
  refine z_CtI (by decide) (Nat.le_of_ble_eq_true rfl) ?_
  intro p e s m args below meth c Q hx hb hml hown hL hK hM hS hQ ls hl
  replace hl : lv_has ls 1 [(0, .ref (gA G 10 0 0))] := hl
  have hQf : ∀ {a : Int32} {k : zV3} {H : Heap} {locs : List Loc} {pc : Nat} {ls : Array Slot}, some (a, k) = some (r, V') → zM G k H → va_S A s.heap H locs → decode cX9_clearText pc = .ok (.ireturn, 1) → W p l e rX9_clearText s m args below meth c H locs 0 0 Q (F0 m pc ls [.int a]) := by
    intro a k H locs pc ls e1 hM hS hd
    cases e1
    exact hQ H locs pc ls hM hS hd
  unfold xX9_clearText at hf
  refine lv_aload_n hx hb dX9_clearText_0 rfl (lv_at hl 0 rfl) ?_
  refine z_get (own := RX9) (C := RX9) (T := TX9) (N := 4) (ci := 7) (v := .ref (gA G 13 0 0)) hx hb hL inX9 hown hK hM dm_10 (zd_10 G V) rfl 2 (by decide) (hL _ zw2_3) rfl rfl dX9_clearText_1 ?_
  obtain ⟨r1, k3, V4, hc2, eV4, hf⟩ := bndG_some hf
  refine z_callV (As := []) (rest := []) (C := RX7) hx hb hml hown hL hK hM hS (z_ctG (kX7_clear l G A V (V 7) hc2)) (zg_X7_clear zw3_140) zv_X7_clear ⟨rfl, rfl⟩ ⟨Nat.le_of_ble_eq_true rfl, Nat.le_of_ble_eq_true rfl⟩ (hM.recv hK dm_13 (zd_13 G V 0 0) rfl) rfl hl.1 rfl (Nat.le_of_ble_eq_true rfl) dX9_clearText_4 ⟨Nat.zero_le _, Nat.zero_le _⟩ (fun H locs hM hS => ?_)
  rw [← eV4] at hM
  refine W.eq (g2 := F0 m 7 ls [.int r1]) rfl ?_
  exact hQf hf hM hS dX9_clearText_7
abbrev rX10_in : Room := { frames := 0, cells := 0, slots := 0, locals := 0 }
set_option maxRecDepth 100000 in
set_option maxHeartbeats 4000000 in
theorem kX10_in (l : Launch) (G : zG) (A : Nat → Prop) (V : zV3) (h : zV2) (p1 : Int32) (p2 : Int32) (p3 : Int32) {r : Int32} {h' : zV2} (hf : xX10_in h p1 p2 p3 = some (r, h')) : zCt l G A yX10_in cX10_in 3 (some .boolean) rX10_in [.int p1, .int p2, .int p3] (upG V 8 h) (some (.int r)) (upG V 8 h') := by
  refine z_CtZ (by decide) (Nat.le_of_ble_eq_true rfl) ?_
  intro p e s m args below meth c Q hx hb hml hown hL hK hM hS hQ ls hl
  replace hl : lv_has ls 3 [(0, .int p1), (1, .int p2), (2, .int p3)] := hl
  have hQf : ∀ {a : Int32} {k : zV2} {H : Heap} {locs : List Loc} {pc : Nat} {ls : Array Slot}, narrow .boolean (.int a) = .int a → some (a, k) = some (r, h') → zM G (upG V 8 k) H → va_S A s.heap H locs → decode cX10_in pc = .ok (.ireturn, 1) → W p l e rX10_in s m args below meth c H locs 0 0 Q (F0 m pc ls [.int a]) := by
    intro a k H locs pc ls hnr e1 hM hS hd
    cases e1
    exact hQ H locs pc ls hnr hM hS hd
  unfold xX10_in at hf
  refine lv_iload_n hx hb dX10_in_0 rfl (lv_at hl 0 rfl) ?_
  refine lv_iload_n hx hb dX10_in_1 rfl (lv_at hl 1 rfl) ?_
  refine lv_icmp_lt (tgt := 14) hx hb dX10_in_2 (by decide) (fun c1 => ?_) (fun c1 => ?_)
  · replace hf := ift hf c1
    refine lv_iconst (v := 0) hx hb dX10_in_14 (by decide) ?_
    exact hQf rfl hf hM hS dX10_in_15
  · replace hf := iff_ hf c1
    refine lv_iload_n hx hb dX10_in_5 rfl (lv_at hl 0 rfl) ?_
    refine lv_iload_n hx hb dX10_in_6 rfl (lv_at hl 2 rfl) ?_
    refine lv_icmp_gt (tgt := 14) hx hb dX10_in_7 (by decide) (fun c2 => ?_) (fun c2 => ?_)
    · replace hf := ift hf c2
      refine lv_iconst (v := 0) hx hb dX10_in_14 (by decide) ?_
      exact hQf rfl hf hM hS dX10_in_15
    · replace hf := iff_ hf c2
      refine lv_iconst (v := 1) hx hb dX10_in_10 (by decide) ?_
      refine lv_goto (tgt := 15) hx hb dX10_in_11 (by decide) ?_
      exact hQf rfl hf hM hS dX10_in_15
abbrev rX10_isLocker : Room := { frames := 1, cells := 0, slots := 0, locals := 22 }
set_option maxRecDepth 100000 in
set_option maxHeartbeats 4000000 in
theorem kX10_isLocker (l : Launch) (G : zG) (A : Nat → Prop) (V : zV3) (h : zV2) (p1 : Int32) {r : Int32} {h' : zV2} (hf : xX10_isLocker h p1 = some (r, h')) : zCt l G A yX10_isLocker cX10_isLocker 2 (some .boolean) rX10_isLocker [.ref (gA G 16 0 0), .int p1] (upG V 8 h) (some (.int r)) (upG V 8 h') := by
  refine z_CtZ (by decide) (Nat.le_of_ble_eq_true rfl) ?_
  intro p e s m args below meth c Q hx hb hml hown hL hK hM hS hQ ls hl
  replace hl : lv_has ls 2 [(0, .ref (gA G 16 0 0)), (1, .int p1)] := hl
  have hQf : ∀ {a : Int32} {k : zV2} {H : Heap} {locs : List Loc} {pc : Nat} {ls : Array Slot}, narrow .boolean (.int a) = .int a → some (a, k) = some (r, h') → zM G (upG V 8 k) H → va_S A s.heap H locs → decode cX10_isLocker pc = .ok (.ireturn, 1) → W p l e rX10_isLocker s m args below meth c H locs 0 0 Q (F0 m pc ls [.int a]) := by
    intro a k H locs pc ls hnr e1 hM hS hd
    cases e1
    exact hQ H locs pc ls hnr hM hS hd
  unfold xX10_isLocker at hf
  refine lv_iload_n hx hb dX10_isLocker_0 rfl (lv_at hl 1 rfl) ?_
  refine lv_iconst (v := 0) hx hb dX10_isLocker_1 (by decide) ?_
  refine lv_aload_n hx hb dX10_isLocker_2 rfl (lv_at hl 0 rfl) ?_
  refine z_get (own := RX10) (C := RX10) (T := TX10) (N := 12) (ci := 8) (v := .ref (gA G 17 0 0)) hx hb hL inX10 hown hK hM dm_16 (ze_16 G V 0 0 h) rfl 0 (by decide) (hL _ zw4_19) rfl rfl dX10_isLocker_3 ?_
  refine lv_iconst (v := 4) hx hb dX10_isLocker_6 (by decide) ?_
  obtain ⟨hb1, hf⟩ := grd_some hf
  refine z_iald hx hb hK hM (dm_17 (i := 0) (by decide)) (ze_17_0 G V h) (inb_in hb1) dX10_isLocker_7 ?_
  refine lv_iconst (v := 1) hx hb dX10_isLocker_8 (by decide) ?_
  refine lv_isub hx hb dX10_isLocker_9 ?_
  obtain ⟨r2, h4, hc3, hf⟩ := bnd_some hf
  refine z_callS (As := [.int p1, .int (0 : Int32), .int ((h 0 ((4 : Int32).toNatClampNeg)) - (1 : Int32))]) (rest := []) hx hb hml hown hL hK hM hS (kX10_in l G A V h p1 (0 : Int32) ((h 0 ((4 : Int32).toNatClampNeg)) - (1 : Int32)) hc3) (zg_X10_in zw4_68) zy_X10_in ⟨rfl, rfl⟩ ⟨Nat.le_of_ble_eq_true rfl, Nat.le_of_ble_eq_true rfl⟩ rfl hl.1 rfl (Nat.le_of_ble_eq_true rfl) dX10_isLocker_10 ⟨Nat.zero_le _, Nat.zero_le _⟩ (fun H locs hM hS => ?_)
  refine W.eq (g2 := F0 m 13 ls [.int r2]) rfl ?_
  obtain ⟨hb5, hf⟩ := grd_some hf
  exact hQf (isb_z hb5) hf hM hS dX10_isLocker_13
abbrev rX10_isPerson : Room := { frames := 1, cells := 0, slots := 0, locals := 22 }
set_option maxRecDepth 100000 in
set_option maxHeartbeats 4000000 in
theorem kX10_isPerson (l : Launch) (G : zG) (A : Nat → Prop) (V : zV3) (h : zV2) (p1 : Int32) {r : Int32} {h' : zV2} (hf : xX10_isPerson h p1 = some (r, h')) : zCt l G A yX10_isPerson cX10_isPerson 2 (some .boolean) rX10_isPerson [.ref (gA G 16 0 0), .int p1] (upG V 8 h) (some (.int r)) (upG V 8 h') := by
  refine z_CtZ (by decide) (Nat.le_of_ble_eq_true rfl) ?_
  intro p e s m args below meth c Q hx hb hml hown hL hK hM hS hQ ls hl
  replace hl : lv_has ls 2 [(0, .ref (gA G 16 0 0)), (1, .int p1)] := hl
  have hQf : ∀ {a : Int32} {k : zV2} {H : Heap} {locs : List Loc} {pc : Nat} {ls : Array Slot}, narrow .boolean (.int a) = .int a → some (a, k) = some (r, h') → zM G (upG V 8 k) H → va_S A s.heap H locs → decode cX10_isPerson pc = .ok (.ireturn, 1) → W p l e rX10_isPerson s m args below meth c H locs 0 0 Q (F0 m pc ls [.int a]) := by
    intro a k H locs pc ls hnr e1 hM hS hd
    cases e1
    exact hQ H locs pc ls hnr hM hS hd
  unfold xX10_isPerson at hf
  refine lv_iload_n hx hb dX10_isPerson_0 rfl (lv_at hl 1 rfl) ?_
  refine lv_iconst (v := 0) hx hb dX10_isPerson_1 (by decide) ?_
  refine lv_aload_n hx hb dX10_isPerson_2 rfl (lv_at hl 0 rfl) ?_
  refine z_get (own := RX10) (C := RX10) (T := TX10) (N := 12) (ci := 8) (v := .ref (gA G 17 0 0)) hx hb hL inX10 hown hK hM dm_16 (ze_16 G V 0 0 h) rfl 0 (by decide) (hL _ zw4_19) rfl rfl dX10_isPerson_3 ?_
  refine lv_iconst (v := 5) hx hb dX10_isPerson_6 (by decide) ?_
  obtain ⟨hb1, hf⟩ := grd_some hf
  refine z_iald hx hb hK hM (dm_17 (i := 0) (by decide)) (ze_17_0 G V h) (inb_in hb1) dX10_isPerson_7 ?_
  refine lv_iconst (v := 1) hx hb dX10_isPerson_8 (by decide) ?_
  refine lv_isub hx hb dX10_isPerson_9 ?_
  obtain ⟨r2, h4, hc3, hf⟩ := bnd_some hf
  refine z_callS (As := [.int p1, .int (0 : Int32), .int ((h 0 ((5 : Int32).toNatClampNeg)) - (1 : Int32))]) (rest := []) hx hb hml hown hL hK hM hS (kX10_in l G A V h p1 (0 : Int32) ((h 0 ((5 : Int32).toNatClampNeg)) - (1 : Int32)) hc3) (zg_X10_in zw4_68) zy_X10_in ⟨rfl, rfl⟩ ⟨Nat.le_of_ble_eq_true rfl, Nat.le_of_ble_eq_true rfl⟩ rfl hl.1 rfl (Nat.le_of_ble_eq_true rfl) dX10_isPerson_10 ⟨Nat.zero_le _, Nat.zero_le _⟩ (fun H locs hM hS => ?_)
  refine W.eq (g2 := F0 m 13 ls [.int r2]) rfl ?_
  obtain ⟨hb5, hf⟩ := grd_some hf
  exact hQf (isb_z hb5) hf hM hS dX10_isPerson_13
abbrev rX10_of : Room := { frames := 0, cells := 0, slots := 0, locals := 0 }
set_option maxRecDepth 100000 in
set_option maxHeartbeats 4000000 in
theorem kX10_of (l : Launch) (G : zG) (A : Nat → Prop) (V : zV3) (h : zV2) (p1 : Int32) (p2 : Int32) {r : Int32} {h' : zV2} (hf : xX10_of h p1 p2 = some (r, h')) : zCt l G A yX10_of cX10_of 3 (some .int) rX10_of [.ref (gA G 16 0 0), .int p1, .int p2] (upG V 8 h) (some (.int r)) (upG V 8 h') := by
  refine z_CtI (by decide) (Nat.le_of_ble_eq_true rfl) ?_
  intro p e s m args below meth c Q hx hb hml hown hL hK hM hS hQ ls hl
  replace hl : lv_has ls 3 [(0, .ref (gA G 16 0 0)), (1, .int p1), (2, .int p2)] := hl
  have hQf : ∀ {a : Int32} {k : zV2} {H : Heap} {locs : List Loc} {pc : Nat} {ls : Array Slot}, some (a, k) = some (r, h') → zM G (upG V 8 k) H → va_S A s.heap H locs → decode cX10_of pc = .ok (.ireturn, 1) → W p l e rX10_of s m args below meth c H locs 0 0 Q (F0 m pc ls [.int a]) := by
    intro a k H locs pc ls e1 hM hS hd
    cases e1
    exact hQ H locs pc ls hM hS hd
  unfold xX10_of at hf
  refine lv_aload_n hx hb dX10_of_0 rfl (lv_at hl 0 rfl) ?_
  refine z_get (own := RX10) (C := RX10) (T := TX10) (N := 12) (ci := 8) (v := .ref (gA G 17 0 0)) hx hb hL inX10 hown hK hM dm_16 (ze_16 G V 0 0 h) rfl 0 (by decide) (hL _ zw4_19) rfl rfl dX10_of_1 ?_
  refine lv_bipush (v := 11) hx hb dX10_of_4 (by decide) ?_
  refine lv_bipush (v := 6) hx hb dX10_of_6 (by decide) ?_
  refine lv_iload_n hx hb dX10_of_8 rfl (lv_at hl 1 rfl) ?_
  refine lv_imul hx hb dX10_of_9 ?_
  refine lv_iadd hx hb dX10_of_10 ?_
  refine lv_iload_n hx hb dX10_of_11 rfl (lv_at hl 2 rfl) ?_
  refine lv_iadd hx hb dX10_of_12 ?_
  obtain ⟨hb1, hf⟩ := grd_some hf
  refine z_iald hx hb hK hM (dm_17 (i := 0) (by decide)) (ze_17_0 G V h) (inb_in hb1) dX10_of_13 ?_
  exact hQf hf hM hS dX10_of_14
abbrev rX10_lay : Room := { frames := 0, cells := 0, slots := 0, locals := 0 }
set_option maxRecDepth 100000 in
set_option maxHeartbeats 4000000 in
theorem kX10_lay (l : Launch) (G : zG) (A : Nat → Prop) (V : zV3) (h : zV2) (p1 : Int32) (p2 : Int32) (p3 : Int32) {r : Unit} {h' : zV2} (hf : xX10_lay h p1 p2 p3 = some (r, h')) : zCt l G A yX10_lay cX10_lay 4 none rX10_lay [.ref (gA G 16 0 0), .int p1, .int p2, .int p3] (upG V 8 h) none (upG V 8 h') := by
  refine z_CtV (by decide) (Nat.le_of_ble_eq_true rfl) ?_
  intro p e s m args below meth c Q hx hb hml hown hL hK hM hS hQ ls hl
  replace hl : lv_has ls 4 [(0, .ref (gA G 16 0 0)), (1, .int p1), (2, .int p2), (3, .int p3)] := hl
  have hQf : ∀ {a : Unit} {k : zV2} {H : Heap} {locs : List Loc} {pc : Nat} {ls : Array Slot}, some (a, k) = some (r, h') → zM G (upG V 8 k) H → va_S A s.heap H locs → decode cX10_lay pc = .ok (.return_, 1) → W p l e rX10_lay s m args below meth c H locs 0 0 Q (F0 m pc ls []) := by
    intro a k H locs pc ls e1 hM hS hd
    cases e1
    exact hQ H locs pc ls hM hS hd
  unfold xX10_lay at hf
  refine lv_aload_n hx hb dX10_lay_0 rfl (lv_at hl 0 rfl) ?_
  refine z_get (own := RX10) (C := RX10) (T := TX10) (N := 12) (ci := 8) (v := .ref (gA G 17 0 0)) hx hb hL inX10 hown hK hM dm_16 (ze_16 G V 0 0 h) rfl 0 (by decide) (hL _ zw4_19) rfl rfl dX10_lay_1 ?_
  refine lv_bipush (v := 11) hx hb dX10_lay_4 (by decide) ?_
  refine lv_bipush (v := 6) hx hb dX10_lay_6 (by decide) ?_
  refine lv_iload_n hx hb dX10_lay_8 rfl (lv_at hl 1 rfl) ?_
  refine lv_imul hx hb dX10_lay_9 ?_
  refine lv_iadd hx hb dX10_lay_10 ?_
  refine lv_iload_n hx hb dX10_lay_11 rfl (lv_at hl 2 rfl) ?_
  refine lv_iadd hx hb dX10_lay_12 ?_
  refine lv_iload_n hx hb dX10_lay_13 rfl (lv_at hl 3 rfl) ?_
  obtain ⟨hb1, hf⟩ := grd_some hf
  obtain ⟨h2, eh2⟩ : ∃ y, y = up2 h 0 ((((11 : Int32) + ((6 : Int32) * p1)) + p2).toNatClampNeg) p3 := ⟨_, rfl⟩
  replace hf := put2_some hf eh2
  refine z_iast (V' := upG V 8 h2) hx hb hK hM hS (dm_17 (i := 0) (by decide)) (ze_17_0 G V h) (inb_in hb1) (by rw [eh2]; exact zn_17_0 G V h ((((11 : Int32) + ((6 : Int32) * p1)) + p2).toNatClampNeg) p3) dX10_lay_14 (fun H locs hM hS => ?_)
  exact hQf hf hM hS dX10_lay_15
abbrev rX10_ofP : Room := { frames := 0, cells := 0, slots := 0, locals := 0 }
set_option maxRecDepth 100000 in
set_option maxHeartbeats 4000000 in
theorem kX10_ofP (l : Launch) (G : zG) (A : Nat → Prop) (V : zV3) (h : zV2) (p1 : Int32) (p2 : Int32) {r : Int32} {h' : zV2} (hf : xX10_ofP h p1 p2 = some (r, h')) : zCt l G A yX10_ofP cX10_ofP 3 (some .int) rX10_ofP [.ref (gA G 16 0 0), .int p1, .int p2] (upG V 8 h) (some (.int r)) (upG V 8 h') := by
  refine z_CtI (by decide) (Nat.le_of_ble_eq_true rfl) ?_
  intro p e s m args below meth c Q hx hb hml hown hL hK hM hS hQ ls hl
  replace hl : lv_has ls 3 [(0, .ref (gA G 16 0 0)), (1, .int p1), (2, .int p2)] := hl
  have hQf : ∀ {a : Int32} {k : zV2} {H : Heap} {locs : List Loc} {pc : Nat} {ls : Array Slot}, some (a, k) = some (r, h') → zM G (upG V 8 k) H → va_S A s.heap H locs → decode cX10_ofP pc = .ok (.ireturn, 1) → W p l e rX10_ofP s m args below meth c H locs 0 0 Q (F0 m pc ls [.int a]) := by
    intro a k H locs pc ls e1 hM hS hd
    cases e1
    exact hQ H locs pc ls hM hS hd
  unfold xX10_ofP at hf
  refine lv_aload_n hx hb dX10_ofP_0 rfl (lv_at hl 0 rfl) ?_
  refine z_get (own := RX10) (C := RX10) (T := TX10) (N := 12) (ci := 8) (v := .ref (gA G 17 0 0)) hx hb hL inX10 hown hK hM dm_16 (ze_16 G V 0 0 h) rfl 0 (by decide) (hL _ zw4_19) rfl rfl dX10_ofP_1 ?_
  refine lv_bipush (v := 83) hx hb dX10_ofP_4 (by decide) ?_
  refine lv_bipush (v := 8) hx hb dX10_ofP_6 (by decide) ?_
  refine lv_iload_n hx hb dX10_ofP_8 rfl (lv_at hl 1 rfl) ?_
  refine lv_imul hx hb dX10_ofP_9 ?_
  refine lv_iadd hx hb dX10_ofP_10 ?_
  refine lv_iload_n hx hb dX10_ofP_11 rfl (lv_at hl 2 rfl) ?_
  refine lv_iadd hx hb dX10_ofP_12 ?_
  obtain ⟨hb1, hf⟩ := grd_some hf
  refine z_iald hx hb hK hM (dm_17 (i := 0) (by decide)) (ze_17_0 G V h) (inb_in hb1) dX10_ofP_13 ?_
  exact hQf hf hM hS dX10_ofP_14
abbrev rX10_layP : Room := { frames := 0, cells := 0, slots := 0, locals := 0 }
set_option maxRecDepth 100000 in
set_option maxHeartbeats 4000000 in
theorem kX10_layP (l : Launch) (G : zG) (A : Nat → Prop) (V : zV3) (h : zV2) (p1 : Int32) (p2 : Int32) (p3 : Int32) {r : Unit} {h' : zV2} (hf : xX10_layP h p1 p2 p3 = some (r, h')) : zCt l G A yX10_layP cX10_layP 4 none rX10_layP [.ref (gA G 16 0 0), .int p1, .int p2, .int p3] (upG V 8 h) none (upG V 8 h') := by
  refine z_CtV (by decide) (Nat.le_of_ble_eq_true rfl) ?_
  intro p e s m args below meth c Q hx hb hml hown hL hK hM hS hQ ls hl
  replace hl : lv_has ls 4 [(0, .ref (gA G 16 0 0)), (1, .int p1), (2, .int p2), (3, .int p3)] := hl
  have hQf : ∀ {a : Unit} {k : zV2} {H : Heap} {locs : List Loc} {pc : Nat} {ls : Array Slot}, some (a, k) = some (r, h') → zM G (upG V 8 k) H → va_S A s.heap H locs → decode cX10_layP pc = .ok (.return_, 1) → W p l e rX10_layP s m args below meth c H locs 0 0 Q (F0 m pc ls []) := by
    intro a k H locs pc ls e1 hM hS hd
    cases e1
    exact hQ H locs pc ls hM hS hd
  unfold xX10_layP at hf
  refine lv_aload_n hx hb dX10_layP_0 rfl (lv_at hl 0 rfl) ?_
  refine z_get (own := RX10) (C := RX10) (T := TX10) (N := 12) (ci := 8) (v := .ref (gA G 17 0 0)) hx hb hL inX10 hown hK hM dm_16 (ze_16 G V 0 0 h) rfl 0 (by decide) (hL _ zw4_19) rfl rfl dX10_layP_1 ?_
  refine lv_bipush (v := 83) hx hb dX10_layP_4 (by decide) ?_
  refine lv_bipush (v := 8) hx hb dX10_layP_6 (by decide) ?_
  refine lv_iload_n hx hb dX10_layP_8 rfl (lv_at hl 1 rfl) ?_
  refine lv_imul hx hb dX10_layP_9 ?_
  refine lv_iadd hx hb dX10_layP_10 ?_
  refine lv_iload_n hx hb dX10_layP_11 rfl (lv_at hl 2 rfl) ?_
  refine lv_iadd hx hb dX10_layP_12 ?_
  refine lv_iload_n hx hb dX10_layP_13 rfl (lv_at hl 3 rfl) ?_
  obtain ⟨hb1, hf⟩ := grd_some hf
  obtain ⟨h2, eh2⟩ : ∃ y, y = up2 h 0 ((((83 : Int32) + ((8 : Int32) * p1)) + p2).toNatClampNeg) p3 := ⟨_, rfl⟩
  replace hf := put2_some hf eh2
  refine z_iast (V' := upG V 8 h2) hx hb hK hM hS (dm_17 (i := 0) (by decide)) (ze_17_0 G V h) (inb_in hb1) (by rw [eh2]; exact zn_17_0 G V h ((((83 : Int32) + ((8 : Int32) * p1)) + p2).toNatClampNeg) p3) dX10_layP_14 (fun H locs hM hS => ?_)
  exact hQf hf hM hS dX10_layP_15
abbrev rX10_begins : Room := { frames := 0, cells := 0, slots := 0, locals := 0 }
set_option maxRecDepth 100000 in
set_option maxHeartbeats 4000000 in
theorem kX10_begins (l : Launch) (G : zG) (A : Nat → Prop) (V : zV3) (h : zV2) {r : Unit} {h' : zV2} (hf : xX10_begins h  = some (r, h')) : zCt l G A yX10_begins cX10_begins 2 none rX10_begins [.ref (gA G 16 0 0)] (upG V 8 h) none (upG V 8 h') := by
  refine z_CtV (by decide) (Nat.le_of_ble_eq_true rfl) ?_
  intro p e s m args below meth c Q hx hb hml hown hL hK hM hS hQ ls hl
  replace hl : lv_has ls 2 [(0, .ref (gA G 16 0 0))] := hl
  have hQf : ∀ {a : Unit} {k : zV2} {H : Heap} {locs : List Loc} {pc : Nat} {ls : Array Slot}, some (a, k) = some (r, h') → zM G (upG V 8 k) H → va_S A s.heap H locs → decode cX10_begins pc = .ok (.return_, 1) → W p l e rX10_begins s m args below meth c H locs 0 0 Q (F0 m pc ls []) := by
    intro a k H locs pc ls e1 hM hS hd
    cases e1
    exact hQ H locs pc ls hM hS hd
  have L2 : ∀ (n : Nat) (h : zV2) (a1 : Int32), xX10_begins_L2 n h a1 = some (r, h') → ∀ (H : Heap) (locs : List Loc) (ls : Array Slot), zM G (upG V 8 h) H → va_S A s.heap H locs → lv_has ls 2 [(0, .ref (gA G 16 0 0)), (1, .int a1)] → W p l e rX10_begins s m args below meth c H locs 0 0 Q (F0 m 2 ls []) := by
    intro n
    induction n with
    | zero =>
      intro h a1 hf H locs ls hM hS hl
      rw [xX10_begins_L2] at hf
      cases hf
    | succ n ih =>
      intro h a1 hf H locs ls hM hS hl
      rw [xX10_begins_L2] at hf
      refine lv_iload_n hx hb dX10_begins_2 rfl (lv_at hl 1 rfl) ?_
      refine lv_sipush (v := 193) hx hb dX10_begins_3 (by decide) ?_
      refine lv_icmp_ge (tgt := 27) hx hb dX10_begins_6 (by decide) (fun c1 => ?_) (fun c1 => ?_)
      · replace hf := ift hf c1
        exact hQf hf hM hS dX10_begins_27
      · replace hf := iff_ hf c1
        refine lv_aload_n hx hb dX10_begins_9 rfl (lv_at hl 0 rfl) ?_
        refine z_get (own := RX10) (C := RX10) (T := TX10) (N := 12) (ci := 8) (v := .ref (gA G 17 0 1)) hx hb hL inX10 hown hK hM dm_16 (ze_16 G V 0 0 h) rfl 1 (by decide) (hL _ zw4_20) rfl rfl dX10_begins_10 ?_
        refine lv_iload_n hx hb dX10_begins_13 rfl (lv_at hl 1 rfl) ?_
        refine lv_aload_n hx hb dX10_begins_14 rfl (lv_at hl 0 rfl) ?_
        refine z_get (own := RX10) (C := RX10) (T := TX10) (N := 12) (ci := 8) (v := .ref (gA G 17 0 0)) hx hb hL inX10 hown hK hM dm_16 (ze_16 G V 0 0 h) rfl 0 (by decide) (hL _ zw4_19) rfl rfl dX10_begins_15 ?_
        refine lv_iload_n hx hb dX10_begins_18 rfl (lv_at hl 1 rfl) ?_
        obtain ⟨hb2, hf⟩ := grd_some hf
        refine z_iald hx hb hK hM (dm_17 (i := 0) (by decide)) (ze_17_0 G V h) (inb_in hb2) dX10_begins_19 ?_
        obtain ⟨hb3, hf⟩ := grd_some hf
        obtain ⟨h4, eh4⟩ : ∃ y, y = up2 h 1 a1.toNatClampNeg (h 0 a1.toNatClampNeg) := ⟨_, rfl⟩
        replace hf := put2_some hf eh4
        refine z_iast (V' := upG V 8 h4) hx hb hK hM hS (dm_17 (i := 1) (by decide)) (ze_17_1 G V h) (inb_in hb3) (by rw [eh4]; exact zn_17_1 G V h a1.toNatClampNeg (h 0 a1.toNatClampNeg)) dX10_begins_20 (fun H locs hM hS => ?_)
        obtain ⟨y5, ey5⟩ : ∃ y : Int32, y = a1 + (1 : Int32) := ⟨_, rfl⟩
        replace hf := ltI_some hf ey5
        refine lv_iinc (v := y5) (lv' := [(1, .int y5), (0, .ref (gA G 16 0 0))]) hx hb dX10_begins_21 hl (k := 1) rfl (by rw [ey5]; rfl) (by decide) rfl (fun ls hl => ?_)
        refine lv_goto (tgt := 2) hx hb dX10_begins_24 (by decide) ?_
        exact ih h4 y5 hf _ _ _ hM hS (lv_sub hl [1, 0] rfl)
  unfold xX10_begins at hf
  refine lv_iconst (v := 0) hx hb dX10_begins_0 (by decide) ?_
  refine lv_istore_n (lv' := [(1, .int (0 : Int32)), (0, .ref (gA G 16 0 0))]) hx hb dX10_begins_1 rfl hl (by decide) rfl (fun ls hl => ?_)
  exact L2 1000 h (0 : Int32) hf _ _ _ hM hS (lv_sub hl [1, 0] rfl)
abbrev rX10_acted : Room := { frames := 0, cells := 0, slots := 0, locals := 0 }
set_option maxRecDepth 100000 in
set_option maxHeartbeats 4000000 in
theorem kX10_acted (l : Launch) (G : zG) (A : Nat → Prop) (V : zV3) (h : zV2) (p1 : Int32) {r : Int32} {h' : zV2} (hf : xX10_acted h p1 = some (r, h')) : zCt l G A yX10_acted cX10_acted 3 (some .int) rX10_acted [.ref (gA G 16 0 0), .int p1] (upG V 8 h) (some (.int r)) (upG V 8 h') := by
  refine z_CtI (by decide) (Nat.le_of_ble_eq_true rfl) ?_
  intro p e s m args below meth c Q hx hb hml hown hL hK hM hS hQ ls hl
  replace hl : lv_has ls 3 [(0, .ref (gA G 16 0 0)), (1, .int p1)] := hl
  have hQf : ∀ {a : Int32} {k : zV2} {H : Heap} {locs : List Loc} {pc : Nat} {ls : Array Slot}, some (a, k) = some (r, h') → zM G (upG V 8 k) H → va_S A s.heap H locs → decode cX10_acted pc = .ok (.ireturn, 1) → W p l e rX10_acted s m args below meth c H locs 0 0 Q (F0 m pc ls [.int a]) := by
    intro a k H locs pc ls e1 hM hS hd
    cases e1
    exact hQ H locs pc ls hM hS hd
  have L57 : ∀ (n : Nat) (h : zV2) (a2 : Int32), xX10_acted_L57 p1 n h a2 = some (r, h') → ∀ (H : Heap) (locs : List Loc) (ls : Array Slot), zM G (upG V 8 h) H → va_S A s.heap H locs → lv_has ls 3 [(0, .ref (gA G 16 0 0)), (1, .int p1), (2, .int a2)] → W p l e rX10_acted s m args below meth c H locs 0 0 Q (F0 m 57 ls []) := by
    intro n
    induction n with
    | zero =>
      intro h a2 hf H locs ls hM hS hl
      rw [xX10_acted_L57] at hf
      cases hf
    | succ n ih =>
      intro h a2 hf H locs ls hM hS hl
      rw [xX10_acted_L57] at hf
      refine lv_iload_n hx hb dX10_acted_57 rfl (lv_at hl 2 rfl) ?_
      refine lv_sipush (v := 193) hx hb dX10_acted_58 (by decide) ?_
      refine lv_icmp_ge (tgt := 91) hx hb dX10_acted_61 (by decide) (fun c1 => ?_) (fun c1 => ?_)
      · replace hf := ift hf c1
        refine lv_aload_n hx hb dX10_acted_91 rfl (lv_at hl 0 rfl) ?_
        refine lv_dup hx hb dX10_acted_92 rfl ?_
        refine z_get (own := RX10) (C := RX10) (T := TX10) (N := 12) (ci := 8) (v := .int (h 6 0)) hx hb hL inX10 hown hK hM dm_16 (ze_16 G V 0 0 h) rfl 4 (by decide) (hL _ zw4_23) rfl rfl dX10_acted_93 ?_
        refine lv_iconst (v := 1) hx hb dX10_acted_96 (by decide) ?_
        refine lv_iadd hx hb dX10_acted_97 ?_
        obtain ⟨h2, eh2⟩ : ∃ y, y = up2 h 6 0 ((h 6 0) + (1 : Int32)) := ⟨_, rfl⟩
        replace hf := put2_some hf eh2
        refine z_put (own := RX10) (C := RX10) (T := TX10) (N := 12) (ci := 8) (V' := upG V 8 h2) hx hb hL inX10 tyX10 tyX10_ok nmX10 hown hK hM hS dm_16 (ze_16 G V 0 0 h) rfl 4 (by decide) (hL _ zw4_23) rfl rfl rfl rfl (Nat.le_of_ble_eq_true rfl) (by rw [eh2]; exact zn_16_6 G V h ((h 6 0) + (1 : Int32))) dX10_acted_98 (fun H locs hM hS => ?_)
        refine lv_iload_n hx hb dX10_acted_101 rfl (lv_at hl 1 rfl) ?_
        exact hQf hf hM hS dX10_acted_102
      · replace hf := iff_ hf c1
        refine lv_aload_n hx hb dX10_acted_64 rfl (lv_at hl 0 rfl) ?_
        refine z_get (own := RX10) (C := RX10) (T := TX10) (N := 12) (ci := 8) (v := .ref (gA G 17 0 3)) hx hb hL inX10 hown hK hM dm_16 (ze_16 G V 0 0 h) rfl 3 (by decide) (hL _ zw4_22) rfl rfl dX10_acted_65 ?_
        refine lv_sipush (v := 193) hx hb dX10_acted_68 (by decide) ?_
        refine lv_aload_n hx hb dX10_acted_71 rfl (lv_at hl 0 rfl) ?_
        refine z_get (own := RX10) (C := RX10) (T := TX10) (N := 12) (ci := 8) (v := .int (h 6 0)) hx hb hL inX10 hown hK hM dm_16 (ze_16 G V 0 0 h) rfl 4 (by decide) (hL _ zw4_23) rfl rfl dX10_acted_72 ?_
        refine lv_imul hx hb dX10_acted_75 ?_
        refine lv_iload_n hx hb dX10_acted_76 rfl (lv_at hl 2 rfl) ?_
        refine lv_iadd hx hb dX10_acted_77 ?_
        refine lv_aload_n hx hb dX10_acted_78 rfl (lv_at hl 0 rfl) ?_
        refine z_get (own := RX10) (C := RX10) (T := TX10) (N := 12) (ci := 8) (v := .ref (gA G 17 0 1)) hx hb hL inX10 hown hK hM dm_16 (ze_16 G V 0 0 h) rfl 1 (by decide) (hL _ zw4_20) rfl rfl dX10_acted_79 ?_
        refine lv_iload_n hx hb dX10_acted_82 rfl (lv_at hl 2 rfl) ?_
        obtain ⟨hb3, hf⟩ := grd_some hf
        refine z_iald hx hb hK hM (dm_17 (i := 1) (by decide)) (ze_17_1 G V h) (inb_in hb3) dX10_acted_83 ?_
        obtain ⟨hb4, hf⟩ := grd_some hf
        obtain ⟨h5, eh5⟩ : ∃ y, y = up2 h 3 ((((193 : Int32) * (h 6 0)) + a2).toNatClampNeg) (h 1 a2.toNatClampNeg) := ⟨_, rfl⟩
        replace hf := put2_some hf eh5
        refine z_iast (V' := upG V 8 h5) hx hb hK hM hS (dm_17 (i := 3) (by decide)) (ze_17_3 G V h) (inb_in hb4) (by rw [eh5]; exact zn_17_3 G V h ((((193 : Int32) * (h 6 0)) + a2).toNatClampNeg) (h 1 a2.toNatClampNeg)) dX10_acted_84 (fun H locs hM hS => ?_)
        obtain ⟨y6, ey6⟩ : ∃ y : Int32, y = a2 + (1 : Int32) := ⟨_, rfl⟩
        replace hf := ltI_some hf ey6
        refine lv_iinc (v := y6) (lv' := [(2, .int y6), (0, .ref (gA G 16 0 0)), (1, .int p1)]) hx hb dX10_acted_85 hl (k := 2) rfl (by rw [ey6]; rfl) (by decide) rfl (fun ls hl => ?_)
        refine lv_goto (tgt := 57) hx hb dX10_acted_88 (by decide) ?_
        exact ih h5 y6 hf _ _ _ hM hS (lv_sub hl [1, 2, 0] rfl)
  have L16 : ∀ (n : Nat) (h : zV2) (a2 : Int32), xX10_acted_L16 p1 n h a2 = some (r, h') → ∀ (H : Heap) (locs : List Loc) (ls : Array Slot), zM G (upG V 8 h) H → va_S A s.heap H locs → lv_has ls 3 [(0, .ref (gA G 16 0 0)), (1, .int p1), (2, .int a2)] → W p l e rX10_acted s m args below meth c H locs 0 0 Q (F0 m 16 ls []) := by
    intro n
    induction n with
    | zero =>
      intro h a2 hf H locs ls hM hS hl
      rw [xX10_acted_L16] at hf
      cases hf
    | succ n ih =>
      intro h a2 hf H locs ls hM hS hl
      rw [xX10_acted_L16] at hf
      refine lv_iload_n hx hb dX10_acted_16 rfl (lv_at hl 2 rfl) ?_
      refine lv_sipush (v := 579) hx hb dX10_acted_17 (by decide) ?_
      refine lv_icmp_ge (tgt := 45) hx hb dX10_acted_20 (by decide) (fun c1 => ?_) (fun c1 => ?_)
      · replace hf := ift hf c1
        refine lv_aload_n hx hb dX10_acted_45 rfl (lv_at hl 0 rfl) ?_
        refine lv_dup hx hb dX10_acted_46 rfl ?_
        refine z_get (own := RX10) (C := RX10) (T := TX10) (N := 12) (ci := 8) (v := .int (h 6 0)) hx hb hL inX10 hown hK hM dm_16 (ze_16 G V 0 0 h) rfl 4 (by decide) (hL _ zw4_23) rfl rfl dX10_acted_47 ?_
        refine lv_iconst (v := 1) hx hb dX10_acted_50 (by decide) ?_
        refine lv_isub hx hb dX10_acted_51 ?_
        obtain ⟨h2, eh2⟩ : ∃ y, y = up2 h 6 0 ((h 6 0) - (1 : Int32)) := ⟨_, rfl⟩
        replace hf := put2_some hf eh2
        refine z_put (own := RX10) (C := RX10) (T := TX10) (N := 12) (ci := 8) (V' := upG V 8 h2) hx hb hL inX10 tyX10 tyX10_ok nmX10 hown hK hM hS dm_16 (ze_16 G V 0 0 h) rfl 4 (by decide) (hL _ zw4_23) rfl rfl rfl rfl (Nat.le_of_ble_eq_true rfl) (by rw [eh2]; exact zn_16_6 G V h ((h 6 0) - (1 : Int32))) dX10_acted_52 (fun H locs hM hS => ?_)
        refine lv_iconst (v := 0) hx hb dX10_acted_55 (by decide) ?_
        refine lv_istore_n (lv' := [(2, .int (0 : Int32)), (0, .ref (gA G 16 0 0)), (1, .int p1)]) hx hb dX10_acted_56 rfl hl (by decide) rfl (fun ls hl => ?_)
        exact L57 1000 h2 (0 : Int32) hf _ _ _ hM hS (lv_sub hl [1, 2, 0] rfl)
      · replace hf := iff_ hf c1
        refine lv_aload_n hx hb dX10_acted_23 rfl (lv_at hl 0 rfl) ?_
        refine z_get (own := RX10) (C := RX10) (T := TX10) (N := 12) (ci := 8) (v := .ref (gA G 17 0 3)) hx hb hL inX10 hown hK hM dm_16 (ze_16 G V 0 0 h) rfl 3 (by decide) (hL _ zw4_22) rfl rfl dX10_acted_24 ?_
        refine lv_iload_n hx hb dX10_acted_27 rfl (lv_at hl 2 rfl) ?_
        refine lv_aload_n hx hb dX10_acted_28 rfl (lv_at hl 0 rfl) ?_
        refine z_get (own := RX10) (C := RX10) (T := TX10) (N := 12) (ci := 8) (v := .ref (gA G 17 0 3)) hx hb hL inX10 hown hK hM dm_16 (ze_16 G V 0 0 h) rfl 3 (by decide) (hL _ zw4_22) rfl rfl dX10_acted_29 ?_
        refine lv_iload_n hx hb dX10_acted_32 rfl (lv_at hl 2 rfl) ?_
        refine lv_sipush (v := 193) hx hb dX10_acted_33 (by decide) ?_
        refine lv_iadd hx hb dX10_acted_36 ?_
        obtain ⟨hb3, hf⟩ := grd_some hf
        refine z_iald hx hb hK hM (dm_17 (i := 3) (by decide)) (ze_17_3 G V h) (inb_in hb3) dX10_acted_37 ?_
        obtain ⟨hb4, hf⟩ := grd_some hf
        obtain ⟨h5, eh5⟩ : ∃ y, y = up2 h 3 a2.toNatClampNeg (h 3 ((a2 + (193 : Int32)).toNatClampNeg)) := ⟨_, rfl⟩
        replace hf := put2_some hf eh5
        refine z_iast (V' := upG V 8 h5) hx hb hK hM hS (dm_17 (i := 3) (by decide)) (ze_17_3 G V h) (inb_in hb4) (by rw [eh5]; exact zn_17_3 G V h a2.toNatClampNeg (h 3 ((a2 + (193 : Int32)).toNatClampNeg))) dX10_acted_38 (fun H locs hM hS => ?_)
        obtain ⟨y6, ey6⟩ : ∃ y : Int32, y = a2 + (1 : Int32) := ⟨_, rfl⟩
        replace hf := ltI_some hf ey6
        refine lv_iinc (v := y6) (lv' := [(2, .int y6), (0, .ref (gA G 16 0 0)), (1, .int p1)]) hx hb dX10_acted_39 hl (k := 2) rfl (by rw [ey6]; rfl) (by decide) rfl (fun ls hl => ?_)
        refine lv_goto (tgt := 16) hx hb dX10_acted_42 (by decide) ?_
        exact ih h5 y6 hf _ _ _ hM hS (lv_sub hl [1, 2, 0] rfl)
  unfold xX10_acted at hf
  refine lv_iload_n hx hb dX10_acted_0 rfl (lv_at hl 1 rfl) ?_
  refine lv_if_ge (tgt := 6) hx hb dX10_acted_1 (by decide) (fun c1 => ?_) (fun c1 => ?_)
  · replace hf := ift hf c1
    refine lv_aload_n hx hb dX10_acted_6 rfl (lv_at hl 0 rfl) ?_
    refine z_get (own := RX10) (C := RX10) (T := TX10) (N := 12) (ci := 8) (v := .int (h 6 0)) hx hb hL inX10 hown hK hM dm_16 (ze_16 G V 0 0 h) rfl 4 (by decide) (hL _ zw4_23) rfl rfl dX10_acted_7 ?_
    refine lv_iconst (v := 4) hx hb dX10_acted_10 (by decide) ?_
    refine lv_icmp_ne (tgt := 55) hx hb dX10_acted_11 (by decide) (fun c2 => ?_) (fun c2 => ?_)
    · replace hf := iff_ hf c2
      refine lv_iconst (v := 0) hx hb dX10_acted_55 (by decide) ?_
      refine lv_istore_n (lv' := [(2, .int (0 : Int32)), (0, .ref (gA G 16 0 0)), (1, .int p1)]) hx hb dX10_acted_56 rfl hl (by decide) rfl (fun ls hl => ?_)
      exact L57 1000 h (0 : Int32) hf _ _ _ hM hS (lv_sub hl [1, 2, 0] rfl)
    · replace hf := ift hf c2
      refine lv_iconst (v := 0) hx hb dX10_acted_14 (by decide) ?_
      refine lv_istore_n (lv' := [(2, .int (0 : Int32)), (0, .ref (gA G 16 0 0)), (1, .int p1)]) hx hb dX10_acted_15 rfl hl (by decide) rfl (fun ls hl => ?_)
      exact L16 1000 h (0 : Int32) hf _ _ _ hM hS (lv_sub hl [1, 2, 0] rfl)
  · replace hf := iff_ hf c1
    refine lv_iload_n hx hb dX10_acted_4 rfl (lv_at hl 1 rfl) ?_
    exact hQf hf hM hS dX10_acted_5
abbrev rX10_layAside : Room := { frames := 0, cells := 0, slots := 0, locals := 0 }
set_option maxRecDepth 100000 in
set_option maxHeartbeats 4000000 in
theorem kX10_layAside (l : Launch) (G : zG) (A : Nat → Prop) (V : zV3) (h : zV2) {r : Unit} {h' : zV2} (hf : xX10_layAside h  = some (r, h')) : zCt l G A yX10_layAside cX10_layAside 2 none rX10_layAside [.ref (gA G 16 0 0)] (upG V 8 h) none (upG V 8 h') := by
  refine z_CtV (by decide) (Nat.le_of_ble_eq_true rfl) ?_
  intro p e s m args below meth c Q hx hb hml hown hL hK hM hS hQ ls hl
  replace hl : lv_has ls 2 [(0, .ref (gA G 16 0 0))] := hl
  have hQf : ∀ {a : Unit} {k : zV2} {H : Heap} {locs : List Loc} {pc : Nat} {ls : Array Slot}, some (a, k) = some (r, h') → zM G (upG V 8 k) H → va_S A s.heap H locs → decode cX10_layAside pc = .ok (.return_, 1) → W p l e rX10_layAside s m args below meth c H locs 0 0 Q (F0 m pc ls []) := by
    intro a k H locs pc ls e1 hM hS hd
    cases e1
    exact hQ H locs pc ls hM hS hd
  have L2 : ∀ (n : Nat) (h : zV2) (a1 : Int32), xX10_layAside_L2 n h a1 = some (r, h') → ∀ (H : Heap) (locs : List Loc) (ls : Array Slot), zM G (upG V 8 h) H → va_S A s.heap H locs → lv_has ls 2 [(0, .ref (gA G 16 0 0)), (1, .int a1)] → W p l e rX10_layAside s m args below meth c H locs 0 0 Q (F0 m 2 ls []) := by
    intro n
    induction n with
    | zero =>
      intro h a1 hf H locs ls hM hS hl
      rw [xX10_layAside_L2] at hf
      cases hf
    | succ n ih =>
      intro h a1 hf H locs ls hM hS hl
      rw [xX10_layAside_L2] at hf
      refine lv_iload_n hx hb dX10_layAside_2 rfl (lv_at hl 1 rfl) ?_
      refine lv_sipush (v := 193) hx hb dX10_layAside_3 (by decide) ?_
      refine lv_icmp_ge (tgt := 27) hx hb dX10_layAside_6 (by decide) (fun c1 => ?_) (fun c1 => ?_)
      · replace hf := ift hf c1
        exact hQf hf hM hS dX10_layAside_27
      · replace hf := iff_ hf c1
        refine lv_aload_n hx hb dX10_layAside_9 rfl (lv_at hl 0 rfl) ?_
        refine z_get (own := RX10) (C := RX10) (T := TX10) (N := 12) (ci := 8) (v := .ref (gA G 17 0 2)) hx hb hL inX10 hown hK hM dm_16 (ze_16 G V 0 0 h) rfl 2 (by decide) (hL _ zw4_21) rfl rfl dX10_layAside_10 ?_
        refine lv_iload_n hx hb dX10_layAside_13 rfl (lv_at hl 1 rfl) ?_
        refine lv_aload_n hx hb dX10_layAside_14 rfl (lv_at hl 0 rfl) ?_
        refine z_get (own := RX10) (C := RX10) (T := TX10) (N := 12) (ci := 8) (v := .ref (gA G 17 0 0)) hx hb hL inX10 hown hK hM dm_16 (ze_16 G V 0 0 h) rfl 0 (by decide) (hL _ zw4_19) rfl rfl dX10_layAside_15 ?_
        refine lv_iload_n hx hb dX10_layAside_18 rfl (lv_at hl 1 rfl) ?_
        obtain ⟨hb2, hf⟩ := grd_some hf
        refine z_iald hx hb hK hM (dm_17 (i := 0) (by decide)) (ze_17_0 G V h) (inb_in hb2) dX10_layAside_19 ?_
        obtain ⟨hb3, hf⟩ := grd_some hf
        obtain ⟨h4, eh4⟩ : ∃ y, y = up2 h 2 a1.toNatClampNeg (h 0 a1.toNatClampNeg) := ⟨_, rfl⟩
        replace hf := put2_some hf eh4
        refine z_iast (V' := upG V 8 h4) hx hb hK hM hS (dm_17 (i := 2) (by decide)) (ze_17_2 G V h) (inb_in hb3) (by rw [eh4]; exact zn_17_2 G V h a1.toNatClampNeg (h 0 a1.toNatClampNeg)) dX10_layAside_20 (fun H locs hM hS => ?_)
        obtain ⟨y5, ey5⟩ : ∃ y : Int32, y = a1 + (1 : Int32) := ⟨_, rfl⟩
        replace hf := ltI_some hf ey5
        refine lv_iinc (v := y5) (lv' := [(1, .int y5), (0, .ref (gA G 16 0 0))]) hx hb dX10_layAside_21 hl (k := 1) rfl (by rw [ey5]; rfl) (by decide) rfl (fun ls hl => ?_)
        refine lv_goto (tgt := 2) hx hb dX10_layAside_24 (by decide) ?_
        exact ih h4 y5 hf _ _ _ hM hS (lv_sub hl [1, 0] rfl)
  unfold xX10_layAside at hf
  refine lv_iconst (v := 0) hx hb dX10_layAside_0 (by decide) ?_
  refine lv_istore_n (lv' := [(1, .int (0 : Int32)), (0, .ref (gA G 16 0 0))]) hx hb dX10_layAside_1 rfl hl (by decide) rfl (fun ls hl => ?_)
  exact L2 1000 h (0 : Int32) hf _ _ _ hM hS (lv_sub hl [1, 0] rfl)
abbrev rX10_bringBack : Room := { frames := 0, cells := 0, slots := 0, locals := 0 }
set_option maxRecDepth 100000 in
set_option maxHeartbeats 4000000 in
theorem kX10_bringBack (l : Launch) (G : zG) (A : Nat → Prop) (V : zV3) (h : zV2) {r : Unit} {h' : zV2} (hf : xX10_bringBack h  = some (r, h')) : zCt l G A yX10_bringBack cX10_bringBack 2 none rX10_bringBack [.ref (gA G 16 0 0)] (upG V 8 h) none (upG V 8 h') := by
  refine z_CtV (by decide) (Nat.le_of_ble_eq_true rfl) ?_
  intro p e s m args below meth c Q hx hb hml hown hL hK hM hS hQ ls hl
  replace hl : lv_has ls 2 [(0, .ref (gA G 16 0 0))] := hl
  have hQf : ∀ {a : Unit} {k : zV2} {H : Heap} {locs : List Loc} {pc : Nat} {ls : Array Slot}, some (a, k) = some (r, h') → zM G (upG V 8 k) H → va_S A s.heap H locs → decode cX10_bringBack pc = .ok (.return_, 1) → W p l e rX10_bringBack s m args below meth c H locs 0 0 Q (F0 m pc ls []) := by
    intro a k H locs pc ls e1 hM hS hd
    cases e1
    exact hQ H locs pc ls hM hS hd
  have L2 : ∀ (n : Nat) (h : zV2) (a1 : Int32), xX10_bringBack_L2 n h a1 = some (r, h') → ∀ (H : Heap) (locs : List Loc) (ls : Array Slot), zM G (upG V 8 h) H → va_S A s.heap H locs → lv_has ls 2 [(0, .ref (gA G 16 0 0)), (1, .int a1)] → W p l e rX10_bringBack s m args below meth c H locs 0 0 Q (F0 m 2 ls []) := by
    intro n
    induction n with
    | zero =>
      intro h a1 hf H locs ls hM hS hl
      rw [xX10_bringBack_L2] at hf
      cases hf
    | succ n ih =>
      intro h a1 hf H locs ls hM hS hl
      rw [xX10_bringBack_L2] at hf
      refine lv_iload_n hx hb dX10_bringBack_2 rfl (lv_at hl 1 rfl) ?_
      refine lv_sipush (v := 193) hx hb dX10_bringBack_3 (by decide) ?_
      refine lv_icmp_ge (tgt := 27) hx hb dX10_bringBack_6 (by decide) (fun c1 => ?_) (fun c1 => ?_)
      · replace hf := ift hf c1
        exact hQf hf hM hS dX10_bringBack_27
      · replace hf := iff_ hf c1
        refine lv_aload_n hx hb dX10_bringBack_9 rfl (lv_at hl 0 rfl) ?_
        refine z_get (own := RX10) (C := RX10) (T := TX10) (N := 12) (ci := 8) (v := .ref (gA G 17 0 0)) hx hb hL inX10 hown hK hM dm_16 (ze_16 G V 0 0 h) rfl 0 (by decide) (hL _ zw4_19) rfl rfl dX10_bringBack_10 ?_
        refine lv_iload_n hx hb dX10_bringBack_13 rfl (lv_at hl 1 rfl) ?_
        refine lv_aload_n hx hb dX10_bringBack_14 rfl (lv_at hl 0 rfl) ?_
        refine z_get (own := RX10) (C := RX10) (T := TX10) (N := 12) (ci := 8) (v := .ref (gA G 17 0 2)) hx hb hL inX10 hown hK hM dm_16 (ze_16 G V 0 0 h) rfl 2 (by decide) (hL _ zw4_21) rfl rfl dX10_bringBack_15 ?_
        refine lv_iload_n hx hb dX10_bringBack_18 rfl (lv_at hl 1 rfl) ?_
        obtain ⟨hb2, hf⟩ := grd_some hf
        refine z_iald hx hb hK hM (dm_17 (i := 2) (by decide)) (ze_17_2 G V h) (inb_in hb2) dX10_bringBack_19 ?_
        obtain ⟨hb3, hf⟩ := grd_some hf
        obtain ⟨h4, eh4⟩ : ∃ y, y = up2 h 0 a1.toNatClampNeg (h 2 a1.toNatClampNeg) := ⟨_, rfl⟩
        replace hf := put2_some hf eh4
        refine z_iast (V' := upG V 8 h4) hx hb hK hM hS (dm_17 (i := 0) (by decide)) (ze_17_0 G V h) (inb_in hb3) (by rw [eh4]; exact zn_17_0 G V h a1.toNatClampNeg (h 2 a1.toNatClampNeg)) dX10_bringBack_20 (fun H locs hM hS => ?_)
        obtain ⟨y5, ey5⟩ : ∃ y : Int32, y = a1 + (1 : Int32) := ⟨_, rfl⟩
        replace hf := ltI_some hf ey5
        refine lv_iinc (v := y5) (lv' := [(1, .int y5), (0, .ref (gA G 16 0 0))]) hx hb dX10_bringBack_21 hl (k := 1) rfl (by rw [ey5]; rfl) (by decide) rfl (fun ls hl => ?_)
        refine lv_goto (tgt := 2) hx hb dX10_bringBack_24 (by decide) ?_
        exact ih h4 y5 hf _ _ _ hM hS (lv_sub hl [1, 0] rfl)
  unfold xX10_bringBack at hf
  refine lv_iconst (v := 0) hx hb dX10_bringBack_0 (by decide) ?_
  refine lv_istore_n (lv' := [(1, .int (0 : Int32)), (0, .ref (gA G 16 0 0))]) hx hb dX10_bringBack_1 rfl hl (by decide) rfl (fun ls hl => ?_)
  exact L2 1000 h (0 : Int32) hf _ _ _ hM hS (lv_sub hl [1, 0] rfl)
abbrev rX10_isFree : Room := { frames := 1, cells := 0, slots := 0, locals := 22 }
set_option maxRecDepth 100000 in
set_option maxHeartbeats 4000000 in
theorem kX10_isFree (l : Launch) (G : zG) (A : Nat → Prop) (V : zV3) (h : zV2) (p1 : Int32) {r : Int32} {h' : zV2} (hf : xX10_isFree h p1 = some (r, h')) : zCt l G A yX10_isFree cX10_isFree 2 (some .boolean) rX10_isFree [.ref (gA G 16 0 0), .int p1] (upG V 8 h) (some (.int r)) (upG V 8 h') := by
  refine z_CtZ (by decide) (Nat.le_of_ble_eq_true rfl) ?_
  intro p e s m args below meth c Q hx hb hml hown hL hK hM hS hQ ls hl
  replace hl : lv_has ls 2 [(0, .ref (gA G 16 0 0)), (1, .int p1)] := hl
  have hQf : ∀ {a : Int32} {k : zV2} {H : Heap} {locs : List Loc} {pc : Nat} {ls : Array Slot}, narrow .boolean (.int a) = .int a → some (a, k) = some (r, h') → zM G (upG V 8 k) H → va_S A s.heap H locs → decode cX10_isFree pc = .ok (.ireturn, 1) → W p l e rX10_isFree s m args below meth c H locs 0 0 Q (F0 m pc ls [.int a]) := by
    intro a k H locs pc ls hnr e1 hM hS hd
    cases e1
    exact hQ H locs pc ls hnr hM hS hd
  unfold xX10_isFree at hf
  refine lv_aload_n hx hb dX10_isFree_0 rfl (lv_at hl 0 rfl) ?_
  refine lv_iload_n hx hb dX10_isFree_1 rfl (lv_at hl 1 rfl) ?_
  refine lv_iconst (v := 1) hx hb dX10_isFree_2 (by decide) ?_
  obtain ⟨r1, h3, hc2, hf⟩ := bnd_some hf
  refine z_callV (As := [.int p1, .int (1 : Int32)]) (rest := []) (C := RX10) hx hb hml hown hL hK hM hS (kX10_of l G A V h p1 (1 : Int32) hc2) (zg_X10_of zw4_103) zv_X10_of ⟨rfl, rfl⟩ ⟨Nat.le_of_ble_eq_true rfl, Nat.le_of_ble_eq_true rfl⟩ (hM.recv hK dm_16 (ze_16 G V 0 0 h) rfl) rfl hl.1 rfl (Nat.le_of_ble_eq_true rfl) dX10_isFree_3 ⟨Nat.zero_le _, Nat.zero_le _⟩ (fun H locs hM hS => ?_)
  refine W.eq (g2 := F0 m 6 ls [.int r1]) rfl ?_
  refine lv_if_lt (tgt := 31) hx hb dX10_isFree_6 (by decide) (fun c4 => ?_) (fun c4 => ?_)
  · replace hf := ift hf c4
    refine lv_iconst (v := 0) hx hb dX10_isFree_31 (by decide) ?_
    exact hQf rfl hf hM hS dX10_isFree_32
  · replace hf := iff_ hf c4
    refine lv_aload_n hx hb dX10_isFree_9 rfl (lv_at hl 0 rfl) ?_
    refine lv_iload_n hx hb dX10_isFree_10 rfl (lv_at hl 1 rfl) ?_
    refine lv_iconst (v := 2) hx hb dX10_isFree_11 (by decide) ?_
    obtain ⟨r5, h7, hc6, hf⟩ := bnd_some hf
    refine z_callV (As := [.int p1, .int (2 : Int32)]) (rest := []) (C := RX10) hx hb hml hown hL hK hM hS (kX10_of l G A V h3 p1 (2 : Int32) hc6) (zg_X10_of zw4_103) zv_X10_of ⟨rfl, rfl⟩ ⟨Nat.le_of_ble_eq_true rfl, Nat.le_of_ble_eq_true rfl⟩ (hM.recv hK dm_16 (ze_16 G V 0 0 h3) rfl) rfl hl.1 rfl (Nat.le_of_ble_eq_true rfl) dX10_isFree_12 ⟨Nat.zero_le _, Nat.zero_le _⟩ (fun H locs hM hS => ?_)
    refine W.eq (g2 := F0 m 15 ls [.int r5]) rfl ?_
    refine lv_if_ge (tgt := 31) hx hb dX10_isFree_15 (by decide) (fun c8 => ?_) (fun c8 => ?_)
    · replace hf := ift hf c8
      refine lv_iconst (v := 0) hx hb dX10_isFree_31 (by decide) ?_
      exact hQf rfl hf hM hS dX10_isFree_32
    · replace hf := iff_ hf c8
      refine lv_aload_n hx hb dX10_isFree_18 rfl (lv_at hl 0 rfl) ?_
      refine lv_iload_n hx hb dX10_isFree_19 rfl (lv_at hl 1 rfl) ?_
      refine lv_iconst (v := 4) hx hb dX10_isFree_20 (by decide) ?_
      obtain ⟨r9, h11, hc10, hf⟩ := bnd_some hf
      refine z_callV (As := [.int p1, .int (4 : Int32)]) (rest := []) (C := RX10) hx hb hml hown hL hK hM hS (kX10_of l G A V h7 p1 (4 : Int32) hc10) (zg_X10_of zw4_103) zv_X10_of ⟨rfl, rfl⟩ ⟨Nat.le_of_ble_eq_true rfl, Nat.le_of_ble_eq_true rfl⟩ (hM.recv hK dm_16 (ze_16 G V 0 0 h7) rfl) rfl hl.1 rfl (Nat.le_of_ble_eq_true rfl) dX10_isFree_21 ⟨Nat.zero_le _, Nat.zero_le _⟩ (fun H locs hM hS => ?_)
      refine W.eq (g2 := F0 m 24 ls [.int r9]) rfl ?_
      refine lv_if_ge (tgt := 31) hx hb dX10_isFree_24 (by decide) (fun c12 => ?_) (fun c12 => ?_)
      · replace hf := ift hf c12
        refine lv_iconst (v := 0) hx hb dX10_isFree_31 (by decide) ?_
        exact hQf rfl hf hM hS dX10_isFree_32
      · replace hf := iff_ hf c12
        refine lv_iconst (v := 1) hx hb dX10_isFree_27 (by decide) ?_
        refine lv_goto (tgt := 32) hx hb dX10_isFree_28 (by decide) ?_
        exact hQf rfl hf hM hS dX10_isFree_32
abbrev rX10_lowestFree : Room := { frames := 2, cells := 0, slots := 0, locals := 43 }
set_option maxRecDepth 100000 in
set_option maxHeartbeats 4000000 in
theorem kX10_lowestFree (l : Launch) (G : zG) (A : Nat → Prop) (V : zV3) (h : zV2) (p1 : Int32) {r : Int32} {h' : zV2} (hf : xX10_lowestFree h p1 = some (r, h')) : zCt l G A yX10_lowestFree cX10_lowestFree 3 (some .int) rX10_lowestFree [.ref (gA G 16 0 0), .int p1] (upG V 8 h) (some (.int r)) (upG V 8 h') := by
  refine z_CtI (by decide) (Nat.le_of_ble_eq_true rfl) ?_
  intro p e s m args below meth c Q hx hb hml hown hL hK hM hS hQ ls hl
  replace hl : lv_has ls 3 [(0, .ref (gA G 16 0 0)), (1, .int p1)] := hl
  have hQf : ∀ {a : Int32} {k : zV2} {H : Heap} {locs : List Loc} {pc : Nat} {ls : Array Slot}, some (a, k) = some (r, h') → zM G (upG V 8 k) H → va_S A s.heap H locs → decode cX10_lowestFree pc = .ok (.ireturn, 1) → W p l e rX10_lowestFree s m args below meth c H locs 0 0 Q (F0 m pc ls [.int a]) := by
    intro a k H locs pc ls e1 hM hS hd
    cases e1
    exact hQ H locs pc ls hM hS hd
  have L2 : ∀ (n : Nat) (h : zV2) (a2 : Int32), xX10_lowestFree_L2 p1 n h a2 = some (r, h') → ∀ (H : Heap) (locs : List Loc) (ls : Array Slot), zM G (upG V 8 h) H → va_S A s.heap H locs → lv_has ls 3 [(0, .ref (gA G 16 0 0)), (1, .int p1), (2, .int a2)] → W p l e rX10_lowestFree s m args below meth c H locs 0 0 Q (F0 m 2 ls []) := by
    intro n
    induction n with
    | zero =>
      intro h a2 hf H locs ls hM hS hl
      rw [xX10_lowestFree_L2] at hf
      cases hf
    | succ n ih =>
      intro h a2 hf H locs ls hM hS hl
      rw [xX10_lowestFree_L2] at hf
      refine lv_iload_n hx hb dX10_lowestFree_2 rfl (lv_at hl 2 rfl) ?_
      refine lv_aload_n hx hb dX10_lowestFree_3 rfl (lv_at hl 0 rfl) ?_
      refine z_get (own := RX10) (C := RX10) (T := TX10) (N := 12) (ci := 8) (v := .ref (gA G 17 0 0)) hx hb hL inX10 hown hK hM dm_16 (ze_16 G V 0 0 h) rfl 0 (by decide) (hL _ zw4_19) rfl rfl dX10_lowestFree_4 ?_
      refine lv_iconst (v := 4) hx hb dX10_lowestFree_7 (by decide) ?_
      obtain ⟨hb1, hf⟩ := grd_some hf
      refine z_iald hx hb hK hM (dm_17 (i := 0) (by decide)) (ze_17_0 G V h) (inb_in hb1) dX10_lowestFree_8 ?_
      refine lv_icmp_ge (tgt := 43) hx hb dX10_lowestFree_9 (by decide) (fun c2 => ?_) (fun c2 => ?_)
      · replace hf := ift hf c2
        refine lv_iconst (v := -1) hx hb dX10_lowestFree_43 (by decide) ?_
        exact hQf hf hM hS dX10_lowestFree_44
      · replace hf := iff_ hf c2
        refine lv_aload_n hx hb dX10_lowestFree_12 rfl (lv_at hl 0 rfl) ?_
        refine lv_iload_n hx hb dX10_lowestFree_13 rfl (lv_at hl 2 rfl) ?_
        obtain ⟨r3, h5, hc4, hf⟩ := bnd_some hf
        refine z_callV (As := [.int a2]) (rest := []) (C := RX10) hx hb hml hown hL hK hM hS (kX10_isFree l G A V h a2 hc4) (zg_X10_isFree zw4_115) zv_X10_isFree ⟨rfl, rfl⟩ ⟨Nat.le_of_ble_eq_true rfl, Nat.le_of_ble_eq_true rfl⟩ (hM.recv hK dm_16 (ze_16 G V 0 0 h) rfl) rfl hl.1 rfl (Nat.le_of_ble_eq_true rfl) dX10_lowestFree_14 ⟨Nat.zero_le _, Nat.zero_le _⟩ (fun H locs hM hS => ?_)
        refine W.eq (g2 := F0 m 17 ls [.int r3]) rfl ?_
        refine lv_if_eq (tgt := 37) hx hb dX10_lowestFree_17 (by decide) (fun c6 => ?_) (fun c6 => ?_)
        · replace hf := ift hf c6
          obtain ⟨y7, ey7⟩ : ∃ y : Int32, y = a2 + (1 : Int32) := ⟨_, rfl⟩
          replace hf := ltI_some hf ey7
          refine lv_iinc (v := y7) (lv' := [(2, .int y7), (0, .ref (gA G 16 0 0)), (1, .int p1)]) hx hb dX10_lowestFree_37 hl (k := 2) rfl (by rw [ey7]; rfl) (by decide) rfl (fun ls hl => ?_)
          refine lv_goto (tgt := 2) hx hb dX10_lowestFree_40 (by decide) ?_
          exact ih h5 y7 hf _ _ _ hM hS (lv_sub hl [1, 2, 0] rfl)
        · replace hf := iff_ hf c6
          refine lv_iload_n hx hb dX10_lowestFree_20 rfl (lv_at hl 1 rfl) ?_
          refine lv_iconst (v := 3) hx hb dX10_lowestFree_21 (by decide) ?_
          refine lv_icmp_eq (tgt := 35) hx hb dX10_lowestFree_22 (by decide) (fun c8 => ?_) (fun c8 => ?_)
          · replace hf := ift hf c8
            refine lv_iload_n hx hb dX10_lowestFree_35 rfl (lv_at hl 2 rfl) ?_
            exact hQf hf hM hS dX10_lowestFree_36
          · replace hf := iff_ hf c8
            refine lv_aload_n hx hb dX10_lowestFree_25 rfl (lv_at hl 0 rfl) ?_
            refine lv_iload_n hx hb dX10_lowestFree_26 rfl (lv_at hl 2 rfl) ?_
            refine lv_iconst (v := 0) hx hb dX10_lowestFree_27 (by decide) ?_
            obtain ⟨r9, h11, hc10, hf⟩ := bnd_some hf
            refine z_callV (As := [.int a2, .int (0 : Int32)]) (rest := []) (C := RX10) hx hb hml hown hL hK hM hS (kX10_of l G A V h5 a2 (0 : Int32) hc10) (zg_X10_of zw4_103) zv_X10_of ⟨rfl, rfl⟩ ⟨Nat.le_of_ble_eq_true rfl, Nat.le_of_ble_eq_true rfl⟩ (hM.recv hK dm_16 (ze_16 G V 0 0 h5) rfl) rfl hl.1 rfl (Nat.le_of_ble_eq_true rfl) dX10_lowestFree_28 ⟨Nat.zero_le _, Nat.zero_le _⟩ (fun H locs hM hS => ?_)
            refine W.eq (g2 := F0 m 31 ls [.int r9]) rfl ?_
            refine lv_iload_n hx hb dX10_lowestFree_31 rfl (lv_at hl 1 rfl) ?_
            refine lv_icmp_ne (tgt := 37) hx hb dX10_lowestFree_32 (by decide) (fun c12 => ?_) (fun c12 => ?_)
            · replace hf := iff_ hf c12
              obtain ⟨y13, ey13⟩ : ∃ y : Int32, y = a2 + (1 : Int32) := ⟨_, rfl⟩
              replace hf := ltI_some hf ey13
              refine lv_iinc (v := y13) (lv' := [(2, .int y13), (0, .ref (gA G 16 0 0)), (1, .int p1)]) hx hb dX10_lowestFree_37 hl (k := 2) rfl (by rw [ey13]; rfl) (by decide) rfl (fun ls hl => ?_)
              refine lv_goto (tgt := 2) hx hb dX10_lowestFree_40 (by decide) ?_
              exact ih h11 y13 hf _ _ _ hM hS (lv_sub hl [1, 2, 0] rfl)
            · replace hf := ift hf c12
              refine lv_iload_n hx hb dX10_lowestFree_35 rfl (lv_at hl 2 rfl) ?_
              exact hQf hf hM hS dX10_lowestFree_36
  unfold xX10_lowestFree at hf
  refine lv_iconst (v := 0) hx hb dX10_lowestFree_0 (by decide) ?_
  refine lv_istore_n (lv' := [(2, .int (0 : Int32)), (0, .ref (gA G 16 0 0)), (1, .int p1)]) hx hb dX10_lowestFree_1 rfl hl (by decide) rfl (fun ls hl => ?_)
  exact L2 1000 h (0 : Int32) hf _ _ _ hM hS (lv_sub hl [1, 2, 0] rfl)
abbrev rX10_placeOf : Room := { frames := 0, cells := 0, slots := 0, locals := 0 }
set_option maxRecDepth 100000 in
set_option maxHeartbeats 4000000 in
theorem kX10_placeOf (l : Launch) (G : zG) (A : Nat → Prop) (V : zV3) (h : zV2) (p1 : Int32) {r : Int32} {h' : zV2} (hf : xX10_placeOf h p1 = some (r, h')) : zCt l G A yX10_placeOf cX10_placeOf 3 (some .int) rX10_placeOf [.ref (gA G 16 0 0), .int p1] (upG V 8 h) (some (.int r)) (upG V 8 h') := by
  refine z_CtI (by decide) (Nat.le_of_ble_eq_true rfl) ?_
  intro p e s m args below meth c Q hx hb hml hown hL hK hM hS hQ ls hl
  replace hl : lv_has ls 3 [(0, .ref (gA G 16 0 0)), (1, .int p1)] := hl
  have hQf : ∀ {a : Int32} {k : zV2} {H : Heap} {locs : List Loc} {pc : Nat} {ls : Array Slot}, some (a, k) = some (r, h') → zM G (upG V 8 k) H → va_S A s.heap H locs → decode cX10_placeOf pc = .ok (.ireturn, 1) → W p l e rX10_placeOf s m args below meth c H locs 0 0 Q (F0 m pc ls [.int a]) := by
    intro a k H locs pc ls e1 hM hS hd
    cases e1
    exact hQ H locs pc ls hM hS hd
  have L2 : ∀ (n : Nat) (h : zV2) (a2 : Int32), xX10_placeOf_L2 p1 n h a2 = some (r, h') → ∀ (H : Heap) (locs : List Loc) (ls : Array Slot), zM G (upG V 8 h) H → va_S A s.heap H locs → lv_has ls 3 [(0, .ref (gA G 16 0 0)), (1, .int p1), (2, .int a2)] → W p l e rX10_placeOf s m args below meth c H locs 0 0 Q (F0 m 2 ls []) := by
    intro n
    induction n with
    | zero =>
      intro h a2 hf H locs ls hM hS hl
      rw [xX10_placeOf_L2] at hf
      cases hf
    | succ n ih =>
      intro h a2 hf H locs ls hM hS hl
      rw [xX10_placeOf_L2] at hf
      refine lv_iload_n hx hb dX10_placeOf_2 rfl (lv_at hl 2 rfl) ?_
      refine lv_aload_n hx hb dX10_placeOf_3 rfl (lv_at hl 0 rfl) ?_
      refine z_get (own := RX10) (C := RX10) (T := TX10) (N := 12) (ci := 8) (v := .ref (gA G 17 0 0)) hx hb hL inX10 hown hK hM dm_16 (ze_16 G V 0 0 h) rfl 0 (by decide) (hL _ zw4_19) rfl rfl dX10_placeOf_4 ?_
      refine lv_bipush (v := 6) hx hb dX10_placeOf_7 (by decide) ?_
      obtain ⟨hb1, hf⟩ := grd_some hf
      refine z_iald hx hb hK hM (dm_17 (i := 0) (by decide)) (ze_17_0 G V h) (inb_in hb1) dX10_placeOf_9 ?_
      refine lv_icmp_ge (tgt := 37) hx hb dX10_placeOf_10 (by decide) (fun c2 => ?_) (fun c2 => ?_)
      · replace hf := ift hf c2
        refine lv_iconst (v := -1) hx hb dX10_placeOf_37 (by decide) ?_
        exact hQf hf hM hS dX10_placeOf_38
      · replace hf := iff_ hf c2
        refine lv_aload_n hx hb dX10_placeOf_13 rfl (lv_at hl 0 rfl) ?_
        refine z_get (own := RX10) (C := RX10) (T := TX10) (N := 12) (ci := 8) (v := .ref (gA G 17 0 0)) hx hb hL inX10 hown hK hM dm_16 (ze_16 G V 0 0 h) rfl 0 (by decide) (hL _ zw4_19) rfl rfl dX10_placeOf_14 ?_
        refine lv_sipush (v := 163) hx hb dX10_placeOf_17 (by decide) ?_
        refine lv_iconst (v := 2) hx hb dX10_placeOf_20 (by decide) ?_
        refine lv_iload_n hx hb dX10_placeOf_21 rfl (lv_at hl 2 rfl) ?_
        refine lv_imul hx hb dX10_placeOf_22 ?_
        refine lv_iadd hx hb dX10_placeOf_23 ?_
        obtain ⟨hb3, hf⟩ := grd_some hf
        refine z_iald hx hb hK hM (dm_17 (i := 0) (by decide)) (ze_17_0 G V h) (inb_in hb3) dX10_placeOf_24 ?_
        refine lv_iload_n hx hb dX10_placeOf_25 rfl (lv_at hl 1 rfl) ?_
        refine lv_icmp_ne (tgt := 31) hx hb dX10_placeOf_26 (by decide) (fun c4 => ?_) (fun c4 => ?_)
        · replace hf := iff_ hf c4
          obtain ⟨y5, ey5⟩ : ∃ y : Int32, y = a2 + (1 : Int32) := ⟨_, rfl⟩
          replace hf := ltI_some hf ey5
          refine lv_iinc (v := y5) (lv' := [(2, .int y5), (0, .ref (gA G 16 0 0)), (1, .int p1)]) hx hb dX10_placeOf_31 hl (k := 2) rfl (by rw [ey5]; rfl) (by decide) rfl (fun ls hl => ?_)
          refine lv_goto (tgt := 2) hx hb dX10_placeOf_34 (by decide) ?_
          exact ih h y5 hf _ _ _ hM hS (lv_sub hl [1, 2, 0] rfl)
        · replace hf := ift hf c4
          refine lv_iload_n hx hb dX10_placeOf_29 rfl (lv_at hl 2 rfl) ?_
          exact hQf hf hM hS dX10_placeOf_30
  unfold xX10_placeOf at hf
  refine lv_iconst (v := 0) hx hb dX10_placeOf_0 (by decide) ?_
  refine lv_istore_n (lv' := [(2, .int (0 : Int32)), (0, .ref (gA G 16 0 0)), (1, .int p1)]) hx hb dX10_placeOf_1 rfl hl (by decide) rfl (fun ls hl => ?_)
  exact L2 1000 h (0 : Int32) hf _ _ _ hM hS (lv_sub hl [1, 2, 0] rfl)
abbrev rX10_waitsNoMore : Room := { frames := 0, cells := 0, slots := 0, locals := 0 }
set_option maxRecDepth 100000 in
set_option maxHeartbeats 4000000 in
theorem kX10_waitsNoMore (l : Launch) (G : zG) (A : Nat → Prop) (V : zV3) (h : zV2) (p1 : Int32) {r : Unit} {h' : zV2} (hf : xX10_waitsNoMore h p1 = some (r, h')) : zCt l G A yX10_waitsNoMore cX10_waitsNoMore 3 none rX10_waitsNoMore [.ref (gA G 16 0 0), .int p1] (upG V 8 h) none (upG V 8 h') := by
  refine z_CtV (by decide) (Nat.le_of_ble_eq_true rfl) ?_
  intro p e s m args below meth c Q hx hb hml hown hL hK hM hS hQ ls hl
  replace hl : lv_has ls 3 [(0, .ref (gA G 16 0 0)), (1, .int p1)] := hl
  have hQf : ∀ {a : Unit} {k : zV2} {H : Heap} {locs : List Loc} {pc : Nat} {ls : Array Slot}, some (a, k) = some (r, h') → zM G (upG V 8 k) H → va_S A s.heap H locs → decode cX10_waitsNoMore pc = .ok (.return_, 1) → W p l e rX10_waitsNoMore s m args below meth c H locs 0 0 Q (F0 m pc ls []) := by
    intro a k H locs pc ls e1 hM hS hd
    cases e1
    exact hQ H locs pc ls hM hS hd
  have L15 : ∀ (n : Nat) (h : zV2) (a2 : Int32), xX10_waitsNoMore_L15 p1 n h a2 = some (r, h') → ∀ (H : Heap) (locs : List Loc) (ls : Array Slot), zM G (upG V 8 h) H → va_S A s.heap H locs → lv_has ls 3 [(0, .ref (gA G 16 0 0)), (2, .int a2)] → W p l e rX10_waitsNoMore s m args below meth c H locs 0 0 Q (F0 m 15 ls []) := by
    intro n
    induction n with
    | zero =>
      intro h a2 hf H locs ls hM hS hl
      rw [xX10_waitsNoMore_L15] at hf
      cases hf
    | succ n ih =>
      intro h a2 hf H locs ls hM hS hl
      rw [xX10_waitsNoMore_L15] at hf
      refine lv_iload_n hx hb dX10_waitsNoMore_15 rfl (lv_at hl 1 rfl) ?_
      refine lv_iconst (v := 2) hx hb dX10_waitsNoMore_16 (by decide) ?_
      refine lv_aload_n hx hb dX10_waitsNoMore_17 rfl (lv_at hl 0 rfl) ?_
      refine z_get (own := RX10) (C := RX10) (T := TX10) (N := 12) (ci := 8) (v := .ref (gA G 17 0 0)) hx hb hL inX10 hown hK hM dm_16 (ze_16 G V 0 0 h) rfl 0 (by decide) (hL _ zw4_19) rfl rfl dX10_waitsNoMore_18 ?_
      refine lv_bipush (v := 6) hx hb dX10_waitsNoMore_21 (by decide) ?_
      obtain ⟨hb1, hf⟩ := grd_some hf
      refine z_iald hx hb hK hM (dm_17 (i := 0) (by decide)) (ze_17_0 G V h) (inb_in hb1) dX10_waitsNoMore_23 ?_
      refine lv_imul hx hb dX10_waitsNoMore_24 ?_
      refine lv_icmp_ge (tgt := 56) hx hb dX10_waitsNoMore_25 (by decide) (fun c2 => ?_) (fun c2 => ?_)
      · replace hf := ift hf c2
        exact hQf hf hM hS dX10_waitsNoMore_56
      · replace hf := iff_ hf c2
        refine lv_aload_n hx hb dX10_waitsNoMore_28 rfl (lv_at hl 0 rfl) ?_
        refine z_get (own := RX10) (C := RX10) (T := TX10) (N := 12) (ci := 8) (v := .ref (gA G 17 0 0)) hx hb hL inX10 hown hK hM dm_16 (ze_16 G V 0 0 h) rfl 0 (by decide) (hL _ zw4_19) rfl rfl dX10_waitsNoMore_29 ?_
        refine lv_sipush (v := 163) hx hb dX10_waitsNoMore_32 (by decide) ?_
        refine lv_iload_n hx hb dX10_waitsNoMore_35 rfl (lv_at hl 1 rfl) ?_
        refine lv_iadd hx hb dX10_waitsNoMore_36 ?_
        refine lv_aload_n hx hb dX10_waitsNoMore_37 rfl (lv_at hl 0 rfl) ?_
        refine z_get (own := RX10) (C := RX10) (T := TX10) (N := 12) (ci := 8) (v := .ref (gA G 17 0 0)) hx hb hL inX10 hown hK hM dm_16 (ze_16 G V 0 0 h) rfl 0 (by decide) (hL _ zw4_19) rfl rfl dX10_waitsNoMore_38 ?_
        refine lv_sipush (v := 163) hx hb dX10_waitsNoMore_41 (by decide) ?_
        refine lv_iload_n hx hb dX10_waitsNoMore_44 rfl (lv_at hl 1 rfl) ?_
        refine lv_iadd hx hb dX10_waitsNoMore_45 ?_
        refine lv_iconst (v := 2) hx hb dX10_waitsNoMore_46 (by decide) ?_
        refine lv_iadd hx hb dX10_waitsNoMore_47 ?_
        obtain ⟨hb3, hf⟩ := grd_some hf
        refine z_iald hx hb hK hM (dm_17 (i := 0) (by decide)) (ze_17_0 G V h) (inb_in hb3) dX10_waitsNoMore_48 ?_
        obtain ⟨hb4, hf⟩ := grd_some hf
        obtain ⟨h5, eh5⟩ : ∃ y, y = up2 h 0 (((163 : Int32) + a2).toNatClampNeg) (h 0 ((((163 : Int32) + a2) + (2 : Int32)).toNatClampNeg)) := ⟨_, rfl⟩
        replace hf := put2_some hf eh5
        refine z_iast (V' := upG V 8 h5) hx hb hK hM hS (dm_17 (i := 0) (by decide)) (ze_17_0 G V h) (inb_in hb4) (by rw [eh5]; exact zn_17_0 G V h (((163 : Int32) + a2).toNatClampNeg) (h 0 ((((163 : Int32) + a2) + (2 : Int32)).toNatClampNeg))) dX10_waitsNoMore_49 (fun H locs hM hS => ?_)
        obtain ⟨y6, ey6⟩ : ∃ y : Int32, y = a2 + (1 : Int32) := ⟨_, rfl⟩
        replace hf := ltI_some hf ey6
        refine lv_iinc (v := y6) (lv' := [(2, .int y6), (0, .ref (gA G 16 0 0))]) hx hb dX10_waitsNoMore_50 hl (k := 1) rfl (by rw [ey6]; rfl) (by decide) rfl (fun ls hl => ?_)
        refine lv_goto (tgt := 15) hx hb dX10_waitsNoMore_53 (by decide) ?_
        exact ih h5 y6 hf _ _ _ hM hS (lv_sub hl [1, 0] rfl)
  unfold xX10_waitsNoMore at hf
  refine lv_aload_n hx hb dX10_waitsNoMore_0 rfl (lv_at hl 0 rfl) ?_
  refine z_get (own := RX10) (C := RX10) (T := TX10) (N := 12) (ci := 8) (v := .ref (gA G 17 0 0)) hx hb hL inX10 hown hK hM dm_16 (ze_16 G V 0 0 h) rfl 0 (by decide) (hL _ zw4_19) rfl rfl dX10_waitsNoMore_1 ?_
  refine lv_bipush (v := 6) hx hb dX10_waitsNoMore_4 (by decide) ?_
  refine lv_dup2_11 hx hb dX10_waitsNoMore_6 rfl rfl ?_
  obtain ⟨hb1, hf⟩ := grd_some hf
  refine z_iald hx hb hK hM (dm_17 (i := 0) (by decide)) (ze_17_0 G V h) (inb_in hb1) dX10_waitsNoMore_7 ?_
  refine lv_iconst (v := 1) hx hb dX10_waitsNoMore_8 (by decide) ?_
  refine lv_isub hx hb dX10_waitsNoMore_9 ?_
  obtain ⟨hb2, hf⟩ := grd_some hf
  obtain ⟨h3, eh3⟩ : ∃ y, y = up2 h 0 ((6 : Int32).toNatClampNeg) ((h 0 ((6 : Int32).toNatClampNeg)) - (1 : Int32)) := ⟨_, rfl⟩
  replace hf := put2_some hf eh3
  refine z_iast (V' := upG V 8 h3) hx hb hK hM hS (dm_17 (i := 0) (by decide)) (ze_17_0 G V h) (inb_in hb2) (by rw [eh3]; exact zn_17_0 G V h ((6 : Int32).toNatClampNeg) ((h 0 ((6 : Int32).toNatClampNeg)) - (1 : Int32))) dX10_waitsNoMore_10 (fun H locs hM hS => ?_)
  refine lv_iconst (v := 2) hx hb dX10_waitsNoMore_11 (by decide) ?_
  refine lv_iload_n hx hb dX10_waitsNoMore_12 rfl (lv_at hl 1 rfl) ?_
  refine lv_imul hx hb dX10_waitsNoMore_13 ?_
  refine lv_topi (fun y4 ey4 => ?_)
  replace hf := ltI_some hf ey4
  refine lv_istore_n (lv' := [(2, .int y4), (0, .ref (gA G 16 0 0)), (1, .int p1)]) hx hb dX10_waitsNoMore_14 rfl hl (by decide) rfl (fun ls hl => ?_)
  exact L15 1000 h3 y4 hf _ _ _ hM hS (lv_sub hl [1, 0] rfl)
abbrev rX10_waitsFor : Room := { frames := 0, cells := 0, slots := 0, locals := 0 }
set_option maxRecDepth 100000 in
set_option maxHeartbeats 4000000 in
theorem kX10_waitsFor (l : Launch) (G : zG) (A : Nat → Prop) (V : zV3) (h : zV2) (p1 : Int32) (p2 : Int32) {r : Unit} {h' : zV2} (hf : xX10_waitsFor h p1 p2 = some (r, h')) : zCt l G A yX10_waitsFor cX10_waitsFor 3 none rX10_waitsFor [.ref (gA G 16 0 0), .int p1, .int p2] (upG V 8 h) none (upG V 8 h') := by
  refine z_CtV (by decide) (Nat.le_of_ble_eq_true rfl) ?_
  intro p e s m args below meth c Q hx hb hml hown hL hK hM hS hQ ls hl
  replace hl : lv_has ls 3 [(0, .ref (gA G 16 0 0)), (1, .int p1), (2, .int p2)] := hl
  have hQf : ∀ {a : Unit} {k : zV2} {H : Heap} {locs : List Loc} {pc : Nat} {ls : Array Slot}, some (a, k) = some (r, h') → zM G (upG V 8 k) H → va_S A s.heap H locs → decode cX10_waitsFor pc = .ok (.return_, 1) → W p l e rX10_waitsFor s m args below meth c H locs 0 0 Q (F0 m pc ls []) := by
    intro a k H locs pc ls e1 hM hS hd
    cases e1
    exact hQ H locs pc ls hM hS hd
  unfold xX10_waitsFor at hf
  refine lv_aload_n hx hb dX10_waitsFor_0 rfl (lv_at hl 0 rfl) ?_
  refine z_get (own := RX10) (C := RX10) (T := TX10) (N := 12) (ci := 8) (v := .ref (gA G 17 0 0)) hx hb hL inX10 hown hK hM dm_16 (ze_16 G V 0 0 h) rfl 0 (by decide) (hL _ zw4_19) rfl rfl dX10_waitsFor_1 ?_
  refine lv_sipush (v := 163) hx hb dX10_waitsFor_4 (by decide) ?_
  refine lv_iconst (v := 2) hx hb dX10_waitsFor_7 (by decide) ?_
  refine lv_aload_n hx hb dX10_waitsFor_8 rfl (lv_at hl 0 rfl) ?_
  refine z_get (own := RX10) (C := RX10) (T := TX10) (N := 12) (ci := 8) (v := .ref (gA G 17 0 0)) hx hb hL inX10 hown hK hM dm_16 (ze_16 G V 0 0 h) rfl 0 (by decide) (hL _ zw4_19) rfl rfl dX10_waitsFor_9 ?_
  refine lv_bipush (v := 6) hx hb dX10_waitsFor_12 (by decide) ?_
  obtain ⟨hb1, hf⟩ := grd_some hf
  refine z_iald hx hb hK hM (dm_17 (i := 0) (by decide)) (ze_17_0 G V h) (inb_in hb1) dX10_waitsFor_14 ?_
  refine lv_imul hx hb dX10_waitsFor_15 ?_
  refine lv_iadd hx hb dX10_waitsFor_16 ?_
  refine lv_iload_n hx hb dX10_waitsFor_17 rfl (lv_at hl 1 rfl) ?_
  obtain ⟨hb2, hf⟩ := grd_some hf
  obtain ⟨h3, eh3⟩ : ∃ y, y = up2 h 0 (((163 : Int32) + ((2 : Int32) * (h 0 ((6 : Int32).toNatClampNeg)))).toNatClampNeg) p1 := ⟨_, rfl⟩
  replace hf := put2_some hf eh3
  refine z_iast (V' := upG V 8 h3) hx hb hK hM hS (dm_17 (i := 0) (by decide)) (ze_17_0 G V h) (inb_in hb2) (by rw [eh3]; exact zn_17_0 G V h (((163 : Int32) + ((2 : Int32) * (h 0 ((6 : Int32).toNatClampNeg)))).toNatClampNeg) p1) dX10_waitsFor_18 (fun H locs hM hS => ?_)
  refine lv_aload_n hx hb dX10_waitsFor_19 rfl (lv_at hl 0 rfl) ?_
  refine z_get (own := RX10) (C := RX10) (T := TX10) (N := 12) (ci := 8) (v := .ref (gA G 17 0 0)) hx hb hL inX10 hown hK hM dm_16 (ze_16 G V 0 0 h3) rfl 0 (by decide) (hL _ zw4_19) rfl rfl dX10_waitsFor_20 ?_
  refine lv_sipush (v := 163) hx hb dX10_waitsFor_23 (by decide) ?_
  refine lv_iconst (v := 2) hx hb dX10_waitsFor_26 (by decide) ?_
  refine lv_aload_n hx hb dX10_waitsFor_27 rfl (lv_at hl 0 rfl) ?_
  refine z_get (own := RX10) (C := RX10) (T := TX10) (N := 12) (ci := 8) (v := .ref (gA G 17 0 0)) hx hb hL inX10 hown hK hM dm_16 (ze_16 G V 0 0 h3) rfl 0 (by decide) (hL _ zw4_19) rfl rfl dX10_waitsFor_28 ?_
  refine lv_bipush (v := 6) hx hb dX10_waitsFor_31 (by decide) ?_
  obtain ⟨hb4, hf⟩ := grd_some hf
  refine z_iald hx hb hK hM (dm_17 (i := 0) (by decide)) (ze_17_0 G V h3) (inb_in hb4) dX10_waitsFor_33 ?_
  refine lv_imul hx hb dX10_waitsFor_34 ?_
  refine lv_iadd hx hb dX10_waitsFor_35 ?_
  refine lv_iconst (v := 1) hx hb dX10_waitsFor_36 (by decide) ?_
  refine lv_iadd hx hb dX10_waitsFor_37 ?_
  refine lv_iload_n hx hb dX10_waitsFor_38 rfl (lv_at hl 2 rfl) ?_
  obtain ⟨hb5, hf⟩ := grd_some hf
  obtain ⟨h6, eh6⟩ : ∃ y, y = up2 h3 0 ((((163 : Int32) + ((2 : Int32) * (h3 0 ((6 : Int32).toNatClampNeg)))) + (1 : Int32)).toNatClampNeg) p2 := ⟨_, rfl⟩
  replace hf := put2_some hf eh6
  refine z_iast (V' := upG V 8 h6) hx hb hK hM hS (dm_17 (i := 0) (by decide)) (ze_17_0 G V h3) (inb_in hb5) (by rw [eh6]; exact zn_17_0 G V h3 ((((163 : Int32) + ((2 : Int32) * (h3 0 ((6 : Int32).toNatClampNeg)))) + (1 : Int32)).toNatClampNeg) p2) dX10_waitsFor_39 (fun H locs hM hS => ?_)
  refine lv_aload_n hx hb dX10_waitsFor_40 rfl (lv_at hl 0 rfl) ?_
  refine z_get (own := RX10) (C := RX10) (T := TX10) (N := 12) (ci := 8) (v := .ref (gA G 17 0 0)) hx hb hL inX10 hown hK hM dm_16 (ze_16 G V 0 0 h6) rfl 0 (by decide) (hL _ zw4_19) rfl rfl dX10_waitsFor_41 ?_
  refine lv_bipush (v := 6) hx hb dX10_waitsFor_44 (by decide) ?_
  refine lv_dup2_11 hx hb dX10_waitsFor_46 rfl rfl ?_
  obtain ⟨hb7, hf⟩ := grd_some hf
  refine z_iald hx hb hK hM (dm_17 (i := 0) (by decide)) (ze_17_0 G V h6) (inb_in hb7) dX10_waitsFor_47 ?_
  refine lv_iconst (v := 1) hx hb dX10_waitsFor_48 (by decide) ?_
  refine lv_iadd hx hb dX10_waitsFor_49 ?_
  obtain ⟨hb8, hf⟩ := grd_some hf
  obtain ⟨h9, eh9⟩ : ∃ y, y = up2 h6 0 ((6 : Int32).toNatClampNeg) ((h6 0 ((6 : Int32).toNatClampNeg)) + (1 : Int32)) := ⟨_, rfl⟩
  replace hf := put2_some hf eh9
  refine z_iast (V' := upG V 8 h9) hx hb hK hM hS (dm_17 (i := 0) (by decide)) (ze_17_0 G V h6) (inb_in hb8) (by rw [eh9]; exact zn_17_0 G V h6 ((6 : Int32).toNatClampNeg) ((h6 0 ((6 : Int32).toNatClampNeg)) + (1 : Int32))) dX10_waitsFor_50 (fun H locs hM hS => ?_)
  exact hQf hf hM hS dX10_waitsFor_51
abbrev rX10_firstWaiting : Room := { frames := 0, cells := 0, slots := 0, locals := 0 }
set_option maxRecDepth 100000 in
set_option maxHeartbeats 4000000 in
theorem kX10_firstWaiting (l : Launch) (G : zG) (A : Nat → Prop) (V : zV3) (h : zV2) (p1 : Int32) {r : Int32} {h' : zV2} (hf : xX10_firstWaiting h p1 = some (r, h')) : zCt l G A yX10_firstWaiting cX10_firstWaiting 4 (some .int) rX10_firstWaiting [.ref (gA G 16 0 0), .int p1] (upG V 8 h) (some (.int r)) (upG V 8 h') := by
  refine z_CtI (by decide) (Nat.le_of_ble_eq_true rfl) ?_
  intro p e s m args below meth c Q hx hb hml hown hL hK hM hS hQ ls hl
  replace hl : lv_has ls 4 [(0, .ref (gA G 16 0 0)), (1, .int p1)] := hl
  have hQf : ∀ {a : Int32} {k : zV2} {H : Heap} {locs : List Loc} {pc : Nat} {ls : Array Slot}, some (a, k) = some (r, h') → zM G (upG V 8 k) H → va_S A s.heap H locs → decode cX10_firstWaiting pc = .ok (.ireturn, 1) → W p l e rX10_firstWaiting s m args below meth c H locs 0 0 Q (F0 m pc ls [.int a]) := by
    intro a k H locs pc ls e1 hM hS hd
    cases e1
    exact hQ H locs pc ls hM hS hd
  have L2 : ∀ (n : Nat) (h : zV2) (a2 : Int32), xX10_firstWaiting_L2 p1 n h a2 = some (r, h') → ∀ (H : Heap) (locs : List Loc) (ls : Array Slot), zM G (upG V 8 h) H → va_S A s.heap H locs → lv_has ls 4 [(0, .ref (gA G 16 0 0)), (1, .int p1), (2, .int a2)] → W p l e rX10_firstWaiting s m args below meth c H locs 0 0 Q (F0 m 2 ls []) := by
    intro n
    induction n with
    | zero =>
      intro h a2 hf H locs ls hM hS hl
      rw [xX10_firstWaiting_L2] at hf
      cases hf
    | succ n ih =>
      intro h a2 hf H locs ls hM hS hl
      rw [xX10_firstWaiting_L2] at hf
      refine lv_iload_n hx hb dX10_firstWaiting_2 rfl (lv_at hl 2 rfl) ?_
      refine lv_aload_n hx hb dX10_firstWaiting_3 rfl (lv_at hl 0 rfl) ?_
      refine z_get (own := RX10) (C := RX10) (T := TX10) (N := 12) (ci := 8) (v := .ref (gA G 17 0 0)) hx hb hL inX10 hown hK hM dm_16 (ze_16 G V 0 0 h) rfl 0 (by decide) (hL _ zw4_19) rfl rfl dX10_firstWaiting_4 ?_
      refine lv_bipush (v := 6) hx hb dX10_firstWaiting_7 (by decide) ?_
      obtain ⟨hb1, hf⟩ := grd_some hf
      refine z_iald hx hb hK hM (dm_17 (i := 0) (by decide)) (ze_17_0 G V h) (inb_in hb1) dX10_firstWaiting_9 ?_
      refine lv_icmp_ge (tgt := 46) hx hb dX10_firstWaiting_10 (by decide) (fun c2 => ?_) (fun c2 => ?_)
      · replace hf := ift hf c2
        refine lv_iconst (v := -1) hx hb dX10_firstWaiting_46 (by decide) ?_
        exact hQf hf hM hS dX10_firstWaiting_47
      · replace hf := iff_ hf c2
        refine lv_aload_n hx hb dX10_firstWaiting_13 rfl (lv_at hl 0 rfl) ?_
        refine z_get (own := RX10) (C := RX10) (T := TX10) (N := 12) (ci := 8) (v := .ref (gA G 17 0 0)) hx hb hL inX10 hown hK hM dm_16 (ze_16 G V 0 0 h) rfl 0 (by decide) (hL _ zw4_19) rfl rfl dX10_firstWaiting_14 ?_
        refine lv_sipush (v := 163) hx hb dX10_firstWaiting_17 (by decide) ?_
        refine lv_iconst (v := 2) hx hb dX10_firstWaiting_20 (by decide) ?_
        refine lv_iload_n hx hb dX10_firstWaiting_21 rfl (lv_at hl 2 rfl) ?_
        refine lv_imul hx hb dX10_firstWaiting_22 ?_
        refine lv_iadd hx hb dX10_firstWaiting_23 ?_
        refine lv_iconst (v := 1) hx hb dX10_firstWaiting_24 (by decide) ?_
        refine lv_iadd hx hb dX10_firstWaiting_25 ?_
        obtain ⟨hb3, hf⟩ := grd_some hf
        refine z_iald hx hb hK hM (dm_17 (i := 0) (by decide)) (ze_17_0 G V h) (inb_in hb3) dX10_firstWaiting_26 ?_
        refine lv_topi (fun y4 ey4 => ?_)
        replace hf := ltI_some hf ey4
        refine lv_istore_n (lv' := [(3, .int y4), (0, .ref (gA G 16 0 0)), (1, .int p1), (2, .int a2)]) hx hb dX10_firstWaiting_27 rfl hl (by decide) rfl (fun ls hl => ?_)
        refine lv_iload_n hx hb dX10_firstWaiting_28 rfl (lv_at hl 0 rfl) ?_
        refine lv_iload_n hx hb dX10_firstWaiting_29 rfl (lv_at hl 2 rfl) ?_
        refine lv_icmp_eq (tgt := 38) hx hb dX10_firstWaiting_30 (by decide) (fun c5 => ?_) (fun c5 => ?_)
        · replace hf := ift hf c5
          refine lv_iload_n hx hb dX10_firstWaiting_38 rfl (lv_at hl 3 rfl) ?_
          exact hQf hf hM hS dX10_firstWaiting_39
        · replace hf := iff_ hf c5
          refine lv_iload_n hx hb dX10_firstWaiting_33 rfl (lv_at hl 0 rfl) ?_
          refine lv_iconst (v := 3) hx hb dX10_firstWaiting_34 (by decide) ?_
          refine lv_icmp_ne (tgt := 40) hx hb dX10_firstWaiting_35 (by decide) (fun c6 => ?_) (fun c6 => ?_)
          · replace hf := iff_ hf c6
            obtain ⟨y7, ey7⟩ : ∃ y : Int32, y = a2 + (1 : Int32) := ⟨_, rfl⟩
            replace hf := ltI_some hf ey7
            refine lv_iinc (v := y7) (lv' := [(2, .int y7), (3, .int y4), (0, .ref (gA G 16 0 0)), (1, .int p1)]) hx hb dX10_firstWaiting_40 hl (k := 3) rfl (by rw [ey7]; rfl) (by decide) rfl (fun ls hl => ?_)
            refine lv_goto (tgt := 2) hx hb dX10_firstWaiting_43 (by decide) ?_
            exact ih h y7 hf _ _ _ hM hS (lv_sub hl [2, 3, 0] rfl)
          · replace hf := ift hf c6
            refine lv_iload_n hx hb dX10_firstWaiting_38 rfl (lv_at hl 3 rfl) ?_
            exact hQf hf hM hS dX10_firstWaiting_39
  unfold xX10_firstWaiting at hf
  refine lv_iconst (v := 0) hx hb dX10_firstWaiting_0 (by decide) ?_
  refine lv_istore_n (lv' := [(2, .int (0 : Int32)), (0, .ref (gA G 16 0 0)), (1, .int p1)]) hx hb dX10_firstWaiting_1 rfl hl (by decide) rfl (fun ls hl => ?_)
  exact L2 1000 h (0 : Int32) hf _ _ _ hM hS (lv_sub hl [1, 2, 0] rfl)
abbrev rX10_has : Room := { frames := 1, cells := 0, slots := 0, locals := 23 }
set_option maxRecDepth 100000 in
set_option maxHeartbeats 4000000 in
theorem kX10_has (l : Launch) (G : zG) (A : Nat → Prop) (V : zV3) (h : zV2) (p1 : Int32) (p2 : Int32) {r : Unit} {h' : zV2} (hf : xX10_has h p1 p2 = some (r, h')) : zCt l G A yX10_has cX10_has 3 none rX10_has [.ref (gA G 16 0 0), .int p1, .int p2] (upG V 8 h) none (upG V 8 h') := by
  refine z_CtV (by decide) (Nat.le_of_ble_eq_true rfl) ?_
  intro p e s m args below meth c Q hx hb hml hown hL hK hM hS hQ ls hl
  replace hl : lv_has ls 3 [(0, .ref (gA G 16 0 0)), (1, .int p1), (2, .int p2)] := hl
  have hQf : ∀ {a : Unit} {k : zV2} {H : Heap} {locs : List Loc} {pc : Nat} {ls : Array Slot}, some (a, k) = some (r, h') → zM G (upG V 8 k) H → va_S A s.heap H locs → decode cX10_has pc = .ok (.return_, 1) → W p l e rX10_has s m args below meth c H locs 0 0 Q (F0 m pc ls []) := by
    intro a k H locs pc ls e1 hM hS hd
    cases e1
    exact hQ H locs pc ls hM hS hd
  unfold xX10_has at hf
  refine lv_aload_n hx hb dX10_has_0 rfl (lv_at hl 0 rfl) ?_
  refine lv_iload_n hx hb dX10_has_1 rfl (lv_at hl 2 rfl) ?_
  refine lv_iconst (v := 2) hx hb dX10_has_2 (by decide) ?_
  refine lv_iload_n hx hb dX10_has_3 rfl (lv_at hl 1 rfl) ?_
  obtain ⟨r1, h3, hc2, hf⟩ := bnd_some hf
  refine z_callV (As := [.int p2, .int (2 : Int32), .int p1]) (rest := []) (C := RX10) hx hb hml hown hL hK hM hS (kX10_lay l G A V h p2 (2 : Int32) p1 hc2) (zg_X10_lay zw4_71) zv_X10_lay ⟨rfl, rfl⟩ ⟨Nat.le_of_ble_eq_true rfl, Nat.le_of_ble_eq_true rfl⟩ (hM.recv hK dm_16 (ze_16 G V 0 0 h) rfl) rfl hl.1 rfl (Nat.le_of_ble_eq_true rfl) dX10_has_4 ⟨Nat.zero_le _, Nat.zero_le _⟩ (fun H locs hM hS => ?_)
  refine W.eq (g2 := F0 m 7 ls []) rfl ?_
  refine lv_aload_n hx hb dX10_has_7 rfl (lv_at hl 0 rfl) ?_
  refine lv_iload_n hx hb dX10_has_8 rfl (lv_at hl 2 rfl) ?_
  refine lv_iconst (v := 5) hx hb dX10_has_9 (by decide) ?_
  refine lv_aload_n hx hb dX10_has_10 rfl (lv_at hl 0 rfl) ?_
  refine lv_iload_n hx hb dX10_has_11 rfl (lv_at hl 2 rfl) ?_
  refine lv_iconst (v := 5) hx hb dX10_has_12 (by decide) ?_
  obtain ⟨r4, h6, hc5, hf⟩ := bnd_some hf
  refine z_callV (As := [.int p2, .int (5 : Int32)]) (rest := [.int (5 : Int32), .int p2, .ref (gA G 16 0 0)]) (C := RX10) hx hb hml hown hL hK hM hS (kX10_of l G A V h3 p2 (5 : Int32) hc5) (zg_X10_of zw4_103) zv_X10_of ⟨rfl, rfl⟩ ⟨Nat.le_of_ble_eq_true rfl, Nat.le_of_ble_eq_true rfl⟩ (hM.recv hK dm_16 (ze_16 G V 0 0 h3) rfl) rfl hl.1 rfl (Nat.le_of_ble_eq_true rfl) dX10_has_13 ⟨Nat.zero_le _, Nat.zero_le _⟩ (fun H locs hM hS => ?_)
  refine W.eq (g2 := F0 m 16 ls [.int r4, .int (5 : Int32), .int p2, .ref (gA G 16 0 0)]) rfl ?_
  refine lv_iconst (v := 1) hx hb dX10_has_16 (by decide) ?_
  refine lv_iadd hx hb dX10_has_17 ?_
  obtain ⟨r7, h9, hc8, hf⟩ := bnd_some hf
  refine z_callV (As := [.int p2, .int (5 : Int32), .int (r4 + (1 : Int32))]) (rest := []) (C := RX10) hx hb hml hown hL hK hM hS (kX10_lay l G A V h6 p2 (5 : Int32) (r4 + (1 : Int32)) hc8) (zg_X10_lay zw4_71) zv_X10_lay ⟨rfl, rfl⟩ ⟨Nat.le_of_ble_eq_true rfl, Nat.le_of_ble_eq_true rfl⟩ (hM.recv hK dm_16 (ze_16 G V 0 0 h6) rfl) rfl hl.1 rfl (Nat.le_of_ble_eq_true rfl) dX10_has_18 ⟨Nat.zero_le _, Nat.zero_le _⟩ (fun H locs hM hS => ?_)
  refine W.eq (g2 := F0 m 21 ls []) rfl ?_
  refine lv_aload_n hx hb dX10_has_21 rfl (lv_at hl 0 rfl) ?_
  refine lv_iload_n hx hb dX10_has_22 rfl (lv_at hl 1 rfl) ?_
  refine lv_iconst (v := 0) hx hb dX10_has_23 (by decide) ?_
  refine lv_iload_n hx hb dX10_has_24 rfl (lv_at hl 2 rfl) ?_
  obtain ⟨r10, h12, hc11, hf⟩ := bnd_some hf
  refine z_callV (As := [.int p1, .int (0 : Int32), .int p2]) (rest := []) (C := RX10) hx hb hml hown hL hK hM hS (kX10_layP l G A V h9 p1 (0 : Int32) p2 hc11) (zg_X10_layP zw4_87) zv_X10_layP ⟨rfl, rfl⟩ ⟨Nat.le_of_ble_eq_true rfl, Nat.le_of_ble_eq_true rfl⟩ (hM.recv hK dm_16 (ze_16 G V 0 0 h9) rfl) rfl hl.1 rfl (Nat.le_of_ble_eq_true rfl) dX10_has_25 ⟨Nat.zero_le _, Nat.zero_le _⟩ (fun H locs hM hS => ?_)
  refine W.eq (g2 := F0 m 28 ls []) rfl ?_
  exact hQf hf hM hS dX10_has_28
abbrev rX10_beginsLoan : Room := { frames := 2, cells := 0, slots := 0, locals := 45 }
set_option maxRecDepth 100000 in
set_option maxHeartbeats 4000000 in
theorem kX10_beginsLoan (l : Launch) (G : zG) (A : Nat → Prop) (V : zV3) (h : zV2) (p1 : Int32) (p2 : Int32) {r : Unit} {h' : zV2} (hf : xX10_beginsLoan h p1 p2 = some (r, h')) : zCt l G A yX10_beginsLoan cX10_beginsLoan 3 none rX10_beginsLoan [.ref (gA G 16 0 0), .int p1, .int p2] (upG V 8 h) none (upG V 8 h') := by
  refine z_CtV (by decide) (Nat.le_of_ble_eq_true rfl) ?_
  intro p e s m args below meth c Q hx hb hml hown hL hK hM hS hQ ls hl
  replace hl : lv_has ls 3 [(0, .ref (gA G 16 0 0)), (1, .int p1), (2, .int p2)] := hl
  have hQf : ∀ {a : Unit} {k : zV2} {H : Heap} {locs : List Loc} {pc : Nat} {ls : Array Slot}, some (a, k) = some (r, h') → zM G (upG V 8 k) H → va_S A s.heap H locs → decode cX10_beginsLoan pc = .ok (.return_, 1) → W p l e rX10_beginsLoan s m args below meth c H locs 0 0 Q (F0 m pc ls []) := by
    intro a k H locs pc ls e1 hM hS hd
    cases e1
    exact hQ H locs pc ls hM hS hd
  unfold xX10_beginsLoan at hf
  refine lv_aload_n hx hb dX10_beginsLoan_0 rfl (lv_at hl 0 rfl) ?_
  refine lv_iload_n hx hb dX10_beginsLoan_1 rfl (lv_at hl 1 rfl) ?_
  refine lv_iload_n hx hb dX10_beginsLoan_2 rfl (lv_at hl 2 rfl) ?_
  obtain ⟨r1, h3, hc2, hf⟩ := bnd_some hf
  refine z_callV (As := [.int p1, .int p2]) (rest := []) (C := RX10) hx hb hml hown hL hK hM hS (kX10_has l G A V h p1 p2 hc2) (zg_X10_has zw4_131) zv_X10_has ⟨rfl, rfl⟩ ⟨Nat.le_of_ble_eq_true rfl, Nat.le_of_ble_eq_true rfl⟩ (hM.recv hK dm_16 (ze_16 G V 0 0 h) rfl) rfl hl.1 rfl (Nat.le_of_ble_eq_true rfl) dX10_beginsLoan_3 ⟨Nat.zero_le _, Nat.zero_le _⟩ (fun H locs hM hS => ?_)
  refine W.eq (g2 := F0 m 6 ls []) rfl ?_
  refine lv_aload_n hx hb dX10_beginsLoan_6 rfl (lv_at hl 0 rfl) ?_
  refine lv_iload_n hx hb dX10_beginsLoan_7 rfl (lv_at hl 1 rfl) ?_
  refine lv_iconst (v := 1) hx hb dX10_beginsLoan_8 (by decide) ?_
  refine lv_aload_n hx hb dX10_beginsLoan_9 rfl (lv_at hl 0 rfl) ?_
  refine z_get (own := RX10) (C := RX10) (T := TX10) (N := 12) (ci := 8) (v := .ref (gA G 17 0 0)) hx hb hL inX10 hown hK hM dm_16 (ze_16 G V 0 0 h3) rfl 0 (by decide) (hL _ zw4_19) rfl rfl dX10_beginsLoan_10 ?_
  refine lv_iconst (v := 3) hx hb dX10_beginsLoan_13 (by decide) ?_
  obtain ⟨hb4, hf⟩ := grd_some hf
  refine z_iald hx hb hK hM (dm_17 (i := 0) (by decide)) (ze_17_0 G V h3) (inb_in hb4) dX10_beginsLoan_14 ?_
  refine lv_aload_n hx hb dX10_beginsLoan_15 rfl (lv_at hl 0 rfl) ?_
  refine z_get (own := RX10) (C := RX10) (T := TX10) (N := 12) (ci := 8) (v := .ref (gA G 17 0 0)) hx hb hL inX10 hown hK hM dm_16 (ze_16 G V 0 0 h3) rfl 0 (by decide) (hL _ zw4_19) rfl rfl dX10_beginsLoan_16 ?_
  refine lv_iconst (v := 0) hx hb dX10_beginsLoan_19 (by decide) ?_
  obtain ⟨hb5, hf⟩ := grd_some hf
  refine z_iald hx hb hK hM (dm_17 (i := 0) (by decide)) (ze_17_0 G V h3) (inb_in hb5) dX10_beginsLoan_20 ?_
  refine lv_iadd hx hb dX10_beginsLoan_21 ?_
  obtain ⟨r6, h8, hc7, hf⟩ := bnd_some hf
  refine z_callV (As := [.int p1, .int (1 : Int32), .int ((h3 0 ((3 : Int32).toNatClampNeg)) + (h3 0 ((0 : Int32).toNatClampNeg)))]) (rest := []) (C := RX10) hx hb hml hown hL hK hM hS (kX10_layP l G A V h3 p1 (1 : Int32) ((h3 0 ((3 : Int32).toNatClampNeg)) + (h3 0 ((0 : Int32).toNatClampNeg))) hc7) (zg_X10_layP zw4_87) zv_X10_layP ⟨rfl, rfl⟩ ⟨Nat.le_of_ble_eq_true rfl, Nat.le_of_ble_eq_true rfl⟩ (hM.recv hK dm_16 (ze_16 G V 0 0 h3) rfl) rfl hl.1 rfl (Nat.le_of_ble_eq_true rfl) dX10_beginsLoan_22 ⟨Nat.zero_le _, Nat.zero_le _⟩ (fun H locs hM hS => ?_)
  refine W.eq (g2 := F0 m 25 ls []) rfl ?_
  refine lv_aload_n hx hb dX10_beginsLoan_25 rfl (lv_at hl 0 rfl) ?_
  refine lv_iload_n hx hb dX10_beginsLoan_26 rfl (lv_at hl 1 rfl) ?_
  refine lv_iconst (v := 2) hx hb dX10_beginsLoan_27 (by decide) ?_
  refine lv_iconst (v := 0) hx hb dX10_beginsLoan_28 (by decide) ?_
  obtain ⟨r9, h11, hc10, hf⟩ := bnd_some hf
  refine z_callV (As := [.int p1, .int (2 : Int32), .int (0 : Int32)]) (rest := []) (C := RX10) hx hb hml hown hL hK hM hS (kX10_layP l G A V h8 p1 (2 : Int32) (0 : Int32) hc10) (zg_X10_layP zw4_87) zv_X10_layP ⟨rfl, rfl⟩ ⟨Nat.le_of_ble_eq_true rfl, Nat.le_of_ble_eq_true rfl⟩ (hM.recv hK dm_16 (ze_16 G V 0 0 h8) rfl) rfl hl.1 rfl (Nat.le_of_ble_eq_true rfl) dX10_beginsLoan_29 ⟨Nat.zero_le _, Nat.zero_le _⟩ (fun H locs hM hS => ?_)
  refine W.eq (g2 := F0 m 32 ls []) rfl ?_
  exact hQf hf hM hS dX10_beginsLoan_32
