/-! pure part: what the reference keeps of old states -/
theorem rc_loop {α : Type} {f : Nat → zV2 → Int32 → Option (α × zV2)} {fin : zV2 → Option (α × zV2)} {I : zV2 → Prop} {N cd cs od os : Nat} (hz : ∀ n h, I h → f (n + 1) h (nI N) = fin h)
    (hs : ∀ n h i, I h → i < N → f (n + 1) h (nI i) = f n (up2 h cd (od + i) (h cs (os + i))) (nI (i + 1))) (hI : ∀ h i v, I h → I (up2 h cd i v)) (hne : ∀ i j, i < j → ¬ (cs = cd ∧ os + j = od + i)) : ∀ (m i n : Nat) (h : zV2), I h → i + m = N → m < n → ∃ h', f n h (nI i) = fin h' ∧ I h' ∧ (∀ j, i ≤ j → j < N → h' cd (od + j) = h cs (os + j)) ∧ (∀ c j, ¬ (c = cd ∧ od + i ≤ j ∧ j < od + N) → h' c j = h c j)
  | m, i, 0, _, _, _, h => absurd h (by omega)
  | 0, i, n + 1, h, h0, h1, h2 => by
    have e : i = N := by omega
    subst e
    exact ⟨h, hz n h h0, h0, fun j h3 h4 => by omega, fun _ _ _ => rfl⟩
  | m + 1, i, n + 1, h, h0, h1, h2 => by
    obtain ⟨h', e1, e2, e3, e4⟩ := rc_loop hz hs hI hne m (i + 1) n (up2 h cd (od + i) (h cs (os + i))) (hI _ _ _ h0) (by omega) (by omega)
    refine ⟨h', by rw [hs n h i h0 (by omega), e1], e2, fun j h3 h4 => ?_, fun c j hn => ?_⟩
    · by_cases q : j = i
      · subst q
        rw [e4 cd (od + j) (by omega), up2_self]
      · rw [e3 j (by omega) h4, up2_ne _ (fun z => hne i j (by omega) z)]
    · rw [e4 c j (by omega), up2_ne _ (by omega)]
theorem r_begins (h : zV2) : ∃ h', xX10_begins h = some ((), h') ∧ (∀ j, j < 193 → h' 1 j = h 0 j) ∧ (∀ c j, ¬ (c = 1 ∧ j < 193) → h' c j = h c j) := by
  obtain ⟨h', e1, _, e3, e4⟩ := rc_loop (f := xX10_begins_L2) (fin := fun h => some ((), h)) (I := fun _ => True) (N := 193) (cd := 1) (cs := 0) (od := 0) (os := 0) (fun n h _ => by
      unfold xX10_begins_L2
      rw [if_pos (by decide)]) (fun n h i _ hi => by
      conv => lhs; unfold xX10_begins_L2
      rw [if_neg (show ¬ (193 : Int32) ≤ nI i from nI_ge (a := i) (b := 193) (by omega) (by omega)), grd_eq (inb_nI (by omega) (by omega)), grd_eq (inb_nI (by omega) (by omega)), nI_clamp (by omega), put2_d, ltI_d, nI_1, Nat.zero_add]) (fun _ _ _ _ => trivial) (fun i j hij => by omega) 193 0 1000 h trivial (by omega) (by omega)
  exact ⟨h', e1, fun j hj => by have := e3 j (by omega) hj; rwa [Nat.zero_add] at this, fun c j hn => e4 c j (by omega)⟩
theorem r_aside (h : zV2) : ∃ h', xX10_layAside h = some ((), h') ∧ (∀ j, j < 193 → h' 2 j = h 0 j) ∧ (∀ c j, ¬ (c = 2 ∧ j < 193) → h' c j = h c j) := by
  obtain ⟨h', e1, _, e3, e4⟩ := rc_loop (f := xX10_layAside_L2) (fin := fun h => some ((), h)) (I := fun _ => True) (N := 193) (cd := 2) (cs := 0) (od := 0) (os := 0) (fun n h _ => by
      unfold xX10_layAside_L2
      rw [if_pos (by decide)]) (fun n h i _ hi => by
      conv => lhs; unfold xX10_layAside_L2
      rw [if_neg (show ¬ (193 : Int32) ≤ nI i from nI_ge (a := i) (b := 193) (by omega) (by omega)), grd_eq (inb_nI (by omega) (by omega)), grd_eq (inb_nI (by omega) (by omega)), nI_clamp (by omega), put2_d, ltI_d, nI_1, Nat.zero_add]) (fun _ _ _ _ => trivial) (fun i j hij => by omega) 193 0 1000 h trivial (by omega) (by omega)
  exact ⟨h', e1, fun j hj => by have := e3 j (by omega) hj; rwa [Nat.zero_add] at this, fun c j hn => e4 c j (by omega)⟩
theorem r_bring (h : zV2) : ∃ h', xX10_bringBack h = some ((), h') ∧ (∀ j, j < 193 → h' 0 j = h 2 j) ∧ (∀ c j, ¬ (c = 0 ∧ j < 193) → h' c j = h c j) := by
  obtain ⟨h', e1, _, e3, e4⟩ := rc_loop (f := xX10_bringBack_L2) (fin := fun h => some ((), h)) (I := fun _ => True) (N := 193) (cd := 0) (cs := 2) (od := 0) (os := 0) (fun n h _ => by
      unfold xX10_bringBack_L2
      rw [if_pos (by decide)]) (fun n h i _ hi => by
      conv => lhs; unfold xX10_bringBack_L2
      rw [if_neg (show ¬ (193 : Int32) ≤ nI i from nI_ge (a := i) (b := 193) (by omega) (by omega)), grd_eq (inb_nI (by omega) (by omega)), grd_eq (inb_nI (by omega) (by omega)), nI_clamp (by omega), put2_d, ltI_d, nI_1, Nat.zero_add]) (fun _ _ _ _ => trivial) (fun i j hij => by omega) 193 0 1000 h trivial (by omega) (by omega)
  exact ⟨h', e1, fun j hj => by have := e3 j (by omega) hj; rwa [Nat.zero_add] at this, fun c j hn => e4 c j (by omega)⟩
theorem ixS (s i : Nat) : (193 : Int32) * nI s + nI i = nI (193 * s + i) := by
  rw [show (193 : Int32) = nI 193 from rfl, pk_mul, nI_add]
theorem r_act57 (p1 : Int32) (h : zV2) {s : Nat} (hs : s ≤ 3) (h6 : h 6 0 = nI s) : ∃ h', xX10_acted_L57 p1 1000 h 0 = some (p1, up2 h' 6 0 (nI (s + 1))) ∧ (∀ j, j < 193 → h' 3 (193 * s + j) = h 1 j) ∧ (∀ c j, ¬ (c = 3 ∧ 193 * s ≤ j ∧ j < 193 * s + 193) → h' c j = h c j) := by
  obtain ⟨h', e1, e2, e3, e4⟩ := rc_loop (f := xX10_acted_L57 p1) (fin := fun h => some (p1, up2 h 6 0 (nI (s + 1)))) (I := fun h => h 6 0 = nI s) (N := 193) (cd := 3) (cs := 1) (od := 193 * s) (os := 0) (fun n h hI => by
      unfold xX10_acted_L57
      rw [if_pos (by decide), put2_d, hI, nI_1]) (fun n h i hI hi => by
      conv => lhs; unfold xX10_acted_L57
      rw [if_neg (show ¬ (193 : Int32) ≤ nI i from nI_ge (a := i) (b := 193) (by omega) (by omega)), hI, ixS, grd_eq (inb_nI (by omega) (by omega)), grd_eq (inb_nI (by omega) (by omega)), nI_clamp (by omega), nI_clamp (by omega), put2_d, ltI_d, nI_1, Nat.zero_add]) (fun h i v hI => by rw [up2_ne _ (by omega)]; exact hI) (fun i j hij => by omega) 193 0 1000 h h6 (by omega) (by omega)
  exact ⟨h', e1, fun j hj => by have := e3 j (by omega) hj; rwa [Nat.zero_add] at this, fun c j hn => e4 c j (by omega)⟩
theorem r_act16 (p1 : Int32) (h : zV2) (h6 : h 6 0 = nI 4) : ∃ h', xX10_acted_L16 p1 1000 h 0 = xX10_acted_L57 p1 1000 (up2 h' 6 0 (nI 3)) 0 ∧ (∀ j, j < 579 → h' 3 j = h 3 (193 + j)) ∧ (∀ c j, ¬ (c = 3 ∧ j < 579) → h' c j = h c j) := by
  obtain ⟨h', e1, e2, e3, e4⟩ := rc_loop (f := xX10_acted_L16 p1) (fin := fun h => xX10_acted_L57 p1 1000 (up2 h 6 0 (nI 3)) 0) (I := fun h => h 6 0 = nI 4) (N := 579) (cd := 3) (cs := 3) (od := 0) (os := 193) (fun n h hI => by
      unfold xX10_acted_L16
      rw [if_pos (by decide), put2_d, hI]
      rfl) (fun n h i hI hi => by
      conv => lhs; unfold xX10_acted_L16
      rw [if_neg (show ¬ (579 : Int32) ≤ nI i from nI_ge (a := i) (b := 579) (by omega) (by omega)), show nI i + (193 : Int32) = nI (193 + i) by rw [show (193 : Int32) = nI 193 from rfl, nI_add, Nat.add_comm], grd_eq (inb_nI (by omega) (by omega)), grd_eq (inb_nI (by omega) (by omega)), nI_clamp (by omega), nI_clamp (by omega), put2_d, ltI_d, nI_1, Nat.zero_add]) (fun h i v hI => by rw [up2_ne _ (by omega)]; exact hI) (fun i j hij => by omega) 579 0 1000 h h6 (by omega) (by omega)
  exact ⟨h', e1, fun j hj => by have := e3 j (by omega) hj; rwa [Nat.zero_add] at this, fun c j hn => e4 c j (by omega)⟩
theorem r_undo22 (h : zV2) {s : Nat} (hs : s ≤ 3) (h6 : h 6 0 = nI s) : ∃ h', xX10_undo_L22 1000 h 0 = some (nI s, h') ∧ (∀ j, j < 193 → h' 0 j = h 3 (193 * s + j)) ∧ (∀ c j, ¬ (c = 0 ∧ j < 193) → h' c j = h c j) := by
  obtain ⟨h', e1, e2, e3, e4⟩ := rc_loop (f := xX10_undo_L22) (fin := fun h => some (nI s, h)) (I := fun h => h 6 0 = nI s) (N := 193) (cd := 0) (cs := 3) (od := 0) (os := 193 * s) (fun n h hI => by
      unfold xX10_undo_L22
      rw [if_pos (by decide), hI]) (fun n h i hI hi => by
      conv => lhs; unfold xX10_undo_L22
      rw [if_neg (show ¬ (193 : Int32) ≤ nI i from nI_ge (a := i) (b := 193) (by omega) (by omega)), hI, ixS, grd_eq (inb_nI (by omega) (by omega)), grd_eq (inb_nI (by omega) (by omega)), nI_clamp (by omega), nI_clamp (by omega), put2_d, ltI_d, nI_1, Nat.zero_add]) (fun h i v hI => by rw [up2_ne _ (by omega)]; exact hI) (fun i j hij => by omega) 193 0 1000 h h6 (by omega) (by omega)
  exact ⟨h', e1, fun j hj => by have := e3 j (by omega) hj; rwa [Nat.zero_add] at this, fun c j hn => e4 c j (by omega)⟩
/-- an old state of the reference, read by columns; a is the array, o its place -/
def decA (h : zV2) (a o : Nat) : zV2 := fun c i => if kval c i = true then h a (o + kpos c i) else 0
theorem decA_eq {h h' : zV2} {a o a' o' : Nat} (e : ∀ j, j < 193 → h' a' (o' + j) = h a (o + j)) : decA h' a' o' = decA h a o := by
  funext c i
  unfold decA
  by_cases q : kval c i = true
  · rw [if_pos q, if_pos q, e _ (kpos_lt q)]
  · rw [if_neg q, if_neg q]
theorem dec_A (h : zV2) : dec h = decA h 0 0 := by
  funext c i
  unfold decA dec
  rw [Nat.zero_add]
theorem r_fm5 (h : zV2) (a : Nat) (ha : a < 10) : xJ9_floorMod_7cf53 h (nI a) 5 = some (nI (a % 5), h) := by
  have e : nI a - nI a / (5 : Int32) * (5 : Int32) = nI (a % 5) := pk_rem (a := a) (d := 5) (by omega) (by omega) (by omega)
  have x : ∀ b : Fin 10, 0 ≤ (nI b.val ^^^ (5 : Int32)) := by decide
  unfold xJ9_floorMod_7cf53
  rw [grd_eq (by decide), e, ltI_d, if_pos (x ⟨a, ha⟩)]
/-- the class's history and the reference's -/
def HH (V : zV3) (h : zV2) : Prop := ∃ od st : Nat, od < 5 ∧ st ≤ 4 ∧ V 7 0 0 = nI od ∧ V 7 1 0 = nI st ∧ h 6 0 = nI st ∧ ∀ j, j < st → RR 5000 (V ((od + j) % 5 + 1)) (decA h 3 (193 * j))
