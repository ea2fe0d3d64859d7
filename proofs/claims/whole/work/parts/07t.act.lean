/-! pure part: an act, with its history -/
theorem c_slot (h : zV2) {od st : Nat} (ho : od < 5) (hs : st ≤ 4) (h0 : h 0 0 = nI od) : xX2_slot h (nI st) = some ((od + st) % 5 + 1, h) := by
  unfold xX2_slot
  rw [h0, nI_add, r_fm5 h _ (by omega), bnd_d, grd_eq (inb_nI (by omega) (by omega)), nI_clamp (by omega)]
theorem s_prep {V : zV3} {od st : Nat} (ho : od < 5) (hs : st ≤ 4) (h0 : V 7 0 0 = nI od) (h1 : V 7 1 0 = nI st) (hb : BL (V 0)) : ∃ h', xX2_prepare 0 V = some ((), upG V ((od + st) % 5 + 1) h') ∧ cpEq h' (V 0) := by
  obtain ⟨h', e1, e2⟩ := cp_hall (V := V) (g := (od + st) % 5 + 1) (g2 := 0) (by omega) hb
  refine ⟨h', ?_, e2⟩
  unfold xX2_prepare
  rw [h1, bndG_eq (c_slot (V 7) ho hs h0), upG_id, grd_eq (decide_eq_true (by omega)), bnd_eq e1]
theorem c_settle_n {h : zV2} {r : Int32} (hr : r < 0) : xX2_settle h r = some (r, h) := by
  unfold xX2_settle
  rw [if_pos hr]
theorem c_settle_s {h : zV2} {r : Int32} {st : Nat} (hr : ¬ r < 0) (h1 : h 1 0 = nI st) (hs : st ≤ 3) : xX2_settle h r = some (r, up2 h 1 0 (nI (st + 1))) := by
  unfold xX2_settle
  rw [if_neg hr, put2_d, h1, nI_1, up2_self, if_pos (show nI (st + 1) ≤ (4 : Int32) from nI_le (a := st + 1) (b := 4) (by omega) (by omega))]
theorem c_settle_f {h : zV2} {r : Int32} {od : Nat} (hr : ¬ r < 0) (h1 : h 1 0 = nI 4) (h0 : h 0 0 = nI od) (ho : od < 5) : xX2_settle h r = some (r, up2 (up2 (up2 h 1 0 (nI 5)) 1 0 4) 0 0 (nI ((od + 1) % 5))) := by
  unfold xX2_settle
  rw [if_neg hr, put2_d, h1, nI_1, up2_self, if_neg (show ¬ nI (4 + 1) ≤ (4 : Int32) by decide), put2_d, up2_ne _ (by omega), up2_ne _ (by omega), h0, nI_1, r_fm5 _ _ (by omega), bnd_d, put2_d]
theorem lt_ge {x : Int32} (h : ¬ x < 0) : 0 ≤ x := le_of_nlt h
theorem ge_lt {x : Int32} (h : x < 0) : ¬ 0 ≤ x := nle_of_lt h
theorem s_act {V : zV3} (R0 : RR 5000 (V 0) (dec (V 8))) (H : HH V (V 8)) (f f' : zV2 → Option (Int32 × zV2)) (hop : ∀ c h, RR 5000 c (dec h) → OP (f c) (f' h) h 5000) :
    ∃ r V1 h2, (bnd (xX2_prepare 0 V) fun r1 V3 => bndG (f (V3 0)) V3 0 fun r4 V7 => bndG (xX2_settle (V7 7) r4) V7 7 fun r8 V11 => some (r8, V11)) = some (r, V1) ∧
      (bnd (xX10_begins (V 8)) fun r1 h3 => bnd (f' h3) fun r4 h6 => bnd (xX10_acted h6 r4) fun r7 h9 => some (r7, h9)) = some (r, h2) ∧
      V1 8 = V 8 ∧ RR 5000 (V1 0) (dec h2) ∧ HH V1 h2 ∧ (∀ c, 2 ≤ c → V1 7 c = V 7 c) ∧ (∀ c, c = 4 ∨ c = 5 ∨ 7 ≤ c → h2 c = V 8 c) := by
  obtain ⟨od, st, ho, hs, h0, h1, h6, hp⟩ := H
  obtain ⟨hc, e1, e2⟩ := s_prep ho hs h0 h1 (RR_BL R0)
  obtain ⟨hb, b1, b2, b3⟩ := r_begins (V 8)
  have db : dec hb = dec (V 8) := by
    rw [dec_A, dec_A]
    exact decA_eq (fun j hj => b3 0 (0 + j) (by omega))
  have Rb : RR 5000 (V 0) (dec hb) := by rw [db]; exact R0
  obtain ⟨r, c', hf, f1, f2, f3, f4⟩ := hop _ _ Rb
  have hb6 : hf 6 0 = nI st := by rw [f4 6 (by decide), b3 6 0 (by omega), h6]
  have hcol : ∀ c, c = 4 ∨ c = 5 ∨ 7 ≤ c → hf c = V 8 c := fun c hc => by
    rw [f4 c (by omega)]
    funext j
    exact b3 c j (by omega)
  have hpast : ∀ j, hf 3 j = V 8 3 j := fun j => by rw [f4 3 (by decide), b3 3 j (by omega)]
  have hbeg : ∀ j, j < 193 → hf 1 j = V 8 0 j := fun j hj => by rw [f4 1 (by decide), b2 j hj]
  have k0 : (od + st) % 5 + 1 ≠ 0 := by omega
  rw [e1, bnd_d, upG_ne V hc (show 0 ≠ (od + st) % 5 + 1 by omega), bndG_eq f1, b1, bnd_d, f2, bnd_d]
  have w7 : upG (upG V ((od + st) % 5 + 1) hc) 0 c' 7 = V 7 := by rw [upG_ne _ _ (by decide), upG_ne _ _ (by omega)]
  have w8 : ∀ h', upG (upG (upG V ((od + st) % 5 + 1) hc) 0 c') 7 h' 8 = V 8 := fun h' => by rw [upG_ne _ _ (by decide), upG_ne _ _ (by decide), upG_ne _ _ (by omega)]
  have w0 : ∀ h', upG (upG (upG V ((od + st) % 5 + 1) hc) 0 c') 7 h' 0 = c' := fun h' => by rw [upG_ne _ _ (by decide), upG_self]
  have ws : ∀ h' j, (od + j) % 5 ≠ (od + st) % 5 → upG (upG (upG V ((od + st) % 5 + 1) hc) 0 c') 7 h' ((od + j) % 5 + 1) = V ((od + j) % 5 + 1) := fun h' j hj => by
    rw [upG_ne _ _ (by omega), upG_ne _ _ (by omega), upG_ne _ _ (by omega)]
  have wk : ∀ h', upG (upG (upG V ((od + st) % 5 + 1) hc) 0 c') 7 h' ((od + st) % 5 + 1) = hc := fun h' => by
    rw [upG_ne _ _ (by omega), upG_ne _ _ (by omega), upG_self]
  have Rc : RR 5000 hc (decA (V 8) 0 0) := by rw [← dec_A]; exact RR_cp R0 e2
  rw [w7]
  by_cases hr : r < 0
  · rw [bndG_eq (c_settle_n hr)]
    unfold xX10_acted
    rw [if_neg (ge_lt hr), bnd_d]
    refine ⟨r, _, hf, rfl, rfl, w8 _, ?_, ⟨od, st, ho, hs, ?_, ?_, hb6, fun j hj => ?_⟩, fun c hc => ?_, hcol⟩
    · rw [w0]
      exact f3
    · rw [upG_self, h0]
    · rw [upG_self, h1]
    · rw [ws _ j (by omega), decA_eq (h := V 8) (a := 3) (o := 193 * j) (fun i hi => hpast _)]
      exact hp j hj
    · rw [upG_self]
  · by_cases h4 : st = 4
    · subst h4
      obtain ⟨hg, g1, g2, g3⟩ := r_act16 r hf hb6
      obtain ⟨hh, i1, i2, i3⟩ := r_act57 r (up2 hg 6 0 (nI 3)) (s := 3) (by omega) (up2_self _ _ _ _)
      rw [bndG_eq (c_settle_f hr h1 h0 ho)]
      unfold xX10_acted
      rw [if_pos (lt_ge hr), hb6, if_pos (by decide), g1, i1, bnd_d]
      have q3 : ∀ j, j < 579 → hh 3 j = V 8 3 (193 + j) := fun j hj => by
        rw [i3 3 j (by omega), up2_ne _ (by omega), g2 j hj, hpast]
      have q0 : ∀ j, j < 193 → hh 3 (193 * 3 + j) = V 8 0 j := fun j hj => by
        rw [i2 j hj, up2_ne _ (by omega), g3 1 j (by omega), hbeg j hj]
      have qc : ∀ c j, c ≠ 3 → c ≠ 6 → hh c j = hf c j := fun c j hc hc6 => by
        rw [i3 c j (by omega), up2_ne _ (by omega), g3 c j (by omega)]
      refine ⟨r, _, _, rfl, rfl, w8 _, ?_, ⟨(od + 1) % 5, 4, by omega, by omega, ?_, ?_, ?_, fun j hj => ?_⟩, fun c hc => ?_, fun c hc => ?_⟩
      · rw [w0, dec_other _ (by decide), show dec hh = dec hf by
          rw [dec_A, dec_A]
          exact decA_eq (fun j hj => qc 0 _ (by decide) (by decide))]
        exact f3
      · rw [upG_self, up2_self]
      · rw [upG_self, up2_ne _ (by omega), up2_self]
        rfl
      · rw [up2_self]
      · rw [show ((od + 1) % 5 + j) % 5 + 1 = (od + (j + 1)) % 5 + 1 by omega]
        by_cases e : j = 3
        · subst e
          rw [show (od + (3 + 1)) % 5 + 1 = (od + 4) % 5 + 1 from rfl, wk, decA_eq (h := V 8) (a := 0) (o := 0) (fun i hi => by rw [up2_ne _ (by omega), q0 i hi, Nat.zero_add])]
          exact Rc
        · rw [ws _ (j + 1) (by omega), decA_eq (h := V 8) (a := 3) (o := 193 * (j + 1)) (fun i hi => by rw [up2_ne _ (by omega), q3 _ (by omega), show 193 + (193 * j + i) = 193 * (j + 1) + i by omega])]
          exact hp (j + 1) (by omega)
      · rw [upG_self, up2_col _ _ _ (by omega), up2_col _ _ _ (by omega), up2_col _ _ _ (by omega)]
      · rw [up2_col _ _ _ (by omega)]
        rw [← hcol c hc]
        funext j
        exact qc c j (by omega) (by omega)
    · have h3 : st ≤ 3 := by omega
      obtain ⟨hh, i1, i2, i3⟩ := r_act57 r hf h3 hb6
      rw [bndG_eq (c_settle_s hr h1 h3)]
      unfold xX10_acted
      rw [if_pos (lt_ge hr), hb6, if_neg (show ¬ nI st = (4 : Int32) from fun z => h4 ((nI_eq (a := st) (b := 4) (by omega) (by omega)).mp z)), i1, bnd_d]
      refine ⟨r, _, _, rfl, rfl, w8 _, ?_, ⟨od, st + 1, ho, by omega, ?_, ?_, ?_, fun j hj => ?_⟩, fun c hc => ?_, fun c hc => ?_⟩
      · rw [w0, dec_other _ (by decide), show dec hh = dec hf by
          rw [dec_A, dec_A]
          exact decA_eq (fun j hj => i3 0 _ (by omega))]
        exact f3
      · rw [upG_self, up2_ne _ (by omega), h0]
      · rw [upG_self, up2_self]
      · rw [up2_self]
      · by_cases e : j = st
        · subst e
          rw [wk, decA_eq (h := V 8) (a := 0) (o := 0) (fun i hi => by rw [up2_ne _ (by omega), i2 i hi, hbeg i hi, Nat.zero_add])]
          exact Rc
        · rw [ws _ j (by omega), decA_eq (h := V 8) (a := 3) (o := 193 * j) (fun i hi => by rw [up2_ne _ (by omega), i3 3 _ (by omega), hpast])]
          exact hp j (by omega)
      · rw [upG_self, up2_col _ _ _ (by omega)]
      · rw [up2_col _ _ _ (by omega)]
        rw [← hcol c hc]
        funext j
        exact i3 c j (by omega)
