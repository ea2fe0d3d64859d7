/-! pure part: undoing and asking ahead -/
theorem s_undo {V : zV3} (R0 : RR 5000 (V 0) (dec (V 8))) (H : HH V (V 8)) :
    ∃ r V1 h2, xX9_undo V = some (r, V1) ∧ xX10_undo (V 8) = some (r, h2) ∧ V1 8 = V 8 ∧ RR 5000 (V1 0) (dec h2) ∧ HH V1 h2 ∧ (∀ c, 2 ≤ c → V1 7 c = V 7 c) ∧ (∀ c, c = 4 ∨ c = 5 ∨ 7 ≤ c → h2 c = V 8 c) := by
  have H0 := H
  obtain ⟨od, st, ho, hs, h0, h1, h6, hp⟩ := H
  unfold xX9_undo xX2_restore xX10_undo
  rw [h1, h6]
  by_cases e : st = 0
  · subst e
    rw [if_pos (show nI 0 = 0 from rfl), if_pos (show nI 0 = 0 from rfl)]
    exact ⟨-2, V, V 8, rfl, rfl, rfl, R0, H0, fun _ _ => rfl, fun _ _ => rfl⟩
  · have hk := hp (st - 1) (by omega)
    obtain ⟨h', e1, e2⟩ := cp_hall (V := upG V 7 (up2 (V 7) 1 0 (nI (st - 1)))) (g := 0) (g2 := (od + (st - 1)) % 5 + 1) (by omega) (by rw [upG_ne _ _ (by omega)]; exact RR_BL hk)
    rw [upG_ne V _ (show (od + (st - 1)) % 5 + 1 ≠ 7 by omega)] at e2
    obtain ⟨h2, u1, u2, u3⟩ := r_undo22 (up2 (V 8) 6 0 (nI (st - 1))) (s := st - 1) (by omega) (up2_self _ _ _ _)
    have ec : (put3 V 7 1 0 (nI st - (1 : Int32)) fun V2 => bndG (xX2_slot (V2 7) (V2 7 1 0)) V2 7 fun r3 V6 => grd (decide (r3 < 7)) <| bnd (xX1_copyFrom 0 r3 V6) fun r8 V10 => some ((V10 7 1 0), V10)) = some (nI (st - 1), upG (upG V 7 (up2 (V 7) 1 0 (nI (st - 1)))) 0 h') := by
      show (bndG (xX2_slot (upG V 7 (up2 (V 7) 1 0 (nI st - 1)) 7) (upG V 7 (up2 (V 7) 1 0 (nI st - 1)) 7 1 0)) (upG V 7 (up2 (V 7) 1 0 (nI st - 1))) 7 fun r3 V6 => grd (decide (r3 < 7)) <| bnd (xX1_copyFrom 0 r3 V6) fun r8 V10 => some ((V10 7 1 0), V10)) = _
      rw [nI_sub1 st (by omega), upG_self, up2_self, bndG_eq (c_slot (up2 (V 7) 1 0 (nI (st - 1))) ho (by omega) (by rw [up2_ne _ (by omega), h0])), upG_upG, grd_eq (decide_eq_true (by omega)), e1, bnd_d, upG_ne _ _ (by decide), upG_self, up2_self]
    rw [if_neg (nI_ne0 (by omega) (by omega)), ec, bnd_d, if_neg (nI_ne0 (by omega) (by omega)), nI_sub1 st (by omega), put2_d, u1]
    refine ⟨_, _, h2, rfl, rfl, ?_, ?_, ⟨od, st - 1, ho, by omega, ?_, ?_, ?_, fun j hj => ?_⟩, fun c hc => ?_, fun c hc => ?_⟩
    · rw [upG_ne _ _ (by decide), upG_ne _ _ (by decide)]
    · rw [upG_self, dec_A, decA_eq (h := V 8) (a := 3) (o := 193 * (st - 1)) (fun j hj => by rw [Nat.zero_add, u2 j hj, up2_ne _ (by omega)])]
      exact RR_cp hk e2
    · rw [upG_ne _ _ (by decide), upG_self, up2_ne _ (by omega), h0]
    · rw [upG_ne _ _ (by decide), upG_self, up2_self]
    · rw [u3 6 0 (by omega), up2_self]
    · rw [upG_ne _ _ (by omega), upG_ne _ _ (by omega), decA_eq (h := V 8) (a := 3) (o := 193 * j) (fun i hi => by rw [u3 3 _ (by omega), up2_ne _ (by omega)])]
      exact hp j (by omega)
    · rw [upG_ne _ _ (by decide), upG_self, up2_col _ _ _ (by omega)]
    · funext j
      rw [u3 c j (by omega), up2_ne _ (by omega)]
/-- the trial hall holds what the hall holds -/
theorem s_trial {V : zV3} {nL nP lim : Nat} (g : RN nL nP lim (V 0) (dec (V 8))) : ∃ c6 ha, xX1_copyFrom 6 0 V = some ((), upG V 6 c6) ∧ xX10_layAside (V 8) = some ((), ha) ∧ RN nL nP lim c6 (dec ha) ∧ (∀ j, j < 193 → ha 2 j = V 8 0 j) ∧ (∀ c j, c ≠ 2 → ha c j = V 8 c j) := by
  obtain ⟨h', e1, e2⟩ := cp_hall (V := V) (g := 6) (g2 := 0) (by decide) (RR_BL (RN_RR g))
  obtain ⟨ha, a1, a2, a3⟩ := r_aside (V 8)
  refine ⟨h', ha, e1, a1, ?_, a2, fun c j hc => a3 c j (by omega)⟩
  have da : dec ha = dec (V 8) := by
    rw [dec_A, dec_A]
    exact decA_eq (fun j hj => a3 0 (0 + j) (by omega))
  rw [da]
  obtain ⟨D, W, X, hD0, g⟩ := g
  have h1 : RR lim h' (dec (V 8)) := RR_cp ⟨nL, nP, D, W, X, hD0, g⟩ e2
  have h13 : h' 13 0 = nI nL := (e2.2.2.2.2.2 13 (by decide) (by decide)).trans g.1.1.2.2.2.1
  have h14 : h' 14 0 = nI nP := (e2.2.2.2.2.2 14 (by decide) (by decide)).trans g.1.1.2.2.2.2.2.1
  have x1 := g.1.1.1
  have x2 := g.1.1.2.1
  obtain ⟨nL', nP', D', W', X', hD', g'⟩ := h1
  have y1 := g'.1.1.1
  have y2 := g'.1.1.2.1
  have z1 : nL' = nL := (nI_eq (by omega) (by omega)).mp (g'.1.1.2.2.2.1.symm.trans h13)
  have z2 : nP' = nP := (nI_eq (by omega) (by omega)).mp (g'.1.1.2.2.2.2.2.1.symm.trans h14)
  subst z1
  subst z2
  exact ⟨D', W', X', hD', g'⟩
theorem s_back {h ha hf : zV2} (a2 : ∀ j, j < 193 → ha 2 j = h 0 j) (a3 : ∀ c j, c ≠ 2 → ha c j = h c j) (n : nz hf ha) : ∃ h2, xX10_bringBack hf = some ((), h2) ∧ dec h2 = dec h ∧ h2 6 = h 6 ∧ h2 3 = h 3 ∧ (∀ c, c = 4 ∨ c = 5 ∨ 7 ≤ c → h2 c = h c) := by
  obtain ⟨h2, b1, b2, b3⟩ := r_bring hf
  have hc : ∀ c, c ≠ 0 → c ≠ 2 → h2 c = h c := fun c h0 h2' => by
    funext j
    rw [b3 c j (by omega), n c h0, a3 c j h2']
  refine ⟨h2, b1, ?_, hc 6 (by decide) (by decide), hc 3 (by decide) (by decide), fun c hcc => hc c (by omega) (by omega)⟩
  rw [dec_A, dec_A]
  exact decA_eq (fun j hj => by rw [Nat.zero_add, b2 j hj, n 2 (by decide), a2 j hj])
theorem HH_6 {V : zV3} {h h2 : zV2} {c6 : zV2} (H : HH V h) (e6 : h2 6 = h 6) (e3 : h2 3 = h 3) : HH (upG V 6 c6) h2 := by
  obtain ⟨od, st, ho, hs, h0, h1, h6, hp⟩ := H
  refine ⟨od, st, ho, hs, ?_, ?_, ?_, fun j hj => ?_⟩
  · rw [upG_ne _ _ (by decide), h0]
  · rw [upG_ne _ _ (by decide), h1]
  · rw [e6, h6]
  · rw [upG_ne _ _ (by omega), decA_eq (h := h) (a := 3) (o := 193 * j) (fun i hi => by rw [e3])]
    exact hp j hj
theorem s_feeIn {V : zV3} (p1 p2 : Int32) (R0 : RR 5000 (V 0) (dec (V 8))) (H : HH V (V 8)) :
    ∃ r V1 h2, xX9_feeIn V p1 p2 = some (r, V1) ∧ xX10_feeIn (V 8) p1 p2 = some (r, h2) ∧ V1 8 = V 8 ∧ RR 5000 (V1 0) (dec h2) ∧ HH V1 h2 ∧ (∀ c, 2 ≤ c → V1 7 c = V 7 c) ∧ (∀ c, c = 4 ∨ c = 5 ∨ 7 ≤ c → h2 c = V 8 c) := by
  have R1 := R0
  obtain ⟨nL, nP, D, W, X, hD0, g⟩ := R0
  have hP := g.1.1.2.1
  have c14 := g.1.1.2.2.2.2.2.1
  have k14 := g.1.1.2.2.2.2.2.2.1
  have same : ∀ r, xX9_feeIn V p1 p2 = some (r, V) → xX10_feeIn (V 8) p1 p2 = some (r, V 8) → ∃ r V1 h2, xX9_feeIn V p1 p2 = some (r, V1) ∧ xX10_feeIn (V 8) p1 p2 = some (r, h2) ∧ V1 8 = V 8 ∧ RR 5000 (V1 0) (dec h2) ∧ HH V1 h2 ∧ (∀ c, 2 ≤ c → V1 7 c = V 7 c) ∧ (∀ c, c = 4 ∨ c = 5 ∨ 7 ≤ c → h2 c = V 8 c) := fun r a b => ⟨r, V, V 8, a, b, rfl, R1, H, fun _ _ => rfl, fun _ _ => rfl⟩
  have hno : p1 < 0 ∨ nI nP ≤ p1 → ∃ r V1 h2, xX9_feeIn V p1 p2 = some (r, V1) ∧ xX10_feeIn (V 8) p1 p2 = some (r, h2) ∧ V1 8 = V 8 ∧ RR 5000 (V1 0) (dec h2) ∧ HH V1 h2 ∧ (∀ c, 2 ≤ c → V1 7 c = V 7 c) ∧ (∀ c, c = 4 ∨ c = 5 ∨ 7 ≤ c → h2 c = V 8 c) := fun hx => same (-1) (by
      unfold xX9_feeIn xX6_feeOf
      rw [bndG_eq (c_pA_f c14 hx), upG_id, om_n, bnd_d]) (by
      unfold xX10_feeIn
      rw [r_isP_f k14 hP hx, bnd_d, if_pos rfl])
  rcases pk_ix p1 (n := nP) (by omega) with h1 | h1 | ⟨p, hp, rfl⟩
  · exact hno (Or.inl h1)
  · exact hno (Or.inr h1)
  · by_cases h1 : p2 < 1
    · exact same (-1) (by
        unfold xX9_feeIn xX6_feeOf
        rw [bndG_eq (c_pA_t c14 hP hp), upG_id, om_s, grd_eq (decide_eq_true (by omega)), if_pos h1, bnd_d]) (by
        unfold xX10_feeIn
        rw [r_isP_t k14 hP hp, bnd_d, if_neg (by decide), r_in_l h1, bnd_d, if_pos rfl])
    · by_cases h2 : p2 ≤ 99
      · obtain ⟨N, hN, rfl⟩ : ∃ v, v ≤ 99 ∧ p2 = nI v := nI_of2 (M := 99) (n := 99) (by decide) (fun z => h1 (by
          rw [Int32.lt_iff_toInt_lt] at z ⊢
          have e0 : (0 : Int32).toInt = 0 := by decide
          have e1 : (1 : Int32).toInt = 1 := by decide
          omega)) h2
        obtain ⟨c6, ha, t1, t2, t3, t4, t5⟩ := s_trial (V := V) (nL := nL) (nP := nP) (lim := 5000) ⟨D, W, X, hD0, g⟩
        obtain ⟨D6, W6, X6, hD6, g6, w6, x6, b6⟩ := t3
        obtain ⟨T', c', h', r1, r2, r3, r4⟩ := s_days (p1 := nI N) (p2 := 5099) (lim := 5099) rfl hN (by omega) N 0 0 D6 1000 1000 W6 X6 c6 ha g6 w6 x6 b6 (by omega) (by omega) (by omega) (by omega)
        obtain ⟨D7, W7, X7, hD7, g7, _⟩ := r3
        obtain ⟨_, _, _, _, _, _, _, _, _, _, _, _, q9, _⟩ := g.1.2.2.1.1 p hp
        obtain ⟨_, _, _, _, _, _, _, _, _, _, _, _, q9', _⟩ := g7.2.2.1.1 p hp
        obtain ⟨hb, b1, b2, b3, b4, b5⟩ := s_back t4 t5 r4
        have da9 : dec ha 9 p = V 0 9 p := by
          rw [q9, dec_at (kv9 (l := p) (by omega)), dec_at (kv9 (l := p) (by omega)), t5 0 _ (by decide)]
        refine ⟨c' 9 p - V 0 9 p, upG V 6 c', hb, ?_, ?_, upG_ne _ _ (by decide), ?_, HH_6 H b3 b4, fun c hc => by rw [upG_ne _ _ (by decide)], b5⟩
        · have ep : xX1_passDays c6 (nI N) 5099 = some (nI T', c') := by
            unfold xX1_passDays
            rw [if_neg h1, if_pos h2, g6.1.2.2.2.2.2.2.2.1, nI_add, if_pos (show nI (D6 + N) ≤ (5099 : Int32) from nI_le (a := D6 + N) (b := 5099) (by omega) (by omega))]
            exact r1
          unfold xX9_feeIn xX6_feeOf
          rw [bndG_eq (c_pA_t c14 hP hp), upG_id, om_s, grd_eq (decide_eq_true (by omega)), if_neg h1, if_pos h2, t1, bnd_d, upG_self, bndG_eq ep, upG_upG, upG_self, bndG_eq (c_pA_t g7.1.2.2.2.2.2.1 hP hp), upG_upG, om_s, grd_eq (decide_eq_true (by omega)), upG_self, upG_ne V _ (show 0 ≠ 6 by decide), bnd_d]
        · unfold xX10_feeIn
          rw [r_isP_t k14 hP hp, bnd_d, if_neg (by decide), r_in_t h1 (fun z => nle_of_lt z h2), bnd_d, if_neg (by decide), t2, bnd_d, r_ofP3 (by omega), bnd_d, bnd_eq (show xX10_passDays ha (nI N) = some (nI T', h') from r2), r_ofP3 (by omega), bnd_d, ltI_d, b1, bnd_d, ← q9', da9]
        · rw [upG_ne _ _ (by decide), b2]
          exact R1
      · exact same (-1) (by
          unfold xX9_feeIn xX6_feeOf
          rw [bndG_eq (c_pA_t c14 hP hp), upG_id, om_s, grd_eq (decide_eq_true (by omega)), if_neg h1, if_neg h2, bnd_d]) (by
          unfold xX10_feeIn
          rw [r_isP_t k14 hP hp, bnd_d, if_neg (by decide), r_in_g (lt_of_nle h2), bnd_d, if_pos rfl])
