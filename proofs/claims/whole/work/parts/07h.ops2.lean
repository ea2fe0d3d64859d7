/-! pure part: more of what can be asked -/
theorem SR_L {nL nP D l i : Nat} {d v w : Int32} {B M : Nat → Nat} {W X : List (Nat × Nat)} {c k : zV2} (g : SR nL nP D d B M W X c k) (hl : l < nL) (hi : 2 ≤ i ∧ i ≤ 5) (hr : LR1 nP (B l) (up2 c i l v) (up2 k i l w) l) : SR nL nP D d B M W X (up2 c i l v) (up2 k i l w) := by
  obtain ⟨gS, gL, gP, gW, gX, gT⟩ := g
  exact ⟨GS_fr gS (fun j h1 h2 h3 => up2_col _ _ _ (by omega)) (fun j h1 h2 h3 => up2_col _ _ _ (by omega)), GL_up gL hl (fun j q h1 h2 => up2_ne _ (by omega)) (fun j q h1 h2 => up2_ne _ (by omega)) hr, GP_fr gP (fun j h1 h2 => up2_col _ _ _ (by omega)) (fun j h1 h2 => up2_col _ _ _ (by omega)), GW_fr gW (fun j h1 => up2_col _ _ _ (by omega)) (fun j h1 => up2_col _ _ _ (by omega)), GX_fr gX (fun j h1 => up2_col _ _ _ (by omega)) (fun j h1 => up2_col _ _ _ (by omega)), GT_fr gT (fun j h1 => up2_col _ _ _ (by omega)) (fun j h1 => up2_col _ _ _ (by omega))⟩
theorem SR_P {nL nP D p i : Nat} {d v w : Int32} {B M : Nat → Nat} {W X : List (Nat × Nat)} {c k : zV2} (g : SR nL nP D d B M W X c k) (hp : p < nP) (hi : 6 ≤ i ∧ i ≤ 12 ∧ i ≠ 9 ∧ i ≠ 10) (hr : PR1 nL (M p) (up2 c i p v) (up2 k i p w) p) : SR nL nP D d B M W X (up2 c i p v) (up2 k i p w) := by
  obtain ⟨gS, gL, gP, gW, gX, gT⟩ := g
  exact ⟨GS_fr gS (fun j h1 h2 h3 => up2_col _ _ _ (by omega)) (fun j h1 h2 h3 => up2_col _ _ _ (by omega)), GL_fr gL (fun j h1 => up2_col _ _ _ (by omega)) (fun j h1 => up2_col _ _ _ (by omega)), GP_up gP hp (fun j q h1 h2 h3 => up2_ne _ (by omega)) (fun j q h1 h2 h3 => up2_ne _ (by omega)) hr, GW_fr gW (fun j h1 => up2_col _ _ _ (by omega)) (fun j h1 => up2_col _ _ _ (by omega)), GX_fr gX (fun j h1 => up2_col _ _ _ (by omega)) (fun j h1 => up2_col _ _ _ (by omega)), GT_fr gT (fun j h1 => up2_col _ _ _ (by omega)) (fun j h1 => up2_col _ _ _ (by omega))⟩
theorem LR1_3 {nP b l : Nat} {c k : zV2} (sp : Bool) (g : LR1 nP b c k l) : LR1 nP b (up2 c 3 l (bI sp)) (up2 k 3 l (bI sp)) l := by
  obtain ⟨s, st, ho, sp0, op, a0, b0, hs, a1, b1, a2, b2, hh, a3, b3, a4, b4, h4, a5⟩ := g
  exact ⟨s, st, ho, sp, op, (up2_ne _ (by omega)).trans a0, (up2_ne _ (by omega)).trans b0, hs, (up2_ne _ (by omega)).trans a1, (up2_ne _ (by omega)).trans b1, (up2_ne _ (by omega)).trans a2, (up2_ne _ (by omega)).trans b2, hh, up2_self _ _ _ _, up2_self _ _ _ _, (up2_ne _ (by omega)).trans a4, (up2_ne _ (by omega)).trans b4, h4, by rw [up2_ne _ (by omega), up2_ne _ (by omega), a5]⟩
theorem LR1_4 {nP b l : Nat} {c k : zV2} (op' : Option Nat) (g : LR1 nP b c k l) (ho' : ∀ o, op' = some o → b < o ∧ o ≤ 5102) : LR1 nP b (up2 c 4 l (oI op')) (up2 k 4 l (oI op')) l := by
  obtain ⟨s, st, ho, sp0, op, a0, b0, hs, a1, b1, a2, b2, hh, a3, b3, a4, b4, h4, a5⟩ := g
  exact ⟨s, st, ho, sp0, op', (up2_ne _ (by omega)).trans a0, (up2_ne _ (by omega)).trans b0, hs, (up2_ne _ (by omega)).trans a1, (up2_ne _ (by omega)).trans b1, (up2_ne _ (by omega)).trans a2, (up2_ne _ (by omega)).trans b2, hh, (up2_ne _ (by omega)).trans a3, (up2_ne _ (by omega)).trans b3, up2_self _ _ _ _, up2_self _ _ _ _, ho', by rw [up2_ne _ (by omega), up2_ne _ (by omega), a5]⟩
theorem LR1_2n {nP b l : Nat} {c k : zV2} (g : LR1 nP b c k l) : LR1 nP b (up2 c 2 l (-1)) (up2 k 2 l (-1)) l :=
  LR1_h (ho' := none) g (fun i h1 h2 => up2_ne _ (by omega)) (fun i h1 h2 => up2_ne _ (by omega)) (up2_self _ _ _ _) (up2_self _ _ _ _) (fun p hp => by cases hp) (by rw [up2_ne _ (by omega), up2_ne _ (by omega), LR1_5 g])
theorem PR1_11 {nL m p : Nat} {c k : zV2} (g : PR1 nL m c k p) : PR1 nL m (up2 c 11 p (c 11 p + 1)) (up2 k 11 p (k 11 p + 1)) p := by
  obtain ⟨lo, du, re, p6, r6, hlo, p7, r7, p8, r8, z1, z2, p9, p10, p11, p12⟩ := g
  exact ⟨lo, du, re, (up2_ne _ (by omega)).trans p6, (up2_ne _ (by omega)).trans r6, hlo, (up2_ne _ (by omega)).trans p7, (up2_ne _ (by omega)).trans r7, (up2_ne _ (by omega)).trans p8, (up2_ne _ (by omega)).trans r8, z1, z2, by rw [up2_ne _ (by omega), up2_ne _ (by omega), p9], by rw [up2_ne _ (by omega), up2_ne _ (by omega), p10], by rw [up2_self, up2_self, p11], by rw [up2_ne _ (by omega), up2_ne _ (by omega), p12]⟩
theorem PR1_12 {nL m p : Nat} {c k : zV2} (g : PR1 nL m c k p) : PR1 nL m (up2 c 12 p (c 12 p + 1)) (up2 k 12 p (k 12 p + 1)) p := by
  obtain ⟨lo, du, re, p6, r6, hlo, p7, r7, p8, r8, z1, z2, p9, p10, p11, p12⟩ := g
  exact ⟨lo, du, re, (up2_ne _ (by omega)).trans p6, (up2_ne _ (by omega)).trans r6, hlo, (up2_ne _ (by omega)).trans p7, (up2_ne _ (by omega)).trans r7, (up2_ne _ (by omega)).trans p8, (up2_ne _ (by omega)).trans r8, z1, z2, by rw [up2_ne _ (by omega), up2_ne _ (by omega), p9], by rw [up2_ne _ (by omega), up2_ne _ (by omega), p10], by rw [up2_ne _ (by omega), up2_ne _ (by omega), p11], by rw [up2_self, up2_self, p12]⟩
theorem PR1_8 {nL m p re' : Nat} {c k : zV2} (g : PR1 nL m c k p) (h : c 8 p = nI re') (hr : re' + 1 ≤ 5) (hr0 : re' ≤ 5) : PR1 nL m (up2 c 8 p (nI (re' + 1))) (up2 k 8 p (nI (re' + 1))) p := by
  obtain ⟨lo, du, re, p6, r6, hlo, p7, r7, p8, r8, z1, z2, p9, p10, p11, p12⟩ := g
  have e : re' = re := (nI_eq (by omega) (by omega)).mp (h.symm.trans p8)
  exact ⟨lo, du, re' + 1, (up2_ne _ (by omega)).trans p6, (up2_ne _ (by omega)).trans r6, hlo, (up2_ne _ (by omega)).trans p7, (up2_ne _ (by omega)).trans r7, up2_self _ _ _ _, up2_self _ _ _ _, hr, by omega, by rw [up2_ne _ (by omega), up2_ne _ (by omega), p9], by rw [up2_ne _ (by omega), up2_ne _ (by omega), p10], by rw [up2_ne _ (by omega), up2_ne _ (by omega), p11], by rw [up2_ne _ (by omega), up2_ne _ (by omega), p12]⟩
theorem oJ_none {P : Nat × Nat → Bool} {L : List (Nat × Nat)} (hb : bnL L) : oJ (fJ P L 0) < 0 ↔ fJ P L 0 = none := by
  cases q : fJ P L 0 with
  | none => simp [oJ]
  | some x =>
    obtain ⟨j, e⟩ := x
    have := (List.getElem?_eq_some_iff.mp (fJ_get q).2.1).1
    have h2 := hb.1
    simp only [oJ]
    exact ⟨fun z => absurd z (nI_pos (by omega)), fun z => by cases z⟩
theorem oJ_ge {P : Nat × Nat → Bool} {L : List (Nat × Nat)} (hb : bnL L) : 0 ≤ oJ (fJ P L 0) ↔ ¬ fJ P L 0 = none := by
  cases q : fJ P L 0 with
  | none => simp [oJ]
  | some x =>
    obtain ⟨j, e⟩ := x
    have := (List.getElem?_eq_some_iff.mp (fJ_get q).2.1).1
    have h2 := hb.1
    simp only [oJ]
    exact ⟨fun _ => (fun z => by cases z), fun _ => nI_pos' (by omega)⟩
theorem oJ_m1 {P : Nat × Nat → Bool} {L : List (Nat × Nat)} (hb : bnL L) : oJ (fJ P L 0) = -1 ↔ fJ P L 0 = none := by
  cases q : fJ P L 0 with
  | none => simp [oJ]
  | some x =>
    obtain ⟨j, e⟩ := x
    have := (List.getElem?_eq_some_iff.mp (fJ_get q).2.1).1
    have h2 := hb.1
    simp only [oJ]
    exact ⟨fun z => absurd z (nI_ne1 (by omega)), fun z => by cases z⟩
theorem oP_m1 {P : Nat × Nat → Bool} {L : List (Nat × Nat)} (hb : bnL L) : oP (fJ P L 0) = -1 ↔ fJ P L 0 = none := by
  cases q : fJ P L 0 with
  | none => simp [oP]
  | some x =>
    obtain ⟨j, e⟩ := x
    have := hb.2 e (List.mem_of_getElem? (fJ_get q).2.1)
    simp only [oP]
    exact ⟨fun z => absurd z (nI_ne1 (by omega)), fun z => by cases z⟩
theorem fP_no {p : Nat} {L : List (Nat × Nat)} (h : fJ (fP p) L 0 = none) : ∀ e, e ∈ L → ¬ e.1 = p := fun e he z => by
  have := fJ_none h e he
  simp [fP, z] at this
theorem o_put {c h : zV2} {lim : Nat} (p1 p2 : Int32) (g : RR lim c (dec h)) (hlim : lim ≤ 5099) : OP (xX1_putIntoRow c p1 p2) (xX10_stands h p1 p2) h lim := by
  have g0 := g
  obtain ⟨nL, nP, D, W, X, hD0, gg, hWN, hXN, hBJ⟩ := g
  have gg0 := gg
  obtain ⟨gS, gL, gP, gW, gX, gT⟩ := gg
  obtain ⟨hL, hP, hD, c13, k13, c14, k14, c15, k15, hset⟩ := gS
  unfold xX1_putIntoRow xX10_stands
  rcases pk_ix p1 (n := nL) (by omega) with h1 | h1 | ⟨q, hq, rfl⟩
  · rw [c_lA_f c13 (Or.inl h1), r_isL_f k13 hL (Or.inl h1)]
    exact OP_s g0 rfl rfl
  · rw [c_lA_f c13 (Or.inr h1), r_isL_f k13 hL (Or.inr h1)]
    exact OP_s g0 rfl rfl
  · rw [c_lA_t c13 hL hq, r_isL_t k13 hL hq, bnd_d, bnd_d, om_s, grd_eq (decide_eq_true (by omega)), if_neg (show ¬ (1 : Int32) = 0 by decide)]
    rcases rg_in (x := p2) (M := 2) (n := 2) (by decide) with h1 | h1 | ⟨s, hs, rfl⟩
    · rw [if_pos h1, r_in_l (show p2 < (0 : Int32) from h1)]
      exact OP_s g0 rfl rfl
    · rw [r_in_g h1]
      by_cases h0 : p2 < 0
      · rw [if_pos h0]
        exact OP_s g0 rfl rfl
      · rw [if_neg h0, if_neg (nle_of_lt h1)]
        exact OP_s g0 rfl rfl
    · obtain ⟨z, st, ho, sp, op, a0, b0, hz, a1, b1, a2, b2, hh, a3, b3, a4, b4, h4, a5⟩ := gL.1 q hq
      rw [if_neg (nI_pos (by omega)), if_pos (show nI s ≤ (2 : Int32) from nI_le (a := s) (b := 2) hs (by omega)), r_in_t (nI_pos (by omega)) (show ¬ (2 : Int32) < nI s from nI_nlt (a := 2) (b := s) hs (by omega)), bnd_d, if_neg (show ¬ (1 : Int32) = 0 by decide), r_of1 (by omega), bnd_d, r_of0 (by omega), bnd_d, a0, b0, a1, b1]
      cases st with
      | true =>
        rw [if_neg (show ¬ (if true = true then (1 : Int32) else 0) = 0 by decide), if_pos (show 0 ≤ (if true = true then nI z else (-1 : Int32)) from nI_pos' (by omega))]
        exact OP_s g0 rfl rfl
      | false =>
        rw [if_pos (show (if false = true then (1 : Int32) else 0) = 0 by decide), if_neg (show ¬ 0 ≤ (if false = true then nI z else (-1 : Int32)) by simp only [Bool.false_eq_true, if_false]; decide)]
        by_cases h5 : nI z = nI s
        · have e5 : z = s := (nI_eq (by omega) (by omega)).mp h5
          subst e5
          rw [if_pos rfl, if_pos rfl, c_stand gL hs, bnd_d, r_inRow gL hL k13 hs, bnd_d]
          have h12 := cR_le (f := c 1) (g := c 0) (s := z) 12
          have hle := gT.2.2.2 z hs
          by_cases h6 : cR (c 1) (c 0) z 12 = 4
          · rw [h6, if_neg (by decide), if_pos (by decide)]
            exact OP_s g0 rfl rfl
          · rw [if_pos (show nI (cR (c 1) (c 0) z 12) < (4 : Int32) from nI_lt (a := cR (c 1) (c 0) z 12) (b := 4) (by omega) (by omega)), if_neg (show ¬ nI (cR (c 1) (c 0) z 12) = (4 : Int32) from fun q => h6 ((nI_eq (a := cR (c 1) (c 0) z 12) (b := 4) (by omega) (by omega)).mp q)), put2_d, r_lay1 _ (by omega), bnd_d]
            have hcR : ∀ t, t ≤ 2 → cR (up2 c 1 q 1 1) (c 0) t 12 = cR (c 1) (c 0) t 12 + (if q < 12 ∧ t = z then 1 else 0) := fun t ht => cR_up (f := c 1) a0 (a1.trans (by decide)) (by rw [up2_self]; decide) (fun i hi => up2_ne _ (by omega)) hs ht 12
            have dk : dec (kset h 1 q (nI z)) = up2 (dec h) 1 q (nI z) := dec_kset (kv1 (by omega))
            have g1 : SR nL nP D 0 (fun _ => D) (fun _ => D) W X (up2 c 1 q 1) (dec (kset h 1 q (nI z))) := by
              rw [dk]
              refine ⟨GS_fr gg0.1 (fun j h1 h2 h3 => up2_col _ _ _ (by omega)) (fun j h1 h2 h3 => up2_col _ _ _ (by omega)), GL_up gL hq (fun j q h1 h2 => up2_ne _ (by omega)) (fun j q h1 h2 => up2_ne _ (by omega)) ?_, GP_fr gP (fun j h1 h2 => up2_col _ _ _ (by omega)) (fun j h1 h2 => up2_col _ _ _ (by omega)), GW_fr gW (fun j h1 => up2_col _ _ _ (by omega)) (fun j h1 => up2_col _ _ _ (by omega)), GX_fr gX (fun j h1 => up2_col _ _ _ (by omega)) (fun j h1 => up2_col _ _ _ (by omega)), ?_, ?_, ?_, fun t ht => ?_⟩
              · exact ⟨z, true, ho, sp, op, (up2_ne _ (by omega)).trans a0, (up2_ne _ (by omega)).trans b0, hz, up2_self _ _ _ _, up2_self _ _ _ _, (up2_ne _ (by omega)).trans a2, (up2_ne _ (by omega)).trans b2, hh, (up2_ne _ (by omega)).trans a3, (up2_ne _ (by omega)).trans b3, (up2_ne _ (by omega)).trans a4, (up2_ne _ (by omega)).trans b4, h4, by rw [up2_ne _ (by omega), up2_ne _ (by omega), a5]⟩
              · rw [up2_col _ _ _ (by omega), up2_col _ _ _ (by omega)]
                exact gT.1
              · rw [up2_col _ _ _ (by omega), up2_col _ _ _ (by omega)]
                exact gT.2.1
              · rw [up2_col _ _ _ (by omega), up2_col _ _ _ (by omega), up2_col _ _ _ (by omega)]
                exact gT.2.2.1
              · rw [up2_col (c := 1) (c' := 0) _ _ _ (by omega), hcR t ht]
                have := gT.2.2.2 t ht
                by_cases e : t = z
                · subst e
                  rw [if_pos (by omega)]
                  omega
                · rw [if_neg (by omega)]
                  omega
            obtain ⟨c2, h2, W2, e1, e2, e3, e4, e5, e6, e7⟩ := s_offer g1 (fun e he => by rw [up2_col _ _ _ (by omega)]; exact hWN e he) (fun e he => by rw [up2_col _ _ _ (by omega)]; exact hXN e he) hq (fun p hp => by simp)
            rw [e1, bnd_d, e2, bnd_d, r_inRow e3.2.1 hL e3.1.2.2.2.2.1 hs, bnd_d, e6.1 1 (by omega), e6.1 0 (by omega), up2_col (c := 1) (c' := 0) _ _ _ (by omega), hcR z hs, if_pos (by omega), nI_1]
            exact ⟨_, c2, h2, rfl, rfl, ⟨nL, nP, D, W2, X, hD0, e3, e4, e5, e6.2 (BJ_e hBJ (fun p _ => up2_ne _ (by omega)) (fun l _ => up2_ne _ (by omega)))⟩, nz_t e7 nz_k⟩
        · rw [if_neg h5, if_neg h5]
          exact OP_s g0 rfl rfl
theorem o_lend {c h : zV2} {lim : Nat} (p1 p2 : Int32) (g : RR lim c (dec h)) (hlim : lim ≤ 5099) : OP (xX1_lendTo c p1 p2) (xX10_lends h p1 p2) h lim := by
  have g0 := g
  obtain ⟨nL, nP, D, W, X, hD0, gg, hWN, hXN, hBJ⟩ := g
  have gg0 := gg
  obtain ⟨gS, gL, gP, gW, gX, gT⟩ := gg
  obtain ⟨hL, hP, hD, c13, k13, c14, k14, c15, k15, hset⟩ := gS
  have hbW := bnL_of gW.2.2 hP (by omega)
  unfold xX1_lendTo xX10_lends
  rcases pk_ix p1 (n := nP) (by omega) with h1 | h1 | ⟨p, hp, rfl⟩
  · rw [c_pA_f c14 (Or.inl h1), r_isP_f k14 hP (Or.inl h1)]
    exact OP_s g0 rfl rfl
  · rw [c_pA_f c14 (Or.inr h1), r_isP_f k14 hP (Or.inr h1)]
    exact OP_s g0 rfl rfl
  · rw [c_pA_t c14 hP hp, r_isP_t k14 hP hp, bnd_d, bnd_d, om_s, grd_eq (decide_eq_true (by omega)), if_neg (show ¬ (1 : Int32) = 0 by decide)]
    rcases rg_in (x := p2) (M := 3) (n := 3) (by decide) with h1 | h1 | ⟨s, hs, rfl⟩
    · rw [if_pos h1, r_in_l (show p2 < (0 : Int32) from h1)]
      exact OP_s g0 rfl rfl
    · rw [r_in_g h1]
      by_cases h0 : p2 < 0
      · rw [if_pos h0]
        exact OP_s g0 rfl rfl
      · rw [if_neg h0, if_neg (nle_of_lt h1)]
        exact OP_s g0 rfl rfl
    · obtain ⟨lo, du, re, p6, r6, hlo, p7, r7, p8, r8, z1, z2, p9, p10, p11, p12⟩ := gP.1 p hp
      have hlb : ∀ l, lo = some l → l < 2 ^ 31 := fun l e => by have := (hlo l e).1; omega
      rw [if_neg (nI_pos (by omega)), if_pos (show nI s ≤ (3 : Int32) from nI_le (a := s) (b := 3) hs (by omega)), r_in_t (nI_pos (by omega)) (show ¬ (3 : Int32) < nI s from nI_nlt (a := 3) (b := s) hs (by omega)), bnd_d, if_neg (show ¬ (1 : Int32) = 0 by decide), r_ofP0 (by omega), bnd_d, p6, r6]
      by_cases e6 : lo = none
      · rw [if_pos ((oI_m1 hlb).mpr e6), if_neg (fun z => (oI_ge hlb).mp z e6), c_placeOf gW.1 hbW (by omega), r_placeOf gW.2.1 hbW (by omega), bnd_d, bnd_d]
        by_cases ej : fJ (fP p) W 0 = none
        · rw [if_pos ((oJ_m1 hbW).mpr ej), if_neg (fun z => (oJ_ge hbW).mp z ej), r_ofP3 (by omega), bnd_d, ← p9]
          by_cases e30 : c 9 p ≤ 30
          · rw [if_pos e30, if_pos e30]
            obtain ⟨o, f1, f2, f3⟩ := s_lowest gL hL hP k13 (nI s)
            have hob : ∀ l, o = some l → l < 2 ^ 31 := fun l e => by have := (f3 l e).1; omega
            rw [f1, f2, bnd_d, bnd_d]
            cases o with
            | none =>
              rw [om_n, if_pos (by decide)]
              obtain ⟨c2, h2, k1, k2, k3, k4, k5, k6⟩ := s_addW gW hP hp hs (fP_no ej)
              have c6 : c2 6 = c 6 := k4 6 (by decide) (by decide) (by decide)
              rw [k1, k2, bnd_d, bnd_d, kg6, ks6 h2]
              refine ⟨_, c2, h2, rfl, ?_, ⟨nL, nP, D, _, X, hD0, SR_W gg0 k3 k4 k5, fun e he => ?_, fun e he => ?_, BJ_e hBJ (fun p _ => by rw [c6]) (fun l _ => by rw [k4 2 (by decide) (by decide) (by decide)])⟩, k6⟩
              · rw [k3.2.1.1, k3.1.1]
              · rw [c6]
                rcases List.mem_append.mp he with q | q
                · exact hWN e q
                · rw [List.mem_singleton.mp q]
                  show c 6 p = -1
                  rw [p6, e6]
                  rfl
              · rw [c6]
                exact hXN e he
            | some l =>
              obtain ⟨hl, hl2⟩ := f3 l rfl
              rw [om_s, grd_eq (decide_eq_true (by omega)), if_neg (show ¬ oI (some l) < 0 from nI_pos (by omega))]
              obtain ⟨c2, h2, k1, k2, k3, k4, k01, k5⟩ := s_begin gg0 hp hl (show D ≤ D + 20 by omega)
              rw [k1, bnd_d, show oI (some l) = nI l from rfl, k2, bnd_d]
              refine ⟨_, c2, h2, rfl, rfl, ⟨nL, nP, D, W, X, hD0, k3, fun e he => ?_, fun e he => ?_, ?_⟩, k5⟩
              · rw [k4, if_neg (fP_no ej e he)]
                exact hWN e he
              · rw [k4]
                by_cases z : e.1 = p
                · rw [if_pos z]
                  exact nI_ne1 (by omega)
                · rw [if_neg z]
                  exact hXN e he
              · unfold BJ at hBJ ⊢
                rw [fu_of k4, fu_of k01.2]
                exact bj_begin hBJ (by omega) (by omega) (by rw [p6, e6]; rfl) hl2
          · rw [if_neg e30, if_neg e30]
            exact OP_s g0 rfl rfl
        · rw [if_neg (fun z => ej ((oJ_m1 hbW).mp z)), if_pos ((oJ_ge hbW).mpr ej)]
          exact OP_s g0 rfl rfl
      · rw [if_neg (fun z => e6 ((oI_m1 hlb).mp z)), if_pos ((oI_ge hlb).mpr e6)]
        exact OP_s g0 rfl rfl
