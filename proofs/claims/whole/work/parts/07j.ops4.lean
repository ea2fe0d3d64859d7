/-! pure part: wishes, coins, settings -/
theorem s_addX {c h : zV2} {nP p s : Nat} {X : List (Nat × Nat)} (g : GX nP X c (dec h)) (hP : nP ≤ 10) (hp : p < nP) (hs : s ≤ 2) (hn : ∀ e, e ∈ X → ¬ e.1 = p) : ∃ c' h', xX3_add 1 c (nI p) (nI s) = some ((), c') ∧ (∀ {β : Type} (k : zV2 → Option β), (bnd (xX10_layP h (nI p) (5 : Int32) (nI s)) fun r20 h22 => grd (inb (7 : Int32) 193) <| grd (inb ((183 : Int32) + (h22 0 ((7 : Int32).toNatClampNeg))) 193) <| put2 h22 0 (((183 : Int32) + (h22 0 ((7 : Int32).toNatClampNeg))).toNatClampNeg) (nI p) fun h25 => grd (inb (7 : Int32) 193) <| grd (inb (7 : Int32) 193) <| put2 h25 0 ((7 : Int32).toNatClampNeg) ((h25 0 ((7 : Int32).toNatClampNeg)) + (1 : Int32)) fun h28 => grd (inb (7 : Int32) 193) <| k h28) = k h') ∧ GX nP (X ++ [(p, s)]) c' (dec h') ∧ lz 1 c' c ∧ yz (dec h') (dec h) ∧ nz h' h := by
  obtain ⟨g1, g2, g3, g4, g5⟩ := g
  have hl := WV_len1 g5 hp hn
  obtain ⟨c', e1, e2, e3⟩ := c_add (p := p) (s := s) g1 (by omega)
  have d1 : dec (kset h 25 p (nI s)) = up2 (dec h) 25 p (nI s) := dec_kset (kv25 (by omega))
  have w1 : dec (kset h 25 p (nI s)) 24 0 = nI X.length := by rw [d1, up2_ne _ (by omega), g2]
  have d2 : dec (kset (kset h 25 p (nI s)) 20 X.length (nI p)) = up2 (up2 (dec h) 25 p (nI s)) 20 X.length (nI p) := by rw [dec_kset (kv20 (by omega)), d1]
  have w2 : dec (kset (kset h 25 p (nI s)) 20 X.length (nI p)) 24 0 = nI X.length := by rw [d2, up2_ne _ (by omega), up2_ne _ (by omega), g2]
  have d3 : dec (kset (kset (kset h 25 p (nI s)) 20 X.length (nI p)) 24 0 (nI X.length + 1)) = up2 (up2 (up2 (dec h) 25 p (nI s)) 20 X.length (nI p)) 24 0 (nI X.length + 1) := by rw [dec_kset kv24, d2]
  refine ⟨c', kset (kset (kset h 25 p (nI s)) 20 X.length (nI p)) 24 0 (nI X.length + 1), e1, fun k => ?_, ⟨e2, ?_, ?_, ?_, WV_app g5 hp hs hn⟩, e3, ?_, nz_t nz_k (nz_t nz_k nz_k)⟩
  · rw [r_layP5 _ (by omega), bnd_d, kg7, ks7 (kset h 25 p (nI s)), w1, ixX, grd_eq (inb_nI (by omega) (by omega)), nI_clamp (by omega), p20, kg7, kg7, kp7, ks7 (kset (kset h 25 p (nI s)) 20 X.length (nI p)), w2, kg7]
  · rw [d3, up2_self, nI_1]
    simp
  · rw [d3]
    have k1 : LY (up2 (up2 (up2 (dec h) 25 p (nI s)) 20 X.length (nI p)) 24 0 (nI X.length + 1)) 0 (X ++ [(p, s)]) := by
      refine LY_app (LY_fr (v := dec h) (fun j e he => by rw [Nat.zero_add]; exact g3 j e he) (fun j _ hj => ?_)) ?_
      · rw [up2_ne _ (by omega), up2_ne _ (by omega), up2_ne _ (by omega)]
      · rw [Nat.zero_add, up2_ne _ (by omega), up2_self]
    intro i e he
    have := k1 i e he
    rwa [Nat.zero_add] at this
  · intro q hq
    rw [d3, up2_ne _ (by omega), up2_ne _ (by omega), szI_app hn]
    by_cases z : q = p
    · rw [if_pos z, z, up2_self]
    · rw [if_neg z, up2_ne _ (by omega), g4 q hq]
  · rw [d3]
    exact yz_t (yz_u (by omega)) (yz_t (yz_u (by omega)) (yz_u (by omega)))
theorem o_wish {c h : zV2} {lim : Nat} (p1 p2 : Int32) (g : RR lim c (dec h)) (hlim : lim ≤ 5099) : OP (xX1_wishFor c p1 p2) (xX10_wishes h p1 p2) h lim := by
  have g0 := g
  obtain ⟨nL, nP, D, W, X, hD0, gg, hWN, hXN, hBJ⟩ := g
  have gg0 := gg
  obtain ⟨gS, gL, gP, gW, gX, gT⟩ := gg
  obtain ⟨hL, hP, hD, c13, k13, c14, k14, c15, k15, hset⟩ := gS
  unfold xX1_wishFor xX10_wishes
  rcases pk_ix p1 (n := nP) (by omega) with h1 | h1 | ⟨p, hp, rfl⟩
  · rw [c_pA_f c14 (Or.inl h1), r_isP_f k14 hP (Or.inl h1)]
    exact OP_s g0 rfl rfl
  · rw [c_pA_f c14 (Or.inr h1), r_isP_f k14 hP (Or.inr h1)]
    exact OP_s g0 rfl rfl
  · obtain ⟨lo, du, re, p6, r6, hlo, p7, r7, p8, r8, z1, z2, p9, p10, p11, p12⟩ := gP.1 p hp
    rw [c_pA_t c14 hP hp, r_isP_t k14 hP hp, bnd_d, bnd_d, om_s, grd_eq (decide_eq_true (by omega)), if_neg (show ¬ (1 : Int32) = 0 by decide)]
    rcases rg_in (x := p2) (M := 2) (n := 2) (by decide) with h1 | h1 | ⟨s, hs, rfl⟩
    · rw [if_pos h1, r_in_l (show p2 < (0 : Int32) from h1)]
      exact OP_s g0 rfl rfl
    · rw [r_in_g h1]
      by_cases h0 : p2 < 0
      · rw [if_pos h0]
        exact OP_s g0 rfl rfl
      · rw [if_neg h0, if_neg (nle_of_lt h1)]
        exact OP_s g0 rfl rfl
    · rw [if_neg (nI_pos (by omega)), if_pos (show nI s ≤ (2 : Int32) from nI_le (a := s) (b := 2) hs (by omega)), r_in_t (nI_pos (by omega)) (show ¬ (2 : Int32) < nI s from nI_nlt (a := 2) (b := s) hs (by omega)), bnd_d, if_neg (show ¬ (1 : Int32) = 0 by decide), r_ofP0 (by omega), bnd_d, p6, r6, c_lA_o c13 hL (fun l e => (hlo l e).1), bnd_d]
      cases lo with
      | none =>
        rw [om_n, if_pos (by decide)]
        exact OP_s g0 rfl rfl
      | some l =>
        have hl := (hlo l rfl).1
        obtain ⟨z, hz, a0, b0⟩ := SR_sz gg0 hl
        rw [om_s, grd_eq (decide_eq_true (by omega)), if_neg (show ¬ oI (some l) < 0 from nI_pos (by omega)), show oI (some l) = nI l from rfl, r_of0 (by omega), bnd_d, a0, b0]
        by_cases e : nI z = nI s
        · rw [if_pos e, if_pos e]
          exact OP_s g0 rfl rfl
        · rw [if_neg e, if_neg e]
          obtain ⟨c1, h1, e1, e2, e3, e4, e5, e6⟩ := s_endWish gX hP hp
          obtain ⟨c2, h2, f1, f2, f3, f4, f5, f6⟩ := s_addX (s := s) e3 hP hp hs (fun e he => (wo_mem.mp he).2)
          rw [e1, bnd_d, f1, bnd_d, e2, bnd_d, f2]
          have c6 : c2 6 = c 6 := (f4 6 (by decide) (by decide) (by decide)).trans (e4 6 (by decide) (by decide) (by decide))
          refine ⟨_, c2, h2, rfl, ?_, ⟨nL, nP, D, W, _, hD0, SR_X (SR_X gg0 e3 e4 e5) f3 f4 f5, fun e he => by rw [c6]; exact hWN e he, fun e he => ?_, BJ_e hBJ (fun p _ => by rw [c6]) (fun l _ => by rw [f4 2 (by decide) (by decide) (by decide), e4 2 (by decide) (by decide) (by decide)])⟩, nz_t f6 e6⟩
          · rw [ks7 h2, f3.2.1, f3.1.1]
          · rw [c6]
            rcases List.mem_append.mp he with q | q
            · exact hXN e (wo_mem.mp q).1
            · rw [List.mem_singleton.mp q]
              show c 6 p ≠ -1
              rw [p6]
              exact nI_ne1 (by omega)
theorem o_noWish {c h : zV2} {lim : Nat} (p1 : Int32) (g : RR lim c (dec h)) (hlim : lim ≤ 5099) : OP (xX1_endWish c p1) (xX10_wishesNoMore h p1) h lim := by
  have g0 := g
  obtain ⟨nL, nP, D, W, X, hD0, gg, hWN, hXN, hBJ⟩ := g
  have gg0 := gg
  obtain ⟨gS, gL, gP, gW, gX, gT⟩ := gg
  obtain ⟨hL, hP, hD, c13, k13, c14, k14, c15, k15, hset⟩ := gS
  have hbX := bnL_of gX.2.2.2.2 hP (by omega)
  unfold xX1_endWish xX10_wishesNoMore
  rcases pk_ix p1 (n := nP) (by omega) with h1 | h1 | ⟨p, hp, rfl⟩
  · rw [c_pA_f c14 (Or.inl h1), r_isP_f k14 hP (Or.inl h1)]
    exact OP_s g0 rfl rfl
  · rw [c_pA_f c14 (Or.inr h1), r_isP_f k14 hP (Or.inr h1)]
    exact OP_s g0 rfl rfl
  · rw [c_pA_t c14 hP hp, r_isP_t k14 hP hp, bnd_d, bnd_d, om_s, grd_eq (decide_eq_true (by omega)), if_neg (show ¬ (1 : Int32) = 0 by decide), c_sizeOf gX.1 hbX (by omega), bnd_d, fJ_szI, r_ofP5 (by omega), bnd_d, gX.2.2.2.1 p hp]
    by_cases e : szI X p = -1
    · rw [if_pos e, e, if_neg (by decide)]
      exact OP_s g0 rfl rfl
    · obtain ⟨j, s, hj, hsz⟩ := szI_some e
      have hs := (hbX.2 _ (List.mem_of_getElem? hj)).2
      obtain ⟨c1, h1, e1, e2, e3, e4, e5, e6⟩ := s_endWish gX hP hp
      have c6 : c1 6 = c 6 := e4 6 (by decide) (by decide) (by decide)
      rw [if_neg e, hsz, if_pos (nI_pos' (by omega)), e1, bnd_d, e2, bnd_d]
      exact ⟨_, c1, h1, rfl, rfl, ⟨nL, nP, D, W, _, hD0, SR_X gg0 e3 e4 e5, fun e he => by rw [c6]; exact hWN e he, fun e he => by rw [c6]; exact hXN e (wo_mem.mp he).1, BJ_e hBJ (fun p _ => by rw [c6]) (fun l _ => by rw [e4 2 (by decide) (by decide) (by decide)])⟩, e6⟩
theorem o_pay {c h : zV2} {lim : Nat} (p1 p2 : Int32) (g : RR lim c (dec h)) (hlim : lim ≤ 5099) : OP (xX1_payCoins c p1 p2) (xX10_pays h p1 p2) h lim := by
  have g0 := g
  obtain ⟨nL, nP, D, W, X, hD0, gg, hWN, hXN, hBJ⟩ := g
  have gg0 := gg
  obtain ⟨gS, gL, gP, gW, gX, gT⟩ := gg
  obtain ⟨hL, hP, hD, c13, k13, c14, k14, c15, k15, hset⟩ := gS
  unfold xX1_payCoins xX10_pays
  rcases pk_ix p1 (n := nP) (by omega) with h1 | h1 | ⟨p, hp, rfl⟩
  · rw [c_pA_f c14 (Or.inl h1), r_isP_f k14 hP (Or.inl h1)]
    exact OP_s g0 rfl rfl
  · rw [c_pA_f c14 (Or.inr h1), r_isP_f k14 hP (Or.inr h1)]
    exact OP_s g0 rfl rfl
  · obtain ⟨lo, du, re, p6, r6, hlo, p7, r7, p8, r8, z1, z2, p9, p10, p11, p12⟩ := gP.1 p hp
    rw [c_pA_t c14 hP hp, r_isP_t k14 hP hp, bnd_d, bnd_d, om_s, grd_eq (decide_eq_true (by omega)), if_neg (show ¬ (1 : Int32) = 0 by decide)]
    by_cases h1 : p2 < 1
    · rw [if_pos h1, r_in_l h1]
      exact OP_s g0 rfl rfl
    · by_cases h2 : p2 ≤ 999
      · rw [if_neg h1, if_pos h2, r_in_t h1 (fun z => nle_of_lt z h2), bnd_d, if_neg (show ¬ (1 : Int32) = 0 by decide), r_ofP3 (by omega), bnd_d, ← p9]
        by_cases h3 : p2 ≤ c 9 p
        · have d1 : dec (kset h 9 p (c 9 p - p2)) = up2 (dec h) 9 p (c 9 p - p2) := dec_kset (kv9 (by omega))
          have d2 : dec (kset (kset h 9 p (c 9 p - p2)) 10 p (c 10 p + p2)) = up2 (up2 (dec h) 9 p (c 9 p - p2)) 10 p (c 10 p + p2) := by rw [dec_kset (kv10 (by omega)), d1]
          have d3 : dec (kset (kset (kset h 9 p (c 9 p - p2)) 10 p (c 10 p + p2)) 26 0 (dec h 26 0 + p2)) = up2 (up2 (up2 (dec h) 9 p (c 9 p - p2)) 10 p (c 10 p + p2)) 26 0 (dec h 26 0 + p2) := by rw [dec_kset kv26, d2]
          have w10 : dec (kset h 9 p (c 9 p - p2)) 10 p = c 10 p := by rw [d1, up2_ne _ (by omega), p10]
          have w26 : dec (kset (kset h 9 p (c 9 p - p2)) 10 p (c 10 p + p2)) 26 0 = dec h 26 0 := by rw [d2, up2_ne _ (by omega), up2_ne _ (by omega)]
          have w9 : dec (kset (kset (kset h 9 p (c 9 p - p2)) 10 p (c 10 p + p2)) 26 0 (dec h 26 0 + p2)) 9 p = c 9 p - p2 := by rw [d3, up2_ne _ (by omega), up2_ne _ (by omega), up2_self]
          refine ⟨c 9 p - p2, up2 (up2 c 9 p (c 9 p - p2)) 10 p (c 10 p + p2), kset (kset (kset h 9 p (c 9 p - p2)) 10 p (c 10 p + p2)) 26 0 (dec h 26 0 + p2), ?_, ?_, ⟨nL, nP, D, W, X, hD0, ?_, fun e he => ?_, fun e he => ?_, BJ_e hBJ (fun p _ => by rw [up2_ne _ (by omega), up2_ne _ (by omega)]) (fun l _ => by rw [up2_ne _ (by omega), up2_ne _ (by omega)])⟩, nz_t nz_k (nz_t nz_k nz_k)⟩
          · rw [if_pos h3, put2_d, up2_ne c (show ¬ (10 = 9 ∧ p = p) by omega), put2_d, up2_ne _ (show ¬ (9 = 10 ∧ p = p) by omega), up2_self]
          · rw [if_pos h3, r_ofP3 (by omega), bnd_d, ← p9, r_layP3 _ (by omega), bnd_d, r_ofP4 (by omega), bnd_d, w10, r_layP4 _ (by omega), bnd_d, kg8, kg8, kp8, ks8 (kset (kset h 9 p (c 9 p - p2)) 10 p (c 10 p + p2)), w26, r_ofP3 (by omega), bnd_d, w9]
          · rw [d3]
            refine ⟨GS_fr gg0.1 (fun j h1 h2 h3 => ?_) (fun j h1 h2 h3 => ?_), GL_fr gL (fun j h1 => ?_) (fun j h1 => ?_), GP_up gP hp (fun j q h1 h2 h3 => ?_) (fun j q h1 h2 h3 => ?_) ?_, GW_fr gW (fun j h1 => ?_) (fun j h1 => ?_), GX_fr gX (fun j h1 => ?_) (fun j h1 => ?_), ?_⟩
            · rw [up2_col _ _ _ (by omega), up2_col _ _ _ (by omega)]
            · rw [up2_col _ _ _ (by omega), up2_col _ _ _ (by omega), up2_col _ _ _ (by omega)]
            · rw [up2_col _ _ _ (by omega), up2_col _ _ _ (by omega)]
            · rw [up2_col _ _ _ (by omega), up2_col _ _ _ (by omega), up2_col _ _ _ (by omega)]
            · rw [up2_ne _ (by omega), up2_ne _ (by omega)]
            · rw [up2_ne _ (by omega), up2_ne _ (by omega), up2_ne _ (by omega)]
            · refine ⟨lo, du, re, ?_, ?_, hlo, ?_, ?_, ?_, ?_, z1, z2, ?_, ?_, ?_, ?_⟩
              · rw [up2_ne _ (by omega), up2_ne _ (by omega), p6]
              · rw [up2_ne _ (by omega), up2_ne _ (by omega), up2_ne _ (by omega), r6]
              · rw [up2_ne _ (by omega), up2_ne _ (by omega), p7]
              · rw [up2_ne _ (by omega), up2_ne _ (by omega), up2_ne _ (by omega), r7]
              · rw [up2_ne _ (by omega), up2_ne _ (by omega), p8]
              · rw [up2_ne _ (by omega), up2_ne _ (by omega), up2_ne _ (by omega), r8]
              · rw [up2_ne _ (by omega), up2_self, up2_ne _ (by omega), up2_ne _ (by omega), up2_self]
              · rw [up2_self, up2_ne _ (by omega), up2_self]
              · rw [up2_ne _ (by omega), up2_ne _ (by omega), up2_ne _ (by omega), up2_ne _ (by omega), up2_ne _ (by omega), p11]
              · rw [up2_ne _ (by omega), up2_ne _ (by omega), up2_ne _ (by omega), up2_ne _ (by omega), up2_ne _ (by omega), p12]
            · rw [up2_col _ _ _ (by omega), up2_col _ _ _ (by omega)]
            · rw [up2_col _ _ _ (by omega), up2_col _ _ _ (by omega), up2_col _ _ _ (by omega)]
            · rw [up2_col _ _ _ (by omega), up2_col _ _ _ (by omega)]
            · rw [up2_col _ _ _ (by omega), up2_col _ _ _ (by omega), up2_col _ _ _ (by omega)]
            · obtain ⟨t1, t2, t3, t4⟩ := gT
              have m10 : sm (up2 (up2 c 9 p (c 9 p - p2)) 10 p (c 10 p + p2) 10) 10 = sm (c 10) 10 + p2 := sm_u (p := p) (by omega) (fun i hi => by rw [up2_ne _ (by omega), up2_ne _ (by omega)]) (up2_self _ _ _ _)
              have m9 : sm (up2 (up2 c 9 p (c 9 p - p2)) 10 p (c 10 p + p2) 9) 10 = sm (c 9) 10 + -p2 := sm_u (p := p) (by omega) (fun i hi => by rw [up2_ne _ (by omega), up2_ne _ (by omega)]) (by rw [up2_ne _ (by omega), up2_self, Int32.sub_eq_add_neg])
              refine ⟨?_, ?_, ?_, ?_⟩
              · rw [up2_col _ _ _ (by omega), up2_col _ _ _ (by omega), up2_col _ _ _ (by omega), t1, up2_col (c := 10) (c' := 16) _ _ _ (by omega), up2_col (c := 9) (c' := 16) _ _ _ (by omega)]
              · rw [up2_self, m10, t2]
              · rw [up2_col _ _ _ (by omega), up2_col _ _ _ (by omega), up2_col _ _ _ (by omega), t3, m9, m10, Int32.add_assoc, Int32.add_comm (sm (c 10) 10) p2, ← Int32.add_assoc (-p2), Int32.add_left_neg, Int32.zero_add]
              · rw [up2_col (c := 10) (c' := 1) _ _ _ (by omega), up2_col (c := 9) (c' := 1) _ _ _ (by omega), up2_col (c := 10) (c' := 0) _ _ _ (by omega), up2_col (c := 9) (c' := 0) _ _ _ (by omega)]
                exact t4
          · rw [up2_ne _ (by omega), up2_ne _ (by omega)]
            exact hWN e he
          · rw [up2_ne _ (by omega), up2_ne _ (by omega)]
            exact hXN e he
        · rw [if_neg h3, if_neg h3]
          exact OP_s g0 rfl rfl
      · rw [if_neg h1, if_neg h2, r_in_g (lt_of_nle h2)]
        exact OP_s g0 rfl rfl
