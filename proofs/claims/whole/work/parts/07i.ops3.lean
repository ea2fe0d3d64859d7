/-! pure part: giving back, renewing, losing, wishing, paying, setting -/
theorem WN_end {W : List (Nat × Nat)} {c c' : zV2} {p : Nat} (h : WN W c) (h6 : ∀ q, c' 6 q = if q = p then -1 else c 6 q) : WN W c' := fun e he => by
  rw [h6]
  by_cases z : e.1 = p
  · rw [if_pos z]
  · rw [if_neg z]
    exact h e he
theorem XN_end {X : List (Nat × Nat)} {c c' : zV2} {p : Nat} (h : XN X c) (h6 : ∀ q, c' 6 q = if q = p then -1 else c 6 q) : XN (wo p X) c' := fun e he => by
  obtain ⟨m1, m2⟩ := wo_mem.mp he
  rw [h6, if_neg m2]
  exact h e m1
theorem BJ_end {c c' : zV2} {p l : Nat} (h : BJ c) (hp : p < 10) (hl : l < 12) (h6 : c 6 p = nI l) (k6 : ∀ q, c' 6 q = if q = p then -1 else c 6 q) (k2 : ∀ q, c' 2 q = if q = l then -1 else c 2 q) : BJ c' := by
  unfold BJ at h ⊢
  rw [fu_of k6, fu_of k2]
  exact bj_end h hp hl h6
theorem BJ_begin {c c' : zV2} {p l : Nat} (h : BJ c) (hp : p < 10) (hl : l < 12) (h6 : c 6 p = -1) (h2 : c 2 l = -1) (k6 : ∀ q, c' 6 q = if q = p then nI l else c 6 q) (k2 : ∀ q, c' 2 q = if q = l then nI p else c 2 q) : BJ c' := by
  unfold BJ at h ⊢
  rw [fu_of k6, fu_of k2]
  exact bj_begin h hp hl h6 h2
theorem o_back {c h : zV2} {lim : Nat} (p1 : Int32) (g : RR lim c (dec h)) (hlim : lim ≤ 5099) : OP (xX1_takeBack c p1) (xX10_givesBack h p1) h lim := by
  have g0 := g
  obtain ⟨nL, nP, D, W, X, hD0, gg, hWN, hXN, hBJ⟩ := g
  have gg0 := gg
  obtain ⟨gS, gL, gP, gW, gX, gT⟩ := gg
  obtain ⟨hL, hP, hD, c13, k13, c14, k14, c15, k15, hset⟩ := gS
  have hbW := bnL_of gW.2.2 hP (by omega)
  unfold xX1_takeBack xX10_givesBack
  rcases pk_ix p1 (n := nP) (by omega) with h1 | h1 | ⟨p, hp, rfl⟩
  · rw [c_pA_f c14 (Or.inl h1), r_isP_f k14 hP (Or.inl h1)]
    exact OP_s g0 rfl rfl
  · rw [c_pA_f c14 (Or.inr h1), r_isP_f k14 hP (Or.inr h1)]
    exact OP_s g0 rfl rfl
  · rw [c_pA_t c14 hP hp, r_isP_t k14 hP hp, bnd_d, bnd_d, om_s, grd_eq (decide_eq_true (by omega)), if_neg (show ¬ (1 : Int32) = 0 by decide), c_placeOf gW.1 hbW (by omega), r_placeOf gW.2.1 hbW (by omega), bnd_d, bnd_d]
    obtain ⟨lo, du, re, p6, r6, hlo, p7, r7, p8, r8, z1, z2, p9, p10, p11, p12⟩ := gP.1 p hp
    have hlb : ∀ l, lo = some l → l < 2 ^ 31 := fun l e => by have := (hlo l e).1; omega
    cases ej : fJ (fP p) W 0 with
    | none =>
      rw [show oJ none = (-1 : Int32) from rfl, if_pos rfl, if_pos (by decide), p6, c_lA_o c13 hL (fun l e => (hlo l e).1), bnd_d, r_ofP0 (by omega), bnd_d, r6]
      cases lo with
      | none =>
        rw [om_n, if_neg (by decide)]
        exact OP_s g0 rfl rfl
      | some l =>
        have hl := (hlo l rfl).1
        obtain ⟨v1, v2⟩ := s_over (c := c) (h := h) (p := p) (D := D) (by omega) (by rw [p6]; exact nI_ne1 (by omega)) p7 r7 hD (by omega) k15
        obtain ⟨c1, h1, e1, e2, e3, e4, e5, e6⟩ := s_endLoan gg0 hp hl p6
        obtain ⟨c2, h2, W2, f1, f2, f3, f4, f5, f6, f7⟩ := s_offer e3 (WN_end hWN e4) (XN_end hXN e4) hl (fun p hp => by simp)
        rw [om_s, grd_eq (decide_eq_true (by omega)), c15, v1, bnd_d, e1, bnd_d, f1, bnd_d, if_pos (show 0 ≤ oI (some l) from nI_pos' (by omega)), v2, bnd_d, e2, bnd_d, f2, bnd_d]
        exact ⟨_, c2, h2, rfl, rfl, ⟨nL, nP, D, W2, _, hD0, f3, f4, f5, f6.2 (BJ_end hBJ (by omega) (by omega) p6 e4 e5.2)⟩, nz_t f7 e6⟩
    | some x =>
      obtain ⟨j, e⟩ := x
      obtain ⟨_, hj, hPe⟩ := fJ_get ej
      rw [Nat.sub_zero] at hj
      have hjl := (List.getElem?_eq_some_iff.mp hj).1
      have hl10 := hbW.1
      have he : e.1 = p := by simpa [fP] using hPe
      obtain ⟨c1, h1, e1, e2, e3, e4, e5, e6⟩ := s_dropW gW hP hj
      rw [he] at e1
      rw [show oJ (some (j, e)) = nI j from rfl, if_neg (nI_ne1 (by omega)), if_neg (nI_pos (by omega)), e1, bnd_d, e2, bnd_d]
      have c6 : c1 6 = c 6 := e4 6 (by decide) (by decide) (by decide)
      exact ⟨_, c1, h1, rfl, rfl, ⟨nL, nP, D, _, X, hD0, SR_W gg0 e3 e4 e5, fun a ha => by rw [c6]; exact hWN a (wo_mem.mp ha).1, fun a ha => by rw [c6]; exact hXN a ha, BJ_e hBJ (fun p _ => by rw [c6]) (fun l _ => by rw [e4 2 (by decide) (by decide) (by decide)])⟩, e6⟩
theorem o_renew {c h : zV2} {lim : Nat} (p1 : Int32) (g : RR lim c (dec h)) (hlim : lim ≤ 5099) : OP (xX1_prolong c p1) (xX10_renews h p1) h lim := by
  have g0 := g
  obtain ⟨nL, nP, D, W, X, hD0, gg, hWN, hXN, hBJ⟩ := g
  have gg0 := gg
  obtain ⟨gS, gL, gP, gW, gX, gT⟩ := gg
  obtain ⟨hL, hP, hD, c13, k13, c14, k14, c15, k15, sa, sb, se, s1, t1, sa1, sa2, s2, t2, sb1, s3, t3, se1⟩ := gS
  have hbW := bnL_of gW.2.2 hP (by omega)
  unfold xX1_prolong xX10_renews
  rcases pk_ix p1 (n := nP) (by omega) with h1 | h1 | ⟨p, hp, rfl⟩
  · rw [c_pA_f c14 (Or.inl h1), r_isP_f k14 hP (Or.inl h1)]
    exact OP_s g0 rfl rfl
  · rw [c_pA_f c14 (Or.inr h1), r_isP_f k14 hP (Or.inr h1)]
    exact OP_s g0 rfl rfl
  · obtain ⟨lo, du, re, p6, r6, hlo, p7, r7, p8, r8, z1, z2, p9, p10, p11, p12⟩ := gP.1 p hp
    have hlb : ∀ l, lo = some l → l < 2 ^ 31 := fun l e => by have := (hlo l e).1; omega
    rw [c_pA_t c14 hP hp, r_isP_t k14 hP hp, bnd_d, bnd_d, om_s, grd_eq (decide_eq_true (by omega)), if_neg (show ¬ (1 : Int32) = 0 by decide), p6, c_lA_o c13 hL (fun l e => (hlo l e).1), bnd_d, r_ofP0 (by omega), bnd_d, r6]
    cases lo with
    | none =>
      rw [om_n, if_pos (by decide)]
      exact OP_s g0 rfl rfl
    | some l =>
      have hl := (hlo l rfl).1
      obtain ⟨v1, v2⟩ := s_over (c := c) (h := h) (p := p) (D := D) (by omega) (by rw [p6]; exact nI_ne1 (by omega)) p7 r7 hD (by omega) k15
      obtain ⟨s, hs, a0, b0⟩ := SR_sz gg0 hl
      rw [om_s, grd_eq (decide_eq_true (by omega)), c15, v1, bnd_d, if_neg (show ¬ oI (some l) < 0 from nI_pos (by omega)), v2, bnd_d]
      by_cases ed : D - du = 0
      · rw [ed, if_neg (show ¬ (0 : Int32) < nI 0 by decide), if_neg (show ¬ (0 : Int32) < nI 0 by decide), a0, c_firstFor gW.1 hbW (by omega), bnd_d, show oI (some l) = nI l from rfl, r_of0 (by omega), bnd_d, b0, r_firstW gW.2.1 hbW (by omega), bnd_d]
        by_cases ej : fJ (fS s) W 0 = none
        · rw [if_pos ((oP_m1 hbW).mpr ej), if_pos ((oJ_none hbW).mpr ej), show grd (inb (1 : Int32) 3) = id from rfl, r_ofP2 (by omega), bnd_d, kg1, ks1 h, show ((1 : Int32).toNatClampNeg) = 1 from rfl, p8, s2, r8, t2, id]
          by_cases er : nI re < nI sb
          · have er' : re < sb := (nI_ltI (by omega) (by omega)).mp er
            rw [if_pos er, if_pos er]
            have hk8 : dec h 8 p = nI re := r8
            have d1 : dec (kset h 8 p (nI (re + 1))) = up2 (dec h) 8 p (nI (re + 1)) := dec_kset (kv8 (by omega))
            have d2 : dec (kset (kset h 8 p (nI (re + 1))) 7 p (nI (du + sa))) = up2 (up2 (dec h) 8 p (nI (re + 1))) 7 p (nI (du + sa)) := by rw [dec_kset (kv7 (by omega)), d1]
            have w7 : dec (kset h 8 p (nI (re + 1))) 7 p = nI du := by rw [d1, up2_ne _ (by omega), r7]
            have w17 : dec (kset h 8 p (nI (re + 1))) 17 0 = nI sa := by rw [d1, up2_ne _ (by omega), t1]
            refine ⟨nI (du + sa), up2 (up2 c 8 p (nI (re + 1))) 7 p (nI (du + sa)), kset (kset h 8 p (nI (re + 1))) 7 p (nI (du + sa)), ?_, ?_, ⟨nL, nP, D, W, X, hD0, ?_, fun e he => ?_, fun e he => ?_, BJ_e hBJ (fun p _ => by rw [up2_ne _ (by omega), up2_ne _ (by omega)]) (fun l _ => by rw [up2_ne _ (by omega), up2_ne _ (by omega)])⟩, nz_t nz_k nz_k⟩
            · rw [nI_1, put2_d, show grd (inb (0 : Int32) 3) = id from rfl, show ((0 : Int32).toNatClampNeg) = 0 from rfl, up2_ne c (show ¬ (7 = 8 ∧ p = p) by omega), p7, up2_ne c (show ¬ (17 = 8 ∧ 0 = p) by omega), s1, nI_add, id, put2_d, up2_self]
            · rw [r_ofP2 (by omega), bnd_d, r8, nI_1, r_layP2 _ (by omega), bnd_d, r_ofP1 (by omega), bnd_d, kg0, ks0 (kset h 8 p (nI (re + 1))), w7, w17, nI_add, r_layP1 _ (by omega), bnd_d, r_ofP1 (by omega), bnd_d, d2, up2_self]
            · rw [d2]
              refine ⟨GS_fr gg0.1 (fun j h1 h2 h3 => ?_) (fun j h1 h2 h3 => ?_), GL_fr gL (fun j h1 => ?_) (fun j h1 => ?_), GP_up gP hp (fun j q h1 h2 h3 => ?_) (fun j q h1 h2 h3 => ?_) ?_, GW_fr gW (fun j h1 => ?_) (fun j h1 => ?_), GX_fr gX (fun j h1 => ?_) (fun j h1 => ?_), GT_fr gT (fun j h1 => ?_) (fun j h1 => ?_)⟩
              · rw [up2_col _ _ _ (by omega), up2_col _ _ _ (by omega)]
              · rw [up2_col _ _ _ (by omega), up2_col _ _ _ (by omega)]
              · rw [up2_col _ _ _ (by omega), up2_col _ _ _ (by omega)]
              · rw [up2_col _ _ _ (by omega), up2_col _ _ _ (by omega)]
              · rw [up2_ne _ (by omega), up2_ne _ (by omega)]
              · rw [up2_ne _ (by omega), up2_ne _ (by omega)]
              · refine ⟨some l, du + sa, re + 1, ?_, ?_, (fun x hx => by cases hx; exact ⟨hl, by have := (hlo l rfl).2; omega⟩), up2_self _ _ _ _, up2_self _ _ _ _, ?_, ?_, by omega, by omega, ?_, ?_, ?_, ?_⟩
                · rw [up2_ne _ (by omega), up2_ne _ (by omega), p6]
                · rw [up2_ne _ (by omega), up2_ne _ (by omega), r6]
                · rw [up2_ne _ (by omega), up2_self]
                · rw [up2_ne _ (by omega), up2_self]
                · rw [up2_ne _ (by omega), up2_ne _ (by omega), up2_ne _ (by omega), up2_ne _ (by omega), p9]
                · rw [up2_ne _ (by omega), up2_ne _ (by omega), up2_ne _ (by omega), up2_ne _ (by omega), p10]
                · rw [up2_ne _ (by omega), up2_ne _ (by omega), up2_ne _ (by omega), up2_ne _ (by omega), p11]
                · rw [up2_ne _ (by omega), up2_ne _ (by omega), up2_ne _ (by omega), up2_ne _ (by omega), p12]
              all_goals rw [up2_col _ _ _ (by omega), up2_col _ _ _ (by omega)]
            · rw [up2_ne _ (by omega), up2_ne _ (by omega)]
              exact hWN e he
            · rw [up2_ne _ (by omega), up2_ne _ (by omega)]
              exact hXN e he
          · rw [if_neg er, if_neg er]
            exact OP_s g0 rfl rfl
        · rw [if_neg (fun z => ej ((oP_m1 hbW).mp z)), if_neg (fun z => ej ((oJ_none hbW).mp z))]
          exact OP_s g0 rfl rfl
      · have hpos : (0 : Int32) < nI (D - du) := nI_lt (a := 0) (b := D - du) (by omega) (by omega)
        rw [if_pos hpos, if_pos hpos]
        exact OP_s g0 rfl rfl
/-- a lock is changed, on both sides -/
theorem s_change {c h : zV2} {nL nP D p l : Nat} {W X : List (Nat × Nat)} (g : SR nL nP D 0 (fun _ => D) (fun _ => D) W X c (dec h)) (hWN : WN W c) (hXN : XN X c) (hBJ : BJ c) (hp : p < nP) (hl : l < nL) (h6 : c 6 p = nI l) : ∃ c' h', xX1_changeLock p l c = some ((), c') ∧ xX10_changesLock h (nI p) = some ((), h') ∧ (∃ W' X', SR nL nP D 0 (fun _ => D) (fun _ => D) W' X' c' (dec h') ∧ WN W' c' ∧ XN X' c' ∧ BJ c') ∧ nz h' h := by
  obtain ⟨hh1, e1, g1, n1⟩ := s_owes (v := 20) g hp
  have h6' : (up2 c 9 p (c 9 p + 20)) 6 p = nI l := by rw [up2_ne _ (by omega), h6]
  have hWNn : ∀ e, e ∈ W → ¬ e.1 = p := fun e he z => by
    have := hWN e he
    rw [z, h6] at this
    have hL := g.1.1
    exact nI_ne1 (by omega) this
  obtain ⟨c2, hh2, e2, e3, g2, f6, f01, n2⟩ := s_endLoan g1 hp hl h6'
  have hWN2 : WN W c2 := fun e he => by
    rw [f6]
    by_cases z : e.1 = p
    · rw [if_pos z]
    · rw [if_neg z, up2_ne _ (by omega)]
      exact hWN e he
  have hXN2 : XN (wo p X) c2 := fun e he => by
    obtain ⟨m1, m2⟩ := wo_mem.mp he
    rw [f6, if_neg m2, up2_ne _ (by omega)]
    exact hXN e m1
  have hBJ2 : BJ c2 := BJ_end (BJ_e hBJ (fun p _ => up2_ne _ (by omega)) (fun l _ => up2_ne _ (by omega))) (by have := g.1.2.1; omega) (by have := g.1.1; omega) h6' f6 f01.2
  have hS := g2.1
  obtain ⟨hL, hP, hD, c13, k13, c14, k14, c15, k15, hset⟩ := hS
  obtain ⟨s, hs, a0, b0⟩ := SR_sz g2 hl
  have d3 : dec (kset hh2 3 l 1) = up2 (dec hh2) 3 l 1 := dec_kset (kv3 (by omega))
  have d4 : dec (kset (kset hh2 3 l 1) 4 l (nI (D + 3))) = up2 (up2 (dec hh2) 3 l 1) 4 l (nI (D + 3)) := by rw [dec_kset (kv4 (by omega)), d3]
  have w15 : dec (kset hh2 3 l 1) 15 0 = nI D := by rw [d3, up2_ne _ (by omega), k15]
  have g3 := SR_L (i := 3) (v := bI true) (w := bI true) g2 hl (by omega) (LR1_3 true (g2.2.1.1 l hl))
  have g4 := SR_L (i := 4) (v := oI (some (D + 3))) (w := oI (some (D + 3))) g3 hl (by omega) (LR1_4 (some (D + 3)) (g3.2.1.1 l hl) (fun o ho => by cases ho; omega))
  have g5 : SR nL nP D 0 (fun _ => D) (fun _ => D) W (wo p X) (up2 (up2 c2 3 l 1) 4 l (nI (D + 3))) (dec (kset (kset hh2 3 l 1) 4 l (nI (D + 3)))) := by
    rw [d4]
    exact g4
  have h66 : ∀ q, (up2 (up2 c2 3 l 1) 4 l (nI (D + 3))) 6 q = c2 6 q := fun q => by rw [up2_ne _ (by omega), up2_ne _ (by omega)]
  obtain ⟨o, v1, v2, v3⟩ := s_lowest g5.2.1 hL hP g5.1.2.2.2.2.1 (nI s)
  have ec : xX1_changeLock p l c = bnd (xX1_lowestFree (up2 (up2 c2 3 l 1) 4 l (nI (D + 3))) (nI s)) fun r7 h9 => (optm r7 (bnd (xX3_add 0 h9 (nI p) (h9 0 l)) fun r11 h13 => some ((), h13)) (fun q10 => grd (decide (q10 < 12)) (bnd (xX1_beginLoan p q10 h9) fun r14 h16 => some ((), h16)))) := by
    unfold xX1_changeLock
    rw [put2_d, e2, bnd_d, put2_d, put2_d, up2_ne c2 (show ¬ (15 = 3 ∧ 0 = l) by omega), c15, show nI D + (3 : Int32) = nI (D + 3) from nI_add D 3, up2_ne (up2 c2 3 l 1) (show ¬ (0 = 4 ∧ l = l) by omega), up2_ne c2 (show ¬ (0 = 3 ∧ l = l) by omega), a0]
  have eh : xX10_changesLock h (nI p) = bnd (xX10_lowestFree (kset (kset hh2 3 l 1) 4 l (nI (D + 3))) (nI s)) fun r17 h19 => (if r17 < 0 then bnd (xX10_waitsFor h19 (nI p) (nI s)) fun r21 h23 => some ((), h23) else bnd (xX10_beginsLoan h19 (nI p) r17) fun r24 h26 => some ((), h26)) := by
    unfold xX10_changesLock
    rw [e1, bnd_d, e3, bnd_d, r_of0 (by omega), bnd_d, b0, r_lay3 _ (by omega), bnd_d, kg3, ks3 (kset hh2 3 l 1), w15, show nI D + (3 : Int32) = nI (D + 3) from nI_add D 3, r_lay4 _ (by omega), bnd_d]
  rw [ec, eh, v1, v2, bnd_d, bnd_d]
  have hsz : (up2 (up2 c2 3 l 1) 4 l (nI (D + 3))) 0 l = nI s := by rw [up2_ne _ (by omega), up2_ne _ (by omega), a0]
  cases o with
  | none =>
    rw [om_n, if_pos (by decide), hsz]
    obtain ⟨c6, hh6, k1, k2, k3, k4, k5, k6⟩ := s_addW (p := p) (s := s) g5.2.2.2.1 hP hp (by omega) hWNn
    rw [k1, k2, bnd_d, bnd_d]
    have cc6 : c6 6 = c2 6 := by rw [k4 6 (by decide) (by decide) (by decide)]; funext q; exact h66 q
    refine ⟨c6, hh6, rfl, rfl, ⟨_, _, SR_W g5 k3 k4 k5, fun e he => ?_, fun e he => ?_, BJ_e hBJ2 (fun p _ => by rw [cc6]) (fun l _ => by rw [k4 2 (by decide) (by decide) (by decide), up2_ne _ (by omega), up2_ne _ (by omega)])⟩, nz_t k6 (nz_t nz_k (nz_t nz_k (nz_t n2 n1)))⟩
    · rw [cc6]
      rcases List.mem_append.mp he with q | q
      · exact hWN2 e q
      · rw [List.mem_singleton.mp q]
        show c2 6 p = -1
        rw [f6, if_pos rfl]
    · rw [cc6]
      exact hXN2 e he
  | some m =>
    obtain ⟨hm, hm2⟩ := v3 m rfl
    rw [om_s, grd_eq (decide_eq_true (by omega)), if_neg (show ¬ oI (some m) < 0 from nI_pos (by omega))]
    obtain ⟨c6, hh6, k1, k2, k3, k4, k01, k5⟩ := s_begin g5 hp hm (show D ≤ D + 20 by omega)
    rw [k1, bnd_d, show oI (some m) = nI m from rfl, k2, bnd_d]
    refine ⟨c6, hh6, rfl, rfl, ⟨_, _, k3, fun e he => ?_, fun e he => ?_, BJ_begin (BJ_e hBJ2 (fun p _ => h66 p) (fun l _ => by rw [up2_ne _ (by omega), up2_ne _ (by omega)])) (by omega) (by omega) (by rw [h66, f6, if_pos rfl]) hm2 k4 k01.2⟩, nz_t k5 (nz_t nz_k (nz_t nz_k (nz_t n2 n1)))⟩
    · rw [k4, if_neg (hWNn e he), h66]
      exact hWN2 e he
    · rw [k4]
      by_cases z : e.1 = p
      · rw [if_pos z]
        exact nI_ne1 (by omega)
      · rw [if_neg z, h66]
        exact hXN2 e he
theorem o_lose {c h : zV2} {lim : Nat} (p1 : Int32) (g : RR lim c (dec h)) (hlim : lim ≤ 5099) : OP (xX1_loseKey c p1) (xX10_loses h p1) h lim := by
  have g0 := g
  obtain ⟨nL, nP, D, W, X, hD0, gg, hWN, hXN, hBJ⟩ := g
  have gg0 := gg
  obtain ⟨gS, gL, gP, gW, gX, gT⟩ := gg
  obtain ⟨hL, hP, hD, c13, k13, c14, k14, c15, k15, hset⟩ := gS
  unfold xX1_loseKey xX10_loses
  rcases pk_ix p1 (n := nP) (by omega) with h1 | h1 | ⟨p, hp, rfl⟩
  · rw [c_pA_f c14 (Or.inl h1), r_isP_f k14 hP (Or.inl h1)]
    exact OP_s g0 rfl rfl
  · rw [c_pA_f c14 (Or.inr h1), r_isP_f k14 hP (Or.inr h1)]
    exact OP_s g0 rfl rfl
  · obtain ⟨lo, du, re, p6, r6, hlo, p7, r7, p8, r8, z1, z2, p9, p10, p11, p12⟩ := gP.1 p hp
    rw [c_pA_t c14 hP hp, r_isP_t k14 hP hp, bnd_d, bnd_d, om_s, grd_eq (decide_eq_true (by omega)), if_neg (show ¬ (1 : Int32) = 0 by decide), p6, c_lA_o c13 hL (fun l e => (hlo l e).1), bnd_d, r_ofP0 (by omega), bnd_d, r6]
    cases lo with
    | none =>
      rw [om_n, if_neg (by decide)]
      exact OP_s g0 rfl rfl
    | some l =>
      have hl := (hlo l rfl).1
      have d1 : dec (kset h 11 p (dec h 11 p + 1)) = up2 (dec h) 11 p (dec h 11 p + 1) := dec_kset (kv11 (by omega))
      have g1 : SR nL nP D 0 (fun _ => D) (fun _ => D) W X (up2 c 11 p (c 11 p + 1)) (dec (kset h 11 p (dec h 11 p + 1))) := by
        rw [d1]
        exact SR_P gg0 hp (by omega) (PR1_11 (gP.1 p hp))
      obtain ⟨h2, e1, g2, n2⟩ := s_owes (v := 5) g1 hp
      have q9 : (up2 c 11 p (c 11 p + 1)) 9 p = c 9 p := up2_ne _ (by omega)
      rw [om_s, grd_eq (decide_eq_true (by omega)), put2_d, put2_d, q9, if_pos (show 0 ≤ oI (some l) from nI_pos' (by omega)), r_ofP6 (by omega), bnd_d, r_layP6 _ (by omega), bnd_d, e1, bnd_d, show oI (some l) = nI l from rfl, r_of3 (by omega), bnd_d]
      rw [q9] at g2
      have h6 : (up2 (up2 c 11 p (c 11 p + 1)) 9 p (c 9 p + 5)) 6 p = nI l := by
        rw [up2_ne _ (by omega), up2_ne _ (by omega), p6]
        rfl
      have hWN2 : WN W (up2 (up2 c 11 p (c 11 p + 1)) 9 p (c 9 p + 5)) := fun e he => by
        rw [up2_ne _ (by omega), up2_ne _ (by omega)]
        exact hWN e he
      have hXN2 : XN X (up2 (up2 c 11 p (c 11 p + 1)) 9 p (c 9 p + 5)) := fun e he => by
        rw [up2_ne _ (by omega), up2_ne _ (by omega)]
        exact hXN e he
      have hBJ2 : BJ (up2 (up2 c 11 p (c 11 p + 1)) 9 p (c 9 p + 5)) := BJ_e hBJ (fun p _ => by rw [up2_ne _ (by omega), up2_ne _ (by omega)]) (fun l _ => by rw [up2_ne _ (by omega), up2_ne _ (by omega)])
      obtain ⟨s, st, ho, sp, op, a0, b0, hs, a1, b1, a2, b2, hh, a3, b3, _⟩ := g2.2.1.1 l hl
      rw [a3, b3]
      cases sp with
      | false =>
        rw [if_pos (show (if false = true then (1 : Int32) else 0) = 0 by decide), if_neg (show ¬ (if false = true then (1 : Int32) else 0) = 1 by decide)]
        obtain ⟨c3, h3, f1, f2, ⟨W', X', f3, f4, f5⟩, f6⟩ := s_change g2 hWN2 hXN2 hBJ2 hp hl h6
        obtain ⟨_, _, _, _, _, _, _, _, _, _, _, _, q9', _⟩ := f3.2.2.1.1 p hp
        rw [f1, bnd_d, f2, bnd_d, r_ofP3 (by omega), bnd_d, q9']
        exact ⟨_, c3, h3, rfl, rfl, ⟨nL, nP, D, W', X', hD0, f3, f4, f5⟩, nz_t f6 (nz_t n2 nz_k)⟩
      | true =>
        rw [if_neg (show ¬ (if true = true then (1 : Int32) else 0) = 0 by decide), if_pos (show (if true = true then (1 : Int32) else 0) = 1 by decide)]
        have d3 : dec (kset h2 3 l 0) = up2 (dec h2) 3 l 0 := dec_kset (kv3 (by omega))
        have g3 := SR_L (i := 3) (v := bI false) (w := bI false) g2 hl (by omega) (LR1_3 false (g2.2.1.1 l hl))
        have g4 : SR nL nP D 0 (fun _ => D) (fun _ => D) W X (up2 (up2 (up2 c 11 p (c 11 p + 1)) 9 p (c 9 p + 5)) 3 l 0) (dec (kset h2 3 l 0)) := by
          rw [d3]
          exact g3
        obtain ⟨_, _, _, _, _, _, _, _, _, _, _, _, q9', _⟩ := g4.2.2.1.1 p hp
        rw [put2_d, r_lay3 _ (by omega), bnd_d, r_ofP3 (by omega), bnd_d, q9']
        refine ⟨_, _, kset h2 3 l 0, rfl, rfl, ⟨nL, nP, D, W, X, hD0, g4, fun e he => ?_, fun e he => ?_, BJ_e hBJ2 (fun p _ => up2_ne _ (by omega)) (fun l _ => up2_ne _ (by omega))⟩, nz_t nz_k (nz_t n2 nz_k)⟩
        · rw [up2_ne _ (by omega)]
          exact hWN2 e he
        · rw [up2_ne _ (by omega)]
          exact hXN2 e he
