/-! pure part: all swaps -/
theorem ma_zero {nL nP D : Nat} {d : Int32} {B M : Nat → Nat} {W X : List (Nat × Nat)} {c k : zV2} (g : SR nL nP D d B M W X c k) : xX1_moveAround c 0 = some ((), c) := by
  obtain ⟨o, e1, e2⟩ := c_lOPx g (c 18 0)
  unfold xX1_moveAround
  rw [show grd (inb (0 : Int32) 3) = id from rfl, id, show ((0 : Int32).toNatClampNeg) = 0 from rfl, e1, bnd_d]
  cases o with
  | none => rfl
  | some q =>
    have := e2 q rfl
    rw [om_s, grd_eq (decide_eq_true this), ma_end (n := 999) (by decide) this]
theorem nI_2 (a : Nat) : nI a + 2 = nI (a + 2) := nI_add a 2
theorem nI_3 (a : Nat) : nI a + 3 = nI (a + 3) := nI_add a 3
theorem s_swaps {nL nP D : Nat} {lim : Nat} (hD0 : D ≤ lim) : ∀ (m : Nat) (s T n n' : Nat) (W X : List (Nat × Nat)) (c h : zV2), SR nL nP D (nI T) (fun _ => D) (fun _ => D) W X c (dec h) → WN W c → XN X c → BJ c → X.length ≤ m → s + m = 10 → m + 1 < n → m + 1 < n' → ∃ T' c' h', xX1_swapAll_L4 n c (nI T) (nI s) = some (nI T', c') ∧ xX10_swaps_L4 n' h (nI T) 1 = some (nI T', h') ∧ RN nL nP lim c' (dec h') ∧ nz h' h
  | m, s, T, n, 0, _, _, _, _, _, _, _, _, _, _, _, h => absurd h (by omega)
  | m, s, T, n, 1, _, _, _, _, _, _, _, _, _, _, _, h => absurd h (by omega)
  | m, s, T, 0, n' + 2, _, _, _, _, _, _, _, _, _, _, h, _ => absurd h (by omega)
  | m, s, T, n + 1, n' + 2, W, X, c, h, g, hWN, hXN, hBJ, hm, hs, h1, h2 => by
    have hcl : xX1_swapAll_L4 (n + 1) c (nI T) (nI s) = bnd (xX1_moveToFree c) fun r2 h4 => (if r2 = 0 then bnd (xX1_findRing h4) fun r6 h8 => bnd (xX1_moveAround h8 r6) fun r9 h11 => xX1_swapAll_L29 (xX1_swapAll_L4 n) h11 (nI T) (nI s) r6 else xX1_swapAll_L29 (xX1_swapAll_L4 n) h4 (nI T) (nI s) r2) := by
      conv => lhs; unfold xX1_swapAll_L4
      rw [if_neg (show ¬ (10 : Int32) < nI s from nI_nlt (a := 10) (b := s) (by omega) (by omega))]
    have hrf : xX10_swaps_L4 (n' + 2) h (nI T) 1 = bnd (xX10_takesFree h) fun r2 h4 => (if r2 = 0 then bnd (xX10_takesRing h4) fun r6 h8 => xX10_swaps_L23 (xX10_swaps_L4 (n' + 1)) h8 (nI T) r6 else xX10_swaps_L23 (xX10_swaps_L4 (n' + 1)) h4 (nI T) (1 : Int32)) := by
      conv => lhs; unfold xX10_swaps_L4
      rw [if_neg (show ¬ (1 : Int32) = 0 by decide)]
    rw [hcl, hrf]
    rcases s_free g hWN hXN hBJ (fun p hp => by simp) X.length 0 1000 1000 (by omega) (by have := WV_len g.2.2.2.2.1.2.2.2.2; have := g.1.2.1; omega) (by have := WV_len g.2.2.2.2.1.2.2.2.2; have := g.1.2.1; omega) with ⟨f1, f2⟩ | ⟨c1, hh1, W1, X1, f1, f2, g1, w1, x1, b1, l1, n1⟩
    · rw [show xX1_moveToFree c = some (0, c) from f1, show xX10_takesFree h = some (0, h) from f2, bnd_d, bnd_d, if_pos rfl, if_pos rfl]
      obtain ⟨o, k1, k2, k3⟩ := s_ring g hXN
      match o, k1, k2, k3 with
      | none, _, ⟨c2, e1, e2⟩, e3 =>
        have g2 := SR_18 g e2
        rw [e1, show xX10_takesRing h = some (0, h) from e3, bnd_d, bnd_d, ma_zero g2, bnd_d]
        unfold xX1_swapAll_L29 xX1_swapAll_L46 xX10_swaps_L23
        rw [if_pos rfl, put2_d, ltI_d, if_pos (show (0 : Int32) ≤ 0 by decide), show nI T + 0 = nI T from Int32.add_zero _]
        unfold xX10_swaps_L4
        rw [if_pos rfl]
        refine ⟨T, up2 c2 16 0 (c2 16 0 + nI T), h, rfl, rfl, ⟨D, W, X, hD0, ?_, fun e he => ?_, fun e he => ?_, BJ_e hBJ (fun p _ => by rw [up2_ne _ (by omega), e2 6 (by decide)]) (fun l _ => by rw [up2_ne _ (by omega), e2 2 (by decide)])⟩, nz_r _⟩
        · obtain ⟨gS, gL, gP, gW, gX, t1, t2, t3, t4⟩ := g2
          refine ⟨GS_fr gS (fun j h1 h2 h3 => up2_col _ _ _ (by omega)) (fun j h1 h2 h3 => rfl), GL_fr gL (fun j h1 => up2_col _ _ _ (by omega)) (fun j h1 => rfl), GP_fr gP (fun j h1 h2 => up2_col _ _ _ (by omega)) (fun j h1 h2 => rfl), GW_fr gW (fun j h1 => up2_col _ _ _ (by omega)) (fun j h1 => rfl), GX_fr gX (fun j h1 => up2_col _ _ _ (by omega)) (fun j h1 => rfl), ?_, ?_, ?_, ?_⟩
          · rw [up2_self, t1, Int32.add_zero]
          · rw [up2_col _ _ _ (by decide), t2]
          · rw [up2_col _ _ _ (by decide), up2_col _ _ _ (by decide), t3]
          · rw [up2_col _ _ _ (by decide), up2_col _ _ _ (by decide)]
            exact t4
        · rw [up2_ne _ (by omega), e2 6 (by decide)]
          exact hWN e he
        · rw [up2_ne _ (by omega), e2 6 (by decide)]
          exact hXN e he
      | some (a, b, none), ⟨ha, hb, hab, sa, sb⟩, ⟨c2, e1, e2, e4, e5⟩, e3 =>
        have g2 := SR_18 g e2
        have hWN2 : WN W c2 := fun e he => by rw [e2 6 (by decide)]; exact hWN e he
        have hXN2 : XN X c2 := fun e he => by rw [e2 6 (by decide)]; exact hXN e he
        have hBJ2 : BJ c2 := BJ_e hBJ (fun p _ => by rw [e2 6 (by decide)]) (fun l _ => by rw [e2 2 (by decide)])
        obtain ⟨c3, h3, m1, m2, g3, w3, x3, b3, n3⟩ := s_around2 g2 hWN2 hXN2 hBJ2 ha hb hab sa sb e4 e5
        have la := wo_lt sa
        have lb := wo_len (p := b) (L := wo a X)
        rw [e1, show xX10_takesRing h = _ from e3, bnd_d, m1, bnd_d, show oI none = (-1 : Int32) from rfl, m2, bnd_d, bnd_d]
        unfold xX1_swapAll_L29 xX10_swaps_L23
        rw [if_neg (show ¬ (2 : Int32) = 0 by decide), ltI_d, ltI_d, ltI_d, if_neg (show ¬ (2 : Int32) ≤ 0 by decide), nI_2, nI_1]
        obtain ⟨T', c4, h4, r1, r2, r3, r4⟩ := s_swaps hD0 (m - 1) (s + 1) (T + 2) n (n' + 1) _ _ c3 h3 (by rw [nI_succ, nI_succ]; exact g3) w3 x3 b3 (by omega) (by omega) (by omega) (by omega)
        exact ⟨T', c4, h4, r1, r2, r3, nz_t r4 n3⟩
      | some (a, b, some r), ⟨ha, hb, hab, sa, sb, hr, hra, hrb, sr⟩, ⟨c2, e1, e2, e4, e5, e6⟩, e3 =>
        have g2 := SR_18 g e2
        have hWN2 : WN W c2 := fun e he => by rw [e2 6 (by decide)]; exact hWN e he
        have hXN2 : XN X c2 := fun e he => by rw [e2 6 (by decide)]; exact hXN e he
        have hBJ2 : BJ c2 := BJ_e hBJ (fun p _ => by rw [e2 6 (by decide)]) (fun l _ => by rw [e2 2 (by decide)])
        obtain ⟨c3, h3, m1, m2, g3, w3, x3, b3, n3⟩ := s_around3 g2 hWN2 hXN2 hBJ2 ha hb hab sa sb hr hra hrb sr e4 e5 e6
        have la := wo_lt sa
        have lb := wo_len (p := b) (L := wo a X)
        have lr := wo_len (p := r) (L := wo b (wo a X))
        rw [e1, show xX10_takesRing h = _ from e3, bnd_d, m1, bnd_d, show oI (some r) = nI r from rfl, m2, bnd_d, bnd_d]
        unfold xX1_swapAll_L29 xX10_swaps_L23
        rw [if_neg (show ¬ (3 : Int32) = 0 by decide), ltI_d, ltI_d, ltI_d, if_neg (show ¬ (3 : Int32) ≤ 0 by decide), nI_3, nI_1]
        obtain ⟨T', c4, h4, r1, r2, r3, r4⟩ := s_swaps hD0 (m - 1) (s + 1) (T + 3) n (n' + 1) _ _ c3 h3 (by rw [nI_succ, nI_succ, nI_succ]; exact g3) w3 x3 b3 (by omega) (by omega) (by omega) (by omega)
        exact ⟨T', c4, h4, r1, r2, r3, nz_t r4 n3⟩
    · rw [show xX1_moveToFree c = some (1, c1) from f1, show xX10_takesFree h = some (1, hh1) from f2, bnd_d, bnd_d, if_neg (show ¬ (1 : Int32) = 0 by decide), if_neg (show ¬ (1 : Int32) = 0 by decide)]
      unfold xX1_swapAll_L29 xX10_swaps_L23
      rw [if_neg (show ¬ (1 : Int32) = 0 by decide), ltI_d, ltI_d, ltI_d, if_neg (show ¬ (1 : Int32) ≤ 0 by decide), nI_1, nI_1]
      obtain ⟨T', c4, h4, r1, r2, r3, r4⟩ := s_swaps hD0 (m - 1) (s + 1) (T + 1) n (n' + 1) W1 X1 c1 hh1 (by rw [nI_succ]; exact g1) w1 x1 b1 (by omega) (by omega) (by omega) (by omega)
      exact ⟨T', c4, h4, r1, r2, r3, nz_t r4 n1⟩
theorem o_swap {c h : zV2} {lim : Nat} (g : RR lim c (dec h)) : OP (xX1_swapAll c) (xX10_swaps h) h lim := by
  obtain ⟨nL, nP, D, W, X, hD0, gg, hWN, hXN, hBJ⟩ := g
  have hl := WV_len gg.2.2.2.2.1.2.2.2.2
  have hP := gg.1.2.1
  obtain ⟨T', c', h', r1, r2, r3, r4⟩ := s_swaps hD0 10 0 0 1000 1000 W X c h gg hWN hXN hBJ (by omega) (by omega) (by omega) (by omega)
  exact ⟨_, c', h', r1, r2, RN_RR r3, r4⟩
/-! a day passes -/
theorem GL_b {nL nP i : Nat} {B B' : Nat → Nat} {c k : zV2} (g : GL nL nP B c k) (hB : ∀ l, l ≠ i → B' l = B l) (hr : i < nL → LR1 nP (B' i) c k i) : GL nL nP B' c k :=
  ⟨fun l hl => by
    by_cases e : l = i
    · subst e; exact hr hl
    · rw [hB l e]; exact g.1 l hl, g.2⟩
theorem GP_m {nL nP i : Nat} {M M' : Nat → Nat} {c k : zV2} (g : GP nL nP M c k) (hB : ∀ l, l ≠ i → M' l = M l) (hr : i < nP → PR1 nL (M' i) c k i) : GP nL nP M' c k :=
  ⟨fun l hl => by
    by_cases e : l = i
    · subst e; exact hr hl
    · rw [hB l e]; exact g.1 l hl, g.2⟩
theorem LR1_4n {nP b b' l : Nat} {c k : zV2} (g : LR1 nP b c k l) : LR1 nP b' (up2 c 4 l (-1)) (up2 k 4 l (-1)) l := by
  obtain ⟨s, st, ho, sp0, op, a0, b0, hs, a1, b1, a2, b2, hh, a3, b3, a4, b4, h4, a5⟩ := g
  exact ⟨s, st, ho, sp0, none, (up2_ne _ (by omega)).trans a0, (up2_ne _ (by omega)).trans b0, hs, (up2_ne _ (by omega)).trans a1, (up2_ne _ (by omega)).trans b1, (up2_ne _ (by omega)).trans a2, (up2_ne _ (by omega)).trans b2, hh, (up2_ne _ (by omega)).trans a3, (up2_ne _ (by omega)).trans b3, up2_self _ _ _ _, up2_self _ _ _ _, (fun o e => by cases e), by rw [up2_ne _ (by omega), up2_ne _ (by omega), a5]⟩
def Bi (D i : Nat) : Nat → Nat := fun l => if l < i then D + 1 else D
theorem Bi_ne {D i l : Nat} (h : l ≠ i) : Bi D (i + 1) l = Bi D i l := by
  unfold Bi
  by_cases e : l < i
  · rw [if_pos e, if_pos (by omega)]
  · rw [if_neg e, if_neg (by omega)]
theorem Bi_at {D i : Nat} : Bi D (i + 1) i = D + 1 := if_pos (by omega)
theorem Bi_at0 {D i : Nat} : Bi D i i = D := if_neg (by omega)
theorem Bi_le {D i l : Nat} : Bi D i l ≤ D + 1 := by unfold Bi; split <;> omega
theorem SR_B {nL nP D i : Nat} {d : Int32} {B B' M : Nat → Nat} {W X : List (Nat × Nat)} {c k : zV2} (g : SR nL nP D d B M W X c k) (hB : ∀ l, l ≠ i → B' l = B l) (hr : i < nL → LR1 nP (B' i) c k i) : SR nL nP D d B' M W X c k :=
  ⟨g.1, GL_b g.2.1 hB hr, g.2.2⟩
theorem SR_M {nL nP D i : Nat} {d : Int32} {B M M' : Nat → Nat} {W X : List (Nat × Nat)} {c k : zV2} (g : SR nL nP D d B M W X c k) (hB : ∀ l, l ≠ i → M' l = M l) (hr : i < nP → PR1 nL (M' i) c k i) : SR nL nP D d B M' W X c k :=
  ⟨g.1, g.2.1, GP_m g.2.2.1 hB hr, g.2.2.2⟩
theorem c_close0 {c : zV2} {nL nP : Nat} {B : Nat → Nat} {k : zV2} (g : GL nL nP B c k) : ∀ (m i n : Nat), nL ≤ i → i + m = 12 → m < n → xX1_endClosing_L2 n c (nI i) = some ((), c)
  | m, i, 0, _, _, h => absurd h (by omega)
  | 0, i, n + 1, h1, h2, h3 => by
    unfold xX1_endClosing_L2
    rw [if_pos (show (12 : Int32) ≤ nI i from nI_le (a := 12) (b := i) (by omega) (by omega))]
  | m + 1, i, n + 1, h1, h2, h3 => by
    have z := g.2 i h1 (by omega)
    unfold xX1_endClosing_L2
    rw [if_neg (show ¬ (12 : Int32) ≤ nI i from nI_ge (a := i) (b := 12) (by omega) (by omega)), grd_eq (inb_nI (by omega) (by omega)), nI_clamp (by omega), if_pos z.2.2.2.1, ltI_d, nI_1]
    exact c_close0 g m (i + 1) n (by omega) (by omega) (by omega)
theorem s_close {nL nP D : Nat} {X : List (Nat × Nat)} (hD : D + 1 ≤ 5099) : ∀ (m i n n' : Nat) (W : List (Nat × Nat)) (c h : zV2), SR nL nP (D + 1) 0 (Bi D i) (fun _ => D) W X c (dec h) → WN W c → XN X c → BJ c → i + m = nL → m + (12 - nL) < n → m < n' → ∃ c' h' W', xX1_endClosing_L2 n c (nI i) = some ((), c') ∧ xX10_dayPasses_L12 n' h (nI i) = xX10_dayPasses_L59 1000 h' (0 : Int32) (0 : Int32) ∧ SR nL nP (D + 1) 0 (Bi D nL) (fun _ => D) W' X c' (dec h') ∧ WN W' c' ∧ XN X c' ∧ BJ c' ∧ nz h' h
  | m, i, n, 0, _, _, _, _, _, _, _, _, _, h => absurd h (by omega)
  | m, i, 0, n' + 1, _, _, _, _, _, _, _, _, h, _ => absurd h (by omega)
  | 0, i, n + 1, n' + 1, W, c, h, g, hWN, hXN, hBJ, h1, h2, h3 => by
    have hL := g.1.1
    have e : i = nL := by omega
    subst e
    refine ⟨c, h, W, c_close0 g.2.1 (12 - i) i (n + 1) (by omega) (by omega) (by omega), ?_, g, hWN, hXN, hBJ, nz_r _⟩
    unfold xX10_dayPasses_L12
    rw [kg4, ks4 h, g.1.2.2.2.2.1, if_pos (nI_le (by omega) (by omega))]
  | m + 1, i, n + 1, n' + 1, W, c, h, g, hWN, hXN, hBJ, h1, h2, h3 => by
    have hL := g.1.1
    have hi : i < nL := by omega
    have row := g.2.1.1 i hi
    have row0 := row
    obtain ⟨s, st, ho, sp, op, a0, b0, hs, a1, b1, a2, b2, hh, a3, b3, a4, b4, h4, a5⟩ := row
    rw [Bi_at0] at h4
    have hob : ∀ l, op = some l → l < 2 ^ 31 := fun l e => by have := (h4 l e).2; omega
    unfold xX1_endClosing_L2 xX10_dayPasses_L12
    rw [if_neg (show ¬ (12 : Int32) ≤ nI i from nI_ge (a := i) (b := 12) (by omega) (by omega)), grd_eq (inb_nI (by omega) (by omega)), nI_clamp (by omega), kg4, ks4 h, g.1.2.2.2.2.1, if_neg (nI_ge (by omega) (by omega)), r_of4 (by omega), bnd_d, kg3, ks3 h, g.1.2.2.2.2.2.2.2.2.1, g.1.2.2.2.2.2.2.2.1, a4, b4]
    simp only [ltI_d, nI_1]
    cases op with
    | none =>
      rw [if_pos (show oI none = -1 from rfl), if_neg (show ¬ oI none = nI (D + 1) from fun z => nI_ne1 (n := D + 1) (by omega) z.symm)]
      exact s_close hD m (i + 1) n n' W c h (SR_B g (fun l hl => Bi_ne hl) (fun _ => ⟨s, st, ho, sp, none, a0, b0, hs, a1, b1, a2, b2, hh, a3, b3, a4, b4, (fun o e => by cases e), a5⟩)) hWN hXN hBJ (by omega) (by omega) (by omega)
    | some o =>
      obtain ⟨o1, o2⟩ := h4 o rfl
      rw [if_neg (show ¬ oI (some o) = -1 from nI_ne1 (by omega)), show oI (some o) = nI o from rfl]
      by_cases e : D + 1 < o
      · rw [if_pos (nI_lt e (by omega)), if_neg (fun z => by have := (nI_eq (by omega) (by omega)).mp z; omega)]
        exact s_close hD m (i + 1) n n' W c h (SR_B g (fun l hl => Bi_ne hl) (fun _ => ⟨s, st, ho, sp, some o, a0, b0, hs, a1, b1, a2, b2, hh, a3, b3, a4, b4, (fun x hx => by cases hx; rw [Bi_at]; exact ⟨e, o2⟩), a5⟩)) hWN hXN hBJ (by omega) (by omega) (by omega)
      · have eo : o = D + 1 := by omega
        subst eo
        rw [if_neg (nI_nlt (by omega) (by omega)), if_pos rfl, put2_d, r_lay4 _ (by omega), bnd_d]
        have d4 : dec (kset h 4 i (-1)) = up2 (dec h) 4 i (-1) := dec_kset (kv4 (by omega))
        have g1 : SR nL nP (D + 1) 0 (Bi D (i + 1)) (fun _ => D) W X (up2 c 4 i (-1)) (dec (kset h 4 i (-1))) := by
          rw [d4]
          exact SR_B (SR_L g hi (by omega) (LR1_4n row0)) (fun l hl => Bi_ne hl) (fun _ => LR1_4n row0)
        obtain ⟨c2, h2', W2, k1, k2, k3, k4, k5, k6, k7⟩ := s_offer g1 (fun e he => by rw [up2_ne _ (by omega)]; exact hWN e he) (fun e he => by rw [up2_ne _ (by omega)]; exact hXN e he) hi (fun p hp => show D ≤ D + 1 + 20 by omega)
        rw [k1, bnd_d, k2, bnd_d]
        obtain ⟨c3, h3', W3, r1, r2, r3, r4, r5, rb, r6⟩ := s_close hD m (i + 1) n n' W2 c2 h2' k3 k4 k5 (k6.2 (BJ_e hBJ (fun p _ => up2_ne _ (by omega)) (fun l _ => up2_ne _ (by omega)))) (by omega) (by omega) (by omega)
        exact ⟨c3, h3', W3, r1, r2, r3, r4, r5, rb, nz_t r6 (nz_t k7 nz_k)⟩
