/-! pure part: what a day costs -/
theorem PR1_m {nL m m' du p : Nat} {c k : zV2} (g : PR1 nL m c k p) (h7 : c 7 p = nI du) (hd : du ≤ 9999) (hm : m' ≤ du + 20) : PR1 nL m' c k p := by
  obtain ⟨lo, du', re, p6, r6, hlo, p7, r7, p8, r8, z1, z2, rest⟩ := g
  have e : du' = du := (nI_eq (by omega) (by omega)).mp (p7.symm.trans h7)
  exact ⟨lo, du', re, p6, r6, fun l hl => ⟨(hlo l hl).1, by omega⟩, p7, r7, p8, r8, z1, z2, rest⟩
theorem PR1_n {nL m m' p : Nat} {c k : zV2} (g : PR1 nL m c k p) (h6 : c 6 p = -1) (hL : nL ≤ 12) : PR1 nL m' c k p := by
  obtain ⟨lo, du', re, p6, r6, hlo, rest⟩ := g
  cases lo with
  | none => exact ⟨none, du', re, p6, r6, (fun l hl => by cases hl), rest⟩
  | some l =>
    have := (hlo l rfl).1
    exact absurd (p6.symm.trans h6) (nI_ne1 (by omega))
theorem s_fee (c h : zV2) (v : Int32) (R : Nat) (hR : R ≤ 9999) : ∃ F, xX1_feeOfDay c (nI R) = some (F, c) ∧ xX10_feeOf h (nI R) v = some (F * (v + 1), h) := by
  unfold xX1_feeOfDay xX10_feeOf
  by_cases a : 7 < R
  · have a' : (7 : Int32) < nI R := nI_lt (a := 7) (b := R) a (by omega)
    rw [if_pos a', if_pos a']
    by_cases b : 14 < R
    · have b' : (14 : Int32) < nI R := nI_lt (a := 14) (b := R) b (by omega)
      rw [if_pos b', if_pos b']
      exact ⟨4, rfl, rfl⟩
    · have b' : ¬ (14 : Int32) < nI R := nI_nlt (a := 14) (b := R) (by omega) (by omega)
      rw [if_neg b', if_neg b']
      exact ⟨2, rfl, rfl⟩
  · have a' : ¬ (7 : Int32) < nI R := nI_nlt (a := 7) (b := R) (by omega) (by omega)
    rw [if_neg a', if_neg a']
    exact ⟨1, rfl, rfl⟩
theorem c_charge0 {c : zV2} {nL nP : Nat} {M : Nat → Nat} {k : zV2} (g : GP nL nP M c k) (T : Int32) : ∀ (m i n : Nat), nP ≤ i → i + m = 10 → m < n → xX1_chargeOverdue_L4 n c T (nI i) = some (T, c)
  | m, i, 0, _, _, h => absurd h (by omega)
  | 0, i, n + 1, h1, h2, h3 => by
    unfold xX1_chargeOverdue_L4
    rw [if_pos (show (10 : Int32) ≤ nI i from nI_le (a := 10) (b := i) (by omega) (by omega))]
  | m + 1, i, n + 1, h1, h2, h3 => by
    have z := g.2 i h1 (by omega)
    unfold xX1_chargeOverdue_L4
    rw [if_neg (show ¬ (10 : Int32) ≤ nI i from nI_ge (a := i) (b := 10) (by omega) (by omega)), grd_eq (inb_nI (by omega) (by omega)), nI_clamp (by omega), c_over0 z.1, bnd_d, if_pos (show (0 : Int32) ≤ 0 by decide)]
    unfold xX1_chargeOverdue_L44
    rw [om_n, ltI_d, nI_1]
    exact c_charge0 g T m (i + 1) n (by omega) (by omega) (by omega)
theorem s_charge {nL nP D : Nat} {B : Nat → Nat} : ∀ (m i T n n' : Nat) (W X : List (Nat × Nat)) (c h : zV2), SR nL nP (D + 1) 0 B (Bi D i) W X c (dec h) → WN W c → XN X c → BJ c → i + m = nP → m + (10 - nP) < n → m < n' → ∃ T' c' h' W' X', xX1_chargeOverdue_L4 n c (nI T) (nI i) = some (nI T', c') ∧ xX10_dayPasses_L59 n' h (nI T) (nI i) = some (nI T', h') ∧ SR nL nP (D + 1) 0 B (Bi D nP) W' X' c' (dec h') ∧ WN W' c' ∧ XN X' c' ∧ BJ c' ∧ nz h' h
  | m, i, T, n, 0, _, _, _, _, _, _, _, _, _, _, h => absurd h (by omega)
  | m, i, T, 0, n' + 1, _, _, _, _, _, _, _, _, _, h, _ => absurd h (by omega)
  | 0, i, T, n + 1, n' + 1, W, X, c, h, g, hWN, hXN, hBJ, h1, h2, h3 => by
    have hP := g.1.2.1
    have e : i = nP := by omega
    subst e
    refine ⟨T, c, h, W, X, c_charge0 g.2.2.1 _ (10 - i) i (n + 1) (by omega) (by omega) (by omega), ?_, g, hWN, hXN, hBJ, nz_r _⟩
    unfold xX10_dayPasses_L59
    rw [kg5, ks5 h, g.1.2.2.2.2.2.2.1, if_pos (nI_le (by omega) (by omega))]
  | m + 1, i, T, n + 1, n' + 1, W, X, c, h, g, hWN, hXN, hBJ, h1, h2, h3 => by
    have hL := g.1.1
    have hP := g.1.2.1
    have hD := g.1.2.2.1
    have c15 := g.1.2.2.2.2.2.2.2.1
    have k15 := g.1.2.2.2.2.2.2.2.2.1
    have hi : i < nP := by omega
    have ih := fun T W X c h (g : SR nL nP (D + 1) 0 B (Bi D (i + 1)) W X c (dec h)) (a : WN W c) (b : XN X c) (b2 : BJ c) => s_charge (nL := nL) (nP := nP) (D := D) (B := B) m (i + 1) T n n' W X c h g a b b2 (by omega) (by omega) (by omega)
    have row := g.2.2.1.1 i hi
    have row0 := row
    obtain ⟨lo, du, re, p6, r6, hlo, p7, r7, p8, r8, z1, z2, p9, p10, p11, p12⟩ := row
    rw [Bi_at0] at hlo
    have hcl : xX1_chargeOverdue_L4 (n + 1) c (nI T) (nI i) = bnd (xX5_overdueOn i c (nI (D + 1))) fun r3 h5 => (if r3 ≤ 0 then xX1_chargeOverdue_L44 (xX1_chargeOverdue_L4 n) h5 (nI T) (nI i) i r3 none else bnd (xX1_lockerAt h5 (h5 6 i)) fun r7 h9 => (optm r7 (xX1_chargeOverdue_L44 (xX1_chargeOverdue_L4 n) h9 (nI T) (nI i) i r3 none) (fun q10 => grd (decide (q10 < 12)) (xX1_chargeOverdue_L44 (xX1_chargeOverdue_L4 n) h9 (nI T) (nI i) i r3 (some q10))))) := by
      conv => lhs; unfold xX1_chargeOverdue_L4
      rw [if_neg (show ¬ (10 : Int32) ≤ nI i from nI_ge (a := i) (b := 10) (by omega) (by omega)), grd_eq (inb_nI (by omega) (by omega)), nI_clamp (by omega), c15]
    have hrf : xX10_dayPasses_L59 (n' + 1) h (nI T) (nI i) = (if oI lo < 0 then xX10_dayPasses_L87 (xX10_dayPasses_L59 n') h (nI T) (nI i) (0 : Int32) else bnd (xX10_overdue h (nI i)) fun r7 h9 => xX10_dayPasses_L87 (xX10_dayPasses_L59 n') h9 (nI T) (nI i) r7) := by
      conv => lhs; unfold xX10_dayPasses_L59
      rw [kg5, ks5 h, g.1.2.2.2.2.2.2.1, if_neg (nI_ge (by omega) (by omega)), r_ofP0 (by omega), bnd_d, r6]
    have cno : xX1_chargeOverdue_L44 (xX1_chargeOverdue_L4 n) c (nI T) (nI i) i 0 none = xX1_chargeOverdue_L4 n c (nI T) (nI (i + 1)) := by
      unfold xX1_chargeOverdue_L44
      rw [om_n, ltI_d, nI_1]
    have rno : xX10_dayPasses_L87 (xX10_dayPasses_L59 n') h (nI T) (nI i) 0 = xX10_dayPasses_L59 n' h (nI T) (nI (i + 1)) := by
      unfold xX10_dayPasses_L87 xX10_dayPasses_L112
      rw [if_pos (show (0 : Int32) ≤ 0 by decide), if_neg (show ¬ (0 : Int32) = 21 by decide), ltI_d, nI_1]
    rw [hcl, hrf]
    cases lo with
    | none =>
      rw [c_over0 p6, bnd_d, if_pos (show (0 : Int32) ≤ 0 by decide), cno, if_pos (show oI none < 0 by decide), rno]
      exact ih T W X c h (SR_M g (fun l hl => Bi_ne hl) (fun _ => PR1_n row0 p6 hL)) hWN hXN hBJ
    | some l =>
      obtain ⟨hl, hdu⟩ := hlo l rfl
      obtain ⟨v1, v2⟩ := s_over (c := c) (h := h) (p := i) (D := D + 1) (by omega) (by rw [p6]; exact nI_ne1 (by omega)) p7 r7 hD (by omega) k15
      rw [v1, bnd_d, if_neg (show ¬ oI (some l) < 0 from nI_pos (by omega)), v2, bnd_d]
      by_cases eR : D + 1 - du = 0
      · rw [eR, if_pos (show nI 0 ≤ 0 by decide), show nI 0 = 0 from rfl, cno, rno]
        exact ih T W X c h (SR_M g (fun l hl => Bi_ne hl) (fun _ => PR1_m row0 p7 (by omega) (by rw [Bi_at]; omega))) hWN hXN hBJ
      · obtain ⟨s, hs, a0, b0⟩ := SR_sz g hl
        obtain ⟨F, f1, f2⟩ := s_fee c h (nI s) (D + 1 - du) (by omega)
        obtain ⟨h1', e1, g1, n1⟩ := s_owes (v := F * (nI s + 1)) g hi
        have cst : xX1_chargeOverdue_L44 (xX1_chargeOverdue_L4 n) c (nI T) (nI i) i (nI (D + 1 - du)) (some l) = (if nI (D + 1 - du) < (21 : Int32) then xX1_chargeOverdue_L4 n (up2 c 9 i (c 9 i + F * (nI s + 1))) (nI T) (nI (i + 1)) else (put2 (up2 c 9 i (c 9 i + F * (nI s + 1))) 9 i (((up2 c 9 i (c 9 i + F * (nI s + 1))) 9 i) + ((up2 c 9 i (c 9 i + F * (nI s + 1))) 17 2)) fun h10 => put2 h10 12 i ((h10 12 i) + (1 : Int32)) fun h11 => bnd (xX1_endLoan i l h11) fun r12 h14 => bnd (xX1_offer l h14) fun r15 h17 => xX1_chargeOverdue_L4 n h17 (nI (T + 1)) (nI (i + 1)))) := by
          unfold xX1_chargeOverdue_L44
          rw [om_s, grd_eq (decide_eq_true (by omega)), f1, bnd_d, put2_d, a0]
          simp only [ltI_d, nI_1]
          rfl
        rw [if_neg (show ¬ nI (D + 1 - du) ≤ 0 from nI_nle (by omega) (by omega)), p6, show oI (some l) = nI l from rfl, c_lA_t g.1.2.2.2.1 hL hl, bnd_d, om_s, grd_eq (decide_eq_true (by omega)), cst]
        have rst : xX10_dayPasses_L87 (xX10_dayPasses_L59 n') h (nI T) (nI i) (nI (D + 1 - du)) = xX10_dayPasses_L112 (xX10_dayPasses_L59 n') h1' (nI T) (nI i) (nI (D + 1 - du)) := by
          unfold xX10_dayPasses_L87
          rw [if_neg (nI_nle (by omega) (by omega)), r_ofP0 (by omega), bnd_d, r6, show oI (some l) = nI l from rfl, r_of0 (by omega), bnd_d, b0, f2, bnd_d, e1, bnd_d]
        rw [rst]
        have w6 : ∀ x, (up2 c 9 i (c 9 i + F * (nI s + 1))) 6 x = c 6 x := fun x => up2_ne _ (by omega)
        have hWN1 : WN W (up2 c 9 i (c 9 i + F * (nI s + 1))) := fun e he => by rw [w6]; exact hWN e he
        have hXN1 : XN X (up2 c 9 i (c 9 i + F * (nI s + 1))) := fun e he => by rw [w6]; exact hXN e he
        have hBJ1 : BJ (up2 c 9 i (c 9 i + F * (nI s + 1))) := BJ_e hBJ (fun x _ => w6 x) (fun x _ => up2_ne _ (by omega))
        by_cases e21 : D + 1 - du = 21
        · rw [e21, if_neg (show ¬ nI 21 < (21 : Int32) by decide)]
          obtain ⟨sa, sb, se, s1, t1, sa1, sa2, s2, t2, sb1, s3, t3, se1⟩ := g1.1.2.2.2.2.2.2.2.2.2
          obtain ⟨h2', e2, g2, n2⟩ := s_owes (v := nI se) g1 hi
          have d12 : dec (kset h2' 12 i (dec h2' 12 i + 1)) = up2 (dec h2') 12 i (dec h2' 12 i + 1) := dec_kset (kv12 (by omega))
          rw [s3, put2_d, put2_d]
          generalize hc2 : up2 (up2 c 9 i (c 9 i + F * (nI s + 1))) 9 i (up2 c 9 i (c 9 i + F * (nI s + 1)) 9 i + nI se) = c2 at g2 ⊢
          have g3 : SR nL nP (D + 1) 0 B (Bi D i) W X (up2 c2 12 i (c2 12 i + 1)) (dec (kset h2' 12 i (dec h2' 12 i + 1))) := by
            rw [d12]
            exact SR_P g2 hi (by omega) (PR1_12 (g2.2.2.1.1 i hi))
          have w6' : ∀ x, (up2 c2 12 i (c2 12 i + 1)) 6 x = c 6 x := fun x => by rw [up2_ne _ (by omega), ← hc2, up2_ne _ (by omega), w6]
          obtain ⟨c4, h4, m1, m2, g4, f6, f01, n4⟩ := s_endLoan g3 hi hl (by rw [w6', p6]; rfl)
          have g5 : SR nL nP (D + 1) 0 B (Bi D (i + 1)) W (wo i X) c4 (dec h4) := SR_M g4 (fun l hl => Bi_ne hl) (fun _ => PR1_n (g4.2.2.1.1 i hi) (by rw [f6, if_pos rfl]) hL)
          have hWN3 : WN W (up2 c2 12 i (c2 12 i + 1)) := fun e he => by rw [w6']; exact hWN e he
          have hXN3 : XN X (up2 c2 12 i (c2 12 i + 1)) := fun e he => by rw [w6']; exact hXN e he
          have hBJ3 : BJ (up2 c2 12 i (c2 12 i + 1)) := BJ_e hBJ1 (fun x _ => by rw [w6', w6]) (fun x _ => by rw [up2_ne _ (by omega), ← hc2, up2_ne _ (by omega)])
          obtain ⟨c5, h5, W5, k1, k2, k3, k4, k5, k6, k7⟩ := s_offer g5 (WN_end hWN3 f6) (XN_end hXN3 f6) hl (fun p hp => by have := Bi_le (D := D) (i := i + 1) (l := p); omega)
          rw [m1, bnd_d, k1, bnd_d]
          unfold xX10_dayPasses_L112
          rw [if_pos (show nI 21 = (21 : Int32) from rfl), kg2, ks2 h1', t3, e2, bnd_d, r_ofP7 (by omega), bnd_d, r_layP7 _ (by omega), bnd_d, m2, bnd_d, k2, bnd_d, ltI_d, ltI_d, nI_1, nI_1]
          obtain ⟨T', c6, h6, W6, X6, y1, y2, y3, y4, y5, yb, y6⟩ := ih (T + 1) W5 _ c5 h5 k3 k4 k5 (k6.2 (BJ_end hBJ3 (by omega) (by omega) (by rw [w6', p6]; rfl) f6 f01.2))
          exact ⟨T', c6, h6, W6, X6, y1, y2, y3, y4, y5, yb, nz_t y6 (nz_t k7 (nz_t n4 (nz_t nz_k (nz_t n2 n1))))⟩
        · have hlt : D + 1 - du < 21 := by omega
          rw [if_pos (show nI (D + 1 - du) < (21 : Int32) from nI_lt (a := D + 1 - du) (b := 21) hlt (by omega))]
          unfold xX10_dayPasses_L112
          rw [if_neg (show ¬ nI (D + 1 - du) = (21 : Int32) from fun z => e21 ((nI_eq (a := D + 1 - du) (b := 21) (by omega) (by omega)).mp z)), ltI_d, nI_1 i]
          have g2 : SR nL nP (D + 1) 0 B (Bi D (i + 1)) W X (up2 c 9 i (c 9 i + F * (nI s + 1))) (dec h1') := SR_M g1 (fun l hl => Bi_ne hl) (fun _ => PR1_m (g1.2.2.1.1 i hi) (by rw [up2_ne _ (by omega), p7]) (by omega) (by rw [Bi_at]; omega))
          obtain ⟨T', c6, h6, W6, X6, y1, y2, y3, y4, y5, yb, y6⟩ := ih T W X _ h1' g2 hWN1 hXN1 hBJ1
          exact ⟨T', c6, h6, W6, X6, y1, y2, y3, y4, y5, yb, nz_t y6 n1⟩
theorem GS_day {nL nP D : Nat} {c k : zV2} (g : GS nL nP D c k) (h : D + 1 ≤ 5099) : GS nL nP (D + 1) (up2 c 15 0 (nI (D + 1))) (up2 k 15 0 (nI (D + 1))) := by
  obtain ⟨hL, hP, hD, c13, k13, c14, k14, c15, k15, sa, sb, se, s1, t1, sa1, sa2, s2, t2, sb1, s3, t3, se1⟩ := g
  refine ⟨hL, hP, h, ?_, ?_, ?_, ?_, up2_self _ _ _ _, up2_self _ _ _ _, sa, sb, se, ?_, ?_, sa1, sa2, ?_, ?_, sb1, ?_, ?_, se1⟩
  all_goals rw [up2_ne _ (by omega)]
  all_goals assumption
theorem s_day {nL nP D : Nat} {W X : List (Nat × Nat)} {c h : zV2} (g : SR nL nP D 0 (fun _ => D) (fun _ => D) W X c (dec h)) (hWN : WN W c) (hXN : XN X c) (hBJ : BJ c) (hD : D + 1 ≤ 5099) : ∃ T c1 c2 h' W' X', xX1_endClosing (up2 c 15 0 (nI (D + 1))) = some ((), c1) ∧ xX1_chargeOverdue c1 = some (nI T, c2) ∧ xX10_dayPasses h = some (nI T, h') ∧ SR nL nP (D + 1) 0 (fun _ => D + 1) (fun _ => D + 1) W' X' c2 (dec h') ∧ WN W' c2 ∧ XN X' c2 ∧ BJ c2 ∧ nz h' h := by
  have hL := g.1.1
  have hP := g.1.2.1
  have d1 : dec (kset h 15 0 (nI (D + 1))) = up2 (dec h) 15 0 (nI (D + 1)) := dec_kset kv15
  have g1 : SR nL nP (D + 1) 0 (Bi D 0) (fun _ => D) W X (up2 c 15 0 (nI (D + 1))) (dec (kset h 15 0 (nI (D + 1)))) := by
    rw [d1]
    obtain ⟨gS, gL, gP, gW, gX, gT⟩ := g
    refine ⟨GS_day gS hD, GL_fr (B := Bi D 0) ?_ (fun j h1 => up2_col _ _ _ (by omega)) (fun j h1 => up2_col _ _ _ (by omega)), GP_fr gP (fun j h1 h2 => up2_col _ _ _ (by omega)) (fun j h1 h2 => up2_col _ _ _ (by omega)), GW_fr gW (fun j h1 => up2_col _ _ _ (by omega)) (fun j h1 => up2_col _ _ _ (by omega)), GX_fr gX (fun j h1 => up2_col _ _ _ (by omega)) (fun j h1 => up2_col _ _ _ (by omega)), GT_fr gT (fun j h1 => up2_col _ _ _ (by omega)) (fun j h1 => up2_col _ _ _ (by omega))⟩
    exact gL
  obtain ⟨c1, h1, W1, e1, e2, e3, e4, e5, eb, e6⟩ := s_close hD nL 0 1000 1000 W _ _ g1 (fun e he => by rw [up2_ne _ (by omega)]; exact hWN e he) (fun e he => by rw [up2_ne _ (by omega)]; exact hXN e he) (BJ_e hBJ (fun p _ => up2_ne _ (by omega)) (fun l _ => up2_ne _ (by omega))) (by omega) (by omega) (by omega)
  obtain ⟨T, c2, h2, W2, X2, f1, f2, f3, f4, f5, fb, f6⟩ := s_charge (D := D) nP 0 0 1000 1000 W1 X c1 h1 (show SR nL nP (D + 1) 0 (Bi D nL) (Bi D 0) W1 X c1 (dec h1) from e3) e4 e5 eb (by omega) (by omega) (by omega)
  refine ⟨T, c1, c2, h2, W2, X2, e1, f1, ?_, ?_, f4, f5, fb, nz_t f6 (nz_t e6 nz_k)⟩
  · unfold xX10_dayPasses
    rw [kg3, kg3, kp3, ks3 h, g.1.2.2.2.2.2.2.2.2.1, nI_1]
    exact (e2.trans f2)
  · obtain ⟨gS, gL, gP, gR⟩ := f3
    refine ⟨gS, ⟨fun l hl => ?_, gL.2⟩, ⟨fun p hp => ?_, gP.2⟩, gR⟩
    · have := gL.1 l hl
      rwa [show Bi D nL l = D + 1 from if_pos hl] at this
    · have := gP.1 p hp
      rwa [show Bi D nP p = D + 1 from if_pos hp] at this
theorem s_days {nL nP N : Nat} {lim : Nat} {p1 p2 : Int32} (hp1 : p1 = nI N) (hN : N ≤ 99) (hlim : lim ≤ 5099) : ∀ (m t T D n n' : Nat) (W X : List (Nat × Nat)) (c h : zV2), SR nL nP D 0 (fun _ => D) (fun _ => D) W X c (dec h) → WN W c → XN X c → BJ c → D + m ≤ lim → t + m = N → m < n → m < n' → ∃ T' c' h', xX1_passDays_L31 p1 p2 n c (nI T) (nI t) = some (nI T', c') ∧ xX10_passDays_L4 p1 n' h (nI T) (nI t) = some (nI T', h') ∧ RN nL nP lim c' (dec h') ∧ nz h' h
  | m, t, T, D, n, 0, _, _, _, _, _, _, _, _, _, _, _, h => absurd h (by omega)
  | m, t, T, D, 0, n' + 1, _, _, _, _, _, _, _, _, _, _, h, _ => absurd h (by omega)
  | 0, t, T, D, n + 1, n' + 1, W, X, c, h, g, hWN, hXN, hBJ, h1, h2, h3, h4 => by
    refine ⟨T, c, h, ?_, ?_, ⟨D, W, X, by omega, g, hWN, hXN, hBJ⟩, nz_r _⟩
    · unfold xX1_passDays_L31
      rw [hp1, if_pos (nI_le (by omega) (by omega))]
    · unfold xX10_passDays_L4
      rw [hp1, if_pos (nI_le (by omega) (by omega))]
  | m + 1, t, T, D, n + 1, n' + 1, W, X, c, h, g, hWN, hXN, hBJ, h1, h2, h3, h4 => by
    have c15 := g.1.2.2.2.2.2.2.2.1
    obtain ⟨T1, c1, c2, h', W', X', e1, e2, e3, e4, e5, e6, eb, e7⟩ := s_day g hWN hXN hBJ (by omega)
    obtain ⟨T', c3, h3', r1, r2, r3, r4⟩ := s_days (p2 := p2) hp1 hN hlim m (t + 1) (T + T1) (D + 1) n n' W' X' c2 h' e4 e5 e6 eb (by omega) (by omega) (by omega) (by omega)
    refine ⟨T', c3, h3', ?_, ?_, r3, nz_t r4 e7⟩
    · unfold xX1_passDays_L31
      rw [if_neg (by rw [hp1]; exact nI_ge (by omega) (by omega)), put2_d, c15, nI_1, e1, bnd_d, e2, bnd_d, ltI_d, ltI_d, nI_add, nI_1]
      exact r1
    · unfold xX10_passDays_L4
      rw [if_neg (by rw [hp1]; exact nI_ge (by omega) (by omega)), e3, bnd_d, ltI_d, ltI_d, nI_add, nI_1]
      exact r2
theorem o_pass {c h : zV2} (p1 : Int32) (g : RR 5000 c (dec h)) : OP (xX1_passDays c p1 5000) (xX10_passes h p1) h 5000 := by
  have g0 := g
  obtain ⟨nL, nP, D, W, X, hD0, gg, hWN, hXN, hBJ⟩ := g
  have c15 := gg.1.2.2.2.2.2.2.2.1
  have k15 := gg.1.2.2.2.2.2.2.2.2.1
  unfold xX1_passDays xX10_passes
  by_cases h1 : p1 < 1
  · rw [if_pos h1, r_in_l h1]
    exact OP_s g0 rfl rfl
  · by_cases h2 : p1 ≤ 99
    · obtain ⟨N, hN, rfl⟩ : ∃ v, v ≤ 99 ∧ p1 = nI v := nI_of2 (M := 99) (n := 99) (by decide) (fun z => h1 (by
        rw [Int32.lt_iff_toInt_lt] at z ⊢
        have e0 : (0 : Int32).toInt = 0 := by decide
        have e1 : (1 : Int32).toInt = 1 := by decide
        omega)) h2
      rw [if_neg h1, if_pos h2, r_in_t h1 (fun z => nle_of_lt z h2), bnd_d, if_neg (show ¬ (1 : Int32) = 0 by decide), kg3, ks3 h, c15, k15, nI_add]
      by_cases h3 : nI (D + N) ≤ 5000
      · have h3' : D + N ≤ 5000 := (nI_leI (a := D + N) (b := 5000) (by omega) (by omega)).mp h3
        rw [if_pos h3, if_pos h3]
        obtain ⟨T', c', h', r1, r2, r3, r4⟩ := s_days (p2 := 5000) (lim := 5000) rfl hN (by omega) N 0 0 D 1000 1000 W X c h gg hWN hXN hBJ h3' (by omega) (by omega) (by omega)
        refine ⟨_, c', h', r1, ?_, RN_RR r3, r4⟩
        unfold xX10_passDays
        exact bnd_eq r2
      · rw [if_neg h3, if_neg h3]
        exact OP_s g0 rfl rfl
    · rw [if_neg h1, if_neg h2, r_in_g (lt_of_nle h2)]
      exact OP_s g0 rfl rfl
