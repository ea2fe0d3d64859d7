/-! pure part: loans and offers, both sides together -/
theorem up2_ne (h : zV2) {c i c' i' : Nat} {v : Int32} (hne : ¬ (c' = c ∧ i' = i)) : up2 h c i v c' i' = h c' i' := if_neg hne
def SR (nL nP D : Nat) (d : Int32) (B M : Nat → Nat) (W X : List (Nat × Nat)) (c k : zV2) : Prop :=
  GS nL nP D c k ∧ GL nL nP B c k ∧ GP nL nP M c k ∧ GW nP W c k ∧ GX nP X c k ∧ GT d c k
theorem LR1_h {nP b l : Nat} {c k c' k' : zV2} {ho' : Option Nat} (g : LR1 nP b c k l) (hc : ∀ i, i ≤ 4 → i ≠ 2 → c' i l = c i l) (hk : ∀ i, i ≤ 4 → i ≠ 2 → k' i l = k i l) (e2 : c' 2 l = oI ho') (f2 : k' 2 l = oI ho') (hh : ∀ p, ho' = some p → p < nP) (e5 : c' 5 l = k' 5 l) : LR1 nP b c' k' l := by
  obtain ⟨s, st, ho, sp, op, a0, b0, hs, a1, b1, a2, b2, _, a3, b3, a4, b4, h4, a5⟩ := g
  exact ⟨s, st, ho', sp, op, (hc 0 (by decide) (by decide)).trans a0, (hk 0 (by decide) (by decide)).trans b0, hs, (hc 1 (by decide) (by decide)).trans a1, (hk 1 (by decide) (by decide)).trans b1, e2, f2, hh, (hc 3 (by decide) (by decide)).trans a3, (hk 3 (by decide) (by decide)).trans b3, (hc 4 (by decide) (by decide)).trans a4, (hk 4 (by decide) (by decide)).trans b4, h4, e5⟩
theorem LR1_5 {nP b l : Nat} {c k : zV2} (g : LR1 nP b c k l) : c 5 l = k 5 l := by
  obtain ⟨s, st, ho, sp, op, a0, b0, hs, a1, b1, a2, b2, _, a3, b3, a4, b4, h4, a5⟩ := g
  exact a5
/-- a loan begins, on both sides -/
theorem s_begin {c h : zV2} {nL nP D p l : Nat} {d : Int32} {B M : Nat → Nat} {W X : List (Nat × Nat)} (g : SR nL nP D d B M W X c (dec h)) (hp : p < nP) (hl : l < nL) (hM : M p ≤ D + 20) : ∃ c' h', xX1_beginLoan p l c = some ((), c') ∧ xX10_beginsLoan h (nI p) (nI l) = some ((), h') ∧ SR nL nP D d B M W X c' (dec h') ∧ (∀ q, c' 6 q = if q = p then nI l else c 6 q) ∧ ((∀ i, i ≤ 1 → c' i = c i) ∧ ∀ q, c' 2 q = if q = l then nI p else c 2 q) ∧ nz h' h := by
  obtain ⟨gS, gL, gP, gW, gX, gT⟩ := g
  obtain ⟨hL, hP, hD, c13, k13, c14, k14, c15, k15, a, b, e, s1, t1, a1, a2, s2, t2, b1, s3, t3, e1⟩ := gS
  have hc : xX1_beginLoan p l c = some ((), up2 (up2 (up2 (up2 (up2 c 6 p (nI l)) 7 p (nI (D + a))) 8 p 0) 2 l (nI p)) 5 l (c 5 l + 1)) := by
    unfold xX1_beginLoan
    rw [put2_d, up2_c _ _ _ _ (show 15 ≠ 6 by decide), c15, up2_c _ _ _ _ (show 17 ≠ 6 by decide), show ((0 : Int32).toNatClampNeg) = 0 from rfl, s1, nI_add, show grd (inb (0 : Int32) 3) = id from rfl]
    rfl
  have hh : xX10_beginsLoan h (nI p) (nI l) = some ((), kset (kset (kset (kset (kset h 2 l (nI p)) 5 l (dec h 5 l + 1)) 6 p (nI l)) 7 p (nI (D + a))) 8 p 0) := by
    have x1 : dec (kset h 2 l (nI p)) 5 l = dec h 5 l := by rw [dec_kset (kv2 (by omega)), up2_c _ _ _ _ (by decide)]
    have x2 : dec (kset (kset (kset h 2 l (nI p)) 5 l (dec h 5 l + 1)) 6 p (nI l)) = up2 (up2 (up2 (dec h) 2 l (nI p)) 5 l (dec h 5 l + 1)) 6 p (nI l) := by
      rw [dec_kset (kv6 (by omega)), dec_kset (kv5 (by omega)), dec_kset (kv2 (by omega))]
    have x3 : dec (kset (kset (kset h 2 l (nI p)) 5 l (dec h 5 l + 1)) 6 p (nI l)) 15 0 = nI D := by
      rw [x2, up2_c _ _ _ _ (by decide), up2_c _ _ _ _ (by decide), up2_c _ _ _ _ (by decide), k15]
    have x4 : dec (kset (kset (kset h 2 l (nI p)) 5 l (dec h 5 l + 1)) 6 p (nI l)) 17 0 = nI a := by
      rw [x2, up2_c _ _ _ _ (by decide), up2_c _ _ _ _ (by decide), up2_c _ _ _ _ (by decide), t1]
    unfold xX10_beginsLoan xX10_has
    rw [r_lay2 _ (by omega), bnd_d, r_of5 (by omega), bnd_d, r_lay5 _ (by omega), bnd_d, r_layP0 _ (by omega), bnd_d, bnd_d, kg3, kg0, x1, ks3 (kset (kset (kset h 2 l (nI p)) 5 l (dec h 5 l + 1)) 6 p (nI l)), ks0 (kset (kset (kset h 2 l (nI p)) 5 l (dec h 5 l + 1)) 6 p (nI l)), x3, x4, nI_add, r_layP1 _ (by omega), bnd_d, r_layP2 _ (by omega), bnd_d]
  have dk : dec (kset (kset (kset (kset (kset h 2 l (nI p)) 5 l (dec h 5 l + 1)) 6 p (nI l)) 7 p (nI (D + a))) 8 p 0) = up2 (up2 (up2 (up2 (up2 (dec h) 2 l (nI p)) 5 l (dec h 5 l + 1)) 6 p (nI l)) 7 p (nI (D + a))) 8 p 0 := by
    rw [dec_kset (kv8 (by omega)), dec_kset (kv7 (by omega)), dec_kset (kv6 (by omega)), dec_kset (kv5 (by omega)), dec_kset (kv2 (by omega))]
  refine ⟨_, _, hc, hh, ?_, fun q => ?_, ⟨fun i hi => by rw [up2_col _ _ _ (by omega), up2_col _ _ _ (by omega), up2_col _ _ _ (by omega), up2_col _ _ _ (by omega), up2_col _ _ _ (by omega)], fun q => ?_⟩, nz_t nz_k (nz_t nz_k (nz_t nz_k (nz_t nz_k nz_k)))⟩
  · rw [dk]
    refine ⟨GS_fr ⟨hL, hP, hD, c13, k13, c14, k14, c15, k15, a, b, e, s1, t1, a1, a2, s2, t2, b1, s3, t3, e1⟩ (fun i h1 h2 h3 => ?_) (fun i h1 h2 h3 => ?_), GL_up gL hl (fun i q h1 h2 => ?_) (fun i q h1 h2 => ?_) ?_, GP_up gP hp (fun i q h1 h2 h3 => ?_) (fun i q h1 h2 h3 => ?_) ?_, GW_fr gW (fun i h1 => ?_) (fun i h1 => ?_), GX_fr gX (fun i h1 => ?_) (fun i h1 => ?_), GT_fr gT (fun i h1 => ?_) (fun i h1 => ?_)⟩
    · rw [up2_col _ _ _ (by omega), up2_col _ _ _ (by omega), up2_col _ _ _ (by omega), up2_col _ _ _ (by omega), up2_col _ _ _ (by omega)]
    · rw [up2_col _ _ _ (by omega), up2_col _ _ _ (by omega), up2_col _ _ _ (by omega), up2_col _ _ _ (by omega), up2_col _ _ _ (by omega)]
    · rw [up2_ne _ (by omega), up2_ne _ (by omega), up2_ne _ (by omega), up2_ne _ (by omega), up2_ne _ (by omega)]
    · rw [up2_ne _ (by omega), up2_ne _ (by omega), up2_ne _ (by omega), up2_ne _ (by omega), up2_ne _ (by omega)]
    · refine LR1_h (ho' := some p) (gL.1 l hl) (fun i h1 h2 => ?_) (fun i h1 h2 => ?_) ?_ ?_ (fun q hq => by cases hq; exact hp) ?_
      · rw [up2_ne _ (by omega), up2_ne _ (by omega), up2_ne _ (by omega), up2_ne _ (by omega), up2_ne _ (by omega)]
      · rw [up2_ne _ (by omega), up2_ne _ (by omega), up2_ne _ (by omega), up2_ne _ (by omega), up2_ne _ (by omega)]
      · rw [up2_ne _ (by omega), up2_self]
        rfl
      · rw [up2_ne _ (by omega), up2_ne _ (by omega), up2_ne _ (by omega), up2_ne _ (by omega), up2_self]
        rfl
      · rw [up2_self, up2_ne _ (by omega), up2_ne _ (by omega), up2_ne _ (by omega), up2_self, LR1_5 (gL.1 l hl)]
    · rw [up2_ne _ (by omega), up2_ne _ (by omega), up2_ne _ (by omega), up2_ne _ (by omega), up2_ne _ (by omega)]
    · rw [up2_ne _ (by omega), up2_ne _ (by omega), up2_ne _ (by omega), up2_ne _ (by omega), up2_ne _ (by omega)]
    · obtain ⟨lo, du, re, _, _, _, _, _, _, _, _, _, p9, p10, p11, p12⟩ := gP.1 p hp
      refine ⟨some l, D + a, 0, ?_, ?_, fun q hq => ?_, ?_, ?_, ?_, ?_, by omega, by omega, ?_, ?_, ?_, ?_⟩
      · rw [up2_ne _ (by omega), up2_ne _ (by omega), up2_ne _ (by omega), up2_ne _ (by omega), up2_self]
        rfl
      · rw [up2_ne _ (by omega), up2_ne _ (by omega), up2_self]
        rfl
      · cases hq
        exact ⟨hl, by omega⟩
      · rw [up2_ne _ (by omega), up2_ne _ (by omega), up2_ne _ (by omega), up2_self]
      · rw [up2_ne _ (by omega), up2_self]
      · rw [up2_ne _ (by omega), up2_ne _ (by omega), up2_self]
        rfl
      · rw [up2_self]
        rfl
      · rw [up2_ne _ (by omega), up2_ne _ (by omega), up2_ne _ (by omega), up2_ne _ (by omega), up2_ne _ (by omega), up2_ne _ (by omega), up2_ne _ (by omega), up2_ne _ (by omega), up2_ne _ (by omega), up2_ne _ (by omega), p9]
      · rw [up2_ne _ (by omega), up2_ne _ (by omega), up2_ne _ (by omega), up2_ne _ (by omega), up2_ne _ (by omega), up2_ne _ (by omega), up2_ne _ (by omega), up2_ne _ (by omega), up2_ne _ (by omega), up2_ne _ (by omega), p10]
      · rw [up2_ne _ (by omega), up2_ne _ (by omega), up2_ne _ (by omega), up2_ne _ (by omega), up2_ne _ (by omega), up2_ne _ (by omega), up2_ne _ (by omega), up2_ne _ (by omega), up2_ne _ (by omega), up2_ne _ (by omega), p11]
      · rw [up2_ne _ (by omega), up2_ne _ (by omega), up2_ne _ (by omega), up2_ne _ (by omega), up2_ne _ (by omega), up2_ne _ (by omega), up2_ne _ (by omega), up2_ne _ (by omega), up2_ne _ (by omega), up2_ne _ (by omega), p12]
    all_goals rw [up2_col _ _ _ (by omega), up2_col _ _ _ (by omega), up2_col _ _ _ (by omega), up2_col _ _ _ (by omega), up2_col _ _ _ (by omega)]
  · rw [up2_ne _ (by omega), up2_ne _ (by omega), up2_ne _ (by omega), up2_ne _ (by omega)]
    by_cases z : q = p
    · rw [if_pos z, z, up2_self]
    · rw [if_neg z, up2_ne _ (by omega)]
  · rw [up2_ne _ (by omega)]
    by_cases z : q = l
    · rw [if_pos z, z, up2_self]
    · rw [if_neg z, up2_ne _ (by omega), up2_ne _ (by omega), up2_ne _ (by omega), up2_ne _ (by omega)]
/-- what the lines' changes leave of the rest -/
theorem SR_W {c k c' k' : zV2} {nL nP D : Nat} {d : Int32} {B M : Nat → Nat} {W W' X : List (Nat × Nat)} (g : SR nL nP D d B M W X c k) (gW : GW nP W' c' k') (hc : lz 0 c' c) (hk : lz 0 k' k) : SR nL nP D d B M W' X c' k' := by
  obtain ⟨gS, gL, gP, _, gX, gT⟩ := g
  exact ⟨GS_fr gS (fun i h1 h2 h3 => hc i (by omega) (by omega) (by omega)) (fun i h1 h2 h3 => hk i (by omega) (by omega) (by omega)), GL_fr gL (fun i h1 => hc i (by omega) (by omega) (by omega)) (fun i h1 => hk i (by omega) (by omega) (by omega)), GP_fr gP (fun i h1 h2 => hc i (by omega) (by omega) (by omega)) (fun i h1 h2 => hk i (by omega) (by omega) (by omega)), gW, GX_fr gX (fun i h1 => hc i (by omega) (by omega) (by omega)) (fun i h1 => hk i (by omega) (by omega) (by omega)), GT_fr gT (fun i h1 => hc i (by omega) (by omega) (by omega)) (fun i h1 => hk i (by omega) (by omega) (by omega))⟩
theorem SR_X {c k c' k' : zV2} {nL nP D : Nat} {d : Int32} {B M : Nat → Nat} {W X X' : List (Nat × Nat)} (g : SR nL nP D d B M W X c k) (gX : GX nP X' c' k') (hc : lz 1 c' c) (hk : yz k' k) : SR nL nP D d B M W X' c' k' := by
  obtain ⟨gS, gL, gP, gW, _, gT⟩ := g
  exact ⟨GS_fr gS (fun i h1 h2 h3 => hc i (by omega) (by omega) (by omega)) (fun i h1 h2 h3 => hk i (by omega) (by omega) (by omega)), GL_fr gL (fun i h1 => hc i (by omega) (by omega) (by omega)) (fun i h1 => hk i (by omega) (by omega) (by omega)), GP_fr gP (fun i h1 h2 => hc i (by omega) (by omega) (by omega)) (fun i h1 h2 => hk i (by omega) (by omega) (by omega)), GW_fr gW (fun i h1 => hc i (by omega) (by omega) (by omega)) (fun i h1 => hk i (by omega) (by omega) (by omega)), gX, GT_fr gT (fun i h1 => hc i (by omega) (by omega) (by omega)) (fun i h1 => hk i (by omega) (by omega) (by omega))⟩
theorem SR_sz {c k : zV2} {nL nP D l : Nat} {d : Int32} {B M : Nat → Nat} {W X : List (Nat × Nat)} (g : SR nL nP D d B M W X c k) (hl : l < nL) : ∃ s, s ≤ 2 ∧ c 0 l = nI s ∧ k 0 l = nI s := by
  obtain ⟨s, st, ho, sp, op, a0, b0, hs, _⟩ := g.2.1.1 l hl
  exact ⟨s, hs, a0, b0⟩
/-- an offer, on both sides -/
theorem s_offer {c h : zV2} {nL nP D l : Nat} {d : Int32} {B M : Nat → Nat} {W X : List (Nat × Nat)} (g : SR nL nP D d B M W X c (dec h)) (hWN : WN W c) (hXN : XN X c) (hl : l < nL) (hM : ∀ p, p < nP → M p ≤ D + 20) : ∃ c' h' W', xX1_offer l c = some ((), c') ∧ xX10_frees h (nI l) = some ((), h') ∧ SR nL nP D d B M W' X c' (dec h') ∧ WN W' c' ∧ XN X c' ∧ ((∀ i, i ≤ 1 → c' i = c i) ∧ (BJ c → BJ c')) ∧ nz h' h := by
  have gS := g.1
  have gL := g.2.1
  have gW := g.2.2.2.1
  obtain ⟨s, hs, a0, b0⟩ := SR_sz g hl
  have hL := gS.1
  have hP := gS.2.1
  have hbW := bnL_of gW.2.2 hP (by omega)
  have c14 := gS.2.2.2.2.2.1
  obtain ⟨fb, e1, e2, ef⟩ := s_isFree hP (show l < 12 by omega) (gL.1 l hl)
  have ec : xX1_offer l c = optm (match fJ (fS s) W 0 with | none => none | some x => some x.2.1) (some ((), c)) (fun q7 => if bI fb = 0 then some ((), c) else bnd (xX3_remove 0 c (nI q7)) fun r12 h14 => bnd (xX1_beginLoan q7 l h14) fun r15 h17 => some ((), h17)) := by
    unfold xX1_offer
    rw [a0, c_firstFor gW.1 hbW (by omega), bnd_d]
    cases q : fJ (fS s) W 0 with
    | none =>
      rw [show oP none = (-1 : Int32) from rfl, c_pA_f c14 (Or.inl (by decide)), bnd_d]
      rfl
    | some x =>
      have hx := (gW.2.2.1 x.2 (List.mem_of_getElem? (fJ_get q).2.1)).1
      rw [show oP (some x) = nI x.2.1 from rfl, c_pA_t c14 hP hx, bnd_d, om_s, grd_eq (decide_eq_true (by omega)), e1, bnd_d]
      rfl
  rw [ec]
  unfold xX10_frees
  rw [e2, bnd_d, r_of0 (by omega), bnd_d, b0, r_firstW gW.2.1 hbW (by omega), bnd_d]
  cases fb with
  | false =>
    refine ⟨c, h, W, ?_, ?_, g, hWN, hXN, ⟨fun i _ => rfl, id⟩, nz_r _⟩
    · cases fJ (fS s) W 0 with
      | none => rfl
      | some x => rfl
    · rw [if_pos (by rfl)]
      unfold xX10_frees_L22
      rw [if_pos (by decide)]
  | true =>
    rw [if_neg (show ¬ bI true = 0 by decide)]
    cases q : fJ (fS s) W 0 with
    | none =>
      refine ⟨c, h, W, rfl, ?_, g, hWN, hXN, ⟨fun i _ => rfl, id⟩, nz_r _⟩
      unfold xX10_frees_L22
      rw [show oJ none = (-1 : Int32) from rfl, if_pos (by decide)]
    | some x =>
      obtain ⟨j, e⟩ := x
      have hj := (fJ_get q).2.1
      rw [Nat.sub_zero] at hj
      have hjl := (List.getElem?_eq_some_iff.mp hj).1
      have he := gW.2.2.1 e (List.mem_of_getElem? hj)
      have hlen := hbW.1
      have h19 : dec h 19 j = nI e.1 := (gW.2.1.2 j e hj).1
      obtain ⟨c1, h1, f1, f2, f3, f4, f5, f6⟩ := s_dropW gW hP hj
      have g1 := SR_W g f3 f4 f5
      obtain ⟨c2, h2, k1, k2, k3, k4, k01, k5⟩ := s_begin g1 he.1 hl (hM _ he.1)
      have c6 : c1 6 = c 6 := f4 6 (by decide) (by decide) (by decide)
      refine ⟨c2, h2, wo e.1 W, ?_, ?_, k3, ?_, ?_, ⟨fun i hi => (k01.1 i hi).trans (f4 i (by omega) (by omega) (by omega)), fun hb => ?_⟩, nz_t k5 f6⟩
      · simp only [om_s]
        rw [if_neg (show ¬ bI true = 0 by decide), f1, bnd_d, k1]
        rfl
      · unfold xX10_frees_L22
        rw [show oJ (some (j, e)) = nI j from rfl, if_neg (nI_pos (by omega)), ixW, grd_eq (inb_nI (by omega) (by omega)), nI_clamp (by omega), ← d19 (h := h) (i := j) (by omega), h19, ltI_d, f2, bnd_d, k2]
        rfl
      · intro x hx
        obtain ⟨m1, m2⟩ := wo_mem.mp hx
        rw [k4, if_neg m2, c6]
        exact hWN x m1
      · intro x hx
        rw [k4]
        by_cases z : x.1 = e.1
        · rw [if_pos z]
          exact nI_ne1 (by omega)
        · rw [if_neg z, c6]
          exact hXN x hx
      · have w6 := fu_of k4
        have w2 := fu_of k01.2
        unfold BJ at hb ⊢
        rw [w6, w2, c6, show c1 2 = c 2 from f4 2 (by decide) (by decide) (by decide)]
        exact bj_begin hb (by omega) (by omega) (hWN e (List.mem_of_getElem? hj)) (ef rfl)

/-- a loan ends, on both sides -/
theorem s_endLoan {c h : zV2} {nL nP D p l : Nat} {d : Int32} {B M : Nat → Nat} {W X : List (Nat × Nat)} (g : SR nL nP D d B M W X c (dec h)) (hp : p < nP) (hl : l < nL) (h6 : c 6 p = nI l) : ∃ c' h', xX1_endLoan p l c = some ((), c') ∧ xX10_endsLoan h (nI p) = some (nI l, h') ∧ SR nL nP D d B M W (wo p X) c' (dec h') ∧ (∀ q, c' 6 q = if q = p then -1 else c 6 q) ∧ ((∀ i, i ≤ 1 → c' i = c i) ∧ ∀ q, c' 2 q = if q = l then -1 else c 2 q) ∧ nz h' h := by
  obtain ⟨gS, gL, gP, gW, gX, gT⟩ := g
  have hL := gS.1
  have hP := gS.2.1
  have hk6 : dec h 6 p = nI l := by
    obtain ⟨lo, du, re, q6, r6, _⟩ := gP.1 p hp
    rw [r6, ← q6, h6]
  have dk : dec (kset (kset h 2 l (-1)) 6 p (-1)) = up2 (up2 (dec h) 2 l (-1)) 6 p (-1) := by
    rw [dec_kset (kv6 (by omega)), dec_kset (kv2 (by omega))]
  have g1 : SR nL nP D d B M W X (up2 (up2 c 6 p (-1)) 2 l (-1)) (dec (kset (kset h 2 l (-1)) 6 p (-1))) := by
    rw [dk]
    refine ⟨GS_fr gS (fun i h1 h2 h3 => ?_) (fun i h1 h2 h3 => ?_), GL_up gL hl (fun i q h1 h2 => ?_) (fun i q h1 h2 => ?_) ?_, GP_up gP hp (fun i q h1 h2 h3 => ?_) (fun i q h1 h2 h3 => ?_) ?_, GW_fr gW (fun i h1 => ?_) (fun i h1 => ?_), GX_fr gX (fun i h1 => ?_) (fun i h1 => ?_), GT_fr gT (fun i h1 => ?_) (fun i h1 => ?_)⟩
    · rw [up2_col _ _ _ (by omega), up2_col _ _ _ (by omega)]
    · rw [up2_col _ _ _ (by omega), up2_col _ _ _ (by omega)]
    · rw [up2_ne _ (by omega), up2_ne _ (by omega)]
    · rw [up2_ne _ (by omega), up2_ne _ (by omega)]
    · refine LR1_h (ho' := none) (gL.1 l hl) (fun i h1 h2 => ?_) (fun i h1 h2 => ?_) ?_ ?_ (fun q hq => by cases hq) ?_
      · rw [up2_ne _ (by omega), up2_ne _ (by omega)]
      · rw [up2_ne _ (by omega), up2_ne _ (by omega)]
      · rw [up2_self]
        rfl
      · rw [up2_ne _ (by omega), up2_self]
        rfl
      · rw [up2_ne _ (by omega), up2_ne _ (by omega), up2_ne _ (by omega), up2_ne _ (by omega), LR1_5 (gL.1 l hl)]
    · rw [up2_ne _ (by omega), up2_ne _ (by omega)]
    · rw [up2_ne _ (by omega), up2_ne _ (by omega)]
    · obtain ⟨lo, du, re, _, _, _, p7, r7, p8, r8, z1, z2, p9, p10, p11, p12⟩ := gP.1 p hp
      refine ⟨none, du, re, ?_, ?_, (fun q hq => by cases hq), ?_, ?_, ?_, ?_, z1, z2, ?_, ?_, ?_, ?_⟩
      · rw [up2_ne _ (by omega), up2_self]
        rfl
      · rw [up2_self]
        rfl
      · rw [up2_ne _ (by omega), up2_ne _ (by omega), p7]
      · rw [up2_ne _ (by omega), up2_ne _ (by omega), r7]
      · rw [up2_ne _ (by omega), up2_ne _ (by omega), p8]
      · rw [up2_ne _ (by omega), up2_ne _ (by omega), r8]
      · rw [up2_ne _ (by omega), up2_ne _ (by omega), up2_ne _ (by omega), up2_ne _ (by omega), p9]
      · rw [up2_ne _ (by omega), up2_ne _ (by omega), up2_ne _ (by omega), up2_ne _ (by omega), p10]
      · rw [up2_ne _ (by omega), up2_ne _ (by omega), up2_ne _ (by omega), up2_ne _ (by omega), p11]
      · rw [up2_ne _ (by omega), up2_ne _ (by omega), up2_ne _ (by omega), up2_ne _ (by omega), p12]
    all_goals rw [up2_col _ _ _ (by omega), up2_col _ _ _ (by omega)]
  obtain ⟨c2, h2, e1, e2, e3, e4, e5, e6⟩ := s_endWish g1.2.2.2.2.1 hP hp
  refine ⟨c2, h2, ?_, ?_, SR_X g1 e3 e4 e5, fun q => ?_, ⟨fun i hi => ?_, fun q => ?_⟩, nz_t e6 (nz_t nz_k nz_k)⟩
  · unfold xX1_endLoan
    rw [put2_d, put2_d, e1]
    rfl
  · unfold xX10_endsLoan
    rw [r_ofP0 (by omega), bnd_d, hk6, r_lay2 _ (by omega), bnd_d, r_layP0 _ (by omega), bnd_d, e2]
    rfl
  · rw [e4 6 (by decide) (by decide) (by decide), up2_ne _ (by omega)]
    by_cases z : q = p
    · rw [if_pos z, z, up2_self]
    · rw [if_neg z, up2_ne _ (by omega)]
  · rw [e4 i (by omega) (by omega) (by omega), up2_col _ _ _ (by omega), up2_col _ _ _ (by omega)]
  · rw [e4 2 (by decide) (by decide) (by decide)]
    by_cases z : q = l
    · rw [if_pos z, z, up2_self]
    · rw [if_neg z, up2_ne _ (by omega), up2_ne _ (by omega)]
/-- a debt, on both sides -/
theorem s_owes {c h : zV2} {nL nP D p : Nat} {d v : Int32} {B M : Nat → Nat} {W X : List (Nat × Nat)} (g : SR nL nP D d B M W X c (dec h)) (hp : p < nP) : ∃ h', xX10_owes h (nI p) v = some ((), h') ∧ SR nL nP D d B M W X (up2 c 9 p (c 9 p + v)) (dec h') ∧ nz h' h := by
  obtain ⟨gS, gL, gP, gW, gX, gT⟩ := g
  have hP := gS.2.1
  have d1 : dec (kset h 9 p (dec h 9 p + v)) 27 0 = dec h 27 0 := by rw [dec_kset (kv9 (by omega)), up2_c _ _ _ _ (by decide)]
  have dk : dec (kset (kset h 9 p (dec h 9 p + v)) 27 0 (dec h 27 0 + v)) = up2 (up2 (dec h) 9 p (dec h 9 p + v)) 27 0 (dec h 27 0 + v) := by
    rw [dec_kset kv27, dec_kset (kv9 (by omega))]
  refine ⟨kset (kset h 9 p (dec h 9 p + v)) 27 0 (dec h 27 0 + v), ?_, ?_, nz_t nz_k nz_k⟩
  · unfold xX10_owes
    rw [r_ofP3 (by omega), bnd_d, r_layP3 _ (by omega), bnd_d, kg9, kg9, kp9, ks9 (kset h 9 p (dec h 9 p + v)), d1]
  · rw [dk]
    refine ⟨GS_fr gS (fun i h1 h2 h3 => ?_) (fun i h1 h2 h3 => ?_), GL_fr gL (fun i h1 => ?_) (fun i h1 => ?_), GP_up gP hp (fun i q h1 h2 h3 => ?_) (fun i q h1 h2 h3 => ?_) ?_, GW_fr gW (fun i h1 => ?_) (fun i h1 => ?_), GX_fr gX (fun i h1 => ?_) (fun i h1 => ?_), ?_⟩
    · rw [up2_col _ _ _ (by omega)]
    · rw [up2_col _ _ _ (by omega), up2_col _ _ _ (by omega)]
    · rw [up2_col _ _ _ (by omega)]
    · rw [up2_col _ _ _ (by omega), up2_col _ _ _ (by omega)]
    · rw [up2_ne _ (by omega)]
    · rw [up2_ne _ (by omega), up2_ne _ (by omega)]
    · obtain ⟨lo, du, re, p6, r6, hlo, p7, r7, p8, r8, z1, z2, p9, p10, p11, p12⟩ := gP.1 p hp
      refine ⟨lo, du, re, ?_, ?_, hlo, ?_, ?_, ?_, ?_, z1, z2, ?_, ?_, ?_, ?_⟩
      · rw [up2_ne _ (by omega), p6]
      · rw [up2_ne _ (by omega), up2_ne _ (by omega), r6]
      · rw [up2_ne _ (by omega), p7]
      · rw [up2_ne _ (by omega), up2_ne _ (by omega), r7]
      · rw [up2_ne _ (by omega), p8]
      · rw [up2_ne _ (by omega), up2_ne _ (by omega), r8]
      · rw [up2_self, up2_ne _ (by omega), up2_self, p9]
      · rw [up2_ne _ (by omega), up2_ne _ (by omega), up2_ne _ (by omega), p10]
      · rw [up2_ne _ (by omega), up2_ne _ (by omega), up2_ne _ (by omega), p11]
      · rw [up2_ne _ (by omega), up2_ne _ (by omega), up2_ne _ (by omega), p12]
    · rw [up2_col _ _ _ (by omega)]
    · rw [up2_col _ _ _ (by omega), up2_col _ _ _ (by omega)]
    · rw [up2_col _ _ _ (by omega)]
    · rw [up2_col _ _ _ (by omega), up2_col _ _ _ (by omega)]
    · obtain ⟨t1, t2, t3, t4⟩ := gT
      refine ⟨?_, ?_, ?_, ?_⟩
      · rw [up2_col _ _ _ (by omega), up2_col _ _ _ (by omega), up2_col _ _ _ (by omega), t1]
      · rw [up2_col _ _ _ (by omega), up2_col _ _ _ (by omega), up2_col _ _ _ (by omega), t2]
      · rw [up2_self, up2_col (c := 9) (c' := 10) _ _ _ (by omega), sm_u (f := c 9) (p := p) (v := v) (by omega) (fun i hi => up2_ne _ (by omega)) (up2_self _ _ _ _), t3, Int32.add_assoc, Int32.add_assoc, Int32.add_comm v]
      · rw [up2_col _ _ _ (by omega), up2_col _ _ _ (by omega)]
        exact t4
/-- one goes to another locker, on both sides -/
theorem s_move {c h : zV2} {nL nP D p l : Nat} {d : Int32} {B M : Nat → Nat} {W X : List (Nat × Nat)} (g : SR nL nP D d B M W X c (dec h)) (hp : p < nP) (hl : l < nL) (h6 : c 6 p ≠ -1) : ∃ c' h', xX1_move (some l) c (nI p) = some ((), c') ∧ xX10_moves h (nI p) (nI l) = some ((), h') ∧ SR nL nP D (d + 1) B M W (wo p X) c' (dec h') ∧ (∀ q, c' 6 q = if q = p then nI l else c 6 q) ∧ ((∀ i, i ≤ 1 ∨ i = 18 → c' i = c i) ∧ ∀ q, c' 2 q = if q = l then nI p else c 2 q) ∧ nz h' h := by
  obtain ⟨gS, gL, gP, gW, gX, gT⟩ := g
  have hL := gS.1
  have hP := gS.2.1
  have x1 : dec (kset h 2 l (nI p)) 5 l = dec h 5 l := by rw [dec_kset (kv2 (by omega)), up2_c _ _ _ _ (by decide)]
  have dk : dec (kset (kset (kset h 2 l (nI p)) 5 l (dec h 5 l + 1)) 6 p (nI l)) = up2 (up2 (up2 (dec h) 2 l (nI p)) 5 l (dec h 5 l + 1)) 6 p (nI l) := by
    rw [dec_kset (kv6 (by omega)), dec_kset (kv5 (by omega)), dec_kset (kv2 (by omega))]
  have g1 : SR nL nP D d B M W X (up2 (up2 (up2 c 6 p (nI l)) 2 l (nI p)) 5 l (c 5 l + 1)) (dec (kset (kset (kset h 2 l (nI p)) 5 l (dec h 5 l + 1)) 6 p (nI l))) := by
    rw [dk]
    refine ⟨GS_fr gS (fun i h1 h2 h3 => ?_) (fun i h1 h2 h3 => ?_), GL_up gL hl (fun i q h1 h2 => ?_) (fun i q h1 h2 => ?_) ?_, GP_up gP hp (fun i q h1 h2 h3 => ?_) (fun i q h1 h2 h3 => ?_) ?_, GW_fr gW (fun i h1 => ?_) (fun i h1 => ?_), GX_fr gX (fun i h1 => ?_) (fun i h1 => ?_), GT_fr gT (fun i h1 => ?_) (fun i h1 => ?_)⟩
    · rw [up2_col _ _ _ (by omega), up2_col _ _ _ (by omega), up2_col _ _ _ (by omega)]
    · rw [up2_col _ _ _ (by omega), up2_col _ _ _ (by omega), up2_col _ _ _ (by omega)]
    · rw [up2_ne _ (by omega), up2_ne _ (by omega), up2_ne _ (by omega)]
    · rw [up2_ne _ (by omega), up2_ne _ (by omega), up2_ne _ (by omega)]
    · refine LR1_h (ho' := some p) (gL.1 l hl) (fun i h1 h2 => ?_) (fun i h1 h2 => ?_) ?_ ?_ (fun q hq => by cases hq; exact hp) ?_
      · rw [up2_ne _ (by omega), up2_ne _ (by omega), up2_ne _ (by omega)]
      · rw [up2_ne _ (by omega), up2_ne _ (by omega), up2_ne _ (by omega)]
      · rw [up2_ne _ (by omega), up2_self]
        rfl
      · rw [up2_ne _ (by omega), up2_ne _ (by omega), up2_self]
        rfl
      · rw [up2_self, up2_ne _ (by omega), up2_self, LR1_5 (gL.1 l hl)]
    · rw [up2_ne _ (by omega), up2_ne _ (by omega), up2_ne _ (by omega)]
    · rw [up2_ne _ (by omega), up2_ne _ (by omega), up2_ne _ (by omega)]
    · obtain ⟨lo, du, re, p6, r6, hlo, p7, r7, p8, r8, z1, z2, p9, p10, p11, p12⟩ := gP.1 p hp
      have hm : M p ≤ du + 20 := by
        cases lo with
        | none => exact absurd p6 h6
        | some x => exact (hlo x rfl).2
      refine ⟨some l, du, re, ?_, ?_, fun q hq => by cases hq; exact ⟨hl, hm⟩, ?_, ?_, ?_, ?_, z1, z2, ?_, ?_, ?_, ?_⟩
      · rw [up2_ne _ (by omega), up2_ne _ (by omega), up2_self]
        rfl
      · rw [up2_self]
        rfl
      · rw [up2_ne _ (by omega), up2_ne _ (by omega), up2_ne _ (by omega), p7]
      · rw [up2_ne _ (by omega), up2_ne _ (by omega), up2_ne _ (by omega), r7]
      · rw [up2_ne _ (by omega), up2_ne _ (by omega), up2_ne _ (by omega), p8]
      · rw [up2_ne _ (by omega), up2_ne _ (by omega), up2_ne _ (by omega), r8]
      · rw [up2_ne _ (by omega), up2_ne _ (by omega), up2_ne _ (by omega), up2_ne _ (by omega), up2_ne _ (by omega), up2_ne _ (by omega), p9]
      · rw [up2_ne _ (by omega), up2_ne _ (by omega), up2_ne _ (by omega), up2_ne _ (by omega), up2_ne _ (by omega), up2_ne _ (by omega), p10]
      · rw [up2_ne _ (by omega), up2_ne _ (by omega), up2_ne _ (by omega), up2_ne _ (by omega), up2_ne _ (by omega), up2_ne _ (by omega), p11]
      · rw [up2_ne _ (by omega), up2_ne _ (by omega), up2_ne _ (by omega), up2_ne _ (by omega), up2_ne _ (by omega), up2_ne _ (by omega), p12]
    all_goals rw [up2_col _ _ _ (by omega), up2_col _ _ _ (by omega), up2_col _ _ _ (by omega)]
  obtain ⟨c2, h2, e1, e2, e3, e4, e5, e6⟩ := s_endWish g1.2.2.2.2.1 hP hp
  have g2 := SR_X g1 e3 e4 e5
  have dk2 : dec (kset h2 16 0 (dec h2 16 0 + 1)) = up2 (dec h2) 16 0 (dec h2 16 0 + 1) := dec_kset kv16
  refine ⟨c2, kset h2 16 0 (dec h2 16 0 + 1), ?_, ?_, ?_, fun q => ?_, ⟨fun i hi => ?_, fun q => ?_⟩, nz_t nz_k (nz_t e6 (nz_t nz_k (nz_t nz_k nz_k)))⟩
  · unfold xX1_move
    rw [om_s, grd_eq (decide_eq_true (by omega)), c_pA_t gS.2.2.2.2.2.1 hP hp, bnd_d, om_s, grd_eq (decide_eq_true (by omega)), put2_d, put2_d, put2_d, up2_c _ _ _ _ (show 5 ≠ 2 by decide), up2_c _ _ _ _ (show 5 ≠ 6 by decide), e1]
    rfl
  · unfold xX10_moves xX10_has
    rw [r_lay2 _ (by omega), bnd_d, r_of5 (by omega), bnd_d, r_lay5 _ (by omega), bnd_d, r_layP0 _ (by omega), bnd_d, bnd_d, x1, e2, bnd_d, kg10, kg10, kp10, ks10 h2]
  · rw [dk2]
    obtain ⟨hS, hLL, hPP, hW, hX, t1, t2, t3, t4⟩ := g2
    refine ⟨GS_fr hS (fun i h1 h2 h3 => rfl) (fun i h1 h2 h3 => up2_col _ _ _ (by omega)), GL_fr hLL (fun i h1 => rfl) (fun i h1 => up2_col _ _ _ (by omega)), GP_fr hPP (fun i h1 h2 => rfl) (fun i h1 h2 => up2_col _ _ _ (by omega)), GW_fr hW (fun i h1 => rfl) (fun i h1 => up2_col _ _ _ (by omega)), GX_fr hX (fun i h1 => rfl) (fun i h1 => up2_col _ _ _ (by omega)), ?_, ?_, ?_, t4⟩
    · rw [up2_self, t1, Int32.add_assoc]
    · rw [up2_col _ _ _ (by omega), t2]
    · rw [up2_col _ _ _ (by omega), t3]
  · rw [e4 6 (by decide) (by decide) (by decide), up2_ne _ (by omega), up2_ne _ (by omega)]
    by_cases z : q = p
    · rw [if_pos z, z, up2_self]
    · rw [if_neg z, up2_ne _ (by omega)]
  · rw [e4 i (by omega) (by omega) (by omega), up2_col _ _ _ (by omega), up2_col _ _ _ (by omega), up2_col _ _ _ (by omega)]
  · rw [e4 2 (by decide) (by decide) (by decide), up2_ne _ (by omega)]
    by_cases z : q = l
    · rw [if_pos z, z, up2_self]
    · rw [if_neg z, up2_ne _ (by omega), up2_ne _ (by omega)]
