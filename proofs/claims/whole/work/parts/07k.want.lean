/-! pure part: settings, and who wants whose locker -/
theorem o_set1 {c h : zV2} {lim : Nat} (j lo hi : Nat) (p2 : Int32) (g : RR lim c (dec h)) (hj : j < 3) (hhi : hi ≤ 99) (hlh : lo ≤ hi)
    (hl : xX1_lowestSetting c (nI j) = some (nI lo, c)) (hh : xX1_highestSetting c (nI j) = some (nI hi, c)) (rl : xX10_least h (nI j) = some (nI lo, h)) (rh : xX10_most h (nI j) = some (nI hi, h))
    (hpost : ∀ nL nP D v, lo ≤ v → v ≤ hi → GS nL nP D c (dec h) → GS nL nP D (up2 c 17 j (nI v)) (up2 (dec h) 17 j (nI v))) (hold : c 17 j = dec h 17 j) : OP (xX1_changeSetting c (nI j) p2) (xX10_sets h (nI j) p2) h lim := by
  have g0 := g
  obtain ⟨nL, nP, D, W, X, hD0, gg, hWN, hXN, hBJ⟩ := g
  have gg0 := gg
  obtain ⟨gS, gL, gP, gW, gX, gT⟩ := gg
  unfold xX1_changeSetting xX10_sets
  rw [if_neg (nI_pos (by omega)), if_neg (show ¬ (3 : Int32) ≤ nI j from nI_ge (a := j) (b := 3) hj (by omega)), hl, bnd_d, r_in_t (nI_pos (by omega)) (show ¬ (2 : Int32) < nI j from nI_nlt (a := 2) (b := j) (by omega) (by omega)), bnd_d, if_neg (show ¬ (1 : Int32) = 0 by decide), rl, bnd_d, rh, bnd_d]
  by_cases h1 : p2 < nI lo
  · rw [if_pos h1, r_in_l h1]
    exact OP_s g0 rfl rfl
  · rw [if_neg h1, hh, bnd_d]
    by_cases h2 : p2 ≤ nI hi
    · obtain ⟨v, hv, rfl⟩ : ∃ v, v < 2 ^ 31 ∧ p2 = nI v := nI_of (fun z => h1 (by
        rw [Int32.lt_iff_toInt_lt] at z ⊢
        rw [nI_toInt (by omega)]
        have e0 : (0 : Int32).toInt = 0 := by decide
        omega))
      have v1 : lo ≤ v := by
        have : ¬ v < lo := fun z => h1 (nI_lt z (by omega))
        omega
      have v2 : v ≤ hi := (nI_leI (by omega) (by omega)).mp h2
      rw [if_pos h2, r_in_t h1 (fun z => nle_of_lt z h2), bnd_d, if_neg (show ¬ (1 : Int32) = 0 by decide), grd_eq (inb_nI (by omega) (by omega)), grd_eq (inb_nI (by omega) (by omega)), nI_clamp (by omega), ltI_d, put2_d, ltI_d, grd_eq (inb_nI (by omega) (by omega))]
      have d1 : dec (kset h 17 j (nI v)) = up2 (dec h) 17 j (nI v) := dec_kset (decide_eq_true hj)
      have w : h 0 j = dec h 17 j := (dec_at (c := 17) (i := j) (decide_eq_true hj)).symm
      refine ⟨c 17 j, up2 c 17 j (nI v), kset h 17 j (nI v), rfl, ?_, ⟨nL, nP, D, W, X, hD0, ?_, fun e he => ?_, fun e he => ?_, BJ_e hBJ (fun p _ => up2_ne _ (by omega)) (fun l _ => up2_ne _ (by omega))⟩, nz_k⟩
      · rw [w, ← hold, grd_eq (inb_nI (by omega) (by omega))]
        rfl
      · rw [d1]
        exact ⟨hpost nL nP D v v1 v2 gS, GL_fr gL (fun j h1 => up2_col _ _ _ (by omega)) (fun j h1 => up2_col _ _ _ (by omega)), GP_fr gP (fun j h1 h2 => up2_col _ _ _ (by omega)) (fun j h1 h2 => up2_col _ _ _ (by omega)), GW_fr gW (fun j h1 => up2_col _ _ _ (by omega)) (fun j h1 => up2_col _ _ _ (by omega)), GX_fr gX (fun j h1 => up2_col _ _ _ (by omega)) (fun j h1 => up2_col _ _ _ (by omega)), GT_fr gT (fun j h1 => up2_col _ _ _ (by omega)) (fun j h1 => up2_col _ _ _ (by omega))⟩
      · rw [up2_ne _ (by omega)]
        exact hWN e he
      · rw [up2_ne _ (by omega)]
        exact hXN e he
    · rw [if_neg h2, r_in_g (lt_of_nle h2)]
      exact OP_s g0 rfl rfl
theorem o_set {c h : zV2} {lim : Nat} (p1 p2 : Int32) (g : RR lim c (dec h)) : OP (xX1_changeSetting c p1 p2) (xX10_sets h p1 p2) h lim := by
  have g0 := g
  obtain ⟨nL, nP, D, W, X, hD0, gg, hWN, hXN, hBJ⟩ := g
  obtain ⟨hL, hP, hD, c13, k13, c14, k14, c15, k15, sa, sb, se, s1, t1, sa1, sa2, s2, t2, sb1, s3, t3, se1⟩ := gg.1
  rcases rg_in (x := p1) (M := 2) (n := 2) (by decide) with h1 | h1 | ⟨j, hj, rfl⟩
  · refine OP_s (r := -1) g0 ?_ ?_
    · unfold xX1_changeSetting
      rw [if_pos h1]
    · unfold xX10_sets
      rw [r_in_l (show p1 < (0 : Int32) from h1)]
      rfl
  · have h2 : ¬ p1 < 0 := fun z => by
      rw [Int32.lt_iff_toInt_lt] at z h1
      have e2 : (2 : Int32).toInt = 2 := by decide
      have e0 : (0 : Int32).toInt = 0 := by decide
      omega
    have h3 : (3 : Int32) ≤ p1 := by
      rw [Int32.lt_iff_toInt_lt] at h1
      rw [Int32.le_iff_toInt_le]
      have e2 : (2 : Int32).toInt = 2 := by decide
      have e0 : (3 : Int32).toInt = 3 := by decide
      omega
    refine OP_s (r := -1) g0 ?_ ?_
    · unfold xX1_changeSetting
      rw [if_neg h2, if_pos h3]
    · unfold xX10_sets
      rw [r_in_g h1]
      rfl
  · match j, hj with
    | 0, _ =>
      refine o_set1 0 1 60 p2 g0 (by decide) (by decide) (by decide) rfl rfl rfl rfl (fun nL nP D v v1 v2 q => ?_) (s1.trans t1.symm)
      obtain ⟨hL, hP, hD, c13, k13, c14, k14, c15, k15, sa, sb, se, s1, t1, sa1, sa2, s2, t2, sb1, s3, t3, se1⟩ := q
      refine ⟨hL, hP, hD, ?_, ?_, ?_, ?_, ?_, ?_, v, sb, se, up2_self _ _ _ _, up2_self _ _ _ _, v1, v2, ?_, ?_, sb1, ?_, ?_, se1⟩
      all_goals rw [up2_ne _ (by omega)]
      all_goals assumption
    | 1, _ =>
      refine o_set1 1 0 5 p2 g0 (by decide) (by decide) (by decide) rfl rfl rfl rfl (fun nL nP D v v1 v2 q => ?_) (s2.trans t2.symm)
      obtain ⟨hL, hP, hD, c13, k13, c14, k14, c15, k15, sa, sb, se, s1, t1, sa1, sa2, s2, t2, sb1, s3, t3, se1⟩ := q
      refine ⟨hL, hP, hD, ?_, ?_, ?_, ?_, ?_, ?_, sa, v, se, ?_, ?_, sa1, sa2, up2_self _ _ _ _, up2_self _ _ _ _, v2, ?_, ?_, se1⟩
      all_goals rw [up2_ne _ (by omega)]
      all_goals assumption
    | 2, _ =>
      refine o_set1 2 0 99 p2 g0 (by decide) (by decide) (by decide) rfl rfl rfl rfl (fun nL nP D v v1 v2 q => ?_) (s3.trans t3.symm)
      obtain ⟨hL, hP, hD, c13, k13, c14, k14, c15, k15, sa, sb, se, s1, t1, sa1, sa2, s2, t2, sb1, s3, t3, se1⟩ := q
      refine ⟨hL, hP, hD, ?_, ?_, ?_, ?_, ?_, ?_, sa, sb, v, ?_, ?_, sa1, sa2, ?_, ?_, sb1, up2_self _ _ _ _, up2_self _ _ _ _, v2⟩
      all_goals rw [up2_ne _ (by omega)]
      all_goals assumption
/-! who wants whose locker -/
def wB (X : List (Nat × Nat)) (f6 f0 : Nat → Int32) (p q : Nat) : Bool := decide (f6 q ≠ -1) && decide (szI X p = f0 (f6 q).toNatClampNeg)
def e18 (c' c : zV2) : Prop := ∀ i, i ≠ 18 → c' i = c i
theorem e18_r (c : zV2) : e18 c c := fun _ _ => rfl
theorem e18_t {a b c : zV2} (h1 : e18 a b) (h2 : e18 b c) : e18 a c := fun i hi => (h1 i hi).trans (h2 i hi)
theorem e18_u (c : zV2) (j : Nat) (v : Int32) : e18 (up2 c 18 j v) c := fun i hi => up2_col _ _ _ hi
theorem SR_18 {nL nP D : Nat} {d : Int32} {B M : Nat → Nat} {W X : List (Nat × Nat)} {c k c' : zV2} (g : SR nL nP D d B M W X c k) (e : e18 c' c) : SR nL nP D d B M W X c' k := by
  obtain ⟨gS, gL, gP, gW, gX, gT⟩ := g
  exact ⟨GS_fr gS (fun j h1 h2 h3 => e j (by omega)) (fun j h1 h2 h3 => rfl), GL_fr gL (fun j h1 => e j (by omega)) (fun j h1 => rfl), GP_fr gP (fun j h1 h2 => e j (by omega)) (fun j h1 h2 => rfl), GW_fr gW (fun j h1 => e j (by omega)) (fun j h1 => rfl), GX_fr gX (fun j h1 => e j (by omega)) (fun j h1 => rfl), GT_fr gT (fun j h1 => e j (by omega)) (fun j h1 => rfl)⟩
theorem szI_neg {nP ms p : Nat} {X : List (Nat × Nat)} (h : WV nP ms X) (hm : ms ≤ 3) : szI X p < 0 ↔ szI X p = -1 := by
  by_cases e : szI X p = -1
  · simp [e]
  · obtain ⟨j, s, hj, hs⟩ := szI_some e
    have := (h.1 _ (List.mem_of_getElem? hj)).2
    rw [hs]
    exact ⟨fun z => absurd z (nI_pos (by simp at this; omega)), fun z => absurd z (nI_ne1 (by simp at this; omega))⟩
theorem szI_out {nP ms p : Nat} {X : List (Nat × Nat)} (h : WV nP ms X) (hp : nP ≤ p) : szI X p = -1 := szI_no (fun e he z => by have := (h.1 e he).1; omega)
theorem lo_of {nL nP m p : Nat} {M : Nat → Nat} {c k : zV2} (g : GP nL nP M c k) (hp : p < 10) : ∃ o : Option Nat, c 6 p = oI o ∧ (∀ l, o = some l → l < nL ∧ p < nP) := by
  by_cases h : p < nP
  · obtain ⟨lo, du, re, p6, r6, hlo, _⟩ := g.1 p h
    exact ⟨lo, p6, fun l e => ⟨(hlo l e).1, h⟩⟩
  · exact ⟨none, (g.2 p (by omega) hp).1, fun l e => by cases e⟩
theorem c_wants {nL nP D p q : Nat} {d : Int32} {B M : Nat → Nat} {W X : List (Nat × Nat)} {c k : zV2} (g : SR nL nP D d B M W X c k) (hp : p < 10) (hq : q < 10) : xX1_wants p q c = some (bI (wB X (c 6) (c 0) p q), c) := by
  have hL := g.1.1
  have hP := g.1.2.1
  have hbX := bnL_of g.2.2.2.2.1.2.2.2.2 hP (by omega)
  obtain ⟨o, e1, e2⟩ := lo_of (m := 0) g.2.2.1 hq
  unfold xX1_wants
  rw [e1, c_lA_o g.1.2.2.2.1 hL (fun l e => (e2 l e).1), bnd_d]
  unfold wB
  rw [e1]
  cases o with
  | none => rfl
  | some l =>
    have hl := (e2 l rfl).1
    rw [om_s, grd_eq (decide_eq_true (by omega)), c_sizeOf g.2.2.2.2.1.1 hbX hp, bnd_d, fJ_szI, show oI (some l) = nI l from rfl, nI_clamp (by omega), decide_eq_true (show nI l ≠ -1 from nI_ne1 (by omega)), Bool.true_and]
    by_cases z : szI X p = c 0 l
    · rw [if_pos z, decide_eq_true z]
      rfl
    · rw [if_neg z, decide_eq_false z]
      rfl
def wR (X : List (Nat × Nat)) (f6 f0 : Nat → Int32) (p q : Nat) : Bool := decide (p ≠ q) && (decide (szI X q ≠ -1) && wB X f6 f0 p q)
theorem wB_sz {nL nP D p q : Nat} {d : Int32} {B M : Nat → Nat} {W X : List (Nat × Nat)} {c k : zV2} (g : SR nL nP D d B M W X c k) (hq : q < 10) (h : wB X (c 6) (c 0) p q = true) : szI X p ≠ -1 ∧ c 6 q ≠ -1 ∧ q < nP ∧ p < nP := by
  have hL := g.1.1
  obtain ⟨o, e1, e2⟩ := lo_of (m := 0) g.2.2.1 hq
  unfold wB at h
  simp only [Bool.and_eq_true, decide_eq_true_eq] at h
  obtain ⟨h1, h2⟩ := h
  cases o with
  | none => exact absurd e1 h1
  | some l =>
    obtain ⟨hl, hqn⟩ := e2 l rfl
    obtain ⟨s, hs, a0, b0⟩ := SR_sz g hl
    rw [e1, show oI (some l) = nI l from rfl, nI_clamp (by omega), a0] at h2
    have h3 : szI X p ≠ -1 := by rw [h2]; exact nI_ne1 (by omega)
    refine ⟨h3, h1, hqn, ?_⟩
    obtain ⟨j, t, hj, _⟩ := szI_some h3
    exact (g.2.2.2.2.1.2.2.2.2.1 _ (List.mem_of_getElem? hj)).1
theorem r_wants {nL nP D p q : Nat} {d : Int32} {B M : Nat → Nat} {W X : List (Nat × Nat)} {c h : zV2} (g : SR nL nP D d B M W X c (dec h)) (hXN : XN X c) (hp : p < nP) (hq : q < nP) : xX10_wants h (nI p) (nI q) = some (bI (wR X (c 6) (c 0) p q), h) := by
  have hL := g.1.1
  have hP := g.1.2.1
  have hWV := g.2.2.2.2.1.2.2.2.2
  have k25 := g.2.2.2.2.1.2.2.2.1
  unfold xX10_wants wR
  by_cases e : p = q
  · rw [if_pos (by rw [e]), decide_eq_false (show ¬ p ≠ q from fun z => z e)]
    rfl
  · rw [if_neg (fun z => e ((nI_eq (by omega) (by omega)).mp z)), decide_eq_true e, Bool.true_and, r_ofP5 (by omega), bnd_d, k25 p hp]
    by_cases e1 : szI X p = -1
    · rw [if_pos ((szI_neg hWV (by omega)).mpr e1)]
      cases z : wB X (c 6) (c 0) p q with
      | true => exact absurd e1 (wB_sz g (by omega) z).1
      | false => rw [Bool.and_false]; rfl
    · rw [if_neg (fun z => e1 ((szI_neg hWV (by omega)).mp z)), r_ofP5 (by omega), bnd_d, k25 q hq]
      by_cases e2 : szI X q = -1
      · rw [if_pos ((szI_neg hWV (by omega)).mpr e2), decide_eq_false (show ¬ szI X q ≠ -1 from fun z => z e2)]
        rfl
      · obtain ⟨j, s, hj, hs⟩ := szI_some e2
        have h6 := hXN _ (List.mem_of_getElem? hj)
        obtain ⟨lo, du, re, p6, r6, hlo, _⟩ := g.2.2.1.1 q hq
        rw [if_neg (fun z => e2 ((szI_neg hWV (by omega)).mp z)), r_ofP5 (by omega), bnd_d, k25 p hp, r_ofP0 (by omega), bnd_d, r6, decide_eq_true e2, Bool.true_and]
        unfold wB
        rw [p6]
        cases lo with
        | none => exact absurd p6 h6
        | some l =>
          have hl := (hlo l rfl).1
          obtain ⟨s', hs', a0, b0⟩ := SR_sz g hl
          rw [show oI (some l) = nI l from rfl, r_of0 (by omega), bnd_d, nI_clamp (by omega), decide_eq_true (show nI l ≠ -1 from nI_ne1 (by omega)), Bool.true_and, a0, b0]
          by_cases z : szI X p = nI s'
          · rw [if_pos z, decide_eq_true z]
            rfl
          · rw [if_neg z, decide_eq_false z]
            rfl
