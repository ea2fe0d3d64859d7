/-! pure part: the ring, searched on both sides -/
theorem bI_t {b : Bool} (h : b = true) : ¬ bI b = 0 := by rw [h]; decide
theorem bI_f {b : Bool} (h : b = false) : bI b = 0 := by rw [h]; rfl
abbrev zRing : Type := Option (Nat × Nat × Option Nat)
def okR (nP : Nat) (X : List (Nat × Nat)) : zRing → Prop
  | none => True
  | some (a, b, none) => a < nP ∧ b < nP ∧ a ≠ b ∧ szI X a ≠ -1 ∧ szI X b ≠ -1
  | some (a, b, some r) => a < nP ∧ b < nP ∧ a ≠ b ∧ szI X a ≠ -1 ∧ szI X b ≠ -1 ∧ r < nP ∧ r ≠ a ∧ r ≠ b ∧ szI X r ≠ -1
def ringC (c : zV2) (x : Option (Int32 × zV2)) : zRing → Prop
  | none => ∃ c', x = some (0, c') ∧ e18 c' c
  | some (a, b, none) => ∃ c', x = some (2, c') ∧ e18 c' c ∧ c' 18 0 = nI a ∧ c' 18 1 = nI b
  | some (a, b, some r) => ∃ c', x = some (3, c') ∧ e18 c' c ∧ c' 18 0 = nI a ∧ c' 18 1 = nI b ∧ c' 18 2 = nI r
def ringH (h : zV2) (y : Option (Int32 × zV2)) : zRing → Prop
  | none => y = some (0, h)
  | some (a, b, o) => y = bnd (xX10_goesRound h (nI a) (nI b) (oI o)) fun r9 h11 => some (r9, h11)
theorem ringC_e {c c' : zV2} {x : Option (Int32 × zV2)} {o : zRing} (g : ringC c' x o) (e : e18 c' c) : ringC c x o := by
  match o, g with
  | none, ⟨d, h1, h2⟩ => exact ⟨d, h1, e18_t h2 e⟩
  | some (a, b, none), ⟨d, h1, h2, h3⟩ => exact ⟨d, h1, e18_t h2 e, h3⟩
  | some (a, b, some r), ⟨d, h1, h2, h3⟩ => exact ⟨d, h1, e18_t h2 e, h3⟩
theorem wB_18 {X : List (Nat × Nat)} {c c' : zV2} {p q : Nat} (e : e18 c' c) : wB X (c' 6) (c' 0) p q = wB X (c 6) (c 0) p q := by
  rw [e 6 (by decide), e 0 (by decide)]
/-- past the last person nobody wants anything -/
theorem c_ring79e {nL nP D p q : Nat} {d : Int32} {B M : Nat → Nat} {W X : List (Nat × Nat)} {c k : zV2} {K2 : zV2 → Int32 → Option (Int32 × zV2)} {K12 : zV2 → Int32 → Int32 → Option (Int32 × zV2)} (g : SR nL nP D d B M W X c k) (hp : p < 10) (hq : q < 10) : ∀ (m i n : Nat), (∀ j, i ≤ j → j < 10 → j = q ∨ wB X (c 6) (c 0) q j = false ∨ wB X (c 6) (c 0) j p = false) → i + m = 10 → m < n → xX1_findRing_L79 K2 K12 n c (nI p) (nI q) (nI i) = K12 c (nI p) (nI (q + 1))
  | m, i, 0, _, _, h => absurd h (by omega)
  | 0, i, n + 1, hw, h1, h2 => by
    unfold xX1_findRing_L79
    rw [if_pos (show (10 : Int32) ≤ nI i from nI_le (a := 10) (b := i) (by omega) (by omega)), ltI_d, nI_1]
  | m + 1, i, n + 1, hw, h1, h2 => by
    have ih := c_ring79e (K2 := K2) (K12 := K12) g hp hq m (i + 1) n (fun j h3 h4 => hw j (by omega) h4) (by omega) (by omega)
    unfold xX1_findRing_L79
    rw [if_neg (show ¬ (10 : Int32) ≤ nI i from nI_ge (a := i) (b := 10) (by omega) (by omega))]
    simp only [ltI_d, nI_1]
    by_cases e : i = q
    · rw [if_pos (by rw [e])]
      exact ih
    · rw [if_neg (fun z => e ((nI_eq (by omega) (by omega)).mp z)), grd_eq (inb_nI (by omega) (by omega)), grd_eq (inb_nI (by omega) (by omega)), nI_clamp (by omega), nI_clamp (by omega), c_wants g hq (by omega), bnd_d]
      cases z : wB X (c 6) (c 0) q i with
      | false =>
        rw [if_pos (bI_f rfl)]
        exact ih
      | true =>
        rw [if_neg (bI_t rfl), grd_eq (inb_nI (by omega) (by omega)), grd_eq (inb_nI (by omega) (by omega)), nI_clamp (by omega), c_wants g (by omega) hp, bnd_d, bI_f ((hw i (Nat.le_refl _) (by omega)).resolve_left e |>.resolve_left (by rw [z]; decide)), if_pos rfl]
        exact ih
theorem wB_out {nL nP D p q : Nat} {d : Int32} {B M : Nat → Nat} {W X : List (Nat × Nat)} {c k : zV2} (g : SR nL nP D d B M W X c k) (hq : q < 10) (h : nP ≤ q ∨ nP ≤ p) : wB X (c 6) (c 0) p q = false := by
  cases z : wB X (c 6) (c 0) p q with
  | false => rfl
  | true =>
    obtain ⟨_, _, h3, h4⟩ := wB_sz g hq z
    omega
/-- the third of a ring, searched on both sides -/
theorem s_third {nL nP D p q : Nat} {d : Int32} {B M : Nat → Nat} {W X : List (Nat × Nat)} {c h : zV2} {K2 : zV2 → Int32 → Option (Int32 × zV2)} {K12 : zV2 → Int32 → Int32 → Option (Int32 × zV2)} (g : SR nL nP D d B M W X c (dec h)) (hXN : XN X c) (hp : p < nP) (hq : q < nP) (sp : szI X p ≠ -1) : ∀ (m i n n' : Nat), p < i → i + m = nP → m + (10 - nP) < n → m < n' → ∃ o : Option Nat, xX10_thirdOf_L27 (nI p) (nI q) n' h (nI i) = some ((match o with | none => -4 | some r => nI r), h) ∧ (match o with | none => xX1_findRing_L79 K2 K12 n c (nI p) (nI q) (nI i) = K12 c (nI p) (nI (q + 1)) | some r => xX1_findRing_L79 K2 K12 n c (nI p) (nI q) (nI i) = some (3, up2 c 18 2 (nI r)) ∧ r < nP ∧ r ≠ p ∧ r ≠ q ∧ szI X r ≠ -1)
  | m, i, n, 0, _, _, _, h => absurd h (by omega)
  | m, i, 0, n' + 1, _, _, h, _ => absurd h (by omega)
  | 0, i, n + 1, n' + 1, h0, h1, h2, h3 => by
    have hP := g.1.2.1
    refine ⟨none, ?_, ?_⟩
    · unfold xX10_thirdOf_L27
      rw [kg5, ks5 h, g.1.2.2.2.2.2.2.1, if_pos (nI_le (by omega) (by omega))]
    · exact c_ring79e g (by omega) (by omega) (10 - i) i (n + 1) (fun j h4 h5 => Or.inr (Or.inl (wB_out g h5 (by omega)))) (by omega) (by omega)
  | m + 1, i, n + 1, n' + 1, h0, h1, h2, h3 => by
    have hP := g.1.2.1
    have ih := s_third (K2 := K2) (K12 := K12) g hXN hp hq sp m (i + 1) n n' (by omega) (by omega) (by omega) (by omega)
    unfold xX10_thirdOf_L27 xX1_findRing_L79
    rw [kg5, ks5 h, g.1.2.2.2.2.2.2.1, if_neg (nI_ge (by omega) (by omega)), if_neg (show ¬ (10 : Int32) ≤ nI i from nI_ge (a := i) (b := 10) (by omega) (by omega)), r_wants g hXN hq (by omega), bnd_d]
    simp only [ltI_d, nI_1]
    by_cases e : i = q
    · rw [if_pos (show nI i = nI q by rw [e]), bI_f (show wR X (c 6) (c 0) q i = false by unfold wR; rw [decide_eq_false (show ¬ q ≠ i from fun z => z e.symm)]; rfl), if_pos rfl]
      exact ih
    · rw [if_neg (show ¬ nI i = nI q from fun z => e ((nI_eq (by omega) (by omega)).mp z)), grd_eq (inb_nI (by omega) (by omega)), grd_eq (inb_nI (by omega) (by omega)), nI_clamp (by omega), nI_clamp (by omega), c_wants g (by omega) (by omega), bnd_d]
      have ew : wR X (c 6) (c 0) q i = (decide (szI X i ≠ -1) && wB X (c 6) (c 0) q i) := by
        unfold wR
        rw [decide_eq_true (show q ≠ i from fun z => e z.symm), Bool.true_and]
      cases z : wB X (c 6) (c 0) q i with
      | false =>
        rw [if_pos (show bI false = 0 from rfl), bI_f (show wR X (c 6) (c 0) q i = false by rw [ew, z, Bool.and_false]), if_pos rfl]
        exact ih
      | true =>
        rw [if_neg (show ¬ bI true = 0 by decide), grd_eq (inb_nI (by omega) (by omega)), grd_eq (inb_nI (by omega) (by omega)), nI_clamp (by omega), c_wants g (by omega) (by omega), bnd_d]
        cases z2 : wB X (c 6) (c 0) i p with
        | false =>
          rw [if_pos (show bI false = 0 from rfl)]
          by_cases z3 : szI X i = -1
          · rw [bI_f (show wR X (c 6) (c 0) q i = false by rw [ew, decide_eq_false (show ¬ szI X i ≠ -1 from fun y => y z3), Bool.false_and]), if_pos rfl]
            exact ih
          · rw [if_neg (bI_t (show wR X (c 6) (c 0) q i = true by rw [ew, z, decide_eq_true z3]; rfl)), r_wants g hXN (by omega) hp, bnd_d, bI_f (show wR X (c 6) (c 0) i p = false by unfold wR; rw [z2, Bool.and_false, Bool.and_false]), if_pos rfl]
            exact ih
        | true =>
          have z3 := (wB_sz g (by omega) z2).1
          rw [if_neg (show ¬ bI true = 0 by decide), if_neg (bI_t (show wR X (c 6) (c 0) q i = true by rw [ew, z, decide_eq_true z3]; rfl)), r_wants g hXN (by omega) hp, bnd_d, if_neg (bI_t (show wR X (c 6) (c 0) i p = true by unfold wR; rw [z2, decide_eq_true (show i ≠ p by omega), decide_eq_true sp]; rfl))]
          exact ⟨some i, rfl, rfl, by omega, by omega, e, z3⟩
theorem c_ring12e {nL nP D p : Nat} {d : Int32} {B M : Nat → Nat} {W X : List (Nat × Nat)} {c k : zV2} {K2 : zV2 → Int32 → Option (Int32 × zV2)} (g : SR nL nP D d B M W X c k) (hp : p < 10) : ∀ (m q n : Nat), nP ≤ q ∨ nP ≤ p → q + m = 10 → m < n → xX1_findRing_L12 K2 n c (nI p) (nI q) = K2 c (nI (p + 1))
  | m, q, 0, _, _, h => absurd h (by omega)
  | 0, q, n + 1, h0, h1, h2 => by
    unfold xX1_findRing_L12
    rw [if_pos (show (10 : Int32) ≤ nI q from nI_le (a := 10) (b := q) (by omega) (by omega)), ltI_d, nI_1]
  | m + 1, q, n + 1, h0, h1, h2 => by
    have ih := c_ring12e (K2 := K2) g hp m (q + 1) n (by omega) (by omega) (by omega)
    unfold xX1_findRing_L12
    rw [if_neg (show ¬ (10 : Int32) ≤ nI q from nI_ge (a := q) (b := 10) (by omega) (by omega)), grd_eq (inb_nI (by omega) (by omega)), grd_eq (inb_nI (by omega) (by omega)), nI_clamp (by omega), nI_clamp (by omega), c_wants g hp (by omega), bnd_d, bI_f (wB_out g (by omega) h0), if_pos rfl, ltI_d, nI_1]
    exact ih
/-- for one first person: the second, searched on both sides -/
theorem s_ring12 {nL nP D p : Nat} {d : Int32} {B M : Nat → Nat} {W X : List (Nat × Nat)} {c0 h : zV2} {K2 K2' : zV2 → Int32 → Option (Int32 × zV2)} (g0 : SR nL nP D d B M W X c0 (dec h)) (hXN0 : XN X c0) (hp : p < nP)
    (hK : ∀ c, e18 c c0 → ∃ o, okR nP X o ∧ ringC c0 (K2 c (nI (p + 1))) o ∧ ringH h (K2' h (nI (p + 1))) o) : ∀ (m q n n' : Nat) (c : zV2), e18 c c0 → p < q → q + m = nP → m + (10 - nP) < n → m < n' → ∃ o, okR nP X o ∧ ringC c0 (xX1_findRing_L12 K2 n c (nI p) (nI q)) o ∧ ringH h (xX10_takesRing_L16 K2' n' h (nI p) (nI q)) o
  | m, q, n, 0, _, _, _, _, _, h => absurd h (by omega)
  | m, q, 0, n' + 1, _, _, _, _, h, _ => absurd h (by omega)
  | 0, q, n + 1, n' + 1, c, he, h0, h1, h2, h3 => by
    have hP := g0.1.2.1
    obtain ⟨o, k1, k2, k3⟩ := hK c he
    refine ⟨o, k1, ?_, ?_⟩
    · rw [c_ring12e (SR_18 g0 he) (by omega) (10 - q) q (n + 1) (Or.inl (by omega)) (by omega) (by omega)]
      exact k2
    · unfold xX10_takesRing_L16
      rw [kg5, ks5 h, g0.1.2.2.2.2.2.2.1, if_pos (nI_le (by omega) (by omega)), ltI_d, nI_1]
      exact k3
  | m + 1, q, n + 1, n' + 1, c, he, h0, h1, h2, h3 => by
    have hP := g0.1.2.1
    have g := SR_18 g0 he
    have hXN : XN X c := fun e hx => by rw [he 6 (by decide)]; exact hXN0 e hx
    have ih := fun c' hc' => s_ring12 g0 hXN0 hp hK m (q + 1) n n' c' hc' (by omega) (by omega) (by omega) (by omega)
    have er : ∀ r, (r : Int32) = -4 → xX10_thirdOf h (nI p) (nI q) = some (r, h) → xX10_takesRing_L16 K2' (n' + 1) h (nI p) (nI q) = xX10_takesRing_L16 K2' n' h (nI p) (nI (q + 1)) := fun r hr e => by
      conv => lhs; unfold xX10_takesRing_L16
      rw [kg5, ks5 h, g0.1.2.2.2.2.2.2.1, if_neg (nI_ge (by omega) (by omega)), e, bnd_d, if_pos hr, ltI_d, nI_1]
    have er2 : ∀ r, ¬ (r : Int32) = -4 → xX10_thirdOf h (nI p) (nI q) = some (r, h) → xX10_takesRing_L16 K2' (n' + 1) h (nI p) (nI q) = bnd (xX10_goesRound h (nI p) (nI q) r) fun r9 h11 => some (r9, h11) := fun r hr e => by
      conv => lhs; unfold xX10_takesRing_L16
      rw [kg5, ks5 h, g0.1.2.2.2.2.2.2.1, if_neg (nI_ge (by omega) (by omega)), e, bnd_d, if_neg hr]
    unfold xX1_findRing_L12
    rw [if_neg (show ¬ (10 : Int32) ≤ nI q from nI_ge (a := q) (b := 10) (by omega) (by omega)), grd_eq (inb_nI (by omega) (by omega)), grd_eq (inb_nI (by omega) (by omega)), nI_clamp (by omega), nI_clamp (by omega), c_wants g (by omega) (by omega), bnd_d]
    have ew : wR X (c 6) (c 0) p q = (decide (szI X q ≠ -1) && wB X (c 6) (c 0) p q) := by
      unfold wR
      rw [decide_eq_true (show p ≠ q by omega), Bool.true_and]
    cases z : wB X (c 6) (c 0) p q with
    | false =>
      rw [if_pos (show bI false = 0 from rfl), ltI_d, nI_1, er (-4) rfl (by
        unfold xX10_thirdOf
        rw [r_wants g hXN hp (by omega), bnd_d, bI_f (by rw [ew, z, Bool.and_false]), if_pos rfl])]
      exact ih c he
    | true =>
      have sp := (wB_sz g (by omega) z).1
      have e2 : e18 (up2 (up2 c 18 0 (nI p)) 18 1 (nI q)) c0 := e18_t (e18_u _ _ _) (e18_t (e18_u _ _ _) he)
      have g2 := SR_18 g0 e2
      have hXN2 : XN X (up2 (up2 c 18 0 (nI p)) 18 1 (nI q)) := fun e hx => by rw [e2 6 (by decide)]; exact hXN0 e hx
      have w6 : (up2 (up2 c 18 0 (nI p)) 18 1 (nI q)) 6 = c 6 := by rw [up2_col _ _ _ (by decide), up2_col _ _ _ (by decide)]
      have w0 : (up2 (up2 c 18 0 (nI p)) 18 1 (nI q)) 0 = c 0 := by rw [up2_col _ _ _ (by decide), up2_col _ _ _ (by decide)]
      rw [if_neg (show ¬ bI true = 0 by decide), show grd (inb (0 : Int32) 3) = id from rfl, show grd (inb (1 : Int32) 3) = id from rfl, show ((0 : Int32).toNatClampNeg) = 0 from rfl, show ((1 : Int32).toNatClampNeg) = 1 from rfl, id, put2_d, id, put2_d, grd_eq (inb_nI (by omega) (by omega)), grd_eq (inb_nI (by omega) (by omega)), c_wants g2 (by omega) (by omega), bnd_d, w6, w0]
      cases z2 : wB X (c 6) (c 0) q p with
      | true =>
        have sq := (wB_sz g (by omega) z2).1
        rw [if_neg (show ¬ bI true = 0 by decide), er2 (-1) (by decide) (by
          unfold xX10_thirdOf
          rw [r_wants g hXN hp (by omega), bnd_d, if_neg (bI_t (by rw [ew, z, decide_eq_true sq]; rfl)), r_wants g hXN (by omega) hp, bnd_d, if_neg (bI_t (by unfold wR; rw [z2, decide_eq_true (show q ≠ p by omega), decide_eq_true sp]; rfl))])]
        refine ⟨some (p, q, none), ⟨hp, by omega, by omega, sp, sq⟩, ⟨_, rfl, e2, ?_, up2_self _ _ _ _⟩, rfl⟩
        rw [up2_ne _ (by omega), up2_self]
      | false =>
        rw [if_pos (show bI false = 0 from rfl), ltI_d, nI_1]
        by_cases sq : szI X q = -1
        · rw [er (-4) rfl (by
            unfold xX10_thirdOf
            rw [r_wants g hXN hp (by omega), bnd_d, bI_f (by rw [ew, decide_eq_false (show ¬ szI X q ≠ -1 from fun y => y sq), Bool.false_and]), if_pos rfl])]
          rw [c_ring79e g2 (by omega) (by omega) (10 - (p + 1)) (p + 1) 1000 (fun j h4 h5 => Or.inr (Or.inl (by
            rw [w6, w0]
            cases y : wB X (c 6) (c 0) q j with
            | false => rfl
            | true => exact absurd sq (wB_sz g h5 y).1))) (by omega) (by omega)]
          exact ih _ e2
        · obtain ⟨o, t1, t2⟩ := s_third (K2 := K2) (K12 := xX1_findRing_L12 K2 n) g2 hXN2 hp (show q < nP by omega) sp (nP - (p + 1)) (p + 1) 1000 1000 (by omega) (by omega) (by omega) (by omega)
          have et : xX10_thirdOf h (nI p) (nI q) = xX10_thirdOf_L27 (nI p) (nI q) 1000 h (nI (p + 1)) := by
            unfold xX10_thirdOf
            rw [r_wants g hXN hp (by omega), bnd_d, if_neg (bI_t (by rw [ew, z, decide_eq_true sq]; rfl)), r_wants g hXN (by omega) hp, bnd_d, bI_f (by unfold wR; rw [z2, Bool.and_false, Bool.and_false]), if_pos rfl, ltI_d, nI_1]
          cases o with
          | none =>
            rw [er (-4) rfl (by rw [et, t1])]
            simp only at t2
            rw [t2]
            exact ih _ e2
          | some r =>
            simp only at t1 t2
            obtain ⟨t3, t4, t5, t6, t7⟩ := t2
            rw [er2 (nI r) (fun y => nI_pos (n := r) (by omega) (by rw [y]; decide)) (by rw [et, t1]), t3]
            refine ⟨some (p, q, some r), ⟨hp, by omega, by omega, sp, sq, t4, t5, t6, t7⟩, ⟨_, rfl, e18_t (e18_u _ _ _) e2, ?_, ?_, up2_self _ _ _ _⟩, rfl⟩
            · rw [up2_ne _ (by omega), up2_ne _ (by omega), up2_self]
            · rw [up2_ne _ (by omega), up2_self]
theorem c_ring2e {nL nP D : Nat} {d : Int32} {B M : Nat → Nat} {W X : List (Nat × Nat)} {c k : zV2} (g : SR nL nP D d B M W X c k) : ∀ (m p n : Nat), nP ≤ p → p + m = 10 → m < n → xX1_findRing_L2 n c (nI p) = some (0, c)
  | m, p, 0, _, _, h => absurd h (by omega)
  | 0, p, n + 1, h0, h1, h2 => by
    unfold xX1_findRing_L2
    rw [if_pos (show (10 : Int32) ≤ nI p from nI_le (a := 10) (b := p) (by omega) (by omega))]
  | m + 1, p, n + 1, h0, h1, h2 => by
    have ih := c_ring2e g m (p + 1) n (by omega) (by omega) (by omega)
    unfold xX1_findRing_L2
    rw [if_neg (show ¬ (10 : Int32) ≤ nI p from nI_ge (a := p) (b := 10) (by omega) (by omega)), ltI_d, nI_1, c_ring12e g (by omega) (10 - (p + 1)) (p + 1) 1000 (Or.inr h0) (by omega) (by omega)]
    exact ih
theorem s_ring2 {nL nP D : Nat} {d : Int32} {B M : Nat → Nat} {W X : List (Nat × Nat)} {c0 h : zV2} (g0 : SR nL nP D d B M W X c0 (dec h)) (hXN0 : XN X c0) : ∀ (m p n n' : Nat) (c : zV2), e18 c c0 → p + m = nP → m + (10 - nP) < n → m < n' → ∃ o, okR nP X o ∧ ringC c0 (xX1_findRing_L2 n c (nI p)) o ∧ ringH h (xX10_takesRing_L2 n' h (nI p)) o
  | m, p, n, 0, _, _, _, _, h => absurd h (by omega)
  | m, p, 0, n' + 1, _, _, _, h, _ => absurd h (by omega)
  | 0, p, n + 1, n' + 1, c, he, h1, h2, h3 => by
    have hP := g0.1.2.1
    refine ⟨none, trivial, ⟨c, c_ring2e (SR_18 g0 he) (10 - p) p (n + 1) (by omega) (by omega) (by omega), he⟩, ?_⟩
    unfold xX10_takesRing_L2
    rw [kg5, ks5 h, g0.1.2.2.2.2.2.2.1, if_pos (nI_le (by omega) (by omega))]
    rfl
  | m + 1, p, n + 1, n' + 1, c, he, h1, h2, h3 => by
    have hP := g0.1.2.1
    have ih := fun c' hc' => s_ring2 g0 hXN0 m (p + 1) n n' c' hc' (by omega) (by omega) (by omega)
    unfold xX1_findRing_L2 xX10_takesRing_L2
    rw [if_neg (show ¬ (10 : Int32) ≤ nI p from nI_ge (a := p) (b := 10) (by omega) (by omega)), kg5, ks5 h, g0.1.2.2.2.2.2.2.1, if_neg (nI_ge (by omega) (by omega))]
    simp only [ltI_d, nI_1]
    exact s_ring12 g0 hXN0 (by omega) ih (nP - (p + 1)) (p + 1) 1000 1000 c he (by omega) (by omega) (by omega) (by omega)
theorem s_ring {nL nP D : Nat} {d : Int32} {B M : Nat → Nat} {W X : List (Nat × Nat)} {c h : zV2} (g : SR nL nP D d B M W X c (dec h)) (hXN : XN X c) : ∃ o, okR nP X o ∧ ringC c (xX1_findRing c) o ∧ ringH h (xX10_takesRing h) o :=
  s_ring2 g hXN nP 0 1000 1000 c (e18_r c) (by omega) (by have := g.1.2.1; omega) (by have := g.1.2.1; omega)
