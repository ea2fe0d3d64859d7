/-! pure part: what is only asked -/
def QP (x y : Option (Int32 × zV2)) (c h : zV2) : Prop := ∃ r, x = some (r, c) ∧ y = some (r, h)
theorem QP_s {x y : Option (Int32 × zV2)} {c h : zV2} {r : Int32} (hx : x = some (r, c)) (hy : y = some (r, h)) : QP x y c h := ⟨r, hx, hy⟩
theorem q_found {c h : zV2} {v : Int32} (hv : v = -1 ∨ ∃ j : Nat, j < 2 ^ 31 ∧ v = nI j) : ∃ r, xX1_foundOr c v = some (r, c) ∧ xX10_orNone h v = some (r, h) := by
  unfold xX1_foundOr xX10_orNone
  rcases hv with rfl | ⟨j, hj, rfl⟩
  · exact ⟨-4, if_pos rfl, if_neg (by decide)⟩
  · exact ⟨nI j, if_neg (nI_ne1 hj), if_pos (nI_pos' hj)⟩
theorem q_person {c h : zV2} {lim : Nat} (p1 p2 : Int32) (g : RR lim c (dec h)) : QP (xX1_tellOfPerson c p1 p2) (xX10_personOf h p1 p2) c h := by
  obtain ⟨nL, nP, D, W, X, hD0, gg, hWN, hXN, hBJ⟩ := g
  obtain ⟨gS, gL, gP, gW, gX, gT⟩ := gg
  obtain ⟨hL, hP, hD, c13, k13, c14, k14, c15, k15, hset⟩ := gS
  have hbW := bnL_of gW.2.2 hP (by omega)
  have hbX := bnL_of gX.2.2.2.2 hP (by omega)
  unfold xX1_tellOfPerson xX10_personOf
  rcases pk_ix p1 (n := nP) (by omega) with h1 | h1 | ⟨p, hp, rfl⟩
  · rw [c_pA_f c14 (Or.inl h1), r_isP_f k14 hP (Or.inl h1)]
    exact QP_s rfl rfl
  · rw [c_pA_f c14 (Or.inr h1), r_isP_f k14 hP (Or.inr h1)]
    exact QP_s rfl rfl
  · rw [c_pA_t c14 hP hp, r_isP_t k14 hP hp, bnd_d, bnd_d, om_s, grd_eq (decide_eq_true (by omega)), if_neg (show ¬ (1 : Int32) = 0 by decide)]
    obtain ⟨lo, du, re, p6, r6, hlo, p7, r7, p8, r8, z1, z2, p9, p10, p11, p12⟩ := gP.1 p hp
    have hlb : ∀ l, lo = some l → l < 2 ^ 31 := fun l e => by have := (hlo l e).1; omega
    rcases rg_in (x := p2) (M := 9) (n := 9) (by decide) with h1 | h1 | ⟨j, hj, rfl⟩
    · rw [if_pos h1, r_in_l (show p2 < (0 : Int32) from h1)]
      exact QP_s rfl rfl
    · rw [r_in_g h1]
      by_cases h0 : p2 < 0
      · rw [if_pos h0]
        exact QP_s rfl rfl
      · rw [if_neg h0, if_neg (nle_of_lt h1)]
        exact QP_s rfl rfl
    · rw [if_neg (nI_pos (by omega)), if_pos (show nI j ≤ (9 : Int32) from nI_le (a := j) (b := 9) hj (by omega)), r_in_t (nI_pos (by omega)) (show ¬ (9 : Int32) < nI j from nI_nlt (a := 9) (b := j) hj (by omega)), bnd_d, if_neg (show ¬ (1 : Int32) = 0 by decide), r_ofP0 (by omega), bnd_d, r6, p6]
      have hfin : ∀ i, i ≤ 9 → (i < 4 → lo ≠ none) → QP (xX1_tellOfPerson_L38 (nI p) (nI i) c p) (xX10_personOf_L37 (nI p) (nI i) h) c h := fun i hi hno => by
        match i, hi with
        | 0, _ => exact ⟨c 6 p, rfl, by
            unfold xX10_personOf_L37
            rw [if_neg (by decide), if_neg (by decide), if_neg (by decide), if_neg (by decide), if_neg (by decide), if_neg (by decide), if_neg (by decide)]
            rw [show (nI 0 : Int32) = 0 from rfl]
            rw [r_ofP0 (by omega), bnd_d, r6, p6]⟩
        | 1, _ => exact ⟨c 7 p, rfl, by
            unfold xX10_personOf_L37
            rw [if_neg (by decide), if_neg (by decide), if_neg (by decide), if_neg (by decide), if_neg (by decide), if_neg (by decide), if_neg (by decide)]
            rw [show (nI 1 : Int32) = 1 from rfl]
            rw [r_ofP1 (by omega), bnd_d, r7, p7]⟩
        | 2, _ => exact ⟨c 8 p, rfl, by
            unfold xX10_personOf_L37
            rw [if_neg (by decide), if_neg (by decide), if_neg (by decide), if_neg (by decide), if_neg (by decide), if_neg (by decide), if_neg (by decide)]
            rw [show (nI 2 : Int32) = 2 from rfl]
            rw [r_ofP2 (by omega), bnd_d, r8, p8]⟩
        | 3, _ =>
          have h6 : ¬ c 6 p = -1 := fun z => hno (by omega) ((oI_m1 hlb).mp (p6.symm.trans z))
          obtain ⟨v1, v2⟩ := s_over (c := c) (h := h) (p := p) (D := D) (by omega) h6 p7 r7 hD (by omega) k15
          refine ⟨nI (D - du), ?_, ?_⟩
          · unfold xX1_tellOfPerson_L38
            rw [if_neg (by decide), if_neg (by decide), if_neg (by decide), if_pos (by decide)]
            rw [c15, v1, bnd_d]
          · unfold xX10_personOf_L37
            rw [if_pos (by decide)]
            rw [v2, bnd_d]
        | 4, _ => exact ⟨c 9 p, rfl, by
            unfold xX10_personOf_L37
            rw [if_neg (by decide), if_pos (by decide)]
            rw [show (nI 4 - 1 : Int32) = 3 from rfl]
            rw [r_ofP3 (by omega), bnd_d, p9]⟩
        | 5, _ => exact ⟨c 10 p, rfl, by
            unfold xX10_personOf_L37
            rw [if_neg (by decide), if_neg (by decide), if_pos (by decide)]
            rw [show (nI 5 - 1 : Int32) = 4 from rfl]
            rw [r_ofP4 (by omega), bnd_d, p10]⟩
        | 6, _ =>
          obtain ⟨r, f1, f2⟩ := q_found (c := c) (h := h) (v := szI X p) (by
            by_cases e : szI X p = -1
            · exact Or.inl e
            · obtain ⟨j, s, hj, hs⟩ := szI_some e
              have := (hbX.2 _ (List.mem_of_getElem? hj)).2
              exact Or.inr ⟨s, by simp at this; omega, hs⟩)
          refine ⟨r, ?_, ?_⟩
          · unfold xX1_tellOfPerson_L38
            rw [if_neg (by decide), if_neg (by decide), if_neg (by decide), if_neg (by decide), if_neg (by decide), if_neg (by decide), if_pos (by decide)]
            rw [c_sizeOf gX.1 hbX (by omega), bnd_d, fJ_szI, f1, bnd_d]
          · unfold xX10_personOf_L37
            rw [if_neg (by decide), if_neg (by decide), if_neg (by decide), if_pos (by decide)]
            rw [r_ofP5 (by omega), bnd_d, gX.2.2.2.1 p hp, f2, bnd_d]
        | 7, _ =>
          obtain ⟨r, f1, f2⟩ := q_found (c := c) (h := h) (v := oJ (fJ (fP p) W 0)) (by
            cases q : fJ (fP p) W 0 with
            | none => exact Or.inl rfl
            | some x =>
              obtain ⟨j, e⟩ := x
              have := (List.getElem?_eq_some_iff.mp (fJ_get q).2.1).1
              have h2 := hbW.1
              exact Or.inr ⟨j, by omega, rfl⟩)
          refine ⟨r, ?_, ?_⟩
          · unfold xX1_tellOfPerson_L38
            rw [if_neg (by decide), if_neg (by decide), if_neg (by decide), if_neg (by decide), if_neg (by decide), if_neg (by decide), if_neg (by decide), if_pos (by decide)]
            rw [c_placeOf gW.1 hbW (by omega), bnd_d, f1, bnd_d]
          · unfold xX10_personOf_L37
            rw [if_neg (by decide), if_neg (by decide), if_neg (by decide), if_neg (by decide), if_pos (by decide)]
            rw [r_placeOf gW.2.1 hbW (by omega), bnd_d, f2, bnd_d]
        | 8, _ => exact ⟨c 11 p, rfl, by
            unfold xX10_personOf_L37
            rw [if_neg (by decide), if_neg (by decide), if_neg (by decide), if_neg (by decide), if_neg (by decide), if_pos (by decide)]
            rw [show (nI 8 - 2 : Int32) = 6 from rfl]
            rw [r_ofP6 (by omega), bnd_d, p11]⟩
        | 9, _ => exact ⟨c 12 p, rfl, by
            unfold xX10_personOf_L37
            rw [if_neg (by decide), if_neg (by decide), if_neg (by decide), if_neg (by decide), if_neg (by decide), if_neg (by decide), if_pos (by decide)]
            rw [show (nI 9 - 2 : Int32) = 7 from rfl]
            rw [r_ofP7 (by omega), bnd_d, p12]⟩
      by_cases h4 : 3 < j
      · rw [if_pos (show (3 : Int32) < nI j from nI_lt (a := 3) (b := j) h4 (by omega)), if_pos (show (4 : Int32) ≤ nI j from nI_le (a := 4) (b := j) (by omega) (by omega))]
        exact hfin j hj (fun z => by omega)
      · rw [if_neg (show ¬ (3 : Int32) < nI j from nI_nlt (a := 3) (b := j) (by omega) (by omega)), if_neg (show ¬ (4 : Int32) ≤ nI j from nI_ge (a := j) (b := 4) (by omega) (by omega))]
        by_cases e6 : lo = none
        · rw [if_pos ((oI_m1 hlb).mpr e6), if_neg (fun z => (oI_ge hlb).mp z e6)]
          exact QP_s rfl rfl
        · rw [if_neg (fun z => e6 ((oI_m1 hlb).mp z)), if_pos ((oI_ge hlb).mpr e6)]
          exact hfin j hj (fun _ => e6)
theorem bI_if (b : Bool) (c : zV2) : (if bI b = 0 then some ((0 : Int32), c) else some ((1 : Int32), c)) = some (bI b, c) := by
  cases b <;> rfl
theorem q_locker {c h : zV2} {lim : Nat} (p1 p2 : Int32) (g : RR lim c (dec h)) : QP (xX1_tellOfLocker c p1 p2) (xX10_lockerOf h p1 p2) c h := by
  obtain ⟨nL, nP, D, W, X, hD0, gg, hWN, hXN, hBJ⟩ := g
  obtain ⟨gS, gL, gP, gW, gX, gT⟩ := gg
  obtain ⟨hL, hP, hD, c13, k13, c14, k14, c15, k15, hset⟩ := gS
  unfold xX1_tellOfLocker xX10_lockerOf
  rcases pk_ix p1 (n := nL) (by omega) with h1 | h1 | ⟨q, hq, rfl⟩
  · rw [c_lA_f c13 (Or.inl h1), r_isL_f k13 hL (Or.inl h1)]
    exact QP_s rfl rfl
  · rw [c_lA_f c13 (Or.inr h1), r_isL_f k13 hL (Or.inr h1)]
    exact QP_s rfl rfl
  · have row0 := gL.1 q hq
    obtain ⟨fb, e1, e2, _⟩ := s_isFree (h := h) hP (show q < 12 by omega) row0
    obtain ⟨s, st, ho, sp, op, a0, b0, hs, a1, b1, a2, b2, hh, a3, b3, a4, b4, h4, a5⟩ := row0
    rw [c_lA_t c13 hL hq, r_isL_t k13 hL hq, bnd_d, bnd_d, om_s, grd_eq (decide_eq_true (by omega)), if_neg (show ¬ (1 : Int32) = 0 by decide), r_of0 (by omega), r_of1 (by omega), r_of2 (by omega), r_of3 (by omega), r_of4 (by omega), r_of5 (by omega), e1, e2]
    simp only [bnd_d]
    by_cases z0 : p2 = 0
    · rw [if_pos z0, if_pos z0]
      exact ⟨c 0 q, rfl, by rw [a0, b0]⟩
    · rw [if_neg z0, if_neg z0]
      by_cases z1 : p2 = 1
      · rw [if_pos z1, if_pos z1, a1, b1]
        cases st with
        | false => exact ⟨0, rfl, rfl⟩
        | true => exact ⟨1, rfl, if_neg (nI_pos (by omega))⟩
      · rw [if_neg z1, if_neg z1]
        by_cases z2 : p2 = 2
        · rw [if_pos z2, if_pos z2, a2, b2]
          obtain ⟨r, f1, f2⟩ := q_found (c := c) (h := h) (v := oI ho) (by
            cases ho with
            | none => exact Or.inl rfl
            | some x => exact Or.inr ⟨x, by have := hh x rfl; omega, rfl⟩)
          rw [f1, f2]
          exact ⟨r, rfl, rfl⟩
        · rw [if_neg z2, if_neg z2]
          by_cases z3 : p2 = 3
          · rw [if_pos z3, if_pos z3, bI_if, bI_if]
            exact ⟨bI fb, rfl, rfl⟩
          · rw [if_neg z3, if_neg z3]
            by_cases z4 : p2 = 4
            · rw [if_pos z4, if_pos z4, a3, b3]
              cases sp with
              | false => exact ⟨0, rfl, rfl⟩
              | true => exact ⟨1, rfl, rfl⟩
            · rw [if_neg z4, if_neg z4]
              by_cases z5 : p2 = 5
              · rw [if_pos z5, if_pos z5, a4, b4]
                obtain ⟨r, f1, f2⟩ := q_found (c := c) (h := h) (v := oI op) (by
                  cases op with
                  | none => exact Or.inl rfl
                  | some x => exact Or.inr ⟨x, by have := h4 x rfl; omega, rfl⟩)
                rw [f1, f2]
                exact ⟨r, rfl, rfl⟩
              · rw [if_neg z5, if_neg z5]
                by_cases z6 : p2 = 6
                · rw [if_pos z6, if_pos z6, a5]
                  exact ⟨dec h 5 q, rfl, rfl⟩
                · rw [if_neg z6, if_neg z6]
                  exact QP_s rfl rfl
/-! counts -/
theorem c_sumL {c : zV2} {col : Nat} {f : Nat → zV2 → Int32 → Int32 → Option (Int32 × zV2)}
    (hz : ∀ n a i, (10 : Int32) ≤ i → f (n + 1) c a i = some (a, c)) (hs : ∀ n a (i : Nat), i < 10 → f (n + 1) c a (nI i) = f n c (a + c col i) (nI (i + 1))) : ∀ (m i n : Nat), i + m = 10 → m < n → f n c (sm (c col) i) (nI i) = some (sm (c col) 10, c)
  | m, i, 0, _, h => absurd h (by omega)
  | 0, i, n + 1, h1, h2 => by rw [hz n _ _ (show (10 : Int32) ≤ nI i from nI_le (a := 10) (b := i) (by omega) (by omega)), show i = 10 by omega]
  | m + 1, i, n + 1, h1, h2 => by
    rw [hs n _ i (by omega)]
    exact c_sumL hz hs m (i + 1) n (by omega) (by omega)
theorem c_owed (c : zV2) : xX1_owedByAll c = some (sm (c 9) 10, c) :=
  c_sumL (f := xX1_owedByAll_L4) (col := 9) (fun n a i hi => by unfold xX1_owedByAll_L4; rw [if_pos hi]) (fun n a i hi => by
    conv => lhs; unfold xX1_owedByAll_L4
    rw [if_neg (show ¬ (10 : Int32) ≤ nI i from nI_ge (a := i) (b := 10) (by omega) (by omega)), grd_eq (inb_nI (by omega) (by omega)), nI_clamp (by omega), ltI_d, ltI_d, nI_1]) 10 0 1000 (by omega) (by omega)
theorem c_paid (c : zV2) : xX1_paidByAll c = some (sm (c 10) 10, c) :=
  c_sumL (f := xX1_paidByAll_L4) (col := 10) (fun n a i hi => by unfold xX1_paidByAll_L4; rw [if_pos hi]) (fun n a i hi => by
    conv => lhs; unfold xX1_paidByAll_L4
    rw [if_neg (show ¬ (10 : Int32) ≤ nI i from nI_ge (a := i) (b := 10) (by omega) (by omega)), grd_eq (inb_nI (by omega) (by omega)), nI_clamp (by omega), ltI_d, ltI_d, nI_1]) 10 0 1000 (by omega) (by omega)
theorem sm_end {f : Nat → Int32} {n : Nat} : ∀ (m : Nat), (∀ i, n ≤ i → i < n + m → f i = 0) → sm f (n + m) = sm f n
  | 0, _ => rfl
  | m + 1, h => by
    show sm f (n + m) + f (n + m) = _
    rw [h (n + m) (by omega) (by omega), sm_end m (fun i h1 h2 => h i h1 (by omega)), Int32.add_zero]
theorem r_debts1 {c h : zV2} {nL nP : Nat} {M : Nat → Nat} (g : GP nL nP M c (dec h)) (hP : nP ≤ 10) (hk : dec h 14 0 = nI nP) : ∀ (m i n : Nat), i + m = nP → m < n → xX10_debts_L4 n h (sm (c 9) i) (nI i) = some (sm (c 9) nP, h)
  | m, i, 0, _, h => absurd h (by omega)
  | 0, i, n + 1, h1, h2 => by
    unfold xX10_debts_L4
    rw [kg5, ks5 h, hk, if_pos (nI_le (by omega) (by omega)), show i = nP by omega]
  | m + 1, i, n + 1, h1, h2 => by
    obtain ⟨_, _, _, _, _, _, _, _, _, _, _, _, p9, _⟩ := g.1 i (by omega)
    unfold xX10_debts_L4
    rw [kg5, ks5 h, hk, if_neg (nI_ge (by omega) (by omega)), r_ofP3 (by omega), bnd_d, ltI_d, ltI_d, nI_1, ← p9]
    exact r_debts1 g hP hk m (i + 1) n (by omega) (by omega)
theorem r_debts {c h : zV2} {nL nP : Nat} {M : Nat → Nat} (g : GP nL nP M c (dec h)) (hP : nP ≤ 10) (hk : dec h 14 0 = nI nP) : xX10_debts h = some (sm (c 9) 10, h) := by
  have := sm_end (f := c 9) (n := nP) (10 - nP) (fun i h1 h2 => (g.2 i h1 (by omega)).2.2.2.1)
  rw [show nP + (10 - nP) = 10 by omega] at this
  rw [this]
  exact r_debts1 g hP hk nP 0 1000 (by omega) (by omega)
