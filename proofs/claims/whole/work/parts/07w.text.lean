/-! pure part: waitingAt, type, clearText -/
theorem PUB_waitingAt {V : zV3} (p1 p2 : Int32) (R : Rel V) : PUB V (xX9_waitingAt V p1 p2) (xX10_waitingAt (V 8) p1 p2) := by
  obtain ⟨nL, nP, D, W, X, hD0, ⟨gS, gL, gP, gW, gX, gT⟩, hWN, hXN, hBJ⟩ := R.1
  have hP := gS.2.1
  have lW := WV_len gW.2.2
  unfold xX9_waitingAt xX10_waitingAt
  by_cases h0 : p1 < 0
  · rw [if_pos h0, if_pos h0]
    exact PUB_same R rfl rfl
  · rw [if_neg h0, if_neg h0]
    rcases rg_in (x := p2) (M := 1) (n := 1) (by decide) with h1 | h1 | ⟨j, hj, rfl⟩
    · rw [if_pos h1, r_in_l (show p2 < (0 : Int32) from h1), bnd_d, if_pos rfl]
      exact PUB_same R rfl rfl
    · rw [r_in_g h1, bnd_d, if_pos rfl]
      by_cases h2 : p2 < 0
      · rw [if_pos h2]
        exact PUB_same R rfl rfl
      · rw [if_neg h2, if_neg (nle_of_lt h1)]
        exact PUB_same R rfl rfl
    · rw [if_neg (nI_pos (by omega)), if_pos (show nI j ≤ (1 : Int32) from nI_le (a := j) (b := 1) hj (by omega)), r_in_t (nI_pos (by omega)) (show ¬ (1 : Int32) < nI j from nI_nlt (a := 1) (b := j) hj (by omega)), bnd_d, if_neg (show ¬ (1 : Int32) = 0 by decide), kg6, ks6 (V 8), gW.2.1.1, show (V 0) (23 + 0) 0 = nI W.length from gW.1.1]
      by_cases h3 : p1 < nI W.length
      · obtain ⟨i, hi, rfl⟩ := nI_of h0
        have hiW : i < W.length := (nI_ltI (by omega) (by omega)).mp h3
        obtain ⟨e, he⟩ : ∃ e, W[i]? = some e := ⟨_, List.getElem?_eq_getElem hiW⟩
        rw [if_pos h3, if_neg (nle_of_lt h3)]
        match j, hj with
        | 0, _ =>
          refine PUB_same (r := nI e.1) R ?_ ?_
          · rw [if_pos (show nI 0 = 0 from rfl), bndG_eq (c_lpA gW.1 (by omega) he), upG_id]
          · rw [ixW, show nI (163 + 2 * i) + nI 0 = nI (163 + 2 * i) from nI_add _ 0, grd_eq (inb_nI (by omega) (by omega)), nI_clamp (by omega), ← d19 (h := V 8) (i := i) (by omega), (gW.2.1.2 i e he).1]
        | 1, _ =>
          refine PUB_same (r := nI e.2) R ?_ ?_
          · rw [if_neg (by decide), bndG_eq (c_lsA gW.1 (by omega) he), upG_id]
          · rw [ixW, show nI (163 + 2 * i) + nI 1 = nI (164 + 2 * i) from (nI_add _ 1).trans (congrArg nI (by omega)), grd_eq (inb_nI (by omega) (by omega)), nI_clamp (by omega), ← d21 (h := V 8) (i := i) (by omega), (gW.2.1.2 i e he).2]
      · rw [if_neg h3, if_pos (le_of_nlt h3)]
        exact PUB_same R rfl rfl
theorem nar_ch (n : Nat) (h : n < 127) : vp_nar .char (((nI n).toUInt32 % 65536).toInt32) = nI n := by
  have x : ∀ b : Fin 127, vp_nar .char (((nI b.val).toUInt32 % 65536).toInt32) = nI b.val := by decide +kernel
  exact x ⟨n, h⟩
theorem PUB_type {V : zV3} (p1 : Int32) (R : Rel V) : PUB V (xX9_type V p1) (xX10_type (V 8) p1) := by
  have R0 := R
  obtain ⟨a0, ⟨od, st, ho, hs, h0, h1, h6, hp⟩, n, t0, t1, t2, t3⟩ := R
  have lo : ¬ p1 < 32 → p1 ≤ 126 → ∃ ch : Nat, 32 ≤ ch ∧ ch ≤ 126 ∧ p1 = nI ch := fun ha hb => by
    obtain ⟨ch, hch, rfl⟩ := nI_of2 (x := p1) (M := 126) (n := 126) (by decide) (fun z => ha (by
      rw [Int32.lt_iff_toInt_lt] at z ⊢
      have e0 : (0 : Int32).toInt = 0 := by decide
      have e1 : (32 : Int32).toInt = 32 := by decide
      omega)) hb
    refine ⟨ch, ?_, hch, rfl⟩
    have : ¬ ch < 32 := fun z => ha (nI_lt (a := ch) (b := 32) z (by omega))
    omega
  unfold xX9_type xX7_append xX10_type
  by_cases c1 : p1 < 32
  · rw [if_pos c1, r_in_l c1, bnd_d, if_pos rfl]
    exact PUB_same (r := -1) R0 (by rw [bndG_eq rfl, upG_id]) rfl
  · by_cases c2 : p1 ≤ 126
    · obtain ⟨ch, ch1, ch2, rfl⟩ := lo c1 c2
      rw [if_neg c1, if_pos c2, r_in_t c1 (fun z => nle_of_lt z c2), bnd_d, if_neg (show ¬ (1 : Int32) = 0 by decide), t1, t2]
      by_cases c3 : n = 80
      · rw [c3, if_neg (show ¬ nI 80 < (80 : Int32) by decide), if_pos (show nI 80 = (80 : Int32) from rfl)]
        exact PUB_same (r := -3) R0 (by rw [bndG_eq rfl, upG_id]) rfl
      · rw [if_pos (show nI n < (80 : Int32) from nI_lt (a := n) (b := 80) (by omega) (by omega)), grd_eq (inb_nI (by omega) (by omega)), nI_clamp (by omega), put2_d, up2_ne (V 7) (show ¬ (3 = 2 ∧ 0 = n) by omega), t1, put2_d, up2_self, nar_ch ch (by omega), if_neg (show ¬ nI n = (80 : Int32) from fun z => c3 ((nI_eq (a := n) (b := 80) (by omega) (by omega)).mp z)), grd_eq (inb_nI (by omega) (by omega)), put2_d, up2_ne (V 8) (show ¬ (7 = 4 ∧ 0 = n) by omega), t2, put2_d, up2_self, bndG_eq rfl]
        refine ⟨_, _, _, rfl, rfl, upG_ne _ _ (by decide), ?_, ⟨od, st, ho, hs, ?_, ?_, ?_, fun j hj => ?_⟩, n + 1, by omega, ?_, ?_, fun i hi => ?_⟩
        · rw [upG_ne _ _ (by decide), upG_ne _ _ (by decide), upG_self, dec_other _ (by decide), dec_other _ (by decide)]
          exact a0
        · rw [upG_ne _ _ (by decide), upG_self, up2_ne _ (by omega), up2_ne _ (by omega), h0]
        · rw [upG_ne _ _ (by decide), upG_self, up2_ne _ (by omega), up2_ne _ (by omega), h1]
        · rw [upG_self, up2_ne _ (by omega), up2_ne _ (by omega), h6]
        · rw [upG_ne _ _ (by omega), upG_ne _ _ (by omega), upG_self, decA_eq (h := V 8) (a := 3) (o := 193 * j) (fun i hi => by rw [up2_ne _ (by omega), up2_ne _ (by omega)])]
          exact hp j hj
        · rw [upG_ne _ _ (by decide), upG_self, up2_self, nI_1]
        · rw [upG_self, up2_self, nI_1]
        · rw [upG_ne _ _ (by decide), upG_self, upG_self]
          by_cases e : i = n
          · subst e
            refine ⟨ch, ch1, ch2, ?_, ?_⟩
            · rw [up2_ne _ (by omega), up2_self]
            · rw [up2_ne _ (by omega), up2_self]
          · obtain ⟨c, d1, d2, d3, d4⟩ := t3 i (by omega)
            refine ⟨c, d1, d2, ?_, ?_⟩
            · rw [up2_ne _ (by omega), up2_ne _ (by omega), d3]
            · rw [up2_ne _ (by omega), up2_ne _ (by omega), d4]
    · rw [if_neg c1, if_neg c2, r_in_g (lt_of_nle c2), bnd_d, if_pos rfl]
      exact PUB_same (r := -1) R0 (by rw [bndG_eq rfl, upG_id]) rfl
theorem PUB_clearText {V : zV3} (R : Rel V) : PUB V (xX9_clearText V) (xX10_clearText (V 8)) := by
  obtain ⟨a0, ⟨od, st, ho, hs, h0, h1, h6, hp⟩, n, t0, t1, t2, t3⟩ := R
  unfold xX9_clearText xX7_clear xX10_clearText
  rw [ltI_d, ltI_d, put2_d, put2_d, t1, t2, bndG_eq rfl]
  refine ⟨_, _, _, rfl, rfl, upG_ne _ _ (by decide), ?_, ⟨od, st, ho, hs, ?_, ?_, ?_, fun j hj => ?_⟩, 0, by omega, ?_, ?_, fun i hi => absurd hi (by omega)⟩
  · rw [upG_ne _ _ (by decide), upG_ne _ _ (by decide), upG_self, dec_other _ (by decide)]
    exact a0
  · rw [upG_ne _ _ (by decide), upG_self, up2_ne _ (by omega), h0]
  · rw [upG_ne _ _ (by decide), upG_self, up2_ne _ (by omega), h1]
  · rw [upG_self, up2_ne _ (by omega), h6]
  · rw [upG_ne _ _ (by omega), upG_ne _ _ (by omega), upG_self, decA_eq (h := V 8) (a := 3) (o := 193 * j) (fun i hi => by rw [up2_ne _ (by omega)])]
    exact hp j hj
  · rw [upG_ne _ _ (by decide), upG_self, up2_self]
    rfl
  · rw [upG_self, up2_self]
    rfl
