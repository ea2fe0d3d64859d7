/-! pure part: copies of halls -/
theorem put3_d {β : Type} (V : zV3) (g c i : Nat) (h : zV2) (x : Int32) (k : zV3 → β) : put3 (upG V g h) g c i x k = k (upG V g (up2 h c i x)) := by
  unfold put3
  rw [upG_upG, upG_self]
def cpM (h' h c : zV2) : Prop := ∀ i j, h i j = c i j → h' i j = c i j
theorem cpM_r (h c : zV2) : cpM h h c := fun _ _ e => e
theorem cpM_t {h2 h1 h c : zV2} (a : cpM h2 h1 c) (b : cpM h1 h c) : cpM h2 h c := fun i j e => a i j (b i j e)
theorem cpM_u (h c : zV2) (a b : Nat) : cpM (up2 h a b (c a b)) h c := fun i j e => by
  by_cases q : i = a ∧ j = b
  · rw [q.1, q.2, up2_self]
  · rw [up2_ne _ q, e]
def BL (c : zV2) : Prop := ∀ l, l < 12 → isb (c 1 l) = true ∧ isb (c 3 l) = true
theorem cp3 {V : zV3} {g g2 w : Nat} (hg : g2 ≠ g) : ∀ (m i n : Nat) (h : zV2), i + m = 10 → m < n → ∃ h', xX3_copyFrom_L2 g w g2 w n (upG V g h) (nI i) = some ((), upG V g h') ∧ cpM h' h (V g2) ∧ (∀ j, i ≤ j → j < 10 → h' (19 + w) j = V g2 (19 + w) j ∧ h' (21 + w) j = V g2 (21 + w) j) ∧ h' (23 + w) 0 = V g2 (23 + w) 0
  | m, i, 0, _, _, h => absurd h (by omega)
  | 0, i, n + 1, h, h1, h2 => by
    unfold xX3_copyFrom_L2
    rw [if_pos (show (10 : Int32) ≤ nI i from nI_le (a := 10) (b := i) (by omega) (by omega)), put3_d, upG_ne V h hg]
    exact ⟨_, rfl, cpM_u _ _ _ _, fun j h3 h4 => by omega, up2_self _ _ _ _⟩
  | m + 1, i, n + 1, h, h1, h2 => by
    unfold xX3_copyFrom_L2
    rw [if_neg (show ¬ (10 : Int32) ≤ nI i from nI_ge (a := i) (b := 10) (by omega) (by omega)), grd_eq (inb_nI (by omega) (by omega)), grd_eq (inb_nI (by omega) (by omega)), nI_clamp (by omega), put3_d, upG_ne V h hg, grd_eq (inb_nI (by omega) (by omega)), grd_eq (inb_nI (by omega) (by omega)), put3_d, upG_ne V _ hg, ltI_d, nI_1]
    obtain ⟨h', e1, e2, e3, e4⟩ := cp3 (w := w) hg m (i + 1) n (up2 (up2 h (19 + w) i (V g2 (19 + w) i)) (21 + w) i (V g2 (21 + w) i)) (by omega) (by omega)
    refine ⟨h', e1, cpM_t e2 (cpM_t (cpM_u _ _ _ _) (cpM_u _ _ _ _)), fun j h3 h4 => ?_, e4⟩
    by_cases q : j = i
    · subst q
      exact ⟨e2 _ _ (by rw [up2_ne _ (by omega), up2_self]), e2 _ _ (by rw [up2_self])⟩
    · exact e3 j (by omega) h4
theorem cp60 {V : zV3} {g g2 : Nat} (hg : g2 ≠ g) : ∀ (m i n : Nat) (h : zV2), i + m = 3 → m < n → ∃ h', xX1_copyFrom_L60 g g2 n (upG V g h) (nI i) = some ((), upG V g h') ∧ cpM h' h (V g2) ∧ (∀ j, i ≤ j → j < 3 → h' 17 j = V g2 17 j) ∧ (∀ w j, w < 2 → j < 10 → h' (19 + w) j = V g2 (19 + w) j ∧ h' (21 + w) j = V g2 (21 + w) j) ∧ (∀ w, w < 2 → h' (23 + w) 0 = V g2 (23 + w) 0) ∧ (∀ a, 13 ≤ a → a ≤ 16 → h' a 0 = V g2 a 0)
  | m, i, 0, _, _, h => absurd h (by omega)
  | 0, i, n + 1, h, h1, h2 => by
    unfold xX1_copyFrom_L60
    obtain ⟨h1', e1, e2, e3, e4⟩ := cp3 (V := V) (w := 0) hg 10 0 1000 h (by omega) (by omega)
    obtain ⟨h2', f1, f2, f3, f4⟩ := cp3 (V := V) (w := 1) hg 10 0 1000 h1' (by omega) (by omega)
    rw [if_pos (show (3 : Int32) ≤ nI i from nI_le (a := 3) (b := i) (by omega) (by omega)), show xX3_copyFrom g 0 g2 0 (upG V g h) = some ((), upG V g h1') from e1, bnd_d, show xX3_copyFrom g 1 g2 1 (upG V g h1') = some ((), upG V g h2') from f1, bnd_d, put3_d, upG_ne V _ hg, put3_d, upG_ne V _ hg, put3_d, upG_ne V _ hg, put3_d, upG_ne V _ hg]
    have k1 : cpM (up2 (up2 (up2 (up2 h2' 13 0 (V g2 13 0)) 14 0 (V g2 14 0)) 15 0 (V g2 15 0)) 16 0 (V g2 16 0)) h2' (V g2) := cpM_t (cpM_u _ _ _ _) (cpM_t (cpM_u _ _ _ _) (cpM_t (cpM_u _ _ _ _) (cpM_u _ _ _ _)))
    refine ⟨_, rfl, cpM_t k1 (cpM_t f2 e2), fun j h3 h4 => by omega, fun w j hw hj => ?_, fun w hw => ?_, fun a a1 a2 => ?_⟩
    · match w, hw with
      | 0, _ => exact ⟨k1 _ _ (f2 _ _ (e3 j (by omega) hj).1), k1 _ _ (f2 _ _ (e3 j (by omega) hj).2)⟩
      | 1, _ => exact ⟨k1 _ _ (f3 j (by omega) hj).1, k1 _ _ (f3 j (by omega) hj).2⟩
    · match w, hw with
      | 0, _ => exact k1 _ _ (f2 _ _ e4)
      | 1, _ => exact k1 _ _ f4
    · have : a = 13 ∨ a = 14 ∨ a = 15 ∨ a = 16 := by omega
      rcases this with rfl | rfl | rfl | rfl
      · rw [up2_ne _ (by omega), up2_ne _ (by omega), up2_ne _ (by omega), up2_self]
      · rw [up2_ne _ (by omega), up2_ne _ (by omega), up2_self]
      · rw [up2_ne _ (by omega), up2_self]
      · rw [up2_self]
  | m + 1, i, n + 1, h, h1, h2 => by
    unfold xX1_copyFrom_L60
    rw [if_neg (show ¬ (3 : Int32) ≤ nI i from nI_ge (a := i) (b := 3) (by omega) (by omega)), grd_eq (inb_nI (by omega) (by omega)), grd_eq (inb_nI (by omega) (by omega)), nI_clamp (by omega), put3_d, upG_ne V h hg, ltI_d, nI_1]
    obtain ⟨h', e1, e2, e3, e4⟩ := cp60 hg m (i + 1) n (up2 h 17 i (V g2 17 i)) (by omega) (by omega)
    refine ⟨h', e1, cpM_t e2 (cpM_u _ _ _ _), fun j h3 h4 => ?_, e4⟩
    by_cases q : j = i
    · subst q
      exact e2 _ _ (up2_self _ _ _ _)
    · exact e3 j (by omega) h4
theorem cp31 {V : zV3} {g g2 : Nat} (hg : g2 ≠ g) : ∀ (m i n : Nat) (h : zV2), i + m = 10 → m < n → ∃ h', xX1_copyFrom_L31 g g2 n (upG V g h) (nI i) = some ((), upG V g h') ∧ cpM h' h (V g2) ∧ (∀ a j, 6 ≤ a → a ≤ 12 → i ≤ j → j < 10 → h' a j = V g2 a j) ∧ (∀ j, j < 3 → h' 17 j = V g2 17 j) ∧ (∀ w j, w < 2 → j < 10 → h' (19 + w) j = V g2 (19 + w) j ∧ h' (21 + w) j = V g2 (21 + w) j) ∧ (∀ w, w < 2 → h' (23 + w) 0 = V g2 (23 + w) 0) ∧ (∀ a, 13 ≤ a → a ≤ 16 → h' a 0 = V g2 a 0)
  | m, i, 0, _, _, h => absurd h (by omega)
  | 0, i, n + 1, h, h1, h2 => by
    unfold xX1_copyFrom_L31
    obtain ⟨h', e1, e2, e3, e4⟩ := cp60 (V := V) hg 3 0 1000 h (by omega) (by omega)
    rw [if_pos (show (10 : Int32) ≤ nI i from nI_le (a := 10) (b := i) (by omega) (by omega))]
    exact ⟨h', e1, e2, fun a j _ _ h3 h4 => by omega, fun j hj => e3 j (by omega) hj, e4⟩
  | m + 1, i, n + 1, h, h1, h2 => by
    have k : cpM (up2 (up2 (up2 (up2 (up2 (up2 (up2 h 6 i (V g2 6 i)) 7 i (V g2 7 i)) 8 i (V g2 8 i)) 9 i (V g2 9 i)) 10 i (V g2 10 i)) 11 i (V g2 11 i)) 12 i (V g2 12 i)) h (V g2) := cpM_t (cpM_u _ _ _ _) (cpM_t (cpM_u _ _ _ _) (cpM_t (cpM_u _ _ _ _) (cpM_t (cpM_u _ _ _ _) (cpM_t (cpM_u _ _ _ _) (cpM_t (cpM_u _ _ _ _) (cpM_u _ _ _ _))))))
    obtain ⟨h', e1, e2, e3, e4⟩ := cp31 hg m (i + 1) n (up2 (up2 (up2 (up2 (up2 (up2 (up2 h 6 i (V g2 6 i)) 7 i (V g2 7 i)) 8 i (V g2 8 i)) 9 i (V g2 9 i)) 10 i (V g2 10 i)) 11 i (V g2 11 i)) 12 i (V g2 12 i)) (by omega) (by omega)
    refine ⟨h', ?_, cpM_t e2 k, fun a j a1 a2 h3 h4 => ?_, e4⟩
    · unfold xX1_copyFrom_L31
      rw [if_neg (show ¬ (10 : Int32) ≤ nI i from nI_ge (a := i) (b := 10) (by omega) (by omega)), grd_eq (inb_nI (by omega) (by omega)), grd_eq (inb_nI (by omega) (by omega)), nI_clamp (by omega)]
      unfold xX5_copyFrom
      rw [put3_d, upG_ne V _ hg, put3_d, upG_ne V _ hg, put3_d, upG_ne V _ hg, put3_d, upG_ne V _ hg, put3_d, upG_ne V _ hg, put3_d, upG_ne V _ hg, put3_d, upG_ne V _ hg, bnd_d, ltI_d, nI_1]
      exact e1
    · by_cases q : j = i
      · subst q
        refine e2 _ _ ?_
        have : a = 6 ∨ a = 7 ∨ a = 8 ∨ a = 9 ∨ a = 10 ∨ a = 11 ∨ a = 12 := by omega
        rcases this with rfl | rfl | rfl | rfl | rfl | rfl | rfl
        · rw [up2_ne _ (by omega), up2_ne _ (by omega), up2_ne _ (by omega), up2_ne _ (by omega), up2_ne _ (by omega), up2_ne _ (by omega), up2_self]
        · rw [up2_ne _ (by omega), up2_ne _ (by omega), up2_ne _ (by omega), up2_ne _ (by omega), up2_ne _ (by omega), up2_self]
        · rw [up2_ne _ (by omega), up2_ne _ (by omega), up2_ne _ (by omega), up2_ne _ (by omega), up2_self]
        · rw [up2_ne _ (by omega), up2_ne _ (by omega), up2_ne _ (by omega), up2_self]
        · rw [up2_ne _ (by omega), up2_ne _ (by omega), up2_self]
        · rw [up2_ne _ (by omega), up2_self]
        · rw [up2_self]
      · exact e3 a j a1 a2 (by omega) h4
/-- equal where it counts -/
def cpEq (h' c : zV2) : Prop := (∀ a l, a ≤ 5 → l < 12 → h' a l = c a l) ∧ (∀ a j, 6 ≤ a → a ≤ 12 → j < 10 → h' a j = c a j) ∧ (∀ j, j < 3 → h' 17 j = c 17 j) ∧ (∀ w j, w < 2 → j < 10 → h' (19 + w) j = c (19 + w) j ∧ h' (21 + w) j = c (21 + w) j) ∧ (∀ w, w < 2 → h' (23 + w) 0 = c (23 + w) 0) ∧ (∀ a, 13 ≤ a → a ≤ 16 → h' a 0 = c a 0)
theorem cp2 {V : zV3} {g g2 : Nat} (hg : g2 ≠ g) (hb : BL (V g2)) : ∀ (m i n : Nat) (h : zV2), i + m = 12 → m < n → ∃ h', xX1_copyFrom_L2 g g2 n (upG V g h) (nI i) = some ((), upG V g h') ∧ cpM h' h (V g2) ∧ (∀ a l, a ≤ 5 → i ≤ l → l < 12 → h' a l = V g2 a l) ∧ (∀ a j, 6 ≤ a → a ≤ 12 → j < 10 → h' a j = V g2 a j) ∧ (∀ j, j < 3 → h' 17 j = V g2 17 j) ∧ (∀ w j, w < 2 → j < 10 → h' (19 + w) j = V g2 (19 + w) j ∧ h' (21 + w) j = V g2 (21 + w) j) ∧ (∀ w, w < 2 → h' (23 + w) 0 = V g2 (23 + w) 0) ∧ (∀ a, 13 ≤ a → a ≤ 16 → h' a 0 = V g2 a 0)
  | m, i, 0, _, _, h => absurd h (by omega)
  | 0, i, n + 1, h, h1, h2 => by
    unfold xX1_copyFrom_L2
    obtain ⟨h', e1, e2, e3, e4⟩ := cp31 (V := V) hg 10 0 1000 h (by omega) (by omega)
    rw [if_pos (show (12 : Int32) ≤ nI i from nI_le (a := 12) (b := i) (by omega) (by omega))]
    exact ⟨h', e1, e2, fun a l _ h3 h4 => by omega, fun a j a1 a2 hj => e3 a j a1 a2 (by omega) hj, e4⟩
  | m + 1, i, n + 1, h, h1, h2 => by
    obtain ⟨b1, b3⟩ := hb i (by omega)
    have k : cpM (up2 (up2 (up2 (up2 (up2 (up2 h 0 i (V g2 0 i)) 1 i (V g2 1 i)) 2 i (V g2 2 i)) 3 i (V g2 3 i)) 4 i (V g2 4 i)) 5 i (V g2 5 i)) h (V g2) := cpM_t (cpM_u _ _ _ _) (cpM_t (cpM_u _ _ _ _) (cpM_t (cpM_u _ _ _ _) (cpM_t (cpM_u _ _ _ _) (cpM_t (cpM_u _ _ _ _) (cpM_u _ _ _ _)))))
    obtain ⟨h', e1, e2, e3, e4⟩ := cp2 hg hb m (i + 1) n (up2 (up2 (up2 (up2 (up2 (up2 h 0 i (V g2 0 i)) 1 i (V g2 1 i)) 2 i (V g2 2 i)) 3 i (V g2 3 i)) 4 i (V g2 4 i)) 5 i (V g2 5 i)) (by omega) (by omega)
    refine ⟨h', ?_, cpM_t e2 k, fun a j a1 h3 h4 => ?_, e4⟩
    · unfold xX1_copyFrom_L2
      rw [if_neg (show ¬ (12 : Int32) ≤ nI i from nI_ge (a := i) (b := 12) (by omega) (by omega)), grd_eq (inb_nI (by omega) (by omega)), grd_eq (inb_nI (by omega) (by omega)), nI_clamp (by omega)]
      unfold xX4_copyFrom
      rw [put3_d, upG_ne V _ hg, upG_ne V _ hg, grd_eq b1, put3_d, upG_ne V _ hg, put3_d, upG_ne V _ hg, grd_eq b3, put3_d, upG_ne V _ hg, put3_d, upG_ne V _ hg, put3_d, bnd_d, ltI_d, nI_1]
      exact e1
    · by_cases q : j = i
      · subst q
        refine e2 _ _ ?_
        have : a = 0 ∨ a = 1 ∨ a = 2 ∨ a = 3 ∨ a = 4 ∨ a = 5 := by omega
        rcases this with rfl | rfl | rfl | rfl | rfl | rfl
        · rw [up2_ne _ (by omega), up2_ne _ (by omega), up2_ne _ (by omega), up2_ne _ (by omega), up2_ne _ (by omega), up2_self]
        · rw [up2_ne _ (by omega), up2_ne _ (by omega), up2_ne _ (by omega), up2_ne _ (by omega), up2_self]
        · rw [up2_ne _ (by omega), up2_ne _ (by omega), up2_ne _ (by omega), up2_self]
        · rw [up2_ne _ (by omega), up2_ne _ (by omega), up2_self]
        · rw [up2_ne _ (by omega), up2_self]
        · rw [up2_self]
      · exact e3 a j a1 (by omega) h4
theorem cp_hall {V : zV3} {g g2 : Nat} (hg : g2 ≠ g) (hb : BL (V g2)) : ∃ h', xX1_copyFrom g g2 V = some ((), upG V g h') ∧ cpEq h' (V g2) := by
  obtain ⟨h', e1, _, e3, e4⟩ := cp2 hg hb 12 0 1000 (V g) (by omega) (by omega)
  rw [upG_id] at e1
  exact ⟨h', e1, fun a l a1 hl => e3 a l a1 (by omega) hl, e4⟩
theorem LN_cp {c' c : zV2} {w : Nat} {L : List (Nat × Nat)} (g : LN c w L) (hl : L.length ≤ 10) (h1 : c' (23 + w) 0 = c (23 + w) 0) (h2 : ∀ j, j < 10 → c' (19 + w) j = c (19 + w) j ∧ c' (21 + w) j = c (21 + w) j) : LN c' w L :=
  ⟨h1.trans g.1, fun i e he => by
    have hi := (List.getElem?_eq_some_iff.mp he).1
    rw [(h2 i (by omega)).1, (h2 i (by omega)).2]
    exact g.2 i e he⟩
theorem RR_cp {lim : Nat} {c c' k : zV2} (g : RR lim c k) (e : cpEq c' c) : RR lim c' k := by
  obtain ⟨nL, nP, D, W, X, hD0, ⟨gS, gL, gP, gW, gX, gT⟩, hWN, hXN, hBJ⟩ := g
  obtain ⟨q1, q2, q3, q4, q5, q6⟩ := e
  have hL := gS.1
  have hP := gS.2.1
  have lW := WV_len gW.2.2
  have lX := WV_len gX.2.2.2.2
  refine ⟨nL, nP, D, W, X, hD0, ⟨?_, ⟨fun l hl => LR1_fr (gL.1 l hl) (fun i hi => q1 i l hi (by omega)) (fun i hi => rfl), fun l h1 h2 => L0_fr (gL.2 l h1 h2) (fun i hi => q1 i l hi h2)⟩, ⟨fun p hp => PR1_fr (gP.1 p hp) (fun i h1 h2 => q2 i p h1 h2 (by omega)) (fun i h1 h2 => rfl), fun p h1 h2 => P0_fr (gP.2 p h1 h2) (fun i h3 h4 => q2 i p h3 h4 h2)⟩, ⟨LN_cp gW.1 (by omega) (q5 0 (by decide)) (fun j hj => q4 0 j (by decide) hj), gW.2⟩, ⟨LN_cp gX.1 (by omega) (q5 1 (by decide)) (fun j hj => q4 1 j (by decide) hj), gX.2⟩, ?_⟩, fun a ha => ?_, fun a ha => ?_, BJ_e hBJ (fun p hp => q2 6 p (by decide) (by decide) hp) (fun l hl => q1 2 l (by decide) hl)⟩
  · unfold GS at gS ⊢
    rw [q6 13 (by decide) (by decide), q6 14 (by decide) (by decide), q6 15 (by decide) (by decide), q3 0 (by decide), q3 1 (by decide), q3 2 (by decide)]
    exact gS
  · unfold GT at gT ⊢
    rw [q6 16 (by decide) (by decide), sm_c (f := c 10) (g := c' 10) (fun i hi => q2 10 i (by decide) (by decide) hi), sm_c (f := c 9) (g := c' 9) (fun i hi => q2 9 i (by decide) (by decide) hi)]
    refine ⟨gT.1, gT.2.1, gT.2.2.1, fun s hs => ?_⟩
    rw [cR_c (f := c 1) (g := c 0) (fun i hi => q1 1 i (by decide) hi) (fun i hi _ => q1 0 i (by decide) hi)]
    exact gT.2.2.2 s hs
  · rw [q2 6 a.1 (by decide) (by decide) (by have := (gW.2.2.1 a ha).1; omega)]
    exact hWN a ha
  · rw [q2 6 a.1 (by decide) (by decide) (by have := (gX.2.2.2.2.1 a ha).1; omega)]
    exact hXN a ha
theorem RR_BL {lim : Nat} {c k : zV2} (g : RR lim c k) : BL c := by
  obtain ⟨nL, nP, D, W, X, hD0, ⟨gS, gL, gP, gW, gX, gT⟩, hWN, hXN, hBJ⟩ := g
  intro l hl
  by_cases h : l < nL
  · obtain ⟨s, st, ho, sp, op, a0, b0, hs, a1, b1, a2, b2, hh, a3, b3, _⟩ := gL.1 l h
    rw [a1, a3]
    exact ⟨bI_b st, bI_b sp⟩
  · have z := gL.2 l (by omega) hl
    rw [z.1, z.2.2.1]
    exact ⟨rfl, rfl⟩
