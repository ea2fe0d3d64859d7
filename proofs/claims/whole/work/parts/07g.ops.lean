/-! pure part: what can be asked of a hall, both sides together -/
def RR (lim : Nat) (c k : zV2) : Prop := ∃ nL nP D W X, D ≤ lim ∧ SR nL nP D 0 (fun _ => D) (fun _ => D) W X c k ∧ WN W c ∧ XN X c ∧ BJ c
def RN (nL nP lim : Nat) (c k : zV2) : Prop := ∃ D W X, D ≤ lim ∧ SR nL nP D 0 (fun _ => D) (fun _ => D) W X c k ∧ WN W c ∧ XN X c ∧ BJ c
theorem RN_RR {nL nP lim : Nat} {c k : zV2} (h : RN nL nP lim c k) : RR lim c k := by
  obtain ⟨D, W, X, h⟩ := h
  exact ⟨nL, nP, D, W, X, h⟩
def OP (x y : Option (Int32 × zV2)) (h : zV2) (lim : Nat) : Prop := ∃ r c' h', x = some (r, c') ∧ y = some (r, h') ∧ RR lim c' (dec h') ∧ nz h' h
theorem OP_s {x y : Option (Int32 × zV2)} {c h : zV2} {lim : Nat} {r : Int32} (g : RR lim c (dec h)) (hx : x = some (r, c)) (hy : y = some (r, h)) : OP x y h lim := ⟨r, c, h, hx, hy, g, nz_r h⟩
theorem rg_in {x M : Int32} {n : Nat} (hM : M.toInt = n) : x < 0 ∨ M < x ∨ ∃ j : Nat, j ≤ n ∧ x = nI j := by
  by_cases h0 : x < 0
  · exact Or.inl h0
  · by_cases h1 : x ≤ M
    · exact Or.inr (Or.inr (nI_of2 hM h0 h1))
    · exact Or.inr (Or.inl (lt_of_nle h1))
theorem cR_c {f g f' g' : Nat → Int32} {s : Nat} : ∀ {n : Nat}, (∀ i, i < n → f' i = f i) → (∀ i, i < n → f i ≠ 0 → g' i = g i) → cR f' g' s n = cR f g s n
  | 0, _, _ => rfl
  | n + 1, hf, hg => by
    show cR f' g' s n + _ = cR f g s n + _
    rw [cR_c (fun i hi => hf i (by omega)) (fun i hi => hg i (by omega)), hf n (by omega)]
    by_cases e : f n = 0
    · rw [if_pos e, if_pos e]
    · rw [if_neg e, if_neg e, hg n (by omega) e]
theorem cR_le {f g : Nat → Int32} {s : Nat} : ∀ (n : Nat), cR f g s n ≤ n
  | 0 => Nat.le_refl _
  | n + 1 => by
    have := cR_le (f := f) (g := g) (s := s) n
    show cR f g s n + _ ≤ n + 1
    split
    · omega
    · split <;> omega
theorem o_addLocker {c h : zV2} {lim : Nat} (p1 : Int32) (g : RR lim c (dec h)) (hlim : lim ≤ 5099) : OP (xX1_addLocker c p1) (xX10_makesLocker h p1) h lim := by
  have g0 := g
  obtain ⟨nL, nP, D, W, X, hD0, ⟨gS, gL, gP, gW, gX, gT⟩, hWN, hXN, hBJ⟩ := g
  obtain ⟨hL, hP, hD, c13, k13, c14, k14, c15, k15, hset⟩ := gS
  rcases rg_in (x := p1) (M := 2) (n := 2) (by decide) with h1 | h1 | ⟨j, hj, rfl⟩
  · refine OP_s (r := -1) g0 ?_ ?_
    · unfold xX1_addLocker
      rw [if_pos h1]
    · unfold xX10_makesLocker
      rw [r_in_l (show p1 < (0 : Int32) from h1), bnd_d, if_pos rfl]
  · have h0 : ¬ p1 < 0 := fun z => by
      rw [Int32.lt_iff_toInt_lt] at z h1
      have e2 : (2 : Int32).toInt = 2 := by decide
      have e0 : (0 : Int32).toInt = 0 := by decide
      omega
    refine OP_s (r := -1) g0 ?_ ?_
    · unfold xX1_addLocker
      rw [if_neg h0, if_neg (nle_of_lt h1)]
    · unfold xX10_makesLocker
      rw [r_in_g h1, bnd_d, if_pos rfl]
  · have j2 : nI j ≤ (2 : Int32) := nI_le (a := j) (b := 2) hj (by omega)
    have j0 : ¬ nI j < (0 : Int32) := nI_pos (by omega)
    by_cases hn : nL = 12
    · refine OP_s (r := -3) g0 ?_ ?_
      · unfold xX1_addLocker
        rw [if_neg j0, if_pos j2, c13, hn, if_neg (by decide)]
      · unfold xX10_makesLocker
        rw [r_in_t j0 (show ¬ (2 : Int32) < nI j from nI_nlt (a := 2) (b := j) hj (by omega)), bnd_d, if_neg (by decide), kg4, ks4 h, k13, hn, if_pos (by decide)]
    · have hl : nL < 12 := by omega
      have z0 := gL.2 nL (Nat.le_refl _) hl
      refine ⟨nI nL, up2 (up2 c 0 nL (nI j)) 13 0 (nI nL + 1), kset (kset (kset (kset (kset (kset (kset h 0 nL (nI j)) 1 nL (-1)) 2 nL (-1)) 3 nL 1) 4 nL (-1)) 5 nL 0) 13 0 (nI nL + 1), ?_, ?_, ?_, nz_t nz_k (nz_t nz_k (nz_t nz_k (nz_t nz_k (nz_t nz_k (nz_t nz_k nz_k)))))⟩
      · unfold xX1_addLocker
        rw [if_neg j0, if_pos j2, c13, if_pos (show nI nL < (12 : Int32) from nI_lt (a := nL) (b := 12) hl (by omega)), grd_eq (inb_nI (by omega) (by omega)), nI_clamp (by omega), put2_d, put2_d, up2_c _ _ _ _ (show 13 ≠ 0 by decide), c13, up2_self, nI_1, nI_pred]
      · have dk : dec (kset (kset (kset (kset (kset (kset h 0 nL (nI j)) 1 nL (-1)) 2 nL (-1)) 3 nL 1) 4 nL (-1)) 5 nL 0) = up2 (up2 (up2 (up2 (up2 (up2 (dec h) 0 nL (nI j)) 1 nL (-1)) 2 nL (-1)) 3 nL 1) 4 nL (-1)) 5 nL 0 := by
          rw [dec_kset (kv5 hl), dec_kset (kv4 hl), dec_kset (kv3 hl), dec_kset (kv2 hl), dec_kset (kv1 hl), dec_kset (kv0 hl)]
        have d13 : dec (kset (kset (kset (kset (kset (kset h 0 nL (nI j)) 1 nL (-1)) 2 nL (-1)) 3 nL 1) 4 nL (-1)) 5 nL 0) 13 0 = nI nL := by
          rw [dk, up2_col _ _ _ (by omega), up2_col _ _ _ (by omega), up2_col _ _ _ (by omega), up2_col _ _ _ (by omega), up2_col _ _ _ (by omega), up2_col _ _ _ (by omega), k13]
        unfold xX10_makesLocker
        rw [r_in_t j0 (show ¬ (2 : Int32) < nI j from nI_nlt (a := 2) (b := j) hj (by omega)), bnd_d, if_neg (by decide), kg4, ks4 h, k13, if_neg (show ¬ nI nL = (12 : Int32) from fun z => hn ((nI_eq (a := nL) (b := 12) (by omega) (by omega)).mp z)), kg4, ltI_d, r_lay0 _ hl, bnd_d, r_lay1 _ hl, bnd_d, r_lay2 _ hl, bnd_d, r_lay3 _ hl, bnd_d, r_lay4 _ hl, bnd_d, r_lay5 _ hl, bnd_d, kg4, kg4, kp4, ks4 (kset (kset (kset (kset (kset (kset h 0 nL (nI j)) 1 nL (-1)) 2 nL (-1)) 3 nL 1) 4 nL (-1)) 5 nL 0), d13]
      · have dk : dec (kset (kset (kset (kset (kset (kset (kset h 0 nL (nI j)) 1 nL (-1)) 2 nL (-1)) 3 nL 1) 4 nL (-1)) 5 nL 0) 13 0 (nI nL + 1)) = up2 (up2 (up2 (up2 (up2 (up2 (up2 (dec h) 0 nL (nI j)) 1 nL (-1)) 2 nL (-1)) 3 nL 1) 4 nL (-1)) 5 nL 0) 13 0 (nI nL + 1) := by
          rw [dec_kset kv13, dec_kset (kv5 hl), dec_kset (kv4 hl), dec_kset (kv3 hl), dec_kset (kv2 hl), dec_kset (kv1 hl), dec_kset (kv0 hl)]
        rw [dk]
        refine ⟨nL + 1, nP, D, W, X, hD0, ⟨?_, ⟨fun q hq => ?_, fun q h1 h2 => ?_⟩, ⟨fun q hq => ?_, fun q h1 h2 => ?_⟩, GW_fr gW (fun i h1 => ?_) (fun i h1 => ?_), GX_fr gX (fun i h1 => ?_) (fun i h1 => ?_), ?_⟩, fun e he => ?_, fun e he => ?_, BJ_e hBJ (fun p _ => ?_) (fun l _ => ?_)⟩
        · refine ⟨by omega, hP, hD, ?_, ?_, ?_, ?_, ?_, ?_, ?_⟩
          · rw [up2_self, nI_1]
          · rw [up2_self, nI_1]
          · rw [up2_col _ _ _ (by omega), up2_col _ _ _ (by omega), c14]
          · rw [up2_col _ _ _ (by omega), up2_col _ _ _ (by omega), up2_col _ _ _ (by omega), up2_col _ _ _ (by omega), up2_col _ _ _ (by omega), up2_col _ _ _ (by omega), up2_col _ _ _ (by omega), k14]
          · rw [up2_col _ _ _ (by omega), up2_col _ _ _ (by omega), c15]
          · rw [up2_col _ _ _ (by omega), up2_col _ _ _ (by omega), up2_col _ _ _ (by omega), up2_col _ _ _ (by omega), up2_col _ _ _ (by omega), up2_col _ _ _ (by omega), up2_col _ _ _ (by omega), k15]
          · rw [up2_col (c := 13) (c' := 17) _ _ _ (by omega), up2_col (c := 0) (c' := 17) _ _ _ (by omega), up2_col (c := 13) (c' := 17) _ _ _ (by omega), up2_col (c := 5) (c' := 17) _ _ _ (by omega), up2_col (c := 4) (c' := 17) _ _ _ (by omega), up2_col (c := 3) (c' := 17) _ _ _ (by omega), up2_col (c := 2) (c' := 17) _ _ _ (by omega), up2_col (c := 1) (c' := 17) _ _ _ (by omega), up2_col (c := 0) (c' := 17) _ _ _ (by omega)]
            exact hset
        · by_cases e : q = nL
          · subst e
            refine ⟨j, false, none, true, none, ?_, ?_, hj, ?_, ?_, ?_, ?_, (fun p hp => by cases hp), ?_, ?_, ?_, ?_, (fun o ho => by cases ho), ?_⟩
            · rw [up2_ne _ (by omega), up2_self]
            · rw [up2_ne _ (by omega), up2_ne _ (by omega), up2_ne _ (by omega), up2_ne _ (by omega), up2_ne _ (by omega), up2_ne _ (by omega), up2_self]
            · rw [up2_ne _ (by omega), up2_ne _ (by omega), z0.1]
              rfl
            · rw [up2_ne _ (by omega), up2_ne _ (by omega), up2_ne _ (by omega), up2_ne _ (by omega), up2_ne _ (by omega), up2_self]
              rfl
            · rw [up2_ne _ (by omega), up2_ne _ (by omega), z0.2.1]
              rfl
            · rw [up2_ne _ (by omega), up2_ne _ (by omega), up2_ne _ (by omega), up2_ne _ (by omega), up2_self]
              rfl
            · rw [up2_ne _ (by omega), up2_ne _ (by omega), z0.2.2.1]
              rfl
            · rw [up2_ne _ (by omega), up2_ne _ (by omega), up2_ne _ (by omega), up2_self]
              rfl
            · rw [up2_ne _ (by omega), up2_ne _ (by omega), z0.2.2.2.1]
              rfl
            · rw [up2_ne _ (by omega), up2_ne _ (by omega), up2_self]
              rfl
            · rw [up2_ne _ (by omega), up2_ne _ (by omega), z0.2.2.2.2, up2_ne _ (by omega), up2_self]
          · refine LR1_fr (gL.1 q (by omega)) (fun i hi => ?_) (fun i hi => ?_)
            · rw [up2_ne _ (by omega), up2_ne _ (by omega)]
            · rw [up2_ne _ (by omega), up2_ne _ (by omega), up2_ne _ (by omega), up2_ne _ (by omega), up2_ne _ (by omega), up2_ne _ (by omega), up2_ne _ (by omega)]
        · refine L0_fr (gL.2 q (by omega) h2) (fun i hi => ?_)
          rw [up2_ne _ (by omega), up2_ne _ (by omega)]
        · obtain ⟨lo, du, re, p6, r6, hlo, rest⟩ := gP.1 q hq
          exact PR1_fr (c := c) (k := dec h) ⟨lo, du, re, p6, r6, fun l e => ⟨by have := (hlo l e).1; omega, (hlo l e).2⟩, rest⟩ (fun i h1 h2 => by rw [up2_ne _ (by omega), up2_ne _ (by omega)]) (fun i h1 h2 => by rw [up2_ne _ (by omega), up2_ne _ (by omega), up2_ne _ (by omega), up2_ne _ (by omega), up2_ne _ (by omega), up2_ne _ (by omega), up2_ne _ (by omega)])
        · exact P0_fr (gP.2 q h1 h2) (fun i h1 h2 => by rw [up2_ne _ (by omega), up2_ne _ (by omega)])
        · rw [up2_col _ _ _ (by omega), up2_col _ _ _ (by omega)]
        · rw [up2_col _ _ _ (by omega), up2_col _ _ _ (by omega), up2_col _ _ _ (by omega), up2_col _ _ _ (by omega), up2_col _ _ _ (by omega), up2_col _ _ _ (by omega), up2_col _ _ _ (by omega)]
        · rw [up2_col _ _ _ (by omega), up2_col _ _ _ (by omega)]
        · rw [up2_col _ _ _ (by omega), up2_col _ _ _ (by omega), up2_col _ _ _ (by omega), up2_col _ _ _ (by omega), up2_col _ _ _ (by omega), up2_col _ _ _ (by omega), up2_col _ _ _ (by omega)]
        · obtain ⟨t1, t2, t3, t4⟩ := gT
          refine ⟨?_, ?_, ?_, fun s hs => ?_⟩
          · rw [up2_col (c := 13) (c' := 16) _ _ _ (by omega), up2_col (c := 5) (c' := 16) _ _ _ (by omega), up2_col (c := 4) (c' := 16) _ _ _ (by omega), up2_col (c := 3) (c' := 16) _ _ _ (by omega), up2_col (c := 2) (c' := 16) _ _ _ (by omega), up2_col (c := 1) (c' := 16) _ _ _ (by omega), up2_col (c := 0) (c' := 16) _ _ _ (by omega), up2_col (c := 13) (c' := 16) _ _ _ (by omega), up2_col (c := 0) (c' := 16) _ _ _ (by omega), t1]
          · rw [up2_col _ _ _ (by omega), up2_col _ _ _ (by omega), up2_col _ _ _ (by omega), up2_col _ _ _ (by omega), up2_col _ _ _ (by omega), up2_col _ _ _ (by omega), up2_col _ _ _ (by omega), t2, up2_col (c := 13) (c' := 10) _ _ _ (by omega), up2_col (c := 0) (c' := 10) _ _ _ (by omega)]
          · rw [up2_col _ _ _ (by omega), up2_col _ _ _ (by omega), up2_col _ _ _ (by omega), up2_col _ _ _ (by omega), up2_col _ _ _ (by omega), up2_col _ _ _ (by omega), up2_col _ _ _ (by omega), t3, up2_col (c := 13) (c' := 10) _ _ _ (by omega), up2_col (c := 0) (c' := 10) _ _ _ (by omega), up2_col (c := 13) (c' := 9) _ _ _ (by omega), up2_col (c := 0) (c' := 9) _ _ _ (by omega)]
          · rw [cR_c (f := c 1) (g := c 0) (fun i hi => by rw [up2_ne _ (by omega), up2_ne _ (by omega)]) (fun i hi hne => ?_)]
            · exact t4 s hs
            · have : i ≠ nL := fun z => hne (by rw [z]; exact z0.1)
              rw [up2_ne _ (by omega), up2_ne _ (by omega)]
        · rw [up2_ne _ (by omega), up2_ne _ (by omega)]
          exact hWN e he
        · rw [up2_ne _ (by omega), up2_ne _ (by omega)]
          exact hXN e he
        · rw [up2_ne _ (by omega), up2_ne _ (by omega)]
        · rw [up2_ne _ (by omega), up2_ne _ (by omega)]
theorem mp0 {h : zV2} {n p : Nat} (hp : p < 10) : xX10_makesPerson_L23 (n + 1) h (nI p) (0 : Int32) = xX10_makesPerson_L23 n (kset h 6 p (-1)) (nI p) (1 : Int32) := by
  conv => lhs; unfold xX10_makesPerson_L23
  rw [if_neg (by decide), if_pos rfl, r_layP0 _ hp, bnd_d]
  rfl
theorem mp1 {h : zV2} {n p : Nat} (hp : p < 10) : xX10_makesPerson_L23 (n + 1) h (nI p) (1 : Int32) = xX10_makesPerson_L23 n (kset h 7 p 0) (nI p) (2 : Int32) := by
  conv => lhs; unfold xX10_makesPerson_L23
  rw [if_neg (by decide), if_neg (by decide), if_neg (by decide), r_layP1 _ hp, bnd_d]
  rfl
theorem mp2 {h : zV2} {n p : Nat} (hp : p < 10) : xX10_makesPerson_L23 (n + 1) h (nI p) (2 : Int32) = xX10_makesPerson_L23 n (kset h 8 p 0) (nI p) (3 : Int32) := by
  conv => lhs; unfold xX10_makesPerson_L23
  rw [if_neg (by decide), if_neg (by decide), if_neg (by decide), r_layP2 _ hp, bnd_d]
  rfl
theorem mp3 {h : zV2} {n p : Nat} (hp : p < 10) : xX10_makesPerson_L23 (n + 1) h (nI p) (3 : Int32) = xX10_makesPerson_L23 n (kset h 9 p 0) (nI p) (4 : Int32) := by
  conv => lhs; unfold xX10_makesPerson_L23
  rw [if_neg (by decide), if_neg (by decide), if_neg (by decide), r_layP3 _ hp, bnd_d]
  rfl
theorem mp4 {h : zV2} {n p : Nat} (hp : p < 10) : xX10_makesPerson_L23 (n + 1) h (nI p) (4 : Int32) = xX10_makesPerson_L23 n (kset h 10 p 0) (nI p) (5 : Int32) := by
  conv => lhs; unfold xX10_makesPerson_L23
  rw [if_neg (by decide), if_neg (by decide), if_neg (by decide), r_layP4 _ hp, bnd_d]
  rfl
theorem mp5 {h : zV2} {n p : Nat} (hp : p < 10) : xX10_makesPerson_L23 (n + 1) h (nI p) (5 : Int32) = xX10_makesPerson_L23 n (kset h 25 p (-1)) (nI p) (6 : Int32) := by
  conv => lhs; unfold xX10_makesPerson_L23
  rw [if_neg (by decide), if_neg (by decide), if_pos rfl, r_layP5 _ hp, bnd_d]
  rfl
theorem mp6 {h : zV2} {n p : Nat} (hp : p < 10) : xX10_makesPerson_L23 (n + 1) h (nI p) (6 : Int32) = xX10_makesPerson_L23 n (kset h 11 p 0) (nI p) (7 : Int32) := by
  conv => lhs; unfold xX10_makesPerson_L23
  rw [if_neg (by decide), if_neg (by decide), if_neg (by decide), r_layP6 _ hp, bnd_d]
  rfl
theorem mp7 {h : zV2} {n p : Nat} (hp : p < 10) : xX10_makesPerson_L23 (n + 1) h (nI p) (7 : Int32) = xX10_makesPerson_L23 n (kset h 12 p 0) (nI p) (8 : Int32) := by
  conv => lhs; unfold xX10_makesPerson_L23
  rw [if_neg (by decide), if_neg (by decide), if_neg (by decide), r_layP7 _ hp, bnd_d]
  rfl
theorem mp8 {h : zV2} {n p : Nat} : xX10_makesPerson_L23 (n + 1) h (nI p) (8 : Int32) = some (nI p, kset h 14 0 (dec h 14 0 + 1)) := by
  unfold xX10_makesPerson_L23
  rw [if_pos (by decide), kg5, kg5, kp5, ks5 h]
def K8 (h : zV2) (p : Nat) : zV2 := kset (kset (kset (kset (kset (kset (kset (kset h 6 p (-1)) 7 p 0) 8 p 0) 9 p 0) 10 p 0) 25 p (-1)) 11 p 0) 12 p 0
def U8 (k : zV2) (p : Nat) : zV2 := up2 (up2 (up2 (up2 (up2 (up2 (up2 (up2 k 6 p (-1)) 7 p 0) 8 p 0) 9 p 0) 10 p 0) 25 p (-1)) 11 p 0) 12 p 0
theorem K8_dec {h : zV2} {p : Nat} (hp : p < 10) : dec (K8 h p) = U8 (dec h) p := by
  unfold K8 U8
  rw [dec_kset (kv12 hp), dec_kset (kv11 hp), dec_kset (kv25 hp), dec_kset (kv10 hp), dec_kset (kv9 hp), dec_kset (kv8 hp), dec_kset (kv7 hp), dec_kset (kv6 hp)]
theorem K8_nz {h : zV2} {p : Nat} : nz (K8 h p) h := nz_t nz_k (nz_t nz_k (nz_t nz_k (nz_t nz_k (nz_t nz_k (nz_t nz_k (nz_t nz_k (nz_k)))))))
theorem U8_ne {k : zV2} {p i q : Nat} (hq : q ≠ p) : U8 k p i q = k i q := by
  unfold U8
  rw [up2_ne _ (by omega), up2_ne _ (by omega), up2_ne _ (by omega), up2_ne _ (by omega), up2_ne _ (by omega), up2_ne _ (by omega), up2_ne _ (by omega), up2_ne _ (by omega)]
theorem U8_col {k : zV2} {p i : Nat} (hi : i < 6 ∨ (12 < i ∧ i ≠ 25)) : U8 k p i = k i := by
  unfold U8
  rw [up2_col _ _ _ (by omega), up2_col _ _ _ (by omega), up2_col _ _ _ (by omega), up2_col _ _ _ (by omega), up2_col _ _ _ (by omega), up2_col _ _ _ (by omega), up2_col _ _ _ (by omega), up2_col _ _ _ (by omega)]
theorem U8_6 {k : zV2} {p : Nat} : U8 k p 6 p = -1 := by
  unfold U8
  rw [up2_ne _ (by omega), up2_ne _ (by omega), up2_ne _ (by omega), up2_ne _ (by omega), up2_ne _ (by omega), up2_ne _ (by omega), up2_ne _ (by omega), up2_self]
theorem U8_7 {k : zV2} {p : Nat} : U8 k p 7 p = 0 := by
  unfold U8
  rw [up2_ne _ (by omega), up2_ne _ (by omega), up2_ne _ (by omega), up2_ne _ (by omega), up2_ne _ (by omega), up2_ne _ (by omega), up2_self]
theorem U8_8 {k : zV2} {p : Nat} : U8 k p 8 p = 0 := by
  unfold U8
  rw [up2_ne _ (by omega), up2_ne _ (by omega), up2_ne _ (by omega), up2_ne _ (by omega), up2_ne _ (by omega), up2_self]
theorem U8_9 {k : zV2} {p : Nat} : U8 k p 9 p = 0 := by
  unfold U8
  rw [up2_ne _ (by omega), up2_ne _ (by omega), up2_ne _ (by omega), up2_ne _ (by omega), up2_self]
theorem U8_10 {k : zV2} {p : Nat} : U8 k p 10 p = 0 := by
  unfold U8
  rw [up2_ne _ (by omega), up2_ne _ (by omega), up2_ne _ (by omega), up2_self]
theorem U8_25 {k : zV2} {p : Nat} : U8 k p 25 p = -1 := by
  unfold U8
  rw [up2_ne _ (by omega), up2_ne _ (by omega), up2_self]
theorem U8_11 {k : zV2} {p : Nat} : U8 k p 11 p = 0 := by
  unfold U8
  rw [up2_ne _ (by omega), up2_self]
theorem U8_12 {k : zV2} {p : Nat} : U8 k p 12 p = 0 := by
  unfold U8
  rw [up2_self]
theorem mpAll {h : zV2} {p : Nat} (hp : p < 10) : xX10_makesPerson_L23 1000 h (nI p) (0 : Int32) = some (nI p, kset (K8 h p) 14 0 (dec (K8 h p) 14 0 + 1)) := by
  rw [mp0 hp, mp1 hp, mp2 hp, mp3 hp, mp4 hp, mp5 hp, mp6 hp, mp7 hp, mp8]
  rfl
theorem WV_mono {nP nP' ms : Nat} {L : List (Nat × Nat)} (h : WV nP ms L) (hle : nP ≤ nP') : WV nP' ms L := ⟨fun e he => ⟨by have := (h.1 e he).1; omega, (h.1 e he).2⟩, h.2⟩
theorem o_addPerson {c h : zV2} {lim : Nat} (g : RR lim c (dec h)) : OP (xX1_addPerson c) (xX10_makesPerson h) h lim := by
  have g0 := g
  obtain ⟨nL, nP, D, W, X, hD0, ⟨gS, gL, gP, gW, gX, gT⟩, hWN, hXN, hBJ⟩ := g
  obtain ⟨hL, hP, hD, c13, k13, c14, k14, c15, k15, hset⟩ := gS
  by_cases hn : nP = 10
  · refine OP_s (r := -3) g0 ?_ ?_
    · unfold xX1_addPerson
      rw [c14, hn, if_neg (by decide)]
    · unfold xX10_makesPerson
      rw [kg5, ks5 h, k14, hn, if_pos (by decide)]
  · have hl : nP < 10 := by omega
    have z0 := gP.2 nP (Nat.le_refl _) hl
    have d14 : dec (K8 h nP) 14 0 = nI nP := by rw [K8_dec hl, U8_col (by omega), k14]
    have dk : dec (kset (K8 h nP) 14 0 (nI nP + 1)) = up2 (U8 (dec h) nP) 14 0 (nI nP + 1) := by rw [dec_kset kv14, K8_dec hl]
    refine ⟨nI nP, up2 c 14 0 (nI nP + 1), kset (K8 h nP) 14 0 (nI nP + 1), ?_, ?_, ?_, nz_t nz_k K8_nz⟩
    · unfold xX1_addPerson
      rw [c14, if_pos (show nI nP < (10 : Int32) from nI_lt (a := nP) (b := 10) hl (by omega)), put2_d, up2_self, nI_1, nI_pred]
    · unfold xX10_makesPerson
      rw [kg5, ks5 h, k14, if_neg (show ¬ nI nP = (10 : Int32) from fun z => hn ((nI_eq (a := nP) (b := 10) (by omega) (by omega)).mp z)), kg5, ltI_d, mpAll hl, d14]
    · rw [dk]
      refine ⟨nL, nP + 1, D, W, X, hD0, ⟨?_, ⟨fun q hq => ?_, fun q h1 h2 => ?_⟩, ⟨fun q hq => ?_, fun q h1 h2 => ?_⟩, ⟨LN_fr gW.1 (up2_col _ _ _ (by omega)) (up2_col _ _ _ (by omega)) (up2_col _ _ _ (by omega)), LN_fr gW.2.1 ?_ ?_ ?_, WV_mono gW.2.2 (by omega)⟩, ?_, GT_fr gT (fun i h1 => ?_) (fun i h1 => ?_)⟩, fun e he => ?_, fun e he => ?_, BJ_e hBJ (fun p _ => up2_ne _ (by omega)) (fun l _ => up2_ne _ (by omega))⟩
      · refine ⟨hL, by omega, hD, ?_, ?_, ?_, ?_, ?_, ?_, ?_⟩
        · rw [up2_col _ _ _ (by omega), c13]
        · rw [up2_col _ _ _ (by omega), U8_col (by omega), k13]
        · rw [up2_self, nI_1]
        · rw [up2_self, nI_1]
        · rw [up2_col _ _ _ (by omega), c15]
        · rw [up2_col _ _ _ (by omega), U8_col (by omega), k15]
        · rw [up2_col (c := 14) (c' := 17) c _ _ (by omega), up2_col (c := 14) (c' := 17) (U8 (dec h) nP) _ _ (by omega), U8_col (i := 17) (by omega)]
          exact hset
      · obtain ⟨s, st, ho, sp, op, a0, b0, hs, a1, b1, a2, b2, hh, rest⟩ := gL.1 q hq
        exact LR1_fr (c := c) (k := dec h) ⟨s, st, ho, sp, op, a0, b0, hs, a1, b1, a2, b2, fun p e => by have := hh p e; omega, rest⟩ (fun i hi => by rw [up2_col _ _ _ (by omega)]) (fun i hi => by rw [up2_col _ _ _ (by omega), U8_col (by omega)])
      · exact L0_fr (gL.2 q h1 h2) (fun i hi => by rw [up2_col _ _ _ (by omega)])
      · by_cases e : q = nP
        · subst e
          refine ⟨none, 0, 0, ?_, ?_, (fun l e => by cases e), ?_, ?_, ?_, ?_, by omega, by omega, ?_, ?_, ?_, ?_⟩
          · rw [up2_col _ _ _ (by omega), z0.1]
            rfl
          · rw [up2_col _ _ _ (by omega), U8_6]
            rfl
          · rw [up2_col _ _ _ (by omega), z0.2.1]
            rfl
          · rw [up2_col _ _ _ (by omega), U8_7]
            rfl
          · rw [up2_col _ _ _ (by omega), z0.2.2.1]
            rfl
          · rw [up2_col _ _ _ (by omega), U8_8]
            rfl
          · rw [up2_col _ _ _ (by omega), up2_col _ _ _ (by omega), U8_9, z0.2.2.2.1]
          · rw [up2_col _ _ _ (by omega), up2_col _ _ _ (by omega), U8_10, z0.2.2.2.2.1]
          · rw [up2_col _ _ _ (by omega), up2_col _ _ _ (by omega), U8_11, z0.2.2.2.2.2.1]
          · rw [up2_col _ _ _ (by omega), up2_col _ _ _ (by omega), U8_12, z0.2.2.2.2.2.2]
        · exact PR1_fr (gP.1 q (by omega)) (fun i h1 h2 => by rw [up2_col _ _ _ (by omega)]) (fun i h1 h2 => by rw [up2_col _ _ _ (by omega), U8_ne e])
      · exact P0_fr (gP.2 q (by omega) h2) (fun i h1 h2 => by rw [up2_col _ _ _ (by omega)])
      · rw [up2_col _ _ _ (by omega), U8_col (by omega)]
      · rw [up2_col _ _ _ (by omega), U8_col (by omega)]
      · rw [up2_col _ _ _ (by omega), U8_col (by omega)]
      · obtain ⟨x1, x2, x3, x4, x5⟩ := gX
        refine ⟨LN_fr x1 (up2_col _ _ _ (by omega)) (up2_col _ _ _ (by omega)) (up2_col _ _ _ (by omega)), ?_, ?_, fun q hq => ?_, WV_mono x5 (by omega)⟩
        · rw [up2_col _ _ _ (by omega), U8_col (by omega), x2]
        · rw [up2_col _ _ _ (by omega), U8_col (by omega)]
          exact x3
        · rw [up2_col _ _ _ (by omega)]
          by_cases e : q = nP
          · subst e
            rw [U8_25, szI_no (fun e he z => by have := (x5.1 e he).1; omega)]
          · rw [U8_ne e, x4 q (by omega)]
      · rw [up2_col _ _ _ (by omega)]
      · rw [up2_col _ _ _ (by omega), U8_col (by omega)]
      · rw [up2_col _ _ _ (by omega)]
        exact hWN e he
      · rw [up2_col _ _ _ (by omega)]
        exact hXN e he
/-! rows -/
theorem c_stand1 {c : zV2} {s : Nat} (hs : s ≤ 2) (hc : ∀ l, l < 12 → ∃ z, z ≤ 2 ∧ (c 1 l ≠ 0 → c 0 l = nI z)) : ∀ (m i n : Nat), i + m = 12 → m < n → xX1_standingOf_L4 (nI s) n c (nI (cR (c 1) (c 0) s i)) (nI i) = some (nI (cR (c 1) (c 0) s 12), c)
  | m, i, 0, _, h => absurd h (by omega)
  | 0, i, n + 1, h1, h2 => by
    unfold xX1_standingOf_L4
    rw [if_pos (show (12 : Int32) ≤ nI i from nI_le (a := 12) (b := i) (by omega) (by omega)), show i = 12 by omega]
  | m + 1, i, n + 1, h1, h2 => by
    have ih := c_stand1 hs hc m (i + 1) n (by omega) (by omega)
    obtain ⟨z, hz, hz'⟩ := hc i (by omega)
    unfold xX1_standingOf_L4
    rw [if_neg (show ¬ (12 : Int32) ≤ nI i from nI_ge (a := i) (b := 12) (by omega) (by omega)), grd_eq (inb_nI (by omega) (by omega)), nI_clamp (by omega), grd_eq (inb_nI (by omega) (by omega))]
    simp only [ltI_d, show (0 : Int32) = nI 0 from rfl, show (1 : Int32) = nI 1 from rfl, nI_add, Nat.add_zero]
    have e : cR (c 1) (c 0) s (i + 1) = cR (c 1) (c 0) s i + (if c 1 i = 0 then 0 else if c 0 i = nI s then 1 else 0) := rfl
    by_cases h3 : c 1 i = 0
    · rw [if_pos h3] at e
      rw [if_pos (show c 1 i = nI 0 from h3)]
      rw [e] at ih
      exact ih
    · rw [if_neg h3] at e
      rw [if_neg (show ¬ c 1 i = nI 0 from h3)]
      by_cases h4 : c 0 i = nI s
      · rw [if_pos h4] at e
        rw [if_pos h4]
        rw [e] at ih
        exact ih
      · rw [if_neg h4] at e
        rw [if_neg h4]
        rw [e] at ih
        exact ih
theorem cR_end {f g : Nat → Int32} {s n : Nat} : ∀ (m : Nat), (∀ i, n ≤ i → i < n + m → f i = 0) → cR f g s (n + m) = cR f g s n
  | 0, _ => rfl
  | m + 1, h => by
    show cR f g s (n + m) + (if f (n + m) = 0 then 0 else if g (n + m) = nI s then 1 else 0) = _
    rw [if_pos (h (n + m) (by omega) (by omega)), cR_end m (fun i h1 h2 => h i h1 (by omega)), Nat.add_zero]
theorem r_inRow1 {c h : zV2} {nL nP s : Nat} {B : Nat → Nat} (g : GL nL nP B c (dec h)) (hL : nL ≤ 12) (hk : dec h 13 0 = nI nL) (hs : s ≤ 2) : ∀ (m i n : Nat), i + m = nL → m < n → xX10_inRow_L4 (nI s) n h (nI (cR (c 1) (c 0) s i)) (nI i) = some (nI (cR (c 1) (c 0) s nL), h)
  | m, i, 0, _, h => absurd h (by omega)
  | 0, i, n + 1, h1, h2 => by
    unfold xX10_inRow_L4
    rw [kg4, ks4 h, hk, if_pos (nI_le (by omega) (by omega)), show i = nL by omega]
  | m + 1, i, n + 1, h1, h2 => by
    have ih := r_inRow1 g hL hk hs m (i + 1) n (by omega) (by omega)
    obtain ⟨z, st, ho, sp, op, a0, b0, hz, a1, b1, _⟩ := g.1 i (by omega)
    unfold xX10_inRow_L4
    rw [kg4, ks4 h, hk, if_neg (nI_ge (by omega) (by omega)), r_of1 (by omega), bnd_d]
    simp only [ltI_d, show (0 : Int32) = nI 0 from rfl, show (1 : Int32) = nI 1 from rfl, nI_add, Nat.add_zero]
    have e : cR (c 1) (c 0) s (i + 1) = cR (c 1) (c 0) s i + (if c 1 i = 0 then 0 else if c 0 i = nI s then 1 else 0) := rfl
    rw [a1, a0] at e
    rw [b1]
    cases st with
    | false =>
      rw [if_pos (by decide)] at e
      rw [e] at ih
      rw [if_neg (show ¬ (if false = true then nI z else (-1 : Int32)) = nI s from fun q => nI_ne1 (n := s) (by omega) q.symm)]
      exact ih
    | true =>
      rw [if_neg (by decide)] at e
      rw [e] at ih
      by_cases h4 : nI z = nI s
      · rw [if_pos h4] at ih
        rw [if_pos (show (if true = true then nI z else (-1 : Int32)) = nI s from h4)]
        exact ih
      · rw [if_neg h4] at ih
        rw [if_neg (show ¬ (if true = true then nI z else (-1 : Int32)) = nI s from h4)]
        exact ih
theorem cR_nL {c k : zV2} {nL nP s : Nat} {B : Nat → Nat} (g : GL nL nP B c k) (hL : nL ≤ 12) : cR (c 1) (c 0) s 12 = cR (c 1) (c 0) s nL := by
  have := cR_end (f := c 1) (g := c 0) (s := s) (n := nL) (12 - nL) (fun i h1 h2 => (g.2 i h1 (by omega)).1)
  rwa [show nL + (12 - nL) = 12 by omega] at this
theorem r_inRow {c h : zV2} {nL nP s : Nat} {B : Nat → Nat} (g : GL nL nP B c (dec h)) (hL : nL ≤ 12) (hk : dec h 13 0 = nI nL) (hs : s ≤ 2) : xX10_inRow h (nI s) = some (nI (cR (c 1) (c 0) s 12), h) := by
  rw [cR_nL g hL]
  exact r_inRow1 g hL hk hs nL 0 1000 (by omega) (by omega)
theorem c_stand {c k : zV2} {nL nP s : Nat} {B : Nat → Nat} (g : GL nL nP B c k) (hs : s ≤ 2) : xX1_standingOf c (nI s) = some (nI (cR (c 1) (c 0) s 12), c) :=
  c_stand1 hs (fun l hl => by
    by_cases q : l < nL
    · obtain ⟨z, st, ho, sp, op, a0, b0, hz, _⟩ := g.1 l q
      exact ⟨z, hz, fun _ => a0⟩
    · exact ⟨0, by omega, fun z => absurd (g.2 l (by omega) hl).1 z⟩) 12 0 1000 (by omega) (by omega)
theorem cR_up {f g f' : Nat → Int32} {s t l : Nat} (hg : g l = nI s) (hf : f l = 0) (hf' : f' l ≠ 0) (ho : ∀ i, i ≠ l → f' i = f i) (hs : s ≤ 2) (ht : t ≤ 2) : ∀ (n : Nat), cR f' g t n = cR f g t n + (if l < n ∧ t = s then 1 else 0)
  | 0 => by rw [if_neg (by omega)]; rfl
  | n + 1 => by
    show cR f' g t n + _ = cR f g t n + _ + _
    rw [cR_up hg hf hf' ho hs ht n]
    by_cases e : n = l
    · subst e
      rw [if_neg (show ¬ (n < n ∧ t = s) by omega), if_neg hf', if_pos hf, hg]
      by_cases q : t = s
      · rw [if_pos (by rw [q]), if_pos (by omega)]
      · rw [if_neg (fun z => q ((nI_eq (by omega) (by omega)).mp z).symm), if_neg (by omega)]
    · rw [ho n e]
      by_cases q : l < n ∧ t = s
      · rw [if_pos q, if_pos (show l < n + 1 ∧ t = s by omega)]
        omega
      · rw [if_neg q, if_neg (show ¬ (l < n + 1 ∧ t = s) by omega)]
        omega
