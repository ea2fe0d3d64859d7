/-! the share of days overdue, on both sides -/
def nsum (f : Nat → Nat) : Nat → Nat
  | 0 => 0
  | n + 1 => nsum f n + f n
theorem nsum_c {f g : Nat → Nat} : ∀ n : Nat, (∀ i, i < n → f i = g i) → nsum f n = nsum g n
  | 0, _ => rfl
  | n + 1, h => by
    show nsum f n + f n = nsum g n + g n
    rw [nsum_c n (fun i hi => h i (by omega)), h n (by omega)]
theorem nsum_z {f : Nat → Nat} : ∀ n : Nat, (∀ i, i < n → f i = 0) → nsum f n = 0
  | 0, _ => rfl
  | n + 1, h => by
    show nsum f n + f n = 0
    rw [nsum_z n (fun i hi => h i (by omega)), h n (by omega)]
theorem nsum_a (f g : Nat → Nat) : ∀ n : Nat, nsum (fun i => f i + g i) n = nsum f n + nsum g n
  | 0 => rfl
  | n + 1 => by
    show nsum (fun i => f i + g i) n + (f n + g n) = nsum f n + f n + (nsum g n + g n)
    rw [nsum_a f g n]
    omega
theorem nsum_s (e : Nat → Nat → Nat) (m : Nat) : ∀ n : Nat, nsum (fun p => nsum (fun l => e p l) m) n = nsum (fun l => nsum (fun p => e p l) n) m
  | 0 => (nsum_z m (fun _ _ => rfl)).symm
  | n + 1 => by
    show nsum (fun p => nsum (fun l => e p l) m) n + nsum (fun l => e n l) m = nsum (fun l => nsum (fun p => e p l) n + e n l) m
    rw [nsum_s e m n, nsum_a]
theorem nsum_1 {f : Nat → Nat} {k : Nat} (h0 : ∀ i, i ≠ k → f i = 0) (h1 : f k = 1) : ∀ n : Nat, nsum f n = if k < n then 1 else 0
  | 0 => by rw [if_neg (by omega)]; rfl
  | n + 1 => by
    show nsum f n + f n = _
    rw [nsum_1 h0 h1 n]
    by_cases e : k = n
    · subst e
      rw [if_neg (by omega), h1, if_pos (by omega)]
    · rw [h0 n (fun z => e z.symm)]
      by_cases h : k < n
      · rw [if_pos h, if_pos (by omega)]
      · rw [if_neg h, if_neg (by omega)]
theorem nsum_b {f : Nat → Nat} {b : Nat} : ∀ n : Nat, (∀ i, i < n → f i ≤ b) → nsum f n ≤ b * n
  | 0, _ => Nat.zero_le _
  | n + 1, h => by
    have h1 := nsum_b n (fun i hi => h i (by omega))
    have h2 := h n (by omega)
    show nsum f n + f n ≤ b * (n + 1)
    rw [Nat.mul_succ]
    omega
theorem nsum_e {f : Nat → Nat} {n : Nat} : ∀ m : Nat, (∀ i, n ≤ i → i < n + m → f i = 0) → nsum f (n + m) = nsum f n
  | 0, _ => rfl
  | m + 1, h => by
    show nsum f (n + m) + f (n + m) = nsum f n
    rw [nsum_e m (fun i h1 h2 => h i h1 (by omega)), h (n + m) (by omega) (by omega), Nat.add_zero]
theorem sm_n (f : Nat → Nat) : ∀ n : Nat, sm (fun i => nI (f i)) n = nI (nsum f n)
  | 0 => rfl
  | n + 1 => by
    show sm (fun i => nI (f i)) n + nI (f n) = nI (nsum f n + f n)
    rw [sm_n f n, nI_add]
def hz (x : Int32) : Nat := if x = -1 then 0 else 1
/-- as many people have a locker as lockers are held -/
theorem bj_count {f6 f2 : Nat → Int32} (h : bj f6 f2) (h6 : ∀ p, p < 10 → f6 p = -1 ∨ ∃ l, l < 12 ∧ f6 p = nI l) (h2 : ∀ l, l < 12 → f2 l = -1 ∨ ∃ p, p < 10 ∧ f2 l = nI p) : nsum (fun p => hz (f6 p)) 10 = nsum (fun l => hz (f2 l)) 12 := by
  have e1 : nsum (fun p => hz (f6 p)) 10 = nsum (fun p => nsum (fun l => if f6 p = nI l then 1 else 0) 12) 10 := nsum_c 10 (fun p hp => by
    show hz (f6 p) = nsum (fun l => if f6 p = nI l then 1 else 0) 12
    rcases h6 p hp with e | ⟨l, hl, e⟩
    · rw [nsum_z 12 (fun l hl => if_neg (fun z => nI_ne1 (n := l) (by omega) (z.symm.trans e))), e]
      rfl
    · have t : nsum (fun q => if q = l then 1 else 0) 12 = 1 := by
        rw [nsum_1 (k := l) (fun i hi => if_neg hi) (if_pos rfl), if_pos hl]
      rw [nsum_c (f := fun q => if f6 p = nI q then 1 else 0) (g := fun q => if q = l then 1 else 0) 12 (fun q hq => by
        by_cases z : q = l
        · rw [if_pos z, z, if_pos e]
        · rw [if_neg z, if_neg (fun y => z (nI_i (by omega) (by omega) (y.symm.trans e)))]), t]
      unfold hz
      rw [if_neg (by rw [e]; exact nI_ne1 (by omega))])
  have e2 : nsum (fun l => hz (f2 l)) 12 = nsum (fun l => nsum (fun p => if f6 p = nI l then 1 else 0) 10) 12 := nsum_c 12 (fun l hl => by
    show hz (f2 l) = nsum (fun p => if f6 p = nI l then 1 else 0) 10
    rcases h2 l hl with e | ⟨p, hp, e⟩
    · rw [nsum_z 10 (fun p hp => if_neg (fun z => nI_ne1 (n := p) (by omega) ((h.1 p l hp hl z).symm.trans e))), e]
      rfl
    · have t : nsum (fun q => if q = p then 1 else 0) 10 = 1 := by
        rw [nsum_1 (k := p) (fun i hi => if_neg hi) (if_pos rfl), if_pos hp]
      rw [nsum_c (f := fun q => if f6 q = nI l then 1 else 0) (g := fun q => if q = p then 1 else 0) 10 (fun q hq => by
        by_cases z : q = p
        · rw [if_pos z, z, if_pos (h.2 p l hp hl e)]
        · rw [if_neg z, if_neg (fun y => z (nI_i (by omega) (by omega) ((h.1 q l hq hl y).symm.trans e)))]), t]
      unfold hz
      rw [if_neg (by rw [e]; exact nI_ne1 (by omega))])
  rw [e1, e2, nsum_s]
def kk (c : zV2) (D p : Nat) : Nat := if c 6 p = -1 then 0 else D - (c 7 p).toNatClampNeg
theorem c_kk {c k : zV2} {nL nP D : Nat} (gP : GP nL nP (fun _ => D) c k) (hD : D ≤ 5099) (c15 : c 15 0 = nI D) {p : Nat} (hp : p < 10) : xX5_overdueOn p c (c 15 0) = some (nI (kk c D p), c) ∧ kk c D p ≤ 20 := by
  unfold kk
  by_cases e : c 6 p = -1
  · rw [if_pos e]
    exact ⟨c_over0 e, by omega⟩
  · rw [if_neg e]
    have hn : p < nP := by
      rcases Nat.lt_or_ge p nP with q | q
      · exact q
      · exact absurd (gP.2 p q hp).1 e
    obtain ⟨lo, du, re, p6, r6, hlo, p7, r7, p8, r8, z1, z2, _⟩ := gP.1 p hn
    rw [p7, nI_clamp (by omega)]
    refine ⟨?_, ?_⟩
    · unfold xX5_overdueOn
      rw [if_neg e, p7, c15]
      by_cases q : du < D
      · rw [if_pos (nI_lt q (by omega)), pk_sub (by omega)]
      · rw [if_neg (nI_nlt (by omega) (by omega)), show D - du = 0 by omega]
        rfl
    · cases lo with
      | none => exact absurd p6 e
      | some l =>
        have : D ≤ du + 20 := (hlo l rfl).2
        omega
theorem c_ovd {c k : zV2} {nL nP D : Nat} (gP : GP nL nP (fun _ => D) c k) (hD : D ≤ 5099) (c15 : c 15 0 = nI D) : xX1_overdueDays c = some (nI (nsum (kk c D) 10), c) := by
  have := sm_loop (f := xX1_overdueDays_L4) (N := 10) (c := c) (g := fun p => nI (kk c D p)) (fun n a => by
    unfold xX1_overdueDays_L4
    rw [if_pos (by decide)]) (fun n a i hi => by
    conv => lhs; unfold xX1_overdueDays_L4
    rw [if_neg (show ¬ (10 : Int32) ≤ nI i from nI_ge (a := i) (b := 10) (by omega) (by omega)), grd_eq (inb_nI (by omega) (by omega)), nI_clamp (by omega), (c_kk gP hD c15 hi).1, bnd_d, ltI_d, ltI_d, nI_1]) 10 0 1000 (by omega) (by omega)
  exact this.trans (congrArg (fun x => some (x, c)) (sm_n (kk c D) 10))
def finR (h : zV2) (a1 a2 : Int32) : Option (Int32 × zV2) := if a1 = 0 then some ((-4 : Int32), h) else grd (nn32 (FP.fdiv (FP.i2f a2) (FP.i2f a1))) <| bnd (xJxf58ca_floatToIntBits_5c35a h (FP.fdiv (FP.i2f a2) (FP.i2f a1))) fun r5 h7 => some (r5, h7)
theorem r_ovl {c h : zV2} {nL nP D : Nat} (gP : GP nL nP (fun _ => D) c (dec h)) (hD : D ≤ 5099) (hP : nP ≤ 10) (k14 : dec h 14 0 = nI nP) (k15 : dec h 15 0 = nI D) (hL : nL ≤ 12) : ∀ (m i n : Nat), i + m = nP → m < n → xX10_overdueBits_L6 n h (nI (nsum (fun p => hz (c 6 p)) i)) (nI (nsum (kk c D) i)) (nI i) = finR h (nI (nsum (fun p => hz (c 6 p)) nP)) (nI (nsum (kk c D) nP))
  | m, i, 0, _, h => absurd h (by omega)
  | 0, i, n + 1, h1, h2 => by
    have e : i = nP := by omega
    subst e
    unfold xX10_overdueBits_L6
    rw [kg5, ks5 h, k14, if_pos (nI_le (by omega) (by omega))]
    rfl
  | m + 1, i, n + 1, h1, h2 => by
    have ih := r_ovl gP hD hP k14 k15 hL m (i + 1) n (by omega) (by omega)
    obtain ⟨lo, du, re, p6, r6, hlo, p7, r7, p8, r8, z1, z2, _⟩ := gP.1 i (by omega)
    rw [← ih]
    conv => lhs; unfold xX10_overdueBits_L6
    rw [kg5, ks5 h, k14, if_neg (nI_ge (by omega) (by omega)), r_ofP0 (by omega), bnd_d, r6]
    show _ = xX10_overdueBits_L6 n h (nI (nsum (fun p => hz (c 6 p)) i + hz (c 6 i))) (nI (nsum (kk c D) i + kk c D i)) (nI (i + 1))
    unfold xX10_overdueBits_L31 kk hz
    cases lo with
    | none =>
      rw [if_pos (show oI none < 0 by decide), if_pos (show c 6 i = -1 from p6), if_pos (show c 6 i = -1 from p6), ltI_d, r_ofP0 (by omega), bnd_d, r6, if_pos (show oI none < 0 by decide)]
      simp only [ltI_d, nI_1, Int32.add_zero, Nat.add_zero]
    | some l =>
      have n6 : ¬ c 6 i = -1 := by
        rw [p6]
        have := (hlo l rfl).1
        exact nI_ne1 (by omega)
      have hl := (hlo l rfl).1
      have np : ¬ oI (some l) < 0 := nI_pos (n := l) (by omega)
      have v2 := (s_over (c := c) (h := h) (p := i) (D := D) (by omega) n6 p7 r7 hD (by omega) k15).2
      rw [if_neg np, if_neg n6, if_neg n6, ltI_d, r_ofP0 (by omega), bnd_d, r6, if_neg np, v2, bnd_d, p7, nI_clamp (by omega)]
      simp only [ltI_d, nI_1, nI_add]
theorem okF_use {a b : Nat} (ha : a ≤ 200) (hb : b ≤ 10) (h0 : b ≠ 0) (V : zV3) : nn32 (FP.fdiv (FP.i2f (nI a)) (FP.i2f (nI b))) = true ∧ xX9_bitsOfFloat V (FP.fdiv (FP.i2f (nI a)) (FP.i2f (nI b))) = some ((FP.fdiv (FP.i2f (nI a)) (FP.i2f (nI b))).toInt32, V) ∧ Op.cmpValue (FP.fcmp (FP.fdiv (FP.i2f (nI a)) (FP.i2f (nI b))) (FP.fdiv (FP.i2f (nI a)) (FP.i2f (nI b)))) .l = 0 := by
  have h := (okF_all ⟨a, by omega⟩ ⟨b, by omega⟩).resolve_left h0
  have h' : okF a b = true := h
  unfold okF at h'
  simp only [Bool.and_eq_true, beq_iff_eq, decide_eq_true_eq] at h'
  obtain ⟨h1, h2, h3⟩ := h'
  refine ⟨h1, ?_, h3⟩
  rw [bf]
  cases q : xX9_bitsOfFloat V00 (FP.fdiv (FP.i2f (nI a)) (FP.i2f (nI b))) with
  | none => rw [q] at h2; cases h2
  | some x =>
    rw [q] at h2
    exact congrArg (fun y => some (y, V)) (Option.some.inj h2)
theorem PUB_overdueBits {V : zV3} (R : Rel V) : PUB V (xX9_overdueBits V) (xX10_overdueBits (V 8)) := by
  obtain ⟨nL, nP, D, W, X, hD0, ⟨gS, gL, gP, gW, gX, gT⟩, hWN, hXN, hBJ⟩ := R.1
  have hL := gS.1
  have hP := gS.2.1
  have hD := gS.2.2.1
  have k14 := gS.2.2.2.2.2.2.1
  have c15 := gS.2.2.2.2.2.2.2.1
  have k15 := gS.2.2.2.2.2.2.2.2.1
  have h6 : ∀ p, p < 10 → V 0 6 p = -1 ∨ ∃ l, l < 12 ∧ V 0 6 p = nI l := fun p hp => by
    by_cases q : p < nP
    · obtain ⟨lo, du, re, p6, r6, hlo, _⟩ := gP.1 p q
      cases lo with
      | none => exact Or.inl p6
      | some l => exact Or.inr ⟨l, by have := (hlo l rfl).1; omega, p6⟩
    · exact Or.inl (gP.2 p (by omega) hp).1
  have h2 : ∀ l, l < 12 → V 0 2 l = -1 ∨ ∃ p, p < 10 ∧ V 0 2 l = nI p := fun l hl => by
    by_cases q : l < nL
    · obtain ⟨s, st, ho, sp, op, a0, b0, hs, a1, b1, a2, b2, hh, _⟩ := gL.1 l q
      cases ho with
      | none => exact Or.inl a2
      | some p => exact Or.inr ⟨p, by have := hh p rfl; omega, a2⟩
    · exact Or.inl (gL.2 l (by omega) hl).2.1
  have hc := bj_count hBJ h6 h2
  have hT : sm (fun l => bI (decide (V 0 2 l ≠ -1))) 12 = nI (nsum (fun p => hz (V 0 6 p)) 10) := by
    rw [hc, ← sm_n]
    refine sm_c (fun l hl => ?_)
    show bI (decide (V 0 2 l ≠ -1)) = nI (hz (V 0 2 l))
    unfold hz
    by_cases e : V 0 2 l = -1
    · rw [if_pos e, decide_eq_false (fun z => z e)]
      rfl
    · rw [if_neg e, decide_eq_true e]
      rfl
  have hT10 : nsum (fun p => hz (V 0 6 p)) 10 ≤ 10 := nsum_b (b := 1) 10 (fun i _ => by unfold hz; split <;> omega)
  have hK : nsum (kk (V 0) D) 10 ≤ 200 := nsum_b (b := 20) 10 (fun i hi => (c_kk gP hD c15 hi).2)
  have eT : nsum (fun p => hz (V 0 6 p)) nP = nsum (fun p => hz (V 0 6 p)) 10 := by
    have := nsum_e (f := fun p => hz (V 0 6 p)) (n := nP) (10 - nP) (fun i h1 h2 => by rw [(gP.2 i h1 (by omega)).1]; rfl)
    rw [show nP + (10 - nP) = 10 by omega] at this
    exact this.symm
  have eK : nsum (kk (V 0) D) nP = nsum (kk (V 0) D) 10 := by
    have := nsum_e (f := kk (V 0) D) (n := nP) (10 - nP) (fun i h1 h2 => if_pos (gP.2 i h1 (by omega)).1)
    rw [show nP + (10 - nP) = 10 by omega] at this
    exact this.symm
  have er : xX10_overdueBits (V 8) = finR (V 8) (nI (nsum (fun p => hz (V 0 6 p)) 10)) (nI (nsum (kk (V 0) D) 10)) := by
    have := r_ovl gP hD hP k14 k15 hL nP 0 1000 (by omega) (by omega)
    rw [eT, eK] at this
    exact this
  rw [er]
  unfold xX9_overdueBits finR
  rw [bndG_eq (c_lent (V 0)), upG_id, hT]
  by_cases z : nsum (fun p => hz (V 0 6 p)) 10 = 0
  · rw [z, if_pos (show nI 0 = 0 from rfl), if_pos (show nI 0 = 0 from rfl)]
    exact PUB_same R rfl rfl
  · obtain ⟨u1, u2, u3⟩ := okF_use hK hT10 z V
    rw [if_neg (nI_ne0 (by omega) (by omega)), if_neg (nI_ne0 (by omega) (by omega)), bndG_eq (c_ovd gP hD c15), upG_id, grd_eq u1, u2, bnd_d, grd_eq u1]
    unfold xJxf58ca_floatToIntBits_5c35a xJxf58ca_isNaN_12338
    rw [if_pos u3, bnd_d, if_pos rfl, bnd_d]
    exact PUB_same R rfl rfl
