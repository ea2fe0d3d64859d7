/-! pure part: numbers that are told -/
theorem sm_loop {c : zV2} {g : Nat → Int32} {N : Nat} {f : Nat → zV2 → Int32 → Int32 → Option (Int32 × zV2)}
    (hz : ∀ n a, f (n + 1) c a (nI N) = some (a, c)) (hs : ∀ n a (i : Nat), i < N → f (n + 1) c a (nI i) = f n c (a + g i) (nI (i + 1))) : ∀ (m i n : Nat), i + m = N → m < n → f n c (sm g i) (nI i) = some (sm g N, c)
  | m, i, 0, _, h => absurd h (by omega)
  | 0, i, n + 1, h1, h2 => by rw [show i = N by omega, hz n _]
  | m + 1, i, n + 1, h1, h2 => by
    rw [hs n _ i (by omega)]
    exact sm_loop hz hs m (i + 1) n (by omega) (by omega)
def bFree (c : zV2) (l : Nat) : Bool := decide (c 1 l ≠ 0) && (decide (c 2 l = -1) && decide (c 4 l = -1))
theorem c_isFreeB (c : zV2) (l : Nat) : xX4_isFree l c = some (bI (bFree c l), c) := by
  unfold xX4_isFree bFree
  by_cases h1 : c 1 l = 0
  · rw [if_pos h1, decide_eq_false (show ¬ c 1 l ≠ 0 from fun z => z h1)]
    rfl
  · rw [if_neg h1, decide_eq_true (show c 1 l ≠ 0 from h1)]
    by_cases h2 : c 2 l = -1
    · rw [if_pos h2, decide_eq_true h2]
      by_cases h3 : c 4 l = -1
      · rw [if_pos h3, decide_eq_true h3]
        rfl
      · rw [if_neg h3, decide_eq_false h3]
        rfl
    · rw [if_neg h2, decide_eq_false h2]
      rfl
theorem bI_inj {a b : Bool} (h : bI a = bI b) : a = b := by
  cases a <;> cases b <;> first | rfl | (exact absurd h (by decide))
theorem bI_add (a : Int32) (b : Bool) {β : Type} (k : Int32 → β) : (if bI b = 0 then k (a + 0) else k (a + 1)) = k (a + bI b) := by
  cases b <;> rfl
theorem c_free (c : zV2) : xX1_freeLockers c = some (sm (fun l => bI (bFree c l)) 12, c) :=
  sm_loop (f := xX1_freeLockers_L4) (N := 12) (g := fun l => bI (bFree c l)) (fun n a => by
    unfold xX1_freeLockers_L4
    rw [if_pos (by decide)]) (fun n a i hi => by
    conv => lhs; unfold xX1_freeLockers_L4
    rw [if_neg (show ¬ (12 : Int32) ≤ nI i from nI_ge (a := i) (b := 12) (by omega) (by omega)), grd_eq (inb_nI (by omega) (by omega)), nI_clamp (by omega), c_isFreeB, bnd_d]
    simp only [ltI_d, nI_1]
    exact bI_add a (bFree c i) (fun y => xX1_freeLockers_L4 n c y (nI (i + 1)))) 12 0 1000 (by omega) (by omega)
theorem c_lent (c : zV2) : xX1_lentLockers c = some (sm (fun l => bI (decide (c 2 l ≠ -1))) 12, c) :=
  sm_loop (f := xX1_lentLockers_L4) (N := 12) (g := fun l => bI (decide (c 2 l ≠ -1))) (fun n a => by
    unfold xX1_lentLockers_L4
    rw [if_pos (by decide)]) (fun n a i hi => by
    conv => lhs; unfold xX1_lentLockers_L4
    rw [if_neg (show ¬ (12 : Int32) ≤ nI i from nI_ge (a := i) (b := 12) (by omega) (by omega)), grd_eq (inb_nI (by omega) (by omega)), nI_clamp (by omega)]
    simp only [ltI_d, nI_1]
    by_cases z : c 2 i = -1
    · rw [if_pos z, decide_eq_false (show ¬ c 2 i ≠ -1 from fun y => y z)]
      rfl
    · rw [if_neg z, decide_eq_true z]
      rfl) 12 0 1000 (by omega) (by omega)
theorem c_closed (c : zV2) : xX1_closedLockers c = some (sm (fun l => bI (decide (c 4 l ≠ -1))) 12, c) :=
  sm_loop (f := xX1_closedLockers_L4) (N := 12) (g := fun l => bI (decide (c 4 l ≠ -1))) (fun n a => by
    unfold xX1_closedLockers_L4
    rw [if_pos (by decide)]) (fun n a i hi => by
    conv => lhs; unfold xX1_closedLockers_L4
    rw [if_neg (show ¬ (12 : Int32) ≤ nI i from nI_ge (a := i) (b := 12) (by omega) (by omega)), grd_eq (inb_nI (by omega) (by omega)), nI_clamp (by omega)]
    simp only [ltI_d, nI_1]
    by_cases z : c 4 i = -1
    · rw [if_pos z, decide_eq_false (show ¬ c 4 i ≠ -1 from fun y => y z)]
      rfl
    · rw [if_neg z, decide_eq_true z]
      rfl) 12 0 1000 (by omega) (by omega)
theorem r_that {c h : zV2} {nL nP : Nat} {B : Nat → Nat} (g : GL nL nP B c (dec h)) (hL : nL ≤ 12) (hk : dec h 13 0 = nI nL) (t : Int32) (b : Nat → Bool) (hb : ∀ l, nL ≤ l → l < 12 → b l = false)
    (hs : ∀ n a (i : Nat), i < nL → xX10_lockersThat_L4 t (n + 1) h a (nI i) = xX10_lockersThat_L84 t (xX10_lockersThat_L4 t n) h a (nI i) (bI (b i))) : xX10_lockersThat h t = some (sm (fun l => bI (b l)) 12, h) := by
  have := sm_end (f := fun l => bI (b l)) (n := nL) (12 - nL) (fun i h1 h2 => by rw [hb i h1 (by omega)]; rfl)
  rw [show nL + (12 - nL) = 12 by omega] at this
  rw [this]
  refine sm_loop (f := xX10_lockersThat_L4 t) (c := h) (N := nL) (g := fun l => bI (b l)) (fun n a => ?_) (fun n a i hi => ?_) nL 0 1000 (by omega) (by omega)
  · unfold xX10_lockersThat_L4
    rw [kg4, ks4 h, hk, if_pos (nI_le (by omega) (by omega))]
  · rw [hs n a i hi]
    unfold xX10_lockersThat_L84
    simp only [ltI_d, nI_1]
    exact bI_add a (b i) (fun y => xX10_lockersThat_L4 t n h y (nI (i + 1)))
theorem r_free {c h : zV2} {nL nP : Nat} {B : Nat → Nat} (g : GL nL nP B c (dec h)) (hL : nL ≤ 12) (hP : nP ≤ 10) (hk : dec h 13 0 = nI nL) : xX10_lockersThat h 0 = some (sm (fun l => bI (bFree c l)) 12, h) :=
  r_that g hL hk 0 (bFree c) (fun l h1 h2 => by unfold bFree; rw [(g.2 l h1 h2).1]; rfl) (fun n a i hi => by
    obtain ⟨fb, e1, e2, _⟩ := s_isFree (h := h) hP (show i < 12 by omega) (g.1 i hi)
    rw [c_isFreeB] at e1
    have e3 : bFree c i = fb := bI_inj (congrArg Prod.fst (Option.some.inj e1))
    conv => lhs; unfold xX10_lockersThat_L4
    rw [kg4, ks4 h, hk, if_neg (nI_ge (by omega) (by omega)), if_pos rfl, e2, bnd_d, e3])
theorem r_lent {c h : zV2} {nL nP : Nat} {B : Nat → Nat} (g : GL nL nP B c (dec h)) (hL : nL ≤ 12) (hP : nP ≤ 10) (hk : dec h 13 0 = nI nL) : xX10_lockersThat h 1 = some (sm (fun l => bI (decide (c 2 l ≠ -1))) 12, h) :=
  r_that g hL hk 1 (fun l => decide (c 2 l ≠ -1)) (fun l h1 h2 => decide_eq_false (fun z => z (g.2 l h1 h2).2.1)) (fun n a i hi => by
    obtain ⟨s, st, ho, sp, op, a0, b0, hs, a1, b1, a2, b2, hh, a3, b3, a4, b4, h4, a5⟩ := g.1 i hi
    have hob : ∀ l, ho = some l → l < 2 ^ 31 := fun l e => by have := hh l e; omega
    conv => lhs; unfold xX10_lockersThat_L4
    rw [kg4, ks4 h, hk, if_neg (nI_ge (by omega) (by omega)), if_neg (by decide), if_pos rfl, r_of2 (by omega), bnd_d, b2]
    simp only [a2]
    by_cases z : ho = none
    · rw [if_pos ((oI_lt hob).mpr z), decide_eq_false (show ¬ oI ho ≠ -1 from fun y => y ((oI_m1 hob).mpr z))]
      rfl
    · rw [if_neg (fun y => z ((oI_lt hob).mp y)), decide_eq_true (show oI ho ≠ -1 from fun y => z ((oI_m1 hob).mp y))]
      rfl)
theorem r_closed {c h : zV2} {nL nP : Nat} {B : Nat → Nat} (g : GL nL nP B c (dec h)) (hL : nL ≤ 12) (hP : nP ≤ 10) (hk : dec h 13 0 = nI nL) : xX10_lockersThat h 2 = some (sm (fun l => bI (decide (c 4 l ≠ -1))) 12, h) :=
  r_that g hL hk 2 (fun l => decide (c 4 l ≠ -1)) (fun l h1 h2 => decide_eq_false (fun z => z (g.2 l h1 h2).2.2.2.1)) (fun n a i hi => by
    obtain ⟨s, st, ho, sp, op, a0, b0, hs, a1, b1, a2, b2, hh, a3, b3, a4, b4, h4, a5⟩ := g.1 i hi
    have hob : ∀ l, op = some l → l < 2 ^ 31 := fun l e => by have := (h4 l e).2; omega
    conv => lhs; unfold xX10_lockersThat_L4
    rw [kg4, ks4 h, hk, if_neg (nI_ge (by omega) (by omega)), if_neg (by decide), if_neg (by decide), if_pos rfl, r_of4 (by omega), bnd_d, b4]
    simp only [a4]
    by_cases z : op = none
    · rw [if_pos ((oI_lt hob).mpr z), decide_eq_false (show ¬ oI op ≠ -1 from fun y => y ((oI_m1 hob).mpr z))]
      rfl
    · rw [if_neg (fun y => z ((oI_lt hob).mp y)), decide_eq_true (show oI op ≠ -1 from fun y => z ((oI_m1 hob).mp y))]
      rfl)
theorem q_number {c h : zV2} {lim : Nat} (p1 : Int32) (g : RR lim c (dec h)) (n12 : p1 ≠ 12) (n13 : p1 ≠ 13) : QP (xX1_tellNumber c p1) (xX10_count h p1) c h := by
  obtain ⟨nL, nP, D, W, X, hD0, gg, hWN, hXN, hBJ⟩ := g
  obtain ⟨gS, gL, gP, gW, gX, gT⟩ := gg
  obtain ⟨hL, hP, hD, c13, k13, c14, k14, c15, k15, sa, sb, se, s1, t1, sa1, sa2, s2, t2, sb1, s3, t3, se1⟩ := gS
  obtain ⟨u1, u2, u3, u4⟩ := gT
  unfold xX1_tellNumber xX10_count
  by_cases z0 : p1 = 0
  · subst z0
    exact ⟨nI nL, by rw [if_pos rfl, c13], by
      rw [if_pos rfl, show (4 : Int32) + 0 = 4 from rfl, kg4, ks4 h, k13]⟩
  rw [if_neg z0, if_neg z0]
  by_cases z1 : p1 = 1
  · subst z1
    exact ⟨nI nP, by rw [if_pos rfl, c14], by
      rw [if_pos rfl, show (4 : Int32) + 1 = 5 from rfl, kg5, ks5 h, k14]⟩
  rw [if_neg z1, if_neg z1]
  by_cases z2 : p1 = 2
  · subst z2
    exact ⟨nI D, by rw [if_pos rfl, c15], by
      rw [if_pos rfl, kg3, ks3 h, k15]⟩
  rw [if_neg z2, if_neg z2]
  by_cases z3 : p1 = 3
  · subst z3
    exact ⟨_, by rw [if_pos rfl, c_free, bnd_d], by
      rw [if_pos rfl, show (3 : Int32) - 3 = 0 from rfl, r_free gL hL hP k13, bnd_d]⟩
  rw [if_neg z3, if_neg z3]
  by_cases z4 : p1 = 4
  · subst z4
    exact ⟨_, by rw [if_pos rfl, c_lent, bnd_d], by
      rw [if_pos rfl, show (4 : Int32) - 3 = 1 from rfl, r_lent gL hL hP k13, bnd_d]⟩
  rw [if_neg z4, if_neg z4]
  by_cases z5 : p1 = 5
  · subst z5
    exact ⟨_, by rw [if_pos rfl, c_closed, bnd_d], by
      rw [if_pos rfl, show (5 : Int32) - 3 = 2 from rfl, r_closed gL hL hP k13, bnd_d]⟩
  rw [if_neg z5, if_neg z5]
  by_cases z6 : p1 = 6
  · subst z6
    exact ⟨nI W.length, by rw [if_pos rfl, gW.1.1], by
      rw [if_pos rfl, kg6, ks6 h, gW.2.1.1]⟩
  rw [if_neg z6, if_neg z6]
  by_cases z7 : p1 = 7
  · subst z7
    exact ⟨nI X.length, by rw [if_pos rfl, gX.1.1], by
      rw [if_pos rfl, kg7, ks7 h, gX.2.1]⟩
  rw [if_neg z7, if_neg z7]
  by_cases z8 : p1 = 8
  · subst z8
    exact ⟨_, by rw [if_pos rfl, c_owed, bnd_d], by
      rw [if_pos rfl, r_debts gP hP k14, bnd_d]⟩
  rw [if_neg z8, if_neg z8]
  by_cases z9 : p1 = 9
  · subst z9
    exact ⟨_, by rw [if_pos rfl, c_paid, bnd_d], by
      rw [if_pos rfl, show (9 : Int32) - 1 = 8 from rfl, kg8, ks8 h, u2]⟩
  rw [if_neg z9, if_neg z9]
  by_cases z10 : p1 = 10
  · subst z10
    exact ⟨_, by rw [if_pos rfl, c_owed, bnd_d, c_paid, bnd_d], by
      rw [if_pos rfl, show (10 : Int32) - 1 = 9 from rfl, kg9, ks9 h, u3]⟩
  rw [if_neg z10, if_neg z10]
  by_cases z11 : p1 = 11
  · subst z11
    exact ⟨c 16 0, by rw [if_pos rfl], by
      rw [if_pos rfl, show (11 : Int32) - 1 = 10 from rfl, kg10, ks10 h, u1, Int32.add_zero]⟩
  rw [if_neg z11, if_neg z11, if_neg n12, if_neg n13]
  unfold xX1_tellSetting
  have hin : ∀ j : Nat, j < 3 → p1 - 20 = nI j → p1 = nI (20 + j) := fun j hj e => by
    rw [← nI_add, ← e]
    show p1 = 20 + (p1 - 20)
    rw [Int32.add_comm, Int32.sub_add_cancel]
  by_cases y0 : p1 = 20
  · subst y0
    exact ⟨nI sa, by
      rw [show (20 : Int32) - 20 = 0 from rfl, if_neg (by decide), if_neg (by decide), show grd (inb (0 : Int32) 3) = id from rfl, id, show ((0 : Int32).toNatClampNeg) = 0 from rfl, s1]
      rfl, by
      rw [r_in_t (by decide) (by decide), bnd_d, if_neg (show ¬ (1 : Int32) = 0 by decide), show (20 : Int32) - 20 = 0 from rfl, kg0, ks0 h, t1]⟩
  by_cases y1 : p1 = 21
  · subst y1
    exact ⟨nI sb, by
      rw [show (21 : Int32) - 20 = 1 from rfl, if_neg (by decide), if_neg (by decide), show grd (inb (1 : Int32) 3) = id from rfl, id, show ((1 : Int32).toNatClampNeg) = 1 from rfl, s2]
      rfl, by
      rw [r_in_t (by decide) (by decide), bnd_d, if_neg (show ¬ (1 : Int32) = 0 by decide), show (21 : Int32) - 20 = 1 from rfl, kg1, ks1 h, t2]⟩
  by_cases y2 : p1 = 22
  · subst y2
    exact ⟨nI se, by
      rw [show (22 : Int32) - 20 = 2 from rfl, if_neg (by decide), if_neg (by decide), show grd (inb (2 : Int32) 3) = id from rfl, id, show ((2 : Int32).toNatClampNeg) = 2 from rfl, s3]
      rfl, by
      rw [r_in_t (by decide) (by decide), bnd_d, if_neg (show ¬ (1 : Int32) = 0 by decide), show (22 : Int32) - 20 = 2 from rfl, kg2, ks2 h, t3]⟩
  have href : xX10_in h p1 20 22 = some (0, h) := by
    by_cases w1 : p1 < 20
    · exact r_in_l w1
    · by_cases w2 : 22 < p1
      · exact r_in_g w2
      · exfalso
        have w3 := le_of_nlt w1
        have w4 := le_of_nlt w2
        rw [Int32.le_iff_toInt_le] at w3 w4
        have e1 : (20 : Int32).toInt = 20 := by decide
        have e2 : (22 : Int32).toInt = 22 := by decide
        have e3 : (21 : Int32).toInt = 21 := by decide
        rw [e1] at w3
        rw [e2] at w4
        have b1 : p1.toInt ≠ 20 := fun q => y0 (Int32.toInt_inj.mp (q.trans e1.symm))
        have b2 : p1.toInt ≠ 22 := fun q => y2 (Int32.toInt_inj.mp (q.trans e2.symm))
        have b3 : p1.toInt ≠ 21 := fun q => y1 (Int32.toInt_inj.mp (q.trans e3.symm))
        omega
  rw [href, bnd_d, if_pos rfl]
  rcases pk_ix (p1 - 20) (n := 3) (by decide) with w | w | ⟨j, hj, e⟩
  · rw [if_pos w]
    exact ⟨-1, rfl, rfl⟩
  · by_cases w0 : p1 - 20 < 0
    · rw [if_pos w0]
      exact ⟨-1, rfl, rfl⟩
    · rw [if_neg w0, if_pos (show (3 : Int32) ≤ p1 - 20 from w)]
      exact ⟨-1, rfl, rfl⟩
  · exfalso
    have hp := hin j hj e
    match j, hj with
    | 0, _ => exact y0 hp
    | 1, _ => exact y1 hp
    | 2, _ => exact y2 hp
