/-! pure part: what each public method keeps -/
theorem s_wouldHave {V : zV3} (p1 : Int32) (R0 : RR 5000 (V 0) (dec (V 8))) (H : HH V (V 8)) :
    ∃ r V1 h2, xX9_wouldHave V p1 = some (r, V1) ∧ xX10_wouldHave (V 8) p1 = some (r, h2) ∧ V1 8 = V 8 ∧ RR 5000 (V1 0) (dec h2) ∧ HH V1 h2 ∧ (∀ c, 2 ≤ c → V1 7 c = V 7 c) ∧ (∀ c, c = 4 ∨ c = 5 ∨ 7 ≤ c → h2 c = V 8 c) := by
  have R1 := R0
  obtain ⟨nL, nP, D, W, X, hD0, g⟩ := R0
  have hP := g.1.1.2.1
  have k14 := g.1.1.2.2.2.2.2.2.1
  obtain ⟨c6, ha, t1, t2, t3, t4, t5⟩ := s_trial (V := V) (nL := nL) (nP := nP) (lim := 5000) ⟨D, W, X, hD0, g⟩
  obtain ⟨D6, W6, X6, hD6, g6, w6, x6, b6⟩ := t3
  have lX := WV_len g6.2.2.2.2.1.2.2.2.2
  obtain ⟨T', c', h', r1, r2, r3, r4⟩ := s_swaps (lim := 5000) hD6 10 0 0 1000 1000 W6 X6 c6 ha g6 w6 x6 b6 (by omega) (by omega) (by omega) (by omega)
  have r1' : xX1_swapAll c6 = some (nI T', c') := r1
  have r2' : xX10_swaps ha = some (nI T', h') := r2
  obtain ⟨D7, W7, X7, hD7, g7, _⟩ := r3
  have c14 := g7.1.2.2.2.2.2.1
  have V8 : upG V 6 c' 8 = V 8 := upG_ne _ _ (by decide)
  have V0 : upG V 6 c' 0 = V 0 := upG_ne _ _ (by decide)
  have hcl : ∀ r, xX1_tellOfPerson c' p1 0 = some (r, c') → xX9_wouldHave V p1 = some (r, upG V 6 c') := fun r e => by
    unfold xX9_wouldHave xX6_lockerBehindSwapping
    rw [t1, bnd_d, upG_self, bndG_eq r1', upG_upG, upG_self, bndG_eq e, upG_upG, bnd_d]
  have hno : p1 < 0 ∨ nI nP ≤ p1 → ∃ r V1 h2, xX9_wouldHave V p1 = some (r, V1) ∧ xX10_wouldHave (V 8) p1 = some (r, h2) ∧ V1 8 = V 8 ∧ RR 5000 (V1 0) (dec h2) ∧ HH V1 h2 ∧ (∀ c, 2 ≤ c → V1 7 c = V 7 c) ∧ (∀ c, c = 4 ∨ c = 5 ∨ 7 ≤ c → h2 c = V 8 c) := fun hx =>
    ⟨-1, upG V 6 c', V 8, hcl _ (by
      unfold xX1_tellOfPerson
      rw [c_pA_f c14 hx, bnd_d, om_n]), (by
      unfold xX10_wouldHave
      rw [r_isP_f k14 hP hx, bnd_d, if_pos rfl]), V8, by rw [V0]; exact R1, HH_6 H rfl rfl, fun c hc => by rw [upG_ne _ _ (by decide)], fun _ _ => rfl⟩
  rcases pk_ix p1 (n := nP) (by omega) with h1 | h1 | ⟨p, hp, rfl⟩
  · exact hno (Or.inl h1)
  · exact hno (Or.inr h1)
  · obtain ⟨lo, du, re, p6, r6, hlo, _⟩ := g7.2.2.1.1 p hp
    have hL := g7.1.1
    have hlb : ∀ l, lo = some l → l < 2 ^ 31 := fun l e => by have := (hlo l e).1; omega
    obtain ⟨hb, b1, b2, b3, b4, b5⟩ := s_back t4 t5 r4
    have hor : ∃ r, (if oI lo = -1 then (-4 : Int32) else oI lo) = r ∧ xX10_orNone hb (oI lo) = some (r, hb) := by
      unfold xX10_orNone
      cases lo with
      | none => exact ⟨-4, rfl, rfl⟩
      | some l => exact ⟨nI l, if_neg (nI_ne1 (hlb l rfl)), if_pos (nI_pos' (hlb l rfl))⟩
    obtain ⟨r, o1, o2⟩ := hor
    refine ⟨r, upG V 6 c', hb, hcl _ ?_, ?_, V8, by rw [V0, b2]; exact R1, HH_6 H b3 b4, fun c hc => by rw [upG_ne _ _ (by decide)], b5⟩
    · unfold xX1_tellOfPerson
      rw [c_pA_t c14 hP hp, bnd_d, om_s, grd_eq (decide_eq_true (by omega)), if_neg (by decide), if_pos (by decide), if_neg (by decide), p6, ← o1]
      by_cases z : oI lo = -1
      · rw [if_pos z, if_pos z]
      · rw [if_neg z, if_neg z]
        unfold xX1_tellOfPerson_L38
        rw [if_pos rfl, p6]
    · unfold xX10_wouldHave
      rw [r_isP_t k14 hP hp, bnd_d, if_neg (by decide), t2, bnd_d, r2', bnd_d, r_ofP0 (by omega), bnd_d, b1, bnd_d, r6, o2, bnd_d]
/-- the text on both sides -/
def TX (V : zV3) (h : zV2) : Prop := ∃ n : Nat, n ≤ 80 ∧ V 7 3 0 = nI n ∧ h 7 0 = nI n ∧ ∀ i, i < n → ∃ ch : Nat, 32 ≤ ch ∧ ch ≤ 126 ∧ V 7 2 i = nI ch ∧ h 4 i = nI ch
/-- all that holds between two calls -/
def Rel (V : zV3) : Prop := RR 5000 (V 0) (dec (V 8)) ∧ HH V (V 8) ∧ TX V (V 8)
theorem Rel_of {V V1 : zV3} {h2 : zV2} (R : Rel V) (a : RR 5000 (V1 0) (dec h2)) (b : HH V1 h2) (c : ∀ c, 2 ≤ c → V1 7 c = V 7 c) (d : ∀ c, c = 4 ∨ c = 5 ∨ 7 ≤ c → h2 c = V 8 c) : Rel (upG V1 8 h2) := by
  obtain ⟨_, _, n, t0, t1, t2, t3⟩ := R
  obtain ⟨od, st, ho, hs, h0, h1, h6, hp⟩ := b
  refine ⟨?_, ⟨od, st, ho, hs, ?_, ?_, ?_, fun j hj => ?_⟩, n, t0, ?_, ?_, fun i hi => ?_⟩
  · rw [upG_self, upG_ne _ _ (by decide)]
    exact a
  · rw [upG_ne _ _ (by decide), h0]
  · rw [upG_ne _ _ (by decide), h1]
  · rw [upG_self, h6]
  · rw [upG_self, upG_ne _ _ (by omega)]
    exact hp j hj
  · rw [upG_ne _ _ (by decide), c 3 (by decide), t1]
  · rw [upG_self, d 7 (by decide), t2]
  · rw [upG_ne _ _ (by decide), c 2 (by decide), upG_self, d 4 (by decide)]
    exact t3 i hi
/-- a public method, told on both sides -/
def PUB (V : zV3) (x : Option (Int32 × zV3)) (y : Option (Int32 × zV2)) : Prop := ∃ r V1 h2, x = some (r, V1) ∧ y = some (r, h2) ∧ V1 8 = V 8 ∧ Rel (upG V1 8 h2)
theorem PUB_act {V : zV3} (R : Rel V) (f f' : zV2 → Option (Int32 × zV2)) (hop : ∀ c h, RR 5000 c (dec h) → OP (f c) (f' h) h 5000) :
    PUB V (bnd (xX2_prepare 0 V) fun r1 V3 => bndG (f (V3 0)) V3 0 fun r4 V7 => bndG (xX2_settle (V7 7) r4) V7 7 fun r8 V11 => some (r8, V11)) (bnd (xX10_begins (V 8)) fun r1 h3 => bnd (f' h3) fun r4 h6 => bnd (xX10_acted h6 r4) fun r7 h9 => some (r7, h9)) := by
  obtain ⟨r, V1, h2, a, b, c, d, e, f1, f2⟩ := s_act R.1 R.2.1 f f' hop
  exact ⟨r, V1, h2, a, b, c, Rel_of R d e f1 f2⟩
theorem PUB_locker {V : zV3} (p1 : Int32) (R : Rel V) : PUB V (xX9_locker V p1) (xX10_locker (V 8) p1) := PUB_act R (fun c => xX1_addLocker c p1) (fun h => xX10_makesLocker h p1) (fun c h g => o_addLocker p1 g (by decide))
theorem PUB_person {V : zV3} (R : Rel V) : PUB V (xX9_person V) (xX10_person (V 8)) := PUB_act R xX1_addPerson xX10_makesPerson (fun c h g => o_addPerson g)
theorem PUB_stand {V : zV3} (p1 p2 : Int32) (R : Rel V) : PUB V (xX9_stand V p1 p2) (xX10_stand (V 8) p1 p2) := PUB_act R (fun c => xX1_putIntoRow c p1 p2) (fun h => xX10_stands h p1 p2) (fun c h g => o_put p1 p2 g (by decide))
theorem PUB_lend {V : zV3} (p1 p2 : Int32) (R : Rel V) : PUB V (xX9_lend V p1 p2) (xX10_lend (V 8) p1 p2) := PUB_act R (fun c => xX1_lendTo c p1 p2) (fun h => xX10_lends h p1 p2) (fun c h g => o_lend p1 p2 g (by decide))
theorem PUB_giveBack {V : zV3} (p1 : Int32) (R : Rel V) : PUB V (xX9_giveBack V p1) (xX10_giveBack (V 8) p1) := PUB_act R (fun c => xX1_takeBack c p1) (fun h => xX10_givesBack h p1) (fun c h g => o_back p1 g (by decide))
theorem PUB_renew {V : zV3} (p1 : Int32) (R : Rel V) : PUB V (xX9_renew V p1) (xX10_renew (V 8) p1) := PUB_act R (fun c => xX1_prolong c p1) (fun h => xX10_renews h p1) (fun c h g => o_renew p1 g (by decide))
theorem PUB_lose {V : zV3} (p1 : Int32) (R : Rel V) : PUB V (xX9_lose V p1) (xX10_lose (V 8) p1) := PUB_act R (fun c => xX1_loseKey c p1) (fun h => xX10_loses h p1) (fun c h g => o_lose p1 g (by decide))
theorem PUB_wish {V : zV3} (p1 p2 : Int32) (R : Rel V) : PUB V (xX9_wish V p1 p2) (xX10_wish (V 8) p1 p2) := PUB_act R (fun c => xX1_wishFor c p1 p2) (fun h => xX10_wishes h p1 p2) (fun c h g => o_wish p1 p2 g (by decide))
theorem PUB_noWish {V : zV3} (p1 : Int32) (R : Rel V) : PUB V (xX9_noWish V p1) (xX10_noWish (V 8) p1) := PUB_act R (fun c => xX1_endWish c p1) (fun h => xX10_wishesNoMore h p1) (fun c h g => o_noWish p1 g (by decide))
theorem PUB_swap {V : zV3} (R : Rel V) : PUB V (xX9_swap V) (xX10_swap (V 8)) := PUB_act R xX1_swapAll xX10_swaps (fun c h g => o_swap g)
theorem PUB_pay {V : zV3} (p1 p2 : Int32) (R : Rel V) : PUB V (xX9_pay V p1 p2) (xX10_pay (V 8) p1 p2) := PUB_act R (fun c => xX1_payCoins c p1 p2) (fun h => xX10_pays h p1 p2) (fun c h g => o_pay p1 p2 g (by decide))
theorem PUB_pass {V : zV3} (p1 : Int32) (R : Rel V) : PUB V (xX9_pass V p1) (xX10_pass (V 8) p1) := PUB_act R (fun c => xX1_passDays c p1 5000) (fun h => xX10_passes h p1) (fun c h g => o_pass p1 g)
theorem PUB_set {V : zV3} (p1 p2 : Int32) (R : Rel V) : PUB V (xX9_set V p1 p2) (xX10_set (V 8) p1 p2) := PUB_act R (fun c => xX1_changeSetting c p1 p2) (fun h => xX10_sets h p1 p2) (fun c h g => o_set p1 p2 g)
theorem PUB_undo {V : zV3} (R : Rel V) : PUB V (xX9_undo V) (xX10_undo (V 8)) := by
  obtain ⟨r, V1, h2, a, b, c, d, e, f1, f2⟩ := s_undo R.1 R.2.1
  exact ⟨r, V1, h2, a, b, c, Rel_of R d e f1 f2⟩
theorem PUB_feeIn {V : zV3} (p1 p2 : Int32) (R : Rel V) : PUB V (xX9_feeIn V p1 p2) (xX10_feeIn (V 8) p1 p2) := by
  obtain ⟨r, V1, h2, a, b, c, d, e, f1, f2⟩ := s_feeIn p1 p2 R.1 R.2.1
  exact ⟨r, V1, h2, a, b, c, Rel_of R d e f1 f2⟩
theorem PUB_wouldHave {V : zV3} (p1 : Int32) (R : Rel V) : PUB V (xX9_wouldHave V p1) (xX10_wouldHave (V 8) p1) := by
  obtain ⟨r, V1, h2, a, b, c, d, e, f1, f2⟩ := s_wouldHave p1 R.1 R.2.1
  exact ⟨r, V1, h2, a, b, c, Rel_of R d e f1 f2⟩
theorem PUB_same {V : zV3} {x : Option (Int32 × zV3)} {y : Option (Int32 × zV2)} {r : Int32} (R : Rel V) (hx : x = some (r, V)) (hy : y = some (r, V 8)) : PUB V x y := ⟨r, V, V 8, hx, hy, rfl, by rw [upG_id]; exact R⟩
theorem PUB_personOf {V : zV3} (p1 p2 : Int32) (R : Rel V) : PUB V (xX9_personOf V p1 p2) (xX10_personOf (V 8) p1 p2) := by
  obtain ⟨r, a, b⟩ := q_person p1 p2 R.1
  refine PUB_same (r := r) R ?_ b
  unfold xX9_personOf
  rw [bndG_eq a, upG_id]
theorem PUB_lockerOf {V : zV3} (p1 p2 : Int32) (R : Rel V) : PUB V (xX9_lockerOf V p1 p2) (xX10_lockerOf (V 8) p1 p2) := by
  obtain ⟨r, a, b⟩ := q_locker p1 p2 R.1
  refine PUB_same (r := r) R ?_ b
  unfold xX9_lockerOf
  rw [bndG_eq a, upG_id]
theorem PUB_count {V : zV3} (p1 : Int32) (R : Rel V) : PUB V (xX9_count V p1) (xX10_count (V 8) p1) := by
  obtain ⟨od, st, ho, hs, h0, h1, h6, hp⟩ := R.2.1
  obtain ⟨n, t0, t1, t2, t3⟩ := R.2.2
  by_cases z12 : p1 = 12
  · subst z12
    refine PUB_same (r := nI st) R ?_ ?_
    · unfold xX9_count
      rw [if_pos rfl, h1]
    · unfold xX10_count
      rw [if_neg (by decide), if_neg (by decide), if_neg (by decide), if_neg (by decide), if_neg (by decide), if_neg (by decide), if_neg (by decide), if_neg (by decide), if_neg (by decide), if_neg (by decide), if_neg (by decide), if_neg (by decide), if_pos rfl, h6]
  · by_cases z13 : p1 = 13
    · subst z13
      refine PUB_same (r := nI n) R ?_ ?_
      · unfold xX9_count
        rw [if_neg (by decide), if_pos rfl, t1]
      · unfold xX10_count
        rw [if_neg (by decide), if_neg (by decide), if_neg (by decide), if_neg (by decide), if_neg (by decide), if_neg (by decide), if_neg (by decide), if_neg (by decide), if_neg (by decide), if_neg (by decide), if_neg (by decide), if_neg (by decide), if_neg (by decide), if_pos rfl, t2]
    · obtain ⟨r, a, b⟩ := q_number p1 R.1 z12 z13
      refine PUB_same (r := r) R ?_ b
      unfold xX9_count
      rw [if_neg z12, if_neg z13, bndG_eq a, upG_id]
