/-! the share of lockers lent, on both sides -/
theorem okD_use {a b : Nat} (ha : a ≤ 12) (hb : b ≤ 12) (h0 : b ≠ 0) (V : zV3) : nn64 (FP.ddiv (FP.i2d (nI a)) (FP.i2d (nI b))) = true ∧ xX9_bitsOfDouble V (FP.ddiv (FP.i2d (nI a)) (FP.i2d (nI b))) = some ((FP.ddiv (FP.i2d (nI a)) (FP.i2d (nI b))).toInt64, V) ∧ Op.cmpValue (FP.dcmp (FP.ddiv (FP.i2d (nI a)) (FP.i2d (nI b))) (FP.ddiv (FP.i2d (nI a)) (FP.i2d (nI b)))) .l = 0 := by
  have h := (okD_all ⟨a, by omega⟩ ⟨b, by omega⟩).resolve_left h0
  have h' : okD a b = true := h
  unfold okD at h'
  simp only [Bool.and_eq_true, beq_iff_eq, decide_eq_true_eq] at h'
  obtain ⟨h1, h2, h3⟩ := h'
  refine ⟨h1, ?_, h3⟩
  rw [bd]
  cases q : xX9_bitsOfDouble V00 (FP.ddiv (FP.i2d (nI a)) (FP.i2d (nI b))) with
  | none => rw [q] at h2; cases h2
  | some x =>
    rw [q] at h2
    exact congrArg (fun y => some (y, V)) (Option.some.inj h2)
theorem sm_nI (b : Nat → Bool) : ∀ n : Nat, ∃ k, k ≤ n ∧ sm (fun l => bI (b l)) n = nI k
  | 0 => ⟨0, Nat.le_refl _, rfl⟩
  | n + 1 => by
    obtain ⟨k, h1, h2⟩ := sm_nI b n
    show ∃ k', k' ≤ n + 1 ∧ sm (fun l => bI (b l)) n + bI (b n) = nI k'
    rw [h2]
    cases b n with
    | false => exact ⟨k, by omega, nI_add k 0⟩
    | true => exact ⟨k + 1, by omega, nI_add k 1⟩
theorem sm_cR {f g : Nat → Int32} : ∀ n : Nat, (∀ l, l < n → f l ≠ 0 → ∃ z, z ≤ 2 ∧ g l = nI z) → sm (fun l => bI (decide (f l ≠ 0))) n = nI (cR f g 0 n + cR f g 1 n + cR f g 2 n)
  | 0, _ => rfl
  | n + 1, h => by
    show sm (fun l => bI (decide (f l ≠ 0))) n + bI (decide (f n ≠ 0)) = nI (cR f g 0 n + (if f n = 0 then 0 else if g n = nI 0 then 1 else 0) + (cR f g 1 n + (if f n = 0 then 0 else if g n = nI 1 then 1 else 0)) + (cR f g 2 n + (if f n = 0 then 0 else if g n = nI 2 then 1 else 0)))
    rw [sm_cR n (fun l hl => h l (by omega))]
    by_cases e : f n = 0
    · rw [if_pos e, if_pos e, if_pos e, decide_eq_false (show ¬ f n ≠ 0 from fun z => z e)]
      exact nI_add _ 0
    · obtain ⟨z, hz, hg⟩ := h n (by omega) e
      rw [if_neg e, if_neg e, if_neg e, decide_eq_true e, hg, show bI true = nI 1 from rfl, nI_add]
      match z, hz with
      | 0, _ => rw [if_pos rfl, if_neg (by decide), if_neg (by decide)]; exact congrArg nI (by omega)
      | 1, _ => rw [if_neg (by decide), if_pos rfl, if_neg (by decide)]; exact congrArg nI (by omega)
      | 2, _ => rw [if_neg (by decide), if_neg (by decide), if_pos rfl]; exact congrArg nI (by omega)
theorem r_standing {c h : zV2} {nL nP : Nat} {B : Nat → Nat} (g : GL nL nP B c (dec h)) (hL : nL ≤ 12) (hk : dec h 13 0 = nI nL) : xX10_lockersThat h 3 = some (sm (fun l => bI (decide (c 1 l ≠ 0))) 12, h) :=
  r_that g hL hk 3 (fun l => decide (c 1 l ≠ 0)) (fun l h1 h2 => decide_eq_false (fun z => z (g.2 l h1 h2).1)) (fun n a i hi => by
    obtain ⟨s, st, ho, sp, op, a0, b0, hs, a1, b1, _⟩ := g.1 i hi
    conv => lhs; unfold xX10_lockersThat_L4
    rw [kg4, ks4 h, hk, if_neg (nI_ge (by omega) (by omega)), if_neg (by decide), if_neg (by decide), if_neg (by decide), r_of1 (by omega), bnd_d, b1]
    simp only [a1]
    cases st with
    | false => rfl
    | true =>
      rw [if_neg (show ¬ (if true = true then nI s else (-1 : Int32)) < 0 from nI_pos (by omega))]
      rfl)
/-- a public method with a long answer, told on both sides -/
def PUBL (V : zV3) (x : Option (Int64 × zV3)) (y : Option (Int64 × zV2)) : Prop := ∃ r V1 h2, x = some (r, V1) ∧ y = some (r, h2) ∧ V1 8 = V 8 ∧ Rel (upG V1 8 h2)
theorem PUBL_same {V : zV3} {x : Option (Int64 × zV3)} {y : Option (Int64 × zV2)} {r : Int64} (R : Rel V) (hx : x = some (r, V)) (hy : y = some (r, V 8)) : PUBL V x y := ⟨r, V, V 8, hx, hy, rfl, by rw [upG_id]; exact R⟩
theorem PUB_lentBits {V : zV3} (R : Rel V) : PUBL V (xX9_lentBits V) (xX10_lentBits (V 8)) := by
  obtain ⟨nL, nP, D, W, X, hD0, ⟨gS, gL, gP, gW, gX, gT⟩, hWN, hXN, hBJ⟩ := R.1
  have hL := gS.1
  have hP := gS.2.1
  have k13 := gS.2.2.2.2.1
  have hst : sm (fun l => bI (decide (V 0 1 l ≠ 0))) 12 = nI (cR (V 0 1) (V 0 0) 0 12 + cR (V 0 1) (V 0 0) 1 12 + cR (V 0 1) (V 0 0) 2 12) := sm_cR 12 (fun l hl hne => by
    by_cases q : l < nL
    · obtain ⟨s, st, ho, sp, op, a0, b0, hs, _⟩ := gL.1 l q
      exact ⟨s, hs, a0⟩
    · exact absurd (gL.2 l (by omega) hl).1 hne)
  obtain ⟨S, hS, eS⟩ := sm_nI (fun l => decide (V 0 1 l ≠ 0)) 12
  obtain ⟨T, hT, eT⟩ := sm_nI (fun l => decide (V 0 2 l ≠ -1)) 12
  have hS2 : nI (cR (V 0 1) (V 0 0) 0 12 + cR (V 0 1) (V 0 0) 1 12 + cR (V 0 1) (V 0 0) 2 12) = nI S := hst.symm.trans eS
  have ec : xX9_lentBits V = (if nI S = 0 then some ((-4 : Int64), V) else bndG (xX1_lentLockers (V 0)) V 0 fun r3 V6 => grd (nn64 (FP.ddiv (FP.i2d r3) (FP.i2d (nI S)))) <| bnd (xX9_bitsOfDouble V6 (FP.ddiv (FP.i2d r3) (FP.i2d (nI S)))) fun r8 V10 => some (r8, V10)) := by
    have e0 : xX1_standingOf (V 0) (0 : Int32) = some (nI (cR (V 0 1) (V 0 0) 0 12), V 0) := c_stand gL (s := 0) (by omega)
    have e1 : xX1_standingOf (V 0) (1 : Int32) = some (nI (cR (V 0 1) (V 0 0) 1 12), V 0) := c_stand gL (s := 1) (by omega)
    have e2 : xX1_standingOf (V 0) (2 : Int32) = some (nI (cR (V 0 1) (V 0 0) 2 12), V 0) := c_stand gL (s := 2) (by omega)
    show xX9_lentBits_L4 (996 + 1 + 1 + 1 + 1) V 0 0 = _
    conv => lhs; unfold xX9_lentBits_L4
    rw [if_neg (by decide), bndG_eq e0, upG_id, ltI_d, ltI_d, show (0 : Int32) + 1 = 1 from rfl]
    conv => lhs; unfold xX9_lentBits_L4
    rw [if_neg (by decide), bndG_eq e1, upG_id, ltI_d, ltI_d, show (1 : Int32) + 1 = 2 from rfl]
    conv => lhs; unfold xX9_lentBits_L4
    rw [if_neg (by decide), bndG_eq e2, upG_id, ltI_d, ltI_d, show (2 : Int32) + 1 = 3 from rfl]
    conv => lhs; unfold xX9_lentBits_L4
    rw [if_pos (by decide), show (0 : Int32) + nI (cR (V 0 1) (V 0 0) 0 12) + nI (cR (V 0 1) (V 0 0) 1 12) + nI (cR (V 0 1) (V 0 0) 2 12) = nI S by
      rw [Int32.zero_add, nI_add, nI_add, hS2]]
  rw [ec]
  unfold xX10_lentBits
  rw [r_standing gL hL k13, bnd_d, eS]
  by_cases z : S = 0
  · subst z
    rw [if_pos (show nI 0 = 0 from rfl), if_pos (show nI 0 = 0 from rfl)]
    exact PUBL_same R rfl rfl
  · obtain ⟨u1, u2, u3⟩ := okD_use hT hS z V
    rw [if_neg (nI_ne0 (by omega) (by omega)), if_neg (nI_ne0 (by omega) (by omega)), bndG_eq (c_lent (V 0)), upG_id, r_lent gL hL hP k13, bnd_d, eT, grd_eq u1, u2, bnd_d, grd_eq u1]
    unfold xJxe99ae_doubleToLongBits_ccdee xJxe99ae_isNaN_b9ae7
    rw [if_pos u3, bnd_d, if_pos rfl, bnd_d]
    exact PUBL_same R rfl rfl
