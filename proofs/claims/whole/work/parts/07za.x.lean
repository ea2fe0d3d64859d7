/-! the text, read on both sides -/
def tS (n : Nat) (sg : Nat → Int32) : Prop := n ≤ 80 ∧ (∀ i, i < n → ∃ ch : Nat, 32 ≤ ch ∧ ch ≤ 126 ∧ sg i = nI ch) ∧ ∀ i, n ≤ i → sg i = 0
def tC (n : Nat) (sg : Nat → Int32) (v : zV2) : Prop := v 3 0 = nI n ∧ ∀ i, i < n → v 2 i = sg i
def tR (n : Nat) (sg : Nat → Int32) (h : zV2) : Prop := h 7 0 = nI n ∧ ∀ i, i < n → h 4 i = sg i
theorem isc_ch (n : Nat) (h : n < 127) : isc (nI n) = true := by
  have x : ∀ b : Fin 127, isc (nI b.val) = true := by decide +kernel
  exact x ⟨n, h⟩
theorem c_sign {n : Nat} {sg : Nat → Int32} {v : zV2} (S : tS n sg) (g : tC n sg v) {i : Nat} (hi : i < 1000) : xX7_signAt v (nI i) = some (sg i, v) := by
  unfold xX7_signAt
  rw [if_neg (nI_pos (by omega)), g.1]
  by_cases e : i < n
  · obtain ⟨ch, c1, c2, c3⟩ := S.2.1 i e
    have := S.1
    rw [if_neg (nI_ge (by omega) (by omega)), if_neg (show ¬ (80 : Int32) ≤ nI i from nI_ge (a := i) (b := 80) (by omega) (by omega)), grd_eq (inb_nI (by omega) (by omega)), nI_clamp (by omega), g.2 i e, grd_eq (by rw [c3]; exact isc_ch ch (by omega))]
  · rw [if_pos (nI_le (by omega) (by omega)), S.2.2 i (by omega)]
def hr (n : Nat) (sg : Nat → Int32) (i : Nat) : Int32 := if i < n then sg i else -1
theorem r_here {n : Nat} {sg : Nat → Int32} {h : zV2} (S : tS n sg) (g : tR n sg h) {i : Nat} (hi : i < 1000) (h8 : h 8 0 = nI i) : xX10_here h = some (hr n sg i, h) := by
  have := S.1
  unfold xX10_here hr
  rw [g.1, h8]
  by_cases e : i < n
  · rw [if_neg (nI_ge (by omega) (by omega)), grd_eq (inb_nI (by omega) (by omega)), nI_clamp (by omega), g.2 i e, if_pos e]
  · rw [if_pos (nI_le (by omega) (by omega)), if_neg e]
/-- a sign that is none of the places outside -/
theorem hr_eq {n : Nat} {sg : Nat → Int32} (S : tS n sg) {i : Nat} {x : Int32} (h0 : x ≠ 0) (h1 : x ≠ -1) : hr n sg i = x ↔ sg i = x := by
  unfold hr
  by_cases e : i < n
  · rw [if_pos e]
  · rw [if_neg e, S.2.2 i (by omega)]
    exact ⟨fun z => absurd z.symm h1, fun z => absurd z.symm h0⟩
def dg (x : Int32) : Bool := if x < 48 then false else if 57 < x then false else true
theorem dg_0 : dg 0 = false := by decide
theorem dg_m : dg (-1) = false := by decide
theorem dg_hr {n : Nat} {sg : Nat → Int32} (S : tS n sg) (i : Nat) : dg (hr n sg i) = dg (sg i) ∧ (dg (sg i) = true → hr n sg i = sg i) := by
  unfold hr
  by_cases e : i < n
  · rw [if_pos e]
    exact ⟨rfl, fun _ => rfl⟩
  · rw [if_neg e, S.2.2 i (by omega)]
    exact ⟨rfl, fun z => absurd z (by decide)⟩
theorem r_dg (h : zV2) (x : Int32) : xX10_in h x 48 57 = some (bI (dg x), h) := by
  unfold xX10_in dg
  by_cases e : x < 48
  · rw [if_pos e, if_pos e]
    rfl
  · rw [if_neg e, if_neg e]
    by_cases e2 : 57 < x
    · rw [if_pos e2, if_pos e2]
      rfl
    · rw [if_neg e2, if_neg e2]
      rfl
/-- the digits: how many, and what they spell -/
def nmF (sg : Nat → Int32) : Nat → Nat → Int32 → Nat × Int32
  | 0, _, a => (0, a)
  | m + 1, e, a => if dg (sg e) = true then ((nmF sg m (e + 1) (a * 10 + (sg e - 48))).1 + 1, (nmF sg m (e + 1) (a * 10 + (sg e - 48))).2) else (0, a)
theorem nmF_le (sg : Nat → Int32) : ∀ (m e : Nat) (a : Int32), (nmF sg m e a).1 ≤ m
  | 0, _, _ => Nat.le_refl _
  | m + 1, e, a => by
    unfold nmF
    by_cases q : dg (sg e) = true
    · rw [if_pos q]
      have := nmF_le sg m (e + 1) (a * 10 + (sg e - 48))
      show (nmF sg m (e + 1) (a * 10 + (sg e - 48))).1 + 1 ≤ m + 1
      omega
    · rw [if_neg q]
      exact Nat.zero_le _
theorem dg_n {n : Nat} {sg : Nat → Int32} (S : tS n sg) {i : Nat} (h : dg (sg i) = true) : ∃ d : Nat, d ≤ 9 ∧ sg i - 48 = nI d ∧ sg i = nI (48 + d) := by
  by_cases e : i < n
  · obtain ⟨ch, c1, c2, c3⟩ := S.2.1 i e
    rw [c3] at h ⊢
    unfold dg at h
    by_cases q : nI ch < 48
    · rw [if_pos q] at h
      cases h
    · rw [if_neg q] at h
      by_cases q2 : 57 < nI ch
      · rw [if_pos q2] at h
        cases h
      · have a1 : 48 ≤ ch := Nat.le_of_not_lt fun z => q (nI_lt (a := ch) (b := 48) z (by omega))
        have a2 : ch ≤ 57 := Nat.le_of_not_lt fun z => q2 (nI_lt (a := 57) (b := ch) z (by omega))
        refine ⟨ch - 48, by omega, ?_, by rw [show 48 + (ch - 48) = ch by omega]⟩
        exact pk_sub (a := ch) (b := 48) a1
  · rw [S.2.2 i (by omega)] at h
    cases h
theorem nmF_v {n : Nat} {sg : Nat → Int32} (S : tS n sg) : ∀ (m e A : Nat), ∃ B : Nat, (nmF sg m e (nI A)).2 = nI B ∧ B < (A + 1) * 10 ^ m
  | 0, e, A => ⟨A, rfl, by rw [Nat.pow_zero]; omega⟩
  | m + 1, e, A => by
    unfold nmF
    by_cases q : dg (sg e) = true
    · obtain ⟨d, d1, d2, d3⟩ := dg_n S q
      obtain ⟨B, b1, b2⟩ := nmF_v S m (e + 1) (A * 10 + d)
      rw [if_pos q]
      refine ⟨B, ?_, Nat.lt_of_lt_of_le b2 ?_⟩
      · rw [← b1, d2, show nI A * (10 : Int32) = nI (A * 10) from nI_mul A 10, nI_add]
      · rw [Nat.pow_succ, show (A + 1) * (10 ^ m * 10) = ((A + 1) * 10) * 10 ^ m by rw [Nat.mul_comm (10 ^ m) 10, Nat.mul_assoc]]
        exact Nat.mul_le_mul_right _ (by omega)
    · rw [if_neg q]
      refine ⟨A, rfl, ?_⟩
      have : 0 < 10 ^ (m + 1) := Nat.pow_pos (by decide)
      exact Nat.lt_of_lt_of_le (Nat.lt_succ_self A) (Nat.le_mul_of_pos_right _ this)
theorem up2_t (h : zV2) (c i : Nat) (x y : Int32) : up2 (up2 h c i x) c i y = up2 h c i y := by
  funext a b
  by_cases q : a = c ∧ b = i
  · rw [q.1, q.2, up2_self, up2_self]
  · rw [up2_ne _ q, up2_ne _ q, up2_ne _ q]
theorem up2_r {h : zV2} {c i : Nat} {x : Int32} (e : h c i = x) : up2 h c i x = h := by
  funext a b
  by_cases q : a = c ∧ b = i
  · rw [q.1, q.2, up2_self, e]
  · rw [up2_ne _ q]
theorem tC_7 {n : Nat} {sg : Nat → Int32} {v : zV2} {x : Int32} {c : Nat} (g : tC n sg v) (hc : 4 ≤ c) : tC n sg (up2 v c 0 x) :=
  ⟨by rw [up2_ne _ (by omega)]; exact g.1, fun i hi => by rw [up2_ne _ (by omega)]; exact g.2 i hi⟩
theorem c_digits {n : Nat} {sg : Nat → Int32} (S : tS n sg) : ∀ (m k e f : Nat) (a : Int32) (v : zV2), tC n sg v → v 7 0 = nI e → k + m = 3 → m < f → e + m < 990 → xX7_readNumber_L29 f v (nI k) a = some (if k + (nmF sg m e a).1 = 0 then -1 else (nmF sg m e a).2, up2 v 7 0 (nI (e + (nmF sg m e a).1)))
  | m, k, e, 0, _, _, _, _, _, h, _ => absurd h (by omega)
  | 0, k, e, f + 1, a, v, g, h7, h1, h2, h3 => by
    have ek : k = 3 := by omega
    subst ek
    unfold xX7_readNumber_L29
    rw [if_pos (by decide), if_neg (by decide), show nmF sg 0 e a = (0, a) from rfl]
    show some (a, v) = some ((if 3 = 0 then (-1 : Int32) else a), up2 v 7 0 (nI e))
    rw [if_neg (by decide), up2_r h7]
  | m + 1, k, e, f + 1, a, v, g, h7, h1, h2, h3 => by
    unfold xX7_readNumber_L29
    rw [if_neg (show ¬ (3 : Int32) ≤ nI k from nI_ge (a := k) (b := 3) (by omega) (by omega)), h7, c_sign S g (by omega), bnd_d, h7, c_sign S g (by omega), bnd_d, h7, c_sign S g (by omega), bnd_d]
    have hk0 : (nI k = 0) ↔ k = 0 := nI_eq (a := k) (b := 0) (by omega) (by omega)
    have hend : (if nI k = 0 then some ((-1 : Int32), v) else some (a, v)) = some (if k = 0 then (-1 : Int32) else a, v) := by
      by_cases q : k = 0
      · rw [if_pos (hk0.mpr q), if_pos q]
      · rw [if_neg (fun z => q (hk0.mp z)), if_neg q]
    by_cases q : dg (sg e) = true
    · obtain ⟨d, d1, d2, d3⟩ := dg_n S q
      have q1 : ¬ sg e < 48 := by rw [d3]; exact nI_nlt (a := 48 + d) (b := 48) (by omega) (by omega)
      have q2 : ¬ (57 : Int32) < sg e := by rw [d3]; exact nI_nlt (a := 57) (b := 48 + d) (by omega) (by omega)
      have ih := c_digits S m (k + 1) (e + 1) f (a * 10 + (sg e - 48)) (up2 v 7 0 (nI (e + 1))) (tC_7 g (by omega)) (up2_self _ _ _ _) (by omega) (by omega) (by omega)
      rw [if_neg q1, if_neg q2, ltI_d, ltI_d, put2_d, h7, nI_1, nI_1, ih]
      have e1 : nmF sg (m + 1) e a = ((nmF sg m (e + 1) (a * 10 + (sg e - 48))).1 + 1, (nmF sg m (e + 1) (a * 10 + (sg e - 48))).2) := by
        conv => lhs; unfold nmF
        rw [if_pos q]
      rw [e1, up2_t]
      show some ((if k + 1 + (nmF sg m (e + 1) (a * 10 + (sg e - 48))).1 = 0 then (-1 : Int32) else _), _) = some ((if k + ((nmF sg m (e + 1) (a * 10 + (sg e - 48))).1 + 1) = 0 then (-1 : Int32) else _), _)
      rw [if_neg (by omega), if_neg (by omega), show e + 1 + (nmF sg m (e + 1) (a * 10 + (sg e - 48))).1 = e + ((nmF sg m (e + 1) (a * 10 + (sg e - 48))).1 + 1) by omega]
    · have e1 : nmF sg (m + 1) e a = (0, a) := by
        unfold nmF
        rw [if_neg q]
      rw [e1]
      show _ = some ((if k + 0 = 0 then (-1 : Int32) else a), up2 v 7 0 (nI (e + 0)))
      rw [Nat.add_zero, Nat.add_zero, up2_r h7]
      by_cases q1 : sg e < 48
      · rw [if_pos q1, hend]
      · rw [if_neg q1]
        have q2 : (57 : Int32) < sg e := by
          by_cases z : (57 : Int32) < sg e
          · exact z
          · exact absurd (by unfold dg; rw [if_neg q1, if_neg z]) q
        rw [if_pos q2, hend]
/-- a blank and a number -/
def nb (sg : Nat → Int32) (e : Nat) : Option (Int32 × Nat) := if sg e = 32 then (if (nmF sg 3 (e + 1) 0).1 = 0 then none else some ((nmF sg 3 (e + 1) 0).2, e + 1 + (nmF sg 3 (e + 1) 0).1)) else none
theorem nb_b {n : Nat} {sg : Nat → Int32} (S : tS n sg) {e e' : Nat} {a : Int32} (h : nb sg e = some (a, e')) : a ≠ -1 ∧ e < e' ∧ e' ≤ e + 4 := by
  unfold nb at h
  by_cases q : sg e = 32
  · rw [if_pos q] at h
    by_cases q2 : (nmF sg 3 (e + 1) 0).1 = 0
    · rw [if_pos q2] at h
      cases h
    · rw [if_neg q2] at h
      have h := Option.some.inj h
      have hl := nmF_le sg 3 (e + 1) 0
      obtain ⟨B, b1, b2⟩ := nmF_v S 3 (e + 1) 0
      have a1 : (nmF sg 3 (e + 1) 0).2 = a := congrArg Prod.fst h
      have a2 : e + 1 + (nmF sg 3 (e + 1) 0).1 = e' := congrArg Prod.snd h
      refine ⟨?_, by omega, by omega⟩
      rw [← a1, show (0 : Int32) = nI 0 from rfl, b1]
      exact nI_ne1 (by omega)
  · rw [if_neg q] at h
    cases h
theorem c_num {n : Nat} {sg : Nat → Int32} (S : tS n sg) {v : zV2} (g : tC n sg v) {e : Nat} (h7 : v 7 0 = nI e) (he : e < 900) : match nb sg e with
    | some (a, e') => xX7_readNumber v = some (a, up2 v 7 0 (nI e'))
    | none => ∃ e', e' ≤ e + 4 ∧ xX7_readNumber v = some (-1, up2 v 7 0 (nI e')) := by
  unfold nb xX7_readNumber
  rw [h7, c_sign S g (by omega), bnd_d]
  by_cases q : sg e = 32
  · have d := c_digits S 3 0 (e + 1) 1000 0 (up2 v 7 0 (nI (e + 1))) (tC_7 g (by omega)) (up2_self _ _ _ _) rfl (by omega) (by omega)
    rw [Nat.zero_add, up2_t] at d
    rw [if_pos q, if_pos q, put2_d, h7, nI_1]
    have hl := nmF_le sg 3 (e + 1) 0
    by_cases q2 : (nmF sg 3 (e + 1) 0).1 = 0
    · rw [if_pos q2] at d ⊢
      exact ⟨_, by omega, d⟩
    · rw [if_neg q2] at d ⊢
      exact d
  · rw [if_neg q, if_neg q]
    exact ⟨e, by omega, by rw [up2_r h7]⟩
