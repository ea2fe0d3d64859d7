/-! a command, read on both sides -/
def ar (q : Nat) : Nat := match q with
  | 0 => 2
  | 1 => 1
  | 2 => 1
  | 3 => 1
  | 4 => 2
  | 5 => 0
  | 6 => 2
  | _ => 1
theorem ar_w : ∀ q : Nat, q < 8 → wnum q = nI (ar q) ∧ ar q ≤ 2
  | 0, _ => ⟨rfl, by decide⟩
  | 1, _ => ⟨rfl, by decide⟩
  | 2, _ => ⟨rfl, by decide⟩
  | 3, _ => ⟨rfl, by decide⟩
  | 4, _ => ⟨rfl, by decide⟩
  | 5, _ => ⟨rfl, by decide⟩
  | 6, _ => ⟨rfl, by decide⟩
  | 7, _ => ⟨rfl, by decide⟩
  | q + 8, h => absurd h (by omega)
def tailP (sg : Nat → Int32) (k e : Nat) : Option (Int32 × Int32 × Nat) := match k with
  | 0 => if sg e = 59 then some (0, 0, e + 1) else none
  | 1 => match nb sg e with
    | none => none
    | some x => if sg x.2 = 59 then some (x.1, 0, x.2 + 1) else none
  | _ => match nb sg e with
    | none => none
    | some x => match nb sg x.2 with
      | none => none
      | some y => if sg y.2 = 59 then some (x.1, y.1, y.2 + 1) else none
def cmdP (sg : Nat → Int32) (i : Nat) : Option (Nat × Int32 × Int32 × Nat) := match vb sg i 8 0 with
  | none => none
  | some q => match tailP sg (ar q) (i + wlen q) with
    | none => none
    | some x => some (q, x.1, x.2.1, x.2.2)
def fr7 (v' v : zV2) : Prop := ∀ c j, ¬ (4 ≤ c ∧ c ≤ 7 ∧ j = 0) → v' c j = v c j
theorem fr7_r (v : zV2) : fr7 v v := fun _ _ _ => rfl
theorem fr7_t {a b c : zV2} (h1 : fr7 a b) (h2 : fr7 b c) : fr7 a c := fun i j p => (h1 i j p).trans (h2 i j p)
theorem fr7_u (v : zV2) {c : Nat} (x : Int32) (h1 : 4 ≤ c) (h2 : c ≤ 7) : fr7 (up2 v c 0 x) v := fun i j p => up2_ne _ (by omega)
theorem tC_f {n : Nat} {sg : Nat → Int32} {v v' : zV2} (g : tC n sg v) (f : fr7 v' v) : tC n sg v' :=
  ⟨by rw [f 3 0 (by omega)]; exact g.1, fun i hi => by rw [f 2 i (by omega)]; exact g.2 i hi⟩
theorem vopt_s (q : Nat) (h : q < 8) : vopt (nI (q + 1)) = some q := by
  unfold vopt
  rw [if_neg (nI_ne0 (by omega) (by omega)), nI_clamp (by omega), Nat.add_sub_cancel]
theorem vopt_0 : vopt 0 = none := if_pos rfl
theorem c_L77 {n : Nat} {sg : Nat → Int32} (S : tS n sg) {v : zV2} (g : tC n sg v) {e : Nat} (h7 : v 7 0 = nI e) (he : e < 990) (p y : Int32) : ∃ v', fr7 v' v ∧ ((v 5 0 = -1 ∨ y = -1 ∨ sg e ≠ 59) → xX7_readCommand_L77 p v y = some (0, v')) ∧ (¬ (v 5 0 = -1 ∨ y = -1 ∨ sg e ≠ 59) → xX7_readCommand_L77 p v y = some (1, v') ∧ v' 4 0 = v 4 0 ∧ v' 5 0 = v 5 0 ∧ v' 6 0 = y ∧ v' 7 0 = nI (e + 1)) := by
  have e5 : up2 v 6 0 y 5 0 = v 5 0 := up2_ne _ (by omega)
  have e7 : up2 v 6 0 y 7 0 = nI e := by rw [up2_ne _ (by omega), h7]
  have f6 := fr7_u v (c := 6) y (by omega) (by omega)
  unfold xX7_readCommand_L77
  rw [put2_d, e5, up2_self, e7, c_sign S (tC_f g f6) (by omega), bnd_d, e7]
  by_cases q1 : v 5 0 = -1
  · rw [if_pos q1]
    exact ⟨_, f6, fun _ => rfl, fun z => absurd (Or.inl q1) z⟩
  · rw [if_neg q1]
    by_cases q2 : y = -1
    · rw [if_pos q2]
      exact ⟨_, f6, fun _ => rfl, fun z => absurd (Or.inr (Or.inl q2)) z⟩
    · rw [if_neg q2]
      by_cases q3 : sg e = 59
      · rw [if_pos q3, put2_d, nI_1]
        refine ⟨_, fr7_t (fr7_u _ _ (by omega) (by omega)) f6, fun z => absurd q3 ?_, fun _ => ⟨rfl, ?_, ?_, ?_, up2_self _ _ _ _⟩⟩
        · rcases z with z | z | z
          · exact absurd z q1
          · exact absurd z q2
          · exact z
        · rw [up2_ne _ (by omega), up2_ne _ (by omega)]
        · rw [up2_ne _ (by omega), up2_ne _ (by omega)]
        · rw [up2_ne _ (by omega), up2_self]
      · rw [if_neg q3]
        exact ⟨_, f6, fun _ => rfl, fun z => absurd (Or.inr (Or.inr q3)) z⟩
/-- the numbers and the end of a command, by the class -/
theorem c_L54 {n : Nat} {sg : Nat → Int32} (S : tS n sg) {v : zV2} (g : tC n sg v) {e q : Nat} (h7 : v 7 0 = nI e) (he : e < 890) (hq : q < 8) (h4 : v 4 0 = nI (q + 1)) (p x : Int32) : ∃ v', fr7 v' v ∧ match (if x = -1 then none else if ar q < 2 then (if sg e = 59 then some ((0 : Int32), e + 1) else none) else match nb sg e with | none => none | some y => if sg y.2 = 59 then some (y.1, y.2 + 1) else none) with
    | none => xX7_readCommand_L54 p v x = some (0, v')
    | some z => xX7_readCommand_L54 p v x = some (1, v') ∧ v' 4 0 = nI (q + 1) ∧ v' 5 0 = x ∧ v' 6 0 = z.1 ∧ v' 7 0 = nI z.2 := by
  obtain ⟨aw, al⟩ := ar_w q hq
  have f5 := fr7_u v (c := 5) x (by omega) (by omega)
  have g5 := tC_f g f5
  have e7 : up2 v 5 0 x 7 0 = nI e := by rw [up2_ne _ (by omega), h7]
  have e4 : up2 v 5 0 x 4 0 = nI (q + 1) := by rw [up2_ne _ (by omega), h4]
  unfold xX7_readCommand_L54
  rw [put2_d, e4, vopt_s q hq, om_s, grd_eq (decide_eq_true hq), aw]
  by_cases a2 : ar q < 2
  · rw [if_pos (show nI (ar q) < (2 : Int32) from nI_lt (a := ar q) (b := 2) a2 (by omega))]
    obtain ⟨v', k1, k2, k3⟩ := c_L77 S g5 e7 (by omega) p 0
    rw [up2_self] at k2 k3
    refine ⟨v', fr7_t k1 f5, ?_⟩
    by_cases q1 : x = -1
    · rw [if_pos q1]
      exact k2 (Or.inl q1)
    · rw [if_neg q1, if_pos a2]
      by_cases q2 : sg e = 59
      · rw [if_pos q2]
        obtain ⟨z1, z2, z3, z4, z5⟩ := k3 (fun z => by
          rcases z with z | z | z
          · exact q1 z
          · exact absurd z (by decide)
          · exact z q2)
        exact ⟨z1, by rw [z2, e4], z3, z4, z5⟩
      · rw [if_neg q2]
        exact k2 (Or.inr (Or.inr q2))
  · rw [if_neg (show ¬ nI (ar q) < (2 : Int32) from nI_nlt (a := ar q) (b := 2) (by omega) (by omega)), if_neg a2]
    have hn := c_num S g5 e7 (by omega)
    cases z : nb sg e with
    | none =>
      rw [z] at hn
      obtain ⟨e', b1, b2⟩ := hn
      have f7 := fr7_u (up2 v 5 0 x) (c := 7) (nI e') (by omega) (by omega)
      obtain ⟨v', k1, k2, k3⟩ := c_L77 S (tC_f g5 f7) (up2_self _ _ _ _) (show e' < 990 by omega) p (-1)
      refine ⟨v', fr7_t k1 (fr7_t f7 f5), ?_⟩
      rw [b2, bnd_d, show (if x = -1 then (none : Option (Int32 × Nat)) else none) = none by split <;> rfl]
      exact k2 (Or.inr (Or.inl rfl))
    | some y =>
      rw [z] at hn
      obtain ⟨y1, y2, y3⟩ := nb_b S (a := y.1) (e' := y.2) z
      have hn' : xX7_readNumber (up2 v 5 0 x) = some (y.1, up2 (up2 v 5 0 x) 7 0 (nI y.2)) := hn
      have f7 := fr7_u (up2 v 5 0 x) (c := 7) (nI y.2) (by omega) (by omega)
      have w5 : up2 (up2 v 5 0 x) 7 0 (nI y.2) 5 0 = x := by rw [up2_ne _ (by omega), up2_self]
      have w4 : up2 (up2 v 5 0 x) 7 0 (nI y.2) 4 0 = nI (q + 1) := by rw [up2_ne _ (by omega), e4]
      obtain ⟨v', k1, k2, k3⟩ := c_L77 S (tC_f g5 f7) (up2_self _ _ _ _) (show y.2 < 990 by omega) p y.1
      rw [w5] at k2 k3
      refine ⟨v', fr7_t k1 (fr7_t f7 f5), ?_⟩
      rw [hn', bnd_d]
      by_cases q1 : x = -1
      · rw [if_pos q1]
        exact k2 (Or.inl q1)
      · rw [if_neg q1]
        show match (if sg y.2 = 59 then some (y.1, y.2 + 1) else none) with
          | none => xX7_readCommand_L77 p (up2 (up2 v 5 0 x) 7 0 (nI y.2)) y.1 = some (0, v')
          | some z => xX7_readCommand_L77 p (up2 (up2 v 5 0 x) 7 0 (nI y.2)) y.1 = some (1, v') ∧ v' 4 0 = nI (q + 1) ∧ v' 5 0 = x ∧ v' 6 0 = z.1 ∧ v' 7 0 = nI z.2
        by_cases q2 : sg y.2 = 59
        · rw [if_pos q2]
          obtain ⟨z1, z2, z3, z4, z5⟩ := k3 (fun z => by
            rcases z with z | z | z
            · exact q1 z
            · exact y1 z
            · exact z q2)
          exact ⟨z1, by rw [z2, w4], z3, z4, z5⟩
        · rw [if_neg q2]
          exact k2 (Or.inr (Or.inr q2))
theorem c_tail {n : Nat} {sg : Nat → Int32} (S : tS n sg) {v1 : zV2} (g1 : tC n sg v1) {e q : Nat} (h7 : v1 7 0 = nI e) (he : e < 880) (hq : q < 8) (h4 : v1 4 0 = nI (q + 1)) (p : Int32) : ∃ v', fr7 v' v1 ∧ (tailP sg (ar q) e = none → (if nI (ar q) < 1 then xX7_readCommand_L54 p v1 0 else bnd (xX7_readNumber v1) fun r32 h34 => xX7_readCommand_L54 p h34 r32) = some (0, v')) ∧ ∀ x, tailP sg (ar q) e = some x → (if nI (ar q) < 1 then xX7_readCommand_L54 p v1 0 else bnd (xX7_readNumber v1) fun r32 h34 => xX7_readCommand_L54 p h34 r32) = some (1, v') ∧ v' 4 0 = nI (q + 1) ∧ v' 5 0 = x.1 ∧ v' 6 0 = x.2.1 ∧ v' 7 0 = nI x.2.2 := by
  obtain ⟨aw, al⟩ := ar_w q hq
  have hA : ar q = 0 ∨ ar q = 1 ∨ ar q = 2 := by omega
  rcases hA with hA | hA | hA
  · obtain ⟨v', k1, k2⟩ := c_L54 S g1 h7 (by omega) hq h4 p 0
    rw [hA, if_pos (show nI 0 < (1 : Int32) by decide)]
    rw [hA, if_neg (by decide), if_pos (by decide)] at k2
    have t : tailP sg 0 e = if sg e = 59 then some ((0 : Int32), (0 : Int32), e + 1) else none := rfl
    refine ⟨v', k1, ?_⟩
    by_cases q2 : sg e = 59
    · rw [if_pos q2] at k2 t
      rw [t]
      exact ⟨fun z => (by cases z), fun x hx => by cases hx; exact k2⟩
    · rw [if_neg q2] at k2 t
      rw [t]
      exact ⟨fun _ => k2, fun x hx => by cases hx⟩
  · have hn := c_num S g1 h7 (by omega)
    rw [hA, if_neg (show ¬ nI 1 < (1 : Int32) by decide)]
    cases z : nb sg e with
    | none =>
      rw [z] at hn
      obtain ⟨e', b1, b2⟩ := hn
      have f7 := fr7_u v1 (c := 7) (nI e') (by omega) (by omega)
      obtain ⟨v', k1, k2⟩ := c_L54 S (tC_f g1 f7) (up2_self _ _ _ _) (show e' < 890 by omega) hq (by rw [up2_ne _ (by omega), h4]) p (-1)
      have t : tailP sg 1 e = none := by unfold tailP; rw [z]; rfl
      rw [if_pos rfl] at k2
      rw [t, b2, bnd_d]
      exact ⟨v', fr7_t k1 f7, fun _ => k2, fun x hx => by cases hx⟩
    | some y =>
      rw [z] at hn
      have hn' : xX7_readNumber v1 = some (y.1, up2 v1 7 0 (nI y.2)) := hn
      obtain ⟨y1, y2, y3⟩ := nb_b S (a := y.1) (e' := y.2) z
      have f7 := fr7_u v1 (c := 7) (nI y.2) (by omega) (by omega)
      obtain ⟨v', k1, k2⟩ := c_L54 S (tC_f g1 f7) (up2_self _ _ _ _) (show y.2 < 890 by omega) hq (by rw [up2_ne _ (by omega), h4]) p y.1
      have t : tailP sg 1 e = if sg y.2 = 59 then some (y.1, (0 : Int32), y.2 + 1) else none := by unfold tailP; rw [z]; rfl
      rw [if_neg y1, hA, if_pos (by decide)] at k2
      rw [hn', bnd_d]
      refine ⟨v', fr7_t k1 f7, ?_⟩
      by_cases q2 : sg y.2 = 59
      · rw [if_pos q2] at k2 t
        rw [t]
        exact ⟨fun z => (by cases z), fun x hx => by cases hx; exact k2⟩
      · rw [if_neg q2] at k2 t
        rw [t]
        exact ⟨fun _ => k2, fun x hx => by cases hx⟩
  · have hn := c_num S g1 h7 (by omega)
    rw [hA, if_neg (show ¬ nI 2 < (1 : Int32) by decide)]
    cases z : nb sg e with
    | none =>
      rw [z] at hn
      obtain ⟨e', b1, b2⟩ := hn
      have f7 := fr7_u v1 (c := 7) (nI e') (by omega) (by omega)
      obtain ⟨v', k1, k2⟩ := c_L54 S (tC_f g1 f7) (up2_self _ _ _ _) (show e' < 890 by omega) hq (by rw [up2_ne _ (by omega), h4]) p (-1)
      have t : tailP sg 2 e = none := by unfold tailP; rw [z]; rfl
      rw [if_pos rfl] at k2
      rw [t, b2, bnd_d]
      exact ⟨v', fr7_t k1 f7, fun _ => k2, fun x hx => by cases hx⟩
    | some y =>
      rw [z] at hn
      have hn' : xX7_readNumber v1 = some (y.1, up2 v1 7 0 (nI y.2)) := hn
      obtain ⟨y1, y2, y3⟩ := nb_b S (a := y.1) (e' := y.2) z
      have f7 := fr7_u v1 (c := 7) (nI y.2) (by omega) (by omega)
      obtain ⟨v', k1, k2⟩ := c_L54 S (tC_f g1 f7) (up2_self _ _ _ _) (show y.2 < 890 by omega) hq (by rw [up2_ne _ (by omega), h4]) p y.1
      rw [if_neg y1, hA, if_neg (by decide)] at k2
      rw [hn', bnd_d]
      refine ⟨v', fr7_t k1 f7, ?_⟩
      cases z2 : nb sg y.2 with
      | none =>
        rw [z2] at k2
        have t : tailP sg 2 e = none := by unfold tailP; rw [z]; show (match nb sg y.2 with | none => none | some u => if sg u.2 = 59 then some (y.1, u.1, u.2 + 1) else none) = none; rw [z2]
        rw [t]
        exact ⟨fun _ => k2, fun x hx => by cases hx⟩
      | some u =>
        rw [z2] at k2
        replace k2 : match (if sg u.2 = 59 then some (u.1, u.2 + 1) else none) with
          | none => xX7_readCommand_L54 p (up2 v1 7 0 (nI y.2)) y.1 = some (0, v')
          | some z => xX7_readCommand_L54 p (up2 v1 7 0 (nI y.2)) y.1 = some (1, v') ∧ v' 4 0 = nI (q + 1) ∧ v' 5 0 = y.1 ∧ v' 6 0 = z.1 ∧ v' 7 0 = nI z.2 := k2
        have t : tailP sg 2 e = if sg u.2 = 59 then some (y.1, u.1, u.2 + 1) else none := by unfold tailP; rw [z]; show (match nb sg y.2 with | none => none | some u => if sg u.2 = 59 then some (y.1, u.1, u.2 + 1) else none) = _; rw [z2]
        by_cases q2 : sg u.2 = 59
        · rw [if_pos q2] at k2 t
          rw [t]
          exact ⟨fun z => (by cases z), fun x hx => by cases hx; exact k2⟩
        · rw [if_neg q2] at k2 t
          rw [t]
          exact ⟨fun _ => k2, fun x hx => by cases hx⟩
theorem c_cmd {n : Nat} {sg : Nat → Int32} (S : tS n sg) {v : zV2} (g : tC n sg v) {i : Nat} (hi : i < n) : ∃ v', fr7 v' v ∧ (cmdP sg i = none → xX7_readCommand v (nI i) = some (0, v')) ∧ ∀ x, cmdP sg i = some x → xX7_readCommand v (nI i) = some (1, v') ∧ v' 4 0 = nI (x.1 + 1) ∧ v' 5 0 = x.2.1 ∧ v' 6 0 = x.2.2.1 ∧ v' 7 0 = nI x.2.2.2 ∧ x.1 < 8 := by
  have hn := S.1
  have hv : xX7_verbAt v (nI i) = some (vb sg i 8 0, v) := c_verb S g (by omega) 8 0 1000 rfl (by omega)
  unfold xX7_readCommand
  rw [hv, bnd_d]
  cases hvb : vb sg i 8 0 with
  | none =>
    have t : cmdP sg i = none := by unfold cmdP; rw [hvb]
    rw [om_n, put2_d, up2_self, vopt_0, om_n, t]
    exact ⟨_, fr7_u v _ (by omega) (by omega), fun _ => rfl, fun x hx => by cases hx⟩
  | some q =>
    have hq : q < 8 := by have := (vb_some hvb).2.1; omega
    have x : ∀ b : Fin 8, wlen b.val ≤ 5 := by decide +kernel
    have hl : wlen q ≤ 5 := x ⟨q, hq⟩
    obtain ⟨aw, al⟩ := ar_w q hq
    have f1 : fr7 (up2 (up2 v 4 0 (nI (q + 1))) 7 0 (nI (i + wlen q))) v := fr7_t (fr7_u _ _ (by omega) (by omega)) (fr7_u _ _ (by omega) (by omega))
    have g1 := tC_f g f1
    have h4 : up2 (up2 v 4 0 (nI (q + 1))) 7 0 (nI (i + wlen q)) 4 0 = nI (q + 1) := by rw [up2_ne _ (by omega), up2_self]
    have h7 : up2 (up2 v 4 0 (nI (q + 1))) 7 0 (nI (i + wlen q)) 7 0 = nI (i + wlen q) := up2_self _ _ _ _
    rw [om_s, grd_eq (decide_eq_true hq), put2_d, up2_self, vopt_s q hq, om_s, grd_eq (decide_eq_true hq), om_s, grd_eq (decide_eq_true hq), c_len q hq, bnd_d, nI_add, put2_d, h4, vopt_s q hq, om_s, grd_eq (decide_eq_true hq), aw]
    generalize hv1 : up2 (up2 v 4 0 (nI (q + 1))) 7 0 (nI (i + wlen q)) = v1 at f1 g1 h4 h7 ⊢
    obtain ⟨v', k1, k2, k3⟩ := c_tail S g1 h7 (by omega) hq h4 (nI i)
    refine ⟨v', fr7_t k1 f1, ?_⟩
    cases z : tailP sg (ar q) (i + wlen q) with
    | none =>
      have t : cmdP sg i = none := by unfold cmdP; rw [hvb]; show (match tailP sg (ar q) (i + wlen q) with | none => none | some x => some (q, x.1, x.2.1, x.2.2)) = none; rw [z]
      rw [t]
      exact ⟨fun _ => k2 z, fun x hx => by cases hx⟩
    | some u =>
      have t : cmdP sg i = some (q, u.1, u.2.1, u.2.2) := by unfold cmdP; rw [hvb]; show (match tailP sg (ar q) (i + wlen q) with | none => none | some x => some (q, x.1, x.2.1, x.2.2)) = _; rw [z]
      obtain ⟨m1, m2, m3, m4, m5⟩ := k3 u z
      rw [t]
      exact ⟨fun y => (by cases y), fun x hx => by cases hx; exact ⟨m1, m2, m3, m4, m5, hq⟩⟩

