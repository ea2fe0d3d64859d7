/-! a command, carried out on both sides -/
theorem bnd_re {α : Type} (x : Option (α × zV2)) : (bnd x fun r h => some (r, h)) = x := by
  cases x with
  | none => rfl
  | some q => rfl
def sw (a1 : Int32) (h4 : zV2) : Option (Int32 × zV2) := (if a1 = (0 : Int32) then grd (inb (0 : Int32) 2) <| grd (inb (1 : Int32) 2) <| bnd (xX10_lends h4 (h4 5 ((0 : Int32).toNatClampNeg)) (h4 5 ((1 : Int32).toNatClampNeg))) fun r9 h11 => some (r9, h11) else (if a1 = (1 : Int32) then grd (inb (0 : Int32) 2) <| bnd (xX10_givesBack h4 (h4 5 ((0 : Int32).toNatClampNeg))) fun r14 h16 => some (r14, h16) else (if a1 = (2 : Int32) then grd (inb (0 : Int32) 2) <| bnd (xX10_renews h4 (h4 5 ((0 : Int32).toNatClampNeg))) fun r19 h21 => some (r19, h21) else (if a1 = (3 : Int32) then grd (inb (0 : Int32) 2) <| bnd (xX10_loses h4 (h4 5 ((0 : Int32).toNatClampNeg))) fun r24 h26 => some (r24, h26) else (if a1 = (4 : Int32) then grd (inb (0 : Int32) 2) <| grd (inb (1 : Int32) 2) <| bnd (xX10_wishes h4 (h4 5 ((0 : Int32).toNatClampNeg)) (h4 5 ((1 : Int32).toNatClampNeg))) fun r30 h32 => some (r30, h32) else (if a1 = (5 : Int32) then bnd (xX10_swaps h4) fun r34 h36 => some (r34, h36) else (if a1 = (6 : Int32) then grd (inb (0 : Int32) 2) <| grd (inb (1 : Int32) 2) <| bnd (xX10_pays h4 (h4 5 ((0 : Int32).toNatClampNeg)) (h4 5 ((1 : Int32).toNatClampNeg))) fun r40 h42 => some (r40, h42) else grd (inb (0 : Int32) 2) <| bnd (xX10_passes h4 (h4 5 ((0 : Int32).toNatClampNeg))) fun r44 h46 => some (r44, h46))))))))
def fr589 (h' h : zV2) : Prop := ∀ c, c ≠ 5 → c ≠ 8 → c ≠ 9 → h' c = h c
theorem fr589_t {a b c : zV2} (h1 : fr589 a b) (h2 : fr589 b c) : fr589 a c := fun x p q r => (h1 x p q r).trans (h2 x p q r)
theorem fr589_e {a b : zV2} (h : e89 a b) : fr589 a b := fun c p q r => funext fun j => h c j (by omega) (by omega)
theorem fr589_5 (h : zV2) (j : Nat) (x : Int32) : fr589 (up2 h 5 j x) h := fun c p q r => up2_col _ _ _ p
theorem fr589_9 (h : zV2) (x : Int32) : fr589 (up2 h 9 0 x) h := fun c p q r => up2_col _ _ _ r
theorem fr589_r (h : zV2) : fr589 h h := fun _ _ _ _ => rfl
theorem tR_589 {n : Nat} {sg : Nat → Int32} {h h' : zV2} (g : tR n sg h) (e : fr589 h' h) : tR n sg h' :=
  ⟨by rw [e 7 (by omega) (by omega) (by omega)]; exact g.1, fun i hi => by rw [e 4 (by omega) (by omega) (by omega)]; exact g.2 i hi⟩
theorem r_L50e {n : Nat} {sg : Nat → Int32} {h : zV2} (S : tS n sg) (g : tR n sg h) {e k j : Nat} (f : Nat) (a1 : Int32) {b : Bool} (hkj : k ≤ j) (hj : j ≤ 3) (he : e < 1000) (h8 : h 8 0 = nI e) (h9 : h 9 0 = bI b) : ∃ h', xX10_command_L50 (f + 1) h a1 (nI k) (nI j) = (if h' 9 0 = 0 then some ((0 : Int32), h') else sw a1 h') ∧ h' 9 0 = bI (b && decide (sg e = 59)) ∧ h' 8 0 = nI (e + 1) ∧ e89 h' h := by
  obtain ⟨h', m1, m2, m3, m4⟩ := r_must S g he h8 h9 (x := 59) (by decide) (by decide)
  refine ⟨h', ?_, m2, m3, m4⟩
  unfold xX10_command_L50
  rw [if_pos (nI_le hkj (by omega)), m1, bnd_d]
  rfl
theorem r_L50s {n : Nat} {sg : Nat → Int32} {h : zV2} (S : tS n sg) (g : tR n sg h) {e k j : Nat} (f : Nat) (a1 : Int32) {b : Bool} (hkj : j < k) (hj : k ≤ 2) (he : e < 900) (h8 : h 8 0 = nI e) (h9 : h 9 0 = bI b) : ∃ a e' h', xX10_command_L50 (f + 1) h a1 (nI k) (nI j) = xX10_command_L50 f h' a1 (nI k) (nI (j + 1)) ∧ fr589 h' h ∧ h' 9 0 = bI (b && (nb sg e).isSome) ∧ h' 8 0 = nI e' ∧ e' ≤ e + 4 ∧ h' 5 j = a ∧ (∀ i, i ≠ j → h' 5 i = h 5 i) ∧ ∀ a0 e0, nb sg e = some (a0, e0) → a = a0 ∧ e' = e0 := by
  obtain ⟨a, e', h1, n1, n2, n3, n4, n5, n6⟩ := r_num S g he h8 h9
  refine ⟨a, e', up2 h1 5 j a, ?_, fr589_t (fr589_5 _ _ _) (fr589_e n5), ?_, ?_, n4, up2_self _ _ _ _, fun i hi => ?_, n6⟩
  · conv => lhs; unfold xX10_command_L50
    rw [if_neg (nI_ge hkj (by omega)), n1, bnd_d, grd_eq (inb_nI (show j < 2 by omega) (by omega)), nI_clamp (by omega), put2_d, ltI_d, nI_1]
  · rw [up2_ne _ (by omega), n2]
  · rw [up2_ne _ (by omega), n3]
  · rw [up2_ne _ (by omega), n5 5 i (by omega) (by omega)]
theorem r_tail {n : Nat} {sg : Nat → Int32} {h : zV2} (S : tS n sg) (g : tR n sg h) {e k : Nat} (a1 : Int32) {b : Bool} (hk : k ≤ 2) (he : e < 880) (h8 : h 8 0 = nI e) (h9 : h 9 0 = bI b) : ∃ h', xX10_command_L50 1000 h a1 (nI k) 0 = (if h' 9 0 = 0 then some ((0 : Int32), h') else sw a1 h') ∧ fr589 h' h ∧ h' 9 0 = bI (b && (tailP sg k e).isSome) ∧ ∀ x, tailP sg k e = some x → h' 8 0 = nI x.2.2 ∧ (1 ≤ k → h' 5 0 = x.1) ∧ (2 ≤ k → h' 5 1 = x.2.1) := by
  have hA : k = 0 ∨ k = 1 ∨ k = 2 := by omega
  rcases hA with rfl | rfl | rfl
  · obtain ⟨h', m1, m2, m3, m4⟩ := r_L50e S g (k := 0) (j := 0) 999 a1 (Nat.le_refl _) (by omega) (by omega) h8 h9
    have t : tailP sg 0 e = if sg e = 59 then some ((0 : Int32), (0 : Int32), e + 1) else none := rfl
    refine ⟨h', m1, fr589_e m4, ?_, fun x hx => ?_⟩
    · rw [m2, t]
      by_cases q : sg e = 59
      · rw [if_pos q, decide_eq_true q]; rfl
      · rw [if_neg q, decide_eq_false q]; rfl
    · rw [t] at hx
      by_cases q : sg e = 59
      · rw [if_pos q] at hx
        cases hx
        exact ⟨m3, fun z => absurd z (by omega), fun z => absurd z (by omega)⟩
      · rw [if_neg q] at hx
        cases hx
  · obtain ⟨a, e', h1, s1, s2, s3, s4, s5, s6, s7, s8⟩ := r_L50s S g (k := 1) (j := 0) 999 a1 (by omega) (by omega) (by omega) h8 h9
    obtain ⟨h', m1, m2, m3, m4⟩ := r_L50e S (tR_589 g s2) (k := 1) (j := 1) 998 a1 (Nat.le_refl _) (by omega) (show e' < 1000 by omega) s4 s3
    refine ⟨h', s1.trans m1, fr589_t (fr589_e m4) s2, ?_, fun x hx => ?_⟩
    · rw [m2]
      cases z : nb sg e with
      | none =>
        have t : tailP sg 1 e = none := by unfold tailP; rw [z]; rfl
        rw [t]
        cases b <;> rfl
      | some y =>
        have t : tailP sg 1 e = if sg y.2 = 59 then some (y.1, (0 : Int32), y.2 + 1) else none := by unfold tailP; rw [z]; rfl
        obtain ⟨_, ee⟩ := s8 y.1 y.2 z
        rw [t, ee]
        by_cases q : sg y.2 = 59
        · rw [if_pos q, decide_eq_true q]; cases b <;> rfl
        · rw [if_neg q, decide_eq_false q]; cases b <;> rfl
    · cases z : nb sg e with
      | none =>
        have t : tailP sg 1 e = none := by unfold tailP; rw [z]; rfl
        rw [t] at hx
        cases hx
      | some y =>
        have t : tailP sg 1 e = if sg y.2 = 59 then some (y.1, (0 : Int32), y.2 + 1) else none := by unfold tailP; rw [z]; rfl
        obtain ⟨ea, ee⟩ := s8 y.1 y.2 z
        rw [t] at hx
        by_cases q : sg y.2 = 59
        · rw [if_pos q] at hx
          cases hx
          exact ⟨by rw [m3, ee], fun _ => by rw [m4 5 0 (by omega) (by omega), s6, ea], fun z => absurd z (by omega)⟩
        · rw [if_neg q] at hx
          cases hx
  · obtain ⟨a, e', h1, s1, s2, s3, s4, s5, s6, s7, s8⟩ := r_L50s S g (k := 2) (j := 0) 999 a1 (by omega) (by omega) (by omega) h8 h9
    obtain ⟨a', e2, h2, t1, t2, t3, t4, t5, t6, t7, t8⟩ := r_L50s S (tR_589 g s2) (k := 2) (j := 1) 998 a1 (by omega) (by omega) (show e' < 900 by omega) s4 s3
    obtain ⟨h', m1, m2, m3, m4⟩ := r_L50e S (tR_589 g (fr589_t t2 s2)) (k := 2) (j := 2) 997 a1 (Nat.le_refl _) (by omega) (show e2 < 1000 by omega) t4 t3
    refine ⟨h', s1.trans (t1.trans m1), fr589_t (fr589_e m4) (fr589_t t2 s2), ?_, fun x hx => ?_⟩
    · rw [m2]
      cases z : nb sg e with
      | none =>
        have t : tailP sg 2 e = none := by unfold tailP; rw [z]; rfl
        rw [t]
        cases b <;> rfl
      | some y =>
        obtain ⟨_, ee⟩ := s8 y.1 y.2 z
        rw [ee]
        rw [ee] at t8
        cases z2 : nb sg y.2 with
        | none =>
          have t : tailP sg 2 e = none := by unfold tailP; rw [z]; show (match nb sg y.2 with | none => none | some u => if sg u.2 = 59 then some (y.1, u.1, u.2 + 1) else none) = none; rw [z2]
          rw [t]
          cases b <;> rfl
        | some u =>
          have t : tailP sg 2 e = if sg u.2 = 59 then some (y.1, u.1, u.2 + 1) else none := by unfold tailP; rw [z]; show (match nb sg y.2 with | none => none | some u => if sg u.2 = 59 then some (y.1, u.1, u.2 + 1) else none) = _; rw [z2]
          obtain ⟨_, ee2⟩ := t8 u.1 u.2 z2
          rw [t, ee2]
          by_cases q : sg u.2 = 59
          · rw [if_pos q, decide_eq_true q]; cases b <;> rfl
          · rw [if_neg q, decide_eq_false q]; cases b <;> rfl
    · cases z : nb sg e with
      | none =>
        have t : tailP sg 2 e = none := by unfold tailP; rw [z]; rfl
        rw [t] at hx
        cases hx
      | some y =>
        obtain ⟨ea, ee⟩ := s8 y.1 y.2 z
        rw [ee] at t8
        cases z2 : nb sg y.2 with
        | none =>
          have t : tailP sg 2 e = none := by unfold tailP; rw [z]; show (match nb sg y.2 with | none => none | some u => if sg u.2 = 59 then some (y.1, u.1, u.2 + 1) else none) = none; rw [z2]
          rw [t] at hx
          cases hx
        | some u =>
          have t : tailP sg 2 e = if sg u.2 = 59 then some (y.1, u.1, u.2 + 1) else none := by unfold tailP; rw [z]; show (match nb sg y.2 with | none => none | some u => if sg u.2 = 59 then some (y.1, u.1, u.2 + 1) else none) = _; rw [z2]
          obtain ⟨ea2, ee2⟩ := t8 u.1 u.2 z2
          rw [t] at hx
          by_cases q : sg u.2 = 59
          · rw [if_pos q] at hx
            cases hx
            exact ⟨by rw [m3, ee2], fun _ => by rw [m4 5 0 (by omega) (by omega), t7 0 (by omega), s6, ea], fun _ => by rw [m4 5 1 (by omega) (by omega), t6, ea2]⟩
          · rw [if_neg q] at hx
            cases hx
theorem r_L15 (h : zV2) : ∀ q : Nat, q < 8 → xX10_command_L15 h (nI q) 1 = xX10_command_L50 1000 (up2 h 9 0 1) (nI q) (nI (ar q)) 0
  | 0, _ => rfl
  | 1, _ => rfl
  | 2, _ => rfl
  | 3, _ => rfl
  | 4, _ => rfl
  | 5, _ => rfl
  | 6, _ => rfl
  | 7, _ => rfl
  | q + 8, hq => absurd hq (by omega)
theorem r_L15n (h : zV2) : xX10_command_L15 h (-1) 0 = xX10_command_L50 1000 (up2 h 9 0 0) (-1) (nI 1) 0 := by
  unfold xX10_command_L15
  rw [grd_eq (by decide), put2_d, if_neg (by decide), if_neg (by decide), if_neg (by decide), if_neg (by decide), show nI 1 = (1 : Int32) from rfl]
theorem r_cmd {n : Nat} {sg : Nat → Int32} {h : zV2} (S : tS n sg) (g : tR n sg h) {i : Nat} (hi : i < n) (h8 : h 8 0 = nI i) : ∃ h', fr589 h' h ∧ (cmdP sg i = none → xX10_command h = some (0, h') ∧ h' 9 0 = 0) ∧ ∀ x, cmdP sg i = some x → xX10_command h = sw (nI x.1) h' ∧ h' 9 0 = 1 ∧ h' 8 0 = nI x.2.2.2 ∧ (1 ≤ ar x.1 → h' 5 0 = x.2.1) ∧ (2 ≤ ar x.1 → h' 5 1 = x.2.2.1) ∧ x.1 < 8 := by
  have hn := S.1
  obtain ⟨k', h1, a1, a2, a3, a4, a5, a6, a7⟩ := r_letters S (show i < 900 by omega) 5 0 1000 h g h8 rfl (by omega)
  have hw0 : xX10_readWord h = some (wf (pk sg i k') 8 0, h1) := by
    have e := r_find (pk sg i k') h1 8 0 1000 rfl (by omega)
    exact a5.trans e
  have g1 := tR_89 g a7
  have hc : ∀ j, j < k' → 97 ≤ (sg (i + j)).toNatClampNeg ∧ (sg (i + j)).toNatClampNeg ≤ 122 ∧ sg (i + j) = nI ((sg (i + j)).toNatClampNeg) := fun j hj => by
    obtain ⟨c, c1, c2, c3⟩ := lt_n S (a3 j (by omega) hj)
    rw [c3, nI_clamp (by omega)]
    exact ⟨c1, c2, rfl⟩
  have wlet : ∀ q : Fin 8, wlen q.val ≤ 5 ∧ ∀ t : Fin 5, t.val < wlen q.val → lt (wbyt q.val t.val) = true := by decide +kernel
  have nol : lt 59 = false ∧ lt 32 = false := by decide
  have minus : wf (pk sg i k') 8 0 = -1 → cmdP sg i = none → ∃ h', fr589 h' h ∧ (cmdP sg i = none → xX10_command h = some (0, h') ∧ h' 9 0 = 0) ∧ ∀ x, cmdP sg i = some x → xX10_command h = sw (nI x.1) h' ∧ h' 9 0 = 1 ∧ h' 8 0 = nI x.2.2.2 ∧ (1 ≤ ar x.1 → h' 5 0 = x.2.1) ∧ (2 ≤ ar x.1 → h' 5 1 = x.2.2.1) ∧ x.1 < 8 := fun hm hcm => by
    obtain ⟨h', t1, t2, t3, t4⟩ := r_tail S (tR_89 g1 (e89_9 h1 0)) (k := 1) (-1) (b := false) (by omega) (show i + k' < 880 by omega) (by rw [up2_ne _ (by omega)]; exact a6) (up2_self _ _ _ _)
    have z9 : h' 9 0 = 0 := t3
    rw [if_pos z9] at t1
    refine ⟨h', fr589_t t2 (fr589_t (fr589_9 _ _) (fr589_e a7)), fun _ => ⟨?_, z9⟩, fun x hx => by rw [hcm] at hx; cases hx⟩
    unfold xX10_command
    rw [hw0, bnd_d, hm, if_pos (by decide), r_L15n, t1]
  cases hv : vb sg i 8 0 with
  | none =>
    refine minus (wf_none fun q h1 h2 e => ?_) (by unfold cmdP; rw [hv])
    obtain ⟨b1, b2⟩ := w_to a2 (show q < 8 by omega) hc e
    have := vb_none hv q h1 h2
    rw [(hw_iff sg q i (wlen q) 0).mpr (fun t _ ht => b2 t (by omega))] at this
    cases this
  | some q =>
    have hvs := vb_some hv
    have hq : q < 8 := by omega
    have hs : ∀ t, t < wlen q → sg (i + t) = wbyt q t := fun t ht => (hw_iff sg q i (wlen q) 0).mp hvs.2.2 t (Nat.zero_le _) (by omega)
    obtain ⟨hl, hlt⟩ := wlet ⟨q, hq⟩
    replace hl : wlen q ≤ 5 := hl
    have hge : wlen q ≤ k' := Nat.le_of_not_lt fun z => by
      rcases a4 with a4 | a4
      · omega
      · have := hlt ⟨k', by omega⟩ z
        rw [hs k' z, this] at a4
        cases a4
    by_cases e : k' = wlen q
    · subst e
      have hw1 := w_of q hq hs
      have inj : ∀ a b : Fin 8, wq a.val = wq b.val → a = b := by decide +kernel
      have hf : wf (pk sg i (wlen q)) 8 0 = nI q := wf_some hw1 (Nat.zero_le _) (by omega) (fun q' _ h2 e => by
        have := congrArg Fin.val (inj ⟨q', by omega⟩ ⟨q, hq⟩ (e.trans hw1.symm))
        have h3 : q' = q := this
        omega)
      obtain ⟨h', t1, t2, t3, t4⟩ := r_tail S (tR_89 g1 (e89_9 h1 1)) (k := ar q) (nI q) (b := true) (ar_w q hq).2 (show i + wlen q < 880 by omega) (by rw [up2_ne _ (by omega)]; exact a6) (up2_self _ _ _ _)
      have hcm : xX10_command h = (if h' 9 0 = 0 then some ((0 : Int32), h') else sw (nI q) h') := by
        unfold xX10_command
        rw [hw0, bnd_d, hf, if_neg (nI_pos (by omega)), r_L15 h1 q hq, t1]
      refine ⟨h', fr589_t t2 (fr589_t (fr589_9 _ _) (fr589_e a7)), ?_⟩
      cases z : tailP sg (ar q) (i + wlen q) with
      | none =>
        have t : cmdP sg i = none := by unfold cmdP; rw [hv]; show (match tailP sg (ar q) (i + wlen q) with | none => none | some x => some (q, x.1, x.2.1, x.2.2)) = none; rw [z]
        rw [z] at t3
        have z9 : h' 9 0 = 0 := t3
        rw [if_pos z9] at hcm
        rw [t]
        exact ⟨fun _ => ⟨hcm, z9⟩, fun x hx => by cases hx⟩
      | some u =>
        have t : cmdP sg i = some (q, u.1, u.2.1, u.2.2) := by unfold cmdP; rw [hv]; show (match tailP sg (ar q) (i + wlen q) with | none => none | some x => some (q, x.1, x.2.1, x.2.2)) = _; rw [z]
        rw [z] at t3
        have z9 : h' 9 0 = 1 := t3
        rw [z9, if_neg (by decide)] at hcm
        obtain ⟨u1, u2, u3⟩ := t4 u z
        rw [t]
        exact ⟨fun y => (by cases y), fun x hx => by cases hx; exact ⟨hcm, z9, u1, u2, u3, hq⟩⟩
    · have hgt : wlen q < k' := by omega
      have hlet := a3 (wlen q) (Nat.zero_le _) hgt
      have n59 : sg (i + wlen q) ≠ 59 := fun z => by rw [z, nol.1] at hlet; cases hlet
      have n32 : sg (i + wlen q) ≠ 32 := fun z => by rw [z, nol.2] at hlet; cases hlet
      have hnb : nb sg (i + wlen q) = none := if_neg n32
      have ht : tailP sg (ar q) (i + wlen q) = none := by
        have hA : ar q = 0 ∨ ar q = 1 ∨ ar q = 2 := by have := (ar_w q hq).2; omega
        rcases hA with hA | hA | hA
        · rw [hA]
          exact if_neg n59
        · rw [hA]
          unfold tailP
          rw [hnb]
          rfl
        · rw [hA]
          unfold tailP
          rw [hnb]
          rfl
      refine minus (wf_none fun q' h1 h2 e2 => ?_) (by unfold cmdP; rw [hv]; show (match tailP sg (ar q) (i + wlen q) with | none => none | some x => some (q, x.1, x.2.1, x.2.2)) = none; rw [ht])
      obtain ⟨b1, b2⟩ := w_to a2 (show q' < 8 by omega) hc e2
      have pre : ∀ a b : Fin 8, wlen a.val < wlen b.val → ∃ t : Fin 5, t.val < wlen a.val ∧ wbyt a.val t.val ≠ wbyt b.val t.val := by decide +kernel
      obtain ⟨t, p1, p2⟩ := pre ⟨q, hq⟩ ⟨q', by omega⟩ (show wlen q < wlen q' by omega)
      replace p1 : t.val < wlen q := p1
      exact p2 ((hs t.val p1).symm.trans (b2 t.val (by omega)))
def opC (q : Nat) (c : zV2) (a b : Int32) : Option (Int32 × zV2) := match q with
  | 0 => xX1_lendTo c a b
  | 1 => xX1_takeBack c a
  | 2 => xX1_prolong c a
  | 3 => xX1_loseKey c a
  | 4 => xX1_wishFor c a b
  | 5 => xX1_swapAll c
  | 6 => xX1_payCoins c a b
  | _ => xX1_passDays c a 5000
def opR (q : Nat) (h : zV2) (a b : Int32) : Option (Int32 × zV2) := match q with
  | 0 => xX10_lends h a b
  | 1 => xX10_givesBack h a
  | 2 => xX10_renews h a
  | 3 => xX10_loses h a
  | 4 => xX10_wishes h a b
  | 5 => xX10_swaps h
  | 6 => xX10_pays h a b
  | _ => xX10_passes h a
theorem op_q {c h : zV2} (a b : Int32) (g : RR 5000 c (dec h)) : ∀ q : Nat, q < 8 → OP (opC q c a b) (opR q h a b) h 5000
  | 0, _ => o_lend a b g (by decide)
  | 1, _ => o_back a g (by decide)
  | 2, _ => o_renew a g (by decide)
  | 3, _ => o_lose a g (by decide)
  | 4, _ => o_wish a b g (by decide)
  | 5, _ => o_swap g
  | 6, _ => o_pay a b g (by decide)
  | 7, _ => o_pass a g
  | q + 8, hq => absurd hq (by omega)
theorem c_obey (V : zV3) (a b : Int32) : ∀ q : Nat, q < 8 → xX6_obey q V a b = bndG (opC q (V 6) a b) V 6 fun r V1 => some (r, V1)
  | 0, _ => rfl
  | 1, _ => rfl
  | 2, _ => rfl
  | 3, _ => rfl
  | 4, _ => rfl
  | 5, _ => rfl
  | 6, _ => rfl
  | 7, _ => rfl
  | q + 8, hq => absurd hq (by omega)
theorem r_sw (h : zV2) (a b : Int32) : ∀ q : Nat, q < 8 → (1 ≤ ar q → h 5 0 = a) → (2 ≤ ar q → h 5 1 = b) → sw (nI q) h = opR q h a b
  | 0, _, h1, h2 => by
    rw [← h1 (by decide), ← h2 (by decide)]
    exact bnd_re _
  | 1, _, h1, h2 => by
    rw [← h1 (by decide)]
    exact bnd_re _
  | 2, _, h1, h2 => by
    rw [← h1 (by decide)]
    exact bnd_re _
  | 3, _, h1, h2 => by
    rw [← h1 (by decide)]
    exact bnd_re _
  | 4, _, h1, h2 => by
    rw [← h1 (by decide), ← h2 (by decide)]
    exact bnd_re _
  | 5, _, h1, h2 => bnd_re _
  | 6, _, h1, h2 => by
    rw [← h1 (by decide), ← h2 (by decide)]
    exact bnd_re _
  | 7, _, h1, h2 => by
    rw [← h1 (by decide)]
    exact bnd_re _
  | q + 8, hq, _, _ => absurd hq (by omega)

