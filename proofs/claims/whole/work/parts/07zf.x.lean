/-! the text carried out, on both sides -/
theorem tailP_e {n : Nat} {sg : Nat → Int32} (S : tS n sg) {k e : Nat} {x : Int32 × Int32 × Nat} (h : tailP sg k e = some x) : e < x.2.2 ∧ x.2.2 ≤ n := by
  have fin : ∀ p, sg p = 59 → p + 1 ≤ n := fun p hp => Nat.lt_of_not_le fun z => by
    rw [S.2.2 p z] at hp
    exact absurd hp (by decide)
  match k with
  | 0 =>
    have t : tailP sg 0 e = if sg e = 59 then some ((0 : Int32), (0 : Int32), e + 1) else none := rfl
    rw [t] at h
    by_cases q : sg e = 59
    · rw [if_pos q] at h
      cases h
      exact ⟨Nat.lt_succ_self _, fin _ q⟩
    · rw [if_neg q] at h
      cases h
  | 1 =>
    cases z : nb sg e with
    | none =>
      have t : tailP sg 1 e = none := by unfold tailP; rw [z]; rfl
      rw [t] at h
      cases h
    | some y =>
      have t : tailP sg 1 e = if sg y.2 = 59 then some (y.1, (0 : Int32), y.2 + 1) else none := by unfold tailP; rw [z]; rfl
      obtain ⟨y1, y2, y3⟩ := nb_b S (a := y.1) (e' := y.2) z
      rw [t] at h
      by_cases q : sg y.2 = 59
      · rw [if_pos q] at h
        cases h
        exact ⟨show e < y.2 + 1 by omega, fin _ q⟩
      · rw [if_neg q] at h
        cases h
  | k + 2 =>
    cases z : nb sg e with
    | none =>
      have t : tailP sg (k + 2) e = none := by unfold tailP; rw [z]; rfl
      rw [t] at h
      cases h
    | some y =>
      obtain ⟨y1, y2, y3⟩ := nb_b S (a := y.1) (e' := y.2) z
      cases z2 : nb sg y.2 with
      | none =>
        have t : tailP sg (k + 2) e = none := by unfold tailP; rw [z]; show (match nb sg y.2 with | none => none | some u => if sg u.2 = 59 then some (y.1, u.1, u.2 + 1) else none) = none; rw [z2]
        rw [t] at h
        cases h
      | some u =>
        have t : tailP sg (k + 2) e = if sg u.2 = 59 then some (y.1, u.1, u.2 + 1) else none := by unfold tailP; rw [z]; show (match nb sg y.2 with | none => none | some u => if sg u.2 = 59 then some (y.1, u.1, u.2 + 1) else none) = _; rw [z2]
        obtain ⟨u1, u2, u3⟩ := nb_b S (a := u.1) (e' := u.2) z2
        rw [t] at h
        by_cases q : sg u.2 = 59
        · rw [if_pos q] at h
          cases h
          exact ⟨show e < u.2 + 1 by omega, fin _ q⟩
        · rw [if_neg q] at h
          cases h
theorem cmdP_e {n : Nat} {sg : Nat → Int32} (S : tS n sg) {i : Nat} {x : Nat × Int32 × Int32 × Nat} (h : cmdP sg i = some x) : i < x.2.2.2 ∧ x.2.2.2 ≤ n := by
  unfold cmdP at h
  cases hv : vb sg i 8 0 with
  | none =>
    rw [hv] at h
    cases h
  | some q =>
    rw [hv] at h
    replace h : (match tailP sg (ar q) (i + wlen q) with | none => none | some x => some (q, x.1, x.2.1, x.2.2)) = some x := h
    cases z : tailP sg (ar q) (i + wlen q) with
    | none =>
      rw [z] at h
      cases h
    | some u =>
      rw [z] at h
      cases h
      have := tailP_e S z
      exact ⟨show i < u.2.2 by omega, this.2⟩
theorem dec_c0 {h h' : zV2} (e : h' 0 = h 0) : dec h' = dec h := by
  funext c i
  show (if kval c i = true then h' 0 (kpos c i) else 0) = _
  rw [e]
  rfl
def fr67 (V' V : zV3) : Prop := ∀ g, g ≠ 6 → g ≠ 7 → V' g = V g
def c03 (v' v : zV2) : Prop := ∀ c, c ≤ 3 → v' c = v c
def frT (h' h : zV2) : Prop := ∀ c, c ≠ 0 → c ≠ 5 → c ≠ 8 → c ≠ 9 → c ≠ 10 → c ≠ 11 → h' c = h c
theorem fr67_t {a b c : zV3} (h1 : fr67 a b) (h2 : fr67 b c) : fr67 a c := fun x p q => (h1 x p q).trans (h2 x p q)
theorem fr67_6 (V : zV3) (h : zV2) : fr67 (upG V 6 h) V := fun g p q => upG_ne _ _ p
theorem fr67_7 (V : zV3) (h : zV2) : fr67 (upG V 7 h) V := fun g p q => upG_ne _ _ q
theorem c03_t {a b c : zV2} (h1 : c03 a b) (h2 : c03 b c) : c03 a c := fun x p => (h1 x p).trans (h2 x p)
theorem c03_u (v : zV2) (c j : Nat) (x : Int32) (h : 4 ≤ c) : c03 (up2 v c j x) v := fun c' p => up2_col _ _ _ (by omega)
theorem c03_7 {v' v : zV2} (f : fr7 v' v) : c03 v' v := fun c p => funext fun j => f c j (by omega)
theorem frT_t {a b c : zV2} (h1 : frT a b) (h2 : frT b c) : frT a c := fun x p q r s t u => (h1 x p q r s t u).trans (h2 x p q r s t u)
theorem frT_nz {a b : zV2} (h1 : nz a b) : frT a b := fun x p q r s t u => h1 x p
theorem frT_589 {a b : zV2} (h1 : fr589 a b) : frT a b := fun x p q r s t u => h1 x q r s
theorem frT_u (h : zV2) (c j : Nat) (x : Int32) (hc : c = 8 ∨ c = 10 ∨ c = 11) : frT (up2 h c j x) h := fun c' p q r s t u => up2_col _ _ _ (by omega)
theorem tC_03 {n : Nat} {sg : Nat → Int32} {v v' : zV2} (g : tC n sg v) (f : c03 v' v) : tC n sg v' :=
  ⟨by rw [f 3 (by omega)]; exact g.1, fun i hi => by rw [f 2 (by omega)]; exact g.2 i hi⟩
theorem tR_T {n : Nat} {sg : Nat → Int32} {h h' : zV2} (g : tR n sg h) (e : frT h' h) : tR n sg h' :=
  ⟨by rw [e 7 (by omega) (by omega) (by omega) (by omega) (by omega) (by omega)]; exact g.1, fun i hi => by rw [e 4 (by omega) (by omega) (by omega) (by omega) (by omega) (by omega)]; exact g.2 i hi⟩
def ENDT (v8 : Int32) (V' : zV3) (h' : zV2) (x : Int32) : Prop :=
  (∃ c' : Nat, c' ≤ 80 ∧ V' 7 8 0 = v8 ∧ V' 7 11 0 = nI c' ∧ x = (-1 : Int32) - nI c' ∧ RR 5000 (V' 6) (dec h')) ∨
  (∃ j : Nat, j < 80 ∧ x = nI j ∧ V' 7 8 0 = nI j ∧ V' 7 9 0 = h' 10 0 ∧ ((h' 10 0 = 1 ∧ h' 11 0 = -4) ∨ (h' 10 0 = 2 ∧ h' 11 0 = V' 7 10 0)))
theorem s_loop {n : Nat} {sg : Nat → Int32} (S : tS n sg) : ∀ (m i cnt f1 f2 : Nat) (V : zV3) (h : zV2), n - i ≤ m → i ≤ n → m < f1 → m < f2 → cnt ≤ i → tC n sg (V 7) → tR n sg h → h 8 0 = nI i → V 7 11 0 = nI cnt → RR 5000 (V 6) (dec h) →
    ∃ V' h' x, xX6_playText_L23 0 f1 V (nI i) (nI cnt) = some ((), V') ∧ xX10_does_L7 f2 h (nI cnt) = some (x, h') ∧ fr67 V' V ∧ c03 (V' 7) (V 7) ∧ frT h' h ∧ ENDT (V 7 8 0) V' h' x
  | m, i, cnt, 0, _, _, _, _, _, h, _, _, _, _, _, _, _ => absurd h (by omega)
  | m, i, cnt, _, 0, _, _, _, _, _, h, _, _, _, _, _, _ => absurd h (by omega)
  | m, i, cnt, f1 + 1, f2 + 1, V, h, hm, hin, hf1, hf2, hcnt, g, gr, h8, h11, hR => by
    have hn := S.1
    unfold xX6_playText_L23 xX10_does_L7
    rw [gr.1, h8, g.1]
    by_cases e : i < n
    · match m, hm, hf1, hf2 with
      | 0, hm, _, _ => exact absurd hm (by omega)
      | m + 1, hm, hf1, hf2 =>
      rw [if_neg (show ¬ (80 : Int32) ≤ nI cnt from nI_ge (a := cnt) (b := 80) (by omega) (by omega)), if_neg (nI_ge e (by omega)), if_neg (nI_ge e (by omega)), ltI_d]
      obtain ⟨v', k1, k2, k3⟩ := c_cmd S g e
      obtain ⟨h4, j1, j2, j3⟩ := r_cmd S gr e h8
      cases z : cmdP sg i with
      | none =>
        obtain ⟨j4, j5⟩ := j2 z
        rw [bndG_eq (k2 z), if_pos rfl, upG_self, j4, bnd_d, if_pos j5]
        unfold xX6_noteFault xX10_does_L49 xX10_does_L67
        rw [put2_d, put2_d, put2_d, bndG_eq rfl, upG_upG, put2_d, up2_self, if_neg (show ¬ (1 : Int32) = 2 by decide), put2_d, up2_ne _ (by omega), up2_self, if_neg (show ¬ (1 : Int32) ≤ 0 by decide)]
        refine ⟨_, _, _, rfl, rfl, fr67_7 _ _, ?_, frT_t (frT_u _ _ _ _ (by omega)) (frT_t (frT_u _ _ _ _ (by omega)) (frT_589 j1)), Or.inr ⟨i, by omega, rfl, ?_, ?_, Or.inl ⟨?_, ?_⟩⟩⟩
        · rw [upG_self]
          exact c03_t (c03_u _ _ _ _ (by omega)) (c03_t (c03_u _ _ _ _ (by omega)) (c03_t (c03_u _ _ _ _ (by omega)) (c03_7 k1)))
        · rw [upG_self, up2_ne _ (by omega), up2_ne _ (by omega), up2_self]
        · rw [upG_self, up2_ne _ (by omega), up2_self, up2_ne _ (by omega), up2_self]
        · rw [up2_ne _ (by omega), up2_self]
        · rw [up2_self]
      | some x =>
        obtain ⟨m1, m2, m3, m4, m5, hq⟩ := k3 x z
        obtain ⟨n1, n2, n3, n4, n5, _⟩ := j3 x z
        obtain ⟨b1, b2⟩ := cmdP_e S z
        have dh4 : dec h4 = dec h := dec_c0 (j1 0 (by omega) (by omega) (by omega))
        obtain ⟨r, c', hf, o1, o2, o3, o4⟩ := op_q (c := V 6) (h := h4) x.2.1 x.2.2.1 (by rw [dh4]; exact hR) x.1 hq
        have hf9 : hf 9 0 = 1 := by rw [o4 9 (by omega), n2]
        have hf8 : hf 8 0 = nI x.2.2.2 := by rw [o4 8 (by omega), n3]
        have k4 : v' 8 0 = V 7 8 0 := k1 8 0 (by omega)
        have k5 : v' 11 0 = nI cnt := by rw [k1 11 0 (by omega), h11]
        rw [bndG_eq m1, if_neg (by decide), upG_self, m2, vopt_s x.1 hq, om_s, grd_eq (decide_eq_true hq), m3, m4, c_obey _ _ _ x.1 hq, upG_ne _ _ (by decide), bndG_eq o1, bnd_d, n1, r_sw h4 _ _ x.1 hq n4 n5, o2, bnd_d, hf9, if_neg (show ¬ (1 : Int32) = 0 by decide)]
        have w7 : upG (upG V 7 v') 6 c' 7 = v' := by rw [upG_ne _ _ (by decide), upG_self]
        by_cases hr : (0 : Int32) ≤ r
        · rw [if_pos hr, if_pos hr]
          unfold xX10_does_L49 xX10_does_L67
          rw [put2_d, up2_self, if_neg (show ¬ (0 : Int32) = 2 by decide), put2_d, up2_ne _ (by omega), up2_self, if_pos (show (0 : Int32) ≤ 0 by decide), ltI_d, nI_1]
          have e3 : (put3 (upG (upG V 7 v') 6 c') 7 11 0 ((upG (upG V 7 v') 6 c' 7 11 0) + (1 : Int32)) fun V14 => ltI (V14 7 7 0) fun y15 => ltI (nI (cnt + 1)) fun y16 => xX6_playText_L23 0 f1 V14 y15 y16) = xX6_playText_L23 0 f1 (upG (upG (upG V 7 v') 6 c') 7 (up2 v' 11 0 (nI (cnt + 1)))) (nI x.2.2.2) (nI (cnt + 1)) := by
            show xX6_playText_L23 0 f1 (upG (upG (upG V 7 v') 6 c') 7 (up2 (upG (upG V 7 v') 6 c' 7) 11 0 ((upG (upG V 7 v') 6 c' 7 11 0) + (1 : Int32)))) (upG (upG (upG V 7 v') 6 c') 7 (up2 (upG (upG V 7 v') 6 c' 7) 11 0 ((upG (upG V 7 v') 6 c' 7 11 0) + (1 : Int32))) 7 7 0) (nI (cnt + 1)) = _
            rw [w7, k5, nI_1, upG_self, up2_ne _ (by omega), m5]
          rw [e3]
          have c7 : c03 (up2 v' 11 0 (nI (cnt + 1))) (V 7) := c03_t (c03_u _ _ _ _ (by omega)) (c03_7 k1)
          have f7 : frT (up2 (up2 hf 10 0 0) 11 0 (-4)) h := frT_t (frT_u _ _ _ _ (by omega)) (frT_t (frT_u _ _ _ _ (by omega)) (frT_t (frT_nz o4) (frT_589 j1)))
          obtain ⟨V', h', y, q1, q2, q3, q4, q5, q6⟩ := s_loop S m x.2.2.2 (cnt + 1) f1 f2 (upG (upG (upG V 7 v') 6 c') 7 (up2 v' 11 0 (nI (cnt + 1)))) (up2 (up2 hf 10 0 0) 11 0 (-4)) (by omega) b2 (by omega) (by omega) (by omega) (by rw [upG_self]; exact tC_03 g c7) (tR_T gr f7) (by rw [up2_ne _ (by omega), up2_ne _ (by omega), hf8]) (by rw [upG_self, up2_self]) (by
            rw [upG_ne _ _ (by decide), upG_self, dec_other _ (by decide), dec_other _ (by decide)]
            exact o3)
          rw [upG_self] at q4 q6
          rw [up2_ne _ (by omega), k4] at q6
          exact ⟨V', h', y, q1, q2, fr67_t q3 (fr67_t (fr67_7 _ _) (fr67_t (fr67_6 _ _) (fr67_7 _ _))), c03_t q4 c7, frT_t q5 f7, q6⟩
        · rw [if_neg hr, if_neg hr]
          unfold xX6_noteFault xX10_does_L49 xX10_does_L67
          rw [put2_d, put2_d, put2_d, bndG_eq rfl, w7, put2_d, up2_self, if_pos rfl, put2_d, up2_ne _ (by omega), up2_self, if_neg (show ¬ (2 : Int32) ≤ 0 by decide)]
          refine ⟨_, _, _, rfl, rfl, fr67_t (fr67_7 _ _) (fr67_t (fr67_6 _ _) (fr67_7 _ _)), ?_, frT_t (frT_u _ _ _ _ (by omega)) (frT_t (frT_u _ _ _ _ (by omega)) (frT_t (frT_nz o4) (frT_589 j1))), Or.inr ⟨i, by omega, rfl, ?_, ?_, Or.inr ⟨?_, ?_⟩⟩⟩
          · rw [upG_self]
            exact c03_t (c03_u _ _ _ _ (by omega)) (c03_t (c03_u _ _ _ _ (by omega)) (c03_t (c03_u _ _ _ _ (by omega)) (c03_7 k1)))
          · rw [upG_self, up2_ne _ (by omega), up2_ne _ (by omega), up2_self]
          · rw [upG_self, up2_ne _ (by omega), up2_self, up2_ne _ (by omega), up2_self]
          · rw [up2_ne _ (by omega), up2_self]
          · rw [up2_self, upG_self, up2_self]
    · have ei : i = n := by omega
      subst ei
      rw [if_pos (nI_le (Nat.le_refl _) (by omega)), if_pos (nI_le (Nat.le_refl _) (by omega))]
      refine ⟨V, h, _, ?_, rfl, fun _ _ _ => rfl, fun _ _ => rfl, fun _ _ _ _ _ _ _ => rfl, Or.inl ⟨cnt, by omega, rfl, h11, rfl, hR⟩⟩
      split <;> rfl
theorem tx_of {V : zV3} {h : zV2} (T : TX V h) : ∃ n sg, tS n sg ∧ tC n sg (V 7) ∧ tR n sg h := by
  obtain ⟨n, t0, t1, t2, t3⟩ := T
  refine ⟨n, fun i => if i < n then V 7 2 i else 0, ⟨t0, fun i hi => ?_, fun i hi => if_neg (by omega)⟩, ⟨t1, fun i hi => (if_pos hi).symm⟩, t2, fun i hi => ?_⟩
  · obtain ⟨ch, c1, c2, c3, c4⟩ := t3 i hi
    exact ⟨ch, c1, c2, by show (if i < n then V 7 2 i else 0) = nI ch; rw [if_pos hi, c3]⟩
  · obtain ⟨ch, c1, c2, c3, c4⟩ := t3 i hi
    show h 4 i = if i < n then V 7 2 i else 0
    rw [if_pos hi, c3, c4]
theorem s_text {V : zV3} {h : zV2} (R : RR 5000 (V 0) (dec h)) (T : TX V h) : ∃ V' h' x, xX6_playText 0 V = some ((), V') ∧ xX10_does h = some (x, h') ∧ fr67 V' V ∧ c03 (V' 7) (V 7) ∧ frT h' h ∧ ENDT (-1) V' h' x := by
  obtain ⟨n, sg, S, g, gr⟩ := tx_of T
  have hn := S.1
  obtain ⟨c6, e1, e2⟩ := cp_hall (V := V) (g := 6) (g2 := 0) (by decide) (RR_BL R)
  have c7 : c03 (up2 (up2 (V 7) 8 0 (-1)) 11 0 0) (V 7) := c03_t (c03_u _ _ _ _ (by omega)) (c03_u _ _ _ _ (by omega))
  have f7 : frT (up2 h 8 0 0) h := frT_u _ _ _ _ (by omega)
  obtain ⟨V', h', y, q1, q2, q3, q4, q5, q6⟩ := s_loop S n 0 0 1000 1000 (upG (upG V 6 c6) 7 (up2 (up2 (V 7) 8 0 (-1)) 11 0 0)) (up2 h 8 0 0) (by omega) (by omega) (by omega) (by omega) (by omega) (by rw [upG_self]; exact tC_03 g c7) (tR_T gr f7) (up2_self _ _ _ _) (by rw [upG_self, up2_self]; rfl) (by
    rw [upG_ne _ _ (by decide), upG_self, dec_other _ (by decide)]
    exact RR_cp R e2)
  rw [upG_self] at q4 q6
  rw [up2_ne _ (by omega), up2_self] at q6
  refine ⟨V', h', y, ?_, ?_, fr67_t q3 (fr67_t (fr67_7 _ _) (fr67_6 _ _)), c03_t q4 c7, frT_t q5 f7, q6⟩
  · unfold xX6_playText
    rw [e1, bnd_d]
    have e3 : (put3 (upG V 6 c6) 7 8 0 (-1 : Int32) fun V4 => put3 V4 7 11 0 (0 : Int32) fun V5 => xX6_playText_L23 0 1000 V5 (0 : Int32) (0 : Int32)) = xX6_playText_L23 0 1000 (upG (upG V 6 c6) 7 (up2 (up2 (V 7) 8 0 (-1)) 11 0 0)) (nI 0) (nI 0) := by
      show xX6_playText_L23 0 1000 (upG (upG (upG V 6 c6) 7 (up2 (upG V 6 c6 7) 8 0 (-1))) 7 (up2 (upG (upG V 6 c6) 7 (up2 (upG V 6 c6 7) 8 0 (-1)) 7) 11 0 0)) 0 0 = _
      rw [upG_upG, upG_self, upG_ne _ _ (by decide)]
      rfl
    rw [e3, q1]
  · unfold xX10_does
    rw [put2_d]
    exact q2
theorem Rel_of2 {V V1 : zV3} {h2 : zV2} (R : Rel V) (a : RR 5000 (V1 0) (dec h2)) (b : HH V1 h2) (c2 : V1 7 2 = V 7 2) (c3 : V1 7 3 = V 7 3) (d4 : h2 4 = V 8 4) (d7 : h2 7 = V 8 7) : Rel (upG V1 8 h2) := by
  obtain ⟨_, _, n, t0, t1, t2, t3⟩ := R
  obtain ⟨od, st, ho, hs, h0, h1, h6, hp⟩ := b
  refine ⟨?_, ⟨od, st, ho, hs, ?_, ?_, ?_, fun j hj => ?_⟩, n, t0, ?_, ?_, fun i hi => ?_⟩
  · rw [upG_self, upG_ne _ _ (by decide)]
    exact a
  · rw [upG_ne _ _ (by decide), h0]
  · rw [upG_ne _ _ (by decide), h1]
  · rw [upG_self, h6]
  · rw [upG_self, upG_ne _ _ (by omega)]
    exact hp j hj
  · rw [upG_ne _ _ (by decide), c3, t1]
  · rw [upG_self, d7, t2]
  · rw [upG_ne _ _ (by decide), c2, upG_self, d4]
    exact t3 i hi
theorem HH_67 {V V' : zV3} {h h2 : zV2} (H : HH V h) (f : fr67 V' V) (g : c03 (V' 7) (V 7)) (e6 : h2 6 = h 6) (e3 : h2 3 = h 3) : HH V' h2 := by
  obtain ⟨od, st, ho, hs, h0, h1, h6, hp⟩ := H
  refine ⟨od, st, ho, hs, ?_, ?_, ?_, fun j hj => ?_⟩
  · rw [g 0 (by omega), h0]
  · rw [g 1 (by omega), h1]
  · rw [e6, h6]
  · rw [f _ (by omega) (by omega), decA_eq (h := h) (a := 3) (o := 193 * j) (fun i hi => by rw [e3])]
    exact hp j hj
/-- the reference's state brought back after a text -/
theorem s_back2 {V : zV3} {ha hf : zV2} (a2 : ∀ j, j < 193 → ha 2 j = V 8 0 j) (a3 : ∀ c j, c ≠ 1 → c ≠ 2 → ha c j = V 8 c j) (n : frT hf ha) : ∃ h2, xX10_bringBack hf = some ((), h2) ∧ dec h2 = dec (V 8) ∧ h2 6 = V 8 6 ∧ h2 3 = V 8 3 ∧ h2 4 = V 8 4 ∧ h2 7 = V 8 7 ∧ h2 10 = hf 10 ∧ h2 11 = hf 11 := by
  obtain ⟨h2, b1, b2, b3⟩ := r_bring hf
  have hc : ∀ c, c = 3 ∨ c = 4 ∨ c = 6 ∨ c = 7 → h2 c = V 8 c := fun c h0 => by
    funext j
    rw [b3 c j (by omega), n c (by omega) (by omega) (by omega) (by omega) (by omega) (by omega), a3 c j (by omega) (by omega)]
  refine ⟨h2, b1, ?_, hc 6 (by omega), hc 3 (by omega), hc 4 (by omega), hc 7 (by omega), funext fun j => b3 10 j (by omega), funext fun j => b3 11 j (by omega)⟩
  rw [dec_A, dec_A]
  exact decA_eq (fun j hj => by rw [Nat.zero_add, b2 j hj, n 2 (by omega) (by omega) (by omega) (by omega) (by omega) (by omega), a2 j hj])
theorem TX_c {V : zV3} {h h' : zV2} (T : TX V h) (e4 : h' 4 = h 4) (e7 : h' 7 = h 7) : TX V h' := by
  obtain ⟨n, t0, t1, t2, t3⟩ := T
  exact ⟨n, t0, t1, by rw [e7]; exact t2, fun i hi => by rw [e4]; exact t3 i hi⟩
theorem m1_lt {c : Nat} (h : c ≤ 80) : ((-1 : Int32) - nI c < 0) ∧ ¬ ((0 : Int32) ≤ (-1 : Int32) - nI c) ∧ (-1 : Int32) - ((-1 : Int32) - nI c) = nI c := by
  have x : ∀ b : Fin 81, ((-1 : Int32) - nI b.val < 0) ∧ ¬ ((0 : Int32) ≤ (-1 : Int32) - nI b.val) ∧ (-1 : Int32) - ((-1 : Int32) - nI b.val) = nI b.val := by decide +kernel
  exact x ⟨c, by omega⟩
theorem PUB_fault {V : zV3} (p1 : Int32) (R : Rel V) : PUB V (xX9_fault V p1) (xX10_fault (V 8) p1) := by
  have R0 := R
  obtain ⟨a0, H, T⟩ := R
  unfold xX9_fault xX10_fault
  rcases rg_in (x := p1) (M := 2) (n := 2) (by decide) with h1 | h1 | ⟨j, hj, rfl⟩
  · rw [if_pos h1, r_in_l (show p1 < (0 : Int32) from h1), bnd_d, if_pos rfl]
    exact PUB_same R0 rfl rfl
  · rw [r_in_g h1, bnd_d, if_pos rfl]
    by_cases h2 : p1 < 0
    · rw [if_pos h2]
      exact PUB_same R0 rfl rfl
    · rw [if_neg h2, if_neg (nle_of_lt h1)]
      exact PUB_same R0 rfl rfl
  · rw [if_neg (nI_pos (by omega)), if_pos (show nI j ≤ (2 : Int32) from nI_le (a := j) (b := 2) hj (by omega)), r_in_t (nI_pos (by omega)) (show ¬ (2 : Int32) < nI j from nI_nlt (a := 2) (b := j) hj (by omega)), bnd_d, if_neg (show ¬ (1 : Int32) = 0 by decide)]
    obtain ⟨ha, b1, b2, b3⟩ := r_aside (V 8)
    have b3' : ∀ c j, c ≠ 1 → c ≠ 2 → ha c j = V 8 c j := fun c j _ hc => b3 c j (by omega)
    have ec : ∀ c, c ≠ 2 → ha c = V 8 c := fun c hc => funext fun j => b3 c j (by omega)
    obtain ⟨V', hf, x, q1, q2, q3, q4, q5, q6⟩ := s_text (V := V) (h := ha) (by rw [dec_c0 (ec 0 (by omega))]; exact a0) (TX_c T (ec 4 (by omega)) (ec 7 (by omega)))
    obtain ⟨h2, d1, d2, d3, d4, d5, d6, d7, d8⟩ := s_back2 b2 b3' q5
    rw [q1, bnd_d, b1, bnd_d, q2, bnd_d, d1, bnd_d]
    have V8 : V' 8 = V 8 := q3 8 (by decide) (by decide)
    have rel : Rel (upG V' 8 h2) := Rel_of2 R0 (by rw [d2, q3 0 (by decide) (by decide)]; exact a0) (HH_67 H q3 q4 d3 d4) (q4 2 (by omega)) (q4 3 (by omega)) d5 d6
    have fin : ∀ {y : Option (Int32 × zV3)} {z : Option (Int32 × zV2)} (r : Int32), y = some (r, V') → z = some (r, h2) → PUB V y z := fun r e1 e2 => ⟨r, V', h2, e1, e2, V8, rel⟩
    rcases q6 with ⟨c', z1, z2, z3, z4, z5⟩ | ⟨i, z1, z2, z3, z4, z5⟩
    · have hF : xX6_failed (V' 7) = some (0, V' 7) := by
        unfold xX6_failed
        rw [if_pos z2]
      rw [bndG_eq hF, upG_id, if_pos rfl, z4, if_neg (m1_lt z1).2.1]
      exact fin _ rfl rfl
    · have hF : xX6_failed (V' 7) = some (1, V' 7) := by
        unfold xX6_failed
        rw [if_neg (by rw [z3]; exact nI_ne1 (by omega))]
      rw [bndG_eq hF, upG_id, if_neg (by decide), z2, if_pos (nI_pos' (by omega)), d7, d8, z4]
      unfold xX9_fault_L55
      rw [z3, z4]
      have hA : j = 0 ∨ j = 1 ∨ j = 2 := by omega
      rcases hA with rfl | rfl | rfl
      · rw [if_neg (show ¬ nI 0 = (2 : Int32) by decide), if_pos (show nI 0 = (0 : Int32) from rfl), if_pos (show nI 0 = (0 : Int32) from rfl)]
        exact fin _ rfl rfl
      · rw [if_neg (show ¬ nI 1 = (2 : Int32) by decide), if_neg (show ¬ nI 1 = (0 : Int32) by decide), if_pos (show nI 1 = (1 : Int32) from rfl), if_neg (show ¬ nI 1 = (0 : Int32) by decide), if_pos (show nI 1 = (1 : Int32) from rfl)]
        exact fin _ rfl rfl
      · rw [if_pos (show nI 2 = (2 : Int32) from rfl), if_neg (show ¬ nI 2 = (0 : Int32) by decide), if_neg (show ¬ nI 2 = (1 : Int32) by decide), if_neg (show ¬ nI 2 = (0 : Int32) by decide), if_neg (show ¬ nI 2 = (1 : Int32) by decide)]
        rcases z5 with ⟨y1, y2⟩ | ⟨y1, y2⟩
        · rw [if_pos y1, y2]
          exact fin _ rfl rfl
        · rw [if_neg (show ¬ hf 10 0 = 1 by rw [y1]; decide), y2]
          exact fin _ rfl rfl

theorem s_act0 {V : zV3} {hz : zV2} (R0 : RR 5000 (V 0) (dec hz)) (H : HH V hz) (f f' : zV2 → Option (Int32 × zV2)) (hop : ∀ c h, RR 5000 c (dec h) → OP (f c) (f' h) h 5000) :
    ∃ r V1 h2, (bnd (xX2_prepare 0 V) fun r1 V3 => bndG (f (V3 0)) V3 0 fun r4 V7 => bndG (xX2_settle (V7 7) r4) V7 7 fun r8 V11 => some (r8, V11)) = some (r, V1) ∧
      (bnd (xX10_begins hz) fun r1 h3 => bnd (f' h3) fun r4 h6 => bnd (xX10_acted h6 r4) fun r7 h9 => some (r7, h9)) = some (r, h2) ∧
      V1 8 = V 8 ∧ RR 5000 (V1 0) (dec h2) ∧ HH V1 h2 ∧ (∀ c, 2 ≤ c → V1 7 c = V 7 c) ∧ (∀ c, c = 4 ∨ c = 5 ∨ 7 ≤ c → h2 c = hz c) := by
  obtain ⟨od, st, ho, hs, h0, h1, h6, hp⟩ := H
  obtain ⟨hc, e1, e2⟩ := s_prep ho hs h0 h1 (RR_BL R0)
  obtain ⟨hb, b1, b2, b3⟩ := r_begins hz
  have db : dec hb = dec hz := by
    rw [dec_A, dec_A]
    exact decA_eq (fun j hj => b3 0 (0 + j) (by omega))
  have Rb : RR 5000 (V 0) (dec hb) := by rw [db]; exact R0
  obtain ⟨r, c', hf, f1, f2, f3, f4⟩ := hop _ _ Rb
  have hb6 : hf 6 0 = nI st := by rw [f4 6 (by decide), b3 6 0 (by omega), h6]
  have hcol : ∀ c, c = 4 ∨ c = 5 ∨ 7 ≤ c → hf c = hz c := fun c hc => by
    rw [f4 c (by omega)]
    funext j
    exact b3 c j (by omega)
  have hpast : ∀ j, hf 3 j = hz 3 j := fun j => by rw [f4 3 (by decide), b3 3 j (by omega)]
  have hbeg : ∀ j, j < 193 → hf 1 j = hz 0 j := fun j hj => by rw [f4 1 (by decide), b2 j hj]
  have k0 : (od + st) % 5 + 1 ≠ 0 := by omega
  rw [e1, bnd_d, upG_ne V hc (show 0 ≠ (od + st) % 5 + 1 by omega), bndG_eq f1, b1, bnd_d, f2, bnd_d]
  have w7 : upG (upG V ((od + st) % 5 + 1) hc) 0 c' 7 = V 7 := by rw [upG_ne _ _ (by decide), upG_ne _ _ (by omega)]
  have w8 : ∀ h', upG (upG (upG V ((od + st) % 5 + 1) hc) 0 c') 7 h' 8 = V 8 := fun h' => by rw [upG_ne _ _ (by decide), upG_ne _ _ (by decide), upG_ne _ _ (by omega)]
  have w0 : ∀ h', upG (upG (upG V ((od + st) % 5 + 1) hc) 0 c') 7 h' 0 = c' := fun h' => by rw [upG_ne _ _ (by decide), upG_self]
  have ws : ∀ h' j, (od + j) % 5 ≠ (od + st) % 5 → upG (upG (upG V ((od + st) % 5 + 1) hc) 0 c') 7 h' ((od + j) % 5 + 1) = V ((od + j) % 5 + 1) := fun h' j hj => by
    rw [upG_ne _ _ (by omega), upG_ne _ _ (by omega), upG_ne _ _ (by omega)]
  have wk : ∀ h', upG (upG (upG V ((od + st) % 5 + 1) hc) 0 c') 7 h' ((od + st) % 5 + 1) = hc := fun h' => by
    rw [upG_ne _ _ (by omega), upG_ne _ _ (by omega), upG_self]
  have Rc : RR 5000 hc (decA hz 0 0) := by rw [← dec_A]; exact RR_cp R0 e2
  rw [w7]
  by_cases hr : r < 0
  · rw [bndG_eq (c_settle_n hr)]
    unfold xX10_acted
    rw [if_neg (ge_lt hr), bnd_d]
    refine ⟨r, _, hf, rfl, rfl, w8 _, ?_, ⟨od, st, ho, hs, ?_, ?_, hb6, fun j hj => ?_⟩, fun c hc => ?_, hcol⟩
    · rw [w0]
      exact f3
    · rw [upG_self, h0]
    · rw [upG_self, h1]
    · rw [ws _ j (by omega), decA_eq (h := hz) (a := 3) (o := 193 * j) (fun i hi => hpast _)]
      exact hp j hj
    · rw [upG_self]
  · by_cases h4 : st = 4
    · subst h4
      obtain ⟨hg, g1, g2, g3⟩ := r_act16 r hf hb6
      obtain ⟨hh, i1, i2, i3⟩ := r_act57 r (up2 hg 6 0 (nI 3)) (s := 3) (by omega) (up2_self _ _ _ _)
      rw [bndG_eq (c_settle_f hr h1 h0 ho)]
      unfold xX10_acted
      rw [if_pos (lt_ge hr), hb6, if_pos (by decide), g1, i1, bnd_d]
      have q3 : ∀ j, j < 579 → hh 3 j = hz 3 (193 + j) := fun j hj => by
        rw [i3 3 j (by omega), up2_ne _ (by omega), g2 j hj, hpast]
      have q0 : ∀ j, j < 193 → hh 3 (193 * 3 + j) = hz 0 j := fun j hj => by
        rw [i2 j hj, up2_ne _ (by omega), g3 1 j (by omega), hbeg j hj]
      have qc : ∀ c j, c ≠ 3 → c ≠ 6 → hh c j = hf c j := fun c j hc hc6 => by
        rw [i3 c j (by omega), up2_ne _ (by omega), g3 c j (by omega)]
      refine ⟨r, _, _, rfl, rfl, w8 _, ?_, ⟨(od + 1) % 5, 4, by omega, by omega, ?_, ?_, ?_, fun j hj => ?_⟩, fun c hc => ?_, fun c hc => ?_⟩
      · rw [w0, dec_other _ (by decide), show dec hh = dec hf by
          rw [dec_A, dec_A]
          exact decA_eq (fun j hj => qc 0 _ (by decide) (by decide))]
        exact f3
      · rw [upG_self, up2_self]
      · rw [upG_self, up2_ne _ (by omega), up2_self]
        rfl
      · rw [up2_self]
      · rw [show ((od + 1) % 5 + j) % 5 + 1 = (od + (j + 1)) % 5 + 1 by omega]
        by_cases e : j = 3
        · subst e
          rw [show (od + (3 + 1)) % 5 + 1 = (od + 4) % 5 + 1 from rfl, wk, decA_eq (h := hz) (a := 0) (o := 0) (fun i hi => by rw [up2_ne _ (by omega), q0 i hi, Nat.zero_add])]
          exact Rc
        · rw [ws _ (j + 1) (by omega), decA_eq (h := hz) (a := 3) (o := 193 * (j + 1)) (fun i hi => by rw [up2_ne _ (by omega), q3 _ (by omega), show 193 + (193 * j + i) = 193 * (j + 1) + i by omega])]
          exact hp (j + 1) (by omega)
      · rw [upG_self, up2_col _ _ _ (by omega), up2_col _ _ _ (by omega), up2_col _ _ _ (by omega)]
      · rw [up2_col _ _ _ (by omega)]
        rw [← hcol c hc]
        funext j
        exact qc c j (by omega) (by omega)
    · have h3 : st ≤ 3 := by omega
      obtain ⟨hh, i1, i2, i3⟩ := r_act57 r hf h3 hb6
      rw [bndG_eq (c_settle_s hr h1 h3)]
      unfold xX10_acted
      rw [if_pos (lt_ge hr), hb6, if_neg (show ¬ nI st = (4 : Int32) from fun z => h4 ((nI_eq (a := st) (b := 4) (by omega) (by omega)).mp z)), i1, bnd_d]
      refine ⟨r, _, _, rfl, rfl, w8 _, ?_, ⟨od, st + 1, ho, by omega, ?_, ?_, ?_, fun j hj => ?_⟩, fun c hc => ?_, fun c hc => ?_⟩
      · rw [w0, dec_other _ (by decide), show dec hh = dec hf by
          rw [dec_A, dec_A]
          exact decA_eq (fun j hj => i3 0 _ (by omega))]
        exact f3
      · rw [upG_self, up2_ne _ (by omega), h0]
      · rw [upG_self, up2_self]
      · rw [up2_self]
      · by_cases e : j = st
        · subst e
          rw [wk, decA_eq (h := hz) (a := 0) (o := 0) (fun i hi => by rw [up2_ne _ (by omega), i2 i hi, hbeg i hi, Nat.zero_add])]
          exact Rc
        · rw [ws _ j (by omega), decA_eq (h := hz) (a := 3) (o := 193 * j) (fun i hi => by rw [up2_ne _ (by omega), i3 3 _ (by omega), hpast])]
          exact hp j (by omega)
      · rw [upG_self, up2_col _ _ _ (by omega)]
      · rw [up2_col _ _ _ (by omega)]
        rw [← hcol c hc]
        funext j
        exact i3 c j (by omega)
theorem PUB_play {V : zV3} (R : Rel V) : PUB V (xX9_play V) (xX10_play (V 8)) := by
  have R0 := R
  obtain ⟨a0, H, T⟩ := R
  unfold xX9_play xX10_play
  obtain ⟨hb, g1, g2, g3⟩ := r_begins (V 8)
  obtain ⟨ha, b1, b2, b3⟩ := r_aside hb
  have b2' : ∀ j, j < 193 → ha 2 j = V 8 0 j := fun j hj => by rw [b2 j hj, g3 0 j (by omega)]
  have b3' : ∀ c j, c ≠ 1 → c ≠ 2 → ha c j = V 8 c j := fun c j h1 hc => by rw [b3 c j (by omega), g3 c j (by omega)]
  have ec : ∀ c, c ≠ 1 → c ≠ 2 → ha c = V 8 c := fun c h1 hc => funext fun j => b3' c j h1 hc
  obtain ⟨V', hf, x, q1, q2, q3, q4, q5, q6⟩ := s_text (V := V) (h := ha) (by rw [dec_c0 (ec 0 (by omega) (by omega))]; exact a0) (TX_c T (ec 4 (by omega) (by omega)) (ec 7 (by omega) (by omega)))
  have V8 : V' 8 = V 8 := q3 8 (by decide) (by decide)
  have q5c : ∀ c, c = 3 ∨ c = 4 ∨ c = 6 ∨ c = 7 → hf c = V 8 c := fun c hc => by
    rw [q5 c (by omega) (by omega) (by omega) (by omega) (by omega) (by omega), ec c (by omega) (by omega)]
  rw [q1, bnd_d, g1, bnd_d, b1, bnd_d, q2, bnd_d]
  rcases q6 with ⟨c', z1, z2, z3, z4, z5⟩ | ⟨i, z1, z2, z3, z4, z5⟩
  · obtain ⟨l1, l2, l3⟩ := m1_lt z1
    have hF : xX6_failed (V' 7) = some (0, V' 7) := by
      unfold xX6_failed
      rw [if_pos z2]
    rw [bndG_eq hF, upG_id, if_pos rfl, z4, if_pos l1, l3]
    have hv0 : ∀ c, c ≠ 0 → (fun c => if c = 0 then V 8 0 else hf c : zV2) c = hf c := fun c hc => if_neg hc
    have hv1 : (fun c => if c = 0 then V 8 0 else hf c : zV2) 0 = V 8 0 := if_pos rfl
    generalize ehv : (fun c => if c = 0 then V 8 0 else hf c : zV2) = hv at hv0 hv1
    have Rv : RR 5000 (V' 0) (dec hv) := by
      rw [dec_c0 hv1, q3 0 (by decide) (by decide)]
      exact a0
    have Hv : HH V' hv := HH_67 H q3 q4 (by rw [hv0 6 (by omega), q5c 6 (by omega)]) (by rw [hv0 3 (by omega), q5c 3 (by omega)])
    have begv : xX10_begins hv = some ((), hv) := by
      obtain ⟨h', e1, e2, e3⟩ := r_begins hv
      have : h' = hv := by
        funext c j
        by_cases e : c = 1 ∧ j < 193
        · obtain ⟨rfl, hj⟩ := e
          rw [e2 j hj, hv1, hv0 1 (by omega), q5 1 (by omega) (by omega) (by omega) (by omega) (by omega) (by omega), b3 1 j (by omega), g2 j hj]
        · exact e3 c j e
      rw [e1, this]
    have Hv0 := Hv
    obtain ⟨od, st, ho, hs, h0, h1, h6, hp⟩ := Hv
    obtain ⟨hc, e1, e2⟩ := s_prep ho hs h0 h1 (RR_BL Rv)
    obtain ⟨h9, e3, e4⟩ := cp_hall (V := upG V' ((od + st) % 5 + 1) hc) (g := 0) (g2 := 6) (by decide) (by rw [upG_ne _ _ (by omega)]; exact RR_BL z5)
    rw [upG_ne _ _ (show 6 ≠ (od + st) % 5 + 1 by omega)] at e4
    obtain ⟨r, V1, h2, m1, m2, m3, m4, m5, m6, m7⟩ := s_act0 Rv Hv0 (fun _ => some (nI c', h9)) (fun h => some (nI c', fun c => if c = 0 then hf 0 else h c)) (fun c h g => ⟨nI c', h9, _, rfl, rfl, by
      rw [dec_c0 (h := hf) (h' := fun c => if c = 0 then hf 0 else h c) (if_pos rfl)]
      exact RR_cp z5 e4, fun c hc => if_neg hc⟩)
    have ehf : (fun c => if c = 0 then hf 0 else hv c : zV2) = hf := by
      funext c
      by_cases e : c = 0
      · subst e
        exact if_pos rfl
      · rw [if_neg e, hv0 c e]
    rw [begv, bnd_d, bnd_d, ehf] at m2
    rw [e1, bnd_d, bndG_eq rfl] at m1
    refine ⟨r, V1, h2, ?_, m2, m3.trans V8, Rel_of2 R0 m4 m5 ?_ ?_ ?_ ?_⟩
    · rw [e1, bnd_d, e3, bnd_d, ← m1]
      have e7 : upG (upG V' ((od + st) % 5 + 1) hc) 0 h9 7 11 0 = nI c' := by rw [upG_ne _ _ (by decide), upG_ne _ _ (by omega), z3]
      rw [e7]
    · rw [m6 2 (by omega), q4 2 (by omega)]
    · rw [m6 3 (by omega), q4 3 (by omega)]
    · rw [m7 4 (by omega), hv0 4 (by omega), q5c 4 (by omega)]
    · rw [m7 7 (by omega), hv0 7 (by omega), q5c 7 (by omega)]
  · obtain ⟨h2, d1, d2, d3, d4, d5, d6, d7, d8⟩ := s_back2 b2' b3' q5
    have hF : xX6_failed (V' 7) = some (1, V' 7) := by
      unfold xX6_failed
      rw [if_neg (by rw [z3]; exact nI_ne1 (by omega))]
    rw [bndG_eq hF, upG_id, if_neg (by decide), z2, if_neg (nI_pos (by omega)), d1, bnd_d]
    exact ⟨_, V', h2, rfl, rfl, V8, Rel_of2 R0 (by rw [d2, q3 0 (by decide) (by decide)]; exact a0) (HH_67 H q3 q4 d3 d4) (q4 2 (by omega)) (q4 3 (by omega)) d5 d6⟩

