/-! pure part: swapping, on both sides -/
/-! moves keep who holds which locker -/
theorem bj_mv {f6 f2 : Nat → Int32} {p q f : Nat} (h : bj f6 f2) (hp : p < 10) (hq : q < 12) (hf : f < 12) (h6 : f6 p = nI q) (h2 : f2 f = -1) : bj (fu f6 p (nI f)) (fu (fu f2 q (-1)) f (nI p)) := by
  have h1 := bj_end h hp hq h6
  have e2 : fu f2 q (-1) f = -1 := by
    by_cases z : f = q
    · rw [z, fu_s]
    · rw [fu_n _ _ z, h2]
  have h3 := bj_begin h1 hp hf (fu_s _ _ _) e2
  rw [fu_fu] at h3
  exact h3
theorem bj_2 {f6 f2 : Nat → Int32} {a b la lb : Nat} (h : bj f6 f2) (ha : a < 10) (hb : b < 10) (hab : a ≠ b) (hla : la < 12) (hlb : lb < 12) (ca : f6 a = nI la) (cb : f6 b = nI lb) : bj (fu (fu f6 a (nI lb)) b (nI la)) (fu (fu f2 lb (nI a)) la (nI b)) := by
  have hne : la ≠ lb := fun z => hab (nI_i (by omega) (by omega) ((h.1 a la ha hla ca).symm.trans (by rw [z]; exact h.1 b lb hb hlb cb)))
  have h1 := bj_end h ha hla ca
  have h2 := bj_end h1 hb hlb (by rw [fu_n _ _ (Ne.symm hab)]; exact cb)
  have h3 := bj_begin h2 ha hlb (by rw [fu_n _ _ hab]; exact fu_s _ _ _) (fu_s _ _ _)
  have h4 := bj_begin h3 hb hla (by rw [fu_n _ _ (Ne.symm hab)]; exact fu_s _ _ _) (by rw [fu_n _ _ hne, fu_n _ _ hne]; exact fu_s _ _ _)
  refine bj_e h4 (fun q _ => ?_) (fun q _ => ?_)
  · by_cases z1 : q = a
    · by_cases z2 : q = b
      · exact absurd (z1.symm.trans z2) hab
      · simp only [fu, if_pos z1, if_neg z2]
    · by_cases z2 : q = b
      · simp only [fu, if_neg z1, if_pos z2]
      · simp only [fu, if_neg z1, if_neg z2]
  · by_cases z1 : q = la
    · by_cases z2 : q = lb
      · exact absurd (z1.symm.trans z2) hne
      · simp only [fu, if_pos z1, if_neg z2]
    · by_cases z2 : q = lb
      · simp only [fu, if_neg z1, if_pos z2]
      · simp only [fu, if_neg z1, if_neg z2]
theorem bj_3 {f6 f2 : Nat → Int32} {a b r la lb lr : Nat} (h : bj f6 f2) (ha : a < 10) (hb : b < 10) (hr : r < 10) (hab : a ≠ b) (hra : r ≠ a) (hrb : r ≠ b) (hla : la < 12) (hlb : lb < 12) (hlr : lr < 12) (ca : f6 a = nI la) (cb : f6 b = nI lb) (cr : f6 r = nI lr) : bj (fu (fu (fu f6 a (nI lb)) b (nI lr)) r (nI la)) (fu (fu (fu f2 lb (nI a)) lr (nI b)) la (nI r)) := by
  have n1 : la ≠ lb := fun z => hab (nI_i (by omega) (by omega) ((h.1 a la ha hla ca).symm.trans (by rw [z]; exact h.1 b lb hb hlb cb)))
  have n2 : lr ≠ la := fun z => hra (nI_i (by omega) (by omega) ((h.1 r lr hr hlr cr).symm.trans (by rw [z]; exact h.1 a la ha hla ca)))
  have n3 : lr ≠ lb := fun z => hrb (nI_i (by omega) (by omega) ((h.1 r lr hr hlr cr).symm.trans (by rw [z]; exact h.1 b lb hb hlb cb)))
  have h1 := bj_end h ha hla ca
  have h2 := bj_end h1 hb hlb (by rw [fu_n _ _ (Ne.symm hab)]; exact cb)
  have h3 := bj_end h2 hr hlr (by rw [fu_n _ _ hrb, fu_n _ _ hra]; exact cr)
  have h4 := bj_begin h3 ha hlb (by rw [fu_n _ _ (Ne.symm hra), fu_n _ _ hab]; exact fu_s _ _ _) (by rw [fu_n _ _ (Ne.symm n3)]; exact fu_s _ _ _)
  have h5 := bj_begin h4 hb hlr (by rw [fu_n _ _ (Ne.symm hab), fu_n _ _ (Ne.symm hrb)]; exact fu_s _ _ _) (by rw [fu_n _ _ n3]; exact fu_s _ _ _)
  have h6 := bj_begin h5 hr hla (by rw [fu_n _ _ hrb, fu_n _ _ hra]; exact fu_s _ _ _) (by rw [fu_n _ _ (Ne.symm n2), fu_n _ _ n1, fu_n _ _ (Ne.symm n2), fu_n _ _ n1]; exact fu_s _ _ _)
  refine bj_e h6 (fun q _ => ?_) (fun q _ => ?_)
  · by_cases z1 : q = a
    · have z2 : ¬ q = b := fun z => hab (z1.symm.trans z)
      have z3 : ¬ q = r := fun z => hra (z.symm.trans z1)
      simp only [fu, if_pos z1, if_neg z2, if_neg z3]
    · by_cases z2 : q = b
      · have z3 : ¬ q = r := fun z => hrb (z.symm.trans z2)
        simp only [fu, if_neg z1, if_pos z2, if_neg z3]
      · by_cases z3 : q = r
        · simp only [fu, if_neg z1, if_neg z2, if_pos z3]
        · simp only [fu, if_neg z1, if_neg z2, if_neg z3]
  · by_cases z1 : q = la
    · have z2 : ¬ q = lb := fun z => n1 (z1.symm.trans z)
      have z3 : ¬ q = lr := fun z => n2 (z.symm.trans z1)
      simp only [fu, if_pos z1, if_neg z2, if_neg z3]
    · by_cases z2 : q = lb
      · have z3 : ¬ q = lr := fun z => n3 (z.symm.trans z2)
        simp only [fu, if_neg z1, if_pos z2, if_neg z3]
      · by_cases z3 : q = lr
        · simp only [fu, if_neg z1, if_neg z2, if_pos z3]
        · simp only [fu, if_neg z1, if_neg z2, if_neg z3]
theorem ma_mid {p1 a3 : Int32} {n b0 q1 l1 : Nat} {h : zV2} (h1 : ¬ p1 ≤ a3) (h2 : ¬ (3 : Int32) ≤ a3) (h3 : ¬ p1 ≤ a3 + 1) (h4 : ¬ (3 : Int32) ≤ a3 + 1) (i1 : inb a3 3 = true) (i2 : inb (a3 + 1) 3 = true) (hq : q1 < 12) (hl : l1 < 12) (hb : h 18 a3.toNatClampNeg = nI b0) (ho : xX1_lockerOfPerson h (h 18 (a3 + 1).toNatClampNeg) = some (some l1, h)) : xX1_moveAround_L13 p1 (n + 1) h (some q1) a3 = bnd (xX1_move (some l1) h (nI b0)) fun r h19 => xX1_moveAround_L13 p1 n h19 (some q1) (a3 + 1) := by
  conv => lhs; unfold xX1_moveAround_L13
  rw [om_s, grd_eq (decide_eq_true hq), if_neg h1, if_neg h2, if_neg h3, if_neg h4]
  unfold xX1_moveAround_L42
  rw [om_s, grd_eq (decide_eq_true hq), grd_eq i1, if_neg (show ¬ (1 : Int32) = 0 by decide), grd_eq i2, ho, bnd_d, om_s, grd_eq (decide_eq_true hl), hb]
  rfl
theorem ma_last {p1 a3 : Int32} {n b0 q1 : Nat} {h : zV2} (h1 : ¬ p1 ≤ a3) (h2 : ¬ (3 : Int32) ≤ a3) (h3 : p1 ≤ a3 + 1) (i1 : inb a3 3 = true) (hq : q1 < 12) (hb : h 18 a3.toNatClampNeg = nI b0) : xX1_moveAround_L13 p1 (n + 1) h (some q1) a3 = bnd (xX1_move (some q1) h (nI b0)) fun r h19 => xX1_moveAround_L13 p1 n h19 (some q1) (a3 + 1) := by
  conv => lhs; unfold xX1_moveAround_L13
  rw [om_s, grd_eq (decide_eq_true hq), if_neg h1, if_neg h2, if_pos h3]
  unfold xX1_moveAround_L41
  rw [om_s, grd_eq (decide_eq_true hq)]
  unfold xX1_moveAround_L42
  rw [om_s, grd_eq (decide_eq_true hq), grd_eq i1, if_pos rfl, hb]
  rfl
theorem ma_end {p1 a3 : Int32} {n q1 : Nat} {h : zV2} (h1 : p1 ≤ a3) (hq : q1 < 12) : xX1_moveAround_L13 p1 (n + 1) h (some q1) a3 = some ((), h) := by
  unfold xX1_moveAround_L13
  rw [om_s, grd_eq (decide_eq_true hq), if_pos h1]
theorem lk_of {nL nP D a : Nat} {d : Int32} {B M : Nat → Nat} {W X : List (Nat × Nat)} {c k : zV2} (g : SR nL nP D d B M W X c k) (hXN : XN X c) (ha : a < nP) (hs : szI X a ≠ -1) : ∃ l, l < nL ∧ c 6 a = nI l ∧ k 6 a = nI l := by
  obtain ⟨j, s, hj, _⟩ := szI_some hs
  have h6 := hXN _ (List.mem_of_getElem? hj)
  obtain ⟨lo, du, re, p6, r6, hlo, _⟩ := g.2.2.1.1 a ha
  cases lo with
  | none => exact absurd p6 h6
  | some l => exact ⟨l, (hlo l rfl).1, p6, r6⟩
theorem wo_lt {X : List (Nat × Nat)} {a : Nat} (hs : szI X a ≠ -1) : (wo a X).length < X.length := by
  obtain ⟨j, s, hj, _⟩ := szI_some hs
  have hm := List.mem_of_getElem? hj
  unfold wo
  exact List.length_filter_lt_length_iff_exists.mpr ⟨_, hm, by simp⟩
theorem WN_mv {W : List (Nat × Nat)} {c c' : zV2} {p l : Nat} (h : WN W c) (hp : c 6 p ≠ -1) (h6 : ∀ q, c' 6 q = if q = p then nI l else c 6 q) : WN W c' := fun e he => by
  have h1 := h e he
  have : e.1 ≠ p := fun z => hp (by rw [← z]; exact h1)
  rw [h6, if_neg this]
  exact h1
theorem XN_mv {X : List (Nat × Nat)} {c c' : zV2} {p l : Nat} (h : XN X c) (h6 : ∀ q, c' 6 q = if q = p then nI l else c 6 q) : XN (wo p X) c' := fun e he => by
  obtain ⟨m1, m2⟩ := wo_mem.mp he
  rw [h6, if_neg m2]
  exact h e m1
theorem c_lOPx {nL nP D : Nat} {d : Int32} {B M : Nat → Nat} {W X : List (Nat × Nat)} {c k : zV2} (g : SR nL nP D d B M W X c k) (x : Int32) : ∃ o : Option Nat, xX1_lockerOfPerson c x = some (o, c) ∧ ∀ l, o = some l → l < 12 := by
  have hL := g.1.1
  have hP := g.1.2.1
  rcases pk_ix x (n := nP) (by omega) with h1 | h1 | ⟨p, hp, rfl⟩
  · refine ⟨none, ?_, fun l e => by cases e⟩
    unfold xX1_lockerOfPerson
    rw [c_pA_f g.1.2.2.2.2.2.1 (Or.inl h1)]
    rfl
  · refine ⟨none, ?_, fun l e => by cases e⟩
    unfold xX1_lockerOfPerson
    rw [c_pA_f g.1.2.2.2.2.2.1 (Or.inr h1)]
    rfl
  · obtain ⟨o, e1, e2⟩ := lo_of (m := 0) g.2.2.1 (show p < 10 by omega)
    exact ⟨o, c_lOP g.1.2.2.2.1 hL g.1.2.2.2.2.2.1 hP hp e1 (fun l e => (e2 l e).1), fun l e => by have := (e2 l e).1; omega⟩
theorem s_around2 {nL nP D a b : Nat} {d : Int32} {B M : Nat → Nat} {W X : List (Nat × Nat)} {c h : zV2} (g : SR nL nP D d B M W X c (dec h)) (hWN : WN W c) (hXN : XN X c) (hBJ : BJ c) (ha : a < nP) (hb : b < nP) (hab : a ≠ b) (sa : szI X a ≠ -1) (sb : szI X b ≠ -1) (e0 : c 18 0 = nI a) (e1 : c 18 1 = nI b) : ∃ c' h', xX1_moveAround c 2 = some ((), c') ∧ xX10_goesRound h (nI a) (nI b) (-1) = some (2, h') ∧ SR nL nP D (d + 1 + 1) B M W (wo b (wo a X)) c' (dec h') ∧ WN W c' ∧ XN (wo b (wo a X)) c' ∧ BJ c' ∧ nz h' h := by
  have hL := g.1.1
  have hP := g.1.2.1
  have c13 := g.1.2.2.2.1
  have c14 := g.1.2.2.2.2.2.1
  obtain ⟨la, hla, ca, ka⟩ := lk_of g hXN ha sa
  obtain ⟨lb, hlb, cb, kb⟩ := lk_of g hXN hb sb
  have na : c 6 a ≠ -1 := by rw [ca]; exact nI_ne1 (by omega)
  obtain ⟨c1, h1, m1, m2, g1, f6, f18, n1⟩ := s_move g ha hlb na
  have cb1 : c1 6 b = nI lb := by rw [f6, if_neg (fun z => hab z.symm), cb]
  have nb : c1 6 b ≠ -1 := by rw [cb1]; exact nI_ne1 (by omega)
  obtain ⟨c2, h2, m3, m4, g2, f6', f18', n2⟩ := s_move g1 hb hla nb
  have oa : xX1_lockerOfPerson c (nI a) = some (some la, c) := c_lOP c13 hL c14 hP ha ca (fun l e => by cases e; exact hla)
  have ob : xX1_lockerOfPerson c (nI b) = some (some lb, c) := c_lOP c13 hL c14 hP hb cb (fun l e => by cases e; exact hlb)
  refine ⟨c2, h2, ?_, ?_, g2, WN_mv (WN_mv hWN na f6) nb f6', XN_mv (XN_mv hXN f6) f6', by
    have t := bj_2 hBJ (by omega) (by omega) hab (by omega) (by omega) ca cb
    rw [← fu_of f6, ← fu_of f6', ← fu_of f18.2, ← fu_of f18'.2] at t
    exact t, nz_t n2 n1⟩
  · unfold xX1_moveAround
    rw [show grd (inb (0 : Int32) 3) = id from rfl, id, show ((0 : Int32).toNatClampNeg) = 0 from rfl, e0, oa, bnd_d, om_s, grd_eq (decide_eq_true (by omega)), ma_mid (b0 := a) (l1 := lb) (n := 999) (by decide) (by decide) (by decide) (by decide) rfl rfl (by omega) (by omega) e0 (by rw [show ((0 : Int32) + 1).toNatClampNeg = 1 from rfl, e1]; exact ob), m1, bnd_d, show (0 : Int32) + 1 = 1 from rfl, ma_last (b0 := b) (n := 998) (by decide) (by decide) (by decide) rfl (by omega) (by rw [show ((1 : Int32).toNatClampNeg) = 1 from rfl, f18.1 18 (Or.inr rfl)]; exact e1), m3, bnd_d, show (1 : Int32) + 1 = 2 from rfl, ma_end (n := 997) (by decide) (by omega)]
  · unfold xX10_goesRound
    rw [r_ofP0 (by omega), bnd_d, r_ofP0 (by omega), bnd_d, ka, kb, m2, bnd_d, if_pos (by decide), m4, bnd_d]
theorem s_around3 {nL nP D a b r : Nat} {d : Int32} {B M : Nat → Nat} {W X : List (Nat × Nat)} {c h : zV2} (g : SR nL nP D d B M W X c (dec h)) (hWN : WN W c) (hXN : XN X c) (hBJ : BJ c) (ha : a < nP) (hb : b < nP) (hab : a ≠ b) (sa : szI X a ≠ -1) (sb : szI X b ≠ -1) (hr : r < nP) (hra : r ≠ a) (hrb : r ≠ b) (sr : szI X r ≠ -1) (e0 : c 18 0 = nI a) (e1 : c 18 1 = nI b) (e2 : c 18 2 = nI r) : ∃ c' h', xX1_moveAround c 3 = some ((), c') ∧ xX10_goesRound h (nI a) (nI b) (nI r) = some (3, h') ∧ SR nL nP D (d + 1 + 1 + 1) B M W (wo r (wo b (wo a X))) c' (dec h') ∧ WN W c' ∧ XN (wo r (wo b (wo a X))) c' ∧ BJ c' ∧ nz h' h := by
  have hL := g.1.1
  have hP := g.1.2.1
  have c13 := g.1.2.2.2.1
  have c14 := g.1.2.2.2.2.2.1
  obtain ⟨la, hla, ca, ka⟩ := lk_of g hXN ha sa
  obtain ⟨lb, hlb, cb, kb⟩ := lk_of g hXN hb sb
  obtain ⟨lr, hlr, cr, kr⟩ := lk_of g hXN hr sr
  have na : c 6 a ≠ -1 := by rw [ca]; exact nI_ne1 (by omega)
  obtain ⟨c1, h1, m1, m2, g1, f6, f18, n1⟩ := s_move g ha hlb na
  have cb1 : c1 6 b = nI lb := by rw [f6, if_neg (fun z => hab z.symm), cb]
  have nb : c1 6 b ≠ -1 := by rw [cb1]; exact nI_ne1 (by omega)
  have cr1 : c1 6 r = nI lr := by rw [f6, if_neg hra, cr]
  have kr1 : dec h1 6 r = nI lr := by
    obtain ⟨lo, du, re, p6, r6, _⟩ := g1.2.2.1.1 r hr
    rw [r6, ← p6, cr1]
  obtain ⟨c2, h2, m3, m4, g2, f6', f18', n2⟩ := s_move g1 hb hlr nb
  have cr2 : c2 6 r = nI lr := by rw [f6', if_neg hrb, cr1]
  have nr : c2 6 r ≠ -1 := by rw [cr2]; exact nI_ne1 (by omega)
  obtain ⟨c3, h3, m5, m6, g3, f6'', f18'', n3⟩ := s_move g2 hr hla nr
  have oa : xX1_lockerOfPerson c (nI a) = some (some la, c) := c_lOP c13 hL c14 hP ha ca (fun l e => by cases e; exact hla)
  have ob : xX1_lockerOfPerson c (nI b) = some (some lb, c) := c_lOP c13 hL c14 hP hb cb (fun l e => by cases e; exact hlb)
  have or1 : xX1_lockerOfPerson c1 (nI r) = some (some lr, c1) := c_lOP g1.1.2.2.2.1 hL g1.1.2.2.2.2.2.1 hP hr cr1 (fun l e => by cases e; exact hlr)
  have w1 : c1 18 = c 18 := f18.1 18 (Or.inr rfl)
  have w2 : c2 18 = c 18 := (f18'.1 18 (Or.inr rfl)).trans w1
  refine ⟨c3, h3, ?_, ?_, g3, WN_mv (WN_mv (WN_mv hWN na f6) nb f6') nr f6'', XN_mv (XN_mv (XN_mv hXN f6) f6') f6'', by
    have t := bj_3 hBJ (by omega) (by omega) (by omega) hab hra hrb (by omega) (by omega) (by omega) ca cb cr
    rw [← fu_of f6, ← fu_of f6', ← fu_of f6'', ← fu_of f18.2, ← fu_of f18'.2, ← fu_of f18''.2] at t
    exact t, nz_t n3 (nz_t n2 n1)⟩
  · unfold xX1_moveAround
    rw [show grd (inb (0 : Int32) 3) = id from rfl, id, show ((0 : Int32).toNatClampNeg) = 0 from rfl, e0, oa, bnd_d, om_s, grd_eq (decide_eq_true (by omega)), ma_mid (b0 := a) (l1 := lb) (n := 999) (by decide) (by decide) (by decide) (by decide) rfl rfl (by omega) (by omega) e0 (by rw [show ((0 : Int32) + 1).toNatClampNeg = 1 from rfl, e1]; exact ob), m1, bnd_d, show (0 : Int32) + 1 = 1 from rfl, ma_mid (b0 := b) (l1 := lr) (n := 998) (by decide) (by decide) (by decide) (by decide) rfl rfl (by omega) (by omega) (by rw [show ((1 : Int32).toNatClampNeg) = 1 from rfl, w1]; exact e1) (by rw [show ((1 : Int32) + 1).toNatClampNeg = 2 from rfl, w1, e2]; exact or1), m3, bnd_d, show (1 : Int32) + 1 = 2 from rfl, ma_last (b0 := r) (n := 997) (by decide) (by decide) (by decide) rfl (by omega) (by rw [show ((2 : Int32).toNatClampNeg) = 2 from rfl, w2]; exact e2), m5, bnd_d, show (2 : Int32) + 1 = 3 from rfl, ma_end (n := 996) (by decide) (by omega)]
  · unfold xX10_goesRound
    rw [r_ofP0 (by omega), bnd_d, r_ofP0 (by omega), bnd_d, ka, kb, m2, bnd_d, if_neg (nI_pos (by omega)), r_ofP0 (by omega), bnd_d, kr1, m4, bnd_d, m6, bnd_d]
/-! to a free locker -/
theorem c_lpA {c : zV2} {w i : Nat} {L : List (Nat × Nat)} {e : Nat × Nat} (g : LN c w L) (hl : L.length ≤ 10) (he : L[i]? = some e) : xX3_personAt w c (nI i) = some (nI e.1, c) := by
  have hi := (List.getElem?_eq_some_iff.mp he).1
  unfold xX3_personAt
  rw [if_neg (nI_pos (by omega)), g.1, if_neg (nI_ge (by omega) (by omega)), if_neg (show ¬ (10 : Int32) ≤ nI i from nI_ge (a := i) (b := 10) (by omega) (by omega)), grd_eq (inb_nI (by omega) (by omega)), nI_clamp (by omega), (g.2 i e he).1]
theorem c_lsA {c : zV2} {w i : Nat} {L : List (Nat × Nat)} {e : Nat × Nat} (g : LN c w L) (hl : L.length ≤ 10) (he : L[i]? = some e) : xX3_sizeAt w c (nI i) = some (nI e.2, c) := by
  have hi := (List.getElem?_eq_some_iff.mp he).1
  unfold xX3_sizeAt
  rw [if_neg (nI_pos (by omega)), g.1, if_neg (nI_ge (by omega) (by omega)), if_neg (show ¬ (10 : Int32) ≤ nI i from nI_ge (a := i) (b := 10) (by omega) (by omega)), grd_eq (inb_nI (by omega) (by omega)), nI_clamp (by omega), (g.2 i e he).2]
theorem s_free {nL nP D : Nat} {d : Int32} {B M : Nat → Nat} {W X : List (Nat × Nat)} {c h : zV2} (g : SR nL nP D d B M W X c (dec h)) (hWN : WN W c) (hXN : XN X c) (hBJ : BJ c) (hM : ∀ p, p < nP → M p ≤ D + 20) : ∀ (m i n n' : Nat), i + m = X.length → m < n → m < n' → (xX1_moveToFree_L2 n c (nI i) = some (0, c) ∧ xX10_takesFree_L2 n' h (nI i) = some (0, h)) ∨ ∃ c' h' W' X', xX1_moveToFree_L2 n c (nI i) = some (1, c') ∧ xX10_takesFree_L2 n' h (nI i) = some (1, h') ∧ SR nL nP D (d + 1) B M W' X' c' (dec h') ∧ WN W' c' ∧ XN X' c' ∧ BJ c' ∧ X'.length < X.length ∧ nz h' h
  | m, i, 0, n', _, h, _ => absurd h (by omega)
  | m, i, n + 1, 0, _, _, h => absurd h (by omega)
  | 0, i, n + 1, n' + 1, h1, h2, h3 => by
    have hP := g.1.2.1
    have hl := WV_len g.2.2.2.2.1.2.2.2.2
    refine Or.inl ⟨?_, ?_⟩
    · unfold xX1_moveToFree_L2
      rw [g.2.2.2.2.1.1.1, if_pos (nI_le (by omega) (by omega))]
    · unfold xX10_takesFree_L2
      rw [kg7, ks7 h, g.2.2.2.2.1.2.1, if_pos (nI_le (by omega) (by omega))]
  | m + 1, i, n + 1, n' + 1, h1, h2, h3 => by
    have hL := g.1.1
    have hP := g.1.2.1
    have hX := g.2.2.2.2.1
    have hl := WV_len hX.2.2.2.2
    have ih := s_free g hWN hXN hBJ hM m (i + 1) n n' (by omega) (by omega) (by omega)
    obtain ⟨e, he⟩ : ∃ e, X[i]? = some e := ⟨_, List.getElem?_eq_getElem (by omega)⟩
    have hm := List.mem_of_getElem? he
    have hb := hX.2.2.2.2.1 e hm
    have hsz := szI_get hX.2.2.2.2 hm
    obtain ⟨o, v1, v2, v3⟩ := s_lowest g.2.1 hL hP g.1.2.2.2.2.1 (nI e.2)
    obtain ⟨q, hq, cq, kq⟩ := lk_of g hXN hb.1 (by rw [hsz]; exact nI_ne1 (by omega))
    have oq : xX1_lockerOfPerson c (nI e.1) = some (some q, c) := c_lOP g.1.2.2.2.1 hL g.1.2.2.2.2.2.1 hP hb.1 cq (fun l e => by cases e; exact hq)
    unfold xX1_moveToFree_L2 xX10_takesFree_L2
    rw [hX.1.1, if_neg (nI_ge (by omega) (by omega)), c_lpA hX.1 (by omega) he, bnd_d, c_lsA hX.1 (by omega) he, bnd_d, v1, bnd_d, kg7, ks7 h, hX.2.1, if_neg (nI_ge (by omega) (by omega)), ixX, grd_eq (inb_nI (by omega) (by omega)), nI_clamp (by omega), ← d20 (h := h) (i := i) (by omega), hX.2.2.1 i e he, ltI_d, r_ofP5 (by omega), bnd_d, hX.2.2.2.1 e.1 hb.1, hsz, v2, bnd_d]
    cases o with
    | none =>
      rw [om_n, oq, bnd_d, om_s, grd_eq (decide_eq_true (by omega)), if_pos (by decide)]
      simp only [ltI_d, nI_1]
      exact ih
    | some f =>
      obtain ⟨hf, hf2⟩ := v3 f rfl
      rw [om_s, grd_eq (decide_eq_true (by omega)), oq, bnd_d, om_s, grd_eq (decide_eq_true (by omega)), put2_d, if_neg (show ¬ oI (some f) < 0 from nI_pos (by omega)), r_ofP0 (by omega), bnd_d, kq, r_lay2 _ (by omega), bnd_d, show oI (some f) = nI f from rfl]
      have d2 : dec (kset h 2 q (-1)) = up2 (dec h) 2 q (-1) := dec_kset (kv2 (by omega))
      have g1 : SR nL nP D d B M W X (up2 c 2 q (-1)) (dec (kset h 2 q (-1))) := by
        rw [d2]
        exact SR_L g hq (by omega) (LR1_2n (g.2.1.1 q hq))
      have w6 : ∀ x, (up2 c 2 q (-1)) 6 x = c 6 x := fun x => up2_ne _ (by omega)
      have n6 : (up2 c 2 q (-1)) 6 e.1 ≠ -1 := by rw [w6, cq]; exact nI_ne1 (by omega)
      obtain ⟨c2, h2, m1, m2, g2, f6, f18, n2⟩ := s_move g1 hb.1 hf n6
      have hWN1 : WN W (up2 c 2 q (-1)) := fun x hx => by rw [w6]; exact hWN x hx
      have hXN1 : XN X (up2 c 2 q (-1)) := fun x hx => by rw [w6]; exact hXN x hx
      obtain ⟨c3, h3, W3, k1, k2, k3, k4, k5, k6, k7⟩ := s_offer g2 (WN_mv hWN1 n6 f6) (XN_mv hXN1 f6) hq hM
      rw [m1, bnd_d, k1, bnd_d, m2, bnd_d, k2, bnd_d]
      exact Or.inr ⟨c3, h3, W3, _, rfl, rfl, k3, k4, k5, k6.2 (by
        have w2 : (up2 c 2 q (-1)) 2 = fu (c 2) q (-1) := fu_of (fun x => by
          by_cases z : x = q
          · rw [if_pos z, z, up2_self]
          · rw [if_neg z, up2_ne _ (by omega)])
        have t := bj_mv hBJ (show e.1 < 10 by omega) (show q < 12 by omega) (show f < 12 by omega) cq hf2
        rw [← w2, ← show (up2 c 2 q (-1)) 6 = c 6 from funext w6, ← fu_of f6, ← fu_of f18.2] at t
        exact t), wo_lt (by rw [hsz]; exact nI_ne1 (by omega)), nz_t k7 (nz_t n2 nz_k)⟩
