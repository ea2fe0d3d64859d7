/-! the reference's reading of numbers; words on both sides -/
def e89 (h' h : zV2) : Prop := ∀ c j, ¬ (c = 8 ∧ j = 0) → ¬ (c = 9 ∧ j = 0) → h' c j = h c j
theorem e89_r (h : zV2) : e89 h h := fun _ _ _ _ => rfl
theorem e89_t {a b c : zV2} (h1 : e89 a b) (h2 : e89 b c) : e89 a c := fun i j p q => (h1 i j p q).trans (h2 i j p q)
theorem e89_8 (h : zV2) (x : Int32) : e89 (up2 h 8 0 x) h := fun i j p q => up2_ne _ (by omega)
theorem e89_9 (h : zV2) (x : Int32) : e89 (up2 h 9 0 x) h := fun i j p q => up2_ne _ (by omega)
theorem tR_89 {n : Nat} {sg : Nat → Int32} {h h' : zV2} (g : tR n sg h) (e : e89 h' h) : tR n sg h' :=
  ⟨by rw [e 7 0 (by omega) (by omega)]; exact g.1, fun i hi => by rw [e 4 i (by omega) (by omega)]; exact g.2 i hi⟩
theorem isb_bI (b : Bool) : isb (bI b) = true := by cases b <;> rfl
theorem r_must {n : Nat} {sg : Nat → Int32} {h : zV2} (S : tS n sg) (g : tR n sg h) {i : Nat} (hi : i < 1000) (h8 : h 8 0 = nI i) {b : Bool} (h9 : h 9 0 = bI b) {x : Int32} (hx0 : x ≠ 0) (hx1 : x ≠ -1) : ∃ h', xX10_must h x = some ((), h') ∧ h' 9 0 = bI (b && decide (sg i = x)) ∧ h' 8 0 = nI (i + 1) ∧ e89 h' h := by
  have key : ∀ c : Bool, xX10_must_L21 x h (bI c) = some ((), up2 (up2 h 9 0 (bI c)) 8 0 (nI (i + 1))) := fun c => by
    unfold xX10_must_L21
    rw [grd_eq (isb_bI c), put2_d, up2_ne h (show ¬ (8 = 9 ∧ 0 = 0) by omega), h8, nI_1, put2_d]
  have res : ∀ c : Bool, (up2 (up2 h 9 0 (bI c)) 8 0 (nI (i + 1))) 9 0 = bI c ∧ (up2 (up2 h 9 0 (bI c)) 8 0 (nI (i + 1))) 8 0 = nI (i + 1) ∧ e89 (up2 (up2 h 9 0 (bI c)) 8 0 (nI (i + 1))) h := fun c =>
    ⟨by rw [up2_ne _ (by omega), up2_self], up2_self _ _ _ _, e89_t (e89_8 _ _) (e89_9 _ _)⟩
  unfold xX10_must xX10_must_L20
  cases b with
  | false =>
    rw [h9, if_pos (show bI false = 0 from rfl)]
    exact ⟨_, key false, res false⟩
  | true =>
    rw [h9, if_neg (show ¬ bI true = 0 by decide), r_here S g hi h8, bnd_d]
    by_cases e : sg i = x
    · rw [if_pos ((hr_eq S hx0 hx1).mpr e), decide_eq_true e]
      exact ⟨_, key true, res true⟩
    · rw [if_neg (fun z => e ((hr_eq S hx0 hx1).mp z)), decide_eq_false e]
      exact ⟨_, key false, res false⟩
theorem ten_c (a r : Int32) : (10 : Int32) * a + r - 48 = a * 10 + (r - 48) := by
  rw [Int32.mul_comm, Int32.sub_eq_add_neg, Int32.sub_eq_add_neg, Int32.add_assoc]
theorem r_digits {n : Nat} {sg : Nat → Int32} (S : tS n sg) : ∀ (m k e f : Nat) (a : Int32) (b : Bool) (h : zV2), tR n sg h → h 8 0 = nI e → h 9 0 = bI b → k + m = 3 → m < f → e + m < 990 → ∃ h', xX10_readNumber_L10 f h a (nI k) = some ((nmF sg m e a).2, h') ∧ h' 9 0 = bI (b && decide (k + (nmF sg m e a).1 ≠ 0)) ∧ h' 8 0 = nI (e + (nmF sg m e a).1) ∧ e89 h' h
  | m, k, e, 0, _, _, _, _, _, _, _, h, _ => absurd h (by omega)
  | m, k, e, f + 1, a, b, h, g, h8, h9, h1, h2, h3 => by
    have fin : xX10_readNumber_L58 h a (nI k) = some (a, up2 h 9 0 (bI (b && decide (k ≠ 0)))) := by
      unfold xX10_readNumber_L58
      rw [h9]
      cases b with
      | false => rw [if_pos (show bI false = 0 from rfl), put2_d]; rfl
      | true =>
        rw [if_neg (show ¬ bI true = 0 by decide)]
        by_cases q : k = 0
        · subst q
          rw [if_pos (show nI 0 ≤ 0 by decide), put2_d]
          rfl
        · rw [if_neg (nI_nle (by omega) (by omega)), put2_d, decide_eq_true q]
          rfl
    have stop : nmF sg m e a = (0, a) → ∃ h', xX10_readNumber_L58 h a (nI k) = some ((nmF sg m e a).2, h') ∧ h' 9 0 = bI (b && decide (k + (nmF sg m e a).1 ≠ 0)) ∧ h' 8 0 = nI (e + (nmF sg m e a).1) ∧ e89 h' h := fun e1 => by
      rw [e1]
      refine ⟨_, fin, up2_self _ _ _ _, ?_, e89_9 _ _⟩
      rw [up2_ne _ (by omega), h8]
      rfl
    unfold xX10_readNumber_L10
    match m, h1, h2, h3, stop with
    | 0, h1, h2, h3, stop =>
      have ek : k = 3 := by omega
      subst ek
      rw [if_pos (by decide)]
      exact stop rfl
    | m + 1, h1, h2, h3, stop =>
      rw [if_neg (show ¬ (3 : Int32) ≤ nI k from nI_ge (a := k) (b := 3) (by omega) (by omega)), r_here S g (by omega) h8, bnd_d, r_dg, bnd_d, (dg_hr S e).1]
      by_cases q : dg (sg e) = true
      · rw [q, if_neg (show ¬ bI true = 0 by decide), r_here S g (by omega) h8, bnd_d, (dg_hr S e).2 q, ltI_d, ltI_d, put2_d, h8, nI_1, nI_1, ten_c]
        obtain ⟨h', i1, i2, i3, i4⟩ := r_digits S m (k + 1) (e + 1) f (a * 10 + (sg e - 48)) b (up2 h 8 0 (nI (e + 1))) (tR_89 g (e89_8 _ _)) (up2_self _ _ _ _) (by rw [up2_ne _ (by omega), h9]) (by omega) (by omega) (by omega)
        have e1 : nmF sg (m + 1) e a = ((nmF sg m (e + 1) (a * 10 + (sg e - 48))).1 + 1, (nmF sg m (e + 1) (a * 10 + (sg e - 48))).2) := by
          conv => lhs; unfold nmF
          rw [if_pos q]
        rw [e1]
        refine ⟨h', i1, ?_, ?_, e89_t i4 (e89_8 _ _)⟩
        · rw [i2, decide_eq_true (by omega), decide_eq_true (show k + ((nmF sg m (e + 1) (a * 10 + (sg e - 48))).1 + 1) ≠ 0 by omega)]
        · rw [i3, show e + 1 + (nmF sg m (e + 1) (a * 10 + (sg e - 48))).1 = e + ((nmF sg m (e + 1) (a * 10 + (sg e - 48))).1 + 1) by omega]
      · have q' : dg (sg e) = false := by cases z : dg (sg e) with
          | false => rfl
          | true => exact absurd z q
        rw [q', if_pos (show bI false = 0 from rfl)]
        exact stop (by unfold nmF; rw [if_neg q])
theorem r_num {n : Nat} {sg : Nat → Int32} (S : tS n sg) {h : zV2} (g : tR n sg h) {e : Nat} (he : e < 900) (h8 : h 8 0 = nI e) {b : Bool} (h9 : h 9 0 = bI b) : ∃ a e' h', xX10_readNumber h = some (a, h') ∧ h' 9 0 = bI (b && (nb sg e).isSome) ∧ h' 8 0 = nI e' ∧ e' ≤ e + 4 ∧ e89 h' h ∧ ∀ a0 e0, nb sg e = some (a0, e0) → a = a0 ∧ e' = e0 := by
  obtain ⟨h1, m1, m2, m3, m4⟩ := r_must S g (by omega) h8 h9 (x := 32) (by decide) (by decide)
  obtain ⟨h2, d1, d2, d3, d4⟩ := r_digits S 3 0 (e + 1) 1000 0 _ h1 (tR_89 g m4) m3 m2 rfl (by omega) (by omega)
  have hl := nmF_le sg 3 (e + 1) 0
  refine ⟨(nmF sg 3 (e + 1) 0).2, e + 1 + (nmF sg 3 (e + 1) 0).1, h2, ?_, ?_, d3, by omega, e89_t d4 m4, fun a0 e0 hn => ?_⟩
  · unfold xX10_readNumber
    rw [m1, bnd_d]
    exact d1
  · rw [d2, Nat.zero_add]
    unfold nb
    by_cases q : sg e = 32
    · rw [if_pos q, decide_eq_true q]
      by_cases q2 : (nmF sg 3 (e + 1) 0).1 = 0
      · rw [if_pos q2, decide_eq_false (fun z => z q2)]
        cases b <;> rfl
      · rw [if_neg q2, decide_eq_true q2]
        cases b <;> rfl
    · rw [if_neg q, decide_eq_false q]
      cases b <;> rfl
  · unfold nb at hn
    by_cases q : sg e = 32
    · rw [if_pos q] at hn
      by_cases q2 : (nmF sg 3 (e + 1) 0).1 = 0
      · rw [if_pos q2] at hn
        cases hn
      · rw [if_neg q2] at hn
        have hn := Option.some.inj hn
        exact ⟨congrArg Prod.fst hn, congrArg Prod.snd hn⟩
    · rw [if_neg q] at hn
      cases hn
/-! the class's words -/
theorem c_len (q : Nat) (hq : q < 8) (v : zV2) : xJ0_length_8abf5 q v = some (nI (wlen q), v) := by
  have x : ∀ b : Fin 8, nI (wlen b.val) >>> ((0 : Int32) &&& 31) = nI (wlen b.val) := by decide +kernel
  unfold xJ0_length_8abf5 xJ0_coder_7d493
  rw [if_neg (by decide), bnd_d, x ⟨q, hq⟩]
theorem c_chr (q j : Nat) (hq : q < 8) (hj : j < wlen q) (v : zV2) : xJ0_charAt_5068e q v (nI j) = some (wbyt q j, v) := by
  have x : ∀ b : Fin 8, wlen b.val ≤ 5 ∧ ∀ k : Fin 5, k.val < wlen b.val → (((wbyt b.val k.val &&& (255 : Int32)).toUInt32 % 65536).toInt32) = wbyt b.val k.val ∧ isc (wbyt b.val k.val) = true := by decide +kernel
  have hl := (x ⟨q, hq⟩).1
  have hl' : wlen q ≤ 5 := hl
  obtain ⟨x1, x2⟩ := (x ⟨q, hq⟩).2 ⟨j, by omega⟩ hj
  unfold xJ0_charAt_5068e xJ0_isLatin1_aae02
  rw [if_neg (by decide), if_pos rfl, bnd_d, if_neg (by decide)]
  unfold xJ1_charAt_3b067 xJ0_checkIndex_df160 xJ3_checkIndex_8e157
  rw [if_neg (nI_pos (by omega)), if_pos (nI_lt hj (by omega)), bnd_d, bnd_d, grd_eq (inb_nI hj (by omega)), nI_clamp (by omega)]
  rw [show (((wbyt q j &&& (255 : Int32)).toUInt32 % 65536).toInt32) = wbyt q j from x1, grd_eq x2, bnd_d, grd_eq x2]
def hw (sg : Nat → Int32) (q i : Nat) : Nat → Nat → Bool
  | 0, _ => true
  | m + 1, j => if sg (i + j) = wbyt q j then hw sg q i m (j + 1) else false
theorem hw_iff (sg : Nat → Int32) (q i : Nat) : ∀ (m j : Nat), hw sg q i m j = true ↔ ∀ t, j ≤ t → t < j + m → sg (i + t) = wbyt q t
  | 0, j => ⟨fun _ t h1 h2 => by omega, fun _ => rfl⟩
  | m + 1, j => by
    unfold hw
    by_cases e : sg (i + j) = wbyt q j
    · rw [if_pos e, hw_iff sg q i m (j + 1)]
      exact ⟨fun h t h1 h2 => by
        by_cases z : t = j
        · rw [z]; exact e
        · exact h t (by omega) (by omega), fun h t h1 h2 => h t (by omega) (by omega)⟩
    · rw [if_neg e]
      exact ⟨fun h => absurd h (by decide), fun h => absurd (h j (by omega) (by omega)) e⟩
theorem c_has {n : Nat} {sg : Nat → Int32} {v : zV2} (S : tS n sg) (g : tC n sg v) {q i : Nat} (hq : q < 8) (hi : i < 900) : ∀ (m j f : Nat), j + m = wlen q → m < f → xX7_hasWordAt_L2 q (nI i) f v q (nI j) = some (bI (hw sg q i m j), v)
  | m, j, 0, _, h => absurd h (by omega)
  | m, j, f + 1, h1, h2 => by
    have x : ∀ b : Fin 8, wlen b.val ≤ 5 := by decide +kernel
    have hl : wlen q ≤ 5 := x ⟨q, hq⟩
    unfold xX7_hasWordAt_L2
    rw [c_len q hq, bnd_d]
    match m, h1, h2 with
    | 0, h1, h2 =>
      rw [if_pos (nI_le (by omega) (by omega))]
      rfl
    | m + 1, h1, h2 =>
      rw [if_neg (nI_ge (by omega) (by omega)), nI_add, c_sign S g (by omega), bnd_d, c_chr q j hq (by omega), bnd_d]
      unfold hw
      by_cases e : sg (i + j) = wbyt q j
      · rw [if_pos e, if_pos e, ltI_d, nI_1]
        exact c_has S g hq hi m (j + 1) f (by omega) (by omega)
      · rw [if_neg e, if_neg e]
        rfl
def vb (sg : Nat → Int32) (i : Nat) : Nat → Nat → Option Nat
  | 0, _ => none
  | m + 1, a => if hw sg a i (wlen a) 0 = true then some a else vb sg i m (a + 1)
theorem c_verb {n : Nat} {sg : Nat → Int32} {v : zV2} (S : tS n sg) (g : tC n sg v) {i : Nat} (hi : i < 900) : ∀ (m a f : Nat), a + m = 8 → m < f → xX7_verbAt_L2 (nI i) f v (nI a) = some (vb sg i m a, v)
  | m, a, 0, _, h => absurd h (by omega)
  | 0, a, f + 1, h1, h2 => by
    have e : a = 8 := by omega
    subst e
    unfold xX7_verbAt_L2
    rw [if_pos (by decide)]
    rfl
  | m + 1, a, f + 1, h1, h2 => by
    have x : ∀ b : Fin 8, wlen b.val ≤ 5 := by decide +kernel
    have hl : wlen a ≤ 5 := x ⟨a, by omega⟩
    have h := c_has S g (q := a) (by omega) hi (wlen a) 0 1000 (by omega) (by omega)
    have h' : xX7_hasWordAt a v (nI i) = some (bI (hw sg a i (wlen a) 0), v) := h
    unfold xX7_verbAt_L2 vb
    rw [if_neg (show ¬ (8 : Int32) ≤ nI a from nI_ge (a := a) (b := 8) (by omega) (by omega)), grd_eq (inb_nI (by omega) (by omega)), nI_clamp (by omega), h', bnd_d]
    cases z : hw sg a i (wlen a) 0 with
    | false =>
      rw [if_pos (show bI false = 0 from rfl), ltI_d, nI_1, if_neg (by decide)]
      exact c_verb S g hi m (a + 1) f (by omega) (by omega)
    | true =>
      rw [if_neg (show ¬ bI true = 0 by decide), grd_eq (inb_nI (by omega) (by omega)), if_pos rfl]
theorem vb_some {sg : Nat → Int32} {i : Nat} : ∀ {m a q : Nat}, vb sg i m a = some q → a ≤ q ∧ q < a + m ∧ hw sg q i (wlen q) 0 = true
  | 0, a, q, h => by cases h
  | m + 1, a, q, h => by
    unfold vb at h
    by_cases e : hw sg a i (wlen a) 0 = true
    · rw [if_pos e] at h
      cases h
      exact ⟨by omega, by omega, e⟩
    · rw [if_neg e] at h
      have := vb_some h
      exact ⟨by omega, by omega, this.2.2⟩
theorem vb_none {sg : Nat → Int32} {i : Nat} : ∀ {m a : Nat}, vb sg i m a = none → ∀ q, a ≤ q → q < a + m → hw sg q i (wlen q) 0 = false
  | 0, a, _, q, h1, h2 => by omega
  | m + 1, a, h, q, h1, h2 => by
    unfold vb at h
    by_cases e : hw sg a i (wlen a) 0 = true
    · rw [if_pos e] at h
      cases h
    · rw [if_neg e] at h
      by_cases z : q = a
      · subst z
        cases y : hw sg q i (wlen q) 0 with
        | false => rfl
        | true => exact absurd y e
      · exact vb_none h q (by omega) (by omega)
