/-! pure part: the lines -/
def fJ (P : Nat × Nat → Bool) : List (Nat × Nat) → Nat → Option (Nat × (Nat × Nat))
  | [], _ => none
  | e :: t, i => if P e = true then some (i, e) else fJ P t (i + 1)
theorem fJ_get {P : Nat × Nat → Bool} : ∀ {t : List (Nat × Nat)} {i j : Nat} {e : Nat × Nat}, fJ P t i = some (j, e) → i ≤ j ∧ t[j - i]? = some e ∧ P e = true
  | [], i, j, e, h => by cases h
  | a :: t, i, j, e, h => by
    unfold fJ at h
    by_cases q : P a = true
    · rw [if_pos q] at h
      cases h
      exact ⟨Nat.le_refl _, by simp, q⟩
    · rw [if_neg q] at h
      obtain ⟨h1, h2, h3⟩ := fJ_get h
      refine ⟨by omega, ?_, h3⟩
      rw [show j - i = (j - (i + 1)) + 1 by omega]
      simpa using h2
theorem fJ_none {P : Nat × Nat → Bool} : ∀ {t : List (Nat × Nat)} {i : Nat}, fJ P t i = none → ∀ e, e ∈ t → P e = false
  | [], _, _, e, he => by cases he
  | a :: t, i, h, e, he => by
    unfold fJ at h
    by_cases q : P a = true
    · rw [if_pos q] at h
      cases h
    · rw [if_neg q] at h
      rcases List.mem_cons.mp he with rfl | he
      · simpa using q
      · exact fJ_none h e he
def LX (v : zV2) (w i : Nat) (t : List (Nat × Nat)) : Prop := ∀ j e, t[j]? = some e → v (19 + w) (i + j) = nI e.1 ∧ v (21 + w) (i + j) = nI e.2
theorem LX_hd {v : zV2} {w i : Nat} {a : Nat × Nat} {t : List (Nat × Nat)} (h : LX v w i (a :: t)) : v (19 + w) i = nI a.1 ∧ v (21 + w) i = nI a.2 := h 0 a (by simp)
theorem LX_tl {v : zV2} {w i : Nat} {a : Nat × Nat} {t : List (Nat × Nat)} (h : LX v w i (a :: t)) : LX v w (i + 1) t := fun j e he => by
  have := h (j + 1) e (by simpa using he)
  rw [show i + 1 + j = i + (j + 1) by omega]
  exact this
theorem LX_nil (v : zV2) (w i : Nat) : LX v w i [] := fun j e he => by simp at he
theorem LN_X {v : zV2} {w : Nat} {L : List (Nat × Nat)} (h : LN v w L) : LX v w 0 L := fun j e he => by
  rw [Nat.zero_add]
  exact h.2 j e he
theorem LX_N {v : zV2} {w : Nat} {L : List (Nat × Nat)} (h0 : v (23 + w) 0 = nI L.length) (h : LX v w 0 L) : LN v w L := ⟨h0, fun j e he => by
  have := h j e he
  rwa [Nat.zero_add] at this⟩
theorem LX_app {v : zV2} {w i : Nat} {L : List (Nat × Nat)} {a : Nat × Nat} (h : LX v w i L) (h1 : v (19 + w) (i + L.length) = nI a.1) (h2 : v (21 + w) (i + L.length) = nI a.2) : LX v w i (L ++ [a]) := fun j e he => by
  rw [List.getElem?_append] at he
  by_cases q : j < L.length
  · rw [if_pos q] at he
    exact h j e he
  · rw [if_neg q] at he
    have hj : j = L.length := by
      have := (List.getElem?_eq_some_iff.mp he).1
      simp at this
      omega
    subst hj
    simp at he
    subst he
    exact ⟨h1, h2⟩
theorem LX_fr {v v' : zV2} {w i : Nat} {L : List (Nat × Nat)} (h : LX v w i L) (h1 : ∀ j, i ≤ j → j < i + L.length → v' (19 + w) j = v (19 + w) j) (h2 : ∀ j, i ≤ j → j < i + L.length → v' (21 + w) j = v (21 + w) j) : LX v' w i L := fun j e he => by
  have hj := (List.getElem?_eq_some_iff.mp he).1
  rw [h1 (i + j) (by omega) (by omega), h2 (i + j) (by omega) (by omega)]
  exact h j e he
/-- what a store in the line leaves of the rest -/
def lz (w : Nat) (c' c : zV2) : Prop := ∀ i, i ≠ 19 + w → i ≠ 21 + w → i ≠ 23 + w → c' i = c i
theorem lz_r (w : Nat) (c : zV2) : lz w c c := fun _ _ _ _ => rfl
theorem lz_t {w : Nat} {a b c : zV2} (h1 : lz w a b) (h2 : lz w b c) : lz w a c := fun i x y z => (h1 i x y z).trans (h2 i x y z)
theorem lz_u {w j : Nat} {v : Int32} {c : zV2} {i : Nat} (h : i = 19 + w ∨ i = 21 + w ∨ i = 23 + w) : lz w (up2 c i j v) c := fun q x y z => up2_col c j v (by omega)
def bnL (L : List (Nat × Nat)) : Prop := L.length ≤ 10 ∧ ∀ e, e ∈ L → e.1 < 10 ∧ e.2 ≤ 3
theorem bnL_of {nP ms : Nat} {L : List (Nat × Nat)} (h : WV nP ms L) (hP : nP ≤ 10) (hm : ms ≤ 3) : bnL L := ⟨by have := WV_len h; omega, fun e he => by have := h.1 e he; omega⟩
def fP (p : Nat) : Nat × Nat → Bool := fun e => e.1 == p
def fS (s : Nat) : Nat × Nat → Bool := fun e => e.2 == s || e.2 == 3
def oJ : Option (Nat × (Nat × Nat)) → Int32
  | none => -1
  | some x => nI x.1
def oP : Option (Nat × (Nat × Nat)) → Int32
  | none => -1
  | some x => nI x.2.1
def oS : Option (Nat × (Nat × Nat)) → Int32
  | none => -1
  | some x => nI x.2.2
theorem c_placeOf1 {c : zV2} {w p : Nat} {N : Nat} (h0 : c (23 + w) 0 = nI N) (hN : N ≤ 10) (hp : p < 10) : ∀ (t : List (Nat × Nat)) (i n : Nat), i + t.length = N → (∀ e, e ∈ t → e.1 < 10 ∧ e.2 ≤ 3) → LX c w i t → t.length < n → xX3_placeOf_L2 w (nI p) n c (nI i) = some (oJ (fJ (fP p) t i), c)
  | t, i, 0, _, _, _, h => absurd h (by omega)
  | [], i, n + 1, h1, _, _, _ => by
    unfold xX3_placeOf_L2
    rw [h0, if_pos (nI_le (by simp at h1; omega) (by omega))]
    rfl
  | a :: t, i, n + 1, h1, h2, h3, h4 => by
    simp only [List.length_cons] at h1 h4
    have ha := h2 a (by simp)
    unfold xX3_placeOf_L2
    rw [h0, if_neg (nI_ge (by omega) (by omega)), if_neg (show ¬ (10 : Int32) ≤ nI i from nI_ge (a := i) (b := 10) (by omega) (by omega)), grd_eq (inb_nI (by omega) (by omega)), nI_clamp (by omega), (LX_hd h3).1, ltI_d, nI_1]
    by_cases q : a.1 = p
    · rw [if_pos (by rw [q])]
      unfold fJ
      rw [if_pos (by simp [fP, q])]
      rfl
    · rw [if_neg (fun z => q ((nI_eq (by omega) (by omega)).mp z))]
      unfold fJ
      rw [if_neg (by simp [fP, q])]
      exact c_placeOf1 h0 hN hp t (i + 1) n (by omega) (fun e he => h2 e (by simp [he])) (LX_tl h3) (by omega)
theorem c_placeOf {c : zV2} {w p : Nat} {L : List (Nat × Nat)} (h : LN c w L) (hb : bnL L) (hp : p < 10) : xX3_placeOf w c (nI p) = some (oJ (fJ (fP p) L 0), c) :=
  c_placeOf1 h.1 hb.1 hp L 0 1000 (by omega) hb.2 (LN_X h) (by have := hb.1; omega)
theorem c_sizeOf1 {c : zV2} {w p : Nat} {N : Nat} (h0 : c (23 + w) 0 = nI N) (hN : N ≤ 10) (hp : p < 10) : ∀ (t : List (Nat × Nat)) (i n : Nat), i + t.length = N → (∀ e, e ∈ t → e.1 < 10 ∧ e.2 ≤ 3) → LX c w i t → t.length < n → xX3_sizeOf_L2 w (nI p) n c (nI i) = some (oS (fJ (fP p) t i), c)
  | t, i, 0, _, _, _, h => absurd h (by omega)
  | [], i, n + 1, h1, _, _, _ => by
    unfold xX3_sizeOf_L2
    rw [h0, if_pos (nI_le (by simp at h1; omega) (by omega))]
    rfl
  | a :: t, i, n + 1, h1, h2, h3, h4 => by
    simp only [List.length_cons] at h1 h4
    have ha := h2 a (by simp)
    unfold xX3_sizeOf_L2
    rw [h0, if_neg (nI_ge (by omega) (by omega)), if_neg (show ¬ (10 : Int32) ≤ nI i from nI_ge (a := i) (b := 10) (by omega) (by omega)), grd_eq (inb_nI (by omega) (by omega)), nI_clamp (by omega), (LX_hd h3).1, ltI_d, nI_1, grd_eq (inb_nI (by omega) (by omega)), (LX_hd h3).2]
    by_cases q : a.1 = p
    · rw [if_pos (by rw [q])]
      unfold fJ
      rw [if_pos (by simp [fP, q])]
      rfl
    · rw [if_neg (fun z => q ((nI_eq (by omega) (by omega)).mp z))]
      unfold fJ
      rw [if_neg (by simp [fP, q])]
      exact c_sizeOf1 h0 hN hp t (i + 1) n (by omega) (fun e he => h2 e (by simp [he])) (LX_tl h3) (by omega)
theorem c_sizeOf {c : zV2} {w p : Nat} {L : List (Nat × Nat)} (h : LN c w L) (hb : bnL L) (hp : p < 10) : xX3_sizeOf w c (nI p) = some (oS (fJ (fP p) L 0), c) :=
  c_sizeOf1 h.1 hb.1 hp L 0 1000 (by omega) hb.2 (LN_X h) (by have := hb.1; omega)
theorem fJ_szI {p : Nat} : ∀ (t : List (Nat × Nat)) (i : Nat), oS (fJ (fP p) t i) = szI t p
  | [], i => rfl
  | a :: t, i => by
    have ih := fJ_szI (p := p) t (i + 1)
    unfold fJ
    unfold szI at ih ⊢
    by_cases q : a.1 = p
    · rw [if_pos (by simp [fP, q]), List.find?_cons_of_pos (by simp [q])]
      rfl
    · rw [if_neg (by simp [fP, q]), List.find?_cons_of_neg (by simp [q])]
      exact ih
theorem c_firstFor1 {c : zV2} {w s : Nat} {N : Nat} (h0 : c (23 + w) 0 = nI N) (hN : N ≤ 10) (hs : s ≤ 3) : ∀ (t : List (Nat × Nat)) (i n : Nat), i + t.length = N → (∀ e, e ∈ t → e.1 < 10 ∧ e.2 ≤ 3) → LX c w i t → t.length < n → xX3_firstFor_L2 w (nI s) n c (nI i) = some (oP (fJ (fS s) t i), c)
  | t, i, 0, _, _, _, h => absurd h (by omega)
  | [], i, n + 1, h1, _, _, _ => by
    unfold xX3_firstFor_L2
    rw [h0, if_pos (nI_le (by simp at h1; omega) (by omega))]
    rfl
  | a :: t, i, n + 1, h1, h2, h3, h4 => by
    simp only [List.length_cons] at h1 h4
    have ha := h2 a (by simp)
    unfold xX3_firstFor_L2
    rw [h0, if_neg (nI_ge (by omega) (by omega)), if_neg (show ¬ (10 : Int32) ≤ nI i from nI_ge (a := i) (b := 10) (by omega) (by omega)), grd_eq (inb_nI (by omega) (by omega)), nI_clamp (by omega), (LX_hd h3).2, ltI_d, nI_1, grd_eq (inb_nI (by omega) (by omega)), grd_eq (inb_nI (by omega) (by omega)), (LX_hd h3).1]
    by_cases q : a.2 = s
    · rw [if_pos (by rw [q])]
      unfold fJ
      rw [if_pos (by simp [fS, q])]
      rfl
    · rw [if_neg (fun z => q ((nI_eq (by omega) (by omega)).mp z))]
      by_cases q3 : a.2 = 3
      · rw [if_pos (by rw [q3]; rfl)]
        unfold fJ
        rw [if_pos (by simp [fS, q3])]
        rfl
      · rw [if_neg (show ¬ nI a.2 = (3 : Int32) from fun z => q3 ((nI_eq (a := a.2) (b := 3) (by omega) (by omega)).mp z))]
        unfold fJ
        rw [if_neg (by simp [fS, q, q3])]
        exact c_firstFor1 h0 hN hs t (i + 1) n (by omega) (fun e he => h2 e (by simp [he])) (LX_tl h3) (by omega)
theorem c_firstFor {c : zV2} {w s : Nat} {L : List (Nat × Nat)} (h : LN c w L) (hb : bnL L) (hs : s ≤ 3) : xX3_firstFor w c (nI s) = some (oP (fJ (fS s) L 0), c) :=
  c_firstFor1 h.1 hb.1 hs L 0 1000 (by omega) hb.2 (LN_X h) (by have := hb.1; omega)
/-- the line without a person -/
def wo (p : Nat) (L : List (Nat × Nat)) : List (Nat × Nat) := L.filter (fun e => !(e.1 == p))
theorem c_remove1 {w p : Nat} {N : Nat} (hN : N ≤ 10) (hp : p < 10) : ∀ (t : List (Nat × Nat)) (D : List (Nat × Nat)) (c : zV2) (i n : Nat), c (23 + w) 0 = nI N → D.length ≤ i → i + t.length = N → (∀ e, e ∈ t → e.1 < 10 ∧ e.2 ≤ 3) → LX c w 0 D → LX c w i t → t.length < n → ∃ c', xX3_remove_L4 w (nI p) n c (nI D.length) (nI i) = some ((), c') ∧ LN c' w (D ++ wo p t) ∧ lz w c' c
  | t, D, c, i, 0, _, _, _, _, _, _, h => absurd h (by omega)
  | [], D, c, i, n + 1, h0, h5, h1, h2, h6, h3, h4 => by
    unfold xX3_remove_L4
    rw [h0, if_pos (nI_le (by simp at h1; omega) (by omega)), put2_d]
    refine ⟨_, rfl, ?_, lz_u (by omega)⟩
    rw [show D ++ wo p [] = D by simp [wo]]
    exact LX_N (up2_self _ _ _ _) (LX_fr h6 (fun j _ _ => up2_c _ _ _ _ (by omega)) (fun j _ _ => up2_c _ _ _ _ (by omega)))
  | a :: t, D, c, i, n + 1, h0, h5, h1, h2, h6, h3, h4 => by
    simp only [List.length_cons] at h1 h4
    have ha := h2 a (by simp)
    unfold xX3_remove_L4
    rw [h0, if_neg (nI_ge (by omega) (by omega)), if_neg (show ¬ (10 : Int32) ≤ nI i from nI_ge (a := i) (b := 10) (by omega) (by omega)), grd_eq (inb_nI (by omega) (by omega)), nI_clamp (by omega), (LX_hd h3).1]
    by_cases q : a.1 = p
    · rw [if_pos (by rw [q]), ltI_d, nI_1]
      obtain ⟨c', e1, e2, e3⟩ := c_remove1 (w := w) hN hp t D c (i + 1) n h0 (by omega) (by omega) (fun e he => h2 e (by simp [he])) h6 (LX_tl h3) (by omega)
      refine ⟨c', e1, ?_, e3⟩
      rw [show wo p (a :: t) = wo p t by simp [wo, q]]
      exact e2
    · rw [if_neg (fun z => q ((nI_eq (by omega) (by omega)).mp z)), grd_eq (inb_nI (by omega) (by omega)), grd_eq (inb_nI (by omega) (by omega)), nI_clamp (by omega), put2_d, grd_eq (inb_nI (by omega) (by omega)), grd_eq (inb_nI (by omega) (by omega)), put2_d, up2_c _ _ _ _ (show 21 + w ≠ 19 + w by omega), (LX_hd h3).2, ltI_d, ltI_d, nI_1, nI_1]
      have hl : (D ++ [a]).length = D.length + 1 := by simp
      have k1 : LX (up2 (up2 c (19 + w) D.length (nI a.1)) (21 + w) D.length (nI a.2)) w 0 (D ++ [a]) := by
        refine LX_app (LX_fr h6 (fun j _ hj => ?_) (fun j _ hj => ?_)) ?_ ?_
        · rw [up2_c _ _ _ _ (by omega), up2_i _ _ _ _ (by omega)]
        · rw [up2_i _ _ _ _ (by omega), up2_c _ _ _ _ (by omega)]
        · rw [up2_c _ _ _ _ (by omega), Nat.zero_add, up2_self]
        · rw [Nat.zero_add, up2_self]
      have k2 : LX (up2 (up2 c (19 + w) D.length (nI a.1)) (21 + w) D.length (nI a.2)) w (i + 1) t := by
        refine LX_fr (LX_tl h3) (fun j h7 hj => ?_) (fun j h7 hj => ?_)
        · rw [up2_c _ _ _ _ (by omega), up2_i _ _ _ _ (by omega)]
        · rw [up2_i _ _ _ _ (by omega), up2_c _ _ _ _ (by omega)]
      obtain ⟨c', e1, e2, e3⟩ := c_remove1 (w := w) hN hp t (D ++ [a]) _ (i + 1) n (by rw [up2_c _ _ _ _ (by omega), up2_c _ _ _ _ (by omega)]; exact h0) (by omega) (by omega) (fun e he => h2 e (by simp [he])) k1 k2 (by omega)
      rw [hl] at e1
      refine ⟨c', e1, ?_, lz_t e3 (lz_t (lz_u (by omega)) (lz_u (by omega)))⟩
      rw [show D ++ wo p (a :: t) = D ++ [a] ++ wo p t by simp [wo, q]]
      exact e2
theorem c_remove {c : zV2} {w p : Nat} {L : List (Nat × Nat)} (h : LN c w L) (hb : bnL L) (hp : p < 10) : ∃ c', xX3_remove w c (nI p) = some ((), c') ∧ LN c' w (wo p L) ∧ lz w c' c := by
  have := c_remove1 (w := w) hb.1 hp L [] c 0 1000 h.1 (by simp) (by omega) hb.2 (LX_nil _ _ _) (LN_X h) (by have := hb.1; omega)
  exact this
theorem c_add {c : zV2} {w p s : Nat} {L : List (Nat × Nat)} (h : LN c w L) (hl : L.length < 10) : ∃ c', xX3_add w c (nI p) (nI s) = some ((), c') ∧ LN c' w (L ++ [(p, s)]) ∧ lz w c' c := by
  unfold xX3_add
  rw [h.1, if_neg (show ¬ (10 : Int32) ≤ nI L.length from nI_ge (a := L.length) (b := 10) (by omega) (by omega)), grd_eq (inb_nI (by omega) (by omega)), nI_clamp (by omega), put2_d, up2_c _ _ _ _ (show 23 + w ≠ 19 + w by omega), h.1, grd_eq (inb_nI (by omega) (by omega)), nI_clamp (by omega), put2_d, put2_d]
  refine ⟨_, rfl, LX_N ?_ ?_, lz_t (lz_u (by omega)) (lz_t (lz_u (by omega)) (lz_u (by omega)))⟩
  · rw [up2_self, up2_c _ _ _ _ (show 23 + w ≠ 21 + w by omega), up2_c _ _ _ _ (show 23 + w ≠ 19 + w by omega), h.1, nI_1]
    simp
  · refine LX_app (LX_fr (LN_X h) (fun j _ hj => ?_) (fun j _ hj => ?_)) ?_ ?_
    · rw [up2_c _ _ _ _ (by omega), up2_c _ _ _ _ (by omega), up2_i _ _ _ _ (by omega)]
    · rw [up2_c _ _ _ _ (by omega), up2_i _ _ _ _ (by omega), up2_c _ _ _ _ (by omega)]
    · rw [up2_c _ _ _ _ (by omega), up2_c _ _ _ _ (by omega), Nat.zero_add, up2_self]
    · rw [up2_c _ _ _ _ (by omega), Nat.zero_add, up2_self]
/-! the same of the reference -/
theorem r_placeOf1 {h : zV2} {p : Nat} {N : Nat} (h0 : dec h 23 0 = nI N) (hN : N ≤ 10) (hp : p < 10) : ∀ (t : List (Nat × Nat)) (i n : Nat), i + t.length = N → (∀ e, e ∈ t → e.1 < 10 ∧ e.2 ≤ 3) → LX (dec h) 0 i t → t.length < n → xX10_placeOf_L2 (nI p) n h (nI i) = some (oJ (fJ (fP p) t i), h)
  | t, i, 0, _, _, _, h => absurd h (by omega)
  | [], i, n + 1, h1, _, _, _ => by
    unfold xX10_placeOf_L2
    rw [kg6, ks6 h, h0, if_pos (nI_le (by simp at h1; omega) (by omega))]
    rfl
  | a :: t, i, n + 1, h1, h2, h3, h4 => by
    simp only [List.length_cons] at h1 h4
    have ha := h2 a (by simp)
    unfold xX10_placeOf_L2
    rw [kg6, ks6 h, h0, if_neg (nI_ge (by omega) (by omega)), ixW, grd_eq (inb_nI (by omega) (by omega)), nI_clamp (by omega), ← d19 (h := h) (i := i) (by omega), (LX_hd h3).1, ltI_d, nI_1]
    by_cases q : a.1 = p
    · rw [if_pos (by rw [q])]
      unfold fJ
      rw [if_pos (by simp [fP, q])]
      rfl
    · rw [if_neg (fun z => q ((nI_eq (by omega) (by omega)).mp z))]
      unfold fJ
      rw [if_neg (by simp [fP, q])]
      exact r_placeOf1 h0 hN hp t (i + 1) n (by omega) (fun e he => h2 e (by simp [he])) (LX_tl h3) (by omega)
theorem r_placeOf {h : zV2} {p : Nat} {L : List (Nat × Nat)} (g : LN (dec h) 0 L) (hb : bnL L) (hp : p < 10) : xX10_placeOf h (nI p) = some (oJ (fJ (fP p) L 0), h) :=
  r_placeOf1 g.1 hb.1 hp L 0 1000 (by omega) hb.2 (LN_X g) (by have := hb.1; omega)
theorem r_firstW1 {h : zV2} {s : Nat} {N : Nat} (h0 : dec h 23 0 = nI N) (hN : N ≤ 10) (hs : s ≤ 3) : ∀ (t : List (Nat × Nat)) (i n : Nat), i + t.length = N → (∀ e, e ∈ t → e.1 < 10 ∧ e.2 ≤ 3) → LX (dec h) 0 i t → t.length < n → xX10_firstWaiting_L2 (nI s) n h (nI i) = some (oJ (fJ (fS s) t i), h)
  | t, i, 0, _, _, _, h => absurd h (by omega)
  | [], i, n + 1, h1, _, _, _ => by
    unfold xX10_firstWaiting_L2
    rw [kg6, ks6 h, h0, if_pos (nI_le (by simp at h1; omega) (by omega))]
    rfl
  | a :: t, i, n + 1, h1, h2, h3, h4 => by
    simp only [List.length_cons] at h1 h4
    have ha := h2 a (by simp)
    unfold xX10_firstWaiting_L2
    rw [kg6, ks6 h, h0, if_neg (nI_ge (by omega) (by omega)), ixW1, grd_eq (inb_nI (by omega) (by omega)), nI_clamp (by omega), ← d21 (h := h) (i := i) (by omega), (LX_hd h3).2, ltI_d]
    simp only [ltI_d, nI_1]
    by_cases q : a.2 = s
    · rw [if_pos (by rw [q])]
      unfold fJ
      rw [if_pos (by simp [fS, q])]
      rfl
    · rw [if_neg (fun z => q ((nI_eq (by omega) (by omega)).mp z))]
      by_cases q3 : a.2 = 3
      · rw [if_pos (by rw [q3]; rfl)]
        unfold fJ
        rw [if_pos (by simp [fS, q3])]
        rfl
      · rw [if_neg (show ¬ nI a.2 = (3 : Int32) from fun z => q3 ((nI_eq (a := a.2) (b := 3) (by omega) (by omega)).mp z))]
        unfold fJ
        rw [if_neg (by simp [fS, q, q3])]
        exact r_firstW1 h0 hN hs t (i + 1) n (by omega) (fun e he => h2 e (by simp [he])) (LX_tl h3) (by omega)
theorem r_firstW {h : zV2} {s : Nat} {L : List (Nat × Nat)} (g : LN (dec h) 0 L) (hb : bnL L) (hs : s ≤ 3) : xX10_firstWaiting h (nI s) = some (oJ (fJ (fS s) L 0), h) :=
  r_firstW1 g.1 hb.1 hs L 0 1000 (by omega) hb.2 (LN_X g) (by have := hb.1; omega)
