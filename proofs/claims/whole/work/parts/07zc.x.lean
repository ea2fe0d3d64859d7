/-! the reference's words: packed letters -/
def lt (x : Int32) : Bool := if x < 97 then false else if 122 < x then false else true
theorem r_lt (h : zV2) (x : Int32) : xX10_in h x 97 122 = some (bI (lt x), h) := by
  unfold xX10_in lt
  by_cases e : x < 97
  · rw [if_pos e, if_pos e]
    rfl
  · rw [if_neg e, if_neg e]
    by_cases e2 : 122 < x
    · rw [if_pos e2, if_pos e2]
      rfl
    · rw [if_neg e2, if_neg e2]
      rfl
theorem lt_hr {n : Nat} {sg : Nat → Int32} (S : tS n sg) (i : Nat) : lt (hr n sg i) = lt (sg i) ∧ (lt (sg i) = true → hr n sg i = sg i) := by
  unfold hr
  by_cases e : i < n
  · rw [if_pos e]
    exact ⟨rfl, fun _ => rfl⟩
  · rw [if_neg e, S.2.2 i (by omega)]
    exact ⟨rfl, fun z => absurd z (by decide)⟩
theorem lt_n {n : Nat} {sg : Nat → Int32} (S : tS n sg) {i : Nat} (h : lt (sg i) = true) : ∃ c : Nat, 97 ≤ c ∧ c ≤ 122 ∧ sg i = nI c := by
  by_cases e : i < n
  · obtain ⟨ch, c1, c2, c3⟩ := S.2.1 i e
    rw [c3] at h ⊢
    unfold lt at h
    by_cases q : nI ch < 97
    · rw [if_pos q] at h
      cases h
    · rw [if_neg q] at h
      by_cases q2 : 122 < nI ch
      · rw [if_pos q2] at h
        cases h
      · exact ⟨ch, Nat.le_of_not_lt fun z => q (nI_lt (a := ch) (b := 97) z (by omega)), Nat.le_of_not_lt fun z => q2 (nI_lt (a := 122) (b := ch) z (by omega)), rfl⟩
  · rw [S.2.2 i (by omega)] at h
    cases h
def pk (sg : Nat → Int32) (i : Nat) : Nat → Int64
  | 0 => 0
  | k + 1 => (pk sg i k <<< ((8 : Int32).toInt64 &&& 63)) ||| (sg (i + k)).toInt64
theorem r_letters {n : Nat} {sg : Nat → Int32} (S : tS n sg) {i : Nat} (hi : i < 900) : ∀ (m k f : Nat) (h : zV2), tR n sg h → h 8 0 = nI (i + k) → k + m = 5 → m < f → ∃ k' h', k ≤ k' ∧ k' ≤ 5 ∧ (∀ j, k ≤ j → j < k' → lt (sg (i + j)) = true) ∧ (k' = 5 ∨ lt (sg (i + k')) = false) ∧ xX10_readWord_L4 f h (pk sg i k) (nI k) = xX10_readWord_L53 1000 h' (pk sg i k') 0 ∧ h' 8 0 = nI (i + k') ∧ e89 h' h
  | m, k, 0, _, _, _, _, h => absurd h (by omega)
  | 0, k, f + 1, h, g, h8, h1, h2 => by
    have ek : k = 5 := by omega
    subst ek
    refine ⟨5, h, by omega, by omega, fun j h1 h2 => by omega, Or.inl rfl, ?_, h8, e89_r h⟩
    conv => lhs; unfold xX10_readWord_L4
    rw [if_pos (by decide)]
  | m + 1, k, f + 1, h, g, h8, h1, h2 => by
    have e0 : xX10_readWord_L4 (f + 1) h (pk sg i k) (nI k) = (if bI (lt (sg (i + k))) = 0 then xX10_readWord_L53 1000 h (pk sg i k) 0 else bnd (some (hr n sg (i + k), h)) fun r9 h11 => ltI ((pk sg i k <<< ((8 : Int32).toInt64 &&& 63)) ||| r9.toInt64) fun y12 => ltI (nI k + (1 : Int32)) fun y13 => put2 h11 8 0 ((h11 8 0) + (1 : Int32)) fun h14 => xX10_readWord_L4 f h14 y12 y13) := by
      conv => lhs; unfold xX10_readWord_L4
      rw [if_neg (show ¬ (5 : Int32) ≤ nI k from nI_ge (a := k) (b := 5) (by omega) (by omega)), r_here S g (by omega) h8, bnd_d, r_lt, bnd_d, (lt_hr S (i + k)).1, r_here S g (by omega) h8]
    rw [e0]
    cases q : lt (sg (i + k)) with
    | false =>
      rw [if_pos (show bI false = 0 from rfl)]
      exact ⟨k, h, by omega, by omega, fun j h1 h2 => by omega, Or.inr q, rfl, h8, e89_r h⟩
    | true =>
      rw [if_neg (show ¬ bI true = 0 by decide), bnd_d, (lt_hr S (i + k)).2 q, ltI_d, ltI_d, put2_d, h8, nI_1, nI_1]
      obtain ⟨k', h', a1, a2, a3, a4, a5, a6, a7⟩ := r_letters S hi m (k + 1) f (up2 h 8 0 (nI (i + k + 1))) (tR_89 g (e89_8 _ _)) (up2_self _ _ _ _) (by omega) (by omega)
      exact ⟨k', h', by omega, a2, fun j h1 h2 => by
        by_cases z : j = k
        · rw [z]; exact q
        · exact a3 j (by omega) h2, a4, a5, a6, e89_t a7 (e89_8 _ _)⟩
def wq (q : Nat) : Int64 := match q with
  | 0 => 1818586724
  | 1 => 1650549611
  | 2 => 491328005495
  | 3 => 1819243365
  | 4 => 2003399528
  | 5 => 1937203568
  | 6 => 7364985
  | _ => 1885434739
theorem r_wordOf (h : zV2) : ∀ q : Nat, q < 8 → xX10_wordOf h (nI q) = some (wq q, h)
  | 0, _ => rfl
  | 1, _ => rfl
  | 2, _ => rfl
  | 3, _ => rfl
  | 4, _ => rfl
  | 5, _ => rfl
  | 6, _ => rfl
  | 7, _ => rfl
  | q + 8, hq => absurd hq (by omega)
theorem lg_cmp_rr (x : Int64) : lg_cmp x x = 0 := by simp [lg_cmp]
theorem lg_0 {x y : Int64} : lg_cmp x y = 0 ↔ x = y := by
  constructor
  · intro h
    unfold lg_cmp at h
    by_cases q : x > y
    · rw [if_pos q] at h
      exact absurd h (by decide)
    · rw [if_neg q] at h
      by_cases z : x = y
      · exact z
      · rw [if_neg z] at h
        exact absurd h (by decide)
  · intro h
    subst h
    exact lg_cmp_rr x
def wf (a : Int64) : Nat → Nat → Int32
  | 0, _ => -1
  | m + 1, j => if wq j = a then nI j else wf a m (j + 1)
theorem r_find (a : Int64) (h : zV2) : ∀ (m j f : Nat), j + m = 8 → m < f → xX10_readWord_L53 f h a (nI j) = some (wf a m j, h)
  | m, j, 0, _, h => absurd h (by omega)
  | 0, j, f + 1, h1, h2 => by
    have e : j = 8 := by omega
    subst e
    unfold xX10_readWord_L53
    rw [if_pos (by decide)]
    rfl
  | m + 1, j, f + 1, h1, h2 => by
    unfold xX10_readWord_L53 wf
    rw [if_neg (show ¬ (8 : Int32) ≤ nI j from nI_ge (a := j) (b := 8) (by omega) (by omega)), r_wordOf h j (by omega), bnd_d]
    by_cases e : wq j = a
    · rw [if_pos (lg_0.mpr e), if_pos e]
    · rw [if_neg (fun z => e (lg_0.mp z)), if_neg e, ltI_d, nI_1]
      exact r_find a h m (j + 1) f (by omega) (by omega)
theorem wf_none {a : Int64} : ∀ {m j : Nat}, (∀ q, j ≤ q → q < j + m → wq q ≠ a) → wf a m j = -1
  | 0, j, _ => rfl
  | m + 1, j, h => by
    unfold wf
    rw [if_neg (h j (by omega) (by omega))]
    exact wf_none (fun q h1 h2 => h q (by omega) (by omega))
theorem wf_some {a : Int64} {v : Nat} (hv : wq v = a) : ∀ {m j : Nat}, j ≤ v → v < j + m → (∀ q, j ≤ q → q < v → wq q ≠ a) → wf a m j = nI v
  | 0, j, h1, h2, _ => by omega
  | m + 1, j, h1, h2, h => by
    unfold wf
    by_cases e : j = v
    · subst e
      rw [if_pos hv]
    · rw [if_neg (h j (by omega) (by omega))]
      exact wf_some hv (by omega) (by omega) (fun q h1 h2 => h q (by omega) h2)
/-! packed letters as numbers -/
def pkN (c : Nat → Nat) : Nat → Nat
  | 0 => 0
  | k + 1 => pkN c k * 256 + c k
theorem sh8 (a : Int64) : (a <<< ((8 : Int32).toInt64 &&& 63)).toBitVec = a.toBitVec <<< 8 := by
  show a.toBitVec <<< (((8 : Int32).toInt64 &&& 63).toBitVec.smod 64) = _
  rw [show (((8 : Int32).toInt64 &&& 63).toBitVec.smod 64) = 8#64 by decide +kernel]
  rfl
theorem i64_e {a b : Int64} (h : a.toBitVec.toNat = b.toBitVec.toNat) : a = b := by
  have e : a.toBitVec = b.toBitVec := BitVec.eq_of_toNat_eq h
  have t : (⟨⟨a.toBitVec⟩⟩ : Int64) = ⟨⟨b.toBitVec⟩⟩ := by rw [e]
  exact t
theorem pk_n {sg : Nat → Int32} {i : Nat} {c : Nat → Nat} : ∀ k : Nat, k ≤ 5 → (∀ j, j < k → c j < 256 ∧ sg (i + j) = nI (c j)) → (pk sg i k).toBitVec.toNat = pkN c k ∧ pkN c k < 256 ^ k
  | 0, _, _ => ⟨rfl, Nat.zero_lt_one⟩
  | k + 1, hk, h => by
    obtain ⟨e1, e2⟩ := pk_n k (by omega) (fun j hj => h j (by omega))
    obtain ⟨c1, c2⟩ := h k (by omega)
    have x : ∀ b : Fin 256, (nI b.val).toInt64.toBitVec.toNat = b.val := by decide +kernel
    have x1 := x ⟨c k, c1⟩
    have hb : 256 ^ k ≤ 256 ^ 4 := Nat.pow_le_pow_right (by decide) (by omega)
    have hb2 : (256 : Nat) ^ 4 = 4294967296 := by decide
    have hlt : pkN c k * 256 + c k < 256 ^ (k + 1) := by
      rw [Nat.pow_succ]
      omega
    refine ⟨?_, hlt⟩
    show (pk sg i k <<< ((8 : Int32).toInt64 &&& 63) ||| (sg (i + k)).toInt64).toBitVec.toNat = pkN c k * 256 + c k
    have e3 : (pk sg i k <<< ((8 : Int32).toInt64 &&& 63) ||| (sg (i + k)).toInt64).toBitVec = (pk sg i k <<< ((8 : Int32).toInt64 &&& 63)).toBitVec ||| (sg (i + k)).toInt64.toBitVec := rfl
    have hP : pkN c k < 4294967296 := by omega
    have q1 : pkN c k <<< 8 = pkN c k * 256 := Nat.shiftLeft_eq _ _
    have q2 : pkN c k * 256 < 2 ^ 64 := Nat.lt_of_lt_of_le (show pkN c k * 256 < 1099511627776 by clear hlt hb2 hb e2; omega) (Nat.le_of_ble_eq_true rfl)
    have q3 : pkN c k <<< 8 + c k = pkN c k <<< 8 ||| c k := Nat.shiftLeft_add_eq_or_of_lt (i := 8) c1 _
    rw [e3, sh8, BitVec.toNat_or, BitVec.toNat_shiftLeft, e1, c2, x1, Nat.mod_eq_of_lt (by rw [q1]; exact q2), ← q3, q1]
theorem wq_n : ∀ q : Nat, q < 8 → (wq q).toBitVec.toNat = (match q with | 0 => 1818586724 | 1 => 1650549611 | 2 => 491328005495 | 3 => 1819243365 | 4 => 2003399528 | 5 => 1937203568 | 6 => 7364985 | _ => 1885434739)
  | 0, _ => by decide +kernel
  | 1, _ => by decide +kernel
  | 2, _ => by decide +kernel
  | 3, _ => by decide +kernel
  | 4, _ => by decide +kernel
  | 5, _ => by decide +kernel
  | 6, _ => by decide +kernel
  | 7, _ => by decide +kernel
  | q + 8, hq => absurd hq (by omega)
theorem w_to {sg : Nat → Int32} {i k q : Nat} {c : Nat → Nat} (hk : k ≤ 5) (hq : q < 8) (hc : ∀ j, j < k → 97 ≤ c j ∧ c j ≤ 122 ∧ sg (i + j) = nI (c j)) (h : wq q = pk sg i k) : k = wlen q ∧ ∀ j, j < wlen q → sg (i + j) = wbyt q j := by
  have e := (pk_n (sg := sg) (i := i) (c := c) k hk (fun j hj => ⟨by have := (hc j hj).2.1; omega, (hc j hj).2.2⟩)).1
  rw [← h] at e
  match q, hq, e with
  | 0, _, e =>
    rw [wq_n 0 (by decide)] at e
    match k, hk, hc, e with
    | 0, _, hc, e =>
      have e : 1818586724 = 0 := e
      exfalso
      omega
    | 1, _, hc, e =>
      have e : 1818586724 = (0) * 256 + c 0 := e
      have h0 := hc 0 (by omega)
      exfalso
      omega
    | 2, _, hc, e =>
      have e : 1818586724 = ((0) * 256 + c 0) * 256 + c 1 := e
      have h0 := hc 0 (by omega)
      have h1 := hc 1 (by omega)
      exfalso
      omega
    | 3, _, hc, e =>
      have e : 1818586724 = (((0) * 256 + c 0) * 256 + c 1) * 256 + c 2 := e
      have h0 := hc 0 (by omega)
      have h1 := hc 1 (by omega)
      have h2 := hc 2 (by omega)
      exfalso
      omega
    | 4, _, hc, e =>
      have e : 1818586724 = ((((0) * 256 + c 0) * 256 + c 1) * 256 + c 2) * 256 + c 3 := e
      have h0 := hc 0 (by omega)
      have h1 := hc 1 (by omega)
      have h2 := hc 2 (by omega)
      have h3 := hc 3 (by omega)
      refine ⟨rfl, fun j hj => ?_⟩
      match j, hj with
      | 0, _ => rw [h0.2.2, show c 0 = 108 by omega]; rfl
      | 1, _ => rw [h1.2.2, show c 1 = 101 by omega]; rfl
      | 2, _ => rw [h2.2.2, show c 2 = 110 by omega]; rfl
      | 3, _ => rw [h3.2.2, show c 3 = 100 by omega]; rfl
      | j + 4, hj => exact absurd (show j + 4 < 4 from hj) (by omega)
    | 5, _, hc, e =>
      have e : 1818586724 = (((((0) * 256 + c 0) * 256 + c 1) * 256 + c 2) * 256 + c 3) * 256 + c 4 := e
      have h0 := hc 0 (by omega)
      have h1 := hc 1 (by omega)
      have h2 := hc 2 (by omega)
      have h3 := hc 3 (by omega)
      have h4 := hc 4 (by omega)
      exfalso
      omega
  | 1, _, e =>
    rw [wq_n 1 (by decide)] at e
    match k, hk, hc, e with
    | 0, _, hc, e =>
      have e : 1650549611 = 0 := e
      exfalso
      omega
    | 1, _, hc, e =>
      have e : 1650549611 = (0) * 256 + c 0 := e
      have h0 := hc 0 (by omega)
      exfalso
      omega
    | 2, _, hc, e =>
      have e : 1650549611 = ((0) * 256 + c 0) * 256 + c 1 := e
      have h0 := hc 0 (by omega)
      have h1 := hc 1 (by omega)
      exfalso
      omega
    | 3, _, hc, e =>
      have e : 1650549611 = (((0) * 256 + c 0) * 256 + c 1) * 256 + c 2 := e
      have h0 := hc 0 (by omega)
      have h1 := hc 1 (by omega)
      have h2 := hc 2 (by omega)
      exfalso
      omega
    | 4, _, hc, e =>
      have e : 1650549611 = ((((0) * 256 + c 0) * 256 + c 1) * 256 + c 2) * 256 + c 3 := e
      have h0 := hc 0 (by omega)
      have h1 := hc 1 (by omega)
      have h2 := hc 2 (by omega)
      have h3 := hc 3 (by omega)
      refine ⟨rfl, fun j hj => ?_⟩
      match j, hj with
      | 0, _ => rw [h0.2.2, show c 0 = 98 by omega]; rfl
      | 1, _ => rw [h1.2.2, show c 1 = 97 by omega]; rfl
      | 2, _ => rw [h2.2.2, show c 2 = 99 by omega]; rfl
      | 3, _ => rw [h3.2.2, show c 3 = 107 by omega]; rfl
      | j + 4, hj => exact absurd (show j + 4 < 4 from hj) (by omega)
    | 5, _, hc, e =>
      have e : 1650549611 = (((((0) * 256 + c 0) * 256 + c 1) * 256 + c 2) * 256 + c 3) * 256 + c 4 := e
      have h0 := hc 0 (by omega)
      have h1 := hc 1 (by omega)
      have h2 := hc 2 (by omega)
      have h3 := hc 3 (by omega)
      have h4 := hc 4 (by omega)
      exfalso
      omega
  | 2, _, e =>
    rw [wq_n 2 (by decide)] at e
    match k, hk, hc, e with
    | 0, _, hc, e =>
      have e : 491328005495 = 0 := e
      exfalso
      omega
    | 1, _, hc, e =>
      have e : 491328005495 = (0) * 256 + c 0 := e
      have h0 := hc 0 (by omega)
      exfalso
      omega
    | 2, _, hc, e =>
      have e : 491328005495 = ((0) * 256 + c 0) * 256 + c 1 := e
      have h0 := hc 0 (by omega)
      have h1 := hc 1 (by omega)
      exfalso
      omega
    | 3, _, hc, e =>
      have e : 491328005495 = (((0) * 256 + c 0) * 256 + c 1) * 256 + c 2 := e
      have h0 := hc 0 (by omega)
      have h1 := hc 1 (by omega)
      have h2 := hc 2 (by omega)
      exfalso
      omega
    | 4, _, hc, e =>
      have e : 491328005495 = ((((0) * 256 + c 0) * 256 + c 1) * 256 + c 2) * 256 + c 3 := e
      have h0 := hc 0 (by omega)
      have h1 := hc 1 (by omega)
      have h2 := hc 2 (by omega)
      have h3 := hc 3 (by omega)
      exfalso
      omega
    | 5, _, hc, e =>
      have e : 491328005495 = (((((0) * 256 + c 0) * 256 + c 1) * 256 + c 2) * 256 + c 3) * 256 + c 4 := e
      have h0 := hc 0 (by omega)
      have h1 := hc 1 (by omega)
      have h2 := hc 2 (by omega)
      have h3 := hc 3 (by omega)
      have h4 := hc 4 (by omega)
      refine ⟨rfl, fun j hj => ?_⟩
      match j, hj with
      | 0, _ => rw [h0.2.2, show c 0 = 114 by omega]; rfl
      | 1, _ => rw [h1.2.2, show c 1 = 101 by omega]; rfl
      | 2, _ => rw [h2.2.2, show c 2 = 110 by omega]; rfl
      | 3, _ => rw [h3.2.2, show c 3 = 101 by omega]; rfl
      | 4, _ => rw [h4.2.2, show c 4 = 119 by omega]; rfl
      | j + 5, hj => exact absurd (show j + 5 < 5 from hj) (by omega)
  | 3, _, e =>
    rw [wq_n 3 (by decide)] at e
    match k, hk, hc, e with
    | 0, _, hc, e =>
      have e : 1819243365 = 0 := e
      exfalso
      omega
    | 1, _, hc, e =>
      have e : 1819243365 = (0) * 256 + c 0 := e
      have h0 := hc 0 (by omega)
      exfalso
      omega
    | 2, _, hc, e =>
      have e : 1819243365 = ((0) * 256 + c 0) * 256 + c 1 := e
      have h0 := hc 0 (by omega)
      have h1 := hc 1 (by omega)
      exfalso
      omega
    | 3, _, hc, e =>
      have e : 1819243365 = (((0) * 256 + c 0) * 256 + c 1) * 256 + c 2 := e
      have h0 := hc 0 (by omega)
      have h1 := hc 1 (by omega)
      have h2 := hc 2 (by omega)
      exfalso
      omega
    | 4, _, hc, e =>
      have e : 1819243365 = ((((0) * 256 + c 0) * 256 + c 1) * 256 + c 2) * 256 + c 3 := e
      have h0 := hc 0 (by omega)
      have h1 := hc 1 (by omega)
      have h2 := hc 2 (by omega)
      have h3 := hc 3 (by omega)
      refine ⟨rfl, fun j hj => ?_⟩
      match j, hj with
      | 0, _ => rw [h0.2.2, show c 0 = 108 by omega]; rfl
      | 1, _ => rw [h1.2.2, show c 1 = 111 by omega]; rfl
      | 2, _ => rw [h2.2.2, show c 2 = 115 by omega]; rfl
      | 3, _ => rw [h3.2.2, show c 3 = 101 by omega]; rfl
      | j + 4, hj => exact absurd (show j + 4 < 4 from hj) (by omega)
    | 5, _, hc, e =>
      have e : 1819243365 = (((((0) * 256 + c 0) * 256 + c 1) * 256 + c 2) * 256 + c 3) * 256 + c 4 := e
      have h0 := hc 0 (by omega)
      have h1 := hc 1 (by omega)
      have h2 := hc 2 (by omega)
      have h3 := hc 3 (by omega)
      have h4 := hc 4 (by omega)
      exfalso
      omega
  | 4, _, e =>
    rw [wq_n 4 (by decide)] at e
    match k, hk, hc, e with
    | 0, _, hc, e =>
      have e : 2003399528 = 0 := e
      exfalso
      omega
    | 1, _, hc, e =>
      have e : 2003399528 = (0) * 256 + c 0 := e
      have h0 := hc 0 (by omega)
      exfalso
      omega
    | 2, _, hc, e =>
      have e : 2003399528 = ((0) * 256 + c 0) * 256 + c 1 := e
      have h0 := hc 0 (by omega)
      have h1 := hc 1 (by omega)
      exfalso
      omega
    | 3, _, hc, e =>
      have e : 2003399528 = (((0) * 256 + c 0) * 256 + c 1) * 256 + c 2 := e
      have h0 := hc 0 (by omega)
      have h1 := hc 1 (by omega)
      have h2 := hc 2 (by omega)
      exfalso
      omega
    | 4, _, hc, e =>
      have e : 2003399528 = ((((0) * 256 + c 0) * 256 + c 1) * 256 + c 2) * 256 + c 3 := e
      have h0 := hc 0 (by omega)
      have h1 := hc 1 (by omega)
      have h2 := hc 2 (by omega)
      have h3 := hc 3 (by omega)
      refine ⟨rfl, fun j hj => ?_⟩
      match j, hj with
      | 0, _ => rw [h0.2.2, show c 0 = 119 by omega]; rfl
      | 1, _ => rw [h1.2.2, show c 1 = 105 by omega]; rfl
      | 2, _ => rw [h2.2.2, show c 2 = 115 by omega]; rfl
      | 3, _ => rw [h3.2.2, show c 3 = 104 by omega]; rfl
      | j + 4, hj => exact absurd (show j + 4 < 4 from hj) (by omega)
    | 5, _, hc, e =>
      have e : 2003399528 = (((((0) * 256 + c 0) * 256 + c 1) * 256 + c 2) * 256 + c 3) * 256 + c 4 := e
      have h0 := hc 0 (by omega)
      have h1 := hc 1 (by omega)
      have h2 := hc 2 (by omega)
      have h3 := hc 3 (by omega)
      have h4 := hc 4 (by omega)
      exfalso
      omega
  | 5, _, e =>
    rw [wq_n 5 (by decide)] at e
    match k, hk, hc, e with
    | 0, _, hc, e =>
      have e : 1937203568 = 0 := e
      exfalso
      omega
    | 1, _, hc, e =>
      have e : 1937203568 = (0) * 256 + c 0 := e
      have h0 := hc 0 (by omega)
      exfalso
      omega
    | 2, _, hc, e =>
      have e : 1937203568 = ((0) * 256 + c 0) * 256 + c 1 := e
      have h0 := hc 0 (by omega)
      have h1 := hc 1 (by omega)
      exfalso
      omega
    | 3, _, hc, e =>
      have e : 1937203568 = (((0) * 256 + c 0) * 256 + c 1) * 256 + c 2 := e
      have h0 := hc 0 (by omega)
      have h1 := hc 1 (by omega)
      have h2 := hc 2 (by omega)
      exfalso
      omega
    | 4, _, hc, e =>
      have e : 1937203568 = ((((0) * 256 + c 0) * 256 + c 1) * 256 + c 2) * 256 + c 3 := e
      have h0 := hc 0 (by omega)
      have h1 := hc 1 (by omega)
      have h2 := hc 2 (by omega)
      have h3 := hc 3 (by omega)
      refine ⟨rfl, fun j hj => ?_⟩
      match j, hj with
      | 0, _ => rw [h0.2.2, show c 0 = 115 by omega]; rfl
      | 1, _ => rw [h1.2.2, show c 1 = 119 by omega]; rfl
      | 2, _ => rw [h2.2.2, show c 2 = 97 by omega]; rfl
      | 3, _ => rw [h3.2.2, show c 3 = 112 by omega]; rfl
      | j + 4, hj => exact absurd (show j + 4 < 4 from hj) (by omega)
    | 5, _, hc, e =>
      have e : 1937203568 = (((((0) * 256 + c 0) * 256 + c 1) * 256 + c 2) * 256 + c 3) * 256 + c 4 := e
      have h0 := hc 0 (by omega)
      have h1 := hc 1 (by omega)
      have h2 := hc 2 (by omega)
      have h3 := hc 3 (by omega)
      have h4 := hc 4 (by omega)
      exfalso
      omega
  | 6, _, e =>
    rw [wq_n 6 (by decide)] at e
    match k, hk, hc, e with
    | 0, _, hc, e =>
      have e : 7364985 = 0 := e
      exfalso
      omega
    | 1, _, hc, e =>
      have e : 7364985 = (0) * 256 + c 0 := e
      have h0 := hc 0 (by omega)
      exfalso
      omega
    | 2, _, hc, e =>
      have e : 7364985 = ((0) * 256 + c 0) * 256 + c 1 := e
      have h0 := hc 0 (by omega)
      have h1 := hc 1 (by omega)
      exfalso
      omega
    | 3, _, hc, e =>
      have e : 7364985 = (((0) * 256 + c 0) * 256 + c 1) * 256 + c 2 := e
      have h0 := hc 0 (by omega)
      have h1 := hc 1 (by omega)
      have h2 := hc 2 (by omega)
      refine ⟨rfl, fun j hj => ?_⟩
      match j, hj with
      | 0, _ => rw [h0.2.2, show c 0 = 112 by omega]; rfl
      | 1, _ => rw [h1.2.2, show c 1 = 97 by omega]; rfl
      | 2, _ => rw [h2.2.2, show c 2 = 121 by omega]; rfl
      | j + 3, hj => exact absurd (show j + 3 < 3 from hj) (by omega)
    | 4, _, hc, e =>
      have e : 7364985 = ((((0) * 256 + c 0) * 256 + c 1) * 256 + c 2) * 256 + c 3 := e
      have h0 := hc 0 (by omega)
      have h1 := hc 1 (by omega)
      have h2 := hc 2 (by omega)
      have h3 := hc 3 (by omega)
      exfalso
      omega
    | 5, _, hc, e =>
      have e : 7364985 = (((((0) * 256 + c 0) * 256 + c 1) * 256 + c 2) * 256 + c 3) * 256 + c 4 := e
      have h0 := hc 0 (by omega)
      have h1 := hc 1 (by omega)
      have h2 := hc 2 (by omega)
      have h3 := hc 3 (by omega)
      have h4 := hc 4 (by omega)
      exfalso
      omega
  | 7, _, e =>
    rw [wq_n 7 (by decide)] at e
    match k, hk, hc, e with
    | 0, _, hc, e =>
      have e : 1885434739 = 0 := e
      exfalso
      omega
    | 1, _, hc, e =>
      have e : 1885434739 = (0) * 256 + c 0 := e
      have h0 := hc 0 (by omega)
      exfalso
      omega
    | 2, _, hc, e =>
      have e : 1885434739 = ((0) * 256 + c 0) * 256 + c 1 := e
      have h0 := hc 0 (by omega)
      have h1 := hc 1 (by omega)
      exfalso
      omega
    | 3, _, hc, e =>
      have e : 1885434739 = (((0) * 256 + c 0) * 256 + c 1) * 256 + c 2 := e
      have h0 := hc 0 (by omega)
      have h1 := hc 1 (by omega)
      have h2 := hc 2 (by omega)
      exfalso
      omega
    | 4, _, hc, e =>
      have e : 1885434739 = ((((0) * 256 + c 0) * 256 + c 1) * 256 + c 2) * 256 + c 3 := e
      have h0 := hc 0 (by omega)
      have h1 := hc 1 (by omega)
      have h2 := hc 2 (by omega)
      have h3 := hc 3 (by omega)
      refine ⟨rfl, fun j hj => ?_⟩
      match j, hj with
      | 0, _ => rw [h0.2.2, show c 0 = 112 by omega]; rfl
      | 1, _ => rw [h1.2.2, show c 1 = 97 by omega]; rfl
      | 2, _ => rw [h2.2.2, show c 2 = 115 by omega]; rfl
      | 3, _ => rw [h3.2.2, show c 3 = 115 by omega]; rfl
      | j + 4, hj => exact absurd (show j + 4 < 4 from hj) (by omega)
    | 5, _, hc, e =>
      have e : 1885434739 = (((((0) * 256 + c 0) * 256 + c 1) * 256 + c 2) * 256 + c 3) * 256 + c 4 := e
      have h0 := hc 0 (by omega)
      have h1 := hc 1 (by omega)
      have h2 := hc 2 (by omega)
      have h3 := hc 3 (by omega)
      have h4 := hc 4 (by omega)
      exfalso
      omega
  | q + 8, hq, _ => exact absurd hq (by omega)
theorem w_of {sg : Nat → Int32} {i : Nat} : ∀ q : Nat, q < 8 → (∀ j, j < wlen q → sg (i + j) = wbyt q j) → wq q = pk sg i (wlen q)
  | 0, _, h => by
    show wq 0 = pk sg i 4
    unfold pk
    simp only [pk, h 0 (by decide), h 1 (by decide), h 2 (by decide), h 3 (by decide)]
    decide +kernel
  | 1, _, h => by
    show wq 1 = pk sg i 4
    unfold pk
    simp only [pk, h 0 (by decide), h 1 (by decide), h 2 (by decide), h 3 (by decide)]
    decide +kernel
  | 2, _, h => by
    show wq 2 = pk sg i 5
    unfold pk
    simp only [pk, h 0 (by decide), h 1 (by decide), h 2 (by decide), h 3 (by decide), h 4 (by decide)]
    decide +kernel
  | 3, _, h => by
    show wq 3 = pk sg i 4
    unfold pk
    simp only [pk, h 0 (by decide), h 1 (by decide), h 2 (by decide), h 3 (by decide)]
    decide +kernel
  | 4, _, h => by
    show wq 4 = pk sg i 4
    unfold pk
    simp only [pk, h 0 (by decide), h 1 (by decide), h 2 (by decide), h 3 (by decide)]
    decide +kernel
  | 5, _, h => by
    show wq 5 = pk sg i 4
    unfold pk
    simp only [pk, h 0 (by decide), h 1 (by decide), h 2 (by decide), h 3 (by decide)]
    decide +kernel
  | 6, _, h => by
    show wq 6 = pk sg i 3
    unfold pk
    simp only [pk, h 0 (by decide), h 1 (by decide), h 2 (by decide)]
    decide +kernel
  | 7, _, h => by
    show wq 7 = pk sg i 4
    unfold pk
    simp only [pk, h 0 (by decide), h 1 (by decide), h 2 (by decide), h 3 (by decide)]
    decide +kernel
  | q + 8, hq, _ => absurd hq (by omega)
