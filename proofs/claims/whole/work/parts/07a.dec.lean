/-! pure part: the reference's table read by columns -/
def kpos (c i : Nat) : Nat := match c with
  | 0 => 11 + 6 * i
  | 1 => 12 + 6 * i
  | 2 => 13 + 6 * i
  | 3 => 14 + 6 * i
  | 4 => 15 + 6 * i
  | 5 => 16 + 6 * i
  | 6 => 83 + 8 * i
  | 7 => 84 + 8 * i
  | 8 => 85 + 8 * i
  | 9 => 86 + 8 * i
  | 10 => 87 + 8 * i
  | 11 => 89 + 8 * i
  | 12 => 90 + 8 * i
  | 13 => 4
  | 14 => 5
  | 15 => 3
  | 16 => 10
  | 17 => i
  | 19 => 163 + 2 * i
  | 20 => 183 + i
  | 21 => 164 + 2 * i
  | 23 => 6
  | 24 => 7
  | 25 => 88 + 8 * i
  | 26 => 8
  | _ => 9
def kval (c i : Nat) : Bool := match c with
  | 0 => decide (i < 12)
  | 1 => decide (i < 12)
  | 2 => decide (i < 12)
  | 3 => decide (i < 12)
  | 4 => decide (i < 12)
  | 5 => decide (i < 12)
  | 6 => decide (i < 10)
  | 7 => decide (i < 10)
  | 8 => decide (i < 10)
  | 9 => decide (i < 10)
  | 10 => decide (i < 10)
  | 11 => decide (i < 10)
  | 12 => decide (i < 10)
  | 13 => decide (i = 0)
  | 14 => decide (i = 0)
  | 15 => decide (i = 0)
  | 16 => decide (i = 0)
  | 17 => decide (i < 3)
  | 19 => decide (i < 10)
  | 20 => decide (i < 10)
  | 21 => decide (i < 10)
  | 23 => decide (i = 0)
  | 24 => decide (i = 0)
  | 25 => decide (i < 10)
  | 26 => decide (i = 0)
  | 27 => decide (i = 0)
  | _ => false
/-- the place of a cell, back from its number -/
def kinv (p : Nat) : Nat × Nat :=
  if p < 3 then (17, p) else if p = 3 then (15, 0) else if p = 4 then (13, 0) else if p = 5 then (14, 0) else if p = 6 then (23, 0) else if p = 7 then (24, 0) else if p = 8 then (26, 0) else if p = 9 then (27, 0) else if p = 10 then (16, 0)
  else if p < 83 then ((p - 11) % 6, (p - 11) / 6)
  else if p < 163 then ((match (p - 83) % 8 with | 0 => 6 | 1 => 7 | 2 => 8 | 3 => 9 | 4 => 10 | 5 => 25 | 6 => 11 | _ => 12), (p - 83) / 8)
  else if p < 183 then (if (p - 163) % 2 = 0 then 19 else 21, (p - 163) / 2)
  else (20, p - 183)
theorem kinv_pos : {c i : Nat} → kval c i = true → kinv (kpos c i) = (c, i)
  | 0, i, h => by
    have hi : i < 12 := of_decide_eq_true h
    show kinv (11 + 6 * i) = (0, i)
    have h1 : (11 + 6 * i - 11) % 6 = 0 := by omega
    have h2 : (11 + 6 * i - 11) / 6 = i := by omega
    unfold kinv
    repeat (rw [if_neg (by omega)])
    rw [if_pos (by omega), h1, h2]
  | 1, i, h => by
    have hi : i < 12 := of_decide_eq_true h
    show kinv (12 + 6 * i) = (1, i)
    have h1 : (12 + 6 * i - 11) % 6 = 1 := by omega
    have h2 : (12 + 6 * i - 11) / 6 = i := by omega
    unfold kinv
    repeat (rw [if_neg (by omega)])
    rw [if_pos (by omega), h1, h2]
  | 2, i, h => by
    have hi : i < 12 := of_decide_eq_true h
    show kinv (13 + 6 * i) = (2, i)
    have h1 : (13 + 6 * i - 11) % 6 = 2 := by omega
    have h2 : (13 + 6 * i - 11) / 6 = i := by omega
    unfold kinv
    repeat (rw [if_neg (by omega)])
    rw [if_pos (by omega), h1, h2]
  | 3, i, h => by
    have hi : i < 12 := of_decide_eq_true h
    show kinv (14 + 6 * i) = (3, i)
    have h1 : (14 + 6 * i - 11) % 6 = 3 := by omega
    have h2 : (14 + 6 * i - 11) / 6 = i := by omega
    unfold kinv
    repeat (rw [if_neg (by omega)])
    rw [if_pos (by omega), h1, h2]
  | 4, i, h => by
    have hi : i < 12 := of_decide_eq_true h
    show kinv (15 + 6 * i) = (4, i)
    have h1 : (15 + 6 * i - 11) % 6 = 4 := by omega
    have h2 : (15 + 6 * i - 11) / 6 = i := by omega
    unfold kinv
    repeat (rw [if_neg (by omega)])
    rw [if_pos (by omega), h1, h2]
  | 5, i, h => by
    have hi : i < 12 := of_decide_eq_true h
    show kinv (16 + 6 * i) = (5, i)
    have h1 : (16 + 6 * i - 11) % 6 = 5 := by omega
    have h2 : (16 + 6 * i - 11) / 6 = i := by omega
    unfold kinv
    repeat (rw [if_neg (by omega)])
    rw [if_pos (by omega), h1, h2]
  | 6, i, h => by
    have hi : i < 10 := of_decide_eq_true h
    show kinv (83 + 8 * i) = (6, i)
    have h1 : (83 + 8 * i - 83) % 8 = 0 := by omega
    have h2 : (83 + 8 * i - 83) / 8 = i := by omega
    unfold kinv
    repeat (rw [if_neg (by omega)])
    rw [if_pos (by omega), h1, h2]
    rfl
  | 7, i, h => by
    have hi : i < 10 := of_decide_eq_true h
    show kinv (84 + 8 * i) = (7, i)
    have h1 : (84 + 8 * i - 83) % 8 = 1 := by omega
    have h2 : (84 + 8 * i - 83) / 8 = i := by omega
    unfold kinv
    repeat (rw [if_neg (by omega)])
    rw [if_pos (by omega), h1, h2]
    rfl
  | 8, i, h => by
    have hi : i < 10 := of_decide_eq_true h
    show kinv (85 + 8 * i) = (8, i)
    have h1 : (85 + 8 * i - 83) % 8 = 2 := by omega
    have h2 : (85 + 8 * i - 83) / 8 = i := by omega
    unfold kinv
    repeat (rw [if_neg (by omega)])
    rw [if_pos (by omega), h1, h2]
    rfl
  | 9, i, h => by
    have hi : i < 10 := of_decide_eq_true h
    show kinv (86 + 8 * i) = (9, i)
    have h1 : (86 + 8 * i - 83) % 8 = 3 := by omega
    have h2 : (86 + 8 * i - 83) / 8 = i := by omega
    unfold kinv
    repeat (rw [if_neg (by omega)])
    rw [if_pos (by omega), h1, h2]
    rfl
  | 10, i, h => by
    have hi : i < 10 := of_decide_eq_true h
    show kinv (87 + 8 * i) = (10, i)
    have h1 : (87 + 8 * i - 83) % 8 = 4 := by omega
    have h2 : (87 + 8 * i - 83) / 8 = i := by omega
    unfold kinv
    repeat (rw [if_neg (by omega)])
    rw [if_pos (by omega), h1, h2]
    rfl
  | 11, i, h => by
    have hi : i < 10 := of_decide_eq_true h
    show kinv (89 + 8 * i) = (11, i)
    have h1 : (89 + 8 * i - 83) % 8 = 6 := by omega
    have h2 : (89 + 8 * i - 83) / 8 = i := by omega
    unfold kinv
    repeat (rw [if_neg (by omega)])
    rw [if_pos (by omega), h1, h2]
    rfl
  | 12, i, h => by
    have hi : i < 10 := of_decide_eq_true h
    show kinv (90 + 8 * i) = (12, i)
    have h1 : (90 + 8 * i - 83) % 8 = 7 := by omega
    have h2 : (90 + 8 * i - 83) / 8 = i := by omega
    unfold kinv
    repeat (rw [if_neg (by omega)])
    rw [if_pos (by omega), h1, h2]
    rfl
  | 25, i, h => by
    have hi : i < 10 := of_decide_eq_true h
    show kinv (88 + 8 * i) = (25, i)
    have h1 : (88 + 8 * i - 83) % 8 = 5 := by omega
    have h2 : (88 + 8 * i - 83) / 8 = i := by omega
    unfold kinv
    repeat (rw [if_neg (by omega)])
    rw [if_pos (by omega), h1, h2]
    rfl
  | 13, i, h => by
    have hi : i = 0 := of_decide_eq_true h
    subst hi
    rfl
  | 14, i, h => by
    have hi : i = 0 := of_decide_eq_true h
    subst hi
    rfl
  | 15, i, h => by
    have hi : i = 0 := of_decide_eq_true h
    subst hi
    rfl
  | 16, i, h => by
    have hi : i = 0 := of_decide_eq_true h
    subst hi
    rfl
  | 23, i, h => by
    have hi : i = 0 := of_decide_eq_true h
    subst hi
    rfl
  | 24, i, h => by
    have hi : i = 0 := of_decide_eq_true h
    subst hi
    rfl
  | 26, i, h => by
    have hi : i = 0 := of_decide_eq_true h
    subst hi
    rfl
  | 27, i, h => by
    have hi : i = 0 := of_decide_eq_true h
    subst hi
    rfl
  | 17, i, h => by
    have hi : i < 3 := of_decide_eq_true h
    show kinv i = (17, i)
    unfold kinv
    rw [if_pos hi]
  | 19, i, h => by
    have hi : i < 10 := of_decide_eq_true h
    show kinv (163 + 2 * i) = (19, i)
    have h1 : (163 + 2 * i - 163) % 2 = 0 := by omega
    have h2 : (163 + 2 * i - 163) / 2 = i := by omega
    unfold kinv
    repeat (rw [if_neg (by omega)])
    rw [if_pos (by omega), if_pos h1, h2]
  | 21, i, h => by
    have hi : i < 10 := of_decide_eq_true h
    show kinv (164 + 2 * i) = (21, i)
    have h1 : ¬ (164 + 2 * i - 163) % 2 = 0 := by omega
    have h2 : (164 + 2 * i - 163) / 2 = i := by omega
    unfold kinv
    repeat (rw [if_neg (by omega)])
    rw [if_pos (by omega), if_neg h1, h2]
  | 20, i, h => by
    have hi : i < 10 := of_decide_eq_true h
    show kinv (183 + i) = (20, i)
    unfold kinv
    repeat (rw [if_neg (by omega)])
    rw [show 183 + i - 183 = i by omega]
  | 18, i, h => absurd h Bool.false_ne_true
  | 22, i, h => absurd h Bool.false_ne_true
  | n + 28, i, h => absurd h Bool.false_ne_true
theorem kpos_inj {c i c' i' : Nat} (h : kval c i = true) (h' : kval c' i' = true) (e : kpos c i = kpos c' i') : c = c' ∧ i = i' := by
  have h1 := kinv_pos h
  rw [e, kinv_pos h'] at h1
  exact ⟨(congrArg Prod.fst h1).symm, (congrArg Prod.snd h1).symm⟩
theorem kpos_lt : {c i : Nat} → kval c i = true → kpos c i < 193
  | 0, i, h => by
    have hi : i < 12 := of_decide_eq_true h
    show 11 + 6 * i < 193
    omega
  | 1, i, h => by
    have hi : i < 12 := of_decide_eq_true h
    show 12 + 6 * i < 193
    omega
  | 2, i, h => by
    have hi : i < 12 := of_decide_eq_true h
    show 13 + 6 * i < 193
    omega
  | 3, i, h => by
    have hi : i < 12 := of_decide_eq_true h
    show 14 + 6 * i < 193
    omega
  | 4, i, h => by
    have hi : i < 12 := of_decide_eq_true h
    show 15 + 6 * i < 193
    omega
  | 5, i, h => by
    have hi : i < 12 := of_decide_eq_true h
    show 16 + 6 * i < 193
    omega
  | 6, i, h => by
    have hi : i < 10 := of_decide_eq_true h
    show 83 + 8 * i < 193
    omega
  | 7, i, h => by
    have hi : i < 10 := of_decide_eq_true h
    show 84 + 8 * i < 193
    omega
  | 8, i, h => by
    have hi : i < 10 := of_decide_eq_true h
    show 85 + 8 * i < 193
    omega
  | 9, i, h => by
    have hi : i < 10 := of_decide_eq_true h
    show 86 + 8 * i < 193
    omega
  | 10, i, h => by
    have hi : i < 10 := of_decide_eq_true h
    show 87 + 8 * i < 193
    omega
  | 11, i, h => by
    have hi : i < 10 := of_decide_eq_true h
    show 89 + 8 * i < 193
    omega
  | 12, i, h => by
    have hi : i < 10 := of_decide_eq_true h
    show 90 + 8 * i < 193
    omega
  | 17, i, h => by
    have hi : i < 3 := of_decide_eq_true h
    show i < 193
    omega
  | 19, i, h => by
    have hi : i < 10 := of_decide_eq_true h
    show 163 + 2 * i < 193
    omega
  | 20, i, h => by
    have hi : i < 10 := of_decide_eq_true h
    show 183 + i < 193
    omega
  | 21, i, h => by
    have hi : i < 10 := of_decide_eq_true h
    show 164 + 2 * i < 193
    omega
  | 25, i, h => by
    have hi : i < 10 := of_decide_eq_true h
    show 88 + 8 * i < 193
    omega
  | 13, i, h => by
    have hi : i = 0 := of_decide_eq_true h
    subst hi
    decide
  | 14, i, h => by
    have hi : i = 0 := of_decide_eq_true h
    subst hi
    decide
  | 15, i, h => by
    have hi : i = 0 := of_decide_eq_true h
    subst hi
    decide
  | 16, i, h => by
    have hi : i = 0 := of_decide_eq_true h
    subst hi
    decide
  | 23, i, h => by
    have hi : i = 0 := of_decide_eq_true h
    subst hi
    decide
  | 24, i, h => by
    have hi : i = 0 := of_decide_eq_true h
    subst hi
    decide
  | 26, i, h => by
    have hi : i = 0 := of_decide_eq_true h
    subst hi
    decide
  | 27, i, h => by
    have hi : i = 0 := of_decide_eq_true h
    subst hi
    decide
  | 18, i, h => absurd h Bool.false_ne_true
  | 22, i, h => absurd h Bool.false_ne_true
  | n + 28, i, h => absurd h Bool.false_ne_true
def dec (h : zV2) : zV2 := fun c i => if kval c i = true then h 0 (kpos c i) else 0
theorem dec_at {h : zV2} {c i : Nat} (hv : kval c i = true) : dec h c i = h 0 (kpos c i) := if_pos hv
theorem dec_up {h : zV2} {c i : Nat} (x : Int32) (hv : kval c i = true) : dec (up2 h 0 (kpos c i) x) = up2 (dec h) c i x := by
  funext c' i'
  by_cases hv' : kval c' i' = true
  · rw [dec_at hv']
    by_cases e : kpos c' i' = kpos c i
    · obtain ⟨rfl, rfl⟩ := kpos_inj hv' hv e
      simp [up2]
    · have : ¬ (c' = c ∧ i' = i) := fun q => e (by rw [q.1, q.2])
      simp [up2, e, this, dec_at hv']
  · have : ¬ (c' = c ∧ i' = i) := fun q => hv' (by rw [q.1, q.2]; exact hv)
    simp [dec, hv', up2, this]
theorem dec_other {h : zV2} {c i : Nat} (x : Int32) (hc : c ≠ 0) : dec (up2 h c i x) = dec h := by
  funext c' i'
  simp only [dec, up2_c h i _ x (Ne.symm hc)]
/-! arithmetic of small numbers -/
theorem nI_mul (a b : Nat) : nI a * nI b = nI (a * b) := (Int32.ofNat_mul a b).symm
theorem nI_sub1 (a : Nat) (h : 0 < a) : nI a - 1 = nI (a - 1) := by
  obtain ⟨b, rfl⟩ : ∃ b, a = b + 1 := ⟨a - 1, by omega⟩
  exact nI_pred b
theorem inb_nI {k n : Nat} (h : k < n) (hn : n < 2 ^ 31) : inb (nI k) n = true := by
  simp only [inb, Bool.and_eq_true, decide_eq_true_eq]
  exact ⟨nI_pos' (by omega), by rw [nI_clamp (by omega)]; exact h⟩
theorem lit_nI : (0 : Int32) = nI 0 ∧ (1 : Int32) = nI 1 ∧ (2 : Int32) = nI 2 ∧ (3 : Int32) = nI 3 ∧ (4 : Int32) = nI 4 ∧ (5 : Int32) = nI 5 ∧ (6 : Int32) = nI 6 ∧ (7 : Int32) = nI 7 ∧ (8 : Int32) = nI 8 ∧ (9 : Int32) = nI 9 ∧ (10 : Int32) = nI 10 ∧ (11 : Int32) = nI 11 ∧ (12 : Int32) = nI 12 ∧ (83 : Int32) = nI 83 ∧ (163 : Int32) = nI 163 ∧ (183 : Int32) = nI 183 ∧ (193 : Int32) = nI 193 := by decide +kernel
