/-! the start: where everything lies, what it holds -/
def aB (g : Nat) : Nat := if g = 0 then 1 else if g = 6 then 204 else 36 + 33 * (g - 1)
def aOff (k g i : Nat) : Nat := match k with
  | 0 => aB g
  | 1 => aB g + 1
  | 2 => aB g + 2
  | 3 => aB g + (3 + 3 * i)
  | 4 => aB g + 9
  | 5 => aB g + 10
  | 6 => aB g + (4 + 3 * i)
  | 7 => aB g + (5 + 3 * i)
  | 8 => aB g + (11 + i)
  | 9 => aB g + (23 + i)
  | 10 => 0
  | 11 => 34
  | 12 => 35
  | 13 => 201
  | 14 => 202
  | 15 => 203
  | 16 => 237
  | _ => 238 + i
def aHi (g j : Nat) : Nat × Nat × Nat := if j = 0 then (0, g, 0) else if j = 1 then (1, g, 0) else if j = 2 then (2, g, 0) else if j = 3 then (3, g, 0) else if j = 4 then (6, g, 0) else if j = 5 then (7, g, 0) else if j = 6 then (3, g, 1) else if j = 7 then (6, g, 1) else if j = 8 then (7, g, 1) else if j = 9 then (4, g, 0) else if j = 10 then (5, g, 0) else if j < 23 then (8, g, j - 11) else (9, g, j - 23)
def aInv (n : Nat) : Nat × Nat × Nat := if n = 0 then (10, 0, 0) else if n < 34 then aHi 0 (n - 1) else if n = 34 then (11, 0, 0) else if n = 35 then (12, 0, 0) else if n < 201 then aHi ((n - 36) / 33 + 1) ((n - 36) % 33) else if n = 201 then (13, 0, 0) else if n = 202 then (14, 0, 0) else if n = 203 then (15, 0, 0) else if n < 237 then aHi 6 (n - 204) else if n = 237 then (16, 0, 0) else (17, 0, n - 238)
def zdomB (k g i : Nat) : Bool := match k with
  | 0 => decide (g < 7 ∧ i = 0)
  | 1 => decide (g < 7 ∧ i = 0)
  | 2 => decide (g < 7 ∧ i = 0)
  | 3 => decide (g < 7 ∧ i < 2)
  | 4 => decide (g < 7 ∧ i = 0)
  | 5 => decide (g < 7 ∧ i = 0)
  | 6 => decide (g < 7 ∧ i < 2)
  | 7 => decide (g < 7 ∧ i < 2)
  | 8 => decide (g < 7 ∧ i < 12)
  | 9 => decide (g < 7 ∧ i < 10)
  | 17 => decide (g = 0 ∧ i < 6)
  | k => decide (k < 17 ∧ g = 0 ∧ i = 0)
theorem zdom_le : ∀ {k g i : Nat}, zdom k g i → k < 18 ∧ g < 7 ∧ i < 12 ∧ zdomB k g i = true
  | 0, g, i, h => ⟨by omega, h.1, by have := h.2; omega, decide_eq_true h⟩
  | 1, g, i, h => ⟨by omega, h.1, by have := h.2; omega, decide_eq_true h⟩
  | 2, g, i, h => ⟨by omega, h.1, by have := h.2; omega, decide_eq_true h⟩
  | 3, g, i, h => ⟨by omega, h.1, by have := h.2; omega, decide_eq_true h⟩
  | 4, g, i, h => ⟨by omega, h.1, by have := h.2; omega, decide_eq_true h⟩
  | 5, g, i, h => ⟨by omega, h.1, by have := h.2; omega, decide_eq_true h⟩
  | 6, g, i, h => ⟨by omega, h.1, by have := h.2; omega, decide_eq_true h⟩
  | 7, g, i, h => ⟨by omega, h.1, by have := h.2; omega, decide_eq_true h⟩
  | 8, g, i, h => ⟨by omega, h.1, h.2, decide_eq_true h⟩
  | 9, g, i, h => ⟨by omega, h.1, by have := h.2; omega, decide_eq_true h⟩
  | 10, g, i, h => ⟨by omega, by have := h.2.1; omega, by have := h.2.2; omega, decide_eq_true h⟩
  | 11, g, i, h => ⟨by omega, by have := h.2.1; omega, by have := h.2.2; omega, decide_eq_true h⟩
  | 12, g, i, h => ⟨by omega, by have := h.2.1; omega, by have := h.2.2; omega, decide_eq_true h⟩
  | 13, g, i, h => ⟨by omega, by have := h.2.1; omega, by have := h.2.2; omega, decide_eq_true h⟩
  | 14, g, i, h => ⟨by omega, by have := h.2.1; omega, by have := h.2.2; omega, decide_eq_true h⟩
  | 15, g, i, h => ⟨by omega, by have := h.2.1; omega, by have := h.2.2; omega, decide_eq_true h⟩
  | 16, g, i, h => ⟨by omega, by have := h.2.1; omega, by have := h.2.2; omega, decide_eq_true h⟩
  | 17, g, i, h => ⟨by omega, by have := h.1; omega, by have := h.2; omega, decide_eq_true h⟩
  | k + 18, g, i, h => absurd h.1 (by omega)
theorem aInv_all : ∀ (k : Fin 18) (g : Fin 7) (i : Fin 12), zdomB k g i = true → aInv (aOff k g i) = (k.val, g.val, i.val) ∧ aOff k g i < 244 := by decide +kernel
theorem aInv_at {k g i : Nat} (h : zdom k g i) : aInv (aOff k g i) = (k, g, i) ∧ aOff k g i < 244 := by
  obtain ⟨h1, h2, h3, h4⟩ := zdom_le h
  exact aInv_all ⟨k, h1⟩ ⟨g, h2⟩ ⟨i, h3⟩ h4
def gG (S : Nat) (D : va_G) (cs : Nat → ClassId) (E : Nat → Nat) (Z : List (String × String × String × Value)) (O : List (String × Nat)) (F : List (String × String × String × Value × Nat)) (T : List (FieldType × Nat × Nat × (Nat → Value))) : zG :=
  (D, fun k g i => S + aOff k g i, cs, E, Z, O, F, T)
theorem gG_zI {S : Nat} {D : va_G} {cs : Nat → ClassId} {E : Nat → Nat} {Z : List (String × String × String × Value)} {O : List (String × Nat)} {F : List (String × String × String × Value × Nat)} {T : List (FieldType × Nat × Nat × (Nat → Value))} : zI (gG S D cs E Z O F T) (nA S) :=
  ⟨fun k g i _ => Nat.le_add_right S _, fun k g i k' g' i' h h' e => by
    have e2 : aOff k g i = aOff k' g' i' := Nat.add_left_cancel (show S + aOff k g i = S + aOff k' g' i' from e)
    have e3 := (aInv_at h).1
    rw [e2, (aInv_at h').1] at e3
    exact ⟨(congrArg Prod.fst e3).symm, (congrArg (fun x => x.2.1) e3).symm, (congrArg (fun x => x.2.2) e3).symm⟩⟩
def vh (c i : Nat) : Int32 := if c = 2 ∨ c = 4 ∨ c = 6 then -1 else if c = 3 then 1 else if c = 17 then st3 i else 0
def V0 : zV3 := fun g c i => if g < 7 then vh c i else if g = 8 ∧ c = 0 then st3 i else 0
theorem V0_h {g : Nat} (h : g < 7) : V0 g = vh := by
  funext c i
  exact if_pos h
def moF (b : Nat) (cs : Nat → ClassId) : Nat → va_E := fL [.inr (8, [.ref (b + 1), .ref (b + 2), .ref (b + 3), .ref (b + 4), .int 0, .ref (b + 5), .int 0, .int 0, .int 0, .int 0, .int 0, .ref (b + 6)]), .inl (cs 0, 193, .inl st3), .inl (cs 0, 193, .inl (fun _ => 0)), .inl (cs 0, 193, .inl (fun _ => 0)), .inl (cs 0, 772, .inl (fun _ => 0)), .inl (cs 0, 80, .inl (fun _ => 0)), .inl (cs 0, 2, .inl (fun _ => 0))]
def lcR (S : Nat) : List Value := [.ref (S + 1), .ref (S + 34), .ref (S + 201), .ref (S + 203)]
def allF (S : Nat) (cs : Nat → ClassId) : Nat → va_E := fG 237 (lcF S cs (lcR S)) (moF (S + 237) cs)
theorem va_at_q {D : va_G} {a N : Nat} {cA : ClassId} {f g : Nat → Option Nat} {H : Heap} (h : va_at D vwCl (a, .inl (cA, N, zq f)) H) (e : ∀ j, j < N → f j = g j) : va_at D vwCl (a, .inl (cA, N, zq g)) H := by
  have h1 : H[a]? = some (arrV cA N (fun j => va_rf (f j))) := h
  show H[a]? = some (arrV cA N (fun j => va_rf (g j)))
  rw [h1]
  unfold arrV
  congr 2
  congr 1
  funext j
  exact congrArg va_rf (e j.val j.isLt)
theorem allF_h {S : Nat} {cs : Nat → ClassId} {g j : Nat} (hg : g < 7) (hj : j < 33) : allF S cs (aB g + j) = hFF (S + aB g) cs j := by
  have t : aB g + j < 237 := by unfold aB; split; omega; split <;> omega
  unfold allF fG
  rw [if_pos t]
  unfold lcF aB
  by_cases e0 : g = 0
  · rw [if_pos e0, if_neg (by omega), if_pos (by omega), show 1 + j - 1 = j by omega]
  · rw [if_neg e0]
    by_cases e6 : g = 6
    · rw [if_pos e6, if_neg (by omega), if_neg (by omega), if_neg (by omega), if_neg (by omega)]
      unfold reF
      rw [if_neg (by omega), show 204 + j - 203 - 1 = j by omega]
    · rw [if_neg e6, if_neg (by omega), if_neg (by omega), if_pos (by omega), show 36 + 33 * (g - 1) + j - 34 = 2 + 33 * (g - 1) + j by omega, hiF_at hj, show S + 34 + (2 + 33 * (g - 1)) = S + (36 + 33 * (g - 1)) by omega]
theorem allF_l {S : Nat} {cs : Nat → ClassId} {j : Nat} (hj : j < 237) : allF S cs j = lcF S cs (lcR S) j := if_pos hj
theorem allF_m {S : Nat} {cs : Nat → ClassId} (j : Nat) : allF S cs (237 + j) = moF (S + 237) cs j := by
  unfold allF fG
  rw [if_neg (by omega), show 237 + j - 237 = j by omega]
set_option maxHeartbeats 4000000 in
set_option maxRecDepth 100000 in
theorem zM_0 (S : Nat) (D : va_G) (cs : Nat → ClassId) (E : Nat → Nat) (Z : List (String × String × String × Value)) (O : List (String × Nat)) (F : List (String × String × String × Value × Nat)) (T : List (FieldType × Nat × Nat × (Nat → Value))) {H : Heap} (hW : wW D S 244 (allF S cs) H) : zM (gG S D cs E Z O F T) V0 H := by
  intro k g i hd
  have h0 := hW.2 (aOff k g i) (aInv_at hd).2
  show va_at D vwCl (S + aOff k g i, zcell (gG S D cs E Z O F T) V0 k g i) H
  match k, hd, h0 with
  | 0, hd, h0 =>
    obtain ⟨hg, rfl⟩ := hd
    replace h0 : va_at D vwCl (S + aB g, allF S cs (aB g + 0)) H := h0
    rw [allF_h hg (by omega)] at h0
    show va_at D vwCl (S + aB g, .inr (0, [.ref (S + (aB g + 1)), .ref (S + (aB g + 2)), .ref (S + (aB g + (3 + 3 * 0))), .ref (S + (aB g + (3 + 3 * 1))), .ref (S + (aB g + 9)), .ref (S + (aB g + 10)), .int (V0 g 13 0), .int (V0 g 14 0), .int (V0 g 15 0), .int (V0 g 16 0)])) H
    rw [V0_h hg, ← Nat.add_assoc, ← Nat.add_assoc, ← Nat.add_assoc, ← Nat.add_assoc, ← Nat.add_assoc, ← Nat.add_assoc]
    exact h0
  | 1, hd, h0 =>
    obtain ⟨hg, rfl⟩ := hd
    replace h0 : va_at D vwCl (S + (aB g + 1), allF S cs (aB g + 1)) H := h0
    rw [allF_h hg (by omega)] at h0
    refine va_at_q (f := nFP (S + aB g + 11) 12) h0 (fun j hj => ?_)
    show (if j < 12 then some (S + aB g + 11 + j) else none) = some (S + (aB g + (11 + j)))
    rw [if_pos hj, show S + aB g + 11 + j = S + (aB g + (11 + j)) by omega]
  | 2, hd, h0 =>
    obtain ⟨hg, rfl⟩ := hd
    replace h0 : va_at D vwCl (S + (aB g + 2), allF S cs (aB g + 2)) H := h0
    rw [allF_h hg (by omega)] at h0
    refine va_at_q (f := nFP (S + aB g + 23) 10) h0 (fun j hj => ?_)
    show (if j < 10 then some (S + aB g + 23 + j) else none) = some (S + (aB g + (23 + j)))
    rw [if_pos hj, show S + aB g + 23 + j = S + (aB g + (23 + j)) by omega]
  | 3, hd, h0 =>
    obtain ⟨hg, hi⟩ := hd
    replace h0 : va_at D vwCl (S + (aB g + (3 + 3 * i)), allF S cs (aB g + (3 + 3 * i))) H := h0
    rw [allF_h hg (by omega)] at h0
    show va_at D vwCl (S + (aB g + (3 + 3 * i)), .inr (2, [.ref (S + (aB g + (4 + 3 * i))), .ref (S + (aB g + (5 + 3 * i))), .int (V0 g (23 + i) 0)])) H
    rw [V0_h hg, ← Nat.add_assoc S (aB g) (4 + 3 * i), ← Nat.add_assoc S (aB g) (5 + 3 * i)]
    match i, hi, h0 with
    | 0, _, h0 => exact h0
    | 1, _, h0 => exact h0
  | 4, hd, h0 =>
    obtain ⟨hg, rfl⟩ := hd
    replace h0 : va_at D vwCl (S + (aB g + 9), allF S cs (aB g + 9)) H := h0
    rw [allF_h hg (by omega)] at h0
    show va_at D vwCl (S + (aB g + 9), .inl (cs 0, 3, .inl (V0 g 17))) H
    rw [V0_h hg]
    exact h0
  | 5, hd, h0 =>
    obtain ⟨hg, rfl⟩ := hd
    replace h0 : va_at D vwCl (S + (aB g + 10), allF S cs (aB g + 10)) H := h0
    rw [allF_h hg (by omega)] at h0
    show va_at D vwCl (S + (aB g + 10), .inl (cs 0, 3, .inl (V0 g 18))) H
    rw [V0_h hg]
    exact h0
  | 6, hd, h0 =>
    obtain ⟨hg, hi⟩ := hd
    replace h0 : va_at D vwCl (S + (aB g + (4 + 3 * i)), allF S cs (aB g + (4 + 3 * i))) H := h0
    rw [allF_h hg (by omega)] at h0
    show va_at D vwCl (S + (aB g + (4 + 3 * i)), .inl (cs 0, 10, .inl (V0 g (19 + i)))) H
    rw [V0_h hg]
    match i, hi, h0 with
    | 0, _, h0 => exact h0
    | 1, _, h0 => exact h0
  | 7, hd, h0 =>
    obtain ⟨hg, hi⟩ := hd
    replace h0 : va_at D vwCl (S + (aB g + (5 + 3 * i)), allF S cs (aB g + (5 + 3 * i))) H := h0
    rw [allF_h hg (by omega)] at h0
    show va_at D vwCl (S + (aB g + (5 + 3 * i)), .inl (cs 0, 10, .inl (V0 g (21 + i)))) H
    rw [V0_h hg]
    match i, hi, h0 with
    | 0, _, h0 => exact h0
    | 1, _, h0 => exact h0
  | 8, hd, h0 =>
    obtain ⟨hg, hi⟩ := hd
    replace h0 : va_at D vwCl (S + (aB g + (11 + i)), allF S cs (aB g + (11 + i))) H := h0
    rw [allF_h hg (by omega)] at h0
    show va_at D vwCl (S + (aB g + (11 + i)), .inr (3, [.int (nI i), .int (V0 g 0 i), .int (V0 g 1 i), .int (V0 g 2 i), .int (V0 g 3 i), .int (V0 g 4 i), .int (V0 g 5 i)])) H
    rw [V0_h hg]
    unfold hFF hF at h0
    rw [if_neg (by omega), if_pos (by omega), show 11 + i - 11 = i by omega] at h0
    exact h0
  | 9, hd, h0 =>
    obtain ⟨hg, hi⟩ := hd
    replace h0 : va_at D vwCl (S + (aB g + (23 + i)), allF S cs (aB g + (23 + i))) H := h0
    rw [allF_h hg (by omega)] at h0
    show va_at D vwCl (S + (aB g + (23 + i)), .inr (4, [.int (nI i), .int (V0 g 6 i), .int (V0 g 7 i), .int (V0 g 8 i), .int (V0 g 9 i), .int (V0 g 10 i), .int (V0 g 11 i), .int (V0 g 12 i)])) H
    rw [V0_h hg]
    unfold hFF hF at h0
    rw [if_neg (by omega), if_neg (by omega), show 23 + i - 23 = i by omega] at h0
    exact h0
  | 10, hd, h0 =>
    obtain ⟨_, rfl, rfl⟩ := hd
    exact h0
  | 11, hd, h0 =>
    obtain ⟨_, rfl, rfl⟩ := hd
    exact h0
  | 12, hd, h0 =>
    obtain ⟨_, rfl, rfl⟩ := hd
    replace h0 : va_at D vwCl (S + 35, .inl (cs 4, 5, zq (nFH (S + 34) 5))) H := h0
    refine va_at_q h0 (fun j hj => ?_)
    show (if j < 5 then some (S + 34 + (2 + 33 * j)) else none) = some (S + aB (j + 1))
    unfold aB
    rw [if_pos hj, if_neg (by omega), if_neg (by omega), show j + 1 - 1 = j by omega, show S + 34 + (2 + 33 * j) = S + (36 + 33 * j) by omega]
  | 13, hd, h0 =>
    obtain ⟨_, rfl, rfl⟩ := hd
    exact h0
  | 14, hd, h0 =>
    obtain ⟨_, rfl, rfl⟩ := hd
    exact h0
  | 15, hd, h0 =>
    obtain ⟨_, rfl, rfl⟩ := hd
    exact h0
  | 16, hd, h0 =>
    obtain ⟨_, rfl, rfl⟩ := hd
    exact h0
  | 17, hd, h0 =>
    obtain ⟨rfl, hi⟩ := hd
    match i, hi, h0 with
    | 0, _, h0 => exact h0
    | 1, _, h0 => exact h0
    | 2, _, h0 => exact h0
    | 3, _, h0 => exact h0
    | 4, _, h0 => exact h0
    | 5, _, h0 => exact h0
  | k + 18, hd, _ => exact absurd hd.1 (by omega)
