theorem ze_0 (G : zG) (V : zV3) (g i : Nat) (h : zV2) : zcell G (upG V g h) 0 g 0 = .inr (0, [.ref (gA G 1 g 0), .ref (gA G 2 g 0), .ref (gA G 3 g 0), .ref (gA G 3 g 1), .ref (gA G 4 g 0), .ref (gA G 5 g 0), .int (h 13 0), .int (h 14 0), .int (h 15 0), .int (h 16 0)]) := by simp only [zcell, upG_self]
theorem zd_0 (G : zG) (V : zV3) (g i : Nat) : zcell G V 0 g 0 = .inr (0, [.ref (gA G 1 g 0), .ref (gA G 2 g 0), .ref (gA G 3 g 0), .ref (gA G 3 g 1), .ref (gA G 4 g 0), .ref (gA G 5 g 0), .int (V g 13 0), .int (V g 14 0), .int (V g 15 0), .int (V g 16 0)]) := rfl
theorem ze_3 (G : zG) (V : zV3) (g i : Nat) (h : zV2) : zcell G (upG V g h) 3 g i = .inr (2, [.ref (gA G 6 g i), .ref (gA G 7 g i), .int (h (23 + i) 0)]) := by simp only [zcell, upG_self]
theorem zd_3 (G : zG) (V : zV3) (g i : Nat) : zcell G V 3 g i = .inr (2, [.ref (gA G 6 g i), .ref (gA G 7 g i), .int (V g (23 + i) 0)]) := rfl
theorem ze_8 (G : zG) (V : zV3) (g i : Nat) (h : zV2) : zcell G (upG V g h) 8 g i = .inr (3, [.int (nI i), .int (h 0 i), .int (h 1 i), .int (h 2 i), .int (h 3 i), .int (h 4 i), .int (h 5 i)]) := by simp only [zcell, upG_self]
theorem zd_8 (G : zG) (V : zV3) (g i : Nat) : zcell G V 8 g i = .inr (3, [.int (nI i), .int (V g 0 i), .int (V g 1 i), .int (V g 2 i), .int (V g 3 i), .int (V g 4 i), .int (V g 5 i)]) := rfl
theorem ze_9 (G : zG) (V : zV3) (g i : Nat) (h : zV2) : zcell G (upG V g h) 9 g i = .inr (4, [.int (nI i), .int (h 6 i), .int (h 7 i), .int (h 8 i), .int (h 9 i), .int (h 10 i), .int (h 11 i), .int (h 12 i)]) := by simp only [zcell, upG_self]
theorem zd_9 (G : zG) (V : zV3) (g i : Nat) : zcell G V 9 g i = .inr (4, [.int (nI i), .int (V g 6 i), .int (V g 7 i), .int (V g 8 i), .int (V g 9 i), .int (V g 10 i), .int (V g 11 i), .int (V g 12 i)]) := rfl
theorem ze_11 (G : zG) (V : zV3) (g i : Nat) (h : zV2) : zcell G (upG V 7 h) 11 0 0 = .inr (1, [.ref (gA G 12 0 0), .int (h 0 0), .int (h 1 0)]) := by simp only [zcell, upG_self]
theorem zd_11 (G : zG) (V : zV3) (g i : Nat) : zcell G V 11 0 0 = .inr (1, [.ref (gA G 12 0 0), .int (V 7 0 0), .int (V 7 1 0)]) := rfl
theorem ze_13 (G : zG) (V : zV3) (g i : Nat) (h : zV2) : zcell G (upG V 7 h) 13 0 0 = .inr (6, [.ref (gA G 14 0 0), .int (h 3 0), zverb G (h 4 0), .int (h 5 0), .int (h 6 0), .int (h 7 0)]) := by simp only [zcell, upG_self]
theorem zd_13 (G : zG) (V : zV3) (g i : Nat) : zcell G V 13 0 0 = .inr (6, [.ref (gA G 14 0 0), .int (V 7 3 0), zverb G (V 7 4 0), .int (V 7 5 0), .int (V 7 6 0), .int (V 7 7 0)]) := rfl
theorem ze_15 (G : zG) (V : zV3) (g i : Nat) (h : zV2) : zcell G (upG V 7 h) 15 0 0 = .inr (5, [.ref (gA G 0 6 0), .int (h 8 0), .int (h 9 0), .int (h 10 0), .int (h 11 0)]) := by simp only [zcell, upG_self]
theorem zd_15 (G : zG) (V : zV3) (g i : Nat) : zcell G V 15 0 0 = .inr (5, [.ref (gA G 0 6 0), .int (V 7 8 0), .int (V 7 9 0), .int (V 7 10 0), .int (V 7 11 0)]) := rfl
theorem ze_16 (G : zG) (V : zV3) (g i : Nat) (h : zV2) : zcell G (upG V 8 h) 16 0 0 = .inr (8, [.ref (gA G 17 0 0), .ref (gA G 17 0 1), .ref (gA G 17 0 2), .ref (gA G 17 0 3), .int (h 6 0), .ref (gA G 17 0 4), .int (h 7 0), .int (h 8 0), .int (h 9 0), .int (h 10 0), .int (h 11 0), .ref (gA G 17 0 5)]) := by simp only [zcell, upG_self]
theorem zd_16 (G : zG) (V : zV3) (g i : Nat) : zcell G V 16 0 0 = .inr (8, [.ref (gA G 17 0 0), .ref (gA G 17 0 1), .ref (gA G 17 0 2), .ref (gA G 17 0 3), .int (V 8 6 0), .ref (gA G 17 0 4), .int (V 8 7 0), .int (V 8 8 0), .int (V 8 9 0), .int (V 8 10 0), .int (V 8 11 0), .ref (gA G 17 0 5)]) := rfl
theorem ze_4 (G : zG) (V : zV3) (g i : Nat) (h : zV2) : zcell G (upG V g h) 4 g 0 = .inl (gC G 0, 3, .inl (h 17)) := by simp only [zcell, upG_self]
theorem zd_4 (G : zG) (V : zV3) (g i : Nat) : zcell G V 4 g 0 = .inl (gC G 0, 3, .inl (V g 17)) := rfl
theorem ze_5 (G : zG) (V : zV3) (g i : Nat) (h : zV2) : zcell G (upG V g h) 5 g 0 = .inl (gC G 0, 3, .inl (h 18)) := by simp only [zcell, upG_self]
theorem zd_5 (G : zG) (V : zV3) (g i : Nat) : zcell G V 5 g 0 = .inl (gC G 0, 3, .inl (V g 18)) := rfl
theorem ze_6 (G : zG) (V : zV3) (g i : Nat) (h : zV2) : zcell G (upG V g h) 6 g i = .inl (gC G 0, 10, .inl (h (19 + i))) := by simp only [zcell, upG_self]
theorem zd_6 (G : zG) (V : zV3) (g i : Nat) : zcell G V 6 g i = .inl (gC G 0, 10, .inl (V g (19 + i))) := rfl
theorem ze_7 (G : zG) (V : zV3) (g i : Nat) (h : zV2) : zcell G (upG V g h) 7 g i = .inl (gC G 0, 10, .inl (h (21 + i))) := by simp only [zcell, upG_self]
theorem zd_7 (G : zG) (V : zV3) (g i : Nat) : zcell G V 7 g i = .inl (gC G 0, 10, .inl (V g (21 + i))) := rfl
theorem ze_14 (G : zG) (V : zV3) (g i : Nat) (h : zV2) : zcell G (upG V 7 h) 14 0 0 = .inl (gC G 1, 80, .inl (h 2)) := by simp only [zcell, upG_self]
theorem zd_14 (G : zG) (V : zV3) (g i : Nat) : zcell G V 14 0 0 = .inl (gC G 1, 80, .inl (V 7 2)) := rfl
theorem zd_1 (G : zG) (V : zV3) (g i : Nat) : zcell G V 1 g 0 = .inl (gC G 2, 12, zq (fun j => some (gA G 8 g j))) := rfl
theorem zd_2 (G : zG) (V : zV3) (g i : Nat) : zcell G V 2 g 0 = .inl (gC G 3, 10, zq (fun j => some (gA G 9 g j))) := rfl
theorem zd_12 (G : zG) (V : zV3) : zcell G V 12 0 0 = .inl (gC G 4, 5, zq (fun j => some (gA G 0 (j + 1) 0))) := rfl
theorem zd_10 (G : zG) (V : zV3) : zcell G V 10 0 0 = .inr (7, [.ref (gA G 0 0 0), .ref (gA G 11 0 0), .ref (gA G 13 0 0), .ref (gA G 15 0 0)]) := rfl
theorem ze_17_0 (G : zG) (V : zV3) (h : zV2) : zcell G (upG V 8 h) 17 0 0 = .inl (gC G 0, 193, .inl (h 0)) := by simp only [zcell, upG_self, zlen]
theorem zd_17_0 (G : zG) (V : zV3) : zcell G V 17 0 0 = .inl (gC G 0, 193, .inl (V 8 0)) := rfl
theorem ze_17_1 (G : zG) (V : zV3) (h : zV2) : zcell G (upG V 8 h) 17 0 1 = .inl (gC G 0, 193, .inl (h 1)) := by simp only [zcell, upG_self, zlen]
theorem zd_17_1 (G : zG) (V : zV3) : zcell G V 17 0 1 = .inl (gC G 0, 193, .inl (V 8 1)) := rfl
theorem ze_17_2 (G : zG) (V : zV3) (h : zV2) : zcell G (upG V 8 h) 17 0 2 = .inl (gC G 0, 193, .inl (h 2)) := by simp only [zcell, upG_self, zlen]
theorem zd_17_2 (G : zG) (V : zV3) : zcell G V 17 0 2 = .inl (gC G 0, 193, .inl (V 8 2)) := rfl
theorem ze_17_3 (G : zG) (V : zV3) (h : zV2) : zcell G (upG V 8 h) 17 0 3 = .inl (gC G 0, 772, .inl (h 3)) := by simp only [zcell, upG_self, zlen]
theorem zd_17_3 (G : zG) (V : zV3) : zcell G V 17 0 3 = .inl (gC G 0, 772, .inl (V 8 3)) := rfl
theorem ze_17_4 (G : zG) (V : zV3) (h : zV2) : zcell G (upG V 8 h) 17 0 4 = .inl (gC G 0, 80, .inl (h 4)) := by simp only [zcell, upG_self, zlen]
theorem zd_17_4 (G : zG) (V : zV3) : zcell G V 17 0 4 = .inl (gC G 0, 80, .inl (V 8 4)) := rfl
theorem ze_17_5 (G : zG) (V : zV3) (h : zV2) : zcell G (upG V 8 h) 17 0 5 = .inl (gC G 0, 2, .inl (h 5)) := by simp only [zcell, upG_self, zlen]
theorem zd_17_5 (G : zG) (V : zV3) : zcell G V 17 0 5 = .inl (gC G 0, 2, .inl (V 8 5)) := rfl
theorem zn_8_0 (G : zG) (V : zV3) (g : Nat) (hg : g < 7) (h : zV2) (i : Nat) (x : Int32) : ∀ k' g' i', zdom k' g' i' → zcell G (upG V g (up2 h 0 i x)) k' g' i' = if k' = 8 ∧ g' = g ∧ i' = i then .inr (3, [.int (nI i), .int x, .int (h 1 i), .int (h 2 i), .int (h 3 i), .int (h 4 i), .int (h 5 i)]) else zcell G (upG V g h) k' g' i' := by
  intro k' g' i' hd
  match k', hd with
  | 0, hd => 
    by_cases e : g' = g
    · subst e
      simp [zcell, upG_self, up2, funext_iff]
    · simp [zcell, upG_ne _ _ e, e]
  | 1, hd => 
    by_cases e : g' = g
    · subst e
      simp [zcell, upG_self, up2, funext_iff]
    · simp [zcell, upG_ne _ _ e, e]
  | 2, hd => 
    by_cases e : g' = g
    · subst e
      simp [zcell, upG_self, up2, funext_iff]
    · simp [zcell, upG_ne _ _ e, e]
  | 3, hd => 
    by_cases e : g' = g
    · subst e
      have hw2 := hd.2; simp [zcell, upG_self, up2, funext_iff] <;> omega
    · simp [zcell, upG_ne _ _ e, e]
  | 4, hd => 
    by_cases e : g' = g
    · subst e
      simp [zcell, upG_self, up2, funext_iff]
    · simp [zcell, upG_ne _ _ e, e]
  | 5, hd => 
    by_cases e : g' = g
    · subst e
      simp [zcell, upG_self, up2, funext_iff]
    · simp [zcell, upG_ne _ _ e, e]
  | 6, hd => 
    by_cases e : g' = g
    · subst e
      have hw2 := hd.2; simp [zcell, upG_self, up2, funext_iff] <;> omega
    · simp [zcell, upG_ne _ _ e, e]
  | 7, hd => 
    by_cases e : g' = g
    · subst e
      have hw2 := hd.2; simp [zcell, upG_self, up2, funext_iff] <;> omega
    · simp [zcell, upG_ne _ _ e, e]
  | 8, hd => 
    by_cases e : g' = g
    · subst e
      by_cases e2 : i' = i
      · subst e2; simp [zcell, upG_self, up2, upd, funext_iff]
      · simp [zcell, upG_self, up2, e2, funext_iff]
    · simp [zcell, upG_ne _ _ e, e]
  | 9, hd => 
    by_cases e : g' = g
    · subst e
      simp [zcell, upG_self, up2, funext_iff]
    · simp [zcell, upG_ne _ _ e, e]
  | 10, hd => 
    have e : 7 ≠ g := by omega
    simp [zcell, upG_ne _ _ e]
  | 11, hd => 
    have e : 7 ≠ g := by omega
    simp [zcell, upG_ne _ _ e]
  | 12, hd => 
    have e : 7 ≠ g := by omega
    simp [zcell, upG_ne _ _ e]
  | 13, hd => 
    have e : 7 ≠ g := by omega
    simp [zcell, upG_ne _ _ e]
  | 14, hd => 
    have e : 7 ≠ g := by omega
    simp [zcell, upG_ne _ _ e]
  | 15, hd => 
    have e : 7 ≠ g := by omega
    simp [zcell, upG_ne _ _ e]
  | 16, hd => 
    have e : 8 ≠ g := by omega
    simp [zcell, upG_ne _ _ e]
  | 17, hd => 
    have e : 8 ≠ g := by omega
    simp [zcell, upG_ne _ _ e]
  | n + 18, hd => exact absurd (show n + 18 < 17 ∧ g' = 0 ∧ i' = 0 from hd).1 (by omega)
theorem zm_8_0 (G : zG) (V : zV3) (g : Nat) (hg : g < 7) (i : Nat) (x : Int32) : ∀ k' g' i', zdom k' g' i' → zcell G (upG V g (up2 (V g) 0 i x)) k' g' i' = if k' = 8 ∧ g' = g ∧ i' = i then .inr (3, [.int (nI i), .int x, .int (V g 1 i), .int (V g 2 i), .int (V g 3 i), .int (V g 4 i), .int (V g 5 i)]) else zcell G V k' g' i' := by
  have h9 := zn_8_0 G V g hg (V g) i x
  rwa [upG_id] at h9
theorem zn_8_1 (G : zG) (V : zV3) (g : Nat) (hg : g < 7) (h : zV2) (i : Nat) (x : Int32) : ∀ k' g' i', zdom k' g' i' → zcell G (upG V g (up2 h 1 i x)) k' g' i' = if k' = 8 ∧ g' = g ∧ i' = i then .inr (3, [.int (nI i), .int (h 0 i), .int x, .int (h 2 i), .int (h 3 i), .int (h 4 i), .int (h 5 i)]) else zcell G (upG V g h) k' g' i' := by
  intro k' g' i' hd
  match k', hd with
  | 0, hd => 
    by_cases e : g' = g
    · subst e
      simp [zcell, upG_self, up2, funext_iff]
    · simp [zcell, upG_ne _ _ e, e]
  | 1, hd => 
    by_cases e : g' = g
    · subst e
      simp [zcell, upG_self, up2, funext_iff]
    · simp [zcell, upG_ne _ _ e, e]
  | 2, hd => 
    by_cases e : g' = g
    · subst e
      simp [zcell, upG_self, up2, funext_iff]
    · simp [zcell, upG_ne _ _ e, e]
  | 3, hd => 
    by_cases e : g' = g
    · subst e
      have hw2 := hd.2; simp [zcell, upG_self, up2, funext_iff] <;> omega
    · simp [zcell, upG_ne _ _ e, e]
  | 4, hd => 
    by_cases e : g' = g
    · subst e
      simp [zcell, upG_self, up2, funext_iff]
    · simp [zcell, upG_ne _ _ e, e]
  | 5, hd => 
    by_cases e : g' = g
    · subst e
      simp [zcell, upG_self, up2, funext_iff]
    · simp [zcell, upG_ne _ _ e, e]
  | 6, hd => 
    by_cases e : g' = g
    · subst e
      have hw2 := hd.2; simp [zcell, upG_self, up2, funext_iff] <;> omega
    · simp [zcell, upG_ne _ _ e, e]
  | 7, hd => 
    by_cases e : g' = g
    · subst e
      have hw2 := hd.2; simp [zcell, upG_self, up2, funext_iff] <;> omega
    · simp [zcell, upG_ne _ _ e, e]
  | 8, hd => 
    by_cases e : g' = g
    · subst e
      by_cases e2 : i' = i
      · subst e2; simp [zcell, upG_self, up2, upd, funext_iff]
      · simp [zcell, upG_self, up2, e2, funext_iff]
    · simp [zcell, upG_ne _ _ e, e]
  | 9, hd => 
    by_cases e : g' = g
    · subst e
      simp [zcell, upG_self, up2, funext_iff]
    · simp [zcell, upG_ne _ _ e, e]
  | 10, hd => 
    have e : 7 ≠ g := by omega
    simp [zcell, upG_ne _ _ e]
  | 11, hd => 
    have e : 7 ≠ g := by omega
    simp [zcell, upG_ne _ _ e]
  | 12, hd => 
    have e : 7 ≠ g := by omega
    simp [zcell, upG_ne _ _ e]
  | 13, hd => 
    have e : 7 ≠ g := by omega
    simp [zcell, upG_ne _ _ e]
  | 14, hd => 
    have e : 7 ≠ g := by omega
    simp [zcell, upG_ne _ _ e]
  | 15, hd => 
    have e : 7 ≠ g := by omega
    simp [zcell, upG_ne _ _ e]
  | 16, hd => 
    have e : 8 ≠ g := by omega
    simp [zcell, upG_ne _ _ e]
  | 17, hd => 
    have e : 8 ≠ g := by omega
    simp [zcell, upG_ne _ _ e]
  | n + 18, hd => exact absurd (show n + 18 < 17 ∧ g' = 0 ∧ i' = 0 from hd).1 (by omega)
theorem zm_8_1 (G : zG) (V : zV3) (g : Nat) (hg : g < 7) (i : Nat) (x : Int32) : ∀ k' g' i', zdom k' g' i' → zcell G (upG V g (up2 (V g) 1 i x)) k' g' i' = if k' = 8 ∧ g' = g ∧ i' = i then .inr (3, [.int (nI i), .int (V g 0 i), .int x, .int (V g 2 i), .int (V g 3 i), .int (V g 4 i), .int (V g 5 i)]) else zcell G V k' g' i' := by
  have h9 := zn_8_1 G V g hg (V g) i x
  rwa [upG_id] at h9
theorem zn_8_2 (G : zG) (V : zV3) (g : Nat) (hg : g < 7) (h : zV2) (i : Nat) (x : Int32) : ∀ k' g' i', zdom k' g' i' → zcell G (upG V g (up2 h 2 i x)) k' g' i' = if k' = 8 ∧ g' = g ∧ i' = i then .inr (3, [.int (nI i), .int (h 0 i), .int (h 1 i), .int x, .int (h 3 i), .int (h 4 i), .int (h 5 i)]) else zcell G (upG V g h) k' g' i' := by
  intro k' g' i' hd
  match k', hd with
  | 0, hd => 
    by_cases e : g' = g
    · subst e
      simp [zcell, upG_self, up2, funext_iff]
    · simp [zcell, upG_ne _ _ e, e]
  | 1, hd => 
    by_cases e : g' = g
    · subst e
      simp [zcell, upG_self, up2, funext_iff]
    · simp [zcell, upG_ne _ _ e, e]
  | 2, hd => 
    by_cases e : g' = g
    · subst e
      simp [zcell, upG_self, up2, funext_iff]
    · simp [zcell, upG_ne _ _ e, e]
  | 3, hd => 
    by_cases e : g' = g
    · subst e
      have hw2 := hd.2; simp [zcell, upG_self, up2, funext_iff] <;> omega
    · simp [zcell, upG_ne _ _ e, e]
  | 4, hd => 
    by_cases e : g' = g
    · subst e
      simp [zcell, upG_self, up2, funext_iff]
    · simp [zcell, upG_ne _ _ e, e]
  | 5, hd => 
    by_cases e : g' = g
    · subst e
      simp [zcell, upG_self, up2, funext_iff]
    · simp [zcell, upG_ne _ _ e, e]
  | 6, hd => 
    by_cases e : g' = g
    · subst e
      have hw2 := hd.2; simp [zcell, upG_self, up2, funext_iff] <;> omega
    · simp [zcell, upG_ne _ _ e, e]
  | 7, hd => 
    by_cases e : g' = g
    · subst e
      have hw2 := hd.2; simp [zcell, upG_self, up2, funext_iff] <;> omega
    · simp [zcell, upG_ne _ _ e, e]
  | 8, hd => 
    by_cases e : g' = g
    · subst e
      by_cases e2 : i' = i
      · subst e2; simp [zcell, upG_self, up2, upd, funext_iff]
      · simp [zcell, upG_self, up2, e2, funext_iff]
    · simp [zcell, upG_ne _ _ e, e]
  | 9, hd => 
    by_cases e : g' = g
    · subst e
      simp [zcell, upG_self, up2, funext_iff]
    · simp [zcell, upG_ne _ _ e, e]
  | 10, hd => 
    have e : 7 ≠ g := by omega
    simp [zcell, upG_ne _ _ e]
  | 11, hd => 
    have e : 7 ≠ g := by omega
    simp [zcell, upG_ne _ _ e]
  | 12, hd => 
    have e : 7 ≠ g := by omega
    simp [zcell, upG_ne _ _ e]
  | 13, hd => 
    have e : 7 ≠ g := by omega
    simp [zcell, upG_ne _ _ e]
  | 14, hd => 
    have e : 7 ≠ g := by omega
    simp [zcell, upG_ne _ _ e]
  | 15, hd => 
    have e : 7 ≠ g := by omega
    simp [zcell, upG_ne _ _ e]
  | 16, hd => 
    have e : 8 ≠ g := by omega
    simp [zcell, upG_ne _ _ e]
  | 17, hd => 
    have e : 8 ≠ g := by omega
    simp [zcell, upG_ne _ _ e]
  | n + 18, hd => exact absurd (show n + 18 < 17 ∧ g' = 0 ∧ i' = 0 from hd).1 (by omega)
theorem zm_8_2 (G : zG) (V : zV3) (g : Nat) (hg : g < 7) (i : Nat) (x : Int32) : ∀ k' g' i', zdom k' g' i' → zcell G (upG V g (up2 (V g) 2 i x)) k' g' i' = if k' = 8 ∧ g' = g ∧ i' = i then .inr (3, [.int (nI i), .int (V g 0 i), .int (V g 1 i), .int x, .int (V g 3 i), .int (V g 4 i), .int (V g 5 i)]) else zcell G V k' g' i' := by
  have h9 := zn_8_2 G V g hg (V g) i x
  rwa [upG_id] at h9
theorem zn_8_3 (G : zG) (V : zV3) (g : Nat) (hg : g < 7) (h : zV2) (i : Nat) (x : Int32) : ∀ k' g' i', zdom k' g' i' → zcell G (upG V g (up2 h 3 i x)) k' g' i' = if k' = 8 ∧ g' = g ∧ i' = i then .inr (3, [.int (nI i), .int (h 0 i), .int (h 1 i), .int (h 2 i), .int x, .int (h 4 i), .int (h 5 i)]) else zcell G (upG V g h) k' g' i' := by
  intro k' g' i' hd
  match k', hd with
  | 0, hd => 
    by_cases e : g' = g
    · subst e
      simp [zcell, upG_self, up2, funext_iff]
    · simp [zcell, upG_ne _ _ e, e]
  | 1, hd => 
    by_cases e : g' = g
    · subst e
      simp [zcell, upG_self, up2, funext_iff]
    · simp [zcell, upG_ne _ _ e, e]
  | 2, hd => 
    by_cases e : g' = g
    · subst e
      simp [zcell, upG_self, up2, funext_iff]
    · simp [zcell, upG_ne _ _ e, e]
  | 3, hd => 
    by_cases e : g' = g
    · subst e
      have hw2 := hd.2; simp [zcell, upG_self, up2, funext_iff] <;> omega
    · simp [zcell, upG_ne _ _ e, e]
  | 4, hd => 
    by_cases e : g' = g
    · subst e
      simp [zcell, upG_self, up2, funext_iff]
    · simp [zcell, upG_ne _ _ e, e]
  | 5, hd => 
    by_cases e : g' = g
    · subst e
      simp [zcell, upG_self, up2, funext_iff]
    · simp [zcell, upG_ne _ _ e, e]
  | 6, hd => 
    by_cases e : g' = g
    · subst e
      have hw2 := hd.2; simp [zcell, upG_self, up2, funext_iff] <;> omega
    · simp [zcell, upG_ne _ _ e, e]
  | 7, hd => 
    by_cases e : g' = g
    · subst e
      have hw2 := hd.2; simp [zcell, upG_self, up2, funext_iff] <;> omega
    · simp [zcell, upG_ne _ _ e, e]
  | 8, hd => 
    by_cases e : g' = g
    · subst e
      by_cases e2 : i' = i
      · subst e2; simp [zcell, upG_self, up2, upd, funext_iff]
      · simp [zcell, upG_self, up2, e2, funext_iff]
    · simp [zcell, upG_ne _ _ e, e]
  | 9, hd => 
    by_cases e : g' = g
    · subst e
      simp [zcell, upG_self, up2, funext_iff]
    · simp [zcell, upG_ne _ _ e, e]
  | 10, hd => 
    have e : 7 ≠ g := by omega
    simp [zcell, upG_ne _ _ e]
  | 11, hd => 
    have e : 7 ≠ g := by omega
    simp [zcell, upG_ne _ _ e]
  | 12, hd => 
    have e : 7 ≠ g := by omega
    simp [zcell, upG_ne _ _ e]
  | 13, hd => 
    have e : 7 ≠ g := by omega
    simp [zcell, upG_ne _ _ e]
  | 14, hd => 
    have e : 7 ≠ g := by omega
    simp [zcell, upG_ne _ _ e]
  | 15, hd => 
    have e : 7 ≠ g := by omega
    simp [zcell, upG_ne _ _ e]
  | 16, hd => 
    have e : 8 ≠ g := by omega
    simp [zcell, upG_ne _ _ e]
  | 17, hd => 
    have e : 8 ≠ g := by omega
    simp [zcell, upG_ne _ _ e]
  | n + 18, hd => exact absurd (show n + 18 < 17 ∧ g' = 0 ∧ i' = 0 from hd).1 (by omega)
theorem zm_8_3 (G : zG) (V : zV3) (g : Nat) (hg : g < 7) (i : Nat) (x : Int32) : ∀ k' g' i', zdom k' g' i' → zcell G (upG V g (up2 (V g) 3 i x)) k' g' i' = if k' = 8 ∧ g' = g ∧ i' = i then .inr (3, [.int (nI i), .int (V g 0 i), .int (V g 1 i), .int (V g 2 i), .int x, .int (V g 4 i), .int (V g 5 i)]) else zcell G V k' g' i' := by
  have h9 := zn_8_3 G V g hg (V g) i x
  rwa [upG_id] at h9
theorem zn_8_4 (G : zG) (V : zV3) (g : Nat) (hg : g < 7) (h : zV2) (i : Nat) (x : Int32) : ∀ k' g' i', zdom k' g' i' → zcell G (upG V g (up2 h 4 i x)) k' g' i' = if k' = 8 ∧ g' = g ∧ i' = i then .inr (3, [.int (nI i), .int (h 0 i), .int (h 1 i), .int (h 2 i), .int (h 3 i), .int x, .int (h 5 i)]) else zcell G (upG V g h) k' g' i' := by
  intro k' g' i' hd
  match k', hd with
  | 0, hd => 
    by_cases e : g' = g
    · subst e
      simp [zcell, upG_self, up2, funext_iff]
    · simp [zcell, upG_ne _ _ e, e]
  | 1, hd => 
    by_cases e : g' = g
    · subst e
      simp [zcell, upG_self, up2, funext_iff]
    · simp [zcell, upG_ne _ _ e, e]
  | 2, hd => 
    by_cases e : g' = g
    · subst e
      simp [zcell, upG_self, up2, funext_iff]
    · simp [zcell, upG_ne _ _ e, e]
  | 3, hd => 
    by_cases e : g' = g
    · subst e
      have hw2 := hd.2; simp [zcell, upG_self, up2, funext_iff] <;> omega
    · simp [zcell, upG_ne _ _ e, e]
  | 4, hd => 
    by_cases e : g' = g
    · subst e
      simp [zcell, upG_self, up2, funext_iff]
    · simp [zcell, upG_ne _ _ e, e]
  | 5, hd => 
    by_cases e : g' = g
    · subst e
      simp [zcell, upG_self, up2, funext_iff]
    · simp [zcell, upG_ne _ _ e, e]
  | 6, hd => 
    by_cases e : g' = g
    · subst e
      have hw2 := hd.2; simp [zcell, upG_self, up2, funext_iff] <;> omega
    · simp [zcell, upG_ne _ _ e, e]
  | 7, hd => 
    by_cases e : g' = g
    · subst e
      have hw2 := hd.2; simp [zcell, upG_self, up2, funext_iff] <;> omega
    · simp [zcell, upG_ne _ _ e, e]
  | 8, hd => 
    by_cases e : g' = g
    · subst e
      by_cases e2 : i' = i
      · subst e2; simp [zcell, upG_self, up2, upd, funext_iff]
      · simp [zcell, upG_self, up2, e2, funext_iff]
    · simp [zcell, upG_ne _ _ e, e]
  | 9, hd => 
    by_cases e : g' = g
    · subst e
      simp [zcell, upG_self, up2, funext_iff]
    · simp [zcell, upG_ne _ _ e, e]
  | 10, hd => 
    have e : 7 ≠ g := by omega
    simp [zcell, upG_ne _ _ e]
  | 11, hd => 
    have e : 7 ≠ g := by omega
    simp [zcell, upG_ne _ _ e]
  | 12, hd => 
    have e : 7 ≠ g := by omega
    simp [zcell, upG_ne _ _ e]
  | 13, hd => 
    have e : 7 ≠ g := by omega
    simp [zcell, upG_ne _ _ e]
  | 14, hd => 
    have e : 7 ≠ g := by omega
    simp [zcell, upG_ne _ _ e]
  | 15, hd => 
    have e : 7 ≠ g := by omega
    simp [zcell, upG_ne _ _ e]
  | 16, hd => 
    have e : 8 ≠ g := by omega
    simp [zcell, upG_ne _ _ e]
  | 17, hd => 
    have e : 8 ≠ g := by omega
    simp [zcell, upG_ne _ _ e]
  | n + 18, hd => exact absurd (show n + 18 < 17 ∧ g' = 0 ∧ i' = 0 from hd).1 (by omega)
theorem zm_8_4 (G : zG) (V : zV3) (g : Nat) (hg : g < 7) (i : Nat) (x : Int32) : ∀ k' g' i', zdom k' g' i' → zcell G (upG V g (up2 (V g) 4 i x)) k' g' i' = if k' = 8 ∧ g' = g ∧ i' = i then .inr (3, [.int (nI i), .int (V g 0 i), .int (V g 1 i), .int (V g 2 i), .int (V g 3 i), .int x, .int (V g 5 i)]) else zcell G V k' g' i' := by
  have h9 := zn_8_4 G V g hg (V g) i x
  rwa [upG_id] at h9
theorem zn_8_5 (G : zG) (V : zV3) (g : Nat) (hg : g < 7) (h : zV2) (i : Nat) (x : Int32) : ∀ k' g' i', zdom k' g' i' → zcell G (upG V g (up2 h 5 i x)) k' g' i' = if k' = 8 ∧ g' = g ∧ i' = i then .inr (3, [.int (nI i), .int (h 0 i), .int (h 1 i), .int (h 2 i), .int (h 3 i), .int (h 4 i), .int x]) else zcell G (upG V g h) k' g' i' := by
  intro k' g' i' hd
  match k', hd with
  | 0, hd => 
    by_cases e : g' = g
    · subst e
      simp [zcell, upG_self, up2, funext_iff]
    · simp [zcell, upG_ne _ _ e, e]
  | 1, hd => 
    by_cases e : g' = g
    · subst e
      simp [zcell, upG_self, up2, funext_iff]
    · simp [zcell, upG_ne _ _ e, e]
  | 2, hd => 
    by_cases e : g' = g
    · subst e
      simp [zcell, upG_self, up2, funext_iff]
    · simp [zcell, upG_ne _ _ e, e]
  | 3, hd => 
    by_cases e : g' = g
    · subst e
      have hw2 := hd.2; simp [zcell, upG_self, up2, funext_iff] <;> omega
    · simp [zcell, upG_ne _ _ e, e]
  | 4, hd => 
    by_cases e : g' = g
    · subst e
      simp [zcell, upG_self, up2, funext_iff]
    · simp [zcell, upG_ne _ _ e, e]
  | 5, hd => 
    by_cases e : g' = g
    · subst e
      simp [zcell, upG_self, up2, funext_iff]
    · simp [zcell, upG_ne _ _ e, e]
  | 6, hd => 
    by_cases e : g' = g
    · subst e
      have hw2 := hd.2; simp [zcell, upG_self, up2, funext_iff] <;> omega
    · simp [zcell, upG_ne _ _ e, e]
  | 7, hd => 
    by_cases e : g' = g
    · subst e
      have hw2 := hd.2; simp [zcell, upG_self, up2, funext_iff] <;> omega
    · simp [zcell, upG_ne _ _ e, e]
  | 8, hd => 
    by_cases e : g' = g
    · subst e
      by_cases e2 : i' = i
      · subst e2; simp [zcell, upG_self, up2, upd, funext_iff]
      · simp [zcell, upG_self, up2, e2, funext_iff]
    · simp [zcell, upG_ne _ _ e, e]
  | 9, hd => 
    by_cases e : g' = g
    · subst e
      simp [zcell, upG_self, up2, funext_iff]
    · simp [zcell, upG_ne _ _ e, e]
  | 10, hd => 
    have e : 7 ≠ g := by omega
    simp [zcell, upG_ne _ _ e]
  | 11, hd => 
    have e : 7 ≠ g := by omega
    simp [zcell, upG_ne _ _ e]
  | 12, hd => 
    have e : 7 ≠ g := by omega
    simp [zcell, upG_ne _ _ e]
  | 13, hd => 
    have e : 7 ≠ g := by omega
    simp [zcell, upG_ne _ _ e]
  | 14, hd => 
    have e : 7 ≠ g := by omega
    simp [zcell, upG_ne _ _ e]
  | 15, hd => 
    have e : 7 ≠ g := by omega
    simp [zcell, upG_ne _ _ e]
  | 16, hd => 
    have e : 8 ≠ g := by omega
    simp [zcell, upG_ne _ _ e]
  | 17, hd => 
    have e : 8 ≠ g := by omega
    simp [zcell, upG_ne _ _ e]
  | n + 18, hd => exact absurd (show n + 18 < 17 ∧ g' = 0 ∧ i' = 0 from hd).1 (by omega)
theorem zm_8_5 (G : zG) (V : zV3) (g : Nat) (hg : g < 7) (i : Nat) (x : Int32) : ∀ k' g' i', zdom k' g' i' → zcell G (upG V g (up2 (V g) 5 i x)) k' g' i' = if k' = 8 ∧ g' = g ∧ i' = i then .inr (3, [.int (nI i), .int (V g 0 i), .int (V g 1 i), .int (V g 2 i), .int (V g 3 i), .int (V g 4 i), .int x]) else zcell G V k' g' i' := by
  have h9 := zn_8_5 G V g hg (V g) i x
  rwa [upG_id] at h9
theorem zn_9_6 (G : zG) (V : zV3) (g : Nat) (hg : g < 7) (h : zV2) (i : Nat) (x : Int32) : ∀ k' g' i', zdom k' g' i' → zcell G (upG V g (up2 h 6 i x)) k' g' i' = if k' = 9 ∧ g' = g ∧ i' = i then .inr (4, [.int (nI i), .int x, .int (h 7 i), .int (h 8 i), .int (h 9 i), .int (h 10 i), .int (h 11 i), .int (h 12 i)]) else zcell G (upG V g h) k' g' i' := by
  intro k' g' i' hd
  match k', hd with
  | 0, hd => 
    by_cases e : g' = g
    · subst e
      simp [zcell, upG_self, up2, funext_iff]
    · simp [zcell, upG_ne _ _ e, e]
  | 1, hd => 
    by_cases e : g' = g
    · subst e
      simp [zcell, upG_self, up2, funext_iff]
    · simp [zcell, upG_ne _ _ e, e]
  | 2, hd => 
    by_cases e : g' = g
    · subst e
      simp [zcell, upG_self, up2, funext_iff]
    · simp [zcell, upG_ne _ _ e, e]
  | 3, hd => 
    by_cases e : g' = g
    · subst e
      have hw2 := hd.2; simp [zcell, upG_self, up2, funext_iff] <;> omega
    · simp [zcell, upG_ne _ _ e, e]
  | 4, hd => 
    by_cases e : g' = g
    · subst e
      simp [zcell, upG_self, up2, funext_iff]
    · simp [zcell, upG_ne _ _ e, e]
  | 5, hd => 
    by_cases e : g' = g
    · subst e
      simp [zcell, upG_self, up2, funext_iff]
    · simp [zcell, upG_ne _ _ e, e]
  | 6, hd => 
    by_cases e : g' = g
    · subst e
      have hw2 := hd.2; simp [zcell, upG_self, up2, funext_iff] <;> omega
    · simp [zcell, upG_ne _ _ e, e]
  | 7, hd => 
    by_cases e : g' = g
    · subst e
      have hw2 := hd.2; simp [zcell, upG_self, up2, funext_iff] <;> omega
    · simp [zcell, upG_ne _ _ e, e]
  | 8, hd => 
    by_cases e : g' = g
    · subst e
      simp [zcell, upG_self, up2, funext_iff]
    · simp [zcell, upG_ne _ _ e, e]
  | 9, hd => 
    by_cases e : g' = g
    · subst e
      by_cases e2 : i' = i
      · subst e2; simp [zcell, upG_self, up2, upd, funext_iff]
      · simp [zcell, upG_self, up2, e2, funext_iff]
    · simp [zcell, upG_ne _ _ e, e]
  | 10, hd => 
    have e : 7 ≠ g := by omega
    simp [zcell, upG_ne _ _ e]
  | 11, hd => 
    have e : 7 ≠ g := by omega
    simp [zcell, upG_ne _ _ e]
  | 12, hd => 
    have e : 7 ≠ g := by omega
    simp [zcell, upG_ne _ _ e]
  | 13, hd => 
    have e : 7 ≠ g := by omega
    simp [zcell, upG_ne _ _ e]
  | 14, hd => 
    have e : 7 ≠ g := by omega
    simp [zcell, upG_ne _ _ e]
  | 15, hd => 
    have e : 7 ≠ g := by omega
    simp [zcell, upG_ne _ _ e]
  | 16, hd => 
    have e : 8 ≠ g := by omega
    simp [zcell, upG_ne _ _ e]
  | 17, hd => 
    have e : 8 ≠ g := by omega
    simp [zcell, upG_ne _ _ e]
  | n + 18, hd => exact absurd (show n + 18 < 17 ∧ g' = 0 ∧ i' = 0 from hd).1 (by omega)
theorem zm_9_6 (G : zG) (V : zV3) (g : Nat) (hg : g < 7) (i : Nat) (x : Int32) : ∀ k' g' i', zdom k' g' i' → zcell G (upG V g (up2 (V g) 6 i x)) k' g' i' = if k' = 9 ∧ g' = g ∧ i' = i then .inr (4, [.int (nI i), .int x, .int (V g 7 i), .int (V g 8 i), .int (V g 9 i), .int (V g 10 i), .int (V g 11 i), .int (V g 12 i)]) else zcell G V k' g' i' := by
  have h9 := zn_9_6 G V g hg (V g) i x
  rwa [upG_id] at h9
theorem zn_9_7 (G : zG) (V : zV3) (g : Nat) (hg : g < 7) (h : zV2) (i : Nat) (x : Int32) : ∀ k' g' i', zdom k' g' i' → zcell G (upG V g (up2 h 7 i x)) k' g' i' = if k' = 9 ∧ g' = g ∧ i' = i then .inr (4, [.int (nI i), .int (h 6 i), .int x, .int (h 8 i), .int (h 9 i), .int (h 10 i), .int (h 11 i), .int (h 12 i)]) else zcell G (upG V g h) k' g' i' := by
  intro k' g' i' hd
  match k', hd with
  | 0, hd => 
    by_cases e : g' = g
    · subst e
      simp [zcell, upG_self, up2, funext_iff]
    · simp [zcell, upG_ne _ _ e, e]
  | 1, hd => 
    by_cases e : g' = g
    · subst e
      simp [zcell, upG_self, up2, funext_iff]
    · simp [zcell, upG_ne _ _ e, e]
  | 2, hd => 
    by_cases e : g' = g
    · subst e
      simp [zcell, upG_self, up2, funext_iff]
    · simp [zcell, upG_ne _ _ e, e]
  | 3, hd => 
    by_cases e : g' = g
    · subst e
      have hw2 := hd.2; simp [zcell, upG_self, up2, funext_iff] <;> omega
    · simp [zcell, upG_ne _ _ e, e]
  | 4, hd => 
    by_cases e : g' = g
    · subst e
      simp [zcell, upG_self, up2, funext_iff]
    · simp [zcell, upG_ne _ _ e, e]
  | 5, hd => 
    by_cases e : g' = g
    · subst e
      simp [zcell, upG_self, up2, funext_iff]
    · simp [zcell, upG_ne _ _ e, e]
  | 6, hd => 
    by_cases e : g' = g
    · subst e
      have hw2 := hd.2; simp [zcell, upG_self, up2, funext_iff] <;> omega
    · simp [zcell, upG_ne _ _ e, e]
  | 7, hd => 
    by_cases e : g' = g
    · subst e
      have hw2 := hd.2; simp [zcell, upG_self, up2, funext_iff] <;> omega
    · simp [zcell, upG_ne _ _ e, e]
  | 8, hd => 
    by_cases e : g' = g
    · subst e
      simp [zcell, upG_self, up2, funext_iff]
    · simp [zcell, upG_ne _ _ e, e]
  | 9, hd => 
    by_cases e : g' = g
    · subst e
      by_cases e2 : i' = i
      · subst e2; simp [zcell, upG_self, up2, upd, funext_iff]
      · simp [zcell, upG_self, up2, e2, funext_iff]
    · simp [zcell, upG_ne _ _ e, e]
  | 10, hd => 
    have e : 7 ≠ g := by omega
    simp [zcell, upG_ne _ _ e]
  | 11, hd => 
    have e : 7 ≠ g := by omega
    simp [zcell, upG_ne _ _ e]
  | 12, hd => 
    have e : 7 ≠ g := by omega
    simp [zcell, upG_ne _ _ e]
  | 13, hd => 
    have e : 7 ≠ g := by omega
    simp [zcell, upG_ne _ _ e]
  | 14, hd => 
    have e : 7 ≠ g := by omega
    simp [zcell, upG_ne _ _ e]
  | 15, hd => 
    have e : 7 ≠ g := by omega
    simp [zcell, upG_ne _ _ e]
  | 16, hd => 
    have e : 8 ≠ g := by omega
    simp [zcell, upG_ne _ _ e]
  | 17, hd => 
    have e : 8 ≠ g := by omega
    simp [zcell, upG_ne _ _ e]
  | n + 18, hd => exact absurd (show n + 18 < 17 ∧ g' = 0 ∧ i' = 0 from hd).1 (by omega)
theorem zm_9_7 (G : zG) (V : zV3) (g : Nat) (hg : g < 7) (i : Nat) (x : Int32) : ∀ k' g' i', zdom k' g' i' → zcell G (upG V g (up2 (V g) 7 i x)) k' g' i' = if k' = 9 ∧ g' = g ∧ i' = i then .inr (4, [.int (nI i), .int (V g 6 i), .int x, .int (V g 8 i), .int (V g 9 i), .int (V g 10 i), .int (V g 11 i), .int (V g 12 i)]) else zcell G V k' g' i' := by
  have h9 := zn_9_7 G V g hg (V g) i x
  rwa [upG_id] at h9
theorem zn_9_8 (G : zG) (V : zV3) (g : Nat) (hg : g < 7) (h : zV2) (i : Nat) (x : Int32) : ∀ k' g' i', zdom k' g' i' → zcell G (upG V g (up2 h 8 i x)) k' g' i' = if k' = 9 ∧ g' = g ∧ i' = i then .inr (4, [.int (nI i), .int (h 6 i), .int (h 7 i), .int x, .int (h 9 i), .int (h 10 i), .int (h 11 i), .int (h 12 i)]) else zcell G (upG V g h) k' g' i' := by
  intro k' g' i' hd
  match k', hd with
  | 0, hd => 
    by_cases e : g' = g
    · subst e
      simp [zcell, upG_self, up2, funext_iff]
    · simp [zcell, upG_ne _ _ e, e]
  | 1, hd => 
    by_cases e : g' = g
    · subst e
      simp [zcell, upG_self, up2, funext_iff]
    · simp [zcell, upG_ne _ _ e, e]
  | 2, hd => 
    by_cases e : g' = g
    · subst e
      simp [zcell, upG_self, up2, funext_iff]
    · simp [zcell, upG_ne _ _ e, e]
  | 3, hd => 
    by_cases e : g' = g
    · subst e
      have hw2 := hd.2; simp [zcell, upG_self, up2, funext_iff] <;> omega
    · simp [zcell, upG_ne _ _ e, e]
  | 4, hd => 
    by_cases e : g' = g
    · subst e
      simp [zcell, upG_self, up2, funext_iff]
    · simp [zcell, upG_ne _ _ e, e]
  | 5, hd => 
    by_cases e : g' = g
    · subst e
      simp [zcell, upG_self, up2, funext_iff]
    · simp [zcell, upG_ne _ _ e, e]
  | 6, hd => 
    by_cases e : g' = g
    · subst e
      have hw2 := hd.2; simp [zcell, upG_self, up2, funext_iff] <;> omega
    · simp [zcell, upG_ne _ _ e, e]
  | 7, hd => 
    by_cases e : g' = g
    · subst e
      have hw2 := hd.2; simp [zcell, upG_self, up2, funext_iff] <;> omega
    · simp [zcell, upG_ne _ _ e, e]
  | 8, hd => 
    by_cases e : g' = g
    · subst e
      simp [zcell, upG_self, up2, funext_iff]
    · simp [zcell, upG_ne _ _ e, e]
  | 9, hd => 
    by_cases e : g' = g
    · subst e
      by_cases e2 : i' = i
      · subst e2; simp [zcell, upG_self, up2, upd, funext_iff]
      · simp [zcell, upG_self, up2, e2, funext_iff]
    · simp [zcell, upG_ne _ _ e, e]
  | 10, hd => 
    have e : 7 ≠ g := by omega
    simp [zcell, upG_ne _ _ e]
  | 11, hd => 
    have e : 7 ≠ g := by omega
    simp [zcell, upG_ne _ _ e]
  | 12, hd => 
    have e : 7 ≠ g := by omega
    simp [zcell, upG_ne _ _ e]
  | 13, hd => 
    have e : 7 ≠ g := by omega
    simp [zcell, upG_ne _ _ e]
  | 14, hd => 
    have e : 7 ≠ g := by omega
    simp [zcell, upG_ne _ _ e]
  | 15, hd => 
    have e : 7 ≠ g := by omega
    simp [zcell, upG_ne _ _ e]
  | 16, hd => 
    have e : 8 ≠ g := by omega
    simp [zcell, upG_ne _ _ e]
  | 17, hd => 
    have e : 8 ≠ g := by omega
    simp [zcell, upG_ne _ _ e]
  | n + 18, hd => exact absurd (show n + 18 < 17 ∧ g' = 0 ∧ i' = 0 from hd).1 (by omega)
theorem zm_9_8 (G : zG) (V : zV3) (g : Nat) (hg : g < 7) (i : Nat) (x : Int32) : ∀ k' g' i', zdom k' g' i' → zcell G (upG V g (up2 (V g) 8 i x)) k' g' i' = if k' = 9 ∧ g' = g ∧ i' = i then .inr (4, [.int (nI i), .int (V g 6 i), .int (V g 7 i), .int x, .int (V g 9 i), .int (V g 10 i), .int (V g 11 i), .int (V g 12 i)]) else zcell G V k' g' i' := by
  have h9 := zn_9_8 G V g hg (V g) i x
  rwa [upG_id] at h9
theorem zn_9_9 (G : zG) (V : zV3) (g : Nat) (hg : g < 7) (h : zV2) (i : Nat) (x : Int32) : ∀ k' g' i', zdom k' g' i' → zcell G (upG V g (up2 h 9 i x)) k' g' i' = if k' = 9 ∧ g' = g ∧ i' = i then .inr (4, [.int (nI i), .int (h 6 i), .int (h 7 i), .int (h 8 i), .int x, .int (h 10 i), .int (h 11 i), .int (h 12 i)]) else zcell G (upG V g h) k' g' i' := by
  intro k' g' i' hd
  match k', hd with
  | 0, hd => 
    by_cases e : g' = g
    · subst e
      simp [zcell, upG_self, up2, funext_iff]
    · simp [zcell, upG_ne _ _ e, e]
  | 1, hd => 
    by_cases e : g' = g
    · subst e
      simp [zcell, upG_self, up2, funext_iff]
    · simp [zcell, upG_ne _ _ e, e]
  | 2, hd => 
    by_cases e : g' = g
    · subst e
      simp [zcell, upG_self, up2, funext_iff]
    · simp [zcell, upG_ne _ _ e, e]
  | 3, hd => 
    by_cases e : g' = g
    · subst e
      have hw2 := hd.2; simp [zcell, upG_self, up2, funext_iff] <;> omega
    · simp [zcell, upG_ne _ _ e, e]
  | 4, hd => 
    by_cases e : g' = g
    · subst e
      simp [zcell, upG_self, up2, funext_iff]
    · simp [zcell, upG_ne _ _ e, e]
  | 5, hd => 
    by_cases e : g' = g
    · subst e
      simp [zcell, upG_self, up2, funext_iff]
    · simp [zcell, upG_ne _ _ e, e]
  | 6, hd => 
    by_cases e : g' = g
    · subst e
      have hw2 := hd.2; simp [zcell, upG_self, up2, funext_iff] <;> omega
    · simp [zcell, upG_ne _ _ e, e]
  | 7, hd => 
    by_cases e : g' = g
    · subst e
      have hw2 := hd.2; simp [zcell, upG_self, up2, funext_iff] <;> omega
    · simp [zcell, upG_ne _ _ e, e]
  | 8, hd => 
    by_cases e : g' = g
    · subst e
      simp [zcell, upG_self, up2, funext_iff]
    · simp [zcell, upG_ne _ _ e, e]
  | 9, hd => 
    by_cases e : g' = g
    · subst e
      by_cases e2 : i' = i
      · subst e2; simp [zcell, upG_self, up2, upd, funext_iff]
      · simp [zcell, upG_self, up2, e2, funext_iff]
    · simp [zcell, upG_ne _ _ e, e]
  | 10, hd => 
    have e : 7 ≠ g := by omega
    simp [zcell, upG_ne _ _ e]
  | 11, hd => 
    have e : 7 ≠ g := by omega
    simp [zcell, upG_ne _ _ e]
  | 12, hd => 
    have e : 7 ≠ g := by omega
    simp [zcell, upG_ne _ _ e]
  | 13, hd => 
    have e : 7 ≠ g := by omega
    simp [zcell, upG_ne _ _ e]
  | 14, hd => 
    have e : 7 ≠ g := by omega
    simp [zcell, upG_ne _ _ e]
  | 15, hd => 
    have e : 7 ≠ g := by omega
    simp [zcell, upG_ne _ _ e]
  | 16, hd => 
    have e : 8 ≠ g := by omega
    simp [zcell, upG_ne _ _ e]
  | 17, hd => 
    have e : 8 ≠ g := by omega
    simp [zcell, upG_ne _ _ e]
  | n + 18, hd => exact absurd (show n + 18 < 17 ∧ g' = 0 ∧ i' = 0 from hd).1 (by omega)
theorem zm_9_9 (G : zG) (V : zV3) (g : Nat) (hg : g < 7) (i : Nat) (x : Int32) : ∀ k' g' i', zdom k' g' i' → zcell G (upG V g (up2 (V g) 9 i x)) k' g' i' = if k' = 9 ∧ g' = g ∧ i' = i then .inr (4, [.int (nI i), .int (V g 6 i), .int (V g 7 i), .int (V g 8 i), .int x, .int (V g 10 i), .int (V g 11 i), .int (V g 12 i)]) else zcell G V k' g' i' := by
  have h9 := zn_9_9 G V g hg (V g) i x
  rwa [upG_id] at h9
theorem zn_9_10 (G : zG) (V : zV3) (g : Nat) (hg : g < 7) (h : zV2) (i : Nat) (x : Int32) : ∀ k' g' i', zdom k' g' i' → zcell G (upG V g (up2 h 10 i x)) k' g' i' = if k' = 9 ∧ g' = g ∧ i' = i then .inr (4, [.int (nI i), .int (h 6 i), .int (h 7 i), .int (h 8 i), .int (h 9 i), .int x, .int (h 11 i), .int (h 12 i)]) else zcell G (upG V g h) k' g' i' := by
  intro k' g' i' hd
  match k', hd with
  | 0, hd => 
    by_cases e : g' = g
    · subst e
      simp [zcell, upG_self, up2, funext_iff]
    · simp [zcell, upG_ne _ _ e, e]
  | 1, hd => 
    by_cases e : g' = g
    · subst e
      simp [zcell, upG_self, up2, funext_iff]
    · simp [zcell, upG_ne _ _ e, e]
  | 2, hd => 
    by_cases e : g' = g
    · subst e
      simp [zcell, upG_self, up2, funext_iff]
    · simp [zcell, upG_ne _ _ e, e]
  | 3, hd => 
    by_cases e : g' = g
    · subst e
      have hw2 := hd.2; simp [zcell, upG_self, up2, funext_iff] <;> omega
    · simp [zcell, upG_ne _ _ e, e]
  | 4, hd => 
    by_cases e : g' = g
    · subst e
      simp [zcell, upG_self, up2, funext_iff]
    · simp [zcell, upG_ne _ _ e, e]
  | 5, hd => 
    by_cases e : g' = g
    · subst e
      simp [zcell, upG_self, up2, funext_iff]
    · simp [zcell, upG_ne _ _ e, e]
  | 6, hd => 
    by_cases e : g' = g
    · subst e
      have hw2 := hd.2; simp [zcell, upG_self, up2, funext_iff] <;> omega
    · simp [zcell, upG_ne _ _ e, e]
  | 7, hd => 
    by_cases e : g' = g
    · subst e
      have hw2 := hd.2; simp [zcell, upG_self, up2, funext_iff] <;> omega
    · simp [zcell, upG_ne _ _ e, e]
  | 8, hd => 
    by_cases e : g' = g
    · subst e
      simp [zcell, upG_self, up2, funext_iff]
    · simp [zcell, upG_ne _ _ e, e]
  | 9, hd => 
    by_cases e : g' = g
    · subst e
      by_cases e2 : i' = i
      · subst e2; simp [zcell, upG_self, up2, upd, funext_iff]
      · simp [zcell, upG_self, up2, e2, funext_iff]
    · simp [zcell, upG_ne _ _ e, e]
  | 10, hd => 
    have e : 7 ≠ g := by omega
    simp [zcell, upG_ne _ _ e]
  | 11, hd => 
    have e : 7 ≠ g := by omega
    simp [zcell, upG_ne _ _ e]
  | 12, hd => 
    have e : 7 ≠ g := by omega
    simp [zcell, upG_ne _ _ e]
  | 13, hd => 
    have e : 7 ≠ g := by omega
    simp [zcell, upG_ne _ _ e]
  | 14, hd => 
    have e : 7 ≠ g := by omega
    simp [zcell, upG_ne _ _ e]
  | 15, hd => 
    have e : 7 ≠ g := by omega
    simp [zcell, upG_ne _ _ e]
  | 16, hd => 
    have e : 8 ≠ g := by omega
    simp [zcell, upG_ne _ _ e]
  | 17, hd => 
    have e : 8 ≠ g := by omega
    simp [zcell, upG_ne _ _ e]
  | n + 18, hd => exact absurd (show n + 18 < 17 ∧ g' = 0 ∧ i' = 0 from hd).1 (by omega)
theorem zm_9_10 (G : zG) (V : zV3) (g : Nat) (hg : g < 7) (i : Nat) (x : Int32) : ∀ k' g' i', zdom k' g' i' → zcell G (upG V g (up2 (V g) 10 i x)) k' g' i' = if k' = 9 ∧ g' = g ∧ i' = i then .inr (4, [.int (nI i), .int (V g 6 i), .int (V g 7 i), .int (V g 8 i), .int (V g 9 i), .int x, .int (V g 11 i), .int (V g 12 i)]) else zcell G V k' g' i' := by
  have h9 := zn_9_10 G V g hg (V g) i x
  rwa [upG_id] at h9
theorem zn_9_11 (G : zG) (V : zV3) (g : Nat) (hg : g < 7) (h : zV2) (i : Nat) (x : Int32) : ∀ k' g' i', zdom k' g' i' → zcell G (upG V g (up2 h 11 i x)) k' g' i' = if k' = 9 ∧ g' = g ∧ i' = i then .inr (4, [.int (nI i), .int (h 6 i), .int (h 7 i), .int (h 8 i), .int (h 9 i), .int (h 10 i), .int x, .int (h 12 i)]) else zcell G (upG V g h) k' g' i' := by
  intro k' g' i' hd
  match k', hd with
  | 0, hd => 
    by_cases e : g' = g
    · subst e
      simp [zcell, upG_self, up2, funext_iff]
    · simp [zcell, upG_ne _ _ e, e]
  | 1, hd => 
    by_cases e : g' = g
    · subst e
      simp [zcell, upG_self, up2, funext_iff]
    · simp [zcell, upG_ne _ _ e, e]
  | 2, hd => 
    by_cases e : g' = g
    · subst e
      simp [zcell, upG_self, up2, funext_iff]
    · simp [zcell, upG_ne _ _ e, e]
  | 3, hd => 
    by_cases e : g' = g
    · subst e
      have hw2 := hd.2; simp [zcell, upG_self, up2, funext_iff] <;> omega
    · simp [zcell, upG_ne _ _ e, e]
  | 4, hd => 
    by_cases e : g' = g
    · subst e
      simp [zcell, upG_self, up2, funext_iff]
    · simp [zcell, upG_ne _ _ e, e]
  | 5, hd => 
    by_cases e : g' = g
    · subst e
      simp [zcell, upG_self, up2, funext_iff]
    · simp [zcell, upG_ne _ _ e, e]
  | 6, hd => 
    by_cases e : g' = g
    · subst e
      have hw2 := hd.2; simp [zcell, upG_self, up2, funext_iff] <;> omega
    · simp [zcell, upG_ne _ _ e, e]
  | 7, hd => 
    by_cases e : g' = g
    · subst e
      have hw2 := hd.2; simp [zcell, upG_self, up2, funext_iff] <;> omega
    · simp [zcell, upG_ne _ _ e, e]
  | 8, hd => 
    by_cases e : g' = g
    · subst e
      simp [zcell, upG_self, up2, funext_iff]
    · simp [zcell, upG_ne _ _ e, e]
  | 9, hd => 
    by_cases e : g' = g
    · subst e
      by_cases e2 : i' = i
      · subst e2; simp [zcell, upG_self, up2, upd, funext_iff]
      · simp [zcell, upG_self, up2, e2, funext_iff]
    · simp [zcell, upG_ne _ _ e, e]
  | 10, hd => 
    have e : 7 ≠ g := by omega
    simp [zcell, upG_ne _ _ e]
  | 11, hd => 
    have e : 7 ≠ g := by omega
    simp [zcell, upG_ne _ _ e]
  | 12, hd => 
    have e : 7 ≠ g := by omega
    simp [zcell, upG_ne _ _ e]
  | 13, hd => 
    have e : 7 ≠ g := by omega
    simp [zcell, upG_ne _ _ e]
  | 14, hd => 
    have e : 7 ≠ g := by omega
    simp [zcell, upG_ne _ _ e]
  | 15, hd => 
    have e : 7 ≠ g := by omega
    simp [zcell, upG_ne _ _ e]
  | 16, hd => 
    have e : 8 ≠ g := by omega
    simp [zcell, upG_ne _ _ e]
  | 17, hd => 
    have e : 8 ≠ g := by omega
    simp [zcell, upG_ne _ _ e]
  | n + 18, hd => exact absurd (show n + 18 < 17 ∧ g' = 0 ∧ i' = 0 from hd).1 (by omega)
theorem zm_9_11 (G : zG) (V : zV3) (g : Nat) (hg : g < 7) (i : Nat) (x : Int32) : ∀ k' g' i', zdom k' g' i' → zcell G (upG V g (up2 (V g) 11 i x)) k' g' i' = if k' = 9 ∧ g' = g ∧ i' = i then .inr (4, [.int (nI i), .int (V g 6 i), .int (V g 7 i), .int (V g 8 i), .int (V g 9 i), .int (V g 10 i), .int x, .int (V g 12 i)]) else zcell G V k' g' i' := by
  have h9 := zn_9_11 G V g hg (V g) i x
  rwa [upG_id] at h9
theorem zn_9_12 (G : zG) (V : zV3) (g : Nat) (hg : g < 7) (h : zV2) (i : Nat) (x : Int32) : ∀ k' g' i', zdom k' g' i' → zcell G (upG V g (up2 h 12 i x)) k' g' i' = if k' = 9 ∧ g' = g ∧ i' = i then .inr (4, [.int (nI i), .int (h 6 i), .int (h 7 i), .int (h 8 i), .int (h 9 i), .int (h 10 i), .int (h 11 i), .int x]) else zcell G (upG V g h) k' g' i' := by
  intro k' g' i' hd
  match k', hd with
  | 0, hd => 
    by_cases e : g' = g
    · subst e
      simp [zcell, upG_self, up2, funext_iff]
    · simp [zcell, upG_ne _ _ e, e]
  | 1, hd => 
    by_cases e : g' = g
    · subst e
      simp [zcell, upG_self, up2, funext_iff]
    · simp [zcell, upG_ne _ _ e, e]
  | 2, hd => 
    by_cases e : g' = g
    · subst e
      simp [zcell, upG_self, up2, funext_iff]
    · simp [zcell, upG_ne _ _ e, e]
  | 3, hd => 
    by_cases e : g' = g
    · subst e
      have hw2 := hd.2; simp [zcell, upG_self, up2, funext_iff] <;> omega
    · simp [zcell, upG_ne _ _ e, e]
  | 4, hd => 
    by_cases e : g' = g
    · subst e
      simp [zcell, upG_self, up2, funext_iff]
    · simp [zcell, upG_ne _ _ e, e]
  | 5, hd => 
    by_cases e : g' = g
    · subst e
      simp [zcell, upG_self, up2, funext_iff]
    · simp [zcell, upG_ne _ _ e, e]
  | 6, hd => 
    by_cases e : g' = g
    · subst e
      have hw2 := hd.2; simp [zcell, upG_self, up2, funext_iff] <;> omega
    · simp [zcell, upG_ne _ _ e, e]
  | 7, hd => 
    by_cases e : g' = g
    · subst e
      have hw2 := hd.2; simp [zcell, upG_self, up2, funext_iff] <;> omega
    · simp [zcell, upG_ne _ _ e, e]
  | 8, hd => 
    by_cases e : g' = g
    · subst e
      simp [zcell, upG_self, up2, funext_iff]
    · simp [zcell, upG_ne _ _ e, e]
  | 9, hd => 
    by_cases e : g' = g
    · subst e
      by_cases e2 : i' = i
      · subst e2; simp [zcell, upG_self, up2, upd, funext_iff]
      · simp [zcell, upG_self, up2, e2, funext_iff]
    · simp [zcell, upG_ne _ _ e, e]
  | 10, hd => 
    have e : 7 ≠ g := by omega
    simp [zcell, upG_ne _ _ e]
  | 11, hd => 
    have e : 7 ≠ g := by omega
    simp [zcell, upG_ne _ _ e]
  | 12, hd => 
    have e : 7 ≠ g := by omega
    simp [zcell, upG_ne _ _ e]
  | 13, hd => 
    have e : 7 ≠ g := by omega
    simp [zcell, upG_ne _ _ e]
  | 14, hd => 
    have e : 7 ≠ g := by omega
    simp [zcell, upG_ne _ _ e]
  | 15, hd => 
    have e : 7 ≠ g := by omega
    simp [zcell, upG_ne _ _ e]
  | 16, hd => 
    have e : 8 ≠ g := by omega
    simp [zcell, upG_ne _ _ e]
  | 17, hd => 
    have e : 8 ≠ g := by omega
    simp [zcell, upG_ne _ _ e]
  | n + 18, hd => exact absurd (show n + 18 < 17 ∧ g' = 0 ∧ i' = 0 from hd).1 (by omega)
theorem zm_9_12 (G : zG) (V : zV3) (g : Nat) (hg : g < 7) (i : Nat) (x : Int32) : ∀ k' g' i', zdom k' g' i' → zcell G (upG V g (up2 (V g) 12 i x)) k' g' i' = if k' = 9 ∧ g' = g ∧ i' = i then .inr (4, [.int (nI i), .int (V g 6 i), .int (V g 7 i), .int (V g 8 i), .int (V g 9 i), .int (V g 10 i), .int (V g 11 i), .int x]) else zcell G V k' g' i' := by
  have h9 := zn_9_12 G V g hg (V g) i x
  rwa [upG_id] at h9
theorem zn_0_13 (G : zG) (V : zV3) (g : Nat) (hg : g < 7) (h : zV2) (x : Int32) : ∀ k' g' i', zdom k' g' i' → zcell G (upG V g (up2 h 13 0 x)) k' g' i' = if k' = 0 ∧ g' = g ∧ i' = 0 then .inr (0, [.ref (gA G 1 g 0), .ref (gA G 2 g 0), .ref (gA G 3 g 0), .ref (gA G 3 g 1), .ref (gA G 4 g 0), .ref (gA G 5 g 0), .int x, .int (h 14 0), .int (h 15 0), .int (h 16 0)]) else zcell G (upG V g h) k' g' i' := by
  intro k' g' i' hd
  match k', hd with
  | 0, hd => 
    by_cases e : g' = g
    · subst e
      have h2 := hd.2; subst h2; simp [zcell, upG_self, up2, upd, funext_iff]
    · simp [zcell, upG_ne _ _ e, e]
  | 1, hd => 
    by_cases e : g' = g
    · subst e
      simp [zcell, upG_self, up2, funext_iff]
    · simp [zcell, upG_ne _ _ e, e]
  | 2, hd => 
    by_cases e : g' = g
    · subst e
      simp [zcell, upG_self, up2, funext_iff]
    · simp [zcell, upG_ne _ _ e, e]
  | 3, hd => 
    by_cases e : g' = g
    · subst e
      have hw2 := hd.2; simp [zcell, upG_self, up2, funext_iff] <;> omega
    · simp [zcell, upG_ne _ _ e, e]
  | 4, hd => 
    by_cases e : g' = g
    · subst e
      simp [zcell, upG_self, up2, funext_iff]
    · simp [zcell, upG_ne _ _ e, e]
  | 5, hd => 
    by_cases e : g' = g
    · subst e
      simp [zcell, upG_self, up2, funext_iff]
    · simp [zcell, upG_ne _ _ e, e]
  | 6, hd => 
    by_cases e : g' = g
    · subst e
      have hw2 := hd.2; simp [zcell, upG_self, up2, funext_iff] <;> omega
    · simp [zcell, upG_ne _ _ e, e]
  | 7, hd => 
    by_cases e : g' = g
    · subst e
      have hw2 := hd.2; simp [zcell, upG_self, up2, funext_iff] <;> omega
    · simp [zcell, upG_ne _ _ e, e]
  | 8, hd => 
    by_cases e : g' = g
    · subst e
      simp [zcell, upG_self, up2, funext_iff]
    · simp [zcell, upG_ne _ _ e, e]
  | 9, hd => 
    by_cases e : g' = g
    · subst e
      simp [zcell, upG_self, up2, funext_iff]
    · simp [zcell, upG_ne _ _ e, e]
  | 10, hd => 
    have e : 7 ≠ g := by omega
    simp [zcell, upG_ne _ _ e]
  | 11, hd => 
    have e : 7 ≠ g := by omega
    simp [zcell, upG_ne _ _ e]
  | 12, hd => 
    have e : 7 ≠ g := by omega
    simp [zcell, upG_ne _ _ e]
  | 13, hd => 
    have e : 7 ≠ g := by omega
    simp [zcell, upG_ne _ _ e]
  | 14, hd => 
    have e : 7 ≠ g := by omega
    simp [zcell, upG_ne _ _ e]
  | 15, hd => 
    have e : 7 ≠ g := by omega
    simp [zcell, upG_ne _ _ e]
  | 16, hd => 
    have e : 8 ≠ g := by omega
    simp [zcell, upG_ne _ _ e]
  | 17, hd => 
    have e : 8 ≠ g := by omega
    simp [zcell, upG_ne _ _ e]
  | n + 18, hd => exact absurd (show n + 18 < 17 ∧ g' = 0 ∧ i' = 0 from hd).1 (by omega)
theorem zm_0_13 (G : zG) (V : zV3) (g : Nat) (hg : g < 7) (x : Int32) : ∀ k' g' i', zdom k' g' i' → zcell G (upG V g (up2 (V g) 13 0 x)) k' g' i' = if k' = 0 ∧ g' = g ∧ i' = 0 then .inr (0, [.ref (gA G 1 g 0), .ref (gA G 2 g 0), .ref (gA G 3 g 0), .ref (gA G 3 g 1), .ref (gA G 4 g 0), .ref (gA G 5 g 0), .int x, .int (V g 14 0), .int (V g 15 0), .int (V g 16 0)]) else zcell G V k' g' i' := by
  have h9 := zn_0_13 G V g hg (V g)  x
  rwa [upG_id] at h9
theorem zn_0_14 (G : zG) (V : zV3) (g : Nat) (hg : g < 7) (h : zV2) (x : Int32) : ∀ k' g' i', zdom k' g' i' → zcell G (upG V g (up2 h 14 0 x)) k' g' i' = if k' = 0 ∧ g' = g ∧ i' = 0 then .inr (0, [.ref (gA G 1 g 0), .ref (gA G 2 g 0), .ref (gA G 3 g 0), .ref (gA G 3 g 1), .ref (gA G 4 g 0), .ref (gA G 5 g 0), .int (h 13 0), .int x, .int (h 15 0), .int (h 16 0)]) else zcell G (upG V g h) k' g' i' := by
  intro k' g' i' hd
  match k', hd with
  | 0, hd => 
    by_cases e : g' = g
    · subst e
      have h2 := hd.2; subst h2; simp [zcell, upG_self, up2, upd, funext_iff]
    · simp [zcell, upG_ne _ _ e, e]
  | 1, hd => 
    by_cases e : g' = g
    · subst e
      simp [zcell, upG_self, up2, funext_iff]
    · simp [zcell, upG_ne _ _ e, e]
  | 2, hd => 
    by_cases e : g' = g
    · subst e
      simp [zcell, upG_self, up2, funext_iff]
    · simp [zcell, upG_ne _ _ e, e]
  | 3, hd => 
    by_cases e : g' = g
    · subst e
      have hw2 := hd.2; simp [zcell, upG_self, up2, funext_iff] <;> omega
    · simp [zcell, upG_ne _ _ e, e]
  | 4, hd => 
    by_cases e : g' = g
    · subst e
      simp [zcell, upG_self, up2, funext_iff]
    · simp [zcell, upG_ne _ _ e, e]
  | 5, hd => 
    by_cases e : g' = g
    · subst e
      simp [zcell, upG_self, up2, funext_iff]
    · simp [zcell, upG_ne _ _ e, e]
  | 6, hd => 
    by_cases e : g' = g
    · subst e
      have hw2 := hd.2; simp [zcell, upG_self, up2, funext_iff] <;> omega
    · simp [zcell, upG_ne _ _ e, e]
  | 7, hd => 
    by_cases e : g' = g
    · subst e
      have hw2 := hd.2; simp [zcell, upG_self, up2, funext_iff] <;> omega
    · simp [zcell, upG_ne _ _ e, e]
  | 8, hd => 
    by_cases e : g' = g
    · subst e
      simp [zcell, upG_self, up2, funext_iff]
    · simp [zcell, upG_ne _ _ e, e]
  | 9, hd => 
    by_cases e : g' = g
    · subst e
      simp [zcell, upG_self, up2, funext_iff]
    · simp [zcell, upG_ne _ _ e, e]
  | 10, hd => 
    have e : 7 ≠ g := by omega
    simp [zcell, upG_ne _ _ e]
  | 11, hd => 
    have e : 7 ≠ g := by omega
    simp [zcell, upG_ne _ _ e]
  | 12, hd => 
    have e : 7 ≠ g := by omega
    simp [zcell, upG_ne _ _ e]
  | 13, hd => 
    have e : 7 ≠ g := by omega
    simp [zcell, upG_ne _ _ e]
  | 14, hd => 
    have e : 7 ≠ g := by omega
    simp [zcell, upG_ne _ _ e]
  | 15, hd => 
    have e : 7 ≠ g := by omega
    simp [zcell, upG_ne _ _ e]
  | 16, hd => 
    have e : 8 ≠ g := by omega
    simp [zcell, upG_ne _ _ e]
  | 17, hd => 
    have e : 8 ≠ g := by omega
    simp [zcell, upG_ne _ _ e]
  | n + 18, hd => exact absurd (show n + 18 < 17 ∧ g' = 0 ∧ i' = 0 from hd).1 (by omega)
theorem zm_0_14 (G : zG) (V : zV3) (g : Nat) (hg : g < 7) (x : Int32) : ∀ k' g' i', zdom k' g' i' → zcell G (upG V g (up2 (V g) 14 0 x)) k' g' i' = if k' = 0 ∧ g' = g ∧ i' = 0 then .inr (0, [.ref (gA G 1 g 0), .ref (gA G 2 g 0), .ref (gA G 3 g 0), .ref (gA G 3 g 1), .ref (gA G 4 g 0), .ref (gA G 5 g 0), .int (V g 13 0), .int x, .int (V g 15 0), .int (V g 16 0)]) else zcell G V k' g' i' := by
  have h9 := zn_0_14 G V g hg (V g)  x
  rwa [upG_id] at h9
theorem zn_0_15 (G : zG) (V : zV3) (g : Nat) (hg : g < 7) (h : zV2) (x : Int32) : ∀ k' g' i', zdom k' g' i' → zcell G (upG V g (up2 h 15 0 x)) k' g' i' = if k' = 0 ∧ g' = g ∧ i' = 0 then .inr (0, [.ref (gA G 1 g 0), .ref (gA G 2 g 0), .ref (gA G 3 g 0), .ref (gA G 3 g 1), .ref (gA G 4 g 0), .ref (gA G 5 g 0), .int (h 13 0), .int (h 14 0), .int x, .int (h 16 0)]) else zcell G (upG V g h) k' g' i' := by
  intro k' g' i' hd
  match k', hd with
  | 0, hd => 
    by_cases e : g' = g
    · subst e
      have h2 := hd.2; subst h2; simp [zcell, upG_self, up2, upd, funext_iff]
    · simp [zcell, upG_ne _ _ e, e]
  | 1, hd => 
    by_cases e : g' = g
    · subst e
      simp [zcell, upG_self, up2, funext_iff]
    · simp [zcell, upG_ne _ _ e, e]
  | 2, hd => 
    by_cases e : g' = g
    · subst e
      simp [zcell, upG_self, up2, funext_iff]
    · simp [zcell, upG_ne _ _ e, e]
  | 3, hd => 
    by_cases e : g' = g
    · subst e
      have hw2 := hd.2; simp [zcell, upG_self, up2, funext_iff] <;> omega
    · simp [zcell, upG_ne _ _ e, e]
  | 4, hd => 
    by_cases e : g' = g
    · subst e
      simp [zcell, upG_self, up2, funext_iff]
    · simp [zcell, upG_ne _ _ e, e]
  | 5, hd => 
    by_cases e : g' = g
    · subst e
      simp [zcell, upG_self, up2, funext_iff]
    · simp [zcell, upG_ne _ _ e, e]
  | 6, hd => 
    by_cases e : g' = g
    · subst e
      have hw2 := hd.2; simp [zcell, upG_self, up2, funext_iff] <;> omega
    · simp [zcell, upG_ne _ _ e, e]
  | 7, hd => 
    by_cases e : g' = g
    · subst e
      have hw2 := hd.2; simp [zcell, upG_self, up2, funext_iff] <;> omega
    · simp [zcell, upG_ne _ _ e, e]
  | 8, hd => 
    by_cases e : g' = g
    · subst e
      simp [zcell, upG_self, up2, funext_iff]
    · simp [zcell, upG_ne _ _ e, e]
  | 9, hd => 
    by_cases e : g' = g
    · subst e
      simp [zcell, upG_self, up2, funext_iff]
    · simp [zcell, upG_ne _ _ e, e]
  | 10, hd => 
    have e : 7 ≠ g := by omega
    simp [zcell, upG_ne _ _ e]
  | 11, hd => 
    have e : 7 ≠ g := by omega
    simp [zcell, upG_ne _ _ e]
  | 12, hd => 
    have e : 7 ≠ g := by omega
    simp [zcell, upG_ne _ _ e]
  | 13, hd => 
    have e : 7 ≠ g := by omega
    simp [zcell, upG_ne _ _ e]
  | 14, hd => 
    have e : 7 ≠ g := by omega
    simp [zcell, upG_ne _ _ e]
  | 15, hd => 
    have e : 7 ≠ g := by omega
    simp [zcell, upG_ne _ _ e]
  | 16, hd => 
    have e : 8 ≠ g := by omega
    simp [zcell, upG_ne _ _ e]
  | 17, hd => 
    have e : 8 ≠ g := by omega
    simp [zcell, upG_ne _ _ e]
  | n + 18, hd => exact absurd (show n + 18 < 17 ∧ g' = 0 ∧ i' = 0 from hd).1 (by omega)
theorem zm_0_15 (G : zG) (V : zV3) (g : Nat) (hg : g < 7) (x : Int32) : ∀ k' g' i', zdom k' g' i' → zcell G (upG V g (up2 (V g) 15 0 x)) k' g' i' = if k' = 0 ∧ g' = g ∧ i' = 0 then .inr (0, [.ref (gA G 1 g 0), .ref (gA G 2 g 0), .ref (gA G 3 g 0), .ref (gA G 3 g 1), .ref (gA G 4 g 0), .ref (gA G 5 g 0), .int (V g 13 0), .int (V g 14 0), .int x, .int (V g 16 0)]) else zcell G V k' g' i' := by
  have h9 := zn_0_15 G V g hg (V g)  x
  rwa [upG_id] at h9
theorem zn_0_16 (G : zG) (V : zV3) (g : Nat) (hg : g < 7) (h : zV2) (x : Int32) : ∀ k' g' i', zdom k' g' i' → zcell G (upG V g (up2 h 16 0 x)) k' g' i' = if k' = 0 ∧ g' = g ∧ i' = 0 then .inr (0, [.ref (gA G 1 g 0), .ref (gA G 2 g 0), .ref (gA G 3 g 0), .ref (gA G 3 g 1), .ref (gA G 4 g 0), .ref (gA G 5 g 0), .int (h 13 0), .int (h 14 0), .int (h 15 0), .int x]) else zcell G (upG V g h) k' g' i' := by
  intro k' g' i' hd
  match k', hd with
  | 0, hd => 
    by_cases e : g' = g
    · subst e
      have h2 := hd.2; subst h2; simp [zcell, upG_self, up2, upd, funext_iff]
    · simp [zcell, upG_ne _ _ e, e]
  | 1, hd => 
    by_cases e : g' = g
    · subst e
      simp [zcell, upG_self, up2, funext_iff]
    · simp [zcell, upG_ne _ _ e, e]
  | 2, hd => 
    by_cases e : g' = g
    · subst e
      simp [zcell, upG_self, up2, funext_iff]
    · simp [zcell, upG_ne _ _ e, e]
  | 3, hd => 
    by_cases e : g' = g
    · subst e
      have hw2 := hd.2; simp [zcell, upG_self, up2, funext_iff] <;> omega
    · simp [zcell, upG_ne _ _ e, e]
  | 4, hd => 
    by_cases e : g' = g
    · subst e
      simp [zcell, upG_self, up2, funext_iff]
    · simp [zcell, upG_ne _ _ e, e]
  | 5, hd => 
    by_cases e : g' = g
    · subst e
      simp [zcell, upG_self, up2, funext_iff]
    · simp [zcell, upG_ne _ _ e, e]
  | 6, hd => 
    by_cases e : g' = g
    · subst e
      have hw2 := hd.2; simp [zcell, upG_self, up2, funext_iff] <;> omega
    · simp [zcell, upG_ne _ _ e, e]
  | 7, hd => 
    by_cases e : g' = g
    · subst e
      have hw2 := hd.2; simp [zcell, upG_self, up2, funext_iff] <;> omega
    · simp [zcell, upG_ne _ _ e, e]
  | 8, hd => 
    by_cases e : g' = g
    · subst e
      simp [zcell, upG_self, up2, funext_iff]
    · simp [zcell, upG_ne _ _ e, e]
  | 9, hd => 
    by_cases e : g' = g
    · subst e
      simp [zcell, upG_self, up2, funext_iff]
    · simp [zcell, upG_ne _ _ e, e]
  | 10, hd => 
    have e : 7 ≠ g := by omega
    simp [zcell, upG_ne _ _ e]
  | 11, hd => 
    have e : 7 ≠ g := by omega
    simp [zcell, upG_ne _ _ e]
  | 12, hd => 
    have e : 7 ≠ g := by omega
    simp [zcell, upG_ne _ _ e]
  | 13, hd => 
    have e : 7 ≠ g := by omega
    simp [zcell, upG_ne _ _ e]
  | 14, hd => 
    have e : 7 ≠ g := by omega
    simp [zcell, upG_ne _ _ e]
  | 15, hd => 
    have e : 7 ≠ g := by omega
    simp [zcell, upG_ne _ _ e]
  | 16, hd => 
    have e : 8 ≠ g := by omega
    simp [zcell, upG_ne _ _ e]
  | 17, hd => 
    have e : 8 ≠ g := by omega
    simp [zcell, upG_ne _ _ e]
  | n + 18, hd => exact absurd (show n + 18 < 17 ∧ g' = 0 ∧ i' = 0 from hd).1 (by omega)
theorem zm_0_16 (G : zG) (V : zV3) (g : Nat) (hg : g < 7) (x : Int32) : ∀ k' g' i', zdom k' g' i' → zcell G (upG V g (up2 (V g) 16 0 x)) k' g' i' = if k' = 0 ∧ g' = g ∧ i' = 0 then .inr (0, [.ref (gA G 1 g 0), .ref (gA G 2 g 0), .ref (gA G 3 g 0), .ref (gA G 3 g 1), .ref (gA G 4 g 0), .ref (gA G 5 g 0), .int (V g 13 0), .int (V g 14 0), .int (V g 15 0), .int x]) else zcell G V k' g' i' := by
  have h9 := zn_0_16 G V g hg (V g)  x
  rwa [upG_id] at h9
theorem zn_4_17 (G : zG) (V : zV3) (g : Nat) (hg : g < 7) (h : zV2) (j : Nat) (x : Int32) : ∀ k' g' i', zdom k' g' i' → zcell G (upG V g (up2 h 17 j x)) k' g' i' = if k' = 4 ∧ g' = g ∧ i' = 0 then .inl (gC G 0, 3, .inl (upd (h 17) j x)) else zcell G (upG V g h) k' g' i' := by
  intro k' g' i' hd
  match k', hd with
  | 0, hd => 
    by_cases e : g' = g
    · subst e
      simp [zcell, upG_self, up2, funext_iff]
    · simp [zcell, upG_ne _ _ e, e]
  | 1, hd => 
    by_cases e : g' = g
    · subst e
      simp [zcell, upG_self, up2, funext_iff]
    · simp [zcell, upG_ne _ _ e, e]
  | 2, hd => 
    by_cases e : g' = g
    · subst e
      simp [zcell, upG_self, up2, funext_iff]
    · simp [zcell, upG_ne _ _ e, e]
  | 3, hd => 
    by_cases e : g' = g
    · subst e
      have hw2 := hd.2; simp [zcell, upG_self, up2, funext_iff] <;> omega
    · simp [zcell, upG_ne _ _ e, e]
  | 4, hd => 
    by_cases e : g' = g
    · subst e
      have h2 := hd.2; subst h2; simp [zcell, upG_self, up2, upd, funext_iff]
    · simp [zcell, upG_ne _ _ e, e]
  | 5, hd => 
    by_cases e : g' = g
    · subst e
      simp [zcell, upG_self, up2, funext_iff]
    · simp [zcell, upG_ne _ _ e, e]
  | 6, hd => 
    by_cases e : g' = g
    · subst e
      have hw2 := hd.2; simp [zcell, upG_self, up2, funext_iff] <;> omega
    · simp [zcell, upG_ne _ _ e, e]
  | 7, hd => 
    by_cases e : g' = g
    · subst e
      have hw2 := hd.2; simp [zcell, upG_self, up2, funext_iff] <;> omega
    · simp [zcell, upG_ne _ _ e, e]
  | 8, hd => 
    by_cases e : g' = g
    · subst e
      simp [zcell, upG_self, up2, funext_iff]
    · simp [zcell, upG_ne _ _ e, e]
  | 9, hd => 
    by_cases e : g' = g
    · subst e
      simp [zcell, upG_self, up2, funext_iff]
    · simp [zcell, upG_ne _ _ e, e]
  | 10, hd => 
    have e : 7 ≠ g := by omega
    simp [zcell, upG_ne _ _ e]
  | 11, hd => 
    have e : 7 ≠ g := by omega
    simp [zcell, upG_ne _ _ e]
  | 12, hd => 
    have e : 7 ≠ g := by omega
    simp [zcell, upG_ne _ _ e]
  | 13, hd => 
    have e : 7 ≠ g := by omega
    simp [zcell, upG_ne _ _ e]
  | 14, hd => 
    have e : 7 ≠ g := by omega
    simp [zcell, upG_ne _ _ e]
  | 15, hd => 
    have e : 7 ≠ g := by omega
    simp [zcell, upG_ne _ _ e]
  | 16, hd => 
    have e : 8 ≠ g := by omega
    simp [zcell, upG_ne _ _ e]
  | 17, hd => 
    have e : 8 ≠ g := by omega
    simp [zcell, upG_ne _ _ e]
  | n + 18, hd => exact absurd (show n + 18 < 17 ∧ g' = 0 ∧ i' = 0 from hd).1 (by omega)
theorem zm_4_17 (G : zG) (V : zV3) (g : Nat) (hg : g < 7) (j : Nat) (x : Int32) : ∀ k' g' i', zdom k' g' i' → zcell G (upG V g (up2 (V g) 17 j x)) k' g' i' = if k' = 4 ∧ g' = g ∧ i' = 0 then .inl (gC G 0, 3, .inl (upd (V g 17) j x)) else zcell G V k' g' i' := by
  have h9 := zn_4_17 G V g hg (V g) j x
  rwa [upG_id] at h9
theorem zn_5_18 (G : zG) (V : zV3) (g : Nat) (hg : g < 7) (h : zV2) (j : Nat) (x : Int32) : ∀ k' g' i', zdom k' g' i' → zcell G (upG V g (up2 h 18 j x)) k' g' i' = if k' = 5 ∧ g' = g ∧ i' = 0 then .inl (gC G 0, 3, .inl (upd (h 18) j x)) else zcell G (upG V g h) k' g' i' := by
  intro k' g' i' hd
  match k', hd with
  | 0, hd => 
    by_cases e : g' = g
    · subst e
      simp [zcell, upG_self, up2, funext_iff]
    · simp [zcell, upG_ne _ _ e, e]
  | 1, hd => 
    by_cases e : g' = g
    · subst e
      simp [zcell, upG_self, up2, funext_iff]
    · simp [zcell, upG_ne _ _ e, e]
  | 2, hd => 
    by_cases e : g' = g
    · subst e
      simp [zcell, upG_self, up2, funext_iff]
    · simp [zcell, upG_ne _ _ e, e]
  | 3, hd => 
    by_cases e : g' = g
    · subst e
      have hw2 := hd.2; simp [zcell, upG_self, up2, funext_iff] <;> omega
    · simp [zcell, upG_ne _ _ e, e]
  | 4, hd => 
    by_cases e : g' = g
    · subst e
      simp [zcell, upG_self, up2, funext_iff]
    · simp [zcell, upG_ne _ _ e, e]
  | 5, hd => 
    by_cases e : g' = g
    · subst e
      have h2 := hd.2; subst h2; simp [zcell, upG_self, up2, upd, funext_iff]
    · simp [zcell, upG_ne _ _ e, e]
  | 6, hd => 
    by_cases e : g' = g
    · subst e
      have hw2 := hd.2; simp [zcell, upG_self, up2, funext_iff] <;> omega
    · simp [zcell, upG_ne _ _ e, e]
  | 7, hd => 
    by_cases e : g' = g
    · subst e
      have hw2 := hd.2; simp [zcell, upG_self, up2, funext_iff] <;> omega
    · simp [zcell, upG_ne _ _ e, e]
  | 8, hd => 
    by_cases e : g' = g
    · subst e
      simp [zcell, upG_self, up2, funext_iff]
    · simp [zcell, upG_ne _ _ e, e]
  | 9, hd => 
    by_cases e : g' = g
    · subst e
      simp [zcell, upG_self, up2, funext_iff]
    · simp [zcell, upG_ne _ _ e, e]
  | 10, hd => 
    have e : 7 ≠ g := by omega
    simp [zcell, upG_ne _ _ e]
  | 11, hd => 
    have e : 7 ≠ g := by omega
    simp [zcell, upG_ne _ _ e]
  | 12, hd => 
    have e : 7 ≠ g := by omega
    simp [zcell, upG_ne _ _ e]
  | 13, hd => 
    have e : 7 ≠ g := by omega
    simp [zcell, upG_ne _ _ e]
  | 14, hd => 
    have e : 7 ≠ g := by omega
    simp [zcell, upG_ne _ _ e]
  | 15, hd => 
    have e : 7 ≠ g := by omega
    simp [zcell, upG_ne _ _ e]
  | 16, hd => 
    have e : 8 ≠ g := by omega
    simp [zcell, upG_ne _ _ e]
  | 17, hd => 
    have e : 8 ≠ g := by omega
    simp [zcell, upG_ne _ _ e]
  | n + 18, hd => exact absurd (show n + 18 < 17 ∧ g' = 0 ∧ i' = 0 from hd).1 (by omega)
theorem zm_5_18 (G : zG) (V : zV3) (g : Nat) (hg : g < 7) (j : Nat) (x : Int32) : ∀ k' g' i', zdom k' g' i' → zcell G (upG V g (up2 (V g) 18 j x)) k' g' i' = if k' = 5 ∧ g' = g ∧ i' = 0 then .inl (gC G 0, 3, .inl (upd (V g 18) j x)) else zcell G V k' g' i' := by
  have h9 := zn_5_18 G V g hg (V g) j x
  rwa [upG_id] at h9
theorem zn_3_23 (G : zG) (V : zV3) (g : Nat) (hg : g < 7) (h : zV2) (w : Nat) (hw : w < 2) (x : Int32) : ∀ k' g' i', zdom k' g' i' → zcell G (upG V g (up2 h (23 + w) 0 x)) k' g' i' = if k' = 3 ∧ g' = g ∧ i' = w then .inr (2, [.ref (gA G 6 g w), .ref (gA G 7 g w), .int x]) else zcell G (upG V g h) k' g' i' := by
  intro k' g' i' hd
  match k', hd with
  | 0, hd => 
    by_cases e : g' = g
    · subst e
      simp [zcell, upG_self, up2, funext_iff] <;> omega
    · simp [zcell, upG_ne _ _ e, e]
  | 1, hd => 
    by_cases e : g' = g
    · subst e
      simp [zcell, upG_self, up2, funext_iff] <;> omega
    · simp [zcell, upG_ne _ _ e, e]
  | 2, hd => 
    by_cases e : g' = g
    · subst e
      simp [zcell, upG_self, up2, funext_iff] <;> omega
    · simp [zcell, upG_ne _ _ e, e]
  | 3, hd => 
    by_cases e : g' = g
    · subst e
      by_cases e2 : i' = w
      · subst e2; simp [zcell, upG_self, up2, upd, funext_iff]
      · simp [zcell, upG_self, up2, e2, funext_iff]
    · simp [zcell, upG_ne _ _ e, e]
  | 4, hd => 
    by_cases e : g' = g
    · subst e
      simp [zcell, upG_self, up2, funext_iff] <;> omega
    · simp [zcell, upG_ne _ _ e, e]
  | 5, hd => 
    by_cases e : g' = g
    · subst e
      simp [zcell, upG_self, up2, funext_iff] <;> omega
    · simp [zcell, upG_ne _ _ e, e]
  | 6, hd => 
    by_cases e : g' = g
    · subst e
      have hw2 := hd.2; simp [zcell, upG_self, up2, funext_iff] <;> omega
    · simp [zcell, upG_ne _ _ e, e]
  | 7, hd => 
    by_cases e : g' = g
    · subst e
      have hw2 := hd.2; simp [zcell, upG_self, up2, funext_iff] <;> omega
    · simp [zcell, upG_ne _ _ e, e]
  | 8, hd => 
    by_cases e : g' = g
    · subst e
      simp [zcell, upG_self, up2, funext_iff] <;> omega
    · simp [zcell, upG_ne _ _ e, e]
  | 9, hd => 
    by_cases e : g' = g
    · subst e
      simp [zcell, upG_self, up2, funext_iff] <;> omega
    · simp [zcell, upG_ne _ _ e, e]
  | 10, hd => 
    have e : 7 ≠ g := by omega
    simp [zcell, upG_ne _ _ e]
  | 11, hd => 
    have e : 7 ≠ g := by omega
    simp [zcell, upG_ne _ _ e]
  | 12, hd => 
    have e : 7 ≠ g := by omega
    simp [zcell, upG_ne _ _ e]
  | 13, hd => 
    have e : 7 ≠ g := by omega
    simp [zcell, upG_ne _ _ e]
  | 14, hd => 
    have e : 7 ≠ g := by omega
    simp [zcell, upG_ne _ _ e]
  | 15, hd => 
    have e : 7 ≠ g := by omega
    simp [zcell, upG_ne _ _ e]
  | 16, hd => 
    have e : 8 ≠ g := by omega
    simp [zcell, upG_ne _ _ e]
  | 17, hd => 
    have e : 8 ≠ g := by omega
    simp [zcell, upG_ne _ _ e]
  | n + 18, hd => exact absurd (show n + 18 < 17 ∧ g' = 0 ∧ i' = 0 from hd).1 (by omega)
theorem zm_3_23 (G : zG) (V : zV3) (g : Nat) (hg : g < 7) (w : Nat) (hw : w < 2) (x : Int32) : ∀ k' g' i', zdom k' g' i' → zcell G (upG V g (up2 (V g) (23 + w) 0 x)) k' g' i' = if k' = 3 ∧ g' = g ∧ i' = w then .inr (2, [.ref (gA G 6 g w), .ref (gA G 7 g w), .int x]) else zcell G V k' g' i' := by
  have h9 := zn_3_23 G V g hg (V g) w hw x
  rwa [upG_id] at h9
theorem zn_6_19 (G : zG) (V : zV3) (g : Nat) (hg : g < 7) (h : zV2) (w : Nat) (hw : w < 2) (j : Nat) (x : Int32) : ∀ k' g' i', zdom k' g' i' → zcell G (upG V g (up2 h (19 + w) j x)) k' g' i' = if k' = 6 ∧ g' = g ∧ i' = w then .inl (gC G 0, 10, .inl (upd (h (19 + w)) j x)) else zcell G (upG V g h) k' g' i' := by
  intro k' g' i' hd
  match k', hd with
  | 0, hd => 
    by_cases e : g' = g
    · subst e
      simp [zcell, upG_self, up2, funext_iff] <;> omega
    · simp [zcell, upG_ne _ _ e, e]
  | 1, hd => 
    by_cases e : g' = g
    · subst e
      simp [zcell, upG_self, up2, funext_iff] <;> omega
    · simp [zcell, upG_ne _ _ e, e]
  | 2, hd => 
    by_cases e : g' = g
    · subst e
      simp [zcell, upG_self, up2, funext_iff] <;> omega
    · simp [zcell, upG_ne _ _ e, e]
  | 3, hd => 
    by_cases e : g' = g
    · subst e
      have hw2 := hd.2; simp [zcell, upG_self, up2, funext_iff] <;> omega
    · simp [zcell, upG_ne _ _ e, e]
  | 4, hd => 
    by_cases e : g' = g
    · subst e
      simp [zcell, upG_self, up2, funext_iff] <;> omega
    · simp [zcell, upG_ne _ _ e, e]
  | 5, hd => 
    by_cases e : g' = g
    · subst e
      simp [zcell, upG_self, up2, funext_iff] <;> omega
    · simp [zcell, upG_ne _ _ e, e]
  | 6, hd => 
    by_cases e : g' = g
    · subst e
      by_cases e2 : i' = w
      · subst e2; simp [zcell, upG_self, up2, upd, funext_iff]
      · simp [zcell, upG_self, up2, e2, funext_iff]
    · simp [zcell, upG_ne _ _ e, e]
  | 7, hd => 
    by_cases e : g' = g
    · subst e
      have hw2 := hd.2; simp [zcell, upG_self, up2, funext_iff] <;> omega
    · simp [zcell, upG_ne _ _ e, e]
  | 8, hd => 
    by_cases e : g' = g
    · subst e
      simp [zcell, upG_self, up2, funext_iff] <;> omega
    · simp [zcell, upG_ne _ _ e, e]
  | 9, hd => 
    by_cases e : g' = g
    · subst e
      simp [zcell, upG_self, up2, funext_iff] <;> omega
    · simp [zcell, upG_ne _ _ e, e]
  | 10, hd => 
    have e : 7 ≠ g := by omega
    simp [zcell, upG_ne _ _ e]
  | 11, hd => 
    have e : 7 ≠ g := by omega
    simp [zcell, upG_ne _ _ e]
  | 12, hd => 
    have e : 7 ≠ g := by omega
    simp [zcell, upG_ne _ _ e]
  | 13, hd => 
    have e : 7 ≠ g := by omega
    simp [zcell, upG_ne _ _ e]
  | 14, hd => 
    have e : 7 ≠ g := by omega
    simp [zcell, upG_ne _ _ e]
  | 15, hd => 
    have e : 7 ≠ g := by omega
    simp [zcell, upG_ne _ _ e]
  | 16, hd => 
    have e : 8 ≠ g := by omega
    simp [zcell, upG_ne _ _ e]
  | 17, hd => 
    have e : 8 ≠ g := by omega
    simp [zcell, upG_ne _ _ e]
  | n + 18, hd => exact absurd (show n + 18 < 17 ∧ g' = 0 ∧ i' = 0 from hd).1 (by omega)
theorem zm_6_19 (G : zG) (V : zV3) (g : Nat) (hg : g < 7) (w : Nat) (hw : w < 2) (j : Nat) (x : Int32) : ∀ k' g' i', zdom k' g' i' → zcell G (upG V g (up2 (V g) (19 + w) j x)) k' g' i' = if k' = 6 ∧ g' = g ∧ i' = w then .inl (gC G 0, 10, .inl (upd (V g (19 + w)) j x)) else zcell G V k' g' i' := by
  have h9 := zn_6_19 G V g hg (V g) w hw j x
  rwa [upG_id] at h9
theorem zn_7_21 (G : zG) (V : zV3) (g : Nat) (hg : g < 7) (h : zV2) (w : Nat) (hw : w < 2) (j : Nat) (x : Int32) : ∀ k' g' i', zdom k' g' i' → zcell G (upG V g (up2 h (21 + w) j x)) k' g' i' = if k' = 7 ∧ g' = g ∧ i' = w then .inl (gC G 0, 10, .inl (upd (h (21 + w)) j x)) else zcell G (upG V g h) k' g' i' := by
  intro k' g' i' hd
  match k', hd with
  | 0, hd => 
    by_cases e : g' = g
    · subst e
      simp [zcell, upG_self, up2, funext_iff] <;> omega
    · simp [zcell, upG_ne _ _ e, e]
  | 1, hd => 
    by_cases e : g' = g
    · subst e
      simp [zcell, upG_self, up2, funext_iff] <;> omega
    · simp [zcell, upG_ne _ _ e, e]
  | 2, hd => 
    by_cases e : g' = g
    · subst e
      simp [zcell, upG_self, up2, funext_iff] <;> omega
    · simp [zcell, upG_ne _ _ e, e]
  | 3, hd => 
    by_cases e : g' = g
    · subst e
      have hw2 := hd.2; simp [zcell, upG_self, up2, funext_iff] <;> omega
    · simp [zcell, upG_ne _ _ e, e]
  | 4, hd => 
    by_cases e : g' = g
    · subst e
      simp [zcell, upG_self, up2, funext_iff] <;> omega
    · simp [zcell, upG_ne _ _ e, e]
  | 5, hd => 
    by_cases e : g' = g
    · subst e
      simp [zcell, upG_self, up2, funext_iff] <;> omega
    · simp [zcell, upG_ne _ _ e, e]
  | 6, hd => 
    by_cases e : g' = g
    · subst e
      have hw2 := hd.2; simp [zcell, upG_self, up2, funext_iff] <;> omega
    · simp [zcell, upG_ne _ _ e, e]
  | 7, hd => 
    by_cases e : g' = g
    · subst e
      by_cases e2 : i' = w
      · subst e2; simp [zcell, upG_self, up2, upd, funext_iff]
      · simp [zcell, upG_self, up2, e2, funext_iff]
    · simp [zcell, upG_ne _ _ e, e]
  | 8, hd => 
    by_cases e : g' = g
    · subst e
      simp [zcell, upG_self, up2, funext_iff] <;> omega
    · simp [zcell, upG_ne _ _ e, e]
  | 9, hd => 
    by_cases e : g' = g
    · subst e
      simp [zcell, upG_self, up2, funext_iff] <;> omega
    · simp [zcell, upG_ne _ _ e, e]
  | 10, hd => 
    have e : 7 ≠ g := by omega
    simp [zcell, upG_ne _ _ e]
  | 11, hd => 
    have e : 7 ≠ g := by omega
    simp [zcell, upG_ne _ _ e]
  | 12, hd => 
    have e : 7 ≠ g := by omega
    simp [zcell, upG_ne _ _ e]
  | 13, hd => 
    have e : 7 ≠ g := by omega
    simp [zcell, upG_ne _ _ e]
  | 14, hd => 
    have e : 7 ≠ g := by omega
    simp [zcell, upG_ne _ _ e]
  | 15, hd => 
    have e : 7 ≠ g := by omega
    simp [zcell, upG_ne _ _ e]
  | 16, hd => 
    have e : 8 ≠ g := by omega
    simp [zcell, upG_ne _ _ e]
  | 17, hd => 
    have e : 8 ≠ g := by omega
    simp [zcell, upG_ne _ _ e]
  | n + 18, hd => exact absurd (show n + 18 < 17 ∧ g' = 0 ∧ i' = 0 from hd).1 (by omega)
theorem zm_7_21 (G : zG) (V : zV3) (g : Nat) (hg : g < 7) (w : Nat) (hw : w < 2) (j : Nat) (x : Int32) : ∀ k' g' i', zdom k' g' i' → zcell G (upG V g (up2 (V g) (21 + w) j x)) k' g' i' = if k' = 7 ∧ g' = g ∧ i' = w then .inl (gC G 0, 10, .inl (upd (V g (21 + w)) j x)) else zcell G V k' g' i' := by
  have h9 := zn_7_21 G V g hg (V g) w hw j x
  rwa [upG_id] at h9
theorem zn_11_0 (G : zG) (V : zV3) (h : zV2) (x : Int32) : ∀ k' g' i', zdom k' g' i' → zcell G (upG V 7 (up2 h 0 0 x)) k' g' i' = if k' = 11 ∧ g' = 0 ∧ i' = 0 then .inr (1, [.ref (gA G 12 0 0), .int x, .int (h 1 0)]) else zcell G (upG V 7 h) k' g' i' := by
  intro k' g' i' hd
  match k', hd with
  | 0, hd => 
    have e : g' ≠ 7 := by have := hd.1; omega
    simp [zcell, upG_ne _ _ e]
  | 1, hd => 
    have e : g' ≠ 7 := by have := hd.1; omega
    simp [zcell, upG_ne _ _ e]
  | 2, hd => 
    have e : g' ≠ 7 := by have := hd.1; omega
    simp [zcell, upG_ne _ _ e]
  | 3, hd => 
    have e : g' ≠ 7 := by have := hd.1; omega
    simp [zcell, upG_ne _ _ e]
  | 4, hd => 
    have e : g' ≠ 7 := by have := hd.1; omega
    simp [zcell, upG_ne _ _ e]
  | 5, hd => 
    have e : g' ≠ 7 := by have := hd.1; omega
    simp [zcell, upG_ne _ _ e]
  | 6, hd => 
    have e : g' ≠ 7 := by have := hd.1; omega
    simp [zcell, upG_ne _ _ e]
  | 7, hd => 
    have e : g' ≠ 7 := by have := hd.1; omega
    simp [zcell, upG_ne _ _ e]
  | 8, hd => 
    have e : g' ≠ 7 := by have := hd.1; omega
    simp [zcell, upG_ne _ _ e]
  | 9, hd => 
    have e : g' ≠ 7 := by have := hd.1; omega
    simp [zcell, upG_ne _ _ e]
  | 10, hd => 
    simp [zcell, upG_self, up2, funext_iff]
  | 11, hd => 
    obtain ⟨-, h1, h2⟩ : 11 < 17 ∧ g' = 0 ∧ i' = 0 := hd; subst h1; subst h2
    simp [zcell, upG_self, up2, upd, funext_iff]
  | 12, hd => 
    simp [zcell, upG_self, up2, funext_iff]
  | 13, hd => 
    simp [zcell, upG_self, up2, funext_iff]
  | 14, hd => 
    simp [zcell, upG_self, up2, funext_iff]
  | 15, hd => 
    simp [zcell, upG_self, up2, funext_iff]
  | 16, hd => 
    simp [zcell, upG]
  | 17, hd => 
    simp [zcell, upG]
  | n + 18, hd => exact absurd (show n + 18 < 17 ∧ g' = 0 ∧ i' = 0 from hd).1 (by omega)
theorem zm_11_0 (G : zG) (V : zV3) (x : Int32) : ∀ k' g' i', zdom k' g' i' → zcell G (upG V 7 (up2 (V 7) 0 0 x)) k' g' i' = if k' = 11 ∧ g' = 0 ∧ i' = 0 then .inr (1, [.ref (gA G 12 0 0), .int x, .int (V 7 1 0)]) else zcell G V k' g' i' := by
  have h9 := zn_11_0 G V (V 7)  x
  rwa [upG_id] at h9
theorem zn_11_1 (G : zG) (V : zV3) (h : zV2) (x : Int32) : ∀ k' g' i', zdom k' g' i' → zcell G (upG V 7 (up2 h 1 0 x)) k' g' i' = if k' = 11 ∧ g' = 0 ∧ i' = 0 then .inr (1, [.ref (gA G 12 0 0), .int (h 0 0), .int x]) else zcell G (upG V 7 h) k' g' i' := by
  intro k' g' i' hd
  match k', hd with
  | 0, hd => 
    have e : g' ≠ 7 := by have := hd.1; omega
    simp [zcell, upG_ne _ _ e]
  | 1, hd => 
    have e : g' ≠ 7 := by have := hd.1; omega
    simp [zcell, upG_ne _ _ e]
  | 2, hd => 
    have e : g' ≠ 7 := by have := hd.1; omega
    simp [zcell, upG_ne _ _ e]
  | 3, hd => 
    have e : g' ≠ 7 := by have := hd.1; omega
    simp [zcell, upG_ne _ _ e]
  | 4, hd => 
    have e : g' ≠ 7 := by have := hd.1; omega
    simp [zcell, upG_ne _ _ e]
  | 5, hd => 
    have e : g' ≠ 7 := by have := hd.1; omega
    simp [zcell, upG_ne _ _ e]
  | 6, hd => 
    have e : g' ≠ 7 := by have := hd.1; omega
    simp [zcell, upG_ne _ _ e]
  | 7, hd => 
    have e : g' ≠ 7 := by have := hd.1; omega
    simp [zcell, upG_ne _ _ e]
  | 8, hd => 
    have e : g' ≠ 7 := by have := hd.1; omega
    simp [zcell, upG_ne _ _ e]
  | 9, hd => 
    have e : g' ≠ 7 := by have := hd.1; omega
    simp [zcell, upG_ne _ _ e]
  | 10, hd => 
    simp [zcell, upG_self, up2, funext_iff]
  | 11, hd => 
    obtain ⟨-, h1, h2⟩ : 11 < 17 ∧ g' = 0 ∧ i' = 0 := hd; subst h1; subst h2
    simp [zcell, upG_self, up2, upd, funext_iff]
  | 12, hd => 
    simp [zcell, upG_self, up2, funext_iff]
  | 13, hd => 
    simp [zcell, upG_self, up2, funext_iff]
  | 14, hd => 
    simp [zcell, upG_self, up2, funext_iff]
  | 15, hd => 
    simp [zcell, upG_self, up2, funext_iff]
  | 16, hd => 
    simp [zcell, upG]
  | 17, hd => 
    simp [zcell, upG]
  | n + 18, hd => exact absurd (show n + 18 < 17 ∧ g' = 0 ∧ i' = 0 from hd).1 (by omega)
theorem zm_11_1 (G : zG) (V : zV3) (x : Int32) : ∀ k' g' i', zdom k' g' i' → zcell G (upG V 7 (up2 (V 7) 1 0 x)) k' g' i' = if k' = 11 ∧ g' = 0 ∧ i' = 0 then .inr (1, [.ref (gA G 12 0 0), .int (V 7 0 0), .int x]) else zcell G V k' g' i' := by
  have h9 := zn_11_1 G V (V 7)  x
  rwa [upG_id] at h9
theorem zn_13_3 (G : zG) (V : zV3) (h : zV2) (x : Int32) : ∀ k' g' i', zdom k' g' i' → zcell G (upG V 7 (up2 h 3 0 x)) k' g' i' = if k' = 13 ∧ g' = 0 ∧ i' = 0 then .inr (6, [.ref (gA G 14 0 0), .int x, zverb G (h 4 0), .int (h 5 0), .int (h 6 0), .int (h 7 0)]) else zcell G (upG V 7 h) k' g' i' := by
  intro k' g' i' hd
  match k', hd with
  | 0, hd => 
    have e : g' ≠ 7 := by have := hd.1; omega
    simp [zcell, upG_ne _ _ e]
  | 1, hd => 
    have e : g' ≠ 7 := by have := hd.1; omega
    simp [zcell, upG_ne _ _ e]
  | 2, hd => 
    have e : g' ≠ 7 := by have := hd.1; omega
    simp [zcell, upG_ne _ _ e]
  | 3, hd => 
    have e : g' ≠ 7 := by have := hd.1; omega
    simp [zcell, upG_ne _ _ e]
  | 4, hd => 
    have e : g' ≠ 7 := by have := hd.1; omega
    simp [zcell, upG_ne _ _ e]
  | 5, hd => 
    have e : g' ≠ 7 := by have := hd.1; omega
    simp [zcell, upG_ne _ _ e]
  | 6, hd => 
    have e : g' ≠ 7 := by have := hd.1; omega
    simp [zcell, upG_ne _ _ e]
  | 7, hd => 
    have e : g' ≠ 7 := by have := hd.1; omega
    simp [zcell, upG_ne _ _ e]
  | 8, hd => 
    have e : g' ≠ 7 := by have := hd.1; omega
    simp [zcell, upG_ne _ _ e]
  | 9, hd => 
    have e : g' ≠ 7 := by have := hd.1; omega
    simp [zcell, upG_ne _ _ e]
  | 10, hd => 
    simp [zcell, upG_self, up2, funext_iff]
  | 11, hd => 
    simp [zcell, upG_self, up2, funext_iff]
  | 12, hd => 
    simp [zcell, upG_self, up2, funext_iff]
  | 13, hd => 
    obtain ⟨-, h1, h2⟩ : 13 < 17 ∧ g' = 0 ∧ i' = 0 := hd; subst h1; subst h2
    simp [zcell, upG_self, up2, upd, funext_iff]
  | 14, hd => 
    simp [zcell, upG_self, up2, funext_iff]
  | 15, hd => 
    simp [zcell, upG_self, up2, funext_iff]
  | 16, hd => 
    simp [zcell, upG]
  | 17, hd => 
    simp [zcell, upG]
  | n + 18, hd => exact absurd (show n + 18 < 17 ∧ g' = 0 ∧ i' = 0 from hd).1 (by omega)
theorem zm_13_3 (G : zG) (V : zV3) (x : Int32) : ∀ k' g' i', zdom k' g' i' → zcell G (upG V 7 (up2 (V 7) 3 0 x)) k' g' i' = if k' = 13 ∧ g' = 0 ∧ i' = 0 then .inr (6, [.ref (gA G 14 0 0), .int x, zverb G (V 7 4 0), .int (V 7 5 0), .int (V 7 6 0), .int (V 7 7 0)]) else zcell G V k' g' i' := by
  have h9 := zn_13_3 G V (V 7)  x
  rwa [upG_id] at h9
theorem zn_13_5 (G : zG) (V : zV3) (h : zV2) (x : Int32) : ∀ k' g' i', zdom k' g' i' → zcell G (upG V 7 (up2 h 5 0 x)) k' g' i' = if k' = 13 ∧ g' = 0 ∧ i' = 0 then .inr (6, [.ref (gA G 14 0 0), .int (h 3 0), zverb G (h 4 0), .int x, .int (h 6 0), .int (h 7 0)]) else zcell G (upG V 7 h) k' g' i' := by
  intro k' g' i' hd
  match k', hd with
  | 0, hd => 
    have e : g' ≠ 7 := by have := hd.1; omega
    simp [zcell, upG_ne _ _ e]
  | 1, hd => 
    have e : g' ≠ 7 := by have := hd.1; omega
    simp [zcell, upG_ne _ _ e]
  | 2, hd => 
    have e : g' ≠ 7 := by have := hd.1; omega
    simp [zcell, upG_ne _ _ e]
  | 3, hd => 
    have e : g' ≠ 7 := by have := hd.1; omega
    simp [zcell, upG_ne _ _ e]
  | 4, hd => 
    have e : g' ≠ 7 := by have := hd.1; omega
    simp [zcell, upG_ne _ _ e]
  | 5, hd => 
    have e : g' ≠ 7 := by have := hd.1; omega
    simp [zcell, upG_ne _ _ e]
  | 6, hd => 
    have e : g' ≠ 7 := by have := hd.1; omega
    simp [zcell, upG_ne _ _ e]
  | 7, hd => 
    have e : g' ≠ 7 := by have := hd.1; omega
    simp [zcell, upG_ne _ _ e]
  | 8, hd => 
    have e : g' ≠ 7 := by have := hd.1; omega
    simp [zcell, upG_ne _ _ e]
  | 9, hd => 
    have e : g' ≠ 7 := by have := hd.1; omega
    simp [zcell, upG_ne _ _ e]
  | 10, hd => 
    simp [zcell, upG_self, up2, funext_iff]
  | 11, hd => 
    simp [zcell, upG_self, up2, funext_iff]
  | 12, hd => 
    simp [zcell, upG_self, up2, funext_iff]
  | 13, hd => 
    obtain ⟨-, h1, h2⟩ : 13 < 17 ∧ g' = 0 ∧ i' = 0 := hd; subst h1; subst h2
    simp [zcell, upG_self, up2, upd, funext_iff]
  | 14, hd => 
    simp [zcell, upG_self, up2, funext_iff]
  | 15, hd => 
    simp [zcell, upG_self, up2, funext_iff]
  | 16, hd => 
    simp [zcell, upG]
  | 17, hd => 
    simp [zcell, upG]
  | n + 18, hd => exact absurd (show n + 18 < 17 ∧ g' = 0 ∧ i' = 0 from hd).1 (by omega)
theorem zm_13_5 (G : zG) (V : zV3) (x : Int32) : ∀ k' g' i', zdom k' g' i' → zcell G (upG V 7 (up2 (V 7) 5 0 x)) k' g' i' = if k' = 13 ∧ g' = 0 ∧ i' = 0 then .inr (6, [.ref (gA G 14 0 0), .int (V 7 3 0), zverb G (V 7 4 0), .int x, .int (V 7 6 0), .int (V 7 7 0)]) else zcell G V k' g' i' := by
  have h9 := zn_13_5 G V (V 7)  x
  rwa [upG_id] at h9
theorem zn_13_6 (G : zG) (V : zV3) (h : zV2) (x : Int32) : ∀ k' g' i', zdom k' g' i' → zcell G (upG V 7 (up2 h 6 0 x)) k' g' i' = if k' = 13 ∧ g' = 0 ∧ i' = 0 then .inr (6, [.ref (gA G 14 0 0), .int (h 3 0), zverb G (h 4 0), .int (h 5 0), .int x, .int (h 7 0)]) else zcell G (upG V 7 h) k' g' i' := by
  intro k' g' i' hd
  match k', hd with
  | 0, hd => 
    have e : g' ≠ 7 := by have := hd.1; omega
    simp [zcell, upG_ne _ _ e]
  | 1, hd => 
    have e : g' ≠ 7 := by have := hd.1; omega
    simp [zcell, upG_ne _ _ e]
  | 2, hd => 
    have e : g' ≠ 7 := by have := hd.1; omega
    simp [zcell, upG_ne _ _ e]
  | 3, hd => 
    have e : g' ≠ 7 := by have := hd.1; omega
    simp [zcell, upG_ne _ _ e]
  | 4, hd => 
    have e : g' ≠ 7 := by have := hd.1; omega
    simp [zcell, upG_ne _ _ e]
  | 5, hd => 
    have e : g' ≠ 7 := by have := hd.1; omega
    simp [zcell, upG_ne _ _ e]
  | 6, hd => 
    have e : g' ≠ 7 := by have := hd.1; omega
    simp [zcell, upG_ne _ _ e]
  | 7, hd => 
    have e : g' ≠ 7 := by have := hd.1; omega
    simp [zcell, upG_ne _ _ e]
  | 8, hd => 
    have e : g' ≠ 7 := by have := hd.1; omega
    simp [zcell, upG_ne _ _ e]
  | 9, hd => 
    have e : g' ≠ 7 := by have := hd.1; omega
    simp [zcell, upG_ne _ _ e]
  | 10, hd => 
    simp [zcell, upG_self, up2, funext_iff]
  | 11, hd => 
    simp [zcell, upG_self, up2, funext_iff]
  | 12, hd => 
    simp [zcell, upG_self, up2, funext_iff]
  | 13, hd => 
    obtain ⟨-, h1, h2⟩ : 13 < 17 ∧ g' = 0 ∧ i' = 0 := hd; subst h1; subst h2
    simp [zcell, upG_self, up2, upd, funext_iff]
  | 14, hd => 
    simp [zcell, upG_self, up2, funext_iff]
  | 15, hd => 
    simp [zcell, upG_self, up2, funext_iff]
  | 16, hd => 
    simp [zcell, upG]
  | 17, hd => 
    simp [zcell, upG]
  | n + 18, hd => exact absurd (show n + 18 < 17 ∧ g' = 0 ∧ i' = 0 from hd).1 (by omega)
theorem zm_13_6 (G : zG) (V : zV3) (x : Int32) : ∀ k' g' i', zdom k' g' i' → zcell G (upG V 7 (up2 (V 7) 6 0 x)) k' g' i' = if k' = 13 ∧ g' = 0 ∧ i' = 0 then .inr (6, [.ref (gA G 14 0 0), .int (V 7 3 0), zverb G (V 7 4 0), .int (V 7 5 0), .int x, .int (V 7 7 0)]) else zcell G V k' g' i' := by
  have h9 := zn_13_6 G V (V 7)  x
  rwa [upG_id] at h9
theorem zn_13_7 (G : zG) (V : zV3) (h : zV2) (x : Int32) : ∀ k' g' i', zdom k' g' i' → zcell G (upG V 7 (up2 h 7 0 x)) k' g' i' = if k' = 13 ∧ g' = 0 ∧ i' = 0 then .inr (6, [.ref (gA G 14 0 0), .int (h 3 0), zverb G (h 4 0), .int (h 5 0), .int (h 6 0), .int x]) else zcell G (upG V 7 h) k' g' i' := by
  intro k' g' i' hd
  match k', hd with
  | 0, hd => 
    have e : g' ≠ 7 := by have := hd.1; omega
    simp [zcell, upG_ne _ _ e]
  | 1, hd => 
    have e : g' ≠ 7 := by have := hd.1; omega
    simp [zcell, upG_ne _ _ e]
  | 2, hd => 
    have e : g' ≠ 7 := by have := hd.1; omega
    simp [zcell, upG_ne _ _ e]
  | 3, hd => 
    have e : g' ≠ 7 := by have := hd.1; omega
    simp [zcell, upG_ne _ _ e]
  | 4, hd => 
    have e : g' ≠ 7 := by have := hd.1; omega
    simp [zcell, upG_ne _ _ e]
  | 5, hd => 
    have e : g' ≠ 7 := by have := hd.1; omega
    simp [zcell, upG_ne _ _ e]
  | 6, hd => 
    have e : g' ≠ 7 := by have := hd.1; omega
    simp [zcell, upG_ne _ _ e]
  | 7, hd => 
    have e : g' ≠ 7 := by have := hd.1; omega
    simp [zcell, upG_ne _ _ e]
  | 8, hd => 
    have e : g' ≠ 7 := by have := hd.1; omega
    simp [zcell, upG_ne _ _ e]
  | 9, hd => 
    have e : g' ≠ 7 := by have := hd.1; omega
    simp [zcell, upG_ne _ _ e]
  | 10, hd => 
    simp [zcell, upG_self, up2, funext_iff]
  | 11, hd => 
    simp [zcell, upG_self, up2, funext_iff]
  | 12, hd => 
    simp [zcell, upG_self, up2, funext_iff]
  | 13, hd => 
    obtain ⟨-, h1, h2⟩ : 13 < 17 ∧ g' = 0 ∧ i' = 0 := hd; subst h1; subst h2
    simp [zcell, upG_self, up2, upd, funext_iff]
  | 14, hd => 
    simp [zcell, upG_self, up2, funext_iff]
  | 15, hd => 
    simp [zcell, upG_self, up2, funext_iff]
  | 16, hd => 
    simp [zcell, upG]
  | 17, hd => 
    simp [zcell, upG]
  | n + 18, hd => exact absurd (show n + 18 < 17 ∧ g' = 0 ∧ i' = 0 from hd).1 (by omega)
theorem zm_13_7 (G : zG) (V : zV3) (x : Int32) : ∀ k' g' i', zdom k' g' i' → zcell G (upG V 7 (up2 (V 7) 7 0 x)) k' g' i' = if k' = 13 ∧ g' = 0 ∧ i' = 0 then .inr (6, [.ref (gA G 14 0 0), .int (V 7 3 0), zverb G (V 7 4 0), .int (V 7 5 0), .int (V 7 6 0), .int x]) else zcell G V k' g' i' := by
  have h9 := zn_13_7 G V (V 7)  x
  rwa [upG_id] at h9
theorem zn_13_4 (G : zG) (V : zV3) (h : zV2) (x : Int32) : ∀ k' g' i', zdom k' g' i' → zcell G (upG V 7 (up2 h 4 0 x)) k' g' i' = if k' = 13 ∧ g' = 0 ∧ i' = 0 then .inr (6, [.ref (gA G 14 0 0), .int (h 3 0), zverb G x, .int (h 5 0), .int (h 6 0), .int (h 7 0)]) else zcell G (upG V 7 h) k' g' i' := by
  intro k' g' i' hd
  match k', hd with
  | 0, hd => 
    have e : g' ≠ 7 := by have := hd.1; omega
    simp [zcell, upG_ne _ _ e]
  | 1, hd => 
    have e : g' ≠ 7 := by have := hd.1; omega
    simp [zcell, upG_ne _ _ e]
  | 2, hd => 
    have e : g' ≠ 7 := by have := hd.1; omega
    simp [zcell, upG_ne _ _ e]
  | 3, hd => 
    have e : g' ≠ 7 := by have := hd.1; omega
    simp [zcell, upG_ne _ _ e]
  | 4, hd => 
    have e : g' ≠ 7 := by have := hd.1; omega
    simp [zcell, upG_ne _ _ e]
  | 5, hd => 
    have e : g' ≠ 7 := by have := hd.1; omega
    simp [zcell, upG_ne _ _ e]
  | 6, hd => 
    have e : g' ≠ 7 := by have := hd.1; omega
    simp [zcell, upG_ne _ _ e]
  | 7, hd => 
    have e : g' ≠ 7 := by have := hd.1; omega
    simp [zcell, upG_ne _ _ e]
  | 8, hd => 
    have e : g' ≠ 7 := by have := hd.1; omega
    simp [zcell, upG_ne _ _ e]
  | 9, hd => 
    have e : g' ≠ 7 := by have := hd.1; omega
    simp [zcell, upG_ne _ _ e]
  | 10, hd => 
    simp [zcell, upG_self, up2, funext_iff]
  | 11, hd => 
    simp [zcell, upG_self, up2, funext_iff]
  | 12, hd => 
    simp [zcell, upG_self, up2, funext_iff]
  | 13, hd => 
    obtain ⟨-, h1, h2⟩ : 13 < 17 ∧ g' = 0 ∧ i' = 0 := hd; subst h1; subst h2
    simp [zcell, upG_self, up2, upd, funext_iff]
  | 14, hd => 
    simp [zcell, upG_self, up2, funext_iff]
  | 15, hd => 
    simp [zcell, upG_self, up2, funext_iff]
  | 16, hd => 
    simp [zcell, upG]
  | 17, hd => 
    simp [zcell, upG]
  | n + 18, hd => exact absurd (show n + 18 < 17 ∧ g' = 0 ∧ i' = 0 from hd).1 (by omega)
theorem zm_13_4 (G : zG) (V : zV3) (x : Int32) : ∀ k' g' i', zdom k' g' i' → zcell G (upG V 7 (up2 (V 7) 4 0 x)) k' g' i' = if k' = 13 ∧ g' = 0 ∧ i' = 0 then .inr (6, [.ref (gA G 14 0 0), .int (V 7 3 0), zverb G x, .int (V 7 5 0), .int (V 7 6 0), .int (V 7 7 0)]) else zcell G V k' g' i' := by
  have h9 := zn_13_4 G V (V 7)  x
  rwa [upG_id] at h9
theorem zn_14_2 (G : zG) (V : zV3) (h : zV2) (j : Nat) (x : Int32) : ∀ k' g' i', zdom k' g' i' → zcell G (upG V 7 (up2 h 2 j x)) k' g' i' = if k' = 14 ∧ g' = 0 ∧ i' = 0 then .inl (gC G 1, 80, .inl (upd (h 2) j x)) else zcell G (upG V 7 h) k' g' i' := by
  intro k' g' i' hd
  match k', hd with
  | 0, hd => 
    have e : g' ≠ 7 := by have := hd.1; omega
    simp [zcell, upG_ne _ _ e]
  | 1, hd => 
    have e : g' ≠ 7 := by have := hd.1; omega
    simp [zcell, upG_ne _ _ e]
  | 2, hd => 
    have e : g' ≠ 7 := by have := hd.1; omega
    simp [zcell, upG_ne _ _ e]
  | 3, hd => 
    have e : g' ≠ 7 := by have := hd.1; omega
    simp [zcell, upG_ne _ _ e]
  | 4, hd => 
    have e : g' ≠ 7 := by have := hd.1; omega
    simp [zcell, upG_ne _ _ e]
  | 5, hd => 
    have e : g' ≠ 7 := by have := hd.1; omega
    simp [zcell, upG_ne _ _ e]
  | 6, hd => 
    have e : g' ≠ 7 := by have := hd.1; omega
    simp [zcell, upG_ne _ _ e]
  | 7, hd => 
    have e : g' ≠ 7 := by have := hd.1; omega
    simp [zcell, upG_ne _ _ e]
  | 8, hd => 
    have e : g' ≠ 7 := by have := hd.1; omega
    simp [zcell, upG_ne _ _ e]
  | 9, hd => 
    have e : g' ≠ 7 := by have := hd.1; omega
    simp [zcell, upG_ne _ _ e]
  | 10, hd => 
    simp [zcell, upG_self, up2, funext_iff]
  | 11, hd => 
    simp [zcell, upG_self, up2, funext_iff]
  | 12, hd => 
    simp [zcell, upG_self, up2, funext_iff]
  | 13, hd => 
    simp [zcell, upG_self, up2, funext_iff]
  | 14, hd => 
    obtain ⟨-, h1, h2⟩ : 14 < 17 ∧ g' = 0 ∧ i' = 0 := hd; subst h1; subst h2
    simp [zcell, upG_self, up2, upd, funext_iff]
  | 15, hd => 
    simp [zcell, upG_self, up2, funext_iff]
  | 16, hd => 
    simp [zcell, upG]
  | 17, hd => 
    simp [zcell, upG]
  | n + 18, hd => exact absurd (show n + 18 < 17 ∧ g' = 0 ∧ i' = 0 from hd).1 (by omega)
theorem zm_14_2 (G : zG) (V : zV3) (j : Nat) (x : Int32) : ∀ k' g' i', zdom k' g' i' → zcell G (upG V 7 (up2 (V 7) 2 j x)) k' g' i' = if k' = 14 ∧ g' = 0 ∧ i' = 0 then .inl (gC G 1, 80, .inl (upd (V 7 2) j x)) else zcell G V k' g' i' := by
  have h9 := zn_14_2 G V (V 7) j x
  rwa [upG_id] at h9
theorem zn_15_8 (G : zG) (V : zV3) (h : zV2) (x : Int32) : ∀ k' g' i', zdom k' g' i' → zcell G (upG V 7 (up2 h 8 0 x)) k' g' i' = if k' = 15 ∧ g' = 0 ∧ i' = 0 then .inr (5, [.ref (gA G 0 6 0), .int x, .int (h 9 0), .int (h 10 0), .int (h 11 0)]) else zcell G (upG V 7 h) k' g' i' := by
  intro k' g' i' hd
  match k', hd with
  | 0, hd => 
    have e : g' ≠ 7 := by have := hd.1; omega
    simp [zcell, upG_ne _ _ e]
  | 1, hd => 
    have e : g' ≠ 7 := by have := hd.1; omega
    simp [zcell, upG_ne _ _ e]
  | 2, hd => 
    have e : g' ≠ 7 := by have := hd.1; omega
    simp [zcell, upG_ne _ _ e]
  | 3, hd => 
    have e : g' ≠ 7 := by have := hd.1; omega
    simp [zcell, upG_ne _ _ e]
  | 4, hd => 
    have e : g' ≠ 7 := by have := hd.1; omega
    simp [zcell, upG_ne _ _ e]
  | 5, hd => 
    have e : g' ≠ 7 := by have := hd.1; omega
    simp [zcell, upG_ne _ _ e]
  | 6, hd => 
    have e : g' ≠ 7 := by have := hd.1; omega
    simp [zcell, upG_ne _ _ e]
  | 7, hd => 
    have e : g' ≠ 7 := by have := hd.1; omega
    simp [zcell, upG_ne _ _ e]
  | 8, hd => 
    have e : g' ≠ 7 := by have := hd.1; omega
    simp [zcell, upG_ne _ _ e]
  | 9, hd => 
    have e : g' ≠ 7 := by have := hd.1; omega
    simp [zcell, upG_ne _ _ e]
  | 10, hd => 
    simp [zcell, upG_self, up2, funext_iff]
  | 11, hd => 
    simp [zcell, upG_self, up2, funext_iff]
  | 12, hd => 
    simp [zcell, upG_self, up2, funext_iff]
  | 13, hd => 
    simp [zcell, upG_self, up2, funext_iff]
  | 14, hd => 
    simp [zcell, upG_self, up2, funext_iff]
  | 15, hd => 
    obtain ⟨-, h1, h2⟩ : 15 < 17 ∧ g' = 0 ∧ i' = 0 := hd; subst h1; subst h2
    simp [zcell, upG_self, up2, upd, funext_iff]
  | 16, hd => 
    simp [zcell, upG]
  | 17, hd => 
    simp [zcell, upG]
  | n + 18, hd => exact absurd (show n + 18 < 17 ∧ g' = 0 ∧ i' = 0 from hd).1 (by omega)
theorem zm_15_8 (G : zG) (V : zV3) (x : Int32) : ∀ k' g' i', zdom k' g' i' → zcell G (upG V 7 (up2 (V 7) 8 0 x)) k' g' i' = if k' = 15 ∧ g' = 0 ∧ i' = 0 then .inr (5, [.ref (gA G 0 6 0), .int x, .int (V 7 9 0), .int (V 7 10 0), .int (V 7 11 0)]) else zcell G V k' g' i' := by
  have h9 := zn_15_8 G V (V 7)  x
  rwa [upG_id] at h9
theorem zn_15_9 (G : zG) (V : zV3) (h : zV2) (x : Int32) : ∀ k' g' i', zdom k' g' i' → zcell G (upG V 7 (up2 h 9 0 x)) k' g' i' = if k' = 15 ∧ g' = 0 ∧ i' = 0 then .inr (5, [.ref (gA G 0 6 0), .int (h 8 0), .int x, .int (h 10 0), .int (h 11 0)]) else zcell G (upG V 7 h) k' g' i' := by
  intro k' g' i' hd
  match k', hd with
  | 0, hd => 
    have e : g' ≠ 7 := by have := hd.1; omega
    simp [zcell, upG_ne _ _ e]
  | 1, hd => 
    have e : g' ≠ 7 := by have := hd.1; omega
    simp [zcell, upG_ne _ _ e]
  | 2, hd => 
    have e : g' ≠ 7 := by have := hd.1; omega
    simp [zcell, upG_ne _ _ e]
  | 3, hd => 
    have e : g' ≠ 7 := by have := hd.1; omega
    simp [zcell, upG_ne _ _ e]
  | 4, hd => 
    have e : g' ≠ 7 := by have := hd.1; omega
    simp [zcell, upG_ne _ _ e]
  | 5, hd => 
    have e : g' ≠ 7 := by have := hd.1; omega
    simp [zcell, upG_ne _ _ e]
  | 6, hd => 
    have e : g' ≠ 7 := by have := hd.1; omega
    simp [zcell, upG_ne _ _ e]
  | 7, hd => 
    have e : g' ≠ 7 := by have := hd.1; omega
    simp [zcell, upG_ne _ _ e]
  | 8, hd => 
    have e : g' ≠ 7 := by have := hd.1; omega
    simp [zcell, upG_ne _ _ e]
  | 9, hd => 
    have e : g' ≠ 7 := by have := hd.1; omega
    simp [zcell, upG_ne _ _ e]
  | 10, hd => 
    simp [zcell, upG_self, up2, funext_iff]
  | 11, hd => 
    simp [zcell, upG_self, up2, funext_iff]
  | 12, hd => 
    simp [zcell, upG_self, up2, funext_iff]
  | 13, hd => 
    simp [zcell, upG_self, up2, funext_iff]
  | 14, hd => 
    simp [zcell, upG_self, up2, funext_iff]
  | 15, hd => 
    obtain ⟨-, h1, h2⟩ : 15 < 17 ∧ g' = 0 ∧ i' = 0 := hd; subst h1; subst h2
    simp [zcell, upG_self, up2, upd, funext_iff]
  | 16, hd => 
    simp [zcell, upG]
  | 17, hd => 
    simp [zcell, upG]
  | n + 18, hd => exact absurd (show n + 18 < 17 ∧ g' = 0 ∧ i' = 0 from hd).1 (by omega)
theorem zm_15_9 (G : zG) (V : zV3) (x : Int32) : ∀ k' g' i', zdom k' g' i' → zcell G (upG V 7 (up2 (V 7) 9 0 x)) k' g' i' = if k' = 15 ∧ g' = 0 ∧ i' = 0 then .inr (5, [.ref (gA G 0 6 0), .int (V 7 8 0), .int x, .int (V 7 10 0), .int (V 7 11 0)]) else zcell G V k' g' i' := by
  have h9 := zn_15_9 G V (V 7)  x
  rwa [upG_id] at h9
theorem zn_15_10 (G : zG) (V : zV3) (h : zV2) (x : Int32) : ∀ k' g' i', zdom k' g' i' → zcell G (upG V 7 (up2 h 10 0 x)) k' g' i' = if k' = 15 ∧ g' = 0 ∧ i' = 0 then .inr (5, [.ref (gA G 0 6 0), .int (h 8 0), .int (h 9 0), .int x, .int (h 11 0)]) else zcell G (upG V 7 h) k' g' i' := by
  intro k' g' i' hd
  match k', hd with
  | 0, hd => 
    have e : g' ≠ 7 := by have := hd.1; omega
    simp [zcell, upG_ne _ _ e]
  | 1, hd => 
    have e : g' ≠ 7 := by have := hd.1; omega
    simp [zcell, upG_ne _ _ e]
  | 2, hd => 
    have e : g' ≠ 7 := by have := hd.1; omega
    simp [zcell, upG_ne _ _ e]
  | 3, hd => 
    have e : g' ≠ 7 := by have := hd.1; omega
    simp [zcell, upG_ne _ _ e]
  | 4, hd => 
    have e : g' ≠ 7 := by have := hd.1; omega
    simp [zcell, upG_ne _ _ e]
  | 5, hd => 
    have e : g' ≠ 7 := by have := hd.1; omega
    simp [zcell, upG_ne _ _ e]
  | 6, hd => 
    have e : g' ≠ 7 := by have := hd.1; omega
    simp [zcell, upG_ne _ _ e]
  | 7, hd => 
    have e : g' ≠ 7 := by have := hd.1; omega
    simp [zcell, upG_ne _ _ e]
  | 8, hd => 
    have e : g' ≠ 7 := by have := hd.1; omega
    simp [zcell, upG_ne _ _ e]
  | 9, hd => 
    have e : g' ≠ 7 := by have := hd.1; omega
    simp [zcell, upG_ne _ _ e]
  | 10, hd => 
    simp [zcell, upG_self, up2, funext_iff]
  | 11, hd => 
    simp [zcell, upG_self, up2, funext_iff]
  | 12, hd => 
    simp [zcell, upG_self, up2, funext_iff]
  | 13, hd => 
    simp [zcell, upG_self, up2, funext_iff]
  | 14, hd => 
    simp [zcell, upG_self, up2, funext_iff]
  | 15, hd => 
    obtain ⟨-, h1, h2⟩ : 15 < 17 ∧ g' = 0 ∧ i' = 0 := hd; subst h1; subst h2
    simp [zcell, upG_self, up2, upd, funext_iff]
  | 16, hd => 
    simp [zcell, upG]
  | 17, hd => 
    simp [zcell, upG]
  | n + 18, hd => exact absurd (show n + 18 < 17 ∧ g' = 0 ∧ i' = 0 from hd).1 (by omega)
theorem zm_15_10 (G : zG) (V : zV3) (x : Int32) : ∀ k' g' i', zdom k' g' i' → zcell G (upG V 7 (up2 (V 7) 10 0 x)) k' g' i' = if k' = 15 ∧ g' = 0 ∧ i' = 0 then .inr (5, [.ref (gA G 0 6 0), .int (V 7 8 0), .int (V 7 9 0), .int x, .int (V 7 11 0)]) else zcell G V k' g' i' := by
  have h9 := zn_15_10 G V (V 7)  x
  rwa [upG_id] at h9
theorem zn_15_11 (G : zG) (V : zV3) (h : zV2) (x : Int32) : ∀ k' g' i', zdom k' g' i' → zcell G (upG V 7 (up2 h 11 0 x)) k' g' i' = if k' = 15 ∧ g' = 0 ∧ i' = 0 then .inr (5, [.ref (gA G 0 6 0), .int (h 8 0), .int (h 9 0), .int (h 10 0), .int x]) else zcell G (upG V 7 h) k' g' i' := by
  intro k' g' i' hd
  match k', hd with
  | 0, hd => 
    have e : g' ≠ 7 := by have := hd.1; omega
    simp [zcell, upG_ne _ _ e]
  | 1, hd => 
    have e : g' ≠ 7 := by have := hd.1; omega
    simp [zcell, upG_ne _ _ e]
  | 2, hd => 
    have e : g' ≠ 7 := by have := hd.1; omega
    simp [zcell, upG_ne _ _ e]
  | 3, hd => 
    have e : g' ≠ 7 := by have := hd.1; omega
    simp [zcell, upG_ne _ _ e]
  | 4, hd => 
    have e : g' ≠ 7 := by have := hd.1; omega
    simp [zcell, upG_ne _ _ e]
  | 5, hd => 
    have e : g' ≠ 7 := by have := hd.1; omega
    simp [zcell, upG_ne _ _ e]
  | 6, hd => 
    have e : g' ≠ 7 := by have := hd.1; omega
    simp [zcell, upG_ne _ _ e]
  | 7, hd => 
    have e : g' ≠ 7 := by have := hd.1; omega
    simp [zcell, upG_ne _ _ e]
  | 8, hd => 
    have e : g' ≠ 7 := by have := hd.1; omega
    simp [zcell, upG_ne _ _ e]
  | 9, hd => 
    have e : g' ≠ 7 := by have := hd.1; omega
    simp [zcell, upG_ne _ _ e]
  | 10, hd => 
    simp [zcell, upG_self, up2, funext_iff]
  | 11, hd => 
    simp [zcell, upG_self, up2, funext_iff]
  | 12, hd => 
    simp [zcell, upG_self, up2, funext_iff]
  | 13, hd => 
    simp [zcell, upG_self, up2, funext_iff]
  | 14, hd => 
    simp [zcell, upG_self, up2, funext_iff]
  | 15, hd => 
    obtain ⟨-, h1, h2⟩ : 15 < 17 ∧ g' = 0 ∧ i' = 0 := hd; subst h1; subst h2
    simp [zcell, upG_self, up2, upd, funext_iff]
  | 16, hd => 
    simp [zcell, upG]
  | 17, hd => 
    simp [zcell, upG]
  | n + 18, hd => exact absurd (show n + 18 < 17 ∧ g' = 0 ∧ i' = 0 from hd).1 (by omega)
theorem zm_15_11 (G : zG) (V : zV3) (x : Int32) : ∀ k' g' i', zdom k' g' i' → zcell G (upG V 7 (up2 (V 7) 11 0 x)) k' g' i' = if k' = 15 ∧ g' = 0 ∧ i' = 0 then .inr (5, [.ref (gA G 0 6 0), .int (V 7 8 0), .int (V 7 9 0), .int (V 7 10 0), .int x]) else zcell G V k' g' i' := by
  have h9 := zn_15_11 G V (V 7)  x
  rwa [upG_id] at h9
theorem zn_16_6 (G : zG) (V : zV3) (h : zV2) (x : Int32) : ∀ k' g' i', zdom k' g' i' → zcell G (upG V 8 (up2 h 6 0 x)) k' g' i' = if k' = 16 ∧ g' = 0 ∧ i' = 0 then .inr (8, [.ref (gA G 17 0 0), .ref (gA G 17 0 1), .ref (gA G 17 0 2), .ref (gA G 17 0 3), .int x, .ref (gA G 17 0 4), .int (h 7 0), .int (h 8 0), .int (h 9 0), .int (h 10 0), .int (h 11 0), .ref (gA G 17 0 5)]) else zcell G (upG V 8 h) k' g' i' := by
  intro k' g' i' hd
  match k', hd with
  | 0, hd => 
    have e : g' ≠ 8 := by have := hd.1; omega
    simp [zcell, upG_ne _ _ e]
  | 1, hd => 
    have e : g' ≠ 8 := by have := hd.1; omega
    simp [zcell, upG_ne _ _ e]
  | 2, hd => 
    have e : g' ≠ 8 := by have := hd.1; omega
    simp [zcell, upG_ne _ _ e]
  | 3, hd => 
    have e : g' ≠ 8 := by have := hd.1; omega
    simp [zcell, upG_ne _ _ e]
  | 4, hd => 
    have e : g' ≠ 8 := by have := hd.1; omega
    simp [zcell, upG_ne _ _ e]
  | 5, hd => 
    have e : g' ≠ 8 := by have := hd.1; omega
    simp [zcell, upG_ne _ _ e]
  | 6, hd => 
    have e : g' ≠ 8 := by have := hd.1; omega
    simp [zcell, upG_ne _ _ e]
  | 7, hd => 
    have e : g' ≠ 8 := by have := hd.1; omega
    simp [zcell, upG_ne _ _ e]
  | 8, hd => 
    have e : g' ≠ 8 := by have := hd.1; omega
    simp [zcell, upG_ne _ _ e]
  | 9, hd => 
    have e : g' ≠ 8 := by have := hd.1; omega
    simp [zcell, upG_ne _ _ e]
  | 10, hd => 
    simp [zcell, upG]
  | 11, hd => 
    simp [zcell, upG]
  | 12, hd => 
    simp [zcell, upG]
  | 13, hd => 
    simp [zcell, upG]
  | 14, hd => 
    simp [zcell, upG]
  | 15, hd => 
    simp [zcell, upG]
  | 16, hd => 
    obtain ⟨-, h1, h2⟩ : 16 < 17 ∧ g' = 0 ∧ i' = 0 := hd; subst h1; subst h2
    simp [zcell, upG_self, up2, upd, funext_iff]
  | 17, hd => 
    obtain ⟨h1, h2⟩ : g' = 0 ∧ i' < 6 := hd; subst h1
    have h3 : i' ≠ 6 := by omega
    simp [zcell, upG_self, up2, h3, funext_iff]
  | n + 18, hd => exact absurd (show n + 18 < 17 ∧ g' = 0 ∧ i' = 0 from hd).1 (by omega)
theorem zm_16_6 (G : zG) (V : zV3) (x : Int32) : ∀ k' g' i', zdom k' g' i' → zcell G (upG V 8 (up2 (V 8) 6 0 x)) k' g' i' = if k' = 16 ∧ g' = 0 ∧ i' = 0 then .inr (8, [.ref (gA G 17 0 0), .ref (gA G 17 0 1), .ref (gA G 17 0 2), .ref (gA G 17 0 3), .int x, .ref (gA G 17 0 4), .int (V 8 7 0), .int (V 8 8 0), .int (V 8 9 0), .int (V 8 10 0), .int (V 8 11 0), .ref (gA G 17 0 5)]) else zcell G V k' g' i' := by
  have h9 := zn_16_6 G V (V 8)  x
  rwa [upG_id] at h9
theorem zn_16_7 (G : zG) (V : zV3) (h : zV2) (x : Int32) : ∀ k' g' i', zdom k' g' i' → zcell G (upG V 8 (up2 h 7 0 x)) k' g' i' = if k' = 16 ∧ g' = 0 ∧ i' = 0 then .inr (8, [.ref (gA G 17 0 0), .ref (gA G 17 0 1), .ref (gA G 17 0 2), .ref (gA G 17 0 3), .int (h 6 0), .ref (gA G 17 0 4), .int x, .int (h 8 0), .int (h 9 0), .int (h 10 0), .int (h 11 0), .ref (gA G 17 0 5)]) else zcell G (upG V 8 h) k' g' i' := by
  intro k' g' i' hd
  match k', hd with
  | 0, hd => 
    have e : g' ≠ 8 := by have := hd.1; omega
    simp [zcell, upG_ne _ _ e]
  | 1, hd => 
    have e : g' ≠ 8 := by have := hd.1; omega
    simp [zcell, upG_ne _ _ e]
  | 2, hd => 
    have e : g' ≠ 8 := by have := hd.1; omega
    simp [zcell, upG_ne _ _ e]
  | 3, hd => 
    have e : g' ≠ 8 := by have := hd.1; omega
    simp [zcell, upG_ne _ _ e]
  | 4, hd => 
    have e : g' ≠ 8 := by have := hd.1; omega
    simp [zcell, upG_ne _ _ e]
  | 5, hd => 
    have e : g' ≠ 8 := by have := hd.1; omega
    simp [zcell, upG_ne _ _ e]
  | 6, hd => 
    have e : g' ≠ 8 := by have := hd.1; omega
    simp [zcell, upG_ne _ _ e]
  | 7, hd => 
    have e : g' ≠ 8 := by have := hd.1; omega
    simp [zcell, upG_ne _ _ e]
  | 8, hd => 
    have e : g' ≠ 8 := by have := hd.1; omega
    simp [zcell, upG_ne _ _ e]
  | 9, hd => 
    have e : g' ≠ 8 := by have := hd.1; omega
    simp [zcell, upG_ne _ _ e]
  | 10, hd => 
    simp [zcell, upG]
  | 11, hd => 
    simp [zcell, upG]
  | 12, hd => 
    simp [zcell, upG]
  | 13, hd => 
    simp [zcell, upG]
  | 14, hd => 
    simp [zcell, upG]
  | 15, hd => 
    simp [zcell, upG]
  | 16, hd => 
    obtain ⟨-, h1, h2⟩ : 16 < 17 ∧ g' = 0 ∧ i' = 0 := hd; subst h1; subst h2
    simp [zcell, upG_self, up2, upd, funext_iff]
  | 17, hd => 
    obtain ⟨h1, h2⟩ : g' = 0 ∧ i' < 6 := hd; subst h1
    have h3 : i' ≠ 7 := by omega
    simp [zcell, upG_self, up2, h3, funext_iff]
  | n + 18, hd => exact absurd (show n + 18 < 17 ∧ g' = 0 ∧ i' = 0 from hd).1 (by omega)
theorem zm_16_7 (G : zG) (V : zV3) (x : Int32) : ∀ k' g' i', zdom k' g' i' → zcell G (upG V 8 (up2 (V 8) 7 0 x)) k' g' i' = if k' = 16 ∧ g' = 0 ∧ i' = 0 then .inr (8, [.ref (gA G 17 0 0), .ref (gA G 17 0 1), .ref (gA G 17 0 2), .ref (gA G 17 0 3), .int (V 8 6 0), .ref (gA G 17 0 4), .int x, .int (V 8 8 0), .int (V 8 9 0), .int (V 8 10 0), .int (V 8 11 0), .ref (gA G 17 0 5)]) else zcell G V k' g' i' := by
  have h9 := zn_16_7 G V (V 8)  x
  rwa [upG_id] at h9
theorem zn_16_8 (G : zG) (V : zV3) (h : zV2) (x : Int32) : ∀ k' g' i', zdom k' g' i' → zcell G (upG V 8 (up2 h 8 0 x)) k' g' i' = if k' = 16 ∧ g' = 0 ∧ i' = 0 then .inr (8, [.ref (gA G 17 0 0), .ref (gA G 17 0 1), .ref (gA G 17 0 2), .ref (gA G 17 0 3), .int (h 6 0), .ref (gA G 17 0 4), .int (h 7 0), .int x, .int (h 9 0), .int (h 10 0), .int (h 11 0), .ref (gA G 17 0 5)]) else zcell G (upG V 8 h) k' g' i' := by
  intro k' g' i' hd
  match k', hd with
  | 0, hd => 
    have e : g' ≠ 8 := by have := hd.1; omega
    simp [zcell, upG_ne _ _ e]
  | 1, hd => 
    have e : g' ≠ 8 := by have := hd.1; omega
    simp [zcell, upG_ne _ _ e]
  | 2, hd => 
    have e : g' ≠ 8 := by have := hd.1; omega
    simp [zcell, upG_ne _ _ e]
  | 3, hd => 
    have e : g' ≠ 8 := by have := hd.1; omega
    simp [zcell, upG_ne _ _ e]
  | 4, hd => 
    have e : g' ≠ 8 := by have := hd.1; omega
    simp [zcell, upG_ne _ _ e]
  | 5, hd => 
    have e : g' ≠ 8 := by have := hd.1; omega
    simp [zcell, upG_ne _ _ e]
  | 6, hd => 
    have e : g' ≠ 8 := by have := hd.1; omega
    simp [zcell, upG_ne _ _ e]
  | 7, hd => 
    have e : g' ≠ 8 := by have := hd.1; omega
    simp [zcell, upG_ne _ _ e]
  | 8, hd => 
    have e : g' ≠ 8 := by have := hd.1; omega
    simp [zcell, upG_ne _ _ e]
  | 9, hd => 
    have e : g' ≠ 8 := by have := hd.1; omega
    simp [zcell, upG_ne _ _ e]
  | 10, hd => 
    simp [zcell, upG]
  | 11, hd => 
    simp [zcell, upG]
  | 12, hd => 
    simp [zcell, upG]
  | 13, hd => 
    simp [zcell, upG]
  | 14, hd => 
    simp [zcell, upG]
  | 15, hd => 
    simp [zcell, upG]
  | 16, hd => 
    obtain ⟨-, h1, h2⟩ : 16 < 17 ∧ g' = 0 ∧ i' = 0 := hd; subst h1; subst h2
    simp [zcell, upG_self, up2, upd, funext_iff]
  | 17, hd => 
    obtain ⟨h1, h2⟩ : g' = 0 ∧ i' < 6 := hd; subst h1
    have h3 : i' ≠ 8 := by omega
    simp [zcell, upG_self, up2, h3, funext_iff]
  | n + 18, hd => exact absurd (show n + 18 < 17 ∧ g' = 0 ∧ i' = 0 from hd).1 (by omega)
theorem zm_16_8 (G : zG) (V : zV3) (x : Int32) : ∀ k' g' i', zdom k' g' i' → zcell G (upG V 8 (up2 (V 8) 8 0 x)) k' g' i' = if k' = 16 ∧ g' = 0 ∧ i' = 0 then .inr (8, [.ref (gA G 17 0 0), .ref (gA G 17 0 1), .ref (gA G 17 0 2), .ref (gA G 17 0 3), .int (V 8 6 0), .ref (gA G 17 0 4), .int (V 8 7 0), .int x, .int (V 8 9 0), .int (V 8 10 0), .int (V 8 11 0), .ref (gA G 17 0 5)]) else zcell G V k' g' i' := by
  have h9 := zn_16_8 G V (V 8)  x
  rwa [upG_id] at h9
theorem zn_16_9 (G : zG) (V : zV3) (h : zV2) (x : Int32) : ∀ k' g' i', zdom k' g' i' → zcell G (upG V 8 (up2 h 9 0 x)) k' g' i' = if k' = 16 ∧ g' = 0 ∧ i' = 0 then .inr (8, [.ref (gA G 17 0 0), .ref (gA G 17 0 1), .ref (gA G 17 0 2), .ref (gA G 17 0 3), .int (h 6 0), .ref (gA G 17 0 4), .int (h 7 0), .int (h 8 0), .int x, .int (h 10 0), .int (h 11 0), .ref (gA G 17 0 5)]) else zcell G (upG V 8 h) k' g' i' := by
  intro k' g' i' hd
  match k', hd with
  | 0, hd => 
    have e : g' ≠ 8 := by have := hd.1; omega
    simp [zcell, upG_ne _ _ e]
  | 1, hd => 
    have e : g' ≠ 8 := by have := hd.1; omega
    simp [zcell, upG_ne _ _ e]
  | 2, hd => 
    have e : g' ≠ 8 := by have := hd.1; omega
    simp [zcell, upG_ne _ _ e]
  | 3, hd => 
    have e : g' ≠ 8 := by have := hd.1; omega
    simp [zcell, upG_ne _ _ e]
  | 4, hd => 
    have e : g' ≠ 8 := by have := hd.1; omega
    simp [zcell, upG_ne _ _ e]
  | 5, hd => 
    have e : g' ≠ 8 := by have := hd.1; omega
    simp [zcell, upG_ne _ _ e]
  | 6, hd => 
    have e : g' ≠ 8 := by have := hd.1; omega
    simp [zcell, upG_ne _ _ e]
  | 7, hd => 
    have e : g' ≠ 8 := by have := hd.1; omega
    simp [zcell, upG_ne _ _ e]
  | 8, hd => 
    have e : g' ≠ 8 := by have := hd.1; omega
    simp [zcell, upG_ne _ _ e]
  | 9, hd => 
    have e : g' ≠ 8 := by have := hd.1; omega
    simp [zcell, upG_ne _ _ e]
  | 10, hd => 
    simp [zcell, upG]
  | 11, hd => 
    simp [zcell, upG]
  | 12, hd => 
    simp [zcell, upG]
  | 13, hd => 
    simp [zcell, upG]
  | 14, hd => 
    simp [zcell, upG]
  | 15, hd => 
    simp [zcell, upG]
  | 16, hd => 
    obtain ⟨-, h1, h2⟩ : 16 < 17 ∧ g' = 0 ∧ i' = 0 := hd; subst h1; subst h2
    simp [zcell, upG_self, up2, upd, funext_iff]
  | 17, hd => 
    obtain ⟨h1, h2⟩ : g' = 0 ∧ i' < 6 := hd; subst h1
    have h3 : i' ≠ 9 := by omega
    simp [zcell, upG_self, up2, h3, funext_iff]
  | n + 18, hd => exact absurd (show n + 18 < 17 ∧ g' = 0 ∧ i' = 0 from hd).1 (by omega)
theorem zm_16_9 (G : zG) (V : zV3) (x : Int32) : ∀ k' g' i', zdom k' g' i' → zcell G (upG V 8 (up2 (V 8) 9 0 x)) k' g' i' = if k' = 16 ∧ g' = 0 ∧ i' = 0 then .inr (8, [.ref (gA G 17 0 0), .ref (gA G 17 0 1), .ref (gA G 17 0 2), .ref (gA G 17 0 3), .int (V 8 6 0), .ref (gA G 17 0 4), .int (V 8 7 0), .int (V 8 8 0), .int x, .int (V 8 10 0), .int (V 8 11 0), .ref (gA G 17 0 5)]) else zcell G V k' g' i' := by
  have h9 := zn_16_9 G V (V 8)  x
  rwa [upG_id] at h9
theorem zn_16_10 (G : zG) (V : zV3) (h : zV2) (x : Int32) : ∀ k' g' i', zdom k' g' i' → zcell G (upG V 8 (up2 h 10 0 x)) k' g' i' = if k' = 16 ∧ g' = 0 ∧ i' = 0 then .inr (8, [.ref (gA G 17 0 0), .ref (gA G 17 0 1), .ref (gA G 17 0 2), .ref (gA G 17 0 3), .int (h 6 0), .ref (gA G 17 0 4), .int (h 7 0), .int (h 8 0), .int (h 9 0), .int x, .int (h 11 0), .ref (gA G 17 0 5)]) else zcell G (upG V 8 h) k' g' i' := by
  intro k' g' i' hd
  match k', hd with
  | 0, hd => 
    have e : g' ≠ 8 := by have := hd.1; omega
    simp [zcell, upG_ne _ _ e]
  | 1, hd => 
    have e : g' ≠ 8 := by have := hd.1; omega
    simp [zcell, upG_ne _ _ e]
  | 2, hd => 
    have e : g' ≠ 8 := by have := hd.1; omega
    simp [zcell, upG_ne _ _ e]
  | 3, hd => 
    have e : g' ≠ 8 := by have := hd.1; omega
    simp [zcell, upG_ne _ _ e]
  | 4, hd => 
    have e : g' ≠ 8 := by have := hd.1; omega
    simp [zcell, upG_ne _ _ e]
  | 5, hd => 
    have e : g' ≠ 8 := by have := hd.1; omega
    simp [zcell, upG_ne _ _ e]
  | 6, hd => 
    have e : g' ≠ 8 := by have := hd.1; omega
    simp [zcell, upG_ne _ _ e]
  | 7, hd => 
    have e : g' ≠ 8 := by have := hd.1; omega
    simp [zcell, upG_ne _ _ e]
  | 8, hd => 
    have e : g' ≠ 8 := by have := hd.1; omega
    simp [zcell, upG_ne _ _ e]
  | 9, hd => 
    have e : g' ≠ 8 := by have := hd.1; omega
    simp [zcell, upG_ne _ _ e]
  | 10, hd => 
    simp [zcell, upG]
  | 11, hd => 
    simp [zcell, upG]
  | 12, hd => 
    simp [zcell, upG]
  | 13, hd => 
    simp [zcell, upG]
  | 14, hd => 
    simp [zcell, upG]
  | 15, hd => 
    simp [zcell, upG]
  | 16, hd => 
    obtain ⟨-, h1, h2⟩ : 16 < 17 ∧ g' = 0 ∧ i' = 0 := hd; subst h1; subst h2
    simp [zcell, upG_self, up2, upd, funext_iff]
  | 17, hd => 
    obtain ⟨h1, h2⟩ : g' = 0 ∧ i' < 6 := hd; subst h1
    have h3 : i' ≠ 10 := by omega
    simp [zcell, upG_self, up2, h3, funext_iff]
  | n + 18, hd => exact absurd (show n + 18 < 17 ∧ g' = 0 ∧ i' = 0 from hd).1 (by omega)
theorem zm_16_10 (G : zG) (V : zV3) (x : Int32) : ∀ k' g' i', zdom k' g' i' → zcell G (upG V 8 (up2 (V 8) 10 0 x)) k' g' i' = if k' = 16 ∧ g' = 0 ∧ i' = 0 then .inr (8, [.ref (gA G 17 0 0), .ref (gA G 17 0 1), .ref (gA G 17 0 2), .ref (gA G 17 0 3), .int (V 8 6 0), .ref (gA G 17 0 4), .int (V 8 7 0), .int (V 8 8 0), .int (V 8 9 0), .int x, .int (V 8 11 0), .ref (gA G 17 0 5)]) else zcell G V k' g' i' := by
  have h9 := zn_16_10 G V (V 8)  x
  rwa [upG_id] at h9
theorem zn_16_11 (G : zG) (V : zV3) (h : zV2) (x : Int32) : ∀ k' g' i', zdom k' g' i' → zcell G (upG V 8 (up2 h 11 0 x)) k' g' i' = if k' = 16 ∧ g' = 0 ∧ i' = 0 then .inr (8, [.ref (gA G 17 0 0), .ref (gA G 17 0 1), .ref (gA G 17 0 2), .ref (gA G 17 0 3), .int (h 6 0), .ref (gA G 17 0 4), .int (h 7 0), .int (h 8 0), .int (h 9 0), .int (h 10 0), .int x, .ref (gA G 17 0 5)]) else zcell G (upG V 8 h) k' g' i' := by
  intro k' g' i' hd
  match k', hd with
  | 0, hd => 
    have e : g' ≠ 8 := by have := hd.1; omega
    simp [zcell, upG_ne _ _ e]
  | 1, hd => 
    have e : g' ≠ 8 := by have := hd.1; omega
    simp [zcell, upG_ne _ _ e]
  | 2, hd => 
    have e : g' ≠ 8 := by have := hd.1; omega
    simp [zcell, upG_ne _ _ e]
  | 3, hd => 
    have e : g' ≠ 8 := by have := hd.1; omega
    simp [zcell, upG_ne _ _ e]
  | 4, hd => 
    have e : g' ≠ 8 := by have := hd.1; omega
    simp [zcell, upG_ne _ _ e]
  | 5, hd => 
    have e : g' ≠ 8 := by have := hd.1; omega
    simp [zcell, upG_ne _ _ e]
  | 6, hd => 
    have e : g' ≠ 8 := by have := hd.1; omega
    simp [zcell, upG_ne _ _ e]
  | 7, hd => 
    have e : g' ≠ 8 := by have := hd.1; omega
    simp [zcell, upG_ne _ _ e]
  | 8, hd => 
    have e : g' ≠ 8 := by have := hd.1; omega
    simp [zcell, upG_ne _ _ e]
  | 9, hd => 
    have e : g' ≠ 8 := by have := hd.1; omega
    simp [zcell, upG_ne _ _ e]
  | 10, hd => 
    simp [zcell, upG]
  | 11, hd => 
    simp [zcell, upG]
  | 12, hd => 
    simp [zcell, upG]
  | 13, hd => 
    simp [zcell, upG]
  | 14, hd => 
    simp [zcell, upG]
  | 15, hd => 
    simp [zcell, upG]
  | 16, hd => 
    obtain ⟨-, h1, h2⟩ : 16 < 17 ∧ g' = 0 ∧ i' = 0 := hd; subst h1; subst h2
    simp [zcell, upG_self, up2, upd, funext_iff]
  | 17, hd => 
    obtain ⟨h1, h2⟩ : g' = 0 ∧ i' < 6 := hd; subst h1
    have h3 : i' ≠ 11 := by omega
    simp [zcell, upG_self, up2, h3, funext_iff]
  | n + 18, hd => exact absurd (show n + 18 < 17 ∧ g' = 0 ∧ i' = 0 from hd).1 (by omega)
theorem zm_16_11 (G : zG) (V : zV3) (x : Int32) : ∀ k' g' i', zdom k' g' i' → zcell G (upG V 8 (up2 (V 8) 11 0 x)) k' g' i' = if k' = 16 ∧ g' = 0 ∧ i' = 0 then .inr (8, [.ref (gA G 17 0 0), .ref (gA G 17 0 1), .ref (gA G 17 0 2), .ref (gA G 17 0 3), .int (V 8 6 0), .ref (gA G 17 0 4), .int (V 8 7 0), .int (V 8 8 0), .int (V 8 9 0), .int (V 8 10 0), .int x, .ref (gA G 17 0 5)]) else zcell G V k' g' i' := by
  have h9 := zn_16_11 G V (V 8)  x
  rwa [upG_id] at h9
theorem zn_17_0 (G : zG) (V : zV3) (h : zV2) (j : Nat) (x : Int32) : ∀ k' g' i', zdom k' g' i' → zcell G (upG V 8 (up2 h 0 j x)) k' g' i' = if k' = 17 ∧ g' = 0 ∧ i' = 0 then .inl (gC G 0, 193, .inl (upd (h 0) j x)) else zcell G (upG V 8 h) k' g' i' := by
  intro k' g' i' hd
  match k', hd with
  | 0, hd => 
    have e : g' ≠ 8 := by have := hd.1; omega
    simp [zcell, upG_ne _ _ e]
  | 1, hd => 
    have e : g' ≠ 8 := by have := hd.1; omega
    simp [zcell, upG_ne _ _ e]
  | 2, hd => 
    have e : g' ≠ 8 := by have := hd.1; omega
    simp [zcell, upG_ne _ _ e]
  | 3, hd => 
    have e : g' ≠ 8 := by have := hd.1; omega
    simp [zcell, upG_ne _ _ e]
  | 4, hd => 
    have e : g' ≠ 8 := by have := hd.1; omega
    simp [zcell, upG_ne _ _ e]
  | 5, hd => 
    have e : g' ≠ 8 := by have := hd.1; omega
    simp [zcell, upG_ne _ _ e]
  | 6, hd => 
    have e : g' ≠ 8 := by have := hd.1; omega
    simp [zcell, upG_ne _ _ e]
  | 7, hd => 
    have e : g' ≠ 8 := by have := hd.1; omega
    simp [zcell, upG_ne _ _ e]
  | 8, hd => 
    have e : g' ≠ 8 := by have := hd.1; omega
    simp [zcell, upG_ne _ _ e]
  | 9, hd => 
    have e : g' ≠ 8 := by have := hd.1; omega
    simp [zcell, upG_ne _ _ e]
  | 10, hd => 
    simp [zcell, upG]
  | 11, hd => 
    simp [zcell, upG]
  | 12, hd => 
    simp [zcell, upG]
  | 13, hd => 
    simp [zcell, upG]
  | 14, hd => 
    simp [zcell, upG]
  | 15, hd => 
    simp [zcell, upG]
  | 16, hd => 
    simp [zcell, upG_self, up2, funext_iff]
  | 17, hd => 
    obtain ⟨h1, h2⟩ : g' = 0 ∧ i' < 6 := hd; subst h1
    by_cases e2 : i' = 0
    · subst e2; simp [zcell, upG_self, up2, upd, zlen, funext_iff]
    · simp [zcell, upG_self, up2, e2, funext_iff]
  | n + 18, hd => exact absurd (show n + 18 < 17 ∧ g' = 0 ∧ i' = 0 from hd).1 (by omega)
theorem zm_17_0 (G : zG) (V : zV3) (j : Nat) (x : Int32) : ∀ k' g' i', zdom k' g' i' → zcell G (upG V 8 (up2 (V 8) 0 j x)) k' g' i' = if k' = 17 ∧ g' = 0 ∧ i' = 0 then .inl (gC G 0, 193, .inl (upd (V 8 0) j x)) else zcell G V k' g' i' := by
  have h9 := zn_17_0 G V (V 8) j x
  rwa [upG_id] at h9
theorem zn_17_1 (G : zG) (V : zV3) (h : zV2) (j : Nat) (x : Int32) : ∀ k' g' i', zdom k' g' i' → zcell G (upG V 8 (up2 h 1 j x)) k' g' i' = if k' = 17 ∧ g' = 0 ∧ i' = 1 then .inl (gC G 0, 193, .inl (upd (h 1) j x)) else zcell G (upG V 8 h) k' g' i' := by
  intro k' g' i' hd
  match k', hd with
  | 0, hd => 
    have e : g' ≠ 8 := by have := hd.1; omega
    simp [zcell, upG_ne _ _ e]
  | 1, hd => 
    have e : g' ≠ 8 := by have := hd.1; omega
    simp [zcell, upG_ne _ _ e]
  | 2, hd => 
    have e : g' ≠ 8 := by have := hd.1; omega
    simp [zcell, upG_ne _ _ e]
  | 3, hd => 
    have e : g' ≠ 8 := by have := hd.1; omega
    simp [zcell, upG_ne _ _ e]
  | 4, hd => 
    have e : g' ≠ 8 := by have := hd.1; omega
    simp [zcell, upG_ne _ _ e]
  | 5, hd => 
    have e : g' ≠ 8 := by have := hd.1; omega
    simp [zcell, upG_ne _ _ e]
  | 6, hd => 
    have e : g' ≠ 8 := by have := hd.1; omega
    simp [zcell, upG_ne _ _ e]
  | 7, hd => 
    have e : g' ≠ 8 := by have := hd.1; omega
    simp [zcell, upG_ne _ _ e]
  | 8, hd => 
    have e : g' ≠ 8 := by have := hd.1; omega
    simp [zcell, upG_ne _ _ e]
  | 9, hd => 
    have e : g' ≠ 8 := by have := hd.1; omega
    simp [zcell, upG_ne _ _ e]
  | 10, hd => 
    simp [zcell, upG]
  | 11, hd => 
    simp [zcell, upG]
  | 12, hd => 
    simp [zcell, upG]
  | 13, hd => 
    simp [zcell, upG]
  | 14, hd => 
    simp [zcell, upG]
  | 15, hd => 
    simp [zcell, upG]
  | 16, hd => 
    simp [zcell, upG_self, up2, funext_iff]
  | 17, hd => 
    obtain ⟨h1, h2⟩ : g' = 0 ∧ i' < 6 := hd; subst h1
    by_cases e2 : i' = 1
    · subst e2; simp [zcell, upG_self, up2, upd, zlen, funext_iff]
    · simp [zcell, upG_self, up2, e2, funext_iff]
  | n + 18, hd => exact absurd (show n + 18 < 17 ∧ g' = 0 ∧ i' = 0 from hd).1 (by omega)
theorem zm_17_1 (G : zG) (V : zV3) (j : Nat) (x : Int32) : ∀ k' g' i', zdom k' g' i' → zcell G (upG V 8 (up2 (V 8) 1 j x)) k' g' i' = if k' = 17 ∧ g' = 0 ∧ i' = 1 then .inl (gC G 0, 193, .inl (upd (V 8 1) j x)) else zcell G V k' g' i' := by
  have h9 := zn_17_1 G V (V 8) j x
  rwa [upG_id] at h9
theorem zn_17_2 (G : zG) (V : zV3) (h : zV2) (j : Nat) (x : Int32) : ∀ k' g' i', zdom k' g' i' → zcell G (upG V 8 (up2 h 2 j x)) k' g' i' = if k' = 17 ∧ g' = 0 ∧ i' = 2 then .inl (gC G 0, 193, .inl (upd (h 2) j x)) else zcell G (upG V 8 h) k' g' i' := by
  intro k' g' i' hd
  match k', hd with
  | 0, hd => 
    have e : g' ≠ 8 := by have := hd.1; omega
    simp [zcell, upG_ne _ _ e]
  | 1, hd => 
    have e : g' ≠ 8 := by have := hd.1; omega
    simp [zcell, upG_ne _ _ e]
  | 2, hd => 
    have e : g' ≠ 8 := by have := hd.1; omega
    simp [zcell, upG_ne _ _ e]
  | 3, hd => 
    have e : g' ≠ 8 := by have := hd.1; omega
    simp [zcell, upG_ne _ _ e]
  | 4, hd => 
    have e : g' ≠ 8 := by have := hd.1; omega
    simp [zcell, upG_ne _ _ e]
  | 5, hd => 
    have e : g' ≠ 8 := by have := hd.1; omega
    simp [zcell, upG_ne _ _ e]
  | 6, hd => 
    have e : g' ≠ 8 := by have := hd.1; omega
    simp [zcell, upG_ne _ _ e]
  | 7, hd => 
    have e : g' ≠ 8 := by have := hd.1; omega
    simp [zcell, upG_ne _ _ e]
  | 8, hd => 
    have e : g' ≠ 8 := by have := hd.1; omega
    simp [zcell, upG_ne _ _ e]
  | 9, hd => 
    have e : g' ≠ 8 := by have := hd.1; omega
    simp [zcell, upG_ne _ _ e]
  | 10, hd => 
    simp [zcell, upG]
  | 11, hd => 
    simp [zcell, upG]
  | 12, hd => 
    simp [zcell, upG]
  | 13, hd => 
    simp [zcell, upG]
  | 14, hd => 
    simp [zcell, upG]
  | 15, hd => 
    simp [zcell, upG]
  | 16, hd => 
    simp [zcell, upG_self, up2, funext_iff]
  | 17, hd => 
    obtain ⟨h1, h2⟩ : g' = 0 ∧ i' < 6 := hd; subst h1
    by_cases e2 : i' = 2
    · subst e2; simp [zcell, upG_self, up2, upd, zlen, funext_iff]
    · simp [zcell, upG_self, up2, e2, funext_iff]
  | n + 18, hd => exact absurd (show n + 18 < 17 ∧ g' = 0 ∧ i' = 0 from hd).1 (by omega)
theorem zm_17_2 (G : zG) (V : zV3) (j : Nat) (x : Int32) : ∀ k' g' i', zdom k' g' i' → zcell G (upG V 8 (up2 (V 8) 2 j x)) k' g' i' = if k' = 17 ∧ g' = 0 ∧ i' = 2 then .inl (gC G 0, 193, .inl (upd (V 8 2) j x)) else zcell G V k' g' i' := by
  have h9 := zn_17_2 G V (V 8) j x
  rwa [upG_id] at h9
theorem zn_17_3 (G : zG) (V : zV3) (h : zV2) (j : Nat) (x : Int32) : ∀ k' g' i', zdom k' g' i' → zcell G (upG V 8 (up2 h 3 j x)) k' g' i' = if k' = 17 ∧ g' = 0 ∧ i' = 3 then .inl (gC G 0, 772, .inl (upd (h 3) j x)) else zcell G (upG V 8 h) k' g' i' := by
  intro k' g' i' hd
  match k', hd with
  | 0, hd => 
    have e : g' ≠ 8 := by have := hd.1; omega
    simp [zcell, upG_ne _ _ e]
  | 1, hd => 
    have e : g' ≠ 8 := by have := hd.1; omega
    simp [zcell, upG_ne _ _ e]
  | 2, hd => 
    have e : g' ≠ 8 := by have := hd.1; omega
    simp [zcell, upG_ne _ _ e]
  | 3, hd => 
    have e : g' ≠ 8 := by have := hd.1; omega
    simp [zcell, upG_ne _ _ e]
  | 4, hd => 
    have e : g' ≠ 8 := by have := hd.1; omega
    simp [zcell, upG_ne _ _ e]
  | 5, hd => 
    have e : g' ≠ 8 := by have := hd.1; omega
    simp [zcell, upG_ne _ _ e]
  | 6, hd => 
    have e : g' ≠ 8 := by have := hd.1; omega
    simp [zcell, upG_ne _ _ e]
  | 7, hd => 
    have e : g' ≠ 8 := by have := hd.1; omega
    simp [zcell, upG_ne _ _ e]
  | 8, hd => 
    have e : g' ≠ 8 := by have := hd.1; omega
    simp [zcell, upG_ne _ _ e]
  | 9, hd => 
    have e : g' ≠ 8 := by have := hd.1; omega
    simp [zcell, upG_ne _ _ e]
  | 10, hd => 
    simp [zcell, upG]
  | 11, hd => 
    simp [zcell, upG]
  | 12, hd => 
    simp [zcell, upG]
  | 13, hd => 
    simp [zcell, upG]
  | 14, hd => 
    simp [zcell, upG]
  | 15, hd => 
    simp [zcell, upG]
  | 16, hd => 
    simp [zcell, upG_self, up2, funext_iff]
  | 17, hd => 
    obtain ⟨h1, h2⟩ : g' = 0 ∧ i' < 6 := hd; subst h1
    by_cases e2 : i' = 3
    · subst e2; simp [zcell, upG_self, up2, upd, zlen, funext_iff]
    · simp [zcell, upG_self, up2, e2, funext_iff]
  | n + 18, hd => exact absurd (show n + 18 < 17 ∧ g' = 0 ∧ i' = 0 from hd).1 (by omega)
theorem zm_17_3 (G : zG) (V : zV3) (j : Nat) (x : Int32) : ∀ k' g' i', zdom k' g' i' → zcell G (upG V 8 (up2 (V 8) 3 j x)) k' g' i' = if k' = 17 ∧ g' = 0 ∧ i' = 3 then .inl (gC G 0, 772, .inl (upd (V 8 3) j x)) else zcell G V k' g' i' := by
  have h9 := zn_17_3 G V (V 8) j x
  rwa [upG_id] at h9
theorem zn_17_4 (G : zG) (V : zV3) (h : zV2) (j : Nat) (x : Int32) : ∀ k' g' i', zdom k' g' i' → zcell G (upG V 8 (up2 h 4 j x)) k' g' i' = if k' = 17 ∧ g' = 0 ∧ i' = 4 then .inl (gC G 0, 80, .inl (upd (h 4) j x)) else zcell G (upG V 8 h) k' g' i' := by
  intro k' g' i' hd
  match k', hd with
  | 0, hd => 
    have e : g' ≠ 8 := by have := hd.1; omega
    simp [zcell, upG_ne _ _ e]
  | 1, hd => 
    have e : g' ≠ 8 := by have := hd.1; omega
    simp [zcell, upG_ne _ _ e]
  | 2, hd => 
    have e : g' ≠ 8 := by have := hd.1; omega
    simp [zcell, upG_ne _ _ e]
  | 3, hd => 
    have e : g' ≠ 8 := by have := hd.1; omega
    simp [zcell, upG_ne _ _ e]
  | 4, hd => 
    have e : g' ≠ 8 := by have := hd.1; omega
    simp [zcell, upG_ne _ _ e]
  | 5, hd => 
    have e : g' ≠ 8 := by have := hd.1; omega
    simp [zcell, upG_ne _ _ e]
  | 6, hd => 
    have e : g' ≠ 8 := by have := hd.1; omega
    simp [zcell, upG_ne _ _ e]
  | 7, hd => 
    have e : g' ≠ 8 := by have := hd.1; omega
    simp [zcell, upG_ne _ _ e]
  | 8, hd => 
    have e : g' ≠ 8 := by have := hd.1; omega
    simp [zcell, upG_ne _ _ e]
  | 9, hd => 
    have e : g' ≠ 8 := by have := hd.1; omega
    simp [zcell, upG_ne _ _ e]
  | 10, hd => 
    simp [zcell, upG]
  | 11, hd => 
    simp [zcell, upG]
  | 12, hd => 
    simp [zcell, upG]
  | 13, hd => 
    simp [zcell, upG]
  | 14, hd => 
    simp [zcell, upG]
  | 15, hd => 
    simp [zcell, upG]
  | 16, hd => 
    simp [zcell, upG_self, up2, funext_iff]
  | 17, hd => 
    obtain ⟨h1, h2⟩ : g' = 0 ∧ i' < 6 := hd; subst h1
    by_cases e2 : i' = 4
    · subst e2; simp [zcell, upG_self, up2, upd, zlen, funext_iff]
    · simp [zcell, upG_self, up2, e2, funext_iff]
  | n + 18, hd => exact absurd (show n + 18 < 17 ∧ g' = 0 ∧ i' = 0 from hd).1 (by omega)
theorem zm_17_4 (G : zG) (V : zV3) (j : Nat) (x : Int32) : ∀ k' g' i', zdom k' g' i' → zcell G (upG V 8 (up2 (V 8) 4 j x)) k' g' i' = if k' = 17 ∧ g' = 0 ∧ i' = 4 then .inl (gC G 0, 80, .inl (upd (V 8 4) j x)) else zcell G V k' g' i' := by
  have h9 := zn_17_4 G V (V 8) j x
  rwa [upG_id] at h9
theorem zn_17_5 (G : zG) (V : zV3) (h : zV2) (j : Nat) (x : Int32) : ∀ k' g' i', zdom k' g' i' → zcell G (upG V 8 (up2 h 5 j x)) k' g' i' = if k' = 17 ∧ g' = 0 ∧ i' = 5 then .inl (gC G 0, 2, .inl (upd (h 5) j x)) else zcell G (upG V 8 h) k' g' i' := by
  intro k' g' i' hd
  match k', hd with
  | 0, hd => 
    have e : g' ≠ 8 := by have := hd.1; omega
    simp [zcell, upG_ne _ _ e]
  | 1, hd => 
    have e : g' ≠ 8 := by have := hd.1; omega
    simp [zcell, upG_ne _ _ e]
  | 2, hd => 
    have e : g' ≠ 8 := by have := hd.1; omega
    simp [zcell, upG_ne _ _ e]
  | 3, hd => 
    have e : g' ≠ 8 := by have := hd.1; omega
    simp [zcell, upG_ne _ _ e]
  | 4, hd => 
    have e : g' ≠ 8 := by have := hd.1; omega
    simp [zcell, upG_ne _ _ e]
  | 5, hd => 
    have e : g' ≠ 8 := by have := hd.1; omega
    simp [zcell, upG_ne _ _ e]
  | 6, hd => 
    have e : g' ≠ 8 := by have := hd.1; omega
    simp [zcell, upG_ne _ _ e]
  | 7, hd => 
    have e : g' ≠ 8 := by have := hd.1; omega
    simp [zcell, upG_ne _ _ e]
  | 8, hd => 
    have e : g' ≠ 8 := by have := hd.1; omega
    simp [zcell, upG_ne _ _ e]
  | 9, hd => 
    have e : g' ≠ 8 := by have := hd.1; omega
    simp [zcell, upG_ne _ _ e]
  | 10, hd => 
    simp [zcell, upG]
  | 11, hd => 
    simp [zcell, upG]
  | 12, hd => 
    simp [zcell, upG]
  | 13, hd => 
    simp [zcell, upG]
  | 14, hd => 
    simp [zcell, upG]
  | 15, hd => 
    simp [zcell, upG]
  | 16, hd => 
    simp [zcell, upG_self, up2, funext_iff]
  | 17, hd => 
    obtain ⟨h1, h2⟩ : g' = 0 ∧ i' < 6 := hd; subst h1
    by_cases e2 : i' = 5
    · subst e2; simp [zcell, upG_self, up2, upd, zlen, funext_iff]
    · simp [zcell, upG_self, up2, e2, funext_iff]
  | n + 18, hd => exact absurd (show n + 18 < 17 ∧ g' = 0 ∧ i' = 0 from hd).1 (by omega)
theorem zm_17_5 (G : zG) (V : zV3) (j : Nat) (x : Int32) : ∀ k' g' i', zdom k' g' i' → zcell G (upG V 8 (up2 (V 8) 5 j x)) k' g' i' = if k' = 17 ∧ g' = 0 ∧ i' = 5 then .inl (gC G 0, 2, .inl (upd (V 8 5) j x)) else zcell G V k' g' i' := by
  have h9 := zn_17_5 G V (V 8) j x
  rwa [upG_id] at h9
