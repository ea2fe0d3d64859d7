theorem dm_0 {g i : Nat} (hg : g < 7) (hi : i = 0) : zdom 0 g i := ⟨hg, hi⟩
theorem dm_1 {g i : Nat} (hg : g < 7) (hi : i = 0) : zdom 1 g i := ⟨hg, hi⟩
theorem dm_2 {g i : Nat} (hg : g < 7) (hi : i = 0) : zdom 2 g i := ⟨hg, hi⟩
theorem dm_3 {g i : Nat} (hg : g < 7) (hi : i < 2) : zdom 3 g i := ⟨hg, hi⟩
theorem dm_4 {g i : Nat} (hg : g < 7) (hi : i = 0) : zdom 4 g i := ⟨hg, hi⟩
theorem dm_5 {g i : Nat} (hg : g < 7) (hi : i = 0) : zdom 5 g i := ⟨hg, hi⟩
theorem dm_6 {g i : Nat} (hg : g < 7) (hi : i < 2) : zdom 6 g i := ⟨hg, hi⟩
theorem dm_7 {g i : Nat} (hg : g < 7) (hi : i < 2) : zdom 7 g i := ⟨hg, hi⟩
theorem dm_8 {g i : Nat} (hg : g < 7) (hi : i < 12) : zdom 8 g i := ⟨hg, hi⟩
theorem dm_9 {g i : Nat} (hg : g < 7) (hi : i < 10) : zdom 9 g i := ⟨hg, hi⟩
theorem dm_10 : zdom 10 0 0 := ⟨by decide, rfl, rfl⟩
theorem dm_11 : zdom 11 0 0 := ⟨by decide, rfl, rfl⟩
theorem dm_12 : zdom 12 0 0 := ⟨by decide, rfl, rfl⟩
theorem dm_13 : zdom 13 0 0 := ⟨by decide, rfl, rfl⟩
theorem dm_14 : zdom 14 0 0 := ⟨by decide, rfl, rfl⟩
theorem dm_15 : zdom 15 0 0 := ⟨by decide, rfl, rfl⟩
theorem dm_16 : zdom 16 0 0 := ⟨by decide, rfl, rfl⟩
theorem dm_17 {i : Nat} (hi : i < 6) : zdom 17 0 i := ⟨rfl, hi⟩
