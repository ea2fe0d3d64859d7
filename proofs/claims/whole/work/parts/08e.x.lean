/-! at the start both sides agree -/
theorem cR_0 {f g : Nat → Int32} {s : Nat} : ∀ n : Nat, (∀ i, i < n → f i = 0) → cR f g s n = 0
  | 0, _ => rfl
  | n + 1, h => by
    show cR f g s n + (if f n = 0 then 0 else if g n = nI s then 1 else 0) = 0
    rw [cR_0 n (fun i hi => h i (by omega)), if_pos (h n (by omega))]
theorem Rel_0 : Rel V0 := by
  refine ⟨⟨0, 0, 0, [], [], by decide, ⟨⟨by decide, by decide, by decide, rfl, rfl, rfl, rfl, rfl, rfl, 10, 2, 15, rfl, rfl, by decide, by decide, rfl, rfl, by decide, rfl, rfl, by decide⟩, ⟨fun l hl => absurd hl (by omega), fun l _ _ => ⟨rfl, rfl, rfl, rfl, rfl⟩⟩, ⟨fun p hp => absurd hp (by omega), fun p _ _ => ⟨rfl, rfl, rfl, rfl, rfl, rfl, rfl⟩⟩, ⟨⟨rfl, fun i e he => by simp at he⟩, ⟨rfl, fun i e he => by simp at he⟩, ⟨fun e he => by simp at he, List.nodup_nil⟩⟩, ⟨⟨rfl, fun i e he => by simp at he⟩, rfl, fun i e he => by simp at he, fun p hp => absurd hp (by omega), ⟨fun e he => by simp at he, List.nodup_nil⟩⟩, rfl, rfl, rfl, fun s _ => by have := cR_0 (f := V0 0 1) (g := V0 0 0) (s := s) 12 (fun i _ => rfl); omega⟩, fun e he => by simp at he, fun e he => by simp at he, fun p l hp hl e => absurd (show nI l = -1 from e.symm) (nI_ne1 (by omega)), fun p l hp hl e => absurd (show nI p = -1 from e.symm) (nI_ne1 (by omega))⟩, ⟨0, 0, by decide, by decide, rfl, rfl, rfl, fun j hj => absurd hj (by omega)⟩, 0, by decide, rfl, rfl, fun i hi => absurd hi (by omega)⟩
