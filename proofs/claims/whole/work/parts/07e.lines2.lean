/-! pure part: the lines of the reference that change, and both sides' changes together -/
theorem wo_at {p : Nat} : ∀ {L : List (Nat × Nat)} {j : Nat} {e : Nat × Nat}, (L.map Prod.fst).Nodup → L[j]? = some e → e.1 = p → wo p L = L.take j ++ L.drop (j + 1)
  | [], j, e, _, h, _ => by simp at h
  | a :: t, 0, e, hd, h, hp => by
    simp at h
    subst h
    have hn : ∀ x, x ∈ t → ¬ x.1 = p := fun x hx q => (List.nodup_cons.mp hd).1 (List.mem_map.mpr ⟨x, hx, by rw [q, hp]⟩)
    have : wo p t = t := List.filter_eq_self.mpr (fun x hx => by simp [hn x hx])
    rw [show wo p (a :: t) = wo p t by simp [wo, hp], this]
    simp
  | a :: t, j + 1, e, hd, h, hp => by
    simp at h
    have hd' := List.nodup_cons.mp hd
    have hne : ¬ a.1 = p := fun q => hd'.1 (List.mem_map.mpr ⟨e, List.mem_of_getElem? h, by rw [hp, q]⟩)
    have ih := wo_at hd'.2 h hp
    rw [show wo p (a :: t) = a :: wo p t by simp [wo, hne], ih]
    simp
theorem wo_no {p : Nat} {L : List (Nat × Nat)} (h : ∀ e, e ∈ L → ¬ e.1 = p) : wo p L = L := List.filter_eq_self.mpr (fun x hx => by simp [h x hx])
theorem wo_mem {p : Nat} {L : List (Nat × Nat)} {e : Nat × Nat} : e ∈ wo p L ↔ e ∈ L ∧ ¬ e.1 = p := by simp [wo]
theorem wo_len {p : Nat} {L : List (Nat × Nat)} : (wo p L).length ≤ L.length := List.length_filter_le _ _
theorem WV_wo {nP ms p : Nat} {L : List (Nat × Nat)} (h : WV nP ms L) : WV nP ms (wo p L) :=
  ⟨fun e he => h.1 e (wo_mem.mp he).1, List.Pairwise.sublist (List.filter_sublist.map Prod.fst) h.2⟩
theorem WV_app {nP ms p s : Nat} {L : List (Nat × Nat)} (h : WV nP ms L) (hp : p < nP) (hs : s ≤ ms) (hn : ∀ e, e ∈ L → ¬ e.1 = p) : WV nP ms (L ++ [(p, s)]) := by
  refine ⟨fun e he => ?_, ?_⟩
  · rcases List.mem_append.mp he with q | q
    · exact h.1 e q
    · rw [List.mem_singleton.mp q]
      exact ⟨hp, hs⟩
  · rw [List.map_append, List.nodup_append]
    refine ⟨h.2, by simp, fun a ha b hb => ?_⟩
    obtain ⟨e, he, rfl⟩ := List.mem_map.mp ha
    simp at hb
    rw [hb]
    exact hn e he
theorem szI_no {X : List (Nat × Nat)} {p : Nat} (h : ∀ e, e ∈ X → ¬ e.1 = p) : szI X p = -1 := by
  unfold szI
  rw [List.find?_eq_none.mpr (fun x hx => by simp [h x hx])]
theorem szI_wo {X : List (Nat × Nat)} {p q : Nat} : szI (wo p X) q = if q = p then -1 else szI X q := by
  by_cases e : q = p
  · rw [if_pos e, szI_no (fun x hx => by rw [e]; exact (wo_mem.mp hx).2)]
  · rw [if_neg e]
    induction X with
    | nil => rfl
    | cons a t ih =>
      by_cases h1 : a.1 = p
      · rw [show wo p (a :: t) = wo p t by simp [wo, h1], ih]
        unfold szI
        rw [List.find?_cons_of_neg (by simp; omega)]
      · rw [show wo p (a :: t) = a :: wo p t by simp [wo, h1]]
        unfold szI at ih ⊢
        by_cases h2 : a.1 = q
        · rw [List.find?_cons_of_pos (by simp [h2]), List.find?_cons_of_pos (by simp [h2])]
        · rw [List.find?_cons_of_neg (by simp [h2]), List.find?_cons_of_neg (by simp [h2])]
          exact ih
theorem szI_app {X : List (Nat × Nat)} {p q s : Nat} (hn : ∀ e, e ∈ X → ¬ e.1 = p) : szI (X ++ [(p, s)]) q = if q = p then nI s else szI X q := by
  induction X with
  | nil =>
    unfold szI
    by_cases e : q = p
    · rw [if_pos e]
      simp [e]
    · rw [if_neg e]
      have : ¬ p = q := fun z => e z.symm
      simp [this]
  | cons a t ih =>
    have ih' := ih (fun e he => hn e (by simp [he]))
    have h1 := hn a (by simp)
    unfold szI at ih' ⊢
    rw [List.cons_append]
    by_cases h2 : a.1 = q
    · rw [List.find?_cons_of_pos (by simp [h2]), List.find?_cons_of_pos (by simp [h2]), if_neg (by omega)]
    · rw [List.find?_cons_of_neg (by simp [h2]), List.find?_cons_of_neg (by simp [h2])]
      exact ih'
theorem szI_some {X : List (Nat × Nat)} {p : Nat} (h : ¬ szI X p = -1) : ∃ (j : Nat) (s : Nat), X[j]? = some (p, s) ∧ szI X p = nI s := by
  unfold szI at h ⊢
  cases e : X.find? (fun e => e.1 == p) with
  | none => rw [e] at h; exact absurd rfl h
  | some a =>
    have h1 := List.find?_some e
    obtain ⟨j, hj⟩ := List.getElem?_of_mem (List.mem_of_find?_eq_some e)
    simp at h1
    exact ⟨j, a.2, by rw [hj, ← h1], rfl⟩
theorem szI_get {nP ms : Nat} {X : List (Nat × Nat)} (h : WV nP ms X) {e : Nat × Nat} (he : e ∈ X) : szI X e.1 = nI e.2 := by
  have hd := h.2
  clear h
  induction X with
  | nil => cases he
  | cons a t ih =>
    have hd' := List.nodup_cons.mp hd
    unfold szI at ih ⊢
    rcases List.mem_cons.mp he with rfl | he
    · rw [List.find?_cons_of_pos (by simp)]
    · have : ¬ a.1 = e.1 := fun q => hd'.1 (List.mem_map.mpr ⟨e, he, q.symm⟩)
      rw [List.find?_cons_of_neg (by simp [this])]
      exact ih he hd'.2
theorem ixA (i : Nat) : (163 : Int32) + nI i = nI (163 + i) := by
  rw [show (163 : Int32) = nI 163 from rfl, nI_add]
theorem ixA2 (i : Nat) : (163 : Int32) + nI i + (2 : Int32) = nI (163 + i + 2) := by
  rw [ixA, show (2 : Int32) = nI 2 from rfl, nI_add]
theorem ix2 (i : Nat) : (2 : Int32) * nI i = nI (2 * i) := by
  rw [show (2 : Int32) = nI 2 from rfl, pk_mul]
theorem r_wnm2 {h : zV2} {p1 : Int32} {N q n : Nat} (h0 : dec h 23 0 = nI N) (hN : N ≤ 9) (hq : q < N) : xX10_waitsNoMore_L15 p1 (n + 2) h (nI (2 * q)) = xX10_waitsNoMore_L15 p1 n (kset (kset h 19 q (dec h 19 (q + 1))) 21 q (dec h 21 (q + 1))) (nI (2 * (q + 1))) := by
  have e1 : xX10_waitsNoMore_L15 p1 (n + 2) h (nI (2 * q)) = xX10_waitsNoMore_L15 p1 (n + 1) (kset h 19 q (dec h 19 (q + 1))) (nI (2 * q + 1)) := by
    rw [show n + 2 = n + 1 + 1 from rfl]
    conv => lhs; unfold xX10_waitsNoMore_L15
    rw [kg6, ks6 h, h0, ix2, if_neg (nI_ge (by omega) (by omega)), ixA2, ixA, grd_eq (inb_nI (by omega) (by omega)), grd_eq (inb_nI (by omega) (by omega)), nI_clamp (by omega), nI_clamp (by omega), p19, show 163 + 2 * q + 2 = 163 + 2 * (q + 1) by omega, ← d19 (h := h) (i := q + 1) (by omega), ltI_d, nI_1]
  have k0 : dec (kset h 19 q (dec h 19 (q + 1))) 23 0 = nI N := by rw [dec_kset (kv19 (by omega)), up2_c _ _ _ _ (by decide), h0]
  rw [e1]
  conv => lhs; unfold xX10_waitsNoMore_L15
  rw [kg6, ks6 (kset h 19 q (dec h 19 (q + 1))), k0, ix2, if_neg (nI_ge (by omega) (by omega)), ixA2, ixA, grd_eq (inb_nI (by omega) (by omega)), grd_eq (inb_nI (by omega) (by omega)), nI_clamp (by omega), nI_clamp (by omega), show 163 + (2 * q + 1) = 164 + 2 * q by omega, p21, show 164 + 2 * q + 2 = 164 + 2 * (q + 1) by omega, ← d21 (h := kset h 19 q (dec h 19 (q + 1))) (i := q + 1) (by omega), ltI_d, nI_1]
  rw [dec_kset (kv19 (by omega)), up2_c (dec h) _ _ _ (show 21 ≠ 19 by decide), show 2 * q + 1 + 1 = 2 * (q + 1) by omega]
theorem r_wnm1 {p1 : Int32} {N : Nat} (hN : N ≤ 9) : ∀ (t D : List (Nat × Nat)) (h : zV2) (n : Nat), dec h 23 0 = nI N → D.length + t.length = N → LX (dec h) 0 0 D → LX (dec h) 0 (D.length + 1) t → 2 * t.length < n → ∃ h', xX10_waitsNoMore_L15 p1 n h (nI (2 * D.length)) = some ((), h') ∧ LN (dec h') 0 (D ++ t) ∧ lz 0 (dec h') (dec h) ∧ nz h' h
  | t, D, h, 0, _, _, _, _, h4 => absurd h4 (by omega)
  | [], D, h, n + 1, h0, h1, h2, h3, h4 => by
    simp at h1
    unfold xX10_waitsNoMore_L15
    rw [kg6, ks6 h, h0, ix2, if_pos (nI_le (by omega) (by omega))]
    refine ⟨h, rfl, ?_, lz_r _ _, nz_r _⟩
    rw [List.append_nil]
    exact LX_N (by rw [h1]; exact h0) h2
  | a :: t, D, h, 1, h0, h1, h2, h3, h4 => by simp at h4
  | a :: t, D, h, n + 2, h0, h1, h2, h3, h4 => by
    simp only [List.length_cons] at h1 h4
    rw [r_wnm2 h0 hN (by omega)]
    have hh := LX_hd h3
    have d1 : dec (kset (kset h 19 D.length (dec h 19 (D.length + 1))) 21 D.length (dec h 21 (D.length + 1))) = up2 (up2 (dec h) 19 D.length (nI a.1)) 21 D.length (nI a.2) := by
      rw [dec_kset (kv21 (by omega)), dec_kset (kv19 (by omega)), hh.1, hh.2]
    have hl : (D ++ [a]).length = D.length + 1 := by simp
    have k1 : LX (dec (kset (kset h 19 D.length (dec h 19 (D.length + 1))) 21 D.length (dec h 21 (D.length + 1)))) 0 0 (D ++ [a]) := by
      rw [d1]
      refine LX_app (LX_fr h2 (fun j _ hj => ?_) (fun j _ hj => ?_)) ?_ ?_
      · rw [up2_c _ _ _ _ (by decide), up2_i _ _ _ _ (by omega)]
      · rw [up2_i _ _ _ _ (by omega), up2_c _ _ _ _ (by decide)]
      · rw [up2_c _ _ _ _ (by decide), Nat.zero_add, up2_self]
      · rw [Nat.zero_add, up2_self]
    have k2 : LX (dec (kset (kset h 19 D.length (dec h 19 (D.length + 1))) 21 D.length (dec h 21 (D.length + 1)))) 0 (D.length + 1 + 1) t := by
      rw [d1]
      refine LX_fr (LX_tl h3) (fun j h7 hj => ?_) (fun j h7 hj => ?_)
      · rw [up2_c _ _ _ _ (by decide), up2_i _ _ _ _ (by omega)]
      · rw [up2_i _ _ _ _ (by omega), up2_c _ _ _ _ (by decide)]
    obtain ⟨h', e1, e2, e3, e4⟩ := r_wnm1 hN t (D ++ [a]) (kset (kset h 19 D.length (dec h 19 (D.length + 1))) 21 D.length (dec h 21 (D.length + 1))) n (by rw [d1, up2_c _ _ _ _ (by decide), up2_c _ _ _ _ (by decide)]; exact h0) (by omega) k1 (by rw [hl]; exact k2) (by omega)
    rw [hl] at e1
    refine ⟨h', e1, ?_, lz_t e3 (by rw [d1]; exact lz_t (lz_u (by omega)) (lz_u (by omega))), nz_t e4 (nz_t nz_k nz_k)⟩
    rw [show D ++ a :: t = D ++ [a] ++ t by simp]
    exact e2
theorem r_wnm {h : zV2} {W : List (Nat × Nat)} {j : Nat} (g : LN (dec h) 0 W) (hb : W.length ≤ 10) (hj : j < W.length) : ∃ h', xX10_waitsNoMore h (nI j) = some ((), h') ∧ LN (dec h') 0 (W.take j ++ W.drop (j + 1)) ∧ lz 0 (dec h') (dec h) ∧ nz h' h := by
  unfold xX10_waitsNoMore
  rw [kg6, kg6, kp6, ks6 h, ix2, ltI_d, g.1, nI_sub1 _ (by omega)]
  have d0 : dec (kset h 23 0 (nI (W.length - 1))) = up2 (dec h) 23 0 (nI (W.length - 1)) := dec_kset kv23
  have h1 : (W.take j).length = j := by simp; omega
  have hX := LN_X g
  obtain ⟨h', e1, e2, e3, e4⟩ := r_wnm1 (p1 := nI j) (N := W.length - 1) (by omega) (W.drop (j + 1)) (W.take j) (kset h 23 0 (nI (W.length - 1))) 1000 (by rw [d0, up2_self]) (by rw [h1]; simp; omega)
    (by
      rw [d0]
      refine LX_fr (v := dec h) (fun i e he => ?_) (fun i _ _ => up2_c _ _ _ _ (by decide)) (fun i _ _ => up2_c _ _ _ _ (by decide))
      refine hX i e ?_
      rw [List.getElem?_take] at he
      by_cases q : i < j
      · rwa [if_pos q] at he
      · rw [if_neg q] at he
        cases he)
    (by
      rw [d0]
      refine LX_fr (v := dec h) (fun i e he => ?_) (fun i _ _ => up2_c _ _ _ _ (by decide)) (fun i _ _ => up2_c _ _ _ _ (by decide))
      rw [h1]
      have := hX (j + 1 + i) e (by rw [List.getElem?_drop] at he; exact he)
      rwa [Nat.zero_add] at this)
    (by simp; omega)
  rw [h1] at e1
  exact ⟨h', e1, e2, lz_t e3 (by rw [d0]; exact lz_u (by omega)), nz_t e4 nz_k⟩
/-- one leaves the waiting line, on both sides -/
theorem s_dropW {c h : zV2} {nP j : Nat} {W : List (Nat × Nat)} {e : Nat × Nat} (g : GW nP W c (dec h)) (hP : nP ≤ 10) (he : W[j]? = some e) : ∃ c' h', xX3_remove 0 c (nI e.1) = some ((), c') ∧ xX10_waitsNoMore h (nI j) = some ((), h') ∧ GW nP (wo e.1 W) c' (dec h') ∧ lz 0 c' c ∧ lz 0 (dec h') (dec h) ∧ nz h' h := by
  obtain ⟨g1, g2, g3⟩ := g
  have hb := bnL_of g3 hP (by omega)
  have hm := hb.2 e (List.mem_of_getElem? he)
  obtain ⟨c', e1, e2, e3⟩ := c_remove (p := e.1) g1 hb (by omega)
  obtain ⟨h', f1, f2, f3, f4⟩ := r_wnm (j := j) g2 hb.1 (List.getElem?_eq_some_iff.mp he).1
  refine ⟨c', h', e1, f1, ⟨e2, ?_, WV_wo g3⟩, e3, f3, f4⟩
  rw [wo_at g3.2 he rfl]
  exact f2
theorem s_addW {c h : zV2} {nP p s : Nat} {W : List (Nat × Nat)} (g : GW nP W c (dec h)) (hP : nP ≤ 10) (hp : p < nP) (hs : s ≤ 3) (hn : ∀ e, e ∈ W → ¬ e.1 = p) : ∃ c' h', xX3_add 0 c (nI p) (nI s) = some ((), c') ∧ xX10_waitsFor h (nI p) (nI s) = some ((), h') ∧ GW nP (W ++ [(p, s)]) c' (dec h') ∧ lz 0 c' c ∧ lz 0 (dec h') (dec h) ∧ nz h' h := by
  obtain ⟨g1, g2, g3⟩ := g
  have hl := WV_len1 g3 hp hn
  obtain ⟨c', e1, e2, e3⟩ := c_add (p := p) (s := s) g1 (by omega)
  refine ⟨c', kset (kset (kset h 19 W.length (nI p)) 21 W.length (nI s)) 23 0 (nI W.length + 1), e1, ?_, ⟨e2, ?_, WV_app g3 hp hs hn⟩, e3, ?_, nz_t nz_k (nz_t nz_k nz_k)⟩
  · have w0 : dec h 23 0 = nI W.length := g2.1
    have w1 : dec (kset h 19 W.length (nI p)) 23 0 = nI W.length := by rw [dec_kset (kv19 (by omega)), up2_c _ _ _ _ (by decide), w0]
    have w2 : dec (kset (kset h 19 W.length (nI p)) 21 W.length (nI s)) 23 0 = nI W.length := by rw [dec_kset (kv21 (by omega)), up2_c _ _ _ _ (by decide), w1]
    unfold xX10_waitsFor
    rw [kg6, ks6 h, w0, ixW, grd_eq (inb_nI (by omega) (by omega)), nI_clamp (by omega), p19, kg6, ks6 (kset h 19 W.length (nI p)), w1, ixW1, grd_eq (inb_nI (by omega) (by omega)), nI_clamp (by omega), p21, kg6, kg6, kp6, ks6 (kset (kset h 19 W.length (nI p)) 21 W.length (nI s)), w2]
  · rw [dec_kset kv23, dec_kset (kv21 (by omega)), dec_kset (kv19 (by omega))]
    refine LX_N ?_ ?_
    · rw [up2_self, nI_1]
      simp
    · refine LX_app (LX_fr (LN_X g2) (fun j _ hj => ?_) (fun j _ hj => ?_)) ?_ ?_
      · rw [up2_c _ _ _ _ (by decide), up2_c _ _ _ _ (by decide), up2_i _ _ _ _ (by omega)]
      · rw [up2_c _ _ _ _ (by decide), up2_i _ _ _ _ (by omega), up2_c _ _ _ _ (by decide)]
      · rw [up2_c _ _ _ _ (by decide), up2_c _ _ _ _ (by decide), Nat.zero_add, up2_self]
      · rw [up2_c _ _ _ _ (by decide), Nat.zero_add, up2_self]
  · rw [dec_kset kv23, dec_kset (kv21 (by omega)), dec_kset (kv19 (by omega))]
    exact lz_t (lz_u (by omega)) (lz_t (lz_u (by omega)) (lz_u (by omega)))
/-! the line of wishes in the reference -/
def LY (v : zV2) (i : Nat) (t : List (Nat × Nat)) : Prop := ∀ j e, t[j]? = some e → v 20 (i + j) = nI e.1
def yz (k' k : zV2) : Prop := ∀ i, i ≠ 20 → i ≠ 24 → i ≠ 25 → k' i = k i
theorem yz_r (k : zV2) : yz k k := fun _ _ _ _ => rfl
theorem yz_t {a b c : zV2} (h1 : yz a b) (h2 : yz b c) : yz a c := fun i x y z => (h1 i x y z).trans (h2 i x y z)
theorem yz_u {j : Nat} {v : Int32} {c : zV2} {i : Nat} (h : i = 20 ∨ i = 24 ∨ i = 25) : yz (up2 c i j v) c := fun q x y z => up2_col c j v (by omega)
theorem LY_fr {v v' : zV2} {i : Nat} {L : List (Nat × Nat)} (h : LY v i L) (h1 : ∀ j, i ≤ j → j < i + L.length → v' 20 j = v 20 j) : LY v' i L := fun j e he => by
  have hj := (List.getElem?_eq_some_iff.mp he).1
  rw [h1 (i + j) (by omega) (by omega)]
  exact h j e he
theorem LY_app {v : zV2} {i : Nat} {L : List (Nat × Nat)} {a : Nat × Nat} (h : LY v i L) (h1 : v 20 (i + L.length) = nI a.1) : LY v i (L ++ [a]) := fun j e he => by
  rw [List.getElem?_append] at he
  by_cases q : j < L.length
  · rw [if_pos q] at he
    exact h j e he
  · rw [if_neg q] at he
    have hj : j = L.length := by
      have := (List.getElem?_eq_some_iff.mp he).1
      simp at this
      omega
    subst hj
    simp at he
    subst he
    exact h1
theorem r_ew50 {p1 : Int32} {N : Nat} (hN : N ≤ 9) : ∀ (t D : List (Nat × Nat)) (h : zV2) (n : Nat), dec h 24 0 = nI N → D.length + t.length = N → LY (dec h) 0 D → LY (dec h) (D.length + 1) t → t.length < n → ∃ h', xX10_endsWish_L50 p1 n h (nI D.length) = some ((), h') ∧ dec h' 24 0 = nI N ∧ LY (dec h') 0 (D ++ t) ∧ (∀ i, i ≠ 20 → dec h' i = dec h i) ∧ nz h' h
  | t, D, h, 0, _, _, _, _, h4 => absurd h4 (by omega)
  | [], D, h, n + 1, h0, h1, h2, h3, h4 => by
    simp at h1
    unfold xX10_endsWish_L50
    rw [kg7, ks7 h, h0, if_pos (nI_le (by omega) (by omega))]
    refine ⟨h, rfl, h0, ?_, fun i _ => rfl, nz_r _⟩
    rw [List.append_nil]
    exact h2
  | a :: t, D, h, n + 1, h0, h1, h2, h3, h4 => by
    simp only [List.length_cons] at h1 h4
    unfold xX10_endsWish_L50
    have hh : dec h 20 (D.length + 1) = nI a.1 := h3 0 a (by simp)
    have d1 : dec (kset h 20 D.length (nI a.1)) = up2 (dec h) 20 D.length (nI a.1) := dec_kset (kv20 (by omega))
    have hl : (D ++ [a]).length = D.length + 1 := by simp
    rw [kg7, ks7 h, h0, if_neg (nI_ge (by omega) (by omega)), ixX1, ixX, grd_eq (inb_nI (by omega) (by omega)), grd_eq (inb_nI (by omega) (by omega)), nI_clamp (by omega), nI_clamp (by omega), p20, ← d20 (h := h) (i := D.length + 1) (by omega), ltI_d, nI_1, hh]
    obtain ⟨h', e1, e2, e3, e4, e5⟩ := r_ew50 (p1 := p1) hN t (D ++ [a]) (kset h 20 D.length (nI a.1)) n (by rw [d1, up2_c _ _ _ _ (by decide)]; exact h0) (by omega)
      (by
        rw [d1]
        refine LY_app (LY_fr h2 (fun j _ hj => up2_i _ _ _ _ (by omega))) ?_
        rw [Nat.zero_add, up2_self])
      (by
        rw [d1, hl]
        intro j e he
        have := h3 (j + 1) e (by simpa using he)
        rw [up2_i _ _ _ _ (by omega), show D.length + 1 + 1 + j = D.length + 1 + (j + 1) by omega]
        exact this)
      (by omega)
    rw [hl] at e1
    refine ⟨h', e1, e2, by rw [show D ++ a :: t = D ++ [a] ++ t by simp]; exact e3, fun i hi => by rw [e4 i hi, d1, up2_col _ _ _ hi], nz_t e5 nz_k⟩
theorem r_ew19 {p N : Nat} (hp : p < 10) (hN : N ≤ 10) : ∀ (t D : List (Nat × Nat)) (a : Nat × Nat) (T : List (Nat × Nat)) (h : zV2) (n : Nat), dec h 24 0 = nI N → D.length + t.length + 1 + T.length = N → LY (dec h) 0 (D ++ t ++ a :: T) → (∀ e, e ∈ t → ¬ e.1 = p ∧ e.1 < 10) → a.1 = p → t.length < n → ∃ h', xX10_endsWish_L19 (nI p) n h (nI D.length) = some ((), h') ∧ dec h' 24 0 = nI (N - 1) ∧ LY (dec h') 0 (D ++ t ++ T) ∧ (∀ i, i ≠ 20 → i ≠ 24 → dec h' i = dec h i) ∧ nz h' h
  | t, D, a, T, h, 0, _, _, _, _, _, h4 => absurd h4 (by omega)
  | [], D, a, T, h, n + 1, h0, h1, h2, h3, ha, h4 => by
    simp only [List.length_nil, Nat.add_zero] at h1
    have hh : dec h 20 D.length = nI a.1 := by
      have := h2 D.length a (by simp)
      rwa [Nat.zero_add] at this
    have d1 : dec (kset h 24 0 (nI (N - 1))) = up2 (dec h) 24 0 (nI (N - 1)) := dec_kset kv24
    unfold xX10_endsWish_L19
    rw [ixX, grd_eq (inb_nI (by omega) (by omega)), nI_clamp (by omega), ← d20 (h := h) (i := D.length) (by omega), hh, if_pos (by rw [ha]), kg7, kg7, kp7, ks7 h, h0, nI_sub1 _ (by omega)]
    obtain ⟨h', e1, e2, e3, e4, e5⟩ := r_ew50 (p1 := nI p) (N := N - 1) (by omega) T D (kset h 24 0 (nI (N - 1))) 1000 (by rw [d1, up2_self]) (by omega)
      (by
        rw [d1]
        intro j e he
        rw [up2_c _ _ _ _ (by decide)]
        have hj := (List.getElem?_eq_some_iff.mp he).1
        exact h2 j e (by rw [List.append_nil, List.getElem?_append, if_pos hj]; exact he))
      (by
        rw [d1]
        intro j e he
        rw [up2_c _ _ _ _ (by decide)]
        have := h2 (D.length + 1 + j) e (by rw [List.append_nil, List.getElem?_append, if_neg (by omega), show D.length + 1 + j - D.length = j + 1 by omega]; simpa using he)
        rwa [Nat.zero_add] at this)
      (by omega)
    refine ⟨h', e1, e2, by rw [List.append_nil]; exact e3, fun i hi h24 => by rw [e4 i hi, d1, up2_col _ _ _ h24], nz_t e5 nz_k⟩
  | b :: t, D, a, T, h, n + 1, h0, h1, h2, h3, ha, h4 => by
    simp only [List.length_cons] at h1 h4
    have hb := h3 b (by simp)
    have hh : dec h 20 D.length = nI b.1 := by
      have := h2 D.length b (by simp)
      rwa [Nat.zero_add] at this
    have hl : (D ++ [b]).length = D.length + 1 := by simp
    unfold xX10_endsWish_L19
    rw [ixX, grd_eq (inb_nI (by omega) (by omega)), nI_clamp (by omega), ← d20 (h := h) (i := D.length) (by omega), hh, if_neg (fun z => hb.1 ((nI_eq (by omega) (by omega)).mp z)), ltI_d, nI_1]
    obtain ⟨h', e1, e2, e3, e4, e5⟩ := r_ew19 hp hN t (D ++ [b]) a T h n h0 (by omega) (by rw [show D ++ [b] ++ t ++ a :: T = D ++ (b :: t) ++ a :: T by simp]; exact h2) (fun e he => h3 e (by simp [he])) ha (by omega)
    rw [hl] at e1
    exact ⟨h', e1, e2, by rw [show D ++ b :: t ++ T = D ++ [b] ++ t ++ T by simp]; exact e3, e4, e5⟩
/-- a wish ends, on both sides -/
theorem s_endWish {c h : zV2} {nP p : Nat} {X : List (Nat × Nat)} (g : GX nP X c (dec h)) (hP : nP ≤ 10) (hp : p < nP) : ∃ c' h', xX3_remove 1 c (nI p) = some ((), c') ∧ xX10_endsWish h (nI p) = some ((), h') ∧ GX nP (wo p X) c' (dec h') ∧ lz 1 c' c ∧ yz (dec h') (dec h) ∧ nz h' h := by
  obtain ⟨g1, g2, g3, g4, g5⟩ := g
  have hb := bnL_of g5 hP (by omega)
  obtain ⟨c', e1, e2, e3⟩ := c_remove (p := p) g1 hb (by omega)
  by_cases q : szI X p = -1
  · have hn : ∀ e, e ∈ X → ¬ e.1 = p := fun e he z => by
      have := szI_get g5 he
      rw [z, q] at this
      exact nI_ne1 (by have := (hb.2 e he).2; omega) this.symm
    refine ⟨c', h, e1, ?_, ⟨e2, ?_⟩, e3, yz_r _, nz_r _⟩
    · unfold xX10_endsWish
      rw [r_ofP5 (by omega), bnd_d, g4 p hp, q, if_neg (by decide)]
    · rw [wo_no hn]
      exact ⟨g2, g3, g4, g5⟩
  · obtain ⟨j, s, hj, hs⟩ := szI_some q
    have hs2 := (hb.2 _ (List.mem_of_getElem? hj)).2
    have hjl := (List.getElem?_eq_some_iff.mp hj).1
    have d1 : dec (kset h 25 p (-1)) = up2 (dec h) 25 p (-1) := dec_kset (kv25 (by omega))
    have hX : X = X.take j ++ (p, s) :: X.drop (j + 1) := by
      have h1 : X.drop j = (p, s) :: X.drop (j + 1) := by
        rw [List.drop_eq_getElem_cons hjl]
        congr 1
        exact (List.getElem?_eq_some_iff.mp hj).2
      rw [← h1, List.take_append_drop]
    have htl : (X.take j).length = j := by simp; omega
    obtain ⟨h', f1, f2, f3, f4, f5⟩ := r_ew19 (p := p) (N := X.length) (by omega) hb.1 (X.take j) [] (p, s) (X.drop (j + 1)) (kset h 25 p (-1)) 1000 (by rw [d1, up2_c _ _ _ _ (by decide)]; exact g2) (by rw [htl]; simp; omega)
      (by
        rw [List.nil_append, ← hX, d1]
        intro i e he
        rw [up2_c _ _ _ _ (by decide), Nat.zero_add]
        exact g3 i e he)
      (fun e he => by
        obtain ⟨i, hi⟩ := List.getElem?_of_mem he
        have hil := (List.getElem?_eq_some_iff.mp hi).1
        rw [htl] at hil
        rw [List.getElem?_take, if_pos hil] at hi
        refine ⟨fun z => ?_, by have := hb.2 e (List.mem_of_getElem? hi); omega⟩
        have hd := g5.2
        have hi' : (X.map Prod.fst)[i]? = some p := by rw [List.getElem?_map, hi]; simp [z]
        have hj' : (X.map Prod.fst)[j]? = some p := by rw [List.getElem?_map, hj]; simp
        have hil2 : i < (X.map Prod.fst).length := by simp; omega
        have := (List.getElem?_inj hil2 hd).mp (hi'.trans hj'.symm)
        omega)
      rfl (by have := hb.1; rw [htl]; omega)
    refine ⟨c', h', e1, ?_, ⟨e2, ?_⟩, e3, ?_, nz_t f5 nz_k⟩
    · unfold xX10_endsWish
      rw [r_ofP5 (by omega), bnd_d, g4 p hp, hs, if_pos (nI_pos' (by omega)), r_layP5 _ (by omega), bnd_d]
      exact f1
    · have hw : wo p X = X.take j ++ X.drop (j + 1) := wo_at g5.2 hj rfl
      refine ⟨?_, ?_, ?_, WV_wo g5⟩
      · rw [f2, hw]
        refine congrArg nI ?_
        simp
        omega
      · rw [hw]
        intro i e he
        have := f3 i e (by rw [List.nil_append]; exact he)
        rwa [Nat.zero_add] at this
      · intro r hr
        rw [f4 25 (by decide) (by decide), d1, szI_wo]
        by_cases z : r = p
        · rw [if_pos z, z, up2_self]
        · rw [if_neg z, up2_i _ _ _ _ z, g4 r hr]
    · intro i h20 h24 h25
      rw [f4 i h20 h24, d1, up2_col _ _ _ h25]
