/-! pure part: what ties the class's hall to the reference's array -/
def oI : Option Nat → Int32
  | none => -1
  | some l => nI l
theorem oI_neg {o : Option Nat} (h : o = none) : oI o = -1 := by rw [h]; rfl
theorem nI_ne1 {n : Nat} (h : n < 2 ^ 31) : ¬ nI n = -1 := fun e => nI_pos h (by rw [e]; decide)
theorem oI_m1 {o : Option Nat} (hb : ∀ l, o = some l → l < 2 ^ 31) : oI o = -1 ↔ o = none := by
  cases o with
  | none => simp [oI]
  | some l => simp [oI, nI_ne1 (hb l rfl)]
theorem oI_lt {o : Option Nat} (hb : ∀ l, o = some l → l < 2 ^ 31) : oI o < 0 ↔ o = none := by
  cases o with
  | none => simp [oI]
  | some l => simp [oI, nI_pos (hb l rfl)]
theorem oI_ge {o : Option Nat} (hb : ∀ l, o = some l → l < 2 ^ 31) : 0 ≤ oI o ↔ ¬ o = none := by
  cases o with
  | none => simp [oI]
  | some l => simp [oI, nI_pos' (hb l rfl)]
def kset (h : zV2) (c i : Nat) (v : Int32) : zV2 := up2 h 0 (kpos c i) v
theorem dec_kset {h : zV2} {c i : Nat} {v : Int32} (hv : kval c i = true) : dec (kset h c i v) = up2 (dec h) c i v := dec_up v hv
def nz (h' h : zV2) : Prop := ∀ c, c ≠ 0 → h' c = h c
theorem nz_r (h : zV2) : nz h h := fun _ _ => rfl
theorem nz_t {a b c : zV2} (h1 : nz a b) (h2 : nz b c) : nz a c := fun x hx => (h1 x hx).trans (h2 x hx)
theorem nz_k {h : zV2} {c i : Nat} {v : Int32} : nz (kset h c i v) h := fun x hx => up2_col h _ _ hx
def GS (nL nP D : Nat) (c k : zV2) : Prop :=
  nL ≤ 12 ∧ nP ≤ 10 ∧ D ≤ 5099 ∧ c 13 0 = nI nL ∧ k 13 0 = nI nL ∧ c 14 0 = nI nP ∧ k 14 0 = nI nP ∧ c 15 0 = nI D ∧ k 15 0 = nI D ∧
  ∃ a b e, c 17 0 = nI a ∧ k 17 0 = nI a ∧ 1 ≤ a ∧ a ≤ 60 ∧ c 17 1 = nI b ∧ k 17 1 = nI b ∧ b ≤ 5 ∧ c 17 2 = nI e ∧ k 17 2 = nI e ∧ e ≤ 99
def LR1 (nP b : Nat) (c k : zV2) (l : Nat) : Prop :=
  ∃ (s : Nat) (st : Bool) (ho : Option Nat) (sp : Bool) (op : Option Nat), c 0 l = nI s ∧ k 0 l = nI s ∧ s ≤ 2 ∧
    c 1 l = (if st = true then 1 else 0) ∧ k 1 l = (if st = true then nI s else -1) ∧
    c 2 l = oI ho ∧ k 2 l = oI ho ∧ (∀ p, ho = some p → p < nP) ∧
    c 3 l = (if sp = true then 1 else 0) ∧ k 3 l = (if sp = true then 1 else 0) ∧
    c 4 l = oI op ∧ k 4 l = oI op ∧ (∀ o, op = some o → b < o ∧ o ≤ 5102) ∧ c 5 l = k 5 l
def L0 (c : zV2) (l : Nat) : Prop := c 1 l = 0 ∧ c 2 l = -1 ∧ c 3 l = 1 ∧ c 4 l = -1 ∧ c 5 l = 0
def GL (nL nP : Nat) (B : Nat → Nat) (c k : zV2) : Prop :=
  (∀ l, l < nL → LR1 nP (B l) c k l) ∧ (∀ l, nL ≤ l → l < 12 → L0 c l)
def PR1 (nL m : Nat) (c k : zV2) (p : Nat) : Prop :=
  ∃ (lo : Option Nat) (du re : Nat), c 6 p = oI lo ∧ k 6 p = oI lo ∧ (∀ l, lo = some l → l < nL ∧ m ≤ du + 20) ∧
    c 7 p = nI du ∧ k 7 p = nI du ∧ c 8 p = nI re ∧ k 8 p = nI re ∧ re ≤ 5 ∧ du ≤ 5099 + 60 * (re + 1) ∧
    c 9 p = k 9 p ∧ c 10 p = k 10 p ∧ c 11 p = k 11 p ∧ c 12 p = k 12 p
def P0 (c : zV2) (p : Nat) : Prop := c 6 p = -1 ∧ c 7 p = 0 ∧ c 8 p = 0 ∧ c 9 p = 0 ∧ c 10 p = 0 ∧ c 11 p = 0 ∧ c 12 p = 0
def GP (nL nP : Nat) (M : Nat → Nat) (c k : zV2) : Prop :=
  (∀ p, p < nP → PR1 nL (M p) c k p) ∧ (∀ p, nP ≤ p → p < 10 → P0 c p)
def LN (v : zV2) (w : Nat) (L : List (Nat × Nat)) : Prop :=
  v (23 + w) 0 = nI L.length ∧ ∀ i e, L[i]? = some e → v (19 + w) i = nI e.1 ∧ v (21 + w) i = nI e.2
def WV (nP ms : Nat) (L : List (Nat × Nat)) : Prop := (∀ e, e ∈ L → e.1 < nP ∧ e.2 ≤ ms) ∧ (L.map Prod.fst).Nodup
def szI (X : List (Nat × Nat)) (p : Nat) : Int32 := match X.find? (fun e => e.1 == p) with
  | some e => nI e.2
  | none => -1
def GW (nP : Nat) (W : List (Nat × Nat)) (c k : zV2) : Prop := LN c 0 W ∧ LN k 0 W ∧ WV nP 3 W
def GX (nP : Nat) (X : List (Nat × Nat)) (c k : zV2) : Prop :=
  LN c 1 X ∧ k 24 0 = nI X.length ∧ (∀ i e, X[i]? = some e → k 20 i = nI e.1) ∧ (∀ p, p < nP → k 25 p = szI X p) ∧ WV nP 2 X
def sm (f : Nat → Int32) : Nat → Int32
  | 0 => 0
  | n + 1 => sm f n + f n
/-- how many stand in a row -/
def cR (f g : Nat → Int32) (s : Nat) : Nat → Nat
  | 0 => 0
  | n + 1 => cR f g s n + (if f n = 0 then 0 else if g n = nI s then 1 else 0)
def GT (d : Int32) (c k : zV2) : Prop := k 16 0 = c 16 0 + d ∧ k 26 0 = sm (c 10) 10 ∧ k 27 0 = sm (c 9) 10 + sm (c 10) 10 ∧ ∀ s, s ≤ 2 → cR (c 1) (c 0) s 12 ≤ 4
def WN (W : List (Nat × Nat)) (c : zV2) : Prop := ∀ e, e ∈ W → c 6 e.1 = -1
def XN (X : List (Nat × Nat)) (c : zV2) : Prop := ∀ e, e ∈ X → c 6 e.1 ≠ -1
/-! frames -/
theorem GS_fr {nL nP D : Nat} {c k c' k' : zV2} (g : GS nL nP D c k) (hc : ∀ i, 13 ≤ i → i ≤ 17 → i ≠ 16 → c' i = c i) (hk : ∀ i, 13 ≤ i → i ≤ 17 → i ≠ 16 → k' i = k i) : GS nL nP D c' k' := by
  unfold GS at g ⊢
  rw [hc 13 (by decide) (by decide) (by decide), hc 14 (by decide) (by decide) (by decide), hc 15 (by decide) (by decide) (by decide), hc 17 (by decide) (by decide) (by decide), hk 13 (by decide) (by decide) (by decide), hk 14 (by decide) (by decide) (by decide), hk 15 (by decide) (by decide) (by decide), hk 17 (by decide) (by decide) (by decide)]
  exact g
theorem LR1_fr {nP b : Nat} {c k c' k' : zV2} {l : Nat} (g : LR1 nP b c k l) (hc : ∀ i, i ≤ 5 → c' i l = c i l) (hk : ∀ i, i ≤ 5 → k' i l = k i l) : LR1 nP b c' k' l := by
  unfold LR1 at g ⊢
  rw [hc 0 (by decide), hc 1 (by decide), hc 2 (by decide), hc 3 (by decide), hc 4 (by decide), hc 5 (by decide), hk 0 (by decide), hk 1 (by decide), hk 2 (by decide), hk 3 (by decide), hk 4 (by decide), hk 5 (by decide)]
  exact g
theorem L0_fr {c c' : zV2} {l : Nat} (g : L0 c l) (hc : ∀ i, i ≤ 5 → c' i l = c i l) : L0 c' l := by
  unfold L0 at g ⊢
  rw [hc 1 (by decide), hc 2 (by decide), hc 3 (by decide), hc 4 (by decide), hc 5 (by decide)]
  exact g
theorem GL_fr {nL nP : Nat} {B : Nat → Nat} {c k c' k' : zV2} (g : GL nL nP B c k) (hc : ∀ i, i ≤ 5 → c' i = c i) (hk : ∀ i, i ≤ 5 → k' i = k i) : GL nL nP B c' k' :=
  ⟨fun l hl => LR1_fr (g.1 l hl) (fun i hi => by rw [hc i hi]) (fun i hi => by rw [hk i hi]), fun l h1 h2 => L0_fr (g.2 l h1 h2) (fun i hi => by rw [hc i hi])⟩
theorem GL_up {nL nP : Nat} {B : Nat → Nat} {c k c' k' : zV2} {l : Nat} (g : GL nL nP B c k) (hl : l < nL) (hc : ∀ i q, i ≤ 5 → q ≠ l → c' i q = c i q) (hk : ∀ i q, i ≤ 5 → q ≠ l → k' i q = k i q) (hr : LR1 nP (B l) c' k' l) : GL nL nP B c' k' :=
  ⟨fun q hq => by
    by_cases e : q = l
    · subst e; exact hr
    · exact LR1_fr (g.1 q hq) (fun i hi => hc i q hi e) (fun i hi => hk i q hi e),
   fun q h1 h2 => L0_fr (g.2 q h1 h2) (fun i hi => hc i q hi (by omega))⟩
theorem PR1_fr {nL m : Nat} {c k c' k' : zV2} {p : Nat} (g : PR1 nL m c k p) (hc : ∀ i, 6 ≤ i → i ≤ 12 → c' i p = c i p) (hk : ∀ i, 6 ≤ i → i ≤ 12 → k' i p = k i p) : PR1 nL m c' k' p := by
  unfold PR1 at g ⊢
  rw [hc 6 (by decide) (by decide), hc 7 (by decide) (by decide), hc 8 (by decide) (by decide), hc 9 (by decide) (by decide), hc 10 (by decide) (by decide), hc 11 (by decide) (by decide), hc 12 (by decide) (by decide), hk 6 (by decide) (by decide), hk 7 (by decide) (by decide), hk 8 (by decide) (by decide), hk 9 (by decide) (by decide), hk 10 (by decide) (by decide), hk 11 (by decide) (by decide), hk 12 (by decide) (by decide)]
  exact g
theorem P0_fr {c c' : zV2} {p : Nat} (g : P0 c p) (hc : ∀ i, 6 ≤ i → i ≤ 12 → c' i p = c i p) : P0 c' p := by
  unfold P0 at g ⊢
  rw [hc 6 (by decide) (by decide), hc 7 (by decide) (by decide), hc 8 (by decide) (by decide), hc 9 (by decide) (by decide), hc 10 (by decide) (by decide), hc 11 (by decide) (by decide), hc 12 (by decide) (by decide)]
  exact g
theorem GP_fr {nL nP : Nat} {M : Nat → Nat} {c k c' k' : zV2} (g : GP nL nP M c k) (hc : ∀ i, 6 ≤ i → i ≤ 12 → c' i = c i) (hk : ∀ i, 6 ≤ i → i ≤ 12 → k' i = k i) : GP nL nP M c' k' :=
  ⟨fun p hp => PR1_fr (g.1 p hp) (fun i h1 h2 => by rw [hc i h1 h2]) (fun i h1 h2 => by rw [hk i h1 h2]), fun p h1 h2 => P0_fr (g.2 p h1 h2) (fun i h3 h4 => by rw [hc i h3 h4])⟩
theorem GP_up {nL nP : Nat} {M : Nat → Nat} {c k c' k' : zV2} {p : Nat} (g : GP nL nP M c k) (hp : p < nP) (hc : ∀ i q, 6 ≤ i → i ≤ 12 → q ≠ p → c' i q = c i q) (hk : ∀ i q, 6 ≤ i → i ≤ 12 → q ≠ p → k' i q = k i q) (hr : PR1 nL (M p) c' k' p) : GP nL nP M c' k' :=
  ⟨fun q hq => by
    by_cases e : q = p
    · subst e; exact hr
    · exact PR1_fr (g.1 q hq) (fun i h1 h2 => hc i q h1 h2 e) (fun i h1 h2 => hk i q h1 h2 e),
   fun q h1 h2 => P0_fr (g.2 q h1 h2) (fun i h3 h4 => hc i q h3 h4 (by omega))⟩
theorem LN_fr {v v' : zV2} {w : Nat} {L : List (Nat × Nat)} (g : LN v w L) (h1 : v' (23 + w) = v (23 + w)) (h2 : v' (19 + w) = v (19 + w)) (h3 : v' (21 + w) = v (21 + w)) : LN v' w L := by
  unfold LN at g ⊢
  rw [h1, h2, h3]
  exact g
theorem GW_fr {nP : Nat} {W : List (Nat × Nat)} {c k c' k' : zV2} (g : GW nP W c k) (hc : ∀ i, i = 19 ∨ i = 21 ∨ i = 23 → c' i = c i) (hk : ∀ i, i = 19 ∨ i = 21 ∨ i = 23 → k' i = k i) : GW nP W c' k' :=
  ⟨LN_fr g.1 (hc 23 (by decide)) (hc 19 (by decide)) (hc 21 (by decide)), LN_fr g.2.1 (hk 23 (by decide)) (hk 19 (by decide)) (hk 21 (by decide)), g.2.2⟩
theorem GX_fr {nP : Nat} {X : List (Nat × Nat)} {c k c' k' : zV2} (g : GX nP X c k) (hc : ∀ i, i = 20 ∨ i = 22 ∨ i = 24 → c' i = c i) (hk : ∀ i, i = 20 ∨ i = 24 ∨ i = 25 → k' i = k i) : GX nP X c' k' := by
  obtain ⟨g1, g2, g3, g4, g5⟩ := g
  refine ⟨LN_fr g1 (hc 24 (by decide)) (hc 20 (by decide)) (hc 22 (by decide)), ?_, ?_, ?_, g5⟩
  · rw [hk 24 (by decide)]; exact g2
  · rw [hk 20 (by decide)]; exact g3
  · rw [hk 25 (by decide)]; exact g4
theorem GT_fr {d : Int32} {c k c' k' : zV2} (g : GT d c k) (hc : ∀ i, i = 9 ∨ i = 10 ∨ i = 16 ∨ i = 0 ∨ i = 1 → c' i = c i) (hk : ∀ i, i = 16 ∨ i = 26 ∨ i = 27 → k' i = k i) : GT d c' k' := by
  unfold GT at g ⊢
  rw [hc 9 (by decide), hc 10 (by decide), hc 16 (by decide), hc 0 (by decide), hc 1 (by decide), hk 16 (by decide), hk 26 (by decide), hk 27 (by decide)]
  exact g
theorem sm_c {f g : Nat → Int32} : ∀ {n : Nat}, (∀ i, i < n → g i = f i) → sm g n = sm f n
  | 0, _ => rfl
  | n + 1, h => by
    show sm g n + g n = sm f n + f n
    rw [sm_c (fun i hi => h i (by omega)), h n (by omega)]
theorem sm_u {f g : Nat → Int32} {p : Nat} {v : Int32} : ∀ {n : Nat}, p < n → (∀ i, i ≠ p → g i = f i) → g p = f p + v → sm g n = sm f n + v
  | 0, h, _, _ => absurd h (by omega)
  | n + 1, h, hg, hv => by
    show sm g n + g n = sm f n + f n + v
    by_cases e : p = n
    · subst e
      rw [sm_c (fun i hi => hg i (by omega)), hv, Int32.add_assoc]
    · rw [sm_u (n := n) (by omega) hg hv, hg n (by omega), Int32.add_assoc, Int32.add_comm v, ← Int32.add_assoc]
/-! a list of different small numbers is short -/
theorem pig : ∀ (n : Nat) (L : List Nat), L.Nodup → (∀ x, x ∈ L → x < n) → L.length ≤ n
  | 0, L, _, h => by
    cases L with
    | nil => simp
    | cons a t => exact absurd (h a (by simp)) (by omega)
  | n + 1, L, hd, h => by
    by_cases e : n ∈ L
    · have h1 := pig n (L.erase n) (hd.erase n) (fun x hx => by
        have h2 := (hd.mem_erase_iff).mp hx
        have h3 := h x h2.2
        omega)
      have h4 := List.length_erase_of_mem e
      omega
    · have h1 := pig n L hd (fun x hx => by
        have h3 := h x hx
        have h4 : x ≠ n := fun q => e (q ▸ hx)
        omega)
      omega
theorem WV_len {nP ms : Nat} {L : List (Nat × Nat)} (h : WV nP ms L) : L.length ≤ nP := by
  have := pig nP (L.map Prod.fst) h.2 (fun x hx => by
    obtain ⟨e, he, rfl⟩ := List.mem_map.mp hx
    exact (h.1 e he).1)
  simpa using this
theorem WV_len1 {nP ms : Nat} {L : List (Nat × Nat)} (h : WV nP ms L) {p : Nat} (hp : p < nP) (hn : ∀ e, e ∈ L → e.1 ≠ p) : L.length < nP := by
  have := pig nP (p :: L.map Prod.fst) (List.nodup_cons.mpr ⟨fun hx => by
    obtain ⟨e, he, q⟩ := List.mem_map.mp hx
    exact hn e he q, h.2⟩) (fun x hx => by
    rcases List.mem_cons.mp hx with q | hx
    · omega
    · obtain ⟨e, he, rfl⟩ := List.mem_map.mp hx
      exact (h.1 e he).1)
  simp at this
  omega

/-! who holds which locker: both sides of it agree -/
def fu (f : Nat → Int32) (i : Nat) (v : Int32) : Nat → Int32 := fun q => if q = i then v else f q
theorem fu_s (f : Nat → Int32) (i : Nat) (v : Int32) : fu f i v i = v := if_pos rfl
theorem fu_n (f : Nat → Int32) {i j : Nat} (v : Int32) (h : j ≠ i) : fu f i v j = f j := if_neg h
def bj (f6 f2 : Nat → Int32) : Prop := (∀ p l, p < 10 → l < 12 → f6 p = nI l → f2 l = nI p) ∧ (∀ p l, p < 10 → l < 12 → f2 l = nI p → f6 p = nI l)
def BJ (c : zV2) : Prop := bj (c 6) (c 2)
theorem bj_e {f6 f2 g6 g2 : Nat → Int32} (h : bj f6 f2) (h6 : ∀ p, p < 10 → g6 p = f6 p) (h2 : ∀ l, l < 12 → g2 l = f2 l) : bj g6 g2 :=
  ⟨fun p l hp hl e => by rw [h2 l hl]; exact h.1 p l hp hl (by rw [← h6 p hp]; exact e), fun p l hp hl e => by rw [h6 p hp]; exact h.2 p l hp hl (by rw [← h2 l hl]; exact e)⟩
theorem BJ_e {c c' : zV2} (h : BJ c) (h6 : ∀ p, p < 10 → c' 6 p = c 6 p) (h2 : ∀ l, l < 12 → c' 2 l = c 2 l) : BJ c' := bj_e h h6 h2
theorem nI_i {a b : Nat} (ha : a < 2 ^ 31) (hb : b < 2 ^ 31) (h : nI a = nI b) : a = b := (nI_eq ha hb).mp h
theorem bj_begin {f6 f2 : Nat → Int32} {p l : Nat} (h : bj f6 f2) (hp : p < 10) (hl : l < 12) (h6 : f6 p = -1) (h2 : f2 l = -1) : bj (fu f6 p (nI l)) (fu f2 l (nI p)) := by
  refine ⟨fun r m hr hm e => ?_, fun r m hr hm e => ?_⟩
  · by_cases z : r = p
    · subst z
      rw [fu_s] at e
      have := nI_i (by omega) (by omega) e
      subst this
      exact fu_s _ _ _
    · rw [fu_n _ _ z] at e
      have k := h.1 r m hr hm e
      have : m ≠ l := fun y => nI_ne1 (n := r) (by omega) (by rw [← k, y]; exact h2)
      rw [fu_n _ _ this]
      exact k
  · by_cases z : m = l
    · subst z
      rw [fu_s] at e
      have := nI_i (by omega) (by omega) e
      subst this
      exact fu_s _ _ _
    · rw [fu_n _ _ z] at e
      have k := h.2 r m hr hm e
      have : r ≠ p := fun y => nI_ne1 (n := m) (by omega) (by rw [← k, y]; exact h6)
      rw [fu_n _ _ this]
      exact k
theorem bj_end {f6 f2 : Nat → Int32} {p l : Nat} (h : bj f6 f2) (hp : p < 10) (hl : l < 12) (h6 : f6 p = nI l) : bj (fu f6 p (-1)) (fu f2 l (-1)) := by
  have h2 := h.1 p l hp hl h6
  refine ⟨fun r m hr hm e => ?_, fun r m hr hm e => ?_⟩
  · have z : r ≠ p := fun y => by
      rw [y, fu_s] at e
      exact nI_ne1 (n := m) (by omega) e.symm
    rw [fu_n _ _ z] at e
    have k := h.1 r m hr hm e
    have : m ≠ l := fun y => z (nI_i (by omega) (by omega) (by rw [← k, y]; exact h2))
    rw [fu_n _ _ this]
    exact k
  · have z : m ≠ l := fun y => by
      rw [y, fu_s] at e
      exact nI_ne1 (n := r) (by omega) e.symm
    rw [fu_n _ _ z] at e
    have k := h.2 r m hr hm e
    have : r ≠ p := fun y => z (nI_i (by omega) (by omega) (by rw [← k, y]; exact h6))
    rw [fu_n _ _ this]
    exact k
theorem fu_of {f g : Nat → Int32} {i : Nat} {v : Int32} (h : ∀ q, g q = if q = i then v else f q) : g = fu f i v := funext h
theorem fu_fu (f : Nat → Int32) (i : Nat) (v w : Int32) : fu (fu f i v) i w = fu f i w := by
  funext q
  unfold fu
  by_cases e : q = i
  · rw [if_pos e, if_pos e]
  · rw [if_neg e, if_neg e, if_neg e]
theorem fu_c (f : Nat → Int32) {i j : Nat} (v w : Int32) (h : i ≠ j) : fu (fu f i v) j w = fu (fu f j w) i v := by
  funext q
  unfold fu
  by_cases e : q = i
  · rw [if_neg (by omega), if_pos e, if_pos e]
  · by_cases e2 : q = j
    · rw [if_pos e2, if_neg e, if_pos e2]
    · rw [if_neg e2, if_neg e, if_neg e, if_neg e2]
