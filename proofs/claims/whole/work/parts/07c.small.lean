/-! pure part: the small methods of the reference and of the hall -/
def bI (b : Bool) : Int32 := if b = true then 1 else 0
theorem bI_0 {b : Bool} : bI b = 0 ↔ b = false := by cases b <;> simp [bI]
theorem bI_b (b : Bool) : isb (bI b) = true := by cases b <;> rfl
theorem put2_d {β : Type} (h : zV2) (c i : Nat) (x : Int32) (k : zV2 → β) : put2 h c i x k = k (up2 h c i x) := rfl
theorem ltI_d {α β : Type} (x : α) (k : α → β) : ltI x k = k x := rfl
theorem om_n {β : Type} (a : β) (f : Nat → β) : optm none a f = a := rfl
theorem om_s {β : Type} (l : Nat) (a : β) (f : Nat → β) : optm (some l) a f = f l := rfl
theorem bnd_d {α σ β : Type} (a : α) (s : σ) (k : α → σ → Option β) : bnd (some (a, s)) k = k a s := rfl
theorem grd_d {β : Type} (k : Option β) : grd true k = k := rfl
theorem ks0 (h : zV2) : h 0 ((0 : Int32).toNatClampNeg) = dec h 17 0 := rfl
theorem kp0 {β : Type} (h : zV2) (x : Int32) (k : zV2 → β) : put2 h 0 ((0 : Int32).toNatClampNeg) x k = k (kset h 17 0 x) := rfl
theorem kg0 {β : Type} (k : Option β) : grd (inb (0 : Int32) 193) k = k := rfl
theorem ks1 (h : zV2) : h 0 ((1 : Int32).toNatClampNeg) = dec h 17 1 := rfl
theorem kp1 {β : Type} (h : zV2) (x : Int32) (k : zV2 → β) : put2 h 0 ((1 : Int32).toNatClampNeg) x k = k (kset h 17 1 x) := rfl
theorem kg1 {β : Type} (k : Option β) : grd (inb (1 : Int32) 193) k = k := rfl
theorem ks2 (h : zV2) : h 0 ((2 : Int32).toNatClampNeg) = dec h 17 2 := rfl
theorem kp2 {β : Type} (h : zV2) (x : Int32) (k : zV2 → β) : put2 h 0 ((2 : Int32).toNatClampNeg) x k = k (kset h 17 2 x) := rfl
theorem kg2 {β : Type} (k : Option β) : grd (inb (2 : Int32) 193) k = k := rfl
theorem ks3 (h : zV2) : h 0 ((3 : Int32).toNatClampNeg) = dec h 15 0 := rfl
theorem kp3 {β : Type} (h : zV2) (x : Int32) (k : zV2 → β) : put2 h 0 ((3 : Int32).toNatClampNeg) x k = k (kset h 15 0 x) := rfl
theorem kg3 {β : Type} (k : Option β) : grd (inb (3 : Int32) 193) k = k := rfl
theorem ks4 (h : zV2) : h 0 ((4 : Int32).toNatClampNeg) = dec h 13 0 := rfl
theorem kp4 {β : Type} (h : zV2) (x : Int32) (k : zV2 → β) : put2 h 0 ((4 : Int32).toNatClampNeg) x k = k (kset h 13 0 x) := rfl
theorem kg4 {β : Type} (k : Option β) : grd (inb (4 : Int32) 193) k = k := rfl
theorem ks5 (h : zV2) : h 0 ((5 : Int32).toNatClampNeg) = dec h 14 0 := rfl
theorem kp5 {β : Type} (h : zV2) (x : Int32) (k : zV2 → β) : put2 h 0 ((5 : Int32).toNatClampNeg) x k = k (kset h 14 0 x) := rfl
theorem kg5 {β : Type} (k : Option β) : grd (inb (5 : Int32) 193) k = k := rfl
theorem ks6 (h : zV2) : h 0 ((6 : Int32).toNatClampNeg) = dec h 23 0 := rfl
theorem kp6 {β : Type} (h : zV2) (x : Int32) (k : zV2 → β) : put2 h 0 ((6 : Int32).toNatClampNeg) x k = k (kset h 23 0 x) := rfl
theorem kg6 {β : Type} (k : Option β) : grd (inb (6 : Int32) 193) k = k := rfl
theorem ks7 (h : zV2) : h 0 ((7 : Int32).toNatClampNeg) = dec h 24 0 := rfl
theorem kp7 {β : Type} (h : zV2) (x : Int32) (k : zV2 → β) : put2 h 0 ((7 : Int32).toNatClampNeg) x k = k (kset h 24 0 x) := rfl
theorem kg7 {β : Type} (k : Option β) : grd (inb (7 : Int32) 193) k = k := rfl
theorem ks8 (h : zV2) : h 0 ((8 : Int32).toNatClampNeg) = dec h 26 0 := rfl
theorem kp8 {β : Type} (h : zV2) (x : Int32) (k : zV2 → β) : put2 h 0 ((8 : Int32).toNatClampNeg) x k = k (kset h 26 0 x) := rfl
theorem kg8 {β : Type} (k : Option β) : grd (inb (8 : Int32) 193) k = k := rfl
theorem ks9 (h : zV2) : h 0 ((9 : Int32).toNatClampNeg) = dec h 27 0 := rfl
theorem kp9 {β : Type} (h : zV2) (x : Int32) (k : zV2 → β) : put2 h 0 ((9 : Int32).toNatClampNeg) x k = k (kset h 27 0 x) := rfl
theorem kg9 {β : Type} (k : Option β) : grd (inb (9 : Int32) 193) k = k := rfl
theorem ks10 (h : zV2) : h 0 ((10 : Int32).toNatClampNeg) = dec h 16 0 := rfl
theorem kp10 {β : Type} (h : zV2) (x : Int32) (k : zV2 → β) : put2 h 0 ((10 : Int32).toNatClampNeg) x k = k (kset h 16 0 x) := rfl
theorem kg10 {β : Type} (k : Option β) : grd (inb (10 : Int32) 193) k = k := rfl
theorem ix_0 (l : Nat) : ((11 : Int32) + ((6 : Int32) * nI l)) + (0 : Int32) = nI (11 + 6 * l) := by
  rw [show (11 : Int32) = nI 11 from rfl, show (6 : Int32) = nI 6 from rfl, show (0 : Int32) = nI 0 from rfl, pk_mul, nI_add, nI_add]
  exact congrArg nI (by omega)
theorem r_of0 {h : zV2} {l : Nat} (hl : l < 12) : xX10_of h (nI l) (0 : Int32) = some (dec h 0 l, h) := by
  unfold xX10_of
  rw [ix_0, nI_clamp (by omega), grd_eq (inb_nI (by omega) (by omega)), dec_at (c := 0) (i := l) (decide_eq_true hl)]
  rfl
theorem r_lay0 {h : zV2} {l : Nat} (v : Int32) (hl : l < 12) : xX10_lay h (nI l) (0 : Int32) v = some ((), kset h 0 l v) := by
  unfold xX10_lay
  rw [ix_0, nI_clamp (by omega), grd_eq (inb_nI (by omega) (by omega))]
  rfl
theorem kv0 {l : Nat} (hl : l < 12) : kval 0 l = true := decide_eq_true hl
theorem ix_1 (l : Nat) : ((11 : Int32) + ((6 : Int32) * nI l)) + (1 : Int32) = nI (12 + 6 * l) := by
  rw [show (11 : Int32) = nI 11 from rfl, show (6 : Int32) = nI 6 from rfl, show (1 : Int32) = nI 1 from rfl, pk_mul, nI_add, nI_add]
  exact congrArg nI (by omega)
theorem r_of1 {h : zV2} {l : Nat} (hl : l < 12) : xX10_of h (nI l) (1 : Int32) = some (dec h 1 l, h) := by
  unfold xX10_of
  rw [ix_1, nI_clamp (by omega), grd_eq (inb_nI (by omega) (by omega)), dec_at (c := 1) (i := l) (decide_eq_true hl)]
  rfl
theorem r_lay1 {h : zV2} {l : Nat} (v : Int32) (hl : l < 12) : xX10_lay h (nI l) (1 : Int32) v = some ((), kset h 1 l v) := by
  unfold xX10_lay
  rw [ix_1, nI_clamp (by omega), grd_eq (inb_nI (by omega) (by omega))]
  rfl
theorem kv1 {l : Nat} (hl : l < 12) : kval 1 l = true := decide_eq_true hl
theorem ix_2 (l : Nat) : ((11 : Int32) + ((6 : Int32) * nI l)) + (2 : Int32) = nI (13 + 6 * l) := by
  rw [show (11 : Int32) = nI 11 from rfl, show (6 : Int32) = nI 6 from rfl, show (2 : Int32) = nI 2 from rfl, pk_mul, nI_add, nI_add]
  exact congrArg nI (by omega)
theorem r_of2 {h : zV2} {l : Nat} (hl : l < 12) : xX10_of h (nI l) (2 : Int32) = some (dec h 2 l, h) := by
  unfold xX10_of
  rw [ix_2, nI_clamp (by omega), grd_eq (inb_nI (by omega) (by omega)), dec_at (c := 2) (i := l) (decide_eq_true hl)]
  rfl
theorem r_lay2 {h : zV2} {l : Nat} (v : Int32) (hl : l < 12) : xX10_lay h (nI l) (2 : Int32) v = some ((), kset h 2 l v) := by
  unfold xX10_lay
  rw [ix_2, nI_clamp (by omega), grd_eq (inb_nI (by omega) (by omega))]
  rfl
theorem kv2 {l : Nat} (hl : l < 12) : kval 2 l = true := decide_eq_true hl
theorem ix_3 (l : Nat) : ((11 : Int32) + ((6 : Int32) * nI l)) + (3 : Int32) = nI (14 + 6 * l) := by
  rw [show (11 : Int32) = nI 11 from rfl, show (6 : Int32) = nI 6 from rfl, show (3 : Int32) = nI 3 from rfl, pk_mul, nI_add, nI_add]
  exact congrArg nI (by omega)
theorem r_of3 {h : zV2} {l : Nat} (hl : l < 12) : xX10_of h (nI l) (3 : Int32) = some (dec h 3 l, h) := by
  unfold xX10_of
  rw [ix_3, nI_clamp (by omega), grd_eq (inb_nI (by omega) (by omega)), dec_at (c := 3) (i := l) (decide_eq_true hl)]
  rfl
theorem r_lay3 {h : zV2} {l : Nat} (v : Int32) (hl : l < 12) : xX10_lay h (nI l) (3 : Int32) v = some ((), kset h 3 l v) := by
  unfold xX10_lay
  rw [ix_3, nI_clamp (by omega), grd_eq (inb_nI (by omega) (by omega))]
  rfl
theorem kv3 {l : Nat} (hl : l < 12) : kval 3 l = true := decide_eq_true hl
theorem ix_4 (l : Nat) : ((11 : Int32) + ((6 : Int32) * nI l)) + (4 : Int32) = nI (15 + 6 * l) := by
  rw [show (11 : Int32) = nI 11 from rfl, show (6 : Int32) = nI 6 from rfl, show (4 : Int32) = nI 4 from rfl, pk_mul, nI_add, nI_add]
  exact congrArg nI (by omega)
theorem r_of4 {h : zV2} {l : Nat} (hl : l < 12) : xX10_of h (nI l) (4 : Int32) = some (dec h 4 l, h) := by
  unfold xX10_of
  rw [ix_4, nI_clamp (by omega), grd_eq (inb_nI (by omega) (by omega)), dec_at (c := 4) (i := l) (decide_eq_true hl)]
  rfl
theorem r_lay4 {h : zV2} {l : Nat} (v : Int32) (hl : l < 12) : xX10_lay h (nI l) (4 : Int32) v = some ((), kset h 4 l v) := by
  unfold xX10_lay
  rw [ix_4, nI_clamp (by omega), grd_eq (inb_nI (by omega) (by omega))]
  rfl
theorem kv4 {l : Nat} (hl : l < 12) : kval 4 l = true := decide_eq_true hl
theorem ix_5 (l : Nat) : ((11 : Int32) + ((6 : Int32) * nI l)) + (5 : Int32) = nI (16 + 6 * l) := by
  rw [show (11 : Int32) = nI 11 from rfl, show (6 : Int32) = nI 6 from rfl, show (5 : Int32) = nI 5 from rfl, pk_mul, nI_add, nI_add]
  exact congrArg nI (by omega)
theorem r_of5 {h : zV2} {l : Nat} (hl : l < 12) : xX10_of h (nI l) (5 : Int32) = some (dec h 5 l, h) := by
  unfold xX10_of
  rw [ix_5, nI_clamp (by omega), grd_eq (inb_nI (by omega) (by omega)), dec_at (c := 5) (i := l) (decide_eq_true hl)]
  rfl
theorem r_lay5 {h : zV2} {l : Nat} (v : Int32) (hl : l < 12) : xX10_lay h (nI l) (5 : Int32) v = some ((), kset h 5 l v) := by
  unfold xX10_lay
  rw [ix_5, nI_clamp (by omega), grd_eq (inb_nI (by omega) (by omega))]
  rfl
theorem kv5 {l : Nat} (hl : l < 12) : kval 5 l = true := decide_eq_true hl
theorem ixP_0 (l : Nat) : ((83 : Int32) + ((8 : Int32) * nI l)) + (0 : Int32) = nI (83 + 8 * l) := by
  rw [show (83 : Int32) = nI 83 from rfl, show (8 : Int32) = nI 8 from rfl, show (0 : Int32) = nI 0 from rfl, pk_mul, nI_add, nI_add]
  exact congrArg nI (by omega)
theorem r_ofP0 {h : zV2} {l : Nat} (hl : l < 10) : xX10_ofP h (nI l) (0 : Int32) = some (dec h 6 l, h) := by
  unfold xX10_ofP
  rw [ixP_0, nI_clamp (by omega), grd_eq (inb_nI (by omega) (by omega)), dec_at (c := 6) (i := l) (decide_eq_true hl)]
  rfl
theorem r_layP0 {h : zV2} {l : Nat} (v : Int32) (hl : l < 10) : xX10_layP h (nI l) (0 : Int32) v = some ((), kset h 6 l v) := by
  unfold xX10_layP
  rw [ixP_0, nI_clamp (by omega), grd_eq (inb_nI (by omega) (by omega))]
  rfl
theorem kv6 {l : Nat} (hl : l < 10) : kval 6 l = true := decide_eq_true hl
theorem ixP_1 (l : Nat) : ((83 : Int32) + ((8 : Int32) * nI l)) + (1 : Int32) = nI (84 + 8 * l) := by
  rw [show (83 : Int32) = nI 83 from rfl, show (8 : Int32) = nI 8 from rfl, show (1 : Int32) = nI 1 from rfl, pk_mul, nI_add, nI_add]
  exact congrArg nI (by omega)
theorem r_ofP1 {h : zV2} {l : Nat} (hl : l < 10) : xX10_ofP h (nI l) (1 : Int32) = some (dec h 7 l, h) := by
  unfold xX10_ofP
  rw [ixP_1, nI_clamp (by omega), grd_eq (inb_nI (by omega) (by omega)), dec_at (c := 7) (i := l) (decide_eq_true hl)]
  rfl
theorem r_layP1 {h : zV2} {l : Nat} (v : Int32) (hl : l < 10) : xX10_layP h (nI l) (1 : Int32) v = some ((), kset h 7 l v) := by
  unfold xX10_layP
  rw [ixP_1, nI_clamp (by omega), grd_eq (inb_nI (by omega) (by omega))]
  rfl
theorem kv7 {l : Nat} (hl : l < 10) : kval 7 l = true := decide_eq_true hl
theorem ixP_2 (l : Nat) : ((83 : Int32) + ((8 : Int32) * nI l)) + (2 : Int32) = nI (85 + 8 * l) := by
  rw [show (83 : Int32) = nI 83 from rfl, show (8 : Int32) = nI 8 from rfl, show (2 : Int32) = nI 2 from rfl, pk_mul, nI_add, nI_add]
  exact congrArg nI (by omega)
theorem r_ofP2 {h : zV2} {l : Nat} (hl : l < 10) : xX10_ofP h (nI l) (2 : Int32) = some (dec h 8 l, h) := by
  unfold xX10_ofP
  rw [ixP_2, nI_clamp (by omega), grd_eq (inb_nI (by omega) (by omega)), dec_at (c := 8) (i := l) (decide_eq_true hl)]
  rfl
theorem r_layP2 {h : zV2} {l : Nat} (v : Int32) (hl : l < 10) : xX10_layP h (nI l) (2 : Int32) v = some ((), kset h 8 l v) := by
  unfold xX10_layP
  rw [ixP_2, nI_clamp (by omega), grd_eq (inb_nI (by omega) (by omega))]
  rfl
theorem kv8 {l : Nat} (hl : l < 10) : kval 8 l = true := decide_eq_true hl
theorem ixP_3 (l : Nat) : ((83 : Int32) + ((8 : Int32) * nI l)) + (3 : Int32) = nI (86 + 8 * l) := by
  rw [show (83 : Int32) = nI 83 from rfl, show (8 : Int32) = nI 8 from rfl, show (3 : Int32) = nI 3 from rfl, pk_mul, nI_add, nI_add]
  exact congrArg nI (by omega)
theorem r_ofP3 {h : zV2} {l : Nat} (hl : l < 10) : xX10_ofP h (nI l) (3 : Int32) = some (dec h 9 l, h) := by
  unfold xX10_ofP
  rw [ixP_3, nI_clamp (by omega), grd_eq (inb_nI (by omega) (by omega)), dec_at (c := 9) (i := l) (decide_eq_true hl)]
  rfl
theorem r_layP3 {h : zV2} {l : Nat} (v : Int32) (hl : l < 10) : xX10_layP h (nI l) (3 : Int32) v = some ((), kset h 9 l v) := by
  unfold xX10_layP
  rw [ixP_3, nI_clamp (by omega), grd_eq (inb_nI (by omega) (by omega))]
  rfl
theorem kv9 {l : Nat} (hl : l < 10) : kval 9 l = true := decide_eq_true hl
theorem ixP_4 (l : Nat) : ((83 : Int32) + ((8 : Int32) * nI l)) + (4 : Int32) = nI (87 + 8 * l) := by
  rw [show (83 : Int32) = nI 83 from rfl, show (8 : Int32) = nI 8 from rfl, show (4 : Int32) = nI 4 from rfl, pk_mul, nI_add, nI_add]
  exact congrArg nI (by omega)
theorem r_ofP4 {h : zV2} {l : Nat} (hl : l < 10) : xX10_ofP h (nI l) (4 : Int32) = some (dec h 10 l, h) := by
  unfold xX10_ofP
  rw [ixP_4, nI_clamp (by omega), grd_eq (inb_nI (by omega) (by omega)), dec_at (c := 10) (i := l) (decide_eq_true hl)]
  rfl
theorem r_layP4 {h : zV2} {l : Nat} (v : Int32) (hl : l < 10) : xX10_layP h (nI l) (4 : Int32) v = some ((), kset h 10 l v) := by
  unfold xX10_layP
  rw [ixP_4, nI_clamp (by omega), grd_eq (inb_nI (by omega) (by omega))]
  rfl
theorem kv10 {l : Nat} (hl : l < 10) : kval 10 l = true := decide_eq_true hl
theorem ixP_5 (l : Nat) : ((83 : Int32) + ((8 : Int32) * nI l)) + (5 : Int32) = nI (88 + 8 * l) := by
  rw [show (83 : Int32) = nI 83 from rfl, show (8 : Int32) = nI 8 from rfl, show (5 : Int32) = nI 5 from rfl, pk_mul, nI_add, nI_add]
  exact congrArg nI (by omega)
theorem r_ofP5 {h : zV2} {l : Nat} (hl : l < 10) : xX10_ofP h (nI l) (5 : Int32) = some (dec h 25 l, h) := by
  unfold xX10_ofP
  rw [ixP_5, nI_clamp (by omega), grd_eq (inb_nI (by omega) (by omega)), dec_at (c := 25) (i := l) (decide_eq_true hl)]
  rfl
theorem r_layP5 {h : zV2} {l : Nat} (v : Int32) (hl : l < 10) : xX10_layP h (nI l) (5 : Int32) v = some ((), kset h 25 l v) := by
  unfold xX10_layP
  rw [ixP_5, nI_clamp (by omega), grd_eq (inb_nI (by omega) (by omega))]
  rfl
theorem kv25 {l : Nat} (hl : l < 10) : kval 25 l = true := decide_eq_true hl
theorem ixP_6 (l : Nat) : ((83 : Int32) + ((8 : Int32) * nI l)) + (6 : Int32) = nI (89 + 8 * l) := by
  rw [show (83 : Int32) = nI 83 from rfl, show (8 : Int32) = nI 8 from rfl, show (6 : Int32) = nI 6 from rfl, pk_mul, nI_add, nI_add]
  exact congrArg nI (by omega)
theorem r_ofP6 {h : zV2} {l : Nat} (hl : l < 10) : xX10_ofP h (nI l) (6 : Int32) = some (dec h 11 l, h) := by
  unfold xX10_ofP
  rw [ixP_6, nI_clamp (by omega), grd_eq (inb_nI (by omega) (by omega)), dec_at (c := 11) (i := l) (decide_eq_true hl)]
  rfl
theorem r_layP6 {h : zV2} {l : Nat} (v : Int32) (hl : l < 10) : xX10_layP h (nI l) (6 : Int32) v = some ((), kset h 11 l v) := by
  unfold xX10_layP
  rw [ixP_6, nI_clamp (by omega), grd_eq (inb_nI (by omega) (by omega))]
  rfl
theorem kv11 {l : Nat} (hl : l < 10) : kval 11 l = true := decide_eq_true hl
theorem ixP_7 (l : Nat) : ((83 : Int32) + ((8 : Int32) * nI l)) + (7 : Int32) = nI (90 + 8 * l) := by
  rw [show (83 : Int32) = nI 83 from rfl, show (8 : Int32) = nI 8 from rfl, show (7 : Int32) = nI 7 from rfl, pk_mul, nI_add, nI_add]
  exact congrArg nI (by omega)
theorem r_ofP7 {h : zV2} {l : Nat} (hl : l < 10) : xX10_ofP h (nI l) (7 : Int32) = some (dec h 12 l, h) := by
  unfold xX10_ofP
  rw [ixP_7, nI_clamp (by omega), grd_eq (inb_nI (by omega) (by omega)), dec_at (c := 12) (i := l) (decide_eq_true hl)]
  rfl
theorem r_layP7 {h : zV2} {l : Nat} (v : Int32) (hl : l < 10) : xX10_layP h (nI l) (7 : Int32) v = some ((), kset h 12 l v) := by
  unfold xX10_layP
  rw [ixP_7, nI_clamp (by omega), grd_eq (inb_nI (by omega) (by omega))]
  rfl
theorem kv12 {l : Nat} (hl : l < 10) : kval 12 l = true := decide_eq_true hl
theorem kv13 : kval 13 0 = true := rfl
theorem kv14 : kval 14 0 = true := rfl
theorem kv15 : kval 15 0 = true := rfl
theorem kv16 : kval 16 0 = true := rfl
theorem kv23 : kval 23 0 = true := rfl
theorem kv24 : kval 24 0 = true := rfl
theorem kv26 : kval 26 0 = true := rfl
theorem kv27 : kval 27 0 = true := rfl
theorem kv19 {l : Nat} (hl : l < 10) : kval 19 l = true := decide_eq_true hl
theorem kv20 {l : Nat} (hl : l < 10) : kval 20 l = true := decide_eq_true hl
theorem kv21 {l : Nat} (hl : l < 10) : kval 21 l = true := decide_eq_true hl
theorem ixW (i : Nat) : (163 : Int32) + ((2 : Int32) * nI i) = nI (163 + 2 * i) := by
  rw [show (163 : Int32) = nI 163 from rfl, show (2 : Int32) = nI 2 from rfl, pk_mul, nI_add]
theorem ixW1 (i : Nat) : (163 : Int32) + ((2 : Int32) * nI i) + (1 : Int32) = nI (164 + 2 * i) := by
  rw [ixW, show (1 : Int32) = nI 1 from rfl, nI_add]
  exact congrArg nI (by omega)
theorem ixX (i : Nat) : (183 : Int32) + nI i = nI (183 + i) := by
  rw [show (183 : Int32) = nI 183 from rfl, nI_add]
theorem ixX1 (i : Nat) : (183 : Int32) + nI i + (1 : Int32) = nI (183 + (i + 1)) := by
  rw [ixX, show (1 : Int32) = nI 1 from rfl, nI_add]
  rfl
theorem d19 {h : zV2} {i : Nat} (hi : i < 10) : dec h 19 i = h 0 (163 + 2 * i) := dec_at (kv19 hi)
theorem d21 {h : zV2} {i : Nat} (hi : i < 10) : dec h 21 i = h 0 (164 + 2 * i) := dec_at (kv21 hi)
theorem d20 {h : zV2} {i : Nat} (hi : i < 10) : dec h 20 i = h 0 (183 + i) := dec_at (kv20 hi)
theorem p19 {β : Type} (h : zV2) (i : Nat) (x : Int32) (k : zV2 → β) : put2 h 0 (163 + 2 * i) x k = k (kset h 19 i x) := rfl
theorem p21 {β : Type} (h : zV2) (i : Nat) (x : Int32) (k : zV2 → β) : put2 h 0 (164 + 2 * i) x k = k (kset h 21 i x) := rfl
theorem p20 {β : Type} (h : zV2) (i : Nat) (x : Int32) (k : zV2 → β) : put2 h 0 (183 + i) x k = k (kset h 20 i x) := rfl
theorem r_in_t {h : zV2} {x a b : Int32} (h1 : ¬ x < a) (h2 : ¬ b < x) : xX10_in h x a b = some (1, h) := by
  unfold xX10_in
  rw [if_neg h1, if_neg h2]
theorem r_in_l {h : zV2} {x a b : Int32} (h1 : x < a) : xX10_in h x a b = some (0, h) := by
  unfold xX10_in
  rw [if_pos h1]
theorem r_in_g {h : zV2} {x a b : Int32} (h2 : b < x) : xX10_in h x a b = some (0, h) := by
  unfold xX10_in
  by_cases h1 : x < a
  · rw [if_pos h1]
  · rw [if_neg h1, if_pos h2]
theorem lt_of_nle {x y : Int32} (h : ¬ x ≤ y) : y < x := by
  rw [Int32.le_iff_toInt_le] at h
  rw [Int32.lt_iff_toInt_lt]
  omega
theorem nle_of_lt {x y : Int32} (h : y < x) : ¬ x ≤ y := by
  rw [Int32.lt_iff_toInt_lt] at h
  rw [Int32.le_iff_toInt_le]
  omega
theorem le_of_nlt {x y : Int32} (h : ¬ x < y) : y ≤ x := by
  rw [Int32.lt_iff_toInt_lt] at h
  rw [Int32.le_iff_toInt_le]
  omega
theorem lt_pred {n : Nat} {x : Int32} (hn : n < 2 ^ 31) (h0 : ¬ x < 0) (h : nI n ≤ x) : nI n - 1 < x := by
  cases n with
  | zero =>
    have h0' := le_of_nlt h0
    rw [Int32.le_iff_toInt_le] at h0'
    rw [Int32.lt_iff_toInt_lt]
    have e : (nI 0 - 1).toInt = -1 := by decide
    have e0 : (0 : Int32).toInt = 0 := by decide
    omega
  | succ m =>
    rw [nI_pred]
    rw [Int32.le_iff_toInt_le, nI_toInt hn] at h
    rw [Int32.lt_iff_toInt_lt, nI_toInt (by omega)]
    omega
theorem npred_lt {n j : Nat} (hn : n < 2 ^ 31) (h : j < n) : ¬ nI n - 1 < nI j := by
  rw [nI_sub1 n (by omega)]
  exact nI_nlt (by omega) (by omega)
theorem r_isP_t {h : zV2} {nP p : Nat} (hk : dec h 14 0 = nI nP) (hP : nP ≤ 10) (hp : p < nP) : xX10_isPerson h (nI p) = some (1, h) := by
  unfold xX10_isPerson
  rw [kg5, ks5 h, hk, r_in_t (nI_pos (by omega)) (npred_lt (by omega) hp)]
  rfl
theorem r_isP_f {h : zV2} {nP : Nat} {x : Int32} (hk : dec h 14 0 = nI nP) (hP : nP ≤ 10) (hx : x < 0 ∨ nI nP ≤ x) : xX10_isPerson h x = some (0, h) := by
  unfold xX10_isPerson
  rw [kg5, ks5 h, hk]
  by_cases h0 : x < 0
  · rw [r_in_l (show x < (0 : Int32) from h0)]
    rfl
  · rw [r_in_g (lt_pred (by omega) h0 (hx.resolve_left h0))]
    rfl
theorem r_isL_t {h : zV2} {nP p : Nat} (hk : dec h 13 0 = nI nP) (hP : nP ≤ 12) (hp : p < nP) : xX10_isLocker h (nI p) = some (1, h) := by
  unfold xX10_isLocker
  rw [kg4, ks4 h, hk, r_in_t (nI_pos (by omega)) (npred_lt (by omega) hp)]
  rfl
theorem r_isL_f {h : zV2} {nP : Nat} {x : Int32} (hk : dec h 13 0 = nI nP) (hP : nP ≤ 12) (hx : x < 0 ∨ nI nP ≤ x) : xX10_isLocker h x = some (0, h) := by
  unfold xX10_isLocker
  rw [kg4, ks4 h, hk]
  by_cases h0 : x < 0
  · rw [r_in_l (show x < (0 : Int32) from h0)]
    rfl
  · rw [r_in_g (lt_pred (by omega) h0 (hx.resolve_left h0))]
    rfl
theorem c_pA_t {c : zV2} {nP p : Nat} (hc : c 14 0 = nI nP) (hP : nP ≤ 10) (hp : p < nP) : xX1_personAt c (nI p) = some (some p, c) := by
  unfold xX1_personAt
  rw [if_neg (nI_pos (by omega)), hc, if_neg (nI_ge hp (by omega)), if_neg (show ¬ (10 : Int32) ≤ nI p from nI_ge (a := p) (b := 10) (by omega) (by omega)), grd_eq (inb_nI (by omega) (by omega)), nI_clamp (by omega)]
theorem c_pA_f {c : zV2} {nP : Nat} {x : Int32} (hc : c 14 0 = nI nP) (hx : x < 0 ∨ nI nP ≤ x) : xX1_personAt c x = some (none, c) := by
  unfold xX1_personAt
  by_cases h0 : x < 0
  · rw [if_pos h0]
  · rw [if_neg h0, hc, if_pos (hx.resolve_left h0)]
theorem c_lA_t {c : zV2} {nP p : Nat} (hc : c 13 0 = nI nP) (hP : nP ≤ 12) (hp : p < nP) : xX1_lockerAt c (nI p) = some (some p, c) := by
  unfold xX1_lockerAt
  rw [if_neg (nI_pos (by omega)), hc, if_neg (nI_ge hp (by omega)), if_neg (show ¬ (12 : Int32) ≤ nI p from nI_ge (a := p) (b := 12) (by omega) (by omega)), grd_eq (inb_nI (by omega) (by omega)), nI_clamp (by omega)]
theorem c_lA_f {c : zV2} {nP : Nat} {x : Int32} (hc : c 13 0 = nI nP) (hx : x < 0 ∨ nI nP ≤ x) : xX1_lockerAt c x = some (none, c) := by
  unfold xX1_lockerAt
  by_cases h0 : x < 0
  · rw [if_pos h0]
  · rw [if_neg h0, hc, if_pos (hx.resolve_left h0)]
theorem c_lA_o {c : zV2} {nL : Nat} {o : Option Nat} (hc : c 13 0 = nI nL) (hL : nL ≤ 12) (ho : ∀ l, o = some l → l < nL) : xX1_lockerAt c (oI o) = some (o, c) := by
  cases o with
  | none => exact c_lA_f hc (Or.inl (by decide))
  | some l => exact c_lA_t hc hL (ho l rfl)
theorem c_lOP {c : zV2} {nL nP p : Nat} {o : Option Nat} (hc : c 13 0 = nI nL) (hL : nL ≤ 12) (hc' : c 14 0 = nI nP) (hP : nP ≤ 10) (hp : p < nP) (h6 : c 6 p = oI o) (ho : ∀ l, o = some l → l < nL) : xX1_lockerOfPerson c (nI p) = some (o, c) := by
  unfold xX1_lockerOfPerson
  rw [c_pA_t hc' hP hp, bnd_d, om_s, grd_eq (decide_eq_true (by omega)), h6, c_lA_o hc hL ho, bnd_d]
  cases o with
  | none => rfl
  | some l => rw [om_s, grd_eq (decide_eq_true (by have := ho l rfl; omega))]
/-! free lockers -/
theorem s_isFree {c h : zV2} {nP b l : Nat} (hP : nP ≤ 10) (hl : l < 12) (g : LR1 nP b c (dec h) l) : ∃ fb : Bool, xX4_isFree l c = some (bI fb, c) ∧ xX10_isFree h (nI l) = some (bI fb, h) ∧ (fb = true → c 2 l = -1) := by
  obtain ⟨s, st, ho, sp, op, a0, b0, hs, a1, b1, a2, b2, hh, a3, b3, a4, b4, h4, a5⟩ := g
  have hho : ∀ p, ho = some p → p < 2 ^ 31 := fun p e => by have := hh p e; omega
  have hop : ∀ p, op = some p → p < 2 ^ 31 := fun p e => by have := (h4 p e).2; omega
  unfold xX4_isFree xX10_isFree
  rw [r_of1 hl, bnd_d, a1, b1, a2, a4]
  cases st with
  | false => exact ⟨false, by simp [bI], by simp [bI], fun z => absurd z (by decide)⟩
  | true =>
    simp only [if_true]
    rw [if_neg (by decide), if_neg (nI_pos (by omega)), r_of2 hl, bnd_d, b2]
    by_cases e : ho = none
    · rw [if_pos ((oI_m1 hho).mpr e), if_neg (fun z => (oI_ge hho).mp z e), r_of4 hl, bnd_d, b4]
      by_cases e' : op = none
      · rw [if_pos ((oI_m1 hop).mpr e'), if_neg (fun z => (oI_ge hop).mp z e')]
        exact ⟨true, rfl, rfl, fun _ => (oI_m1 hho).mpr e⟩
      · rw [if_neg (fun z => e' ((oI_m1 hop).mp z)), if_pos ((oI_ge hop).mpr e')]
        exact ⟨false, rfl, rfl, fun z => absurd z (by decide)⟩
    · rw [if_neg (fun z => e ((oI_m1 hho).mp z)), if_pos ((oI_ge hho).mpr e)]
      exact ⟨false, rfl, rfl, fun z => absurd z (by decide)⟩
theorem c_isFree0 {c : zV2} {l : Nat} (g : L0 c l) : xX4_isFree l c = some (0, c) := by
  unfold xX4_isFree
  rw [g.1, if_pos rfl]
theorem c_lowest0 {c : zV2} {nL nP : Nat} {B : Nat → Nat} {k : zV2} (g : GL nL nP B c k) (s : Int32) : ∀ (m i n : Nat), nL ≤ i → i + m = 12 → m < n → xX1_lowestFree_L2 s n c (nI i) = some (none, c)
  | m, i, 0, _, _, h => absurd h (by omega)
  | 0, i, n + 1, h1, h2, h3 => by
    unfold xX1_lowestFree_L2
    rw [if_pos (show (12 : Int32) ≤ nI i from nI_le (a := 12) (b := i) (by omega) (by omega))]
  | m + 1, i, n + 1, h1, h2, h3 => by
    unfold xX1_lowestFree_L2
    rw [if_neg (show ¬ (12 : Int32) ≤ nI i from nI_ge (a := i) (b := 12) (by omega) (by omega)), grd_eq (inb_nI (by omega) (by omega)), nI_clamp (by omega), c_isFree0 (g.2 i h1 (by omega)), bnd_d, if_pos rfl, ltI_d, nI_1]
    exact c_lowest0 g s m (i + 1) n (by omega) (by omega) (by omega)
theorem s_lowest1 {c h : zV2} {nL nP : Nat} {B : Nat → Nat} (g : GL nL nP B c (dec h)) (hL : nL ≤ 12) (hP : nP ≤ 10) (hn : dec h 13 0 = nI nL) (s : Int32) : ∀ (m i n n' : Nat), i + m = nL → 13 - i ≤ n → m < n' → ∃ o : Option Nat, xX1_lowestFree_L2 s n c (nI i) = some (o, c) ∧ xX10_lowestFree_L2 s n' h (nI i) = some (oI o, h) ∧ ∀ l, o = some l → l < nL ∧ c 2 l = -1
  | m, i, n, 0, _, _, h3 => absurd h3 (by omega)
  | 0, i, n, n' + 1, h1, h2, h3 => by
    refine ⟨none, c_lowest0 g s (12 - i) i n (by omega) (by omega) (by omega), ?_, fun l e => by cases e⟩
    unfold xX10_lowestFree_L2
    rw [kg4, ks4 h, hn, if_pos (nI_le (by omega) (by omega))]
    rfl
  | m + 1, i, 0, n' + 1, h1, h2, h3 => absurd h2 (by omega)
  | m + 1, i, n + 1, n' + 1, h1, h2, h3 => by
    obtain ⟨fb, e1, e2, ef⟩ := s_isFree hP (show i < 12 by omega) (g.1 i (by omega))
    obtain ⟨sz, st, ho, sp, op, a0, b0, _⟩ := g.1 i (by omega)
    have ih := s_lowest1 g hL hP hn s m (i + 1) n n' (by omega) (by omega) (by omega)
    unfold xX1_lowestFree_L2 xX10_lowestFree_L2
    rw [if_neg (show ¬ (12 : Int32) ≤ nI i from nI_ge (a := i) (b := 12) (by omega) (by omega)), grd_eq (inb_nI (by omega) (by omega)), nI_clamp (by omega), e1, bnd_d, kg4, ks4 h, hn, if_neg (nI_ge (by omega) (by omega)), e2, bnd_d, r_of0 (by omega), bnd_d, a0, b0]
    simp only [ltI_d, nI_1]
    cases fb with
    | false => simpa [bI] using ih
    | true =>
      rw [if_neg (show ¬ bI true = 0 by decide), if_neg (show ¬ bI true = 0 by decide)]
      by_cases e3 : s = 3
      · rw [if_pos e3, if_pos e3]
        exact ⟨some i, rfl, rfl, fun l e => by cases e; exact ⟨by omega, ef rfl⟩⟩
      · rw [if_neg e3, if_neg e3]
        by_cases e4 : s = nI sz
        · rw [if_pos e4, if_pos e4.symm]
          exact ⟨some i, rfl, rfl, fun l e => by cases e; exact ⟨by omega, ef rfl⟩⟩
        · rw [if_neg e4, if_neg (fun z => e4 z.symm)]
          exact ih
theorem s_lowest {c h : zV2} {nL nP : Nat} {B : Nat → Nat} (g : GL nL nP B c (dec h)) (hL : nL ≤ 12) (hP : nP ≤ 10) (hn : dec h 13 0 = nI nL) (s : Int32) : ∃ o : Option Nat, xX1_lowestFree c s = some (o, c) ∧ xX10_lowestFree h s = some (oI o, h) ∧ ∀ l, o = some l → l < nL ∧ c 2 l = -1 :=
  s_lowest1 g hL hP hn s nL 0 1000 1000 (by omega) (by omega) (by omega)
/-! overdue days -/
theorem c_over0 {c : zV2} {p : Nat} {x : Int32} (h : c 6 p = -1) : xX5_overdueOn p c x = some (0, c) := by
  unfold xX5_overdueOn
  rw [if_pos h]
theorem s_over {c h : zV2} {p du D : Nat} (hp : p < 10) (h6 : ¬ c 6 p = -1) (h7 : c 7 p = nI du) (k7 : dec h 7 p = nI du) (hD : D ≤ 5099) (hu : du ≤ 9999) (k15 : dec h 15 0 = nI D) : xX5_overdueOn p c (nI D) = some (nI (D - du), c) ∧ xX10_overdue h (nI p) = some (nI (D - du), h) := by
  constructor
  · unfold xX5_overdueOn
    rw [if_neg h6, h7]
    by_cases e : du < D
    · rw [if_pos (nI_lt e (by omega)), pk_sub (by omega)]
    · rw [if_neg (nI_nlt (by omega) (by omega)), show D - du = 0 by omega]
      rfl
  · unfold xX10_overdue
    rw [kg3, ks3 h, r_ofP1 hp, bnd_d, k15, k7, ltI_d]
    by_cases e : du < D
    · rw [pk_sub (by omega), if_neg (nI_nle (by omega) (by omega))]
    · rw [show D - du = 0 by omega]
      by_cases e2 : D = du
      · subst e2
        rw [pk_sub (by omega), Nat.sub_self, if_pos (show nI 0 ≤ 0 by decide)]
        rfl
      · have := pk_sneg (a := D) (b := du) (by omega) (by omega)
        rw [if_pos (by rw [Int32.lt_iff_toInt_lt] at this; rw [Int32.le_iff_toInt_le]; omega)]
        rfl
