/-! the bits: what they answer does not hang on the table, and is what the library's own methods answer -/
def setV {α : Type} (V : zV3) (o : Option (α × zV3)) : Option (α × zV3) := match o with
  | none => none
  | some q => some (q.1, V)
theorem setV_grd {α : Type} (V : zV3) (b : Bool) (o : Option (α × zV3)) : setV V (grd b o) = grd b (setV V o) := by
  cases b <;> rfl
theorem setV_if {α : Type} (V : zV3) (p : Prop) [Decidable p] (x y : Option (α × zV3)) : setV V (if p then x else y) = if p then setV V x else setV V y := by
  by_cases h : p
  · rw [if_pos h, if_pos h]
  · rw [if_neg h, if_neg h]
def V00 : zV3 := fun _ _ _ => 0
theorem bd81 (p : UInt64) (V : zV3) (a : UInt64) (b : Int32) : xX9_bitsOfDouble_L81 p V a b = setV V (xX9_bitsOfDouble_L81 p V00 a b) := by
  unfold xX9_bitsOfDouble_L81
  rw [setV_grd, setV_grd]
  rfl
theorem bd50 (p : UInt64) (V : zV3) : ∀ (n : Nat) (a : UInt64) (b c : Int32), xX9_bitsOfDouble_L50 p n V a b c = setV V (xX9_bitsOfDouble_L50 p n V00 a b c)
  | 0, _, _, _ => rfl
  | n + 1, a, b, c => by
    unfold xX9_bitsOfDouble_L50
    rw [setV_if, setV_if, setV_grd, bd81 p V]
    simp only [ltI, bd50 p V n]
theorem bd18 (p : UInt64) (V : zV3) : ∀ (n : Nat) (a : UInt64) (b c : Int32), xX9_bitsOfDouble_L18 p n V a b c = setV V (xX9_bitsOfDouble_L18 p n V00 a b c)
  | 0, _, _, _ => rfl
  | n + 1, a, b, c => by
    unfold xX9_bitsOfDouble_L18
    rw [setV_if, setV_if, setV_grd, bd50 p V]
    simp only [ltI, bd18 p V n]
theorem bd (p : UInt64) (V : zV3) : xX9_bitsOfDouble V p = setV V (xX9_bitsOfDouble V00 p) := by
  unfold xX9_bitsOfDouble
  rw [setV_if, bd18 p V]
  rfl
theorem bf67 (p : UInt32) (V : zV3) (a : UInt32) (b : Int32) : xX9_bitsOfFloat_L67 p V a b = setV V (xX9_bitsOfFloat_L67 p V00 a b) := by
  unfold xX9_bitsOfFloat_L67
  rw [setV_grd, setV_grd]
  rfl
theorem bf42 (p : UInt32) (V : zV3) : ∀ (n : Nat) (a : UInt32) (b c : Int32), xX9_bitsOfFloat_L42 p n V a b c = setV V (xX9_bitsOfFloat_L42 p n V00 a b c)
  | 0, _, _, _ => rfl
  | n + 1, a, b, c => by
    unfold xX9_bitsOfFloat_L42
    rw [setV_if, setV_if, setV_grd, bf67 p V]
    simp only [ltI, bf42 p V n]
theorem bf15 (p : UInt32) (V : zV3) : ∀ (n : Nat) (a : UInt32) (b c : Int32), xX9_bitsOfFloat_L15 p n V a b c = setV V (xX9_bitsOfFloat_L15 p n V00 a b c)
  | 0, _, _, _ => rfl
  | n + 1, a, b, c => by
    unfold xX9_bitsOfFloat_L15
    rw [setV_if, setV_if, setV_grd, bf42 p V]
    simp only [ltI, bf15 p V n]
theorem bf (p : UInt32) (V : zV3) : xX9_bitsOfFloat V p = setV V (xX9_bitsOfFloat V00 p) := by
  unfold xX9_bitsOfFloat
  rw [setV_if, bf15 p V]
  rfl
def okD (a b : Nat) : Bool := nn64 (FP.ddiv (FP.i2d (nI a)) (FP.i2d (nI b))) && (((xX9_bitsOfDouble V00 (FP.ddiv (FP.i2d (nI a)) (FP.i2d (nI b)))).map Prod.fst == some (FP.ddiv (FP.i2d (nI a)) (FP.i2d (nI b))).toInt64) && decide (Op.cmpValue (FP.dcmp (FP.ddiv (FP.i2d (nI a)) (FP.i2d (nI b))) (FP.ddiv (FP.i2d (nI a)) (FP.i2d (nI b)))) .l = 0))
set_option maxRecDepth 100000 in
theorem okD_all : ∀ a : Fin 13, ∀ b : Fin 13, b.val = 0 ∨ okD a.val b.val = true := by decide +kernel
def okF (a b : Nat) : Bool := nn32 (FP.fdiv (FP.i2f (nI a)) (FP.i2f (nI b))) && (((xX9_bitsOfFloat V00 (FP.fdiv (FP.i2f (nI a)) (FP.i2f (nI b)))).map Prod.fst == some (FP.fdiv (FP.i2f (nI a)) (FP.i2f (nI b))).toInt32) && decide (Op.cmpValue (FP.fcmp (FP.fdiv (FP.i2f (nI a)) (FP.i2f (nI b))) (FP.fdiv (FP.i2f (nI a)) (FP.i2f (nI b)))) .l = 0))
set_option maxRecDepth 100000 in
theorem okF_all : ∀ a : Fin 201, ∀ b : Fin 11, b.val = 0 ∨ okF a.val b.val = true := by decide +kernel
