/-! the world of the class and of its check: cells told by kind, group and place; their numbers as a table -/
abbrev zV2 : Type := Nat → Nat → Int32
abbrev zV3 : Type := Nat → Nat → Nat → Int32
abbrev zG : Type := va_G × (Nat → Nat → Nat → Nat) × (Nat → ClassId) × (Nat → Nat) × List (String × String × String × Value) × List (String × Nat) × List (String × String × String × Value × Nat) × List (FieldType × Nat × Nat × (Nat → Value))
def gD (G : zG) : va_G := G.1
def gA (G : zG) : Nat → Nat → Nat → Nat := G.2.1
def gC (G : zG) : Nat → ClassId := G.2.2.1
def gE (G : zG) : Nat → Nat := G.2.2.2.1
def gZ (G : zG) : List (String × String × String × Value) := G.2.2.2.2.1
def gO (G : zG) : List (String × Nat) := G.2.2.2.2.2.1
def gF (G : zG) : List (String × String × String × Value × Nat) := G.2.2.2.2.2.2.1
def gT (G : zG) : List (FieldType × Nat × Nat × (Nat → Value)) := G.2.2.2.2.2.2.2
def up2 (h : zV2) (c i : Nat) (x : Int32) : zV2 := fun c' i' => if c' = c ∧ i' = i then x else h c' i'
def upG (V : zV3) (g : Nat) (h : zV2) : zV3 := fun g' => if g' = g then h else V g'
theorem upG_self (V : zV3) (g : Nat) (h : zV2) : upG V g h g = h := by simp [upG]
theorem upG_ne (V : zV3) {g g' : Nat} (h : zV2) (hne : g' ≠ g) : upG V g h g' = V g' := by simp [upG, hne]
theorem upG_upG (V : zV3) (g : Nat) (h h' : zV2) : upG (upG V g h) g h' = upG V g h' := by funext g'; by_cases e : g' = g <;> simp [upG, e]
theorem upG_id (V : zV3) (g : Nat) : upG V g (V g) = V := by funext g'; by_cases e : g' = g <;> simp [upG, e]
theorem up2_self (h : zV2) (c i : Nat) (x : Int32) : up2 h c i x c i = x := by simp [up2]
theorem up2_col (h : zV2) {c c' : Nat} (i : Nat) (x : Int32) (hc : c' ≠ c) : up2 h c i x c' = h c' := by funext j; simp [up2, hc]
theorem up2_c (h : zV2) {c c' : Nat} (i j : Nat) (x : Int32) (hc : c' ≠ c) : up2 h c i x c' j = h c' j := by simp [up2, hc]
theorem up2_i (h : zV2) (c c' : Nat) {i j : Nat} (x : Int32) (hi : j ≠ i) : up2 h c i x c' j = h c' j := by simp [up2, hi]
theorem up2_upd (h : zV2) (c i : Nat) (x : Int32) : up2 h c i x c = upd (h c) i x := by funext j; simp [up2, upd]
def zq (f : Nat → Option Nat) : (Nat → Int32) ⊕ (Nat → Int64) ⊕ (Nat → UInt32) ⊕ (Nat → UInt64) ⊕ (Nat → Option Nat) := .inr (.inr (.inr (.inr f)))
def zverb (G : zG) (x : Int32) : Value := if x = 0 then .null else .ref (gE G (x.toNatClampNeg - 1))
def zlen (i : Nat) : Nat := match i with
  | 0 => 193
  | 1 => 193
  | 2 => 193
  | 3 => 772
  | 4 => 80
  | _ => 2
def zcell (G : zG) (V : zV3) (k g i : Nat) : va_E := match k with
  | 0 => .inr (0, [.ref (gA G 1 g 0), .ref (gA G 2 g 0), .ref (gA G 3 g 0), .ref (gA G 3 g 1), .ref (gA G 4 g 0), .ref (gA G 5 g 0), .int (V g 13 0), .int (V g 14 0), .int (V g 15 0), .int (V g 16 0)])
  | 1 => .inl (gC G 2, 12, zq (fun j => some (gA G 8 g j)))
  | 2 => .inl (gC G 3, 10, zq (fun j => some (gA G 9 g j)))
  | 3 => .inr (2, [.ref (gA G 6 g i), .ref (gA G 7 g i), .int (V g (23 + i) 0)])
  | 4 => .inl (gC G 0, 3, .inl (V g 17))
  | 5 => .inl (gC G 0, 3, .inl (V g 18))
  | 6 => .inl (gC G 0, 10, .inl (V g (19 + i)))
  | 7 => .inl (gC G 0, 10, .inl (V g (21 + i)))
  | 8 => .inr (3, [.int (nI i), .int (V g 0 i), .int (V g 1 i), .int (V g 2 i), .int (V g 3 i), .int (V g 4 i), .int (V g 5 i)])
  | 9 => .inr (4, [.int (nI i), .int (V g 6 i), .int (V g 7 i), .int (V g 8 i), .int (V g 9 i), .int (V g 10 i), .int (V g 11 i), .int (V g 12 i)])
  | 10 => .inr (7, [.ref (gA G 0 0 0), .ref (gA G 11 0 0), .ref (gA G 13 0 0), .ref (gA G 15 0 0)])
  | 11 => .inr (1, [.ref (gA G 12 0 0), .int (V 7 0 0), .int (V 7 1 0)])
  | 12 => .inl (gC G 4, 5, zq (fun j => some (gA G 0 (j + 1) 0)))
  | 13 => .inr (6, [.ref (gA G 14 0 0), .int (V 7 3 0), zverb G (V 7 4 0), .int (V 7 5 0), .int (V 7 6 0), .int (V 7 7 0)])
  | 14 => .inl (gC G 1, 80, .inl (V 7 2))
  | 15 => .inr (5, [.ref (gA G 0 6 0), .int (V 7 8 0), .int (V 7 9 0), .int (V 7 10 0), .int (V 7 11 0)])
  | 16 => .inr (8, [.ref (gA G 17 0 0), .ref (gA G 17 0 1), .ref (gA G 17 0 2), .ref (gA G 17 0 3), .int (V 8 6 0), .ref (gA G 17 0 4), .int (V 8 7 0), .int (V 8 8 0), .int (V 8 9 0), .int (V 8 10 0), .int (V 8 11 0), .ref (gA G 17 0 5)])
  | _ => .inl (gC G 0, zlen i, .inl (V 8 i))
def zdom (k g i : Nat) : Prop := match k with
  | 0 => g < 7 ∧ i = 0
  | 1 => g < 7 ∧ i = 0
  | 2 => g < 7 ∧ i = 0
  | 3 => g < 7 ∧ i < 2
  | 4 => g < 7 ∧ i = 0
  | 5 => g < 7 ∧ i = 0
  | 6 => g < 7 ∧ i < 2
  | 7 => g < 7 ∧ i < 2
  | 8 => g < 7 ∧ i < 12
  | 9 => g < 7 ∧ i < 10
  | 17 => g = 0 ∧ i < 6
  | k => k < 17 ∧ g = 0 ∧ i = 0
abbrev ztys (G : zG) : List (ClassId × FieldType) := [(gC G 0, .int), (gC G 1, .char), (gC G 2, .object "LockerChains$Locker"), (gC G 3, .object "LockerChains$Person"), (gC G 4, .object "LockerChains$Hall")]
/-- the cells are as the numbers say -/
def zM (G : zG) (V : zV3) (H : Heap) : Prop := ∀ k g i, zdom k g i → va_at (gD G) vwCl (gA G k g i, zcell G V k g i) H
/-- their addresses are apart, and of a kind -/
def zI (G : zG) (A : Nat → Prop) : Prop := (∀ k g i, zdom k g i → A (gA G k g i)) ∧ ∀ k g i k' g' i', zdom k g i → zdom k' g' i' → gA G k g i = gA G k' g' i' → k = k' ∧ g = g' ∧ i = i'

def zNF : List (String × Nat × String × String × String × String) := [("LockerChains", 108, "LockerChains$History", "states", "I", "LockerChains"), ("LockerChains", 111, "LockerChains$Text", "length", "I", "LockerChains"), ("LockerChains", 160, "LockerChains$Rehearsal", "reason", "I", "LockerChains"), ("LockerChains", 163, "LockerChains$Rehearsal", "place", "I", "LockerChains"), ("LockerChains", 166, "LockerChains$Rehearsal", "cause", "I", "LockerChains"), ("LockerChains", 169, "LockerChains$Rehearsal", "trial", "LLockerChains$Hall;", "LockerChains"), ("LockerChains", 175, "LockerChains$Rehearsal", "commands", "I", "LockerChains"), ("LockerChains", 92, "LockerChains$Hall", "waiting", "LLockerChains$Line;", "LockerChains"), ("LockerChains", 96, "LockerChains$Line", "length", "I", "LockerChains"), ("LockerChains$Hall", 105, "LockerChains$Line", "length", "I", "LockerChains"), ("LockerChains$Hall", 112, "LockerChains$Locker", "number", "I", "LockerChains"), ("LockerChains$Hall", 127, "LockerChains$Person", "renewals", "I", "LockerChains"), ("LockerChains$Hall", 130, "LockerChains$Person", "due", "I", "LockerChains"), ("LockerChains$Hall", 133, "LockerChains$Person", "keysLost", "I", "LockerChains"), ("LockerChains$Hall", 136, "LockerChains$Locker", "spareKey", "Z", "LockerChains"), ("LockerChains$Hall", 142, "LockerChains$Locker", "opensOn", "I", "LockerChains"), ("LockerChains$Hall", 145, "LockerChains$Person", "number", "I", "LockerChains"), ("LockerChains$Hall", 167, "LockerChains$Locker", "holder", "I", "LockerChains"), ("LockerChains$Hall", 178, "LockerChains$Person", "paid", "I", "LockerChains"), ("LockerChains$Hall", 190, "LockerChains$Person", "lockersOpened", "I", "LockerChains"), ("LockerChains$Hall", 203, "LockerChains$Locker", "timesLent", "I", "LockerChains"), ("LockerChains$Hall", 71, "LockerChains$Person", "locker", "I", "LockerChains"), ("LockerChains$Hall", 78, "LockerChains$Locker", "size", "I", "LockerChains"), ("LockerChains$Hall", 81, "LockerChains$Locker", "standing", "Z", "LockerChains"), ("LockerChains$Hall", 95, "LockerChains$Person", "owed", "I", "LockerChains"), ("LockerChains$Rehearsal", 30, "LockerChains$Person", "owed", "I", "LockerChains"), ("LockerChains$Rehearsal", 49, "LockerChains$Text", "length", "I", "LockerChains"), ("LockerChains$Rehearsal", 62, "LockerChains$Text", "verb", "LLockerChains$Verb;", "LockerChains"), ("LockerChains$Rehearsal", 66, "LockerChains$Text", "first", "I", "LockerChains"), ("LockerChains$Rehearsal", 69, "LockerChains$Text", "second", "I", "LockerChains"), ("LockerChains$Rehearsal", 76, "LockerChains$Text", "end", "I", "LockerChains"), ("LockerChains$Text", 27, "LockerChains$Verb", "word", "Ljava/lang/String;", "LockerChains"), ("LockerChains$Text", 41, "LockerChains$Verb", "numbers", "I", "LockerChains")]
def zNM : List (String × Nat × MethodName × String) := [("LockerChains", 25, ⟨"LockerChains$Text", "<init>", "()V"⟩, "LockerChains"), ("LockerChains", 32, ⟨"LockerChains$Rehearsal", "<init>", "()V"⟩, "LockerChains"), ("LockerChains$Hall", 25, ⟨"LockerChains$Line", "<init>", "()V"⟩, "LockerChains"), ("LockerChains$Rehearsal", 18, ⟨"LockerChains$Hall", "personAt", "(I)LLockerChains$Person;"⟩, "LockerChains")]
/-- links to private members of nest mates -/
def zN (U : State) : Prop := (∀ q ∈ zNF, va_Nw (.fieldLinkNest q.1 q.2.1 q.2.2.1 q.2.2.2.1 q.2.2.2.2.1 q.2.2.2.2.2) U) ∧ ∀ q ∈ zNM, va_Nw (.methodLinkNest q.1 q.2.1 q.2.2.1 q.2.2.2) U
/-- what nobody writes: statics, constant objects, their fields, constant arrays -/
def zE (G : zG) (A : Nat → Prop) (U : State) (H : Heap) : Prop := (∀ q ∈ gZ G, va_Z q.1 q.2.1 q.2.2.1 q.2.2.2 A U H) ∧ (∀ q ∈ gO G, va_O q.1 q.2 A U H) ∧ (∀ q ∈ gF G, va_OF q.1 q.2.1 q.2.2.1 q.2.2.2.1 q.2.2.2.2 A U H) ∧ ∀ q ∈ gT G, va_T q.1 q.2.1 q.2.2.1 q.2.2.2 A U H
def zK (G : zG) (A : Nat → Prop) (U : State) : Prop := va_K (gD G) vwCl (ztys G) U ∧ zI G A ∧ zN U ∧ zE G A U U.heap
theorem zE.moved {G : zG} {A : Nat → Prop} {u U : State} {H H1 : Heap} (hvm : u.vm.Alike U.vm) (hq : ∀ a : Nat, a < H.size → ¬ A a → H1[a]? = H[a]?) (h : zE G A u H) : zE G A U H1 :=
  ⟨fun q m => (va_Z.moved hvm (h.1 q m)).kept hq, fun q m => (va_O.moved hvm (h.2.1 q m)).kept hq, fun q m => (va_OF.moved hvm (h.2.2.1 q m)).kept hq, fun q m => (va_T.moved hvm (h.2.2.2 q m)).kept hq⟩
theorem zK.warm {G : zG} {A : Nat → Prop} {s U : State} {H : Heap} {locs : List Loc} (h : zK G A s) (hS : va_S A s.heap H locs) (hU : U.heap = H) (hW : s.WarmedH U.vm) : zK G A U := by
  obtain ⟨h1, h2, h3, h4⟩ := h
  exact ⟨va_K.moved hW.alike h1, h2, ⟨fun q m => va_Nw.warmF hW (h3.1 q m), fun q m => va_Nw.warmM hW (h3.2 q m)⟩, zE.moved hW.alike (fun a ha hn => by rw [hU]; exact hS.2.1 a ha hn) h4⟩
theorem zK.blind {G : zG} {A : Nat → Prop} {U : State} {g : JFrame} {mk : MethodId} {a : Array Value} (h : zK G A U) : zK G A (U.calling g mk a) := by
  obtain ⟨h1, h2, h3, h4⟩ := h
  exact ⟨va_K.moved (u := U) (U := U.calling g mk a) (Vm.Alike.refl U.vm) h1, h2, ⟨fun q m => va_Nw.same rfl (rfl : U.vm = (U.calling g mk a).vm) (h3.1 q m), fun q m => va_Nw.same rfl (rfl : U.vm = (U.calling g mk a).vm) (h3.2 q m)⟩, zE.moved (u := U) (U := U.calling g mk a) (Vm.Alike.refl U.vm) (fun _ _ _ => rfl) h4⟩
theorem zM.one {G : zG} {V : zV3} {H : Heap} (hM : zM G V H) {k g i : Nat} (hd : zdom k g i) {e : va_E} (he : zcell G V k g i = e) : va_P (gD G) vwCl [(gA G k g i, e)] H := by
  intro n q hq
  match n, hq with
  | 0, hq => cases hq; rw [← he]; exact hM k g i hd
  | n + 1, hq => simp at hq
theorem zM.set {G : zG} {V V' : zV3} {A : Nat → Prop} {H H1 : Heap} (hM : zM G V H) (hI : zI G A) {k g i : Nat} (hd : zdom k g i) {e : va_E} (h1 : va_at (gD G) vwCl (gA G k g i, e) H1) (oq : ∀ q : Nat, q ≠ gA G k g i → H1[q]? = H[q]?)
    (hnew : ∀ k' g' i', zdom k' g' i' → zcell G V' k' g' i' = if k' = k ∧ g' = g ∧ i' = i then e else zcell G V k' g' i') : zM G V' H1 := by
  intro k' g' i' hd'
  rw [hnew k' g' i' hd']
  by_cases hq : k' = k ∧ g' = g ∧ i' = i
  · rw [if_pos hq]
    obtain ⟨rfl, rfl, rfl⟩ := hq
    exact h1
  · rw [if_neg hq]
    exact (hM k' g' i' hd').kept (oq _ (fun h => hq (hI.2 _ _ _ _ _ _ hd' hd h)))
theorem zM.recv {G : zG} {V : zV3} {A : Nat → Prop} {s : State} {H : Heap} (hM : zM G V H) (hK : zK G A s) {k g i ci : Nat} (hd : zdom k g i) {fs : List Value} (he : zcell G V k g i = .inr (ci, fs)) {q : vw_C} (hc : vwCl[ci]? = some q) : ∃ cell : Cell, H[gA G k g i]? = some cell ∧ cell.vm.isStatics = false ∧ s.vm.findClass q.1 = some cell.cls :=
  va_recv (ws := [(gA G k g i, .inr (ci, fs))]) hK.1 (hM.one hd he) hc (q0 := 0) rfl
section ZR
variable {p : Program} {l : Launch} {e : Env} {R : Room} {s : State} {m : MethodId} {args : Array Value} {below : List Frame} {meth : Method} {c : Code} {H : Heap} {locs : List Loc} {cells slots : Nat} {Q : State → Prop}
variable {cc : ByteArray} {pc : Nat} {ls : Array Slot} {rest : List Value} {G : zG} {V V' : zV3} {A : Nat → Prop} {k g i : Nat}
theorem z_get (hx : p.tables.exec = Jvm.exec) (hb : c.code = cc) {own ref C : String} {T : u_T} {N ci index : Nat} {Ts : List Cond} (hts : ∀ w ∈ Ts, w.before args s = true) (hin : ∀ w ∈ u_ws C T N, w ∈ Ts) (hown : s.vm.findClass own = some m.cls) (hK : zK G A s) (hM : zM G V H) (hd : zdom k g i) {fs : List Value} (he : zcell G V k g i = .inr (ci, fs)) (hc : vwCl[ci]? = some (C, T, N)) (j : Nat) (hj : j < N)
    (hlink : (Cond.fieldLink own index ref (T j).2.1 (T j).2.2.1).before args s = true) (hsame : (T j).1 = ref) {v : Value} (hv : fs[j]? = some v) (hdg : decode cc pc = .ok (.getfield index, 3))
    (kk : W p l e R s m args below meth c H locs cells slots Q (F0 m (pc + 3) ls (v :: rest))) : W p l e R s m args below meth c H locs cells slots Q (F0 m pc ls (.ref (gA G k g i) :: rest)) :=
  va_get hx hb hts hin hown hK.1 (hM.one hd he) 0 rfl hc j hj hlink (fun _ h9 => by rw [← hsame]; exact h9) hv hdg kk
theorem z_getN (hx : p.tables.exec = Jvm.exec) (hb : c.code = cc) {own ref C host : String} {T : u_T} {N ci index : Nat} {Ts : List Cond} (hts : ∀ w ∈ Ts, w.before args s = true) (hin : ∀ w ∈ u_ws C T N, w ∈ Ts) (hown : s.vm.findClass own = some m.cls) (hK : zK G A s) (hM : zM G V H) (hd : zdom k g i) {fs : List Value} (he : zcell G V k g i = .inr (ci, fs)) (hc : vwCl[ci]? = some (C, T, N)) (j : Nat) (hj : j < N)
    (q : Nat) (hlink : zNF[q]? = some (own, index, ref, (T j).2.1, (T j).2.2.1, host)) (hsame : (T j).1 = ref) {v : Value} (hv : fs[j]? = some v) (hdg : decode cc pc = .ok (.getfield index, 3))
    (kk : W p l e R s m args below meth c H locs cells slots Q (F0 m (pc + 3) ls (v :: rest))) : W p l e R s m args below meth c H locs cells slots Q (F0 m pc ls (.ref (gA G k g i) :: rest)) :=
  va_getN hx hb hts hin hown hK.1 (hM.one hd he) 0 rfl hc j hj (va_Nw.use rfl (hK.2.2.1.1 _ (List.mem_of_getElem? hlink))) (fun _ h9 => by rw [← hsame]; exact h9) hv hdg kk
theorem z_put (hx : p.tables.exec = Jvm.exec) (hb : c.code = cc) {own ref C : String} {T : u_T} {N ci index : Nat} {Ts : List Cond} (hts : ∀ w ∈ Ts, w.before args s = true) (hin : ∀ w ∈ u_ws C T N, w ∈ Ts) (ty0 : Nat → FieldType) (hty : ∀ k, k < N → parseFieldDescriptor (T k).2.2.1 = some (ty0 k)) (hnm : ∀ a, a < N → ∀ b, b < N → a ≠ b → (T a).2.1 ≠ (T b).2.1) (hown : s.vm.findClass own = some m.cls) (hK : zK G A s) (hM : zM G V H) (hS0 : va_S A s.heap H locs) (hd : zdom k g i) {fs : List Value} (he : zcell G V k g i = .inr (ci, fs)) (hc : vwCl[ci]? = some (C, T, N)) (j : Nat) (hj : j < N)
    (hlink : (Cond.fieldLink own index ref (T j).2.1 (T j).2.2.1).before args s = true) (hsame : (T j).1 = ref) (hfin : (T j).2.2.2 = false) {v : Value} (hn : narrow (ty0 j) v = v) (hfit : fits (ty0 j) v = true) (hl : j < fs.length)
    (hnew : ∀ k' g' i', zdom k' g' i' → zcell G V' k' g' i' = if k' = k ∧ g' = g ∧ i' = i then .inr (ci, fs.set j v) else zcell G V k' g' i')
    (hdg : decode cc pc = .ok (.putfield index, 3)) (kk : ∀ (H1 : Heap) (locs1 : List Loc), zM G V' H1 → va_S A s.heap H1 locs1 → W p l e R s m args below meth c H1 locs1 cells slots Q (F0 m (pc + 3) ls rest)) : W p l e R s m args below meth c H locs cells slots Q (F0 m pc ls (v :: .ref (gA G k g i) :: rest)) := by
  have hap := va_apart (own := own) hts hin ty0 hty hnm hK.1 hc
  obtain ⟨r, h1, cell, q1, q2, q3, q4⟩ := hM.one hd he 0 _ rfl
  have hr : r = (C, T, N) := Option.some.inj (h1.symm.trans hc)
  subst hr
  obtain ⟨hS, hfc, kC, hkC, hkind⟩ := hK.1.1 ci _ hc
  obtain ⟨cf, kf, fi, f, hi, hsl⟩ := hS j hj
  have hlay := hts _ (hin _ (u_in_lay hj))
  unfold u_lay at hlay
  rw [if_neg (by rw [hfin]; decide)] at hlay
  have hst := (u_facts hfc hkC (u_lays hts hin hj) hi).1
  have h6 := u_store hfc hkC hkind hlay hi (hty j hj) hn hfit
  refine W.putK hx hb (f := f) ⟨hown, hlink, ⟨_, _, _, (by rw [← hsame]; exact hi)⟩, hst⟩ (by rw [q2]; exact h6) q1 q3 (by rw [hsl]; exact k2_hasslot (q4 j hj)) rfl rfl hdg fun H' e1 e2 e3 => ?_
  rw [hsl] at e1 ⊢
  exact kk H' _ (hM.set (e := .inr (ci, fs.set j v)) hK.2.1 hd ⟨_, hc, t_OB.to (V := updV (vp_V fs) j v) ⟨_, e1, q2, q3, t_set q4 hap hj v⟩ (fun n _ => vp_updV_set hl v n)⟩ e3 hnew) (hS0.put e2 e3 (hK.2.1.1 _ _ _ hd))
theorem z_putN (hx : p.tables.exec = Jvm.exec) (hb : c.code = cc) {own ref C host : String} {T : u_T} {N ci index : Nat} {Ts : List Cond} (hts : ∀ w ∈ Ts, w.before args s = true) (hin : ∀ w ∈ u_ws C T N, w ∈ Ts) (ty0 : Nat → FieldType) (hty : ∀ k, k < N → parseFieldDescriptor (T k).2.2.1 = some (ty0 k)) (hnm : ∀ a, a < N → ∀ b, b < N → a ≠ b → (T a).2.1 ≠ (T b).2.1) (hown : s.vm.findClass own = some m.cls) (hK : zK G A s) (hM : zM G V H) (hS0 : va_S A s.heap H locs) (hd : zdom k g i) {fs : List Value} (he : zcell G V k g i = .inr (ci, fs)) (hc : vwCl[ci]? = some (C, T, N)) (j : Nat) (hj : j < N)
    (q : Nat) (hlink : zNF[q]? = some (own, index, ref, (T j).2.1, (T j).2.2.1, host)) (hsame : (T j).1 = ref) (hfin : (T j).2.2.2 = false) {v : Value} (hn : narrow (ty0 j) v = v) (hfit : fits (ty0 j) v = true) (hl : j < fs.length)
    (hnew : ∀ k' g' i', zdom k' g' i' → zcell G V' k' g' i' = if k' = k ∧ g' = g ∧ i' = i then .inr (ci, fs.set j v) else zcell G V k' g' i')
    (hdg : decode cc pc = .ok (.putfield index, 3)) (kk : ∀ (H1 : Heap) (locs1 : List Loc), zM G V' H1 → va_S A s.heap H1 locs1 → W p l e R s m args below meth c H1 locs1 cells slots Q (F0 m (pc + 3) ls rest)) : W p l e R s m args below meth c H locs cells slots Q (F0 m pc ls (v :: .ref (gA G k g i) :: rest)) := by
  have hap := va_apart (own := own) hts hin ty0 hty hnm hK.1 hc
  obtain ⟨r, h1, cell, q1, q2, q3, q4⟩ := hM.one hd he 0 _ rfl
  have hr : r = (C, T, N) := Option.some.inj (h1.symm.trans hc)
  subst hr
  obtain ⟨hS, hfc, kC, hkC, hkind⟩ := hK.1.1 ci _ hc
  obtain ⟨cf, kf, fi, f, hi, hsl⟩ := hS j hj
  have hlay := hts _ (hin _ (u_in_lay hj))
  unfold u_lay at hlay
  rw [if_neg (by rw [hfin]; decide)] at hlay
  have hst := (u_facts hfc hkC (u_lays hts hin hj) hi).1
  have h6 := u_store hfc hkC hkind hlay hi (hty j hj) hn hfit
  refine va_WputK hx hb (f := f) hown (va_Nw.use rfl (hK.2.2.1.1 _ (List.mem_of_getElem? hlink))) (by rw [← hsame]; exact hi) hst (by rw [q2]; exact h6) q1 q3 (by rw [hsl]; exact k2_hasslot (q4 j hj)) rfl rfl hdg fun H' e1 e2 e3 => ?_
  rw [hsl] at e1 ⊢
  exact kk H' _ (hM.set (e := .inr (ci, fs.set j v)) hK.2.1 hd ⟨_, hc, t_OB.to (V := updV (vp_V fs) j v) ⟨_, e1, q2, q3, t_set q4 hap hj v⟩ (fun n _ => vp_updV_set hl v n)⟩ e3 hnew) (hS0.put e2 e3 (hK.2.1.1 _ _ _ hd))
theorem z_iald (hx : p.tables.exec = Jvm.exec) (hb : c.code = cc) (hK : zK G A s) (hM : zM G V H) (hd : zdom k g i) {n : Nat} {f : Nat → Int32} (he : zcell G V k g i = .inl (gC G 0, n, .inl f)) {j : Int32} (hin : vp_in j n) (hdg : decode cc pc = .ok (.iaload, 1))
    (kk : W p l e R s m args below meth c H locs cells slots Q (F0 m (pc + 1) ls (.int (f j.toNatClampNeg) :: rest))) : W p l e R s m args below meth c H locs cells slots Q (F0 m pc ls (.int j :: .ref (gA G k g i) :: rest)) :=
  va_iald hx hb hK.1 (hM.one hd he) 0 0 rfl rfl hin hdg kk
theorem z_cald (hx : p.tables.exec = Jvm.exec) (hb : c.code = cc) (hK : zK G A s) (hM : zM G V H) (hd : zdom k g i) {n : Nat} {f : Nat → Int32} (he : zcell G V k g i = .inl (gC G 1, n, .inl f)) {j : Int32} (hin : vp_in j n) (hdg : decode cc pc = .ok (.caload, 1))
    (kk : W p l e R s m args below meth c H locs cells slots Q (F0 m (pc + 1) ls (.int (f j.toNatClampNeg) :: rest))) : W p l e R s m args below meth c H locs cells slots Q (F0 m pc ls (.int j :: .ref (gA G k g i) :: rest)) :=
  va_cald hx hb hK.1 (hM.one hd he) 0 1 rfl rfl hin hdg kk
theorem z_aald (hx : p.tables.exec = Jvm.exec) (hb : c.code = cc) (hK : zK G A s) (hM : zM G V H) (hd : zdom k g i) (t0 : Nat) {cA : ClassId} {C : String} {n : Nat} {f : Nat → Nat} (he : zcell G V k g i = .inl (cA, n, zq (fun j => some (f j)))) (ht : (ztys G)[t0]? = some (cA, .object C)) {j : Int32} (hin : vp_in j n) (hdg : decode cc pc = .ok (.aaload, 1))
    (kk : W p l e R s m args below meth c H locs cells slots Q (F0 m (pc + 1) ls (.ref (f j.toNatClampNeg) :: rest))) : W p l e R s m args below meth c H locs cells slots Q (F0 m pc ls (.int j :: .ref (gA G k g i) :: rest)) :=
  va_aldq hx hb hK.1 (hM.one hd he) 0 t0 rfl ht hin hdg kk
theorem z_iast (hx : p.tables.exec = Jvm.exec) (hb : c.code = cc) (hK : zK G A s) (hM : zM G V H) (hS0 : va_S A s.heap H locs) (hd : zdom k g i) {n : Nat} {f : Nat → Int32} (he : zcell G V k g i = .inl (gC G 0, n, .inl f)) {j x : Int32} (hin : vp_in j n)
    (hnew : ∀ k' g' i', zdom k' g' i' → zcell G V' k' g' i' = if k' = k ∧ g' = g ∧ i' = i then .inl (gC G 0, n, .inl (upd f j.toNatClampNeg x)) else zcell G V k' g' i') (hdg : decode cc pc = .ok (.iastore, 1))
    (kk : ∀ (H1 : Heap) (locs1 : List Loc), zM G V' H1 → va_S A s.heap H1 locs1 → W p l e R s m args below meth c H1 locs1 cells slots Q (F0 m (pc + 1) ls rest)) : W p l e R s m args below meth c H locs cells slots Q (F0 m pc ls (.int x :: .int j :: .ref (gA G k g i) :: rest)) := by
  refine W.iast hx hb (hM.one hd he 0 _ rfl) ((hK.1.2 0 _ rfl).1 n (fun j => .int (f j))) (fun q => by cases q) (by show ¬ (j < 0 ∨ (arrV _ _ _).slots.size ≤ _); rw [arrV_size]; exact hin) rfl rfl hdg fun H1 e z oq => ?_
  refine kk H1 _ (hM.set hK.2.1 hd ?_ oq hnew) (hS0.put z oq (hK.2.1.1 _ _ _ hd))
  show H1[gA G k g i]? = some (vp_cell _ _)
  rw [e]
  rw [vp_cell_i, vp_cell_i, arrV_store]
  congr 2
  funext q
  by_cases hq : q = j.toNatClampNeg
  · subst hq
    simp [updV, upd]
  · simp [updV, upd, hq]
theorem z_cast (hx : p.tables.exec = Jvm.exec) (hb : c.code = cc) (hK : zK G A s) (hM : zM G V H) (hS0 : va_S A s.heap H locs) (hd : zdom k g i) {n : Nat} {f : Nat → Int32} (he : zcell G V k g i = .inl (gC G 1, n, .inl f)) {j x : Int32} (hin : vp_in j n)
    (hnew : ∀ k' g' i', zdom k' g' i' → zcell G V' k' g' i' = if k' = k ∧ g' = g ∧ i' = i then .inl (gC G 1, n, .inl (upd f j.toNatClampNeg (vp_nar .char x))) else zcell G V k' g' i') (hdg : decode cc pc = .ok (.castore, 1))
    (kk : ∀ (H1 : Heap) (locs1 : List Loc), zM G V' H1 → va_S A s.heap H1 locs1 → W p l e R s m args below meth c H1 locs1 cells slots Q (F0 m (pc + 1) ls rest)) : W p l e R s m args below meth c H locs cells slots Q (F0 m pc ls (.int x :: .int j :: .ref (gA G k g i) :: rest)) := by
  refine W.cast hx hb (hM.one hd he 0 _ rfl) ((hK.1.2 1 _ rfl).1 n (fun j => .int (f j))) (fun q => by cases q) (by show ¬ (j < 0 ∨ (arrV _ _ _).slots.size ≤ _); rw [arrV_size]; exact hin) rfl rfl hdg fun H1 e z oq => ?_
  refine kk H1 _ (hM.set hK.2.1 hd ?_ oq hnew) (hS0.put z oq (hK.2.1.1 _ _ _ hd))
  show H1[gA G k g i]? = some (vp_cell _ _)
  rw [e]
  rw [vp_cell_i, vp_cell_i, arrV_store]
  congr 2
  funext q
  by_cases hq : q = j.toNatClampNeg
  · subst hq
    simp [updV, upd, vp_nar]
    try rfl
  · simp [updV, upd, hq]
end ZR
