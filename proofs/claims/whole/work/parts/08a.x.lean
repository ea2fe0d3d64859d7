/-! constructors: what is made lies at the heap's end, one behind the other -/
def fE (f : Nat → va_E) (i : Nat) (x : va_E) : Nat → va_E := fun j => if j = i then x else f j
theorem fE_s (f : Nat → va_E) (i : Nat) (x : va_E) : fE f i x i = x := if_pos rfl
theorem fE_n (f : Nat → va_E) {i j : Nat} (x : va_E) (h : j ≠ i) : fE f i x j = f j := if_neg h
def wW (D : va_G) (b n : Nat) (f : Nat → va_E) (H : Heap) : Prop := H.size = b + n ∧ ∀ j, j < n → va_at D vwCl (b + j, f j) H
abbrev nTys (cs : Nat → ClassId) : List (ClassId × FieldType) := [(cs 0, .int), (cs 1, .char), (cs 2, .object "LockerChains$Locker"), (cs 3, .object "LockerChains$Person"), (cs 4, .object "LockerChains$Hall")]
def nAO : List String := ["LockerChains$Locker", "LockerChains$Person", "LockerChains$Hall"]
def wK (D : va_G) (cs : Nat → ClassId) (U : State) : Prop := va_K D vwCl (nTys cs) U ∧ zN U ∧ ∀ C ∈ nAO, va_AO C U
abbrev nA (b : Nat) : Nat → Prop := fun q => b ≤ q
theorem wK.warm {D : va_G} {cs : Nat → ClassId} {s U : State} (h : wK D cs s) (hW : s.WarmedH U.vm) : wK D cs U :=
  ⟨va_K.moved hW.alike h.1, ⟨fun q m => va_Nw.warmF hW (h.2.1.1 q m), fun q m => va_Nw.warmM hW (h.2.1.2 q m)⟩, fun C m => va_AO.moved hW.alike (h.2.2 C m)⟩
theorem wK.blind {D : va_G} {cs : Nat → ClassId} {U : State} {g : JFrame} {mk : MethodId} {a : Array Value} (h : wK D cs U) : wK D cs (U.calling g mk a) :=
  ⟨va_K.moved (u := U) (U := U.calling g mk a) (Vm.Alike.refl U.vm) h.1, ⟨fun q m => va_Nw.same rfl (rfl : U.vm = (U.calling g mk a).vm) (h.2.1.1 q m), fun q m => va_Nw.same rfl (rfl : U.vm = (U.calling g mk a).vm) (h.2.1.2 q m)⟩, fun C m => va_AO.moved (u := U) (U := U.calling g mk a) (Vm.Alike.refl U.vm) (h.2.2 C m)⟩
theorem wW_push {D : va_G} {b n : Nat} {f : Nat → va_E} {H H1 : Heap} {x : va_E} (hW : wW D b n f H) (z : H1.size = b + n + 1) (o : ∀ q : Nat, q < b + n → H1[q]? = H[q]?) (hx : va_at D vwCl (b + n, x) H1) : wW D b (n + 1) (fE f n x) H1 :=
  ⟨z, fun j hj => by
    by_cases e : j = n
    · subst e
      rw [fE_s]
      exact hx
    · rw [fE_n _ _ e]
      exact (hW.2 j (by omega)).kept (o (b + j) (by omega))⟩
theorem wW_set {D : va_G} {b n j : Nat} {f : Nat → va_E} {H H1 : Heap} {x : va_E} (hW : wW D b n f H) (z : H1.size = H.size) (o : ∀ q : Nat, q ≠ b + j → H1[q]? = H[q]?) (hx : va_at D vwCl (b + j, x) H1) : wW D b n (fE f j x) H1 :=
  ⟨z.trans hW.1, fun i hi => by
    by_cases e : i = j
    · subst e
      rw [fE_s]
      exact hx
    · rw [fE_n _ _ e]
      exact (hW.2 i hi).kept (o (b + i) (by omega))⟩
theorem nS_grow {b n : Nat} {H0 H H1 : Heap} {locs : List Loc} (hS : va_S (nA b) H0 H locs) (hz : H.size = b + n) (z : H1.size = b + n + 1) (o : ∀ q : Nat, q < b + n → H1[q]? = H[q]?) : va_S (nA b) H0 H1 locs :=
  ⟨Nat.le_trans hS.1 (by omega), fun q h1 h2 => (o q (by have := hS.1; omega)).trans (hS.2.1 q h1 h2), hS.2.2⟩
theorem wW_1 {D : va_G} {b n : Nat} {f : Nat → va_E} {H : Heap} (hW : wW D b n f H) {j : Nat} (hj : j < n) {x : va_E} (hx : f j = x) : va_P D vwCl [(b + j, x)] H := by
  intro k q hq
  match k, hq with
  | 0, hq =>
    cases hq
    rw [← hx]
    exact hW.2 j hj
  | k + 1, hq => simp at hq
theorem wW_e {D : va_G} {b n : Nat} {f g : Nat → va_E} {H : Heap} (hW : wW D b n f H) (h : ∀ j, j < n → f j = g j) : wW D b n g H := ⟨hW.1, fun j hj => by rw [← h j hj]; exact hW.2 j hj⟩
/-- what a constructor's end shows of it: its region, nothing below -/
def nCt (l : Launch) (D : va_G) (cs : Nat → ClassId) (y : MethodName) (code : ByteArray) (maxL : Nat) (rm : Room) (As : List Value) (b n : Nat) (e0 : va_E) (f : Nat → va_E) (mc ms : Nat) : Prop :=
  Met l y (.code y code maxL none :: zWL) rm (va_Pc (.ref b :: As) (fun U => wK D cs U ∧ wW D b 1 (fun _ => e0) U.heap)) (fun _ st oc t => oc = .returned none ∧ wW D b n f t.heap ∧ va_F (nA b) st t) mc ms (nA b)
theorem nw_Ct {l : Launch} {D : va_G} {cs : Nat → ClassId} {y : MethodName} {cc : ByteArray} {nL : Nat} {rm : Room} {As : List Value} {b n : Nat} {e0 : va_E} {f : Nat → va_E} {mc ms : Nat} (hy : plainName y.cls = true) (hyn : y.name = "<init>") (hn : (lg_sl (.ref b :: As)).length ≤ nL)
    (body : ∀ (p : Program) (e : Env) (s : State) (m : MethodId) (args : Array Value) (below : List Frame) (meth : Method) (c : Code) (Q : State → Prop), p.tables.exec = Jvm.exec → c.code = cc → c.maxLocals = nL → s.vm.findClass y.cls = some m.cls → (∀ w ∈ zWL, w.before args s = true) → meth.name = "<init>" → wK D cs s → wW D b 1 (fun _ => e0) s.heap → va_S (nA b) s.heap s.heap [] →
      (∀ (H : Heap) (locs : List Loc) (pc : Nat) (ls : Array Slot), wW D b n f H → va_S (nA b) s.heap H locs → decode cc pc = .ok (.return_, 1) → W p l e rm s m args below meth c H locs mc ms Q (F0 m pc ls [])) →
      ∀ ls : Array Slot, lv_has ls nL (lv_args 0 (.ref b :: As)) → W p l e rm s m args below meth c s.heap [] 0 0 Q (F0 m 0 ls [])) : nCt l D cs y cc nL rm As b n e0 f mc ms := by
  refine Met.ofW (cc := cc) (maxL := nL) (ret := none) hy rfl ?_
  intro p e s m args below meth c s₁ B hml hv
  obtain ⟨rfl, hK, hW⟩ := hv
  have hts := atoms_spec (ws := Cond.code y cc nL none :: zWL) B.pre
  have hlocks := B.notSynchronized
  have hin : meth.name = y.name := (name_of_methodNamed B.named B.method).1
  have hl := lv_entry (Value.ref b :: As) (n := nL) hn
  rw [lg_entry_eq]
  exact body p e s m _ below meth c _ B.exec B.bytes hml (findClass_of_methodNamed B.named) (fun w h => hts w (List.mem_cons_of_mem _ h)) (hin.trans hyn) hK hW va_S.rf (fun H locs pc ls hW hS hd => W.vret B.exec B.bytes B.returns (fun t ht hWm => ⟨rfl, by rw [ht]; exact hW, hS.F ht⟩) hS.2.2 hd) _ hl
section NWR
variable {p : Program} {l : Launch} {e : Env} {R : Room} {s : State} {m : MethodId} {args : Array Value} {below : List Frame} {meth : Method} {c : Code} {H : Heap} {locs : List Loc} {cells slots : Nat} {Q : State → Prop}
variable {cc : ByteArray} {pc : Nat} {ls : Array Slot} {rest : List Value} {D : va_G} {cs : Nat → ClassId} {b n : Nat} {f : Nat → va_E} {H0 : Heap}
theorem nw_new (hx : p.tables.exec = Jvm.exec) (hb : c.code = cc) {own C : String} {T : u_T} {N ci index : Nat} (hL : ∀ w ∈ zWL, w.before args s = true) (hin : ∀ w ∈ u_ws C T N, w ∈ zWL) (ty : Nat → FieldType) (hty : ∀ k, k < N → parseFieldDescriptor (T k).2.2.1 = some (ty k)) (hown : s.vm.findClass own = some m.cls) (hcl : Cond.classLink own index C ∈ zWL) (hinst : Cond.instantiable C N ∈ zWL) (hini : Cond.initialized C ∈ zWL)
    (hK : wK D cs s) (hW : wW D b n f H) (hS : va_S (nA b) H0 H locs) (hc : vwCl[ci]? = some (C, T, N)) {fs : List Value} (hfs : ∀ j, j < N → defaultValue (ty j) = vp_V fs j) (hcells : cells + 1 ≤ R.cells) (hslots : slots + N ≤ R.slots) (hdg : decode cc pc = .ok (.new index, 3))
    (kk : ∀ H1 : Heap, wW D b (n + 1) (fE f n (.inr (ci, fs))) H1 → va_S (nA b) H0 H1 locs → W p l e R s m args below meth c H1 locs (cells + 1) (slots + N) Q (F0 m (pc + 3) ls (.ref (b + n) :: rest))) : W p l e R s m args below meth c H locs cells slots Q (F0 m pc ls rest) := by
  have hKn := hK.1.1 ci _ hc
  refine W.newcK hx hb hown (hL _ hcl) (hL _ hinst) (hL _ hini) rfl hdg hcells hslots hKn.2.1 hW.1 fun H1 kC hkC e1 z1 o1 => ?_
  exact kk H1 (wW_push hW z1 o1 ⟨_, hc, (u_born ty hL hin hKn hkC e1 hty).to hfs⟩) (nS_grow hS hW.1 z1 o1)
theorem nw_newa (hx : p.tables.exec = Jvm.exec) (hb : c.code = cc) {atype : ArrayType} (hL : ∀ w ∈ zWL, w.before args s = true) (harr : Cond.arrayClass (newarray.typeOf atype) ∈ zWL) {cA : ClassId} (hcA : s.vm.findClass ("[" ++ (newarray.typeOf atype).toString) = some cA) (hW : wW D b n f H) (hS : va_S (nA b) H0 H locs)
    {k : Int32} {N' : Nat} {a0 : vp_A} (ha : vp_cell cA a0 = arrV cA N' (fun _ => defaultValue (newarray.typeOf atype))) (hn : ¬ k < 0) (hN : k.toNatClampNeg = N') (hbytes : N' * componentBytes (newarray.typeOf atype) ≤ 536870912) (hcells : cells + 1 ≤ R.cells) (hslots : slots + N' ≤ R.slots) (hdg : decode cc pc = .ok (.newarray atype, 2))
    (kk : ∀ H1 : Heap, wW D b (n + 1) (fE f n (.inl (cA, a0))) H1 → va_S (nA b) H0 H1 locs → W p l e R s m args below meth c H1 locs (cells + 1) (slots + N') Q (F0 m (pc + 2) ls (.ref (b + n) :: rest))) : W p l e R s m args below meth c H locs cells slots Q (F0 m pc ls (.int k :: rest)) := by
  refine va_newaK hx hb (hL _ harr) rfl hdg rfl hn hN hbytes hcells hslots hW.1 fun H1 cA' e1 z1 o1 hAr hNm => ?_
  have e : cA' = cA := Option.some.inj (hNm.symm.trans hcA)
  subst e
  refine kk H1 (wW_push hW z1 o1 ?_) (nS_grow hS hW.1 z1 o1)
  show H1[b + n]? = some (vp_cell _ _)
  rw [ha]
  exact e1
theorem nw_anew (hx : p.tables.exec = Jvm.exec) (hb : c.code = cc) {own C : String} {index : Nat} (hown : s.vm.findClass own = some m.cls) (hL : ∀ w ∈ zWL, w.before args s = true) (hcl : Cond.classLink own index C ∈ zWL) (hov : va_AO C s) {cA : ClassId} (hcA : va_RA s cA (.object C)) (hW : wW D b n f H) (hS : va_S (nA b) H0 H locs)
    {k : Int32} {N' : Nat} (hn : ¬ k < 0) (hN : k.toNatClampNeg = N') (hbytes : N' * 4 ≤ 536870912) (hcells : cells + 1 ≤ R.cells) (hslots : slots + N' ≤ R.slots) (hdg : decode cc pc = .ok (.anewarray index, 3))
    (kk : ∀ H1 : Heap, wW D b (n + 1) (fE f n (.inl (cA, N', zq (fun _ => none)))) H1 → va_S (nA b) H0 H1 locs → W p l e R s m args below meth c H1 locs (cells + 1) (slots + N') Q (F0 m (pc + 3) ls (.ref (b + n) :: rest))) : W p l e R s m args below meth c H locs cells slots Q (F0 m pc ls (.int k :: rest)) := by
  subst hN
  refine W.anew hx hb hown (hL _ hcl) hov.use rfl hdg rfl hn hbytes hcells hslots fun cA' kA comp h1 h2 h3 h4 => ?_
  obtain ⟨_, _, _, _, _, hNm⟩ := hcA
  have e : cA' = cA := Option.some.inj (h1.symm.trans hNm)
  subst e
  have z1 : (H.push { cls := cA', slots := Array.replicate k.toNatClampNeg .null, vm := .none }).size = b + n + 1 := by rw [Array.size_push, hW.1]
  have o1 : ∀ q : Nat, q < b + n → (H.push { cls := cA', slots := Array.replicate k.toNatClampNeg .null, vm := .none })[q]? = H[q]? := fun q hq => by
    rw [Array.getElem?_push, if_neg (by rw [hW.1]; omega)]
  have ez : H.size = b + n := hW.1
  rw [ez]
  refine kk _ (wW_push hW z1 o1 ?_) (nS_grow hS hW.1 z1 o1)
  show (H.push { cls := cA', slots := Array.replicate k.toNatClampNeg .null, vm := .none })[b + n]? = some (vp_cell _ _)
  rw [← ez, Array.getElem?_push_size, arrV_new]
  rfl
theorem nw_put (hx : p.tables.exec = Jvm.exec) (hb : c.code = cc) {own ref C : String} {T : u_T} {N ci index : Nat} (hL : ∀ w ∈ zWL, w.before args s = true) (hin : ∀ w ∈ u_ws C T N, w ∈ zWL) (ty0 : Nat → FieldType) (hty : ∀ k, k < N → parseFieldDescriptor (T k).2.2.1 = some (ty0 k)) (hnm : ∀ a, a < N → ∀ b, b < N → a ≠ b → (T a).2.1 ≠ (T b).2.1) (hown : s.vm.findClass own = some m.cls)
    (hK : wK D cs s) (hW : wW D b n f H) (hS : va_S (nA b) H0 H locs) {j : Nat} (hj : j < n) {fs : List Value} (he : f j = .inr (ci, fs)) (hc : vwCl[ci]? = some (C, T, N)) (k : Nat) (hk : k < N)
    (hlink : (Cond.fieldLink own index ref (T k).2.1 (T k).2.2.1) ∈ zWL) (hsame : (T k).1 = ref) (hfin : (T k).2.2.2 = false) {v : Value} (hn : narrow (ty0 k) v = v) (hfit : fits (ty0 k) v = true) (hl : k < fs.length) (hdg : decode cc pc = .ok (.putfield index, 3))
    (kk : ∀ (H1 : Heap) (locs1 : List Loc), wW D b n (fE f j (.inr (ci, fs.set k v))) H1 → va_S (nA b) H0 H1 locs1 → W p l e R s m args below meth c H1 locs1 cells slots Q (F0 m (pc + 3) ls rest)) : W p l e R s m args below meth c H locs cells slots Q (F0 m pc ls (v :: .ref (b + j) :: rest)) := by
  have hap := va_apart (own := own) hL hin ty0 hty hnm hK.1 hc
  have hat := hW.2 j hj
  rw [he] at hat
  obtain ⟨r, h1, cell, q1, q2, q3, q4⟩ := hat
  have hr : r = (C, T, N) := Option.some.inj (h1.symm.trans hc)
  subst hr
  obtain ⟨hSl, hfc, kC, hkC, hkind⟩ := hK.1.1 ci _ hc
  obtain ⟨cf, kf, fi, fd, hi, hsl⟩ := hSl k hk
  have hlay := hL _ (hin _ (u_in_lay hk))
  unfold u_lay at hlay
  rw [if_neg (by rw [hfin]; decide)] at hlay
  have hst := (u_facts hfc hkC (u_lays hL hin hk) hi).1
  have h6 := u_store hfc hkC hkind hlay hi (hty k hk) hn hfit
  refine W.putK hx hb (f := fd) ⟨hown, hL _ hlink, ⟨_, _, _, (by rw [← hsame]; exact hi)⟩, hst⟩ (by rw [q2]; exact h6) q1 q3 (by rw [hsl]; exact k2_hasslot (q4 k hk)) rfl rfl hdg fun H' e1 e2 e3 => ?_
  rw [hsl] at e1 ⊢
  exact kk H' _ (wW_set hW e2 e3 ⟨_, hc, t_OB.to (V := updV (vp_V fs) k v) ⟨_, e1, q2, q3, t_set q4 hap hk v⟩ (fun n _ => vp_updV_set hl v n)⟩) (hS.put e2 e3 (show b ≤ b + j by omega))
theorem nw_putF (hx : p.tables.exec = Jvm.exec) (hb : c.code = cc) {own ref C : String} {T : u_T} {N ci index : Nat} (hL : ∀ w ∈ zWL, w.before args s = true) (hin : ∀ w ∈ u_ws C T N, w ∈ zWL) (ty0 : Nat → FieldType) (hty : ∀ k, k < N → parseFieldDescriptor (T k).2.2.1 = some (ty0 k)) (hnm : ∀ a, a < N → ∀ b, b < N → a ≠ b → (T a).2.1 ≠ (T b).2.1) (hown : s.vm.findClass own = some m.cls)
    (hK : wK D cs s) (hW : wW D b n f H) (hS : va_S (nA b) H0 H locs) {j : Nat} (hj : j < n) {fs : List Value} (he : f j = .inr (ci, fs)) (hc : vwCl[ci]? = some (C, T, N)) (k : Nat) (hk : k < N)
    (hlink : (Cond.fieldLink own index ref (T k).2.1 (T k).2.2.1) ∈ zWL) (hsame : (T k).1 = ref) (hfin : (T k).2.2.2 = true) (hin2 : meth.name = "<init>") (hdecl : (T k).1 = own) {v : Value} (hn : narrow (ty0 k) v = v) (hfit : fits (ty0 k) v = true) (hl : k < fs.length) (hdg : decode cc pc = .ok (.putfield index, 3))
    (kk : ∀ (H1 : Heap) (locs1 : List Loc), wW D b n (fE f j (.inr (ci, fs.set k v))) H1 → va_S (nA b) H0 H1 locs1 → W p l e R s m args below meth c H1 locs1 cells slots Q (F0 m (pc + 3) ls rest)) : W p l e R s m args below meth c H locs cells slots Q (F0 m pc ls (v :: .ref (b + j) :: rest)) := by
  have hap := va_apart (own := own) hL hin ty0 hty hnm hK.1 hc
  have hat := hW.2 j hj
  rw [he] at hat
  obtain ⟨r, h1, cell, q1, q2, q3, q4⟩ := hat
  have hr : r = (C, T, N) := Option.some.inj (h1.symm.trans hc)
  subst hr
  obtain ⟨hSl, hfc, kC, hkC, hkind⟩ := hK.1.1 ci _ hc
  obtain ⟨cf, kf, fi, fd, hi, hsl⟩ := hSl k hk
  have hlay := hL _ (hin _ (u_in_lay hk))
  unfold u_lay at hlay
  rw [if_pos hfin] at hlay
  have hst := (u_facts hfc hkC (u_lays hL hin hk) hi).1
  have hcf : m.cls = cf := by
    obtain ⟨_, _, c', _, _, _, -, -, hf', -, -, -, hown2, -⟩ := Cond.laysFinal_spec hlay
    have e1 : c' = cf := by have := hi.symm.trans hf'; simp at this; exact this.1.symm
    rw [hdecl] at hown2
    rw [← e1]; exact Option.some.inj (hown.symm.trans hown2)
  have h6 := u_fits hfc hkC hkind (Or.inr hlay) hi (hty k hk) hn hfit
  refine W.putFinK hx hb hown (hL _ hlink) (by rw [← hsame]; exact hi) hst hcf hin2 (by rw [q2]; exact h6) q1 q3 (by rw [hsl]; exact k2_hasslot (q4 k hk)) rfl rfl hdg fun H' e1 e2 e3 => ?_
  rw [hsl] at e1 ⊢
  exact kk H' _ (wW_set hW e2 e3 ⟨_, hc, t_OB.to (V := updV (vp_V fs) k v) ⟨_, e1, q2, q3, t_set q4 hap hk v⟩ (fun n _ => vp_updV_set hl v n)⟩) (hS.put e2 e3 (show b ≤ b + j by omega))
theorem nw_get (hx : p.tables.exec = Jvm.exec) (hb : c.code = cc) {own ref C : String} {T : u_T} {N ci index : Nat} (hL : ∀ w ∈ zWL, w.before args s = true) (hin : ∀ w ∈ u_ws C T N, w ∈ zWL) (hown : s.vm.findClass own = some m.cls) (hK : wK D cs s) (hW : wW D b n f H) {j : Nat} (hj : j < n) {fs : List Value} (he : f j = .inr (ci, fs)) (hc : vwCl[ci]? = some (C, T, N)) (k : Nat) (hk : k < N)
    (hlink : (Cond.fieldLink own index ref (T k).2.1 (T k).2.2.1) ∈ zWL) (hsame : (T k).1 = ref) {v : Value} (hv : fs[k]? = some v) (hdg : decode cc pc = .ok (.getfield index, 3))
    (kk : W p l e R s m args below meth c H locs cells slots Q (F0 m (pc + 3) ls (v :: rest))) : W p l e R s m args below meth c H locs cells slots Q (F0 m pc ls (.ref (b + j) :: rest)) :=
  va_get hx hb hL hin hown hK.1 (wW_1 hW hj he) 0 rfl hc k hk (hL _ hlink) (fun _ h9 => by rw [← hsame]; exact h9) hv hdg kk
theorem nw_iast (hx : p.tables.exec = Jvm.exec) (hb : c.code = cc) (hK : wK D cs s) (hW : wW D b n f H) (hS : va_S (nA b) H0 H locs) {j : Nat} (hj : j < n) {N : Nat} {g : Nat → Int32} (he : f j = .inl (cs 0, N, .inl g)) {k x : Int32} (hin : vp_in k N) (hdg : decode cc pc = .ok (.iastore, 1))
    (kk : ∀ (H1 : Heap) (locs1 : List Loc), wW D b n (fE f j (.inl (cs 0, N, .inl (upd g k.toNatClampNeg x)))) H1 → va_S (nA b) H0 H1 locs1 → W p l e R s m args below meth c H1 locs1 cells slots Q (F0 m (pc + 1) ls rest)) : W p l e R s m args below meth c H locs cells slots Q (F0 m pc ls (.int x :: .int k :: .ref (b + j) :: rest)) := by
  have hat := hW.2 j hj
  rw [he] at hat
  refine W.iast hx hb hat ((hK.1.2 0 _ rfl).1 N (fun j => .int (g j))) (fun q => by cases q) (by show ¬ (k < 0 ∨ (arrV _ _ _).slots.size ≤ _); rw [arrV_size]; exact hin) rfl rfl hdg fun H1 e z oq => ?_
  refine kk H1 _ (wW_set hW z oq ?_) (hS.put z oq (show b ≤ b + j by omega))
  show H1[b + j]? = some (vp_cell _ _)
  rw [e]
  rw [vp_cell_i, vp_cell_i, arrV_store]
  congr 2
  funext q
  by_cases hq : q = k.toNatClampNeg
  · subst hq
    simp [updV, upd]
  · simp [updV, upd, hq]
theorem nw_aast (hx : p.tables.exec = Jvm.exec) (hb : c.code = cc) (hK : wK D cs s) (hW : wW D b n f H) (hS : va_S (nA b) H0 H locs) {j : Nat} (hj : j < n) (t0 : Nat) {cA : ClassId} {ci N jv : Nat} {r : vw_C} {g : Nat → Option Nat} {vs : List Value} (he : f j = .inl (cA, N, zq g)) (ht : (nTys cs)[t0]? = some (cA, .object r.1)) (hjv : jv < n) (hev : f jv = .inr (ci, vs)) (hc : vwCl[ci]? = some r) {k : Int32} (hin : vp_in k N) (hdg : decode cc pc = .ok (.aastore, 1))
    (kk : ∀ (H1 : Heap) (locs1 : List Loc), wW D b n (fE f j (.inl (cA, N, zq (va_up g k.toNatClampNeg (some (b + jv)))))) H1 → va_S (nA b) H0 H1 locs1 → W p l e R s m args below meth c H1 locs1 cells slots Q (F0 m (pc + 1) ls rest)) : W p l e R s m args below meth c H locs cells slots Q (F0 m pc ls (.ref (b + jv) :: .int k :: .ref (b + j) :: rest)) := by
  have hlt : k.toNatClampNeg < N := Nat.not_le.mp fun q => hin (Or.inr q)
  have h0 : ¬ k < 0 := fun q => hin (Or.inl q)
  have hat := hW.2 j hj
  rw [he] at hat
  have hav := hW.2 jv hjv
  rw [hev] at hav
  obtain ⟨r', hr', cellV, g1, g2, g3, -⟩ := hav
  have hcls := (hK.1.1 ci r hc).2
  obtain ⟨kA, comp, k1, k2, k3, -⟩ := (hK.1.2 t0 _ ht).2
  have hcomp : comp = D.1 ci := Option.some.inj (k3.symm.trans hcls.1)
  subst hcomp
  obtain ⟨kC, hkC, -⟩ := hcls.2
  refine W.aast hx hb hat (fun q h => by cases h) (fun h => by cases h) k1 k2 rfl hkC ⟨h0, by show _ < (arrV _ _ _).slots.size; rw [arrV_size]; exact hlt⟩ g1 (fun q h => by rw [g3] at h; cases h) (by rw [g2]; exact hkC) (by rw [g2]; exact va_assign hcls) rfl rfl hdg fun H1 e z oq => ?_
  refine kk H1 _ (wW_set hW z oq ?_) (hS.put z oq (show b ≤ b + j by omega))
  show H1[b + j]? = some (vp_cell _ _)
  rw [e]
  show some ((arrV cA N (fun q => va_rf (g q))).setSlot _ _) = some (arrV cA N (fun q => va_rf (va_up g k.toNatClampNeg (some (b + jv)) q)))
  rw [arrV_store]
  congr 2
  funext q
  by_cases hq : q = k.toNatClampNeg
  · subst hq
    simp [updV, va_up, va_rf]
  · simp [updV, va_up, hq]
/-- two regions, one behind the other -/
def fG (n0 : Nat) (f g : Nat → va_E) : Nat → va_E := fun j => if j < n0 then f j else g (j - n0)
theorem nw_join {n' : Nat} {f' : Nat → va_E} {H1 : Heap} (hW : wW D b (n + 1) f H) (h1 : wW D (b + n) n' f' H1) (o : ∀ q : Nat, q < H.size → ¬ nA (b + n) q → H1[q]? = H[q]?) : wW D b (n + n') (fG n f f') H1 :=
  ⟨by rw [h1.1]; omega, fun j hj => by
    by_cases e : j < n
    · rw [show fG n f f' j = f j from if_pos e]
      exact (hW.2 j (by omega)).kept (o (b + j) (by rw [hW.1]; omega) (by show ¬ b + n ≤ b + j; omega))
    · rw [show fG n f f' j = f' (j - n) from if_neg e]
      have := h1.2 (j - n) (by omega)
      rw [show b + n + (j - n) = b + j by omega] at this
      exact this⟩
theorem nw_run {mc ms n' : Nat} {f' : Nat → va_E} {st0 : List Value} (hr : va_Run p l e R s m args below meth c H locs cells slots mc ms (F0 m pc ls st0) rest (fun (st : State) (oc : Outcome) (t : State) => oc = .returned none ∧ wW D (b + n) n' f' t.heap ∧ va_F (nA (b + n)) st t) (nA (b + n))) (hW : wW D b (n + 1) f H) (hS : va_S (nA b) H0 H locs)
    (kk : ∀ (H1 : Heap) (locs1 : List Loc), wW D b (n + n') (fG n f f') H1 → va_S (nA b) H0 H1 locs1 → W p l e R s m args below meth c H1 locs1 (cells + mc) (slots + ms) Q (F0 m (pc + 3) ls rest)) : W p l e R s m args below meth c H locs cells slots Q (F0 m pc ls st0) := by
  intro T hT X
  obtain ⟨v, st₀, t, T', L, h0, X', hL, e1, e2, ⟨hv, h1, hz, hk⟩, st⟩ := hr T hT X
  cases hv
  rw [h0] at hz hk
  obtain ⟨t2, a1, b1⟩ := kk T'.heap (locs ++ L) (by rw [e1]; exact nw_join hW h1 hk)
    ⟨Nat.le_trans hS.1 (by rw [e1]; exact hz), fun q h1 h2 => by rw [e1, hk q (Nat.lt_of_lt_of_le h1 hS.1) (fun z => h2 (Nat.le_trans (Nat.le_add_right b n) z))]; exact hS.2.1 q h1 h2, fun q hq => by
      rcases List.mem_append.mp hq with h | h
      · exact hS.2.2 q h
      · exact Nat.le_trans (Nat.le_add_right b n) (hL q h)⟩ T' rfl X'
  exact ⟨t2, st t2 a1, b1⟩
theorem nw_top (hW : wW D b (n + 1) f H) {x : va_E} (hx : f n = x) : wW D (b + n) 1 (fun _ => x) H := ⟨by rw [hW.1]; omega, fun j hj => by
  have e : j = 0 := by omega
  subst e
  rw [← hx]
  exact hW.2 n (by omega)⟩
theorem nw_call {y : MethodName} {bytes : ByteArray} {maxL nn index nL n' mc ms : Nat} {rm : Room} {own : String} {As : List Value} {st0 : List Value} {e0 : va_E} {f' : Nat → va_E} (hx : p.tables.exec = Jvm.exec) (hb : c.code = cc) (hml : c.maxLocals = nL) (hown : s.vm.findClass own = some m.cls) (hL : ∀ w ∈ zWL, w.before args s = true) (hK : wK D cs s) (hW : wW D b (n + 1) f H) (hS : va_S (nA b) H0 H locs) (he : f n = e0)
    (hc : nCt l D cs y bytes maxL rm As (b + n) n' e0 f' mc ms) (hcw : Cond.code y bytes maxL none ∈ zWL) (h2 : Cond.instanceMethod y ∈ zWL) (h4 : Cond.initialized y.cls ∈ zWL) (hlk : Cond.methodLink own index y ∈ zWL) (hyn : y.name = "<init>") (hd : y.cls ≠ "java/lang/invoke/MethodHandle" ∧ y.cls ≠ "java/lang/invoke/VarHandle" ∧ (parseMethodDescriptor y.desc).map (fun d => d.parameters.length) = some nn) (hrm : rm.cells = mc ∧ rm.slots = ms) (hR : rm.frames + 1 ≤ R.frames ∧ 8 + (maxL + 11) + rm.locals ≤ R.locals)
    (hn : As.length = nn) (hls : ls.size = nL) (hst : st0 = As.reverse ++ .ref (b + n) :: rest) (hWt : (rest.map fun v => v.category).sum ≤ 8) (hdg : decode cc pc = .ok (.invokespecial index, 3)) (hf : cells + mc ≤ R.cells ∧ slots + ms ≤ R.slots)
    (kk : ∀ (H1 : Heap) (locs1 : List Loc), wW D b (n + n') (fG n f f') H1 → va_S (nA b) H0 H1 locs1 → W p l e R s m args below meth c H1 locs1 (cells + mc) (slots + ms) Q (F0 m (pc + 3) ls rest)) : W p l e R s m args below meth c H locs cells slots Q (F0 m pc ls st0) :=
  nw_run (va_runI (As := As) (rest := rest) ⟨hx, hb, hml, hown, hL⟩ hc (cwI nn hL (zw_gc hcw) rfl hrm.1 hrm.2 (hL _ h4) (hL _ hlk) (hL _ h2) hyn hd hR) ⟨fun a U g mk q => ⟨q.1, q.2.1.blind, q.2.2⟩, fun U hU hW' => ⟨rfl, hK.warm hW', by rw [hU]; exact nw_top hW he⟩⟩ rfl hn hls hst (lv_room hWt) hdg hf) hW hS kk
theorem nw_callN {y : MethodName} {bytes : ByteArray} {maxL nn index nL n' mc ms : Nat} {rm : Room} {own host : String} {As : List Value} {st0 : List Value} {e0 : va_E} {f' : Nat → va_E} (hx : p.tables.exec = Jvm.exec) (hb : c.code = cc) (hml : c.maxLocals = nL) (hown : s.vm.findClass own = some m.cls) (hL : ∀ w ∈ zWL, w.before args s = true) (hK : wK D cs s) (hW : wW D b (n + 1) f H) (hS : va_S (nA b) H0 H locs) (he : f n = e0)
    (hc : nCt l D cs y bytes maxL rm As (b + n) n' e0 f' mc ms) (hcw : Cond.code y bytes maxL none ∈ zWL) (h2 : Cond.instanceMethod y ∈ zWL) (h4 : Cond.initialized y.cls ∈ zWL) (q : Nat) (hlk : zNM[q]? = some (own, index, y, host)) (hyn : y.name = "<init>") (hd : y.cls ≠ "java/lang/invoke/MethodHandle" ∧ y.cls ≠ "java/lang/invoke/VarHandle" ∧ (parseMethodDescriptor y.desc).map (fun d => d.parameters.length) = some nn) (hrm : rm.cells = mc ∧ rm.slots = ms) (hR : rm.frames + 1 ≤ R.frames ∧ 8 + (maxL + 11) + rm.locals ≤ R.locals)
    (hn : As.length = nn) (hls : ls.size = nL) (hst : st0 = As.reverse ++ .ref (b + n) :: rest) (hWt : (rest.map fun v => v.category).sum ≤ 8) (hdg : decode cc pc = .ok (.invokespecial index, 3)) (hf : cells + mc ≤ R.cells ∧ slots + ms ≤ R.slots)
    (kk : ∀ (H1 : Heap) (locs1 : List Loc), wW D b (n + n') (fG n f f') H1 → va_S (nA b) H0 H1 locs1 → W p l e R s m args below meth c H1 locs1 (cells + mc) (slots + ms) Q (F0 m (pc + 3) ls rest)) : W p l e R s m args below meth c H locs cells slots Q (F0 m pc ls st0) :=
  nw_run (va_runIN (As := As) (rest := rest) (host := host) ⟨hx, hb, hml, hown, hL⟩ hc ⟨va_cnB nn hL (zw_gc hcw) rfl hrm.1 hrm.2 (hK.2.1.2 _ (List.mem_of_getElem? hlk)) (hL _ h4) hd hR, hyn, hL _ h2⟩ ⟨fun a U g mk q => ⟨q.1, q.2.1.blind, q.2.2⟩, fun U hU hW' => ⟨rfl, hK.warm hW', by rw [hU]; exact nw_top hW he⟩⟩ rfl hn hls hst (lv_room hWt) hdg hf) hW hS kk
theorem nw_obj (hx : p.tables.exec = Jvm.exec) (hb : c.code = cc) {own : String} {idx nL : Nat} {a : Nat} (hml : c.maxLocals = nL) (hown : s.vm.findClass own = some m.cls) (hL : ∀ w ∈ zWL, w.before args s = true) (h1 : Cond.methodLink own idx objectInit ∈ zWL) (h2 : Cond.instanceMethod objectInit ∈ zWL) (h3 : Cond.code objectInit ⟨#[0xb1]⟩ 1 none ∈ zWL) (hls : ls.size = nL) (hdg : decode cc pc = .ok (.invokespecial idx, 3)) (hf : 1 ≤ R.frames) (hl : 12 ≤ R.locals)
    (kk : W p l e R s m args below meth c H locs cells slots Q (F0 m (pc + 3) ls [])) : W p l e R s m args below meth c H locs cells slots Q (F0 m pc ls [.ref a]) :=
  W.objInit hx hb hown (hL _ h1) (hL _ h2) (hL _ h3) rfl (by rw [hml]; exact hls) rfl hdg hf hl kk
end NWR
