/-! the words at hand: those of the tables that travel; shallow programs: what a walk follows -/
def zWL : List Cond := lw_tbl.filter goodWord
theorem zw_in {w : Cond} (h : w ∈ lw_tbl) (hg : goodWord w = true) : w ∈ zWL := List.mem_filter.mpr ⟨h, hg⟩
theorem zw_tbl {w : Cond} (h : w ∈ zWL) : w ∈ lw_tbl := (List.mem_filter.mp h).1
theorem zw_good : GoodIn zWL zWL := fun w h => ⟨h, good_of_word (List.mem_filter.mp h).2⟩
theorem zw_gi {ws : List Cond} (h : ∀ w ∈ ws, w ∈ zWL) : GoodIn zWL ws := fun w m => zw_good w (h w m)
theorem zw_1 {w : Cond} (h : w ∈ tables_1_1) : w ∈ lw_tbl := List.mem_append_right _ (List.mem_append_left _ h)
theorem zw_2 {w : Cond} (h : w ∈ tables_1_2) : w ∈ lw_tbl := List.mem_append_right _ (List.mem_append_right _ (List.mem_append_left _ h))
theorem zw_3 {w : Cond} (h : w ∈ tables_1_3) : w ∈ lw_tbl := List.mem_append_right _ (List.mem_append_right _ (List.mem_append_right _ (List.mem_append_left _ h)))
theorem zw_4 {w : Cond} (h : w ∈ tables_1_4) : w ∈ lw_tbl := List.mem_append_right _ (List.mem_append_right _ (List.mem_append_right _ (List.mem_append_right _ (List.mem_append_left _ h))))
theorem zw_5 {w : Cond} (h : w ∈ tables_1_5) : w ∈ lw_tbl := List.mem_append_right _ (List.mem_append_right _ (List.mem_append_right _ (List.mem_append_right _ (List.mem_append_right _ h))))
theorem zw_p {y : MethodName} {n : Nat} (h : (y, n) ∈ lw_privs) : Cond.selects y.cls y y ∈ lw_tbl := List.mem_append_left _ (List.mem_map.mpr ⟨_, h, rfl⟩)
theorem zw_gv {own C : String} {idx maxL : Nat} {y : MethodName} {b : ByteArray} {ret : Option FieldType} (h1 : Cond.methodLink own idx y ∈ zWL) (h2 : Cond.instanceMethod y ∈ zWL) (h3 : Cond.selects C y y ∈ zWL) (h4 : Cond.initialized C ∈ zWL) (h5 : Cond.code y b maxL ret ∈ zWL) : GoodIn zWL (wsV own idx C y (.code y b maxL ret :: zWL)) := by
  refine zw_gi fun w h => ?_
  simp only [wsV, List.cons_append, List.nil_append, List.mem_cons] at h
  rcases h with rfl | rfl | rfl | rfl | rfl | h <;> assumption
theorem zw_gs {own : String} {idx maxL : Nat} {y : MethodName} {b : ByteArray} {ret : Option FieldType} (h1 : Cond.methodLink own idx y ∈ zWL) (h2 : Cond.static y ∈ zWL) (h4 : Cond.initialized y.cls ∈ zWL) (h5 : Cond.code y b maxL ret ∈ zWL) : GoodIn zWL (va_wsS own idx y (.code y b maxL ret :: zWL)) := by
  refine zw_gi fun w h => ?_
  simp only [va_wsS, List.cons_append, List.nil_append, List.mem_cons] at h
  rcases h with rfl | rfl | rfl | rfl | h <;> assumption
theorem zw_gc {maxL : Nat} {y : MethodName} {b : ByteArray} {ret : Option FieldType} (h5 : Cond.code y b maxL ret ∈ zWL) : GoodIn zWL (.code y b maxL ret :: zWL) := by
  refine zw_gi fun w h => ?_
  rcases List.mem_cons.mp h with rfl | h <;> assumption
def bnd {α σ β : Type} (x : Option (α × σ)) (k : α → σ → Option β) : Option β := match x with
  | none => none
  | some q => k q.1 q.2
theorem bnd_some {α σ β : Type} {x : Option (α × σ)} {k : α → σ → Option β} {o : β} (h : bnd x k = some o) : ∃ (a : α) (s : σ), x = some (a, s) ∧ k a s = some o := by
  cases x with
  | none => cases h
  | some q => exact ⟨q.1, q.2, rfl, h⟩
theorem bnd_eq {α σ β : Type} {x : Option (α × σ)} {k : α → σ → Option β} {a : α} {s : σ} (h : x = some (a, s)) : bnd x k = k a s := by rw [h]; rfl
def grd {β : Type} (b : Bool) (k : Option β) : Option β := if b = true then k else none
theorem grd_some {β : Type} {b : Bool} {k : Option β} {o : β} (h : grd b k = some o) : b = true ∧ k = some o := by
  cases b with
  | false => cases h
  | true => exact ⟨rfl, h⟩
theorem grd_eq {β : Type} {b : Bool} {k : Option β} (h : b = true) : grd b k = k := if_pos h
def put2 {β : Type} (h : zV2) (c i : Nat) (x : Int32) (k : zV2 → β) : β := k (up2 h c i x)
theorem put2_some {β : Type} {h h1 : zV2} {c i : Nat} {x : Int32} {k : zV2 → Option β} {o : β} (hf : put2 h c i x k = some o) (e : h1 = up2 h c i x) : k h1 = some o := by subst e; exact hf
def put3 {β : Type} (V : zV3) (g c i : Nat) (x : Int32) (k : zV3 → β) : β := k (upG V g (up2 (V g) c i x))
theorem put3_some {β : Type} {V V1 : zV3} {g c i : Nat} {x : Int32} {k : zV3 → Option β} {o : β} (hf : put3 V g c i x k = some o) (e : V1 = upG V g (up2 (V g) c i x)) : k V1 = some o := by subst e; exact hf
def ltI {α β : Type} (x : α) (k : α → β) : β := k x
theorem ltI_some {α β : Type} {x y : α} {k : α → Option β} {o : β} (hf : ltI x k = some o) (e : y = x) : k y = some o := by subst e; exact hf
def optm {β : Type} (o : Option Nat) (a : β) (f : Nat → β) : β := match o with
  | none => a
  | some i => f i
theorem optm_none {β : Type} {a : β} {f : Nat → β} {o : β} (h : optm none a f = o) : a = o := h
theorem optm_s {β : Type} {a : β} {f : Nat → β} {o : β} {i : Nat} (h : optm (some i) a f = o) : f i = o := h
theorem ift {β : Type} {c : Prop} {d : Decidable c} {x y : β} {o : β} (h : @ite β c d x y = o) (hc : c) : x = o := by rw [if_pos hc] at h; exact h
theorem iff_ {β : Type} {c : Prop} {d : Decidable c} {x y : β} {o : β} (h : @ite β c d x y = o) (hc : ¬ c) : y = o := by rw [if_neg hc] at h; exact h
def inb (i : Int32) (n : Nat) : Bool := decide (0 ≤ i) && decide (i.toNatClampNeg < n)
theorem inb_in {i : Int32} {n : Nat} (h : inb i n = true) : vp_in i n := by
  simp only [inb, Bool.and_eq_true, decide_eq_true_eq] at h
  intro q
  rcases q with q | q
  · exact absurd h.1 (Int32.not_le.mpr q)
  · omega
theorem inb_lt {i : Int32} {n : Nat} (h : inb i n = true) : i.toNatClampNeg < n := by
  simp only [inb, Bool.and_eq_true, decide_eq_true_eq] at h
  exact h.2
def isb (x : Int32) : Bool := decide (x = 0) || decide (x = 1)
theorem isb_z {x : Int32} (h : isb x = true) : narrow .boolean (.int x) = .int x := by
  simp only [isb, Bool.or_eq_true, decide_eq_true_eq] at h
  rcases h with rfl | rfl <;> rfl
theorem isb_f {x : Int32} (h : isb x = true) : fits .boolean (.int x) = true := by
  simp only [isb, Bool.or_eq_true, decide_eq_true_eq] at h
  rcases h with rfl | rfl <;> rfl
def isc (x : Int32) : Bool := decide (vp_nar .char x = x)
theorem isc_z {x : Int32} (h : isc x = true) : narrow .char (.int x) = .int x := by
  have h1 := of_decide_eq_true h
  have h2 : narrow .char (.int x) = .int (vp_nar .char x) := rfl
  rw [h2, h1]
def bndG {α β : Type} (x : Option (α × zV2)) (V : zV3) (g : Nat) (k : α → zV3 → Option β) : Option β := match x with
  | none => none
  | some q => k q.1 (upG V g q.2)
theorem bndG_some {α β : Type} {x : Option (α × zV2)} {V : zV3} {g : Nat} {k : α → zV3 → Option β} {o : β} (h : bndG x V g k = some o) : ∃ (a : α) (s : zV2) (V1 : zV3), x = some (a, s) ∧ V1 = upG V g s ∧ k a V1 = some o := by
  cases x with
  | none => cases h
  | some q => exact ⟨q.1, q.2, _, rfl, rfl, h⟩
theorem bndG_eq {α β : Type} {x : Option (α × zV2)} {V : zV3} {g : Nat} {k : α → zV3 → Option β} {a : α} {s : zV2} (h : x = some (a, s)) : bndG x V g k = k a (upG V g s) := by rw [h]; rfl
/-- a contract: from the numbers V the answer is rv, and the numbers are V' -/
def zCt (l : Launch) (G : zG) (A : Nat → Prop) (y : MethodName) (b : ByteArray) (n : Nat) (ret : Option FieldType) (rm : Room) (av : List Value) (V : zV3) (rv : Option Value) (V' : zV3) : Prop :=
  Met l y (.code y b n ret :: zWL) rm (va_Pc av (fun U => zK G A U ∧ zM G V U.heap)) (fun _ st oc t => oc = .returned rv ∧ zM G V' t.heap ∧ va_F A st t) 0 0 A
theorem z_CtI {l : Launch} {G : zG} {A : Nat → Prop} {y : MethodName} {cc : ByteArray} {n : Nat} {rm : Room} {av : List Value} {V V' : zV3} {r : Int32} (hy : plainName y.cls = true) (hn : (lg_sl av).length ≤ n)
    (body : ∀ (p : Program) (e : Env) (s : State) (m : MethodId) (args : Array Value) (below : List Frame) (meth : Method) (c : Code) (Q : State → Prop), p.tables.exec = Jvm.exec → c.code = cc → c.maxLocals = n → s.vm.findClass y.cls = some m.cls → (∀ w ∈ zWL, w.before args s = true) → zK G A s → zM G V s.heap → va_S A s.heap s.heap [] →
      (∀ (H : Heap) (locs : List Loc) (pc : Nat) (ls : Array Slot), zM G V' H → va_S A s.heap H locs → decode cc pc = .ok (.ireturn, 1) → W p l e rm s m args below meth c H locs 0 0 Q (F0 m pc ls (some (.int r)).toList)) →
      ∀ ls : Array Slot, lv_has ls n (lv_args 0 av) → W p l e rm s m args below meth c s.heap [] 0 0 Q (F0 m 0 ls [])) : zCt l G A y cc n (some .int) rm av V (some (.int r)) V' := by
  refine Met.ofW (cc := cc) (maxL := n) (ret := (some .int)) hy rfl ?_
  intro p e s m args below meth c s₁ B hml hv
  obtain ⟨rfl, hK, hM⟩ := hv
  have hts := atoms_spec (ws := Cond.code y cc n ((some .int)) :: zWL) B.pre
  have hlocks := B.notSynchronized
  have hl := lv_entry av (n := n) hn
  rw [lg_entry_eq]
  exact body p e s m _ below meth c _ B.exec B.bytes hml (findClass_of_methodNamed B.named) (fun w h => hts w (List.mem_cons_of_mem _ h)) hK hM va_S.rf (fun H locs pc ls hM hS hd => W.iret (v := r) B.exec B.bytes B.returns (fun t ht hW => ⟨rfl, by rw [ht]; exact hM, hS.F ht⟩) hS.2.2 hd) _ hl
theorem z_CtZ {l : Launch} {G : zG} {A : Nat → Prop} {y : MethodName} {cc : ByteArray} {n : Nat} {rm : Room} {av : List Value} {V V' : zV3} {r : Int32} {ty : FieldType} (hy : plainName y.cls = true) (hn : (lg_sl av).length ≤ n)
    (body : ∀ (p : Program) (e : Env) (s : State) (m : MethodId) (args : Array Value) (below : List Frame) (meth : Method) (c : Code) (Q : State → Prop), p.tables.exec = Jvm.exec → c.code = cc → c.maxLocals = n → s.vm.findClass y.cls = some m.cls → (∀ w ∈ zWL, w.before args s = true) → zK G A s → zM G V s.heap → va_S A s.heap s.heap [] →
      (∀ (H : Heap) (locs : List Loc) (pc : Nat) (ls : Array Slot), narrow ty (.int r) = .int r → zM G V' H → va_S A s.heap H locs → decode cc pc = .ok (.ireturn, 1) → W p l e rm s m args below meth c H locs 0 0 Q (F0 m pc ls (some (.int r)).toList)) →
      ∀ ls : Array Slot, lv_has ls n (lv_args 0 av) → W p l e rm s m args below meth c s.heap [] 0 0 Q (F0 m 0 ls [])) : zCt l G A y cc n (some ty) rm av V (some (.int r)) V' := by
  refine Met.ofW (cc := cc) (maxL := n) (ret := (some ty)) hy rfl ?_
  intro p e s m args below meth c s₁ B hml hv
  obtain ⟨rfl, hK, hM⟩ := hv
  have hts := atoms_spec (ws := Cond.code y cc n ((some ty)) :: zWL) B.pre
  have hlocks := B.notSynchronized
  have hl := lv_entry av (n := n) hn
  rw [lg_entry_eq]
  exact body p e s m _ below meth c _ B.exec B.bytes hml (findClass_of_methodNamed B.named) (fun w h => hts w (List.mem_cons_of_mem _ h)) hK hM va_S.rf (fun H locs pc ls hnr hM hS hd => W.zret (v := r) B.exec B.bytes B.returns hnr (fun t ht hW => ⟨rfl, by rw [ht]; exact hM, hS.F ht⟩) hS.2.2 hd) _ hl
theorem z_CtV {l : Launch} {G : zG} {A : Nat → Prop} {y : MethodName} {cc : ByteArray} {n : Nat} {rm : Room} {av : List Value} {V V' : zV3}  (hy : plainName y.cls = true) (hn : (lg_sl av).length ≤ n)
    (body : ∀ (p : Program) (e : Env) (s : State) (m : MethodId) (args : Array Value) (below : List Frame) (meth : Method) (c : Code) (Q : State → Prop), p.tables.exec = Jvm.exec → c.code = cc → c.maxLocals = n → s.vm.findClass y.cls = some m.cls → (∀ w ∈ zWL, w.before args s = true) → zK G A s → zM G V s.heap → va_S A s.heap s.heap [] →
      (∀ (H : Heap) (locs : List Loc) (pc : Nat) (ls : Array Slot), zM G V' H → va_S A s.heap H locs → decode cc pc = .ok (.return_, 1) → W p l e rm s m args below meth c H locs 0 0 Q (F0 m pc ls (none : Option Value).toList)) →
      ∀ ls : Array Slot, lv_has ls n (lv_args 0 av) → W p l e rm s m args below meth c s.heap [] 0 0 Q (F0 m 0 ls [])) : zCt l G A y cc n none rm av V (none : Option Value) V' := by
  refine Met.ofW (cc := cc) (maxL := n) (ret := none) hy rfl ?_
  intro p e s m args below meth c s₁ B hml hv
  obtain ⟨rfl, hK, hM⟩ := hv
  have hts := atoms_spec (ws := Cond.code y cc n (none) :: zWL) B.pre
  have hlocks := B.notSynchronized
  have hl := lv_entry av (n := n) hn
  rw [lg_entry_eq]
  exact body p e s m _ below meth c _ B.exec B.bytes hml (findClass_of_methodNamed B.named) (fun w h => hts w (List.mem_cons_of_mem _ h)) hK hM va_S.rf (fun H locs pc ls hM hS hd => W.vret B.exec B.bytes B.returns (fun t ht hW => ⟨rfl, by rw [ht]; exact hM, hS.F ht⟩) hS.2.2 hd) _ hl
theorem z_CtL {l : Launch} {G : zG} {A : Nat → Prop} {y : MethodName} {cc : ByteArray} {n : Nat} {rm : Room} {av : List Value} {V V' : zV3} {r : Int64} (hy : plainName y.cls = true) (hn : (lg_sl av).length ≤ n)
    (body : ∀ (p : Program) (e : Env) (s : State) (m : MethodId) (args : Array Value) (below : List Frame) (meth : Method) (c : Code) (Q : State → Prop), p.tables.exec = Jvm.exec → c.code = cc → c.maxLocals = n → s.vm.findClass y.cls = some m.cls → (∀ w ∈ zWL, w.before args s = true) → zK G A s → zM G V s.heap → va_S A s.heap s.heap [] →
      (∀ (H : Heap) (locs : List Loc) (pc : Nat) (ls : Array Slot), zM G V' H → va_S A s.heap H locs → decode cc pc = .ok (.lreturn, 1) → W p l e rm s m args below meth c H locs 0 0 Q (F0 m pc ls (some (.long r)).toList)) →
      ∀ ls : Array Slot, lv_has ls n (lv_args 0 av) → W p l e rm s m args below meth c s.heap [] 0 0 Q (F0 m 0 ls [])) : zCt l G A y cc n (some .long) rm av V (some (.long r)) V' := by
  refine Met.ofW (cc := cc) (maxL := n) (ret := (some .long)) hy rfl ?_
  intro p e s m args below meth c s₁ B hml hv
  obtain ⟨rfl, hK, hM⟩ := hv
  have hts := atoms_spec (ws := Cond.code y cc n ((some .long)) :: zWL) B.pre
  have hlocks := B.notSynchronized
  have hl := lv_entry av (n := n) hn
  rw [lg_entry_eq]
  exact body p e s m _ below meth c _ B.exec B.bytes hml (findClass_of_methodNamed B.named) (fun w h => hts w (List.mem_cons_of_mem _ h)) hK hM va_S.rf (fun H locs pc ls hM hS hd => W.lret (v := r) B.exec B.bytes B.returns (fun t ht hW => ⟨rfl, by rw [ht]; exact hM, hS.F ht⟩) hS.2.2 hd) _ hl
theorem z_CtQ {l : Launch} {G : zG} {A : Nat → Prop} {y : MethodName} {cc : ByteArray} {n : Nat} {rm : Room} {av : List Value} {V V' : zV3} {r : Option Nat} {C : String} (hy : plainName y.cls = true) (hn : (lg_sl av).length ≤ n)
    (body : ∀ (p : Program) (e : Env) (s : State) (m : MethodId) (args : Array Value) (below : List Frame) (meth : Method) (c : Code) (Q : State → Prop), p.tables.exec = Jvm.exec → c.code = cc → c.maxLocals = n → s.vm.findClass y.cls = some m.cls → (∀ w ∈ zWL, w.before args s = true) → zK G A s → zM G V s.heap → va_S A s.heap s.heap [] →
      (∀ (H : Heap) (locs : List Loc) (pc : Nat) (ls : Array Slot), zM G V' H → va_S A s.heap H locs → decode cc pc = .ok (.areturn, 1) → W p l e rm s m args below meth c H locs 0 0 Q (F0 m pc ls (some (va_rf r)).toList)) →
      ∀ ls : Array Slot, lv_has ls n (lv_args 0 av) → W p l e rm s m args below meth c s.heap [] 0 0 Q (F0 m 0 ls [])) : zCt l G A y cc n (some (.object C)) rm av V (some (va_rf r)) V' := by
  refine Met.ofW (cc := cc) (maxL := n) (ret := (some (.object C))) hy rfl ?_
  intro p e s m args below meth c s₁ B hml hv
  obtain ⟨rfl, hK, hM⟩ := hv
  have hts := atoms_spec (ws := Cond.code y cc n ((some (.object C))) :: zWL) B.pre
  have hlocks := B.notSynchronized
  have hl := lv_entry av (n := n) hn
  rw [lg_entry_eq]
  exact body p e s m _ below meth c _ B.exec B.bytes hml (findClass_of_methodNamed B.named) (fun w h => hts w (List.mem_cons_of_mem _ h)) hK hM va_S.rf (fun H locs pc ls hM hS hd => W.aret (v := va_rf r) B.exec B.bytes B.returns (Or.inl ⟨_, rfl⟩) (va_rf_or r) (fun t ht hW => ⟨rfl, by rw [ht]; exact hM, hS.F ht⟩) hS.2.2 hd) _ hl
theorem z_ctG {l : Launch} {G : zG} {A : Nat → Prop} {y : MethodName} {b : ByteArray} {n : Nat} {ret : Option FieldType} {rm : Room} {av : List Value} {V V' : zV3} {g : Nat} {rv : Option Value} (h : zCt l G A y b n ret rm av (upG V g (V g)) rv V') : zCt l G A y b n ret rm av V rv V' := by rwa [upG_id] at h
section ZCALL
variable {p : Program} {l : Launch} {e : Env} {R : Room} {s : State} {m : MethodId} {args : Array Value} {below : List Frame} {meth : Method} {c : Code} {H : Heap} {locs : List Loc} {cells slots : Nat} {Q : State → Prop}
variable {cc : ByteArray} {pc : Nat} {ls : Array Slot} {rest st0 : List Value} {G : zG} {V V' : zV3} {A : Nat → Prop}
theorem z_run {rv : Option Value} (hr : va_Run p l e R s m args below meth c H locs cells slots 0 0 (F0 m pc ls st0) rest (fun st oc t => oc = .returned rv ∧ zM G V' t.heap ∧ va_F A st t) A) (hS : va_S A s.heap H locs)
    (kk : ∀ (H1 : Heap) (locs1 : List Loc), zM G V' H1 → va_S A s.heap H1 locs1 → W p l e R s m args below meth c H1 locs1 cells slots Q (F0 m (pc + 3) ls (rv.toList ++ rest))) : W p l e R s m args below meth c H locs cells slots Q (F0 m pc ls st0) := by
  intro T hT X
  obtain ⟨v, st₀, t, T', L, h0, X', hL, e1, e2, ⟨hv, hM, hz, hk⟩, st⟩ := hr T hT X
  cases hv
  rw [h0] at hz hk
  obtain ⟨t2, a1, b1⟩ := kk T'.heap (locs ++ L) (by rw [e1]; exact hM)
    ⟨Nat.le_trans hS.1 (by rw [e1]; exact hz), fun q h1 h2 => by rw [e1, hk q (Nat.lt_of_lt_of_le h1 hS.1) h2]; exact hS.2.1 q h1 h2, fun q hq => by
      rcases List.mem_append.mp hq with h | h
      · exact hS.2.2 q h
      · exact hL q h⟩ T' rfl X'
  exact ⟨t2, st t2 a1, b1⟩
theorem z_callV {y : MethodName} {bytes : ByteArray} {maxL n index nL : Nat} {ret : Option FieldType} {rm : Room} {own C : String} {b : Addr} {As : List Value} {rv : Option Value} (hx : p.tables.exec = Jvm.exec) (hb : c.code = cc) (hml : c.maxLocals = nL) (hown : s.vm.findClass own = some m.cls) (hL : ∀ w ∈ zWL, w.before args s = true) (hK : zK G A s) (hM : zM G V H) (hS : va_S A s.heap H locs)
    (hc : zCt l G A y bytes maxL ret rm (.ref b :: As) V rv V') (hG : GoodIn zWL (wsV own index C y (.code y bytes maxL ret :: zWL))) (hd : y.cls = C ∧ y.cls ≠ "java/lang/invoke/MethodHandle" ∧ y.cls ≠ "java/lang/invoke/VarHandle" ∧ (parseMethodDescriptor y.desc).map (fun d => d.parameters.length) = some n) (hrm : rm.cells = 0 ∧ rm.slots = 0) (hR : rm.frames + 1 ≤ R.frames ∧ 8 + (maxL + 11) + rm.locals ≤ R.locals)
    (hrc : ∃ cell : Cell, H[b]? = some cell ∧ cell.vm.isStatics = false ∧ s.vm.findClass C = some cell.cls) (hn : As.length = n) (hls : ls.size = nL) (hst : st0 = As.reverse ++ .ref b :: rest) (hW : (rest.map fun v => v.category).sum ≤ 8) (hdg : decode cc pc = .ok (.invokevirtual index, 3)) (hf : cells ≤ R.cells ∧ slots ≤ R.slots)
    (kk : ∀ (H1 : Heap) (locs1 : List Loc), zM G V' H1 → va_S A s.heap H1 locs1 → W p l e R s m args below meth c H1 locs1 cells slots Q (F0 m (pc + 3) ls (rv.toList ++ rest))) : W p l e R s m args below meth c H locs cells slots Q (F0 m pc ls st0) :=
  z_run (va_runV (As := As) (rest := rest) ⟨hx, hb, hml, hown, hL⟩ hc (cwV n hL hG rfl hrm.1 hrm.2 hd hR) ⟨fun a U g mk q => ⟨q.1, q.2.1.blind, q.2.2⟩, hrc, fun U hU hW => ⟨rfl, hK.warm hS hU hW, by rw [hU]; exact hM⟩⟩ rfl hn hls hst (lv_room hW) hdg hf) hS kk
theorem z_callS {y : MethodName} {bytes : ByteArray} {maxL n index nL : Nat} {ret : Option FieldType} {rm : Room} {own : String} {As : List Value} {rv : Option Value} (hx : p.tables.exec = Jvm.exec) (hb : c.code = cc) (hml : c.maxLocals = nL) (hown : s.vm.findClass own = some m.cls) (hL : ∀ w ∈ zWL, w.before args s = true) (hK : zK G A s) (hM : zM G V H) (hS : va_S A s.heap H locs)
    (hc : zCt l G A y bytes maxL ret rm As V rv V') (hG : GoodIn zWL (va_wsS own index y (.code y bytes maxL ret :: zWL))) (hd : y.cls ≠ "java/lang/invoke/MethodHandle" ∧ y.cls ≠ "java/lang/invoke/VarHandle" ∧ (parseMethodDescriptor y.desc).map (fun d => d.parameters.length) = some n) (hrm : rm.cells = 0 ∧ rm.slots = 0) (hR : rm.frames + 1 ≤ R.frames ∧ 8 + (maxL + 11) + rm.locals ≤ R.locals)
    (hn : As.length = n) (hls : ls.size = nL) (hst : st0 = As.reverse ++ rest) (hW : (rest.map fun v => v.category).sum ≤ 8) (hdg : decode cc pc = .ok (.invokestatic index, 3)) (hf : cells ≤ R.cells ∧ slots ≤ R.slots)
    (kk : ∀ (H1 : Heap) (locs1 : List Loc), zM G V' H1 → va_S A s.heap H1 locs1 → W p l e R s m args below meth c H1 locs1 cells slots Q (F0 m (pc + 3) ls (rv.toList ++ rest))) : W p l e R s m args below meth c H locs cells slots Q (F0 m pc ls st0) :=
  z_run (va_runS (As := As) (rest := rest) ⟨hx, hb, hml, hown, hL⟩ hc (va_cwS n hL hG rfl hrm.1 hrm.2 hd hR) ⟨fun a U g mk q => ⟨q.1, q.2.1.blind, q.2.2⟩, fun U hU hW => ⟨rfl, hK.warm hS hU hW, by rw [hU]; exact hM⟩⟩ rfl hn hls hst (lv_room hW) hdg hf) hS kk
theorem z_callN {y : MethodName} {bytes : ByteArray} {maxL n index nL : Nat} {ret : Option FieldType} {rm : Room} {own C host : String} {b : Addr} {As : List Value} {rv : Option Value} (hx : p.tables.exec = Jvm.exec) (hb : c.code = cc) (hml : c.maxLocals = nL) (hown : s.vm.findClass own = some m.cls) (hL : ∀ w ∈ zWL, w.before args s = true) (hK : zK G A s) (hM : zM G V H) (hS : va_S A s.heap H locs)
    (hc : zCt l G A y bytes maxL ret rm (.ref b :: As) V rv V') (hcw : Cond.code y bytes maxL ret ∈ zWL) (h2 : Cond.instanceMethod y ∈ zWL) (h3 : Cond.selects C y y ∈ zWL) (h4 : Cond.initialized y.cls ∈ zWL) (q : Nat) (hlink : zNM[q]? = some (own, index, y, host)) (hd : y.cls ≠ "java/lang/invoke/MethodHandle" ∧ y.cls ≠ "java/lang/invoke/VarHandle" ∧ (parseMethodDescriptor y.desc).map (fun d => d.parameters.length) = some n) (hrm : rm.cells = 0 ∧ rm.slots = 0) (hR : rm.frames + 1 ≤ R.frames ∧ 8 + (maxL + 11) + rm.locals ≤ R.locals)
    (hrc : ∃ cell : Cell, H[b]? = some cell ∧ cell.vm.isStatics = false ∧ s.vm.findClass C = some cell.cls) (hn : As.length = n) (hls : ls.size = nL) (hst : st0 = As.reverse ++ .ref b :: rest) (hW : (rest.map fun v => v.category).sum ≤ 8) (hdg : decode cc pc = .ok (.invokevirtual index, 3)) (hf : cells ≤ R.cells ∧ slots ≤ R.slots)
    (kk : ∀ (H1 : Heap) (locs1 : List Loc), zM G V' H1 → va_S A s.heap H1 locs1 → W p l e R s m args below meth c H1 locs1 cells slots Q (F0 m (pc + 3) ls (rv.toList ++ rest))) : W p l e R s m args below meth c H locs cells slots Q (F0 m pc ls st0) :=
  z_run (va_runVN (As := As) (rest := rest) (host := host) ⟨hx, hb, hml, hown, hL⟩ hc ⟨va_cnB n hL (zw_gc hcw) rfl hrm.1 hrm.2 (hK.2.2.1.2 _ (List.mem_of_getElem? hlink)) (hL _ h4) hd hR, hL _ h2, hL _ h3⟩ ⟨fun a U g mk q => ⟨q.1, q.2.1.blind, q.2.2⟩, hrc, fun U hU hW => ⟨rfl, hK.warm hS hU hW, by rw [hU]; exact hM⟩⟩ rfl hn hls hst (lv_room hW) hdg hf) hS kk
end ZCALL
