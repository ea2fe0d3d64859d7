theorem dm_0 {g i : Nat} (hg : g < 7) (hi : i = 0) : zdom 0 g i := ⟨hg, hi⟩
theorem dm_1 {g i : Nat} (hg : g < 7) (hi : i = 0) : zdom 1 g i := ⟨hg, hi⟩
theorem dm_2 {g i : Nat} (hg : g < 7) (hi : i = 0) : zdom 2 g i := ⟨hg, hi⟩
theorem dm_3 {g i : Nat} (hg : g < 7) (hi : i < 2) : zdom 3 g i := ⟨hg, hi⟩
theorem dm_4 {g i : Nat} (hg : g < 7) (hi : i = 0) : zdom 4 g i := ⟨hg, hi⟩
theorem dm_5 {g i : Nat} (hg : g < 7) (hi : i = 0) : zdom 5 g i := ⟨hg, hi⟩
theorem dm_6 {g i : Nat} (hg : g < 7) (hi : i < 2) : zdom 6 g i := ⟨hg, hi⟩
theorem dm_7 {g i : Nat} (hg : g < 7) (hi : i < 2) : zdom 7 g i := ⟨hg, hi⟩
theorem dm_8 {g i : Nat} (hg : g < 7) (hi : i < 12) : zdom 8 g i := ⟨hg, hi⟩
theorem dm_9 {g i : Nat} (hg : g < 7) (hi : i < 10) : zdom 9 g i := ⟨hg, hi⟩
theorem dm_10 : zdom 10 0 0 := ⟨by decide, rfl, rfl⟩
theorem dm_11 : zdom 11 0 0 := ⟨by decide, rfl, rfl⟩
theorem dm_12 : zdom 12 0 0 := ⟨by decide, rfl, rfl⟩
theorem dm_13 : zdom 13 0 0 := ⟨by decide, rfl, rfl⟩
theorem dm_14 : zdom 14 0 0 := ⟨by decide, rfl, rfl⟩
theorem dm_15 : zdom 15 0 0 := ⟨by decide, rfl, rfl⟩
theorem dm_16 : zdom 16 0 0 := ⟨by decide, rfl, rfl⟩
theorem dm_17 {i : Nat} (hi : i < 6) : zdom 17 0 i := ⟨rfl, hi⟩
theorem z_CFI {l : Launch} {G : zG} {A : Nat → Prop} {y : MethodName} {cc : ByteArray} {n : Nat} {rm : Room} {av : List Value} {V V' : zV3} {r : Int32} (hy : plainFor y = true) (hn : (lg_sl av).length ≤ n)
    (body : ∀ (p : Program) (e : Env) (s : State) (m : MethodId) (args : Array Value) (below : List Frame) (meth : Method) (c : Code) (Q : State → Prop), p.tables.exec = Jvm.exec → c.code = cc → c.maxLocals = n → s.vm.findClass y.cls = some m.cls → (∀ w ∈ zWL, w.before args s = true) → zK G A s → zM G V s.heap → va_S A s.heap s.heap [] →
      (∀ (H : Heap) (locs : List Loc) (pc : Nat) (ls : Array Slot), zM G V' H → va_S A s.heap H locs → decode cc pc = .ok (.ireturn, 1) → W p l e rm s m args below meth c H locs 0 0 Q (F0 m pc ls (some (.int r)).toList)) →
      ∀ ls : Array Slot, lv_has ls n (lv_args 0 av) → W p l e rm s m args below meth c s.heap [] 0 0 Q (F0 m 0 ls [])) : zCt l G A y cc n (some .int) rm av V (some (.int r)) V' := by
  refine va_MetF (cc := cc) (maxL := n) (ret := (some .int)) hy rfl ?_
  intro p e s m args below meth c s₁ B hml hv
  obtain ⟨rfl, hK, hM⟩ := hv
  have hts := atoms_spec (ws := Cond.code y cc n ((some .int)) :: zWL) B.pre
  have hlocks := B.notSynchronized
  have hl := lv_entry av (n := n) hn
  rw [lg_entry_eq]
  exact body p e s m _ below meth c _ B.exec B.bytes hml (findClass_of_methodNamed B.named) (fun w h => hts w (List.mem_cons_of_mem _ h)) hK hM va_S.rf (fun H locs pc ls hM hS hd => W.iret (v := r) B.exec B.bytes B.returns (fun t ht hW => ⟨rfl, by rw [ht]; exact hM, hS.F ht⟩) hS.2.2 hd) _ hl
theorem z_CFZ {l : Launch} {G : zG} {A : Nat → Prop} {y : MethodName} {cc : ByteArray} {n : Nat} {rm : Room} {av : List Value} {V V' : zV3} {r : Int32} {ty : FieldType} (hy : plainFor y = true) (hn : (lg_sl av).length ≤ n)
    (body : ∀ (p : Program) (e : Env) (s : State) (m : MethodId) (args : Array Value) (below : List Frame) (meth : Method) (c : Code) (Q : State → Prop), p.tables.exec = Jvm.exec → c.code = cc → c.maxLocals = n → s.vm.findClass y.cls = some m.cls → (∀ w ∈ zWL, w.before args s = true) → zK G A s → zM G V s.heap → va_S A s.heap s.heap [] →
      (∀ (H : Heap) (locs : List Loc) (pc : Nat) (ls : Array Slot), narrow ty (.int r) = .int r → zM G V' H → va_S A s.heap H locs → decode cc pc = .ok (.ireturn, 1) → W p l e rm s m args below meth c H locs 0 0 Q (F0 m pc ls (some (.int r)).toList)) →
      ∀ ls : Array Slot, lv_has ls n (lv_args 0 av) → W p l e rm s m args below meth c s.heap [] 0 0 Q (F0 m 0 ls [])) : zCt l G A y cc n (some ty) rm av V (some (.int r)) V' := by
  refine va_MetF (cc := cc) (maxL := n) (ret := (some ty)) hy rfl ?_
  intro p e s m args below meth c s₁ B hml hv
  obtain ⟨rfl, hK, hM⟩ := hv
  have hts := atoms_spec (ws := Cond.code y cc n ((some ty)) :: zWL) B.pre
  have hlocks := B.notSynchronized
  have hl := lv_entry av (n := n) hn
  rw [lg_entry_eq]
  exact body p e s m _ below meth c _ B.exec B.bytes hml (findClass_of_methodNamed B.named) (fun w h => hts w (List.mem_cons_of_mem _ h)) hK hM va_S.rf (fun H locs pc ls hnr hM hS hd => W.zret (v := r) B.exec B.bytes B.returns hnr (fun t ht hW => ⟨rfl, by rw [ht]; exact hM, hS.F ht⟩) hS.2.2 hd) _ hl
theorem z_CFV {l : Launch} {G : zG} {A : Nat → Prop} {y : MethodName} {cc : ByteArray} {n : Nat} {rm : Room} {av : List Value} {V V' : zV3}  (hy : plainFor y = true) (hn : (lg_sl av).length ≤ n)
    (body : ∀ (p : Program) (e : Env) (s : State) (m : MethodId) (args : Array Value) (below : List Frame) (meth : Method) (c : Code) (Q : State → Prop), p.tables.exec = Jvm.exec → c.code = cc → c.maxLocals = n → s.vm.findClass y.cls = some m.cls → (∀ w ∈ zWL, w.before args s = true) → zK G A s → zM G V s.heap → va_S A s.heap s.heap [] →
      (∀ (H : Heap) (locs : List Loc) (pc : Nat) (ls : Array Slot), zM G V' H → va_S A s.heap H locs → decode cc pc = .ok (.return_, 1) → W p l e rm s m args below meth c H locs 0 0 Q (F0 m pc ls (none : Option Value).toList)) →
      ∀ ls : Array Slot, lv_has ls n (lv_args 0 av) → W p l e rm s m args below meth c s.heap [] 0 0 Q (F0 m 0 ls [])) : zCt l G A y cc n none rm av V (none : Option Value) V' := by
  refine va_MetF (cc := cc) (maxL := n) (ret := none) hy rfl ?_
  intro p e s m args below meth c s₁ B hml hv
  obtain ⟨rfl, hK, hM⟩ := hv
  have hts := atoms_spec (ws := Cond.code y cc n (none) :: zWL) B.pre
  have hlocks := B.notSynchronized
  have hl := lv_entry av (n := n) hn
  rw [lg_entry_eq]
  exact body p e s m _ below meth c _ B.exec B.bytes hml (findClass_of_methodNamed B.named) (fun w h => hts w (List.mem_cons_of_mem _ h)) hK hM va_S.rf (fun H locs pc ls hM hS hd => W.vret B.exec B.bytes B.returns (fun t ht hW => ⟨rfl, by rw [ht]; exact hM, hS.F ht⟩) hS.2.2 hd) _ hl
theorem z_CFL {l : Launch} {G : zG} {A : Nat → Prop} {y : MethodName} {cc : ByteArray} {n : Nat} {rm : Room} {av : List Value} {V V' : zV3} {r : Int64} (hy : plainFor y = true) (hn : (lg_sl av).length ≤ n)
    (body : ∀ (p : Program) (e : Env) (s : State) (m : MethodId) (args : Array Value) (below : List Frame) (meth : Method) (c : Code) (Q : State → Prop), p.tables.exec = Jvm.exec → c.code = cc → c.maxLocals = n → s.vm.findClass y.cls = some m.cls → (∀ w ∈ zWL, w.before args s = true) → zK G A s → zM G V s.heap → va_S A s.heap s.heap [] →
      (∀ (H : Heap) (locs : List Loc) (pc : Nat) (ls : Array Slot), zM G V' H → va_S A s.heap H locs → decode cc pc = .ok (.lreturn, 1) → W p l e rm s m args below meth c H locs 0 0 Q (F0 m pc ls (some (.long r)).toList)) →
      ∀ ls : Array Slot, lv_has ls n (lv_args 0 av) → W p l e rm s m args below meth c s.heap [] 0 0 Q (F0 m 0 ls [])) : zCt l G A y cc n (some .long) rm av V (some (.long r)) V' := by
  refine va_MetF (cc := cc) (maxL := n) (ret := (some .long)) hy rfl ?_
  intro p e s m args below meth c s₁ B hml hv
  obtain ⟨rfl, hK, hM⟩ := hv
  have hts := atoms_spec (ws := Cond.code y cc n ((some .long)) :: zWL) B.pre
  have hlocks := B.notSynchronized
  have hl := lv_entry av (n := n) hn
  rw [lg_entry_eq]
  exact body p e s m _ below meth c _ B.exec B.bytes hml (findClass_of_methodNamed B.named) (fun w h => hts w (List.mem_cons_of_mem _ h)) hK hM va_S.rf (fun H locs pc ls hM hS hd => W.lret (v := r) B.exec B.bytes B.returns (fun t ht hW => ⟨rfl, by rw [ht]; exact hM, hS.F ht⟩) hS.2.2 hd) _ hl
theorem z_CFQ {l : Launch} {G : zG} {A : Nat → Prop} {y : MethodName} {cc : ByteArray} {n : Nat} {rm : Room} {av : List Value} {V V' : zV3} {r : Option Nat} {C : String} (hy : plainFor y = true) (hn : (lg_sl av).length ≤ n)
    (body : ∀ (p : Program) (e : Env) (s : State) (m : MethodId) (args : Array Value) (below : List Frame) (meth : Method) (c : Code) (Q : State → Prop), p.tables.exec = Jvm.exec → c.code = cc → c.maxLocals = n → s.vm.findClass y.cls = some m.cls → (∀ w ∈ zWL, w.before args s = true) → zK G A s → zM G V s.heap → va_S A s.heap s.heap [] →
      (∀ (H : Heap) (locs : List Loc) (pc : Nat) (ls : Array Slot), zM G V' H → va_S A s.heap H locs → decode cc pc = .ok (.areturn, 1) → W p l e rm s m args below meth c H locs 0 0 Q (F0 m pc ls (some (va_rf r)).toList)) →
      ∀ ls : Array Slot, lv_has ls n (lv_args 0 av) → W p l e rm s m args below meth c s.heap [] 0 0 Q (F0 m 0 ls [])) : zCt l G A y cc n (some (.object C)) rm av V (some (va_rf r)) V' := by
  refine va_MetF (cc := cc) (maxL := n) (ret := (some (.object C))) hy rfl ?_
  intro p e s m args below meth c s₁ B hml hv
  obtain ⟨rfl, hK, hM⟩ := hv
  have hts := atoms_spec (ws := Cond.code y cc n ((some (.object C))) :: zWL) B.pre
  have hlocks := B.notSynchronized
  have hl := lv_entry av (n := n) hn
  rw [lg_entry_eq]
  exact body p e s m _ below meth c _ B.exec B.bytes hml (findClass_of_methodNamed B.named) (fun w h => hts w (List.mem_cons_of_mem _ h)) hK hM va_S.rf (fun H locs pc ls hM hS hd => W.aret (v := va_rf r) B.exec B.bytes B.returns (Or.inl ⟨_, rfl⟩) (va_rf_or r) (fun t ht hW => ⟨rfl, by rw [ht]; exact hM, hS.F ht⟩) hS.2.2 hd) _ hl
