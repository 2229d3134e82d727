/-! ===== methods with a table of handlers; the law's own calls ===== -/
def zNcs (X : zX) : Prop := ∀ j k : Nat, (j = 1 ∨ j = 2 ∨ j = 3) → (k = 1 ∨ k = 2 ∨ k = 3) → j ≠ k → va_Nc (zXn k) (zXn j) X.1
def zCTw (X : zX) (l : Launch) (y : MethodName) (b : ByteArray) (n : Nat) (r : Option FieldType) (hh : List (Nat × Nat × Nat × Nat)) (fr lo mc ms : Nat) (M : zM) (as : List Value) (P : Option Value → zM → Prop) (PX : Nat → zM → Prop) : Prop :=
  vx_Met l y [.codeWith y b n r hh] (zRm fr lo mc ms) (zPc X M as) (zQc X P) (zXc X PX) mc ms (zBase X)
theorem z_entryW {X : zX} {l : Launch} (E : zEnv X l) {y : MethodName} {b : ByteArray} {n : Nat} {r : Option FieldType} {hh : List (Nat × Nat × Nat × Nat)} {fr lo mc ms : Nat} {M : zM} {as : List Value} {P : Option Value → zM → Prop} {PX : Nat → zM → Prop} (hy : plainName y.cls = true) (hcw : Cond.codeWith y b n r hh ∈ zG)
    (body : ∀ (p : Program) (e : Env) (s : State) (m : MethodId) (args : Array Value) (below : List Frame) (meth : Method) (c : Code), zCx X p l s m args meth c y.cls y.name b n → meth.sig.returnType = r → c.exceptionTable.toList = tableOf hh → zWk X s M s.heap [] →
      W p l e (zRm fr lo mc ms) s m args below meth c s.heap [] 0 0 (vx_MQ below (zQc X P) (zXc X PX) args s mc ms (zBase X)) (entryFrame m as.toArray n)) : zCTw X l y b n r hh fr lo mc ms M as P PX := by
  refine vx_ofWH (cc := b) (maxL := n) (ret := r) (hh := hh) hy rfl ?_
  intro p e s m args below meth c s₁ B hml hP
  obtain ⟨rfl, hW, hR⟩ := hP
  obtain ⟨A, hA⟩ := E.2.2.1
  have hts := z_words hW hA as.toArray
  exact body p e s m _ below meth c ⟨⟨B.exec, B.bytes, hml, findClass_of_methodNamed B.named, hts⟩, B.notSynchronized, (name_of_methodNamed B.named B.method).1, hW, E, hR.1, hR.2.1⟩ B.returns (vx_table (x := y) B (hts _ hcw)) ⟨va_S.rf, hR⟩
def zCsW (own : String) (idx : Nat) (y : MethodName) (b : ByteArray) (n : Nat) (r : Option FieldType) (hh : List (Nat × Nat × Nat × Nat)) (na : Nat) : Prop :=
  (Cond.methodLink own idx y ∈ zG ∧ Cond.static y ∈ zG ∧ Cond.initialized y.cls ∈ zG ∧ Cond.codeWith y b n r hh ∈ zG) ∧ y.cls ≠ "java/lang/invoke/MethodHandle" ∧ y.cls ≠ "java/lang/invoke/VarHandle" ∧ (parseMethodDescriptor y.desc).map (fun d => d.parameters.length) = some na
section ZL
variable {X : zX} {p : Program} {l : Launch} {e : Env} {R : Room} {s : State} {m : MethodId} {args : Array Value} {below : List Frame} {meth : Method} {c : Code} {H : Heap} {locs : List Loc} {cells slots : Nat} {Q : State → Prop}
variable {cc : ByteArray} {pc nL idx : Nat} {ls : Array Slot} {rest : List Value} {own nm : String} {M : zM} {a ci k : Nat}
theorem z_callSX (C : zCx X p l s m args meth c own nm cc nL) (I : zWk X s M H locs) {y : MethodName} {b : ByteArray} {n na : Nat} {r : Option FieldType} {hh : List (Nat × Nat × Nat × Nat)} {fr lo mc ms : Nat} {as : List Value} {P : Option Value → zM → Prop} (hM : zCTw X l y b n r hh fr lo mc ms M as P (fun _ _ => False)) (cv : zCsW own idx y b n r hh na) (hn : as.length = na) {st : List Value} (hst : st = as.reverse ++ rest) (hsize : ls.size = nL) (hcat : (rest.map fun v => v.category).sum ≤ 8) (hR : fr + 1 ≤ R.frames ∧ 8 + (n + 11) + lo ≤ R.locals) (hf : cells + mc ≤ R.cells ∧ slots + ms ≤ R.slots) (d : decode cc pc = .ok (.invokestatic idx, 3))
    (kk : ∀ (v : Option Value) (M1 : zM) (H1 : Heap) (locs1 : List Loc), zWk X s M1 H1 locs1 → P v M1 → W p l e R s m args below meth c H1 locs1 (cells + mc) (slots + ms) Q (F0 m (pc + 3) ls (v.toList ++ rest))) : W p l e R s m args below meth c H locs cells slots Q (F0 m pc ls st) := by
  obtain ⟨⟨w1, w2, w3, w4⟩, hd⟩ := cv
  have hG : GoodIn zG (va_wsS own idx y [.codeWith y b n r hh]) := z_good fun w hw => by
    simp only [va_wsS, List.cons_append, List.nil_append, List.mem_cons, List.not_mem_nil, or_false] at hw
    rcases hw with rfl | rfl | rfl | rfl
    · exact ⟨w1, rfl⟩
    · exact ⟨w2, rfl⟩
    · exact ⟨w3, rfl⟩
    · exact ⟨w4, rfl⟩
  subst hst
  exact z_run (g := F0 m pc ls []) I (vx_runSX (g := F0 m pc ls (as.reverse ++ rest)) C.1 hM (vx_cwSW na C.1.2.2.2.2 hG rfl rfl rfl hd hR) ⟨zPc_blind, z_pre C I _⟩ rfl hn hsize rfl (lv_room hcat) d hf) (fun k M1 H1 locs1 ce q9 _ hF => hF.elim) kk
theorem z_catch (C : zCx X p l s m args meth c own nm cc nL) (EN : zNcs X) {hh : List (Nat × Nat × Nat × Nat)} (htab : c.exceptionTable.toList = tableOf hh) (k : Nat) (hk : k = 1 ∨ k = 2 ∨ k = 3) (pre : List (Nat × Nat × Nat × Nat)) (x : Nat × Nat × Nat × Nat) (suf : List (Nat × Nat × Nat × Nat)) (hs : hh = pre ++ x :: suf)
    (hpre : ∀ z ∈ pre, z.2.2.2 ≠ 0 ∧ ∃ j, (j = 1 ∨ j = 2 ∨ j = 3) ∧ j ≠ k ∧ Cond.classLink own z.2.2.2 (zXn j) ∈ zG) (hx : covers ⟨x.1, x.2.1, x.2.2.1, x.2.2.2⟩ pc = true) (h0 : x.2.2.2 ≠ 0) (w1 : Cond.classLink own x.2.2.2 (zXn k) ∈ zG) (w2 : Cond.castable (zXn k) (zXn k) ∈ zG) {ce : Cell} {q : Addr} (hcell : H[q]? = some ce) (hv : ce.vm = .none) (hcl : s.vm.findClass (zXn k) = some ce.cls)
    (kk : W p l e R s m args below meth c H locs cells slots Q (F0 m x.2.2.1 ls [.ref q])) : vx_W p l e R s m args below meth c H locs cells slots Q (F0 m pc ls rest) q := by
  have hsplit : c.exceptionTable.toList = tableOf pre ++ (⟨x.1, x.2.1, x.2.2.1, x.2.2.2⟩ : ExceptionTableEntry) :: tableOf suf := by
    rw [htab, hs]
    simp [tableOf]
  refine vx_catch C.1.2.2.2.1 (tableOf pre) ⟨x.1, x.2.1, x.2.2.1, x.2.2.2⟩ (tableOf suf) hsplit (fun z hz => ?_) hx h0 (z_word C.1 w1) (z_word C.1 w2) hcell hv hcl kk
  obtain ⟨y, hy, rfl⟩ := List.mem_map.mp hz
  obtain ⟨g1, j, g2, g3, g4⟩ := hpre y hy
  exact Or.inr ⟨g1, zXn j, z_word C.1 g4, (EN j k g2 hk g3).moved C.2.2.2.1.alike⟩
end ZL
