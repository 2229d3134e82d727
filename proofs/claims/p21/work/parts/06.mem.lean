/-! ===== the memory of the class, the reference and the law as one map ===== -/
/-- what a cell holds: a row of ints or flags (kind, length, values); a row of references; a row of longs; an object (number of its class in vwCl, fields); ArrayList's static empty row; the script -/
abbrev zE : Type := (Nat × Nat × (Nat → Int32)) ⊕ (Nat × (Nat → Option Nat)) ⊕ (Nat × (Nat → Int64)) ⊕ (Nat × List Value) ⊕ Unit ⊕ (Nat × (Nat → Int32))
abbrev zM : Type := Nat → Option zE
abbrev zI (t n : Nat) (f : Nat → Int32) : zE := Sum.inl (t, n, f)
abbrev zA (n : Nat) (f : Nat → Option Nat) : zE := Sum.inr (Sum.inl (n, f))
abbrev zJ (n : Nat) (f : Nat → Int64) : zE := Sum.inr (Sum.inr (Sum.inl (n, f)))
abbrev zO (ci : Nat) (fs : List Value) : zE := Sum.inr (Sum.inr (Sum.inr (Sum.inl (ci, fs))))
abbrev zN : zE := Sum.inr (Sum.inr (Sum.inr (Sum.inr (Sum.inl ()))))
abbrev zS (n : Nat) (f : Nat → Int32) : zE := Sum.inr (Sum.inr (Sum.inr (Sum.inr (Sum.inr (n, f)))))
def zUp (M : zM) (a : Nat) (e : zE) : zM := fun q => if q = a then some e else M q
theorem zUp_same (M : zM) (a : Nat) (e : zE) : zUp M a e a = some e := if_pos rfl
theorem zUp_ne (M : zM) {a q : Nat} (e : zE) (h : q ≠ a) : zUp M a e q = M q := if_neg h
/-- the state at the law's start, the classes' numbers and places, the rows' classes -/
abbrev zX : Type := State × va_G × (Nat → ClassId)
def zBase (X : zX) : Nat → Prop := fun q => X.1.heap.size ≤ q
def zTys (c : Nat → ClassId) : List (ClassId × FieldType) := [(c 0, .int), (c 1, .int), (c 2, .object "java/lang/Object")]
def zAt (X : zX) (a : Nat) (e : zE) (H : Heap) : Prop := match e with
  | .inl (t, n, f) => (t < 2 ∧ zBase X a) ∧ H[a]? = some (vp_cell (X.2.2 t) (n, .inl f))
  | .inr (.inl (n, f)) => zBase X a ∧ H[a]? = some (vp_cell (X.2.2 2) (n, .inr (.inr (.inr (.inr f)))))
  | .inr (.inr (.inl (n, f))) => zBase X a ∧ H[a]? = some (vp_cell (X.2.2 3) (n, .inr (.inl f)))
  | .inr (.inr (.inr (.inl (k, fs)))) => zBase X a ∧ va_at X.2.1 vwCl (a, .inr (k, fs)) H
  | .inr (.inr (.inr (.inr (.inl ())))) => va_T (.object "java/lang/Object") a 0 (fun _ => .null) (zBase X) X.1 X.1.heap ∧ va_Z "java/util/ArrayList" "DEFAULTCAPACITY_EMPTY_ELEMENTDATA" "[Ljava/lang/Object;" (.ref a) (zBase X) X.1 X.1.heap
  | .inr (.inr (.inr (.inr (.inr (n, f))))) => va_X a n f X.1 X.1.heap ∧ ¬ zBase X a
def zRep (X : zX) (M : zM) (H : Heap) : Prop := X.1.heap.size ≤ H.size ∧ (∀ q : Nat, q < X.1.heap.size → H[q]? = X.1.heap[q]?) ∧ (∀ (a : Nat) (e : zE), M a = some e → zAt X a e H) ∧ ∃ a, M a = some zN ∧ ∀ b, M b = some zN → b = a
def zWk (X : zX) (s : State) (M : zM) (H : Heap) (locs : List Loc) : Prop := va_S (zBase X) s.heap H locs ∧ zRep X M H
theorem zAt.kept {X : zX} {a : Nat} {e : zE} {H H1 : Heap} (h : zAt X a e H) (hq : H1[a]? = H[a]?) : zAt X a e H1 := by
  obtain ⟨t, n, f⟩ | ⟨n, f⟩ | ⟨n, f⟩ | ⟨k, fs⟩ | u | ⟨n, f⟩ := e
  · exact ⟨h.1, hq.trans h.2⟩
  · exact ⟨h.1, hq.trans h.2⟩
  · exact ⟨h.1, hq.trans h.2⟩
  · exact ⟨h.1, h.2.kept hq⟩
  · exact h
  · exact h
theorem zAt.lt {X : zX} {a : Nat} {e : zE} {H : Heap} (h : zAt X a e H) (hs : X.1.heap.size ≤ H.size) : a < H.size := by
  obtain ⟨t, n, f⟩ | ⟨n, f⟩ | ⟨n, f⟩ | ⟨k, fs⟩ | u | ⟨n, f⟩ := e
  · exact (Array.getElem?_eq_some_iff.mp h.2).1
  · exact (Array.getElem?_eq_some_iff.mp h.2).1
  · exact (Array.getElem?_eq_some_iff.mp h.2).1
  · exact va_at.lt h.2
  · obtain ⟨⟨cell, h1, -⟩, -⟩ := h
    exact Nat.lt_of_lt_of_le (Array.getElem?_eq_some_iff.mp h1).1 hs
  · obtain ⟨⟨cell, h1, -⟩, -⟩ := h
    exact Nat.lt_of_lt_of_le (Array.getElem?_eq_some_iff.mp h1).1 hs
theorem zRep.lt {X : zX} {M : zM} {H : Heap} (h : zRep X M H) {a : Nat} {e : zE} (ha : M a = some e) : a < H.size := (h.2.2.1 a e ha).lt h.1
theorem zRep.new {X : zX} {M : zM} {H : Heap} (h : zRep X M H) {q : Nat} (hq : H.size ≤ q) : M q = none := by
  cases hM : M q with
  | none => rfl
  | some e => exact absurd (h.lt hM) (Nat.not_lt.mpr hq)
theorem zRep.up {X : zX} {M : zM} {H H1 : Heap} (h : zRep X M H) {a : Nat} {e0 e : zE} (ha : M a = some e0) (h0 : e0 ≠ zN) (h1 : e ≠ zN) (hb : zBase X a) (z : H1.size = H.size) (o : ∀ q : Nat, q ≠ a → H1[q]? = H[q]?) (hat : zAt X a e H1) : zRep X (zUp M a e) H1 := by
  obtain ⟨k1, k2, k3, k, k4, k5⟩ := h
  refine ⟨by rw [z]; exact k1, fun q hq => ?_, fun q e' hq => ?_, k, ?_, fun b hb' => ?_⟩
  · have hne : q ≠ a := fun e => by subst e; exact absurd hq (Nat.not_lt.mpr hb)
    rw [o q hne]; exact k2 q hq
  · by_cases hqa : q = a
    · subst hqa
      rw [zUp_same] at hq
      cases hq
      exact hat
    · rw [zUp_ne M e hqa] at hq
      exact (k3 q e' hq).kept (o q hqa)
  · have hka : k ≠ a := fun e => by subst e; rw [ha] at k4; exact h0 (Option.some.inj k4)
    rw [zUp_ne M e hka]; exact k4
  · by_cases hba : b = a
    · subst hba
      rw [zUp_same] at hb'
      exact absurd (Option.some.inj hb') h1
    · rw [zUp_ne M e hba] at hb'
      exact k5 b hb'
theorem zRep.push {X : zX} {M : zM} {H H1 : Heap} (h : zRep X M H) {e : zE} (h1 : e ≠ zN) (z : H1.size = H.size + 1) (o : ∀ q : Nat, q < H.size → H1[q]? = H[q]?) (hat : zAt X H.size e H1) : zRep X (zUp M H.size e) H1 := by
  have hn := h.new (Nat.le_refl H.size)
  obtain ⟨k1, k2, k3, k, k4, k5⟩ := id h
  refine ⟨by omega, fun q hq => ?_, fun q e' hq => ?_, k, ?_, fun b hb' => ?_⟩
  · rw [o q (by omega)]; exact k2 q hq
  · by_cases hqa : q = H.size
    · subst hqa
      rw [zUp_same] at hq
      cases hq
      exact hat
    · rw [zUp_ne M e hqa] at hq
      exact (k3 q e' hq).kept (o q (h.lt hq))
  · have hka : k ≠ H.size := fun e => by subst e; rw [hn] at k4; cases k4
    rw [zUp_ne M e hka]; exact k4
  · by_cases hba : b = H.size
    · subst hba
      rw [zUp_same] at hb'
      exact absurd (Option.some.inj hb') h1
    · rw [zUp_ne M e hba] at hb'
      exact k5 b hb'
theorem zWk.put {X : zX} {s : State} {M : zM} {H H1 : Heap} {locs : List Loc} (I : zWk X s M H locs) {a k : Nat} {e0 e : zE} (ha : M a = some e0) (h0 : e0 ≠ zN) (h1 : e ≠ zN) (hb : zBase X a) (z : H1.size = H.size) (o : ∀ q : Nat, q ≠ a → H1[q]? = H[q]?) (hat : zAt X a e H1) : zWk X s (zUp M a e) H1 (locs ++ [⟨a, k⟩]) :=
  ⟨I.1.put z o hb, I.2.up ha h0 h1 hb z o hat⟩
theorem zWk.new {X : zX} {s : State} {M : zM} {H H1 : Heap} {locs : List Loc} (I : zWk X s M H locs) {e : zE} (h1 : e ≠ zN) (z : H1.size = H.size + 1) (o : ∀ q : Nat, q < H.size → H1[q]? = H[q]?) (hat : zAt X H.size e H1) : zWk X s (zUp M H.size e) H1 locs :=
  ⟨⟨Nat.le_trans I.1.1 (by omega), fun q h1 h2 => (o q (Nat.lt_of_lt_of_le h1 I.1.1)).trans (I.1.2.1 q h1 h2), I.1.2.2⟩, I.2.push h1 z o hat⟩
/-! words -/
def zgood (w : Cond) : Bool := goodWord w || (w.onTables && w.keepsFace)
def zG : List Cond := lw_tbl.filter zgood
theorem z_g {w : Cond} (i : Nat) (h : lw_tbl[i]? = some w) (hg : zgood w = true) : w ∈ zG := List.mem_filter.mpr ⟨List.mem_of_getElem? h, hg⟩
theorem z_words {X : zX} {s : State} {A : Array Value} (hW : X.1.WarmedH s.vm) (h : ∀ w ∈ lw_tbl, w.before A X.1 = true) (args : Array Value) : ∀ w ∈ zG, w.before args s = true := by
  intro w hw
  obtain ⟨h1, h2⟩ := List.mem_filter.mp hw
  simp only [zgood, Bool.or_eq_true] at h2
  rcases h2 with h2 | h2
  · exact word_at hW (good_of_word h2) (h w h1)
  · simp only [Bool.and_eq_true] at h2
    exact va_tabs h2.1 (rfl : (X.1.setVm s.vm).vm = s.vm) (Cond.before_shiftedFace (State.Shifted.of_warmed hW) w h2.2 (h w h1))
/-- what is known of the launch and of the law's start -/
def zEnv (X : zX) (l : Launch) : Prop := l.stackTraces = false ∧ va_K X.2.1 vwCl (zTys X.2.2) X.1 ∧ (∃ A : Array Value, ∀ w ∈ lw_tbl, w.before A X.1 = true) ∧
  (vx_Zq Bundle.tN "UNASSIGNED_STACK" Bundle.steD (zBase X) X.1 X.1.heap ∧ vx_Zq Bundle.tN "SUPPRESSED_SENTINEL" Bundle.listD (zBase X) X.1 X.1.heap) ∧
  (∀ (own : String) (k : Nat) (tx : String), Cond.stringRef own k tx ∈ lw_tbl → ∃ a, vk_R own k tx a X.1) ∧ (∃ mi, va_Mi "[Ljava/lang/Object;" mi X.1) ∧ va_AO "java/lang/Object" X.1
/-- a method's walk: its own code, its class, the words, the tables -/
def zCx (X : zX) (p : Program) (l : Launch) (s : State) (m : MethodId) (args : Array Value) (meth : Method) (c : Code) (own nm : String) (cc : ByteArray) (nL : Nat) : Prop :=
  CallFix p m c cc nL s args zG own ∧ meth.locks = false ∧ meth.name = nm ∧ X.1.WarmedH s.vm ∧ zEnv X l ∧ X.1.heap.size ≤ s.heap.size ∧ ∀ q : Nat, q < X.1.heap.size → s.heap[q]? = X.1.heap[q]?
theorem zCx.K {X : zX} {p : Program} {l : Launch} {s : State} {m : MethodId} {args : Array Value} {meth : Method} {c : Code} {own nm : String} {cc : ByteArray} {nL : Nat} (C : zCx X p l s m args meth c own nm cc nL) : va_K X.2.1 vwCl (zTys X.2.2) s := C.2.2.2.2.1.2.1.moved C.2.2.2.1.alike
theorem z_one {D : va_G} {cl : List vw_C} {q : Nat × va_E} {H : Heap} (h : va_at D cl q H) : va_P D cl [q] H := by
  intro k x hx
  cases k with
  | zero => rw [List.getElem?_cons_zero] at hx; cases hx; exact h
  | succ k => simp at hx
/-! contracts -/
def zXn (k : Nat) : String := match k with
  | 1 => "java/lang/IllegalArgumentException"
  | 2 => "java/lang/IndexOutOfBoundsException"
  | _ => "java/lang/IllegalStateException"
def zPc (X : zX) (M : zM) (as : List Value) : Array Value → State → Prop := va_Pc as (fun U => X.1.WarmedH U.vm ∧ zRep X M U.heap)
def zQc (X : zX) (P : Option Value → zM → Prop) : Array Value → State → Outcome → State → Prop := fun _ st o t => ∃ v M', o = .returned v ∧ P v M' ∧ zRep X M' t.heap ∧ st.heap.size ≤ t.heap.size
def zXc (X : zX) (PX : Nat → zM → Prop) : String → State → State → Prop := fun E st t => ∃ k M', E = zXn k ∧ PX k M' ∧ zRep X M' t.heap ∧ st.heap.size ≤ t.heap.size
abbrev zRm (fr lo mc ms : Nat) : Room := { frames := fr, cells := mc, slots := ms, locals := lo }
def zCT (X : zX) (l : Launch) (y : MethodName) (b : ByteArray) (n : Nat) (r : Option FieldType) (fr lo mc ms : Nat) (M : zM) (as : List Value) (P : Option Value → zM → Prop) (PX : Nat → zM → Prop) : Prop :=
  vx_Met l y [.code y b n r] (zRm fr lo mc ms) (zPc X M as) (zQc X P) (zXc X PX) mc ms (zBase X)
def zPi (K : Int32 → zM → Prop) : Option Value → zM → Prop := fun v M => ∃ r, v = some (.int r) ∧ K r M
def zPz (K : Int32 → zM → Prop) : Option Value → zM → Prop := fun v M => ∃ r, v = some (.int r) ∧ (r = 0 ∨ r = 1) ∧ K r M
def zPo (K : Option Nat → zM → Prop) : Option Value → zM → Prop := fun v M => ∃ r, v = some (va_rf r) ∧ K r M
def zPv (K : zM → Prop) : Option Value → zM → Prop := fun v M => v = none ∧ K M
theorem zPc_blind {X : zX} {M : zM} {as : List Value} : FrameBlind (zPc X M as) := fun a U g mk q => q
/-- the entry of a method's walk -/
theorem z_entry {X : zX} {l : Launch} (E : zEnv X l) {y : MethodName} {b : ByteArray} {n : Nat} {r : Option FieldType} {fr lo mc ms : Nat} {M : zM} {as : List Value} {P : Option Value → zM → Prop} {PX : Nat → zM → Prop} (hy : plainName y.cls = true)
    (body : ∀ (p : Program) (e : Env) (s : State) (m : MethodId) (args : Array Value) (below : List Frame) (meth : Method) (c : Code), zCx X p l s m args meth c y.cls y.name b n → meth.sig.returnType = r → (∀ x ∈ c.exceptionTable.toList, False) → zWk X s M s.heap [] →
      W p l e (zRm fr lo mc ms) s m args below meth c s.heap [] 0 0 (vx_MQ below (zQc X P) (zXc X PX) args s mc ms (zBase X)) (entryFrame m as.toArray n)) : zCT X l y b n r fr lo mc ms M as P PX := by
  refine vx_ofW (cc := b) (maxL := n) (ret := r) hy rfl ?_
  intro p e s m args below meth c s₁ B hml htab hP
  obtain ⟨rfl, hW, hR⟩ := hP
  obtain ⟨A, hA⟩ := E.2.2.1
  exact body p e s m _ below meth c ⟨⟨B.exec, B.bytes, hml, findClass_of_methodNamed B.named, z_words hW hA _⟩, B.notSynchronized, (name_of_methodNamed B.named B.method).1, hW, E, hR.1, hR.2.1⟩ B.returns htab ⟨va_S.rf, hR⟩
