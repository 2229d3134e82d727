/-! ===== making, calling, returning, throwing ===== -/
theorem z_word {own : String} {p : Program} {m : MethodId} {c : Code} {cc : ByteArray} {nL : Nat} {s : State} {args : Array Value} (C : CallFix p m c cc nL s args zG own) {w : Cond} (h : w ∈ zG) : w.before args s = true := C.2.2.2.2 w h
theorem zRep.grow {X : zX} {M : zM} {H H1 : Heap} (h : zRep X M H) (z : H.size ≤ H1.size) (o : ∀ q : Nat, q < H.size → H1[q]? = H[q]?) : zRep X M H1 :=
  ⟨Nat.le_trans h.1 z, fun q hq => (o q (Nat.lt_of_lt_of_le hq h.1)).trans (h.2.1 q hq), fun a e ha => (h.2.2.1 a e ha).kept (o a (h.lt ha)), h.2.2.2⟩
def zNc (own : String) (idx ci : Nat) (Cn : String) (T : u_T) (N : Nat) (ty : Nat → FieldType) : Prop :=
  vwCl[ci]? = some (Cn, T, N) ∧ (∀ w ∈ u_ws Cn T N, w ∈ zG) ∧ (∀ k, k < N → parseFieldDescriptor (T k).2.2.1 = some (ty k)) ∧ Cond.classLink own idx Cn ∈ zG ∧ Cond.instantiable Cn N ∈ zG ∧ Cond.initialized Cn ∈ zG
/-- a call's certificates: an instance method, a static one, a constructor -/
def zCv (own : String) (idx : Nat) (Cn : String) (y : MethodName) (b : ByteArray) (n : Nat) (r : Option FieldType) (na : Nat) : Prop :=
  (Cond.methodLink own idx y ∈ zG ∧ Cond.instanceMethod y ∈ zG ∧ Cond.selects Cn y y ∈ zG ∧ Cond.initialized Cn ∈ zG ∧ Cond.code y b n r ∈ zG) ∧ y.cls = Cn ∧ y.cls ≠ "java/lang/invoke/MethodHandle" ∧ y.cls ≠ "java/lang/invoke/VarHandle" ∧ (parseMethodDescriptor y.desc).map (fun d => d.parameters.length) = some na
def zCs (own : String) (idx : Nat) (y : MethodName) (b : ByteArray) (n : Nat) (r : Option FieldType) (na : Nat) : Prop :=
  (Cond.methodLink own idx y ∈ zG ∧ Cond.static y ∈ zG ∧ Cond.initialized y.cls ∈ zG ∧ Cond.code y b n r ∈ zG) ∧ y.cls ≠ "java/lang/invoke/MethodHandle" ∧ y.cls ≠ "java/lang/invoke/VarHandle" ∧ (parseMethodDescriptor y.desc).map (fun d => d.parameters.length) = some na
def zCsN (own : String) (idx : Nat) (y : MethodName) (host : String) (b : ByteArray) (n : Nat) (r : Option FieldType) (na : Nat) : Prop :=
  (Cond.methodLinkNest own idx y host ∈ lw_tbl ∧ Cond.static y ∈ zG ∧ Cond.initialized y.cls ∈ zG ∧ Cond.code y b n r ∈ zG) ∧ y.cls ≠ "java/lang/invoke/MethodHandle" ∧ y.cls ≠ "java/lang/invoke/VarHandle" ∧ (parseMethodDescriptor y.desc).map (fun d => d.parameters.length) = some na
def zCi (own : String) (idx : Nat) (y : MethodName) (b : ByteArray) (n : Nat) (na : Nat) : Prop :=
  (Cond.methodLink own idx y ∈ zG ∧ Cond.instanceMethod y ∈ zG ∧ Cond.initialized y.cls ∈ zG ∧ Cond.code y b n none ∈ zG ∧ y.name = "<init>") ∧ y.cls ≠ "java/lang/invoke/MethodHandle" ∧ y.cls ≠ "java/lang/invoke/VarHandle" ∧ (parseMethodDescriptor y.desc).map (fun d => d.parameters.length) = some na
section ZC
variable {X : zX} {p : Program} {l : Launch} {e : Env} {R : Room} {s : State} {m : MethodId} {args : Array Value} {below : List Frame} {meth : Method} {c : Code} {H : Heap} {locs : List Loc} {cells slots : Nat} {Q : State → Prop}
variable {cc : ByteArray} {pc nL idx : Nat} {ls : Array Slot} {rest : List Value} {own nm : String} {M : zM} {a ci k : Nat} {Cn : String} {T : u_T} {N : Nat} {ty : Nat → FieldType}
theorem z_new (C : zCx X p l s m args meth c own nm cc nL) (I : zWk X s M H locs) (F : zNc own idx ci Cn T N ty) {fs : List Value} (hfs : ∀ j, j < N → defaultValue (ty j) = vp_V fs j) {K : Nat → zM → Prop} (hw : zNw M ci fs K) (h1 : cells + 1 ≤ R.cells) (h2 : slots + N ≤ R.slots) (d : decode cc pc = .ok (.new idx, 3))
    (kk : ∀ (q : Nat) (M1 : zM) (H1 : Heap), zWk X s M1 H1 locs → K q M1 → W p l e R s m args below meth c H1 locs (cells + 1) (slots + N) Q (F0 m (pc + 3) ls (.ref q :: rest))) : W p l e R s m args below meth c H locs cells slots Q (F0 m pc ls rest) := by
  obtain ⟨hc, hin, hty, w1, w2, w3⟩ := F
  have hKn := C.K.1 ci _ hc
  refine W.newcK C.1.1 C.1.2.1 C.1.2.2.2.1 (z_word C.1 w1) (z_word C.1 w2) (z_word C.1 w3) rfl d h1 h2 hKn.2.1 rfl fun H1 kC hkC e1 z1 o1 => ?_
  exact kk H.size _ _ (I.new zO_ne z1 o1 ⟨I.2.1, _, hc, (u_born ty C.1.2.2.2.2 hin hKn hkC e1 hty).to hfs⟩) (hw _ (I.2.new (Nat.le_refl _)))
theorem z_newi (C : zCx X p l s m args meth c own nm cc nL) (I : zWk X s M H locs) (w1 : Cond.arrayClass .int ∈ zG) {n : Int32} {mx : Nat} {K : Nat → zM → Prop} (hw : zNi M 0 n mx K) (hmx : mx ≤ 100000) (h1 : cells + 1 ≤ R.cells) (h2 : slots + mx ≤ R.slots) (d : decode cc pc = .ok (.newarray .int, 2))
    (kk : ∀ (q : Nat) (M1 : zM) (H1 : Heap), zWk X s M1 H1 locs → K q M1 → W p l e R s m args below meth c H1 locs (cells + 1) (slots + mx) Q (F0 m (pc + 2) ls (.ref q :: rest))) : W p l e R s m args below meth c H locs cells slots Q (F0 m pc ls (.int n :: rest)) := by
  obtain ⟨hn, hle, hK⟩ := hw
  refine va_newaK (atype := .int) C.1.1 C.1.2.1 (z_word C.1 w1) rfl d rfl hn rfl (by show n.toNatClampNeg * 4 ≤ _; omega) h1 (by omega) rfl fun H1 cA e1 z1 o1 hAr hNm => ?_
  have hcA : s.vm.findClass ("[" ++ (FieldType.int).toString) = some (X.2.2 0) := (C.K.2 0 _ rfl).2
  have hcB : s.vm.findClass ("[" ++ (FieldType.int).toString) = some cA := hNm
  cases Option.some.inj (hcA.symm.trans hcB)
  refine W.widen (Nat.le_refl _) (Nat.add_le_add_left hle _) ?_
  exact kk H.size _ _ (I.new (e := zI 0 n.toNatClampNeg (fun _ => 0)) zI_ne z1 o1 ⟨⟨by decide, I.2.1⟩, e1⟩) (hK _ (I.2.new (Nat.le_refl _)))
theorem z_newo (C : zCx X p l s m args meth c own nm cc nL) (I : zWk X s M H locs) (w1 : Cond.classLink own idx "java/lang/Object" ∈ zG) {n : Int32} {mx : Nat} {K : Nat → zM → Prop} (hw : zNo M n mx K) (hmx : mx ≤ 100000) (h1 : cells + 1 ≤ R.cells) (h2 : slots + mx ≤ R.slots) (d : decode cc pc = .ok (.anewarray idx, 3))
    (kk : ∀ (q : Nat) (M1 : zM) (H1 : Heap), zWk X s M1 H1 locs → K q M1 → W p l e R s m args below meth c H1 locs (cells + 1) (slots + mx) Q (F0 m (pc + 3) ls (.ref q :: rest))) : W p l e R s m args below meth c H locs cells slots Q (F0 m pc ls (.int n :: rest)) := by
  obtain ⟨hn, hle, hK⟩ := hw
  have hover : va_AO "java/lang/Object" s := va_AO.moved C.2.2.2.1.alike C.2.2.2.2.1.2.2.2.2.2.2
  refine W.anew C.1.1 C.1.2.1 C.1.2.2.2.1 (z_word C.1 w1) (va_AO.use hover) rfl d rfl hn (by omega) h1 (by omega) fun cA kA comp f1 f2 f3 f4 => ?_
  generalize hH1 : H.push ({ cls := cA, slots := Array.replicate n.toNatClampNeg .null, vm := .none } : Cell) = H1
  have z1 : H1.size = H.size + 1 := by rw [← hH1, Array.size_push]
  have e1 : H1[H.size]? = some (arrV cA n.toNatClampNeg (fun _ => .null)) := by rw [← hH1, Array.getElem?_push_size, ← arrV_new]
  have o1 : ∀ q : Nat, q < H.size → H1[q]? = H[q]? := fun q hq => by rw [← hH1, Array.getElem?_push, if_neg (Nat.ne_of_lt hq)]
  obtain ⟨-, -, -, -, -, hcA⟩ := (C.K.2 2 _ rfl).2
  cases Option.some.inj (hcA.symm.trans f1)
  refine W.widen (Nat.le_refl _) (Nat.add_le_add_left hle _) ?_
  exact kk H.size _ _ (I.new (e := zA n.toNatClampNeg (fun _ => none)) zA_ne z1 o1 ⟨I.2.1, by rw [vp_cell_q]; exact e1⟩) (hK _ (I.2.new (Nat.le_refl _)))
/-- what a call that returned or threw leaves of the walk -/
theorem z_after (I : zWk X s M H locs) {M1 : zM} {t : State} {T' : State} {L : List Loc} {h0 : Heap} (hz : h0.size ≤ t.heap.size) (e0 : h0 = H) (hR : zRep X M1 t.heap) (e1 : T'.heap = t.heap) (hL : ∀ q ∈ L, zBase X q.base) : zWk X s M1 T'.heap (locs ++ L) := by
  subst e0
  rw [e1]
  refine ⟨⟨Nat.le_trans I.1.1 hz, fun q h1 h2 => ?_, fun q hq => ?_⟩, hR⟩
  · have hb : q < X.1.heap.size := Nat.not_le.mp h2
    rw [← I.1.2.1 q h1 h2, I.2.2.1 q hb]
    exact hR.2.1 q hb
  · rcases List.mem_append.mp hq with h | h
    · exact I.1.2.2 q h
    · exact hL q h
theorem z_run {mc ms : Nat} {g : JFrame} {P : Option Value → zM → Prop} {PX : Nat → zM → Prop} {av : Array Value} (I : zWk X s M H locs) {pc : Nat} {ls : Array Slot} {st : List Value} (hr : vx_Run p l e R s m args below meth c H locs cells slots mc ms (F0 m pc ls st) rest (zQc X P av) (zXc X PX) (zBase X))
    (kx : ∀ (k : Nat) (M1 : zM) (H1 : Heap) (locs1 : List Loc) (ce : Cell) (q9 : Addr), zWk X s M1 H1 locs1 → PX k M1 → H1[q9]? = some ce → ce.vm = .none → s.vm.findClass (zXn k) = some ce.cls → vx_W p l e R s m args below meth c H1 locs1 (cells + mc) (slots + ms) Q (F0 m pc ls rest) q9)
    (kk : ∀ (v : Option Value) (M1 : zM) (H1 : Heap) (locs1 : List Loc), zWk X s M1 H1 locs1 → P v M1 → W p l e R s m args below meth c H1 locs1 (cells + mc) (slots + ms) Q (F0 m (pc + 3) ls (v.toList ++ rest))) : W p l e R s m args below meth c H locs cells slots Q (F0 m pc ls st) := by
  intro T hT Xs
  rcases hr T hT Xs with ⟨v, st₀, t, T', L, h0, X', hL, e1, e2, ⟨v', M1, hv, hP, hR, hz⟩, stp⟩ | ⟨q, st₀, t, T', L, E, ce, h0, X', hL, e1, e2, ⟨k, M1, hE, hP, hR, hz⟩, hce, hcv, hcl, stp⟩
  · cases hv
    obtain ⟨t2, a1, b1⟩ := kk v M1 T'.heap (locs ++ L) (z_after I hz h0 hR e1 hL) hP T' rfl X'
    exact ⟨t2, stp t2 a1, b1⟩
  · subst hE
    obtain ⟨t2, a1, b1⟩ := kx k M1 T'.heap (locs ++ L) ce q (z_after I hz h0 hR e1 hL) hP (by rw [e1]; exact hce) hcv hcl T' rfl X'
    exact ⟨t2, stp.trans a1, b1⟩
theorem z_pre (C : zCx X p l s m args meth c own nm cc nL) (I : zWk X s M H locs) (as : List Value) : ∀ U : State, U.heap = H → s.WarmedH U.vm → zPc X M as as.toArray U := fun U hU hW => ⟨rfl, State.WarmedH.trans C.2.2.2.1 hW, by rw [hU]; exact I.2⟩
theorem z_good {ws : List Cond} (h : ∀ w ∈ ws, w ∈ zG ∧ goodWord w = true) : GoodIn zG ws := fun w hw => ⟨(h w hw).1, good_of_word (h w hw).2⟩
theorem z_callV (C : zCx X p l s m args meth c own nm cc nL) (I : zWk X s M H locs) {y : MethodName} {b : ByteArray} {n na : Nat} {r : Option FieldType} {fr lo mc ms : Nat} {as : List Value} {P : Option Value → zM → Prop} {PX : Nat → zM → Prop} (hM : zCT X l y b n r fr lo mc ms M (.ref a :: as) P PX) (cv : zCv own idx Cn y b n r na) (hc : vwCl[ci]? = some (Cn, T, N)) (ha : ∃ fs, M a = some (zO ci fs)) (hn : as.length = na) {st : List Value} (hst : st = as.reverse ++ .ref a :: rest) (hsize : ls.size = nL) (hcat : (rest.map fun v => v.category).sum ≤ 8) (hR : fr + 1 ≤ R.frames ∧ 8 + (n + 11) + lo ≤ R.locals) (hf : cells + mc ≤ R.cells ∧ slots + ms ≤ R.slots) (d : decode cc pc = .ok (.invokevirtual idx, 3))
    (kx : ∀ (k : Nat) (M1 : zM) (H1 : Heap) (locs1 : List Loc) (ce : Cell) (q9 : Addr), zWk X s M1 H1 locs1 → PX k M1 → H1[q9]? = some ce → ce.vm = .none → s.vm.findClass (zXn k) = some ce.cls → vx_W p l e R s m args below meth c H1 locs1 (cells + mc) (slots + ms) Q (F0 m pc ls rest) q9)
    (kk : ∀ (v : Option Value) (M1 : zM) (H1 : Heap) (locs1 : List Loc), zWk X s M1 H1 locs1 → P v M1 → W p l e R s m args below meth c H1 locs1 (cells + mc) (slots + ms) Q (F0 m (pc + 3) ls (v.toList ++ rest))) : W p l e R s m args below meth c H locs cells slots Q (F0 m pc ls st) := by
  obtain ⟨⟨w1, w2, w3, w4, w5⟩, hd⟩ := cv
  obtain ⟨fs, ha⟩ := ha
  have hG : GoodIn zG (wsV own idx Cn y [.code y b n r]) := z_good fun w hw => by
    simp only [wsV, List.cons_append, List.nil_append, List.mem_cons, List.not_mem_nil, or_false] at hw
    rcases hw with rfl | rfl | rfl | rfl | rfl
    · exact ⟨w1, rfl⟩
    · exact ⟨w2, rfl⟩
    · exact ⟨w3, rfl⟩
    · exact ⟨w4, rfl⟩
    · exact ⟨w5, rfl⟩
  subst hst
  exact z_run (g := F0 m pc ls []) I (vx_runV (g := F0 m pc ls (as.reverse ++ .ref a :: rest)) C.1 hM (cwV na C.1.2.2.2.2 hG rfl rfl rfl hd hR) ⟨zPc_blind, va_recv C.K (z_one (q := (a, .inr (ci, fs))) (I.2.2.2.1 a _ ha).2) (q0 := 0) hc rfl, z_pre C I _⟩ rfl hn hsize rfl (lv_room hcat) d hf) kx kk
theorem z_callS (C : zCx X p l s m args meth c own nm cc nL) (I : zWk X s M H locs) {y : MethodName} {b : ByteArray} {n na : Nat} {r : Option FieldType} {fr lo mc ms : Nat} {as : List Value} {P : Option Value → zM → Prop} {PX : Nat → zM → Prop} (hM : zCT X l y b n r fr lo mc ms M as P PX) (cv : zCs own idx y b n r na) (hn : as.length = na) {st : List Value} (hst : st = as.reverse ++ rest) (hsize : ls.size = nL) (hcat : (rest.map fun v => v.category).sum ≤ 8) (hR : fr + 1 ≤ R.frames ∧ 8 + (n + 11) + lo ≤ R.locals) (hf : cells + mc ≤ R.cells ∧ slots + ms ≤ R.slots) (d : decode cc pc = .ok (.invokestatic idx, 3))
    (kx : ∀ (k : Nat) (M1 : zM) (H1 : Heap) (locs1 : List Loc) (ce : Cell) (q9 : Addr), zWk X s M1 H1 locs1 → PX k M1 → H1[q9]? = some ce → ce.vm = .none → s.vm.findClass (zXn k) = some ce.cls → vx_W p l e R s m args below meth c H1 locs1 (cells + mc) (slots + ms) Q (F0 m pc ls rest) q9)
    (kk : ∀ (v : Option Value) (M1 : zM) (H1 : Heap) (locs1 : List Loc), zWk X s M1 H1 locs1 → P v M1 → W p l e R s m args below meth c H1 locs1 (cells + mc) (slots + ms) Q (F0 m (pc + 3) ls (v.toList ++ rest))) : W p l e R s m args below meth c H locs cells slots Q (F0 m pc ls st) := by
  obtain ⟨⟨w1, w2, w3, w4⟩, hd⟩ := cv
  have hG : GoodIn zG (va_wsS own idx y [.code y b n r]) := z_good fun w hw => by
    simp only [va_wsS, List.cons_append, List.nil_append, List.mem_cons, List.not_mem_nil, or_false] at hw
    rcases hw with rfl | rfl | rfl | rfl
    · exact ⟨w1, rfl⟩
    · exact ⟨w2, rfl⟩
    · exact ⟨w3, rfl⟩
    · exact ⟨w4, rfl⟩
  subst hst
  exact z_run (g := F0 m pc ls []) I (vx_runS (g := F0 m pc ls (as.reverse ++ rest)) C.1 hM (va_cwS na C.1.2.2.2.2 hG rfl rfl rfl hd hR) ⟨zPc_blind, z_pre C I _⟩ rfl hn hsize rfl (lv_room hcat) d hf) kx kk
end ZC
