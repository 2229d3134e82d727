/-! ===== constructors, returns, throws, casts ===== -/
/-- a contract that never throws is one of the plain kind -/
theorem z_met {X : zX} {l : Launch} {y : MethodName} {b : ByteArray} {n : Nat} {r : Option FieldType} {fr lo mc ms : Nat} {M : zM} {as : List Value} {P : Option Value → zM → Prop} (h : zCT X l y b n r fr lo mc ms M as P (fun _ _ => False)) : Met l y [.code y b n r] (zRm fr lo mc ms) (zPc X M as) (zQc X P) mc ms (zBase X) := by
  intro p e h1 h2 h3 s m args below h4 h5 h6 h7
  obtain ⟨k, o, g1, g2, g3, hQ⟩ := h p e h1 h2 h3 s m args below h4 h5 h6 h7
  refine ⟨k, o, g1, g2, g3, ?_⟩
  rcases hQ with hQ | ⟨q, -, E, ce, L, ⟨k9, M9, -, hF, -⟩, -⟩
  · exact hQ
  · exact hF.elim
section ZD
variable {X : zX} {p : Program} {l : Launch} {e : Env} {R : Room} {s : State} {m : MethodId} {args : Array Value} {below : List Frame} {meth : Method} {c : Code} {H : Heap} {locs : List Loc} {cells slots : Nat} {Q : State → Prop}
variable {cc : ByteArray} {pc nL idx : Nat} {ls : Array Slot} {rest : List Value} {own nm : String} {M : zM} {a ci k : Nat} {Cn : String} {T : u_T} {N : Nat} {ty : Nat → FieldType}
theorem z_runM {mc ms : Nat} {P : Option Value → zM → Prop} {av : Array Value} (I : zWk X s M H locs) {st : List Value} (hr : va_Run p l e R s m args below meth c H locs cells slots mc ms (F0 m pc ls st) rest (zQc X P av) (zBase X))
    (kk : ∀ (v : Option Value) (M1 : zM) (H1 : Heap) (locs1 : List Loc), zWk X s M1 H1 locs1 → P v M1 → W p l e R s m args below meth c H1 locs1 (cells + mc) (slots + ms) Q (F0 m (pc + 3) ls (v.toList ++ rest))) : W p l e R s m args below meth c H locs cells slots Q (F0 m pc ls st) := by
  intro T hT Xs
  obtain ⟨v, st₀, t, T', L, h0, X', hL, e1, e2, ⟨v', M1, hv, hP, hR, hz⟩, stp⟩ := hr T hT Xs
  cases hv
  obtain ⟨t2, a1, b1⟩ := kk v M1 T'.heap (locs ++ L) (z_after I hz h0 hR e1 hL) hP T' rfl X'
  exact ⟨t2, stp t2 a1, b1⟩
theorem z_callI (C : zCx X p l s m args meth c own nm cc nL) (I : zWk X s M H locs) {y : MethodName} {b : ByteArray} {n na : Nat} {fr lo mc ms : Nat} {as : List Value} {K : zM → Prop} (hM : zCT X l y b n none fr lo mc ms M (.ref a :: as) (zPv K) (fun _ _ => False)) (cv : zCi own idx y b n na) (hn : as.length = na) {st : List Value} (hst : st = as.reverse ++ .ref a :: rest) (hsize : ls.size = nL) (hcat : (rest.map fun v => v.category).sum ≤ 8) (hR : fr + 1 ≤ R.frames ∧ 8 + (n + 11) + lo ≤ R.locals) (hf : cells + mc ≤ R.cells ∧ slots + ms ≤ R.slots) (d : decode cc pc = .ok (.invokespecial idx, 3))
    (kk : ∀ (M1 : zM) (H1 : Heap) (locs1 : List Loc), zWk X s M1 H1 locs1 → K M1 → W p l e R s m args below meth c H1 locs1 (cells + mc) (slots + ms) Q (F0 m (pc + 3) ls rest)) : W p l e R s m args below meth c H locs cells slots Q (F0 m pc ls st) := by
  obtain ⟨⟨w1, w2, w3, w4, w5⟩, hd⟩ := cv
  have hG : GoodIn zG [.code y b n none] := z_good fun w hw => by
    simp only [List.mem_cons, List.not_mem_nil, or_false] at hw
    rcases hw with rfl
    exact ⟨w4, rfl⟩
  subst hst
  refine z_runM I (va_runI (g := F0 m pc ls (as.reverse ++ .ref a :: rest)) C.1 (z_met hM) (cwI na C.1.2.2.2.2 hG rfl rfl rfl (z_word C.1 w3) (z_word C.1 w1) (z_word C.1 w2) w5 hd hR) ⟨zPc_blind, z_pre C I _⟩ rfl hn hsize rfl (lv_room hcat) d hf) (fun v M1 H1 locs1 I1 hP => ?_)
  obtain ⟨rfl, hK⟩ := hP
  exact kk M1 H1 locs1 I1 hK
theorem z_callSN (C : zCx X p l s m args meth c own nm cc nL) (I : zWk X s M H locs) {y : MethodName} {host : String} {b : ByteArray} {n na : Nat} {r : Option FieldType} {fr lo mc ms : Nat} {as : List Value} {P : Option Value → zM → Prop} (hM : zCT X l y b n r fr lo mc ms M as P (fun _ _ => False)) (cv : zCsN own idx y host b n r na) (hn : as.length = na) {st : List Value} (hst : st = as.reverse ++ rest) (hsize : ls.size = nL) (hcat : (rest.map fun v => v.category).sum ≤ 8) (hR : fr + 1 ≤ R.frames ∧ 8 + (n + 11) + lo ≤ R.locals) (hf : cells + mc ≤ R.cells ∧ slots + ms ≤ R.slots) (d : decode cc pc = .ok (.invokestatic idx, 3))
    (kk : ∀ (v : Option Value) (M1 : zM) (H1 : Heap) (locs1 : List Loc), zWk X s M1 H1 locs1 → P v M1 → W p l e R s m args below meth c H1 locs1 (cells + mc) (slots + ms) Q (F0 m (pc + 3) ls (v.toList ++ rest))) : W p l e R s m args below meth c H locs cells slots Q (F0 m pc ls st) := by
  obtain ⟨⟨w1, w2, w3, w4⟩, hd⟩ := cv
  have hG : GoodIn zG [.code y b n r] := z_good fun w hw => by
    simp only [List.mem_cons, List.not_mem_nil, or_false] at hw
    rcases hw with rfl
    exact ⟨w4, rfl⟩
  obtain ⟨A, hA⟩ := C.2.2.2.2.1.2.2.1
  have hnest : va_Nw (.methodLinkNest own idx y host) s := va_Nw.warmM C.2.2.2.1 (va_Nw.of rfl (hA _ w1))
  subst hst
  exact z_runM I (va_runSN (g := F0 m pc ls (as.reverse ++ rest)) C.1 (z_met hM) ⟨va_cnB na C.1.2.2.2.2 hG rfl rfl rfl hnest (z_word C.1 w3) hd hR, z_word C.1 w2, trivial⟩ ⟨zPc_blind, z_pre C I _⟩ rfl hn hsize rfl (lv_room hcat) d hf) kk
theorem z_objInit (C : zCx X p l s m args meth c own nm cc nL) (w1 : Cond.methodLink own idx Lib.objectInit ∈ zG) (w2 : Cond.instanceMethod Lib.objectInit ∈ zG) (w3 : Cond.code Lib.objectInit ⟨#[0xb1]⟩ 1 none ∈ zG) (hsize : ls.size = nL) (hcat : (rest.map fun v => v.category).sum ≤ 8) (hR : 1 ≤ R.frames ∧ 20 ≤ R.locals) (d : decode cc pc = .ok (.invokespecial idx, 3))
    (kk : W p l e R s m args below meth c H locs cells slots Q (F0 m (pc + 3) ls rest)) : W p l e R s m args below meth c H locs cells slots Q (F0 m pc ls (.ref a :: rest)) :=
  W.objInit C.1.1 C.1.2.1 C.1.2.2.2.1 (z_word C.1 w1) (z_word C.1 w2) (z_word C.1 w3) rfl (hsize.trans C.1.2.2.1.symm) rfl d hR.1 (by show 2 * 0 + _ + 12 ≤ _; omega) kk
/-! ends -/
variable {P : Option Value → zM → Prop} {PX : Nat → zM → Prop} {mc0 ms0 : Nat}
theorem z_q (C : zCx X p l s m args meth c own nm cc nL) (I : zWk X s M H locs) {v : Option Value} (hw : P v M) : ∀ t : State, t.heap = H → s.WarmedH t.vm → zQc X P args s (.returned v) t := fun t ht _ => ⟨v, M, rfl, hw, by rw [ht]; exact I.2, by rw [ht]; exact I.1.1⟩
theorem z_iret (C : zCx X p l s m args meth c own nm cc nL) (I : zWk X s M H locs) (hr : meth.sig.returnType = some .int) {v : Int32} (hw : P (some (.int v)) M) (h1 : cells ≤ mc0) (h2 : slots ≤ ms0) (d : decode cc pc = .ok (.ireturn, 1)) : W p l e R s m args below meth c H locs cells slots (vx_MQ below (zQc X P) (zXc X PX) args s mc0 ms0 (zBase X)) (F0 m pc ls [.int v]) :=
  W.widen h1 h2 (vx_ret (W.iret C.1.1 C.1.2.1 hr (z_q C I hw) I.1.2.2 d C.2.1))
theorem z_zret (C : zCx X p l s m args meth c own nm cc nL) (I : zWk X s M H locs) (hr : meth.sig.returnType = some .boolean) {v : Int32} (h01 : v = 0 ∨ v = 1) (hw : P (some (.int v)) M) (h1 : cells ≤ mc0) (h2 : slots ≤ ms0) (d : decode cc pc = .ok (.ireturn, 1)) : W p l e R s m args below meth c H locs cells slots (vx_MQ below (zQc X P) (zXc X PX) args s mc0 ms0 (zBase X)) (F0 m pc ls [.int v]) :=
  W.widen h1 h2 (vx_ret (W.zret C.1.1 C.1.2.1 hr (z_nz h01) (z_q C I hw) I.1.2.2 d C.2.1))
theorem z_aret (C : zCx X p l s m args meth c own nm cc nL) (I : zWk X s M H locs) {rt : FieldType} (hr : meth.sig.returnType = some rt) (hrt : (∃ n, rt = .object n) ∨ ∃ t, rt = .array t) {v : Option Nat} (hw : P (some (va_rf v)) M) (h1 : cells ≤ mc0) (h2 : slots ≤ ms0) (d : decode cc pc = .ok (.areturn, 1)) : W p l e R s m args below meth c H locs cells slots (vx_MQ below (zQc X P) (zXc X PX) args s mc0 ms0 (zBase X)) (F0 m pc ls [va_rf v]) :=
  W.widen h1 h2 (vx_ret (W.aret C.1.1 C.1.2.1 hr hrt (by cases v with | none => exact Or.inl rfl | some x => exact Or.inr ⟨x, rfl⟩) (z_q C I hw) I.1.2.2 d C.2.1))
theorem z_vret (C : zCx X p l s m args meth c own nm cc nL) (I : zWk X s M H locs) (hr : meth.sig.returnType = none) (hw : P none M) (h1 : cells ≤ mc0) (h2 : slots ≤ ms0) (d : decode cc pc = .ok (.return_, 1)) : W p l e R s m args below meth c H locs cells slots (vx_MQ below (zQc X P) (zXc X PX) args s mc0 ms0 (zBase X)) (F0 m pc ls []) :=
  W.widen h1 h2 (vx_ret (W.vret C.1.1 C.1.2.1 hr (z_q C I hw) I.1.2.2 d C.2.1))
/-- what a callee throws goes on to the caller -/
theorem z_prop (C : zCx X p l s m args meth c own nm cc nL) (htab : ∀ x ∈ c.exceptionTable.toList, False) (h1 : cells ≤ mc0) (h2 : slots ≤ ms0) : ∀ (k : Nat) (M1 : zM) (H1 : Heap) (locs1 : List Loc) (ce : Cell) (q9 : Addr), zWk X s M1 H1 locs1 → PX k M1 → H1[q9]? = some ce → ce.vm = .none → s.vm.findClass (zXn k) = some ce.cls → vx_W p l e R s m args below meth c H1 locs1 cells slots (vx_MQ below (zQc X P) (zXc X PX) args s mc0 ms0 (zBase X)) (F0 m pc ls rest) q9 :=
  fun k M1 H1 locs1 ce q9 I hP hc hv hcl => vx_out (fun x hx => (htab x hx).elim) C.2.1 hc hv hcl (fun t ht _ => ⟨k, M1, rfl, hP, by rw [ht]; exact I.2, by rw [ht]; exact I.1.1⟩) I.1.2.2 h1 h2
def zNs : List String := ["java/lang/RuntimeException", "java/lang/Exception"]
/-- a throw's certificate: the class, the text, the constructor -/
def zTh (own : String) (ik is ic : Nat) (text cls : String) : Prop := Cond.classLink own ik cls ∈ zG ∧ Cond.initialized cls ∈ zG ∧ Cond.stringRef own is text ∈ lw_tbl ∧ (∀ w ∈ vx_atS own ic cls zNs, w ∈ zG) ∧ Bundle.fit cls = true ∧ ∀ w ∈ Cond.classLink own ik cls :: Cond.initialized cls :: vx_atS own ic cls zNs, vx_ot w = true
theorem z_throw (C : zCx X p l s m args meth c own nm cc nL) (htab : ∀ x ∈ c.exceptionTable.toList, False) (I : zWk X s M H locs) {ik is ic : Nat} {text : String} (k : Nat) (F : zTh own ik is ic text (zXn k)) (hw : PX k M) (hsize : ls.size = nL)
    (d0 : decode cc pc = .ok (.new ik, 3)) (d3 : decode cc (pc + 3) = .ok (.dup, 1)) (d4 : decode cc (pc + 4) = .ok (.ldc is, 2)) (d6 : decode cc (pc + 6) = .ok (.invokespecial ic, 3)) (d9 : decode cc (pc + 9) = .ok (.athrow, 1))
    (hR : 5 < R.frames ∧ (rest.map fun v => v.category).sum + 82 ≤ R.locals ∧ cells + 1 ≤ R.cells ∧ slots + 6 ≤ R.slots) (hc : cells + 1 ≤ mc0) (hs : slots + 6 ≤ ms0) : W p l e R s m args below meth c H locs cells slots (vx_MQ below (zQc X P) (zXc X PX) args s mc0 ms0 (zBase X)) (F0 m pc ls rest) := by
  obtain ⟨w1, w2, w3, w4, hfit, hgood⟩ := F
  obtain ⟨⟨hx, hb, hml, hown, hts⟩, hlocks, -, hW, ⟨hl, -, -, ⟨hU, hN⟩, hstr, -⟩, hz, hbase⟩ := id C
  obtain ⟨sa, hsa⟩ := hstr _ _ _ w3
  have kept : ∀ q : Nat, q < X.1.heap.size → ¬ zBase X q → s.heap[q]? = X.1.heap[q]? := fun q h _ => hbase q h
  exact vx_throwS hx hb hl (names := zNs) hown hfit (by decide +kernel) (hts _ w1) (hts _ w2) (vk_R.warm hW hsa) (fun w h => hts _ (w4 w h)) hgood (vx_Zq.moved hW.alike (hU.kept kept)) (vx_Zq.moved hW.alike (hN.kept kept)) I.1 (hsize.trans hml.symm) d0 d3 d4 d6 d9 (fun x hx => (htab x hx).elim) hR.1 hR.2.1 hR.2.2.1 hR.2.2.2 hlocks
    (fun t _ h1 h2 => ⟨k, M, rfl, hw, I.2.grow h1 h2, Nat.le_trans I.1.1 h1⟩) I.1.2.2 hc hs
/-! casts, null, the static row -/
def zCk (M : zM) (r : Option Nat) (ci : Nat) (K : Nat → Prop) : Prop := ∃ a fs, r = some a ∧ M a = some (zO ci fs) ∧ K a
def zDf (r : Option Nat) (K : Nat → Prop) : Prop := ∃ a, r = some a ∧ K a
def zIs (M : zM) (a ci : Nat) : Prop := ∃ fs, M a = some (zO ci fs)
theorem z_cast (C : zCx X p l s m args meth c own nm cc nL) (I : zWk X s M H locs) (hc : vwCl[ci]? = some (Cn, T, N)) (w1 : Cond.classLink own idx Cn ∈ zG) {r : Option Nat} {K : Nat → Prop} (hw : zCk M r ci K) (d : decode cc pc = .ok (.checkcast idx, 3))
    (kk : ∀ v, K v → W p l e R s m args below meth c H locs cells slots Q (F0 m (pc + 3) ls (.ref v :: rest))) : W p l e R s m args below meth c H locs cells slots Q (F0 m pc ls (va_rf r :: rest)) := by
  obtain ⟨a, fs, rfl, ha, hK⟩ := hw
  exact va_castS C.1.1 C.1.2.1 C.1.2.2.2.1 (z_word C.1 w1) (C.K.1 ci _ hc).2 (va_recv C.K (z_one (q := (a, .inr (ci, fs))) (I.2.2.2.1 a _ ha).2) (q0 := 0) hc rfl) d (kk a hK)
theorem z_ifnull (C : zCx X p l s m args meth c own nm cc nL) {r : Option Nat} {off : Int} {tgt : Nat} (d : decode cc pc = .ok (.ifnull off, 3)) (ht : (pc : Int) + off = (tgt : Int))
    (kt : r = none → W p l e R s m args below meth c H locs cells slots Q (F0 m tgt ls rest)) (kf : ∀ v, r = some v → W p l e R s m args below meth c H locs cells slots Q (F0 m (pc + 3) ls rest)) : W p l e R s m args below meth c H locs cells slots Q (F0 m pc ls (va_rf r :: rest)) := by
  cases r with
  | none => exact lv_ifnullN C.1.1 C.1.2.1 d ht (kt rfl)
  | some v => exact lv_ifnull C.1.1 C.1.2.1 d (kf v rfl)
theorem z_ifnonnull (C : zCx X p l s m args meth c own nm cc nL) {r : Option Nat} {off : Int} {tgt : Nat} (d : decode cc pc = .ok (.ifnonnull off, 3)) (ht : (pc : Int) + off = (tgt : Int))
    (kt : ∀ v, r = some v → W p l e R s m args below meth c H locs cells slots Q (F0 m tgt ls rest)) (kf : r = none → W p l e R s m args below meth c H locs cells slots Q (F0 m (pc + 3) ls rest)) : W p l e R s m args below meth c H locs cells slots Q (F0 m pc ls (va_rf r :: rest)) := by
  cases r with
  | none => exact lv_ifnonnullN C.1.1 C.1.2.1 d (kf rfl)
  | some v => exact lv_ifnonnull C.1.1 C.1.2.1 d ht (kt v rfl)
theorem z_aloadn (C : zCx X p l s m args meth c own nm cc nL) {k : Fin 4} {i : Nat} {r : Option Nat} (d : decode cc pc = .ok (.aload_n k, 1)) (hi : (k : Nat) = i) (hl : ls[i]? = some (.val (va_rf r)))
    (kk : W p l e R s m args below meth c H locs cells slots Q (F0 m (pc + 1) ls (va_rf r :: rest))) : W p l e R s m args below meth c H locs cells slots Q (F0 m pc ls rest) := by
  cases r with
  | none => exact lv_aload_nN C.1.1 C.1.2.1 d hi hl kk
  | some v => exact lv_aload_n C.1.1 C.1.2.1 d hi hl kk
theorem z_aload (C : zCx X p l s m args meth c own nm cc nL) {i : Nat} {r : Option Nat} (d : decode cc pc = .ok (.aload i, 2)) (hl : ls[i]? = some (.val (va_rf r)))
    (kk : W p l e R s m args below meth c H locs cells slots Q (F0 m (pc + 2) ls (va_rf r :: rest))) : W p l e R s m args below meth c H locs cells slots Q (F0 m pc ls rest) := by
  cases r with
  | none => exact lv_aloadN C.1.1 C.1.2.1 d hl kk
  | some v => exact lv_aload C.1.1 C.1.2.1 d hl kk
theorem z_astoren (C : zCx X p l s m args meth c own nm cc nL) {k : Fin 4} {i n : Nat} {r : Option Nat} {lv lv' : List (Nat × Value)} (d : decode cc pc = .ok (.astore_n k, 1)) (hi : (k : Nat) = i) (h : lv_has ls n lv) (hn : i < n) (hl : (i, va_rf r) :: lv.filter (fun q => !(q.1 == i) && !(q.1 + 1 == i && q.2.category == 2)) = lv')
    (kk : ∀ ls' : Array Slot, lv_has ls' n lv' → W p l e R s m args below meth c H locs cells slots Q (F0 m (pc + 1) ls' rest)) : W p l e R s m args below meth c H locs cells slots Q (F0 m pc ls (va_rf r :: rest)) := by
  cases r with
  | none => exact lv_astore_nN C.1.1 C.1.2.1 d hi h hn hl kk
  | some v => exact lv_astore_n C.1.1 C.1.2.1 d hi h hn hl kk
theorem z_astore (C : zCx X p l s m args meth c own nm cc nL) {i n : Nat} {r : Option Nat} {lv lv' : List (Nat × Value)} (d : decode cc pc = .ok (.astore i, 2)) (h : lv_has ls n lv) (hn : i < n) (hl : (i, va_rf r) :: lv.filter (fun q => !(q.1 == i) && !(q.1 + 1 == i && q.2.category == 2)) = lv')
    (kk : ∀ ls' : Array Slot, lv_has ls' n lv' → W p l e R s m args below meth c H locs cells slots Q (F0 m (pc + 2) ls' rest)) : W p l e R s m args below meth c H locs cells slots Q (F0 m pc ls (va_rf r :: rest)) := by
  cases r with
  | none => exact lv_astoreN C.1.1 C.1.2.1 d h hn hl kk
  | some v => exact lv_astore C.1.1 C.1.2.1 d h hn hl kk
theorem z_gets (C : zCx X p l s m args meth c own nm cc nL) (I : zWk X s M H locs) (w1 : Cond.fieldLink own idx "java/util/ArrayList" "DEFAULTCAPACITY_EMPTY_ELEMENTDATA" "[Ljava/lang/Object;" ∈ zG) {K : Nat → Prop} (hw : zGs M K) (d : decode cc pc = .ok (.getstatic idx, 3))
    (kk : ∀ v, K v → W p l e R s m args below meth c H locs cells slots Q (F0 m (pc + 3) ls (.ref v :: rest))) : W p l e R s m args below meth c H locs cells slots Q (F0 m pc ls rest) := by
  obtain ⟨q, h1, h2⟩ := I.2.2.2.2
  obtain ⟨-, hZ⟩ := I.2.2.2.1 q _ h1
  have hZs : va_Z "java/util/ArrayList" "DEFAULTCAPACITY_EMPTY_ELEMENTDATA" "[Ljava/lang/Object;" (.ref q) (zBase X) s s.heap := va_Z.moved C.2.2.2.1.alike (hZ.kept fun a h _ => C.2.2.2.2.2.2 a h)
  exact va_gets C.1.1 C.1.2.1 hZs I.1 C.1.2.2.2.1 (z_word C.1 w1) (fun _ h => h) d (kk q (hw q h1 h2))
end ZD
section ZE
variable {X : zX} {p : Program} {l : Launch} {e : Env} {R : Room} {s : State} {m : MethodId} {args : Array Value} {below : List Frame} {meth : Method} {c : Code} {H : Heap} {locs : List Loc} {cells slots : Nat} {Q : State → Prop}
variable {cc : ByteArray} {pc nL idx : Nat} {ls : Array Slot} {rest : List Value} {own nm : String} {M : zM} {a ci k : Nat} {Cn : String} {T : u_T} {N : Nat} {ty : Nat → FieldType}
variable {P : Option Value → zM → Prop} {PX : Nat → zM → Prop} {mc0 ms0 : Nat}
theorem z_throwW (C : zCx X p l s m args meth c own nm cc nL) (htab : ∀ x ∈ c.exceptionTable.toList, False) (I : zWk X s M H locs) {ik is ic : Nat} {text : String} (k : Nat) (F : zTh own ik is ic text (zXn k)) (hw : PX k M) (hsize : ls.size = nL)
    (d0 : decode cc pc = .ok (.new ik, 3)) (d3 : decode cc (pc + 3) = .ok (.dup, 1)) (d4 : decode cc (pc + 4) = .ok (.ldc_w is, 3)) (d7 : decode cc (pc + 7) = .ok (.invokespecial ic, 3)) (d10 : decode cc (pc + 10) = .ok (.athrow, 1))
    (hR : 5 < R.frames ∧ (rest.map fun v => v.category).sum + 82 ≤ R.locals ∧ cells + 1 ≤ R.cells ∧ slots + 6 ≤ R.slots) (hc : cells + 1 ≤ mc0) (hs : slots + 6 ≤ ms0) : W p l e R s m args below meth c H locs cells slots (vx_MQ below (zQc X P) (zXc X PX) args s mc0 ms0 (zBase X)) (F0 m pc ls rest) := by
  obtain ⟨w1, w2, w3, w4, hfit, hgood⟩ := F
  obtain ⟨⟨hx, hb, hml, hown, hts⟩, hlocks, -, hW, ⟨hl, -, -, ⟨hU, hN⟩, hstr, -⟩, hz, hbase⟩ := id C
  obtain ⟨sa, hsa⟩ := hstr _ _ _ w3
  have kept : ∀ q : Nat, q < X.1.heap.size → ¬ zBase X q → s.heap[q]? = X.1.heap[q]? := fun q h _ => hbase q h
  exact vx_throwSW hx hb hl (names := zNs) hown hfit (by decide +kernel) (hts _ w1) (hts _ w2) (vk_R.warm hW hsa) (fun w h => hts _ (w4 w h)) hgood (vx_Zq.moved hW.alike (hU.kept kept)) (vx_Zq.moved hW.alike (hN.kept kept)) I.1 (hsize.trans hml.symm) d0 d3 d4 d7 d10 (fun x hx => (htab x hx).elim) hR.1 hR.2.1 hR.2.2.1 hR.2.2.2 hlocks
    (fun t _ h1 h2 => ⟨k, M, rfl, hw, I.2.grow h1 h2, Nat.le_trans I.1.1 h1⟩) I.1.2.2 hc hs
theorem z_nn {z : Int32} (hz : ¬ z < 0) : z.toInt = (z.toNatClampNeg : Int) := by
  have hz0 : (0 : Int) ≤ z.toInt := by
    have := Int32.not_lt.mp hz
    simpa using Int32.le_iff_toInt_le.mp this
  show z.toInt = ((z.toInt.toNat : Nat) : Int)
  omega
/-- System.arraycopy of the first n references of a row to the places 0 .. of another -/
theorem z_copy (C : zCx X p l s m args meth c own nm cc nL) (hcast : zCast) (I : zWk X s M H locs) (w1 : Cond.methodLink own idx arraycopyName ∈ zG) (w2 : Cond.native arraycopyName ∈ zG) (w3 : Cond.static arraycopyName ∈ zG) (w4 : Cond.initialized "java/lang/System" ∈ zG) (hsize : ls.size = nL) {a0 n0 n1 : Nat} {f g : Nat → Option Nat} (h0 : M a0 = some (zA n0 f)) (h1 : M a = some (zA n1 g)) {n : Int32} (hn : ¬ n < 0) (hn0 : n.toNatClampNeg ≤ n0) (hn1 : n.toNatClampNeg ≤ n1) (hel : ∀ j : Nat, j < n.toNatClampNeg → ∀ y : Nat, f j = some y → ∃ ci fs, M y = some (zO ci fs)) (hR : 1 ≤ R.frames ∧ 100 ≤ R.locals) (hcat : (rest.map fun v => v.category).sum ≤ 8) (d : decode cc pc = .ok (.invokestatic idx, 3))
    (kk : ∀ (M1 : zM) (H1 : Heap) (locs1 : List Loc), zWk X s M1 H1 locs1 → M1 = zUp M a (zA n1 (va_cpy f g 0 0 n.toNatClampNeg)) → W p l e R s m args below meth c H1 locs1 cells slots Q (F0 m (pc + 3) ls rest)) : W p l e R s m args below meth c H locs cells slots Q (F0 m pc ls (.int n :: .int 0 :: .ref a :: .int 0 :: .ref a0 :: rest)) := by
  intro T hT Xs
  obtain ⟨hb0, hc0⟩ := I.2.2.2.1 a0 _ h0
  obtain ⟨hb1, hc1⟩ := I.2.2.2.1 a _ h1
  have z0 : (0 : Int32).toNatClampNeg = 0 := by decide
  have zi : (0 : Int32).toInt = 0 := by decide
  obtain ⟨-, k0, hk0, cm0, hkk0⟩ := (C.K.2 2 _ rfl).1 n0 (fun j => va_rf (f j))
  obtain ⟨-, k1, hk1, cm1, hkk1⟩ := (C.K.2 2 _ rfl).1 n1 (fun j => va_rf (g j))
  have hnw : nativeFrameWords "java/lang/System" "arraycopy" 5 ≤ 60 := by decide
  obtain ⟨vm', X', step⟩ := Xs.arraycopy C.1.1 C.1.2.2.2.1 (z_word C.1 w1) (z_word C.1 w2) (z_word C.1 w3) (z_word C.1 w4) (src := a0) (dst := a) (cs := vp_cell (X.2.2 2) (n0, .inr (.inr (.inr (.inr f))))) (cd := vp_cell (X.2.2 2) (n1, .inr (.inr (.inr (.inr g))))) (srcPos := 0) (destPos := 0) (n := n) (by rw [hT]; exact hc0) (by rw [hT]; exact hc1)
    (fun _ h => by cases h) (fun _ h => by cases h) (fun h => by cases h) (fun h => by cases h) hk0 hk1 hkk0 hkk1 rfl (by decide) (by decide) hn
    (by rw [zi, z_nn hn]; show ¬ _ > ((arrV (X.2.2 2) n0 (fun j => va_rf (f j))).slots.size : Int); rw [arrV_size]; omega)
    (by rw [zi, z_nn hn]; show ¬ _ > ((arrV (X.2.2 2) n1 (fun j => va_rf (g j))).slots.size : Int); rw [arrV_size]; omega)
    (fun vm₁ hal i hi => by
      have e : (vp_cell (X.2.2 2) (n0, .inr (.inr (.inr (.inr f))))).slots.getD ((0 : Int32).toNatClampNeg + i) .null = va_rf (f i) := by
        show (arrV (X.2.2 2) n0 (fun j => va_rf (f j))).slots.getD _ _ = _
        rw [z0, Nat.zero_add, Array.getD_eq_getD_getElem?, arrV_read _ _ (by omega)]
        rfl
      rw [e]
      cases hy : f i with
      | none => exact ⟨rfl, trivial⟩
      | some y =>
        obtain ⟨cj, fs, hM⟩ := hel i hi y hy
        obtain ⟨cellV, g1, g2, ⟨kC, hkC⟩, hasg⟩ := z_any C hcast I hM
        obtain ⟨kA, comp, r1, r2, r3, -⟩ := (C.K.2 2 _ rfl).2
        cases hk1.symm.trans r1
        cases hkk1.symm.trans r2
        obtain ⟨kE, hkE, -⟩ := Vm.findClass_spec r3
        obtain ⟨kC', hkC', -⟩ := hal.2.2 _ _ hkC
        obtain ⟨kE', hkE', -⟩ := hal.2.2 _ _ hkE
        refine ⟨rfl, cellV, (show T.heap[y]? = some cellV by rw [hT]; exact g1), (fun q h => by rw [h] at g2; cases g2), ⟨kC', hkC'⟩, ?_, ?_⟩
        · exact ⟨kE', hkE'⟩
        · show vm₁.assignable _ _ = true
          rw [hal.assignable]
          exact hasg _ r3)
    (g := F0 m pc ls (.int n :: .int 0 :: .ref a :: .int 0 :: .ref a0 :: rest)) rfl (hsize.trans C.1.2.2.1.symm) (rest := rest) rfl (by rw [C.1.2.1]; exact d) hR.1 (by show 2 * 0 + _ + _ ≤ _; omega)
  have e1 : copied (vp_cell (X.2.2 2) (n0, .inr (.inr (.inr (.inr f))))) (vp_cell (X.2.2 2) (n1, .inr (.inr (.inr (.inr g))))) 0 0 n = vp_cell (X.2.2 2) (n1, .inr (.inr (.inr (.inr (va_cpy f g 0 0 n.toNatClampNeg))))) := by
    rw [vp_cell_q, vp_cell_q, vp_cell_q]
    exact va_copied (fun z => va_rf z) _ _ f g (by rw [z0]; omega)
  rw [e1] at X' step
  have hl : a < H.size := (Array.getElem?_eq_some_iff.mp hc1).1
  have hheap : ((T.setVm vm').setCell a (vp_cell (X.2.2 2) (n1, .inr (.inr (.inr (.inr (va_cpy f g 0 0 n.toNatClampNeg))))))).heap = H.setIfInBounds a (vp_cell (X.2.2 2) (n1, .inr (.inr (.inr (.inr (va_cpy f g 0 0 n.toNatClampNeg)))))) := by rw [← hT]; rfl
  have oq : ∀ q : Nat, q ≠ a → (H.setIfInBounds a (vp_cell (X.2.2 2) (n1, .inr (.inr (.inr (.inr (va_cpy f g 0 0 n.toNatClampNeg)))))))[q]? = H[q]? := fun q hq => by simp [Array.getElem?_setIfInBounds, Ne.symm hq]
  obtain ⟨t, a1, b1⟩ := kk _ _ _ ⟨⟨by simp; exact I.1.1, fun q g1 g2 => by
      rw [oq q (fun e => g2 (by rw [e]; exact hb1))]
      exact I.1.2.1 q g1 g2, fun q hq => by
      rcases List.mem_append.mp hq with h | h
      · exact I.1.2.2 q h
      · obtain ⟨z, -, hz⟩ := List.mem_map.mp h
        rw [← hz]
        exact hb1⟩, I.2.up (e := zA n1 (va_cpy f g 0 0 n.toNatClampNeg)) h1 zA_ne zA_ne hb1 (by simp) oq ⟨hb1, by simp [Array.getElem?_setIfInBounds, hl]⟩⟩ rfl _ hheap X'
  exact ⟨t, step t a1, b1⟩
end ZE
