/-! ===== rows over that memory ===== -/
/-- a field's certificate: the pool entry idx of the class own is field k of the class ci -/
def zFl (own : String) (idx ci k : Nat) (Cn : String) (T : u_T) (N : Nat) (ty : Nat → FieldType) : Prop :=
  vwCl[ci]? = some (Cn, T, N) ∧ (∀ w ∈ u_ws Cn T N, w ∈ zG) ∧ (∀ k, k < N → parseFieldDescriptor (T k).2.2.1 = some (ty k)) ∧ (∀ a, a < N → ∀ b, b < N → a ≠ b → (T a).2.1 ≠ (T b).2.1) ∧ k < N ∧
  ∃ ref, Cond.fieldLink own idx ref (T k).2.1 (T k).2.2.1 ∈ zG ∧ (ref = (T k).1 ∨ Cond.sameField ref (T k).1 (T k).2.1 (T k).2.2.1 ∈ zG)
def zGi (M : zM) (a ci k : Nat) (K : Int32 → Prop) : Prop := ∃ fs v, M a = some (zO ci fs) ∧ fs[k]? = some (.int v) ∧ K v
def zGr (M : zM) (a ci k : Nat) (K : Nat → Prop) : Prop := ∃ fs v, M a = some (zO ci fs) ∧ fs[k]? = some (.ref v) ∧ K v
def zGo (M : zM) (a ci k : Nat) (K : Option Nat → Prop) : Prop := ∃ fs v, M a = some (zO ci fs) ∧ fs[k]? = some (va_rf v) ∧ K v
def zPu (M : zM) (a ci k : Nat) (v : Value) (K : zM → Prop) : Prop := ∃ fs, M a = some (zO ci fs) ∧ k < fs.length ∧ K (zUp M a (zO ci (fs.set k v)))
def zAi (M : zM) (t a : Nat) (i : Int32) (K : Int32 → Prop) : Prop := ∃ n f, M a = some (zI t n f) ∧ vp_in i n ∧ K (f i.toNatClampNeg)
def zAo (M : zM) (a : Nat) (i : Int32) (K : Option Nat → Prop) : Prop := ∃ n f, M a = some (zA n f) ∧ vp_in i n ∧ K (f i.toNatClampNeg)
def zAl (M : zM) (a : Nat) (i : Int32) (K : Int64 → Prop) : Prop := ∃ n f, M a = some (zJ n f) ∧ vp_in i n ∧ K (f i.toNatClampNeg)
def zAs (M : zM) (a : Nat) (i : Int32) (K : Int32 → Prop) : Prop := ∃ n f, M a = some (zS n f) ∧ vp_in i n ∧ K (f i.toNatClampNeg)
def zSi (M : zM) (a : Nat) (i x : Int32) (K : zM → Prop) : Prop := ∃ n f, M a = some (zI 0 n f) ∧ vp_in i n ∧ K (zUp M a (zI 0 n (upd f i.toNatClampNeg x)))
def zSz (M : zM) (a : Nat) (i x : Int32) (K : zM → Prop) : Prop := ∃ n f, M a = some (zI 1 n f) ∧ vp_in i n ∧ (x = 0 ∨ x = 1) ∧ K (zUp M a (zI 1 n (upd f i.toNatClampNeg x)))
def zSr (M : zM) (a : Nat) (i : Int32) (v : Nat) (K : zM → Prop) : Prop := ∃ n f ci fs, M a = some (zA n f) ∧ M v = some (zO ci fs) ∧ vp_in i n ∧ K (zUp M a (zA n (va_up f i.toNatClampNeg (some v))))
def zSn (M : zM) (a : Nat) (i : Int32) (K : zM → Prop) : Prop := ∃ n f, M a = some (zA n f) ∧ vp_in i n ∧ K (zUp M a (zA n (va_up f i.toNatClampNeg none)))
def zSl (M : zM) (a : Nat) (i : Int32) (x : Int64) (K : zM → Prop) : Prop := ∃ n f, M a = some (zJ n f) ∧ vp_in i n ∧ K (zUp M a (zJ n (vp_updL f i.toNatClampNeg x)))
def zLe (e : zE) : Option Nat := match e with
  | .inl (_, n, _) => some n
  | .inr (.inl (n, _)) => some n
  | .inr (.inr (.inl _)) => none
  | .inr (.inr (.inr (.inl _))) => none
  | .inr (.inr (.inr (.inr (.inl ())))) => some 0
  | .inr (.inr (.inr (.inr (.inr (n, _))))) => some n
def zLn (M : zM) (a : Nat) (K : Int32 → Prop) : Prop := ∃ e n, M a = some e ∧ zLe e = some n ∧ K (Int32.ofNat n)
def zNw (M : zM) (ci : Nat) (fs : List Value) (K : Nat → zM → Prop) : Prop := ∀ q, M q = none → K q (zUp M q (zO ci fs))
def zNi (M : zM) (t : Nat) (n : Int32) (mx : Nat) (K : Nat → zM → Prop) : Prop := ¬ n < 0 ∧ n.toNatClampNeg ≤ mx ∧ ∀ q, M q = none → K q (zUp M q (zI t n.toNatClampNeg (fun _ => 0)))
def zNl (M : zM) (n : Int32) (mx : Nat) (K : Nat → zM → Prop) : Prop := ¬ n < 0 ∧ n.toNatClampNeg ≤ mx ∧ ∀ q, M q = none → K q (zUp M q (zJ n.toNatClampNeg (fun _ => 0)))
def zNo (M : zM) (n : Int32) (mx : Nat) (K : Nat → zM → Prop) : Prop := ¬ n < 0 ∧ n.toNatClampNeg ≤ mx ∧ ∀ q, M q = none → K q (zUp M q (zA n.toNatClampNeg (fun _ => none)))
def zGs (M : zM) (K : Nat → Prop) : Prop := ∀ q, M q = some zN → (∀ b, M b = some zN → b = q) → K q
theorem zI_ne {t n : Nat} {f : Nat → Int32} : zI t n f ≠ zN := fun h => by cases h
theorem zA_ne {n : Nat} {f : Nat → Option Nat} : zA n f ≠ zN := fun h => by cases h
theorem zJ_ne {n : Nat} {f : Nat → Int64} : zJ n f ≠ zN := fun h => by cases h
theorem zO_ne {k : Nat} {fs : List Value} : zO k fs ≠ zN := fun h => by cases h
section ZR
variable {X : zX} {p : Program} {l : Launch} {e : Env} {R : Room} {s : State} {m : MethodId} {args : Array Value} {below : List Frame} {meth : Method} {c : Code} {H : Heap} {locs : List Loc} {cells slots : Nat} {Q : State → Prop}
variable {cc : ByteArray} {pc nL idx : Nat} {ls : Array Slot} {rest : List Value} {own nm : String} {M : zM} {a ci k : Nat} {Cn : String} {T : u_T} {N : Nat} {ty : Nat → FieldType}
theorem z_get (C : zCx X p l s m args meth c own nm cc nL) (I : zWk X s M H locs) (F : zFl own idx ci k Cn T N ty) {fs : List Value} {v : Value} (ha : M a = some (zO ci fs)) (hv : fs[k]? = some v) (d : decode cc pc = .ok (.getfield idx, 3))
    (kk : W p l e R s m args below meth c H locs cells slots Q (F0 m (pc + 3) ls (v :: rest))) : W p l e R s m args below meth c H locs cells slots Q (F0 m pc ls (.ref a :: rest)) := by
  obtain ⟨⟨hx, hb, -, hown, hts⟩, -⟩ := id C
  obtain ⟨hc, hin, hty, hnm, hk, ref, hl, hs⟩ := F
  refine va_get hx hb hts hin hown C.K (z_one (I.2.2.2.1 a _ ha).2) 0 rfl hc k hk (hts _ hl) ?_ hv d kk
  rcases hs with rfl | hs
  · exact fun _ h => h
  · exact fun x h => u_same (hts _ hs) x h
theorem z_geti (C : zCx X p l s m args meth c own nm cc nL) (I : zWk X s M H locs) (F : zFl own idx ci k Cn T N ty) {K : Int32 → Prop} (hw : zGi M a ci k K) (d : decode cc pc = .ok (.getfield idx, 3))
    (kk : ∀ v, K v → W p l e R s m args below meth c H locs cells slots Q (F0 m (pc + 3) ls (.int v :: rest))) : W p l e R s m args below meth c H locs cells slots Q (F0 m pc ls (.ref a :: rest)) := by
  obtain ⟨fs, v, h1, h2, h3⟩ := hw
  exact z_get C I F h1 h2 d (kk v h3)
theorem z_getr (C : zCx X p l s m args meth c own nm cc nL) (I : zWk X s M H locs) (F : zFl own idx ci k Cn T N ty) {K : Nat → Prop} (hw : zGr M a ci k K) (d : decode cc pc = .ok (.getfield idx, 3))
    (kk : ∀ v, K v → W p l e R s m args below meth c H locs cells slots Q (F0 m (pc + 3) ls (.ref v :: rest))) : W p l e R s m args below meth c H locs cells slots Q (F0 m pc ls (.ref a :: rest)) := by
  obtain ⟨fs, v, h1, h2, h3⟩ := hw
  exact z_get C I F h1 h2 d (kk v h3)
theorem z_geto (C : zCx X p l s m args meth c own nm cc nL) (I : zWk X s M H locs) (F : zFl own idx ci k Cn T N ty) {K : Option Nat → Prop} (hw : zGo M a ci k K) (d : decode cc pc = .ok (.getfield idx, 3))
    (kk : ∀ v, K v → W p l e R s m args below meth c H locs cells slots Q (F0 m (pc + 3) ls (va_rf v :: rest))) : W p l e R s m args below meth c H locs cells slots Q (F0 m pc ls (.ref a :: rest)) := by
  obtain ⟨fs, v, h1, h2, h3⟩ := hw
  exact z_get C I F h1 h2 d (kk v h3)
theorem z_put (C : zCx X p l s m args meth c own nm cc nL) (I : zWk X s M H locs) (F : zFl own idx ci k Cn T N ty) (hfin : (T k).2.2.2 = false) {v : Value} (hn : narrow (ty k) v = v) (hf : fits (ty k) v = true) {K : zM → Prop} (hw : zPu M a ci k v K) (d : decode cc pc = .ok (.putfield idx, 3))
    (kk : ∀ (M1 : zM) (H1 : Heap) (locs1 : List Loc), zWk X s M1 H1 locs1 → K M1 → W p l e R s m args below meth c H1 locs1 cells slots Q (F0 m (pc + 3) ls rest)) : W p l e R s m args below meth c H locs cells slots Q (F0 m pc ls (v :: .ref a :: rest)) := by
  obtain ⟨⟨hx, hb, -, hown, hts⟩, -⟩ := id C
  obtain ⟨hc, hin, hty, hnm, hk, ref, hl, hs⟩ := F
  obtain ⟨fs, ha, hlen, hK⟩ := hw
  have hKn := C.K
  obtain ⟨hbase, r, h1, cell, q1, q2, q3, q4⟩ := I.2.2.2.1 a _ ha
  have hr : r = (Cn, T, N) := Option.some.inj (h1.symm.trans hc)
  subst hr
  have hap := va_apart (own := own) hts hin ty hty hnm hKn hc
  obtain ⟨hS, hfc, kC, hkC, hkind⟩ := hKn.1 ci _ hc
  obtain ⟨cf, kf, fi, f, hi, hsl⟩ := hS k hk
  have hlay := hts _ (hin _ (u_in_lay hk))
  unfold u_lay at hlay
  rw [if_neg (by rw [hfin]; decide)] at hlay
  have hst := (u_facts hfc hkC (u_lays hts hin hk) hi).1
  have h6 := u_store hfc hkC hkind hlay hi (hty k hk) hn hf
  have hsame : ∀ x, s.fieldFound? (T k).1 (T k).2.1 (T k).2.2.1 = some x → s.fieldFound? ref (T k).2.1 (T k).2.2.1 = some x := by
    rcases hs with rfl | hs
    · exact fun _ h => h
    · exact fun x h => u_same (hts _ hs) x h
  refine W.putK hx hb (f := f) ⟨hown, hts _ hl, ⟨_, _, _, hsame _ hi⟩, hst⟩ (by rw [q2]; exact h6) q1 q3 (by rw [hsl]; exact k2_hasslot (q4 k hk)) rfl rfl d fun H' e1 e2 e3 => ?_
  rw [hsl] at e1
  exact kk _ _ _ (I.put (e := zO ci (fs.set k v)) ha zO_ne zO_ne hbase e2 e3 ⟨hbase, _, hc, t_OB.to (V := updV (vp_V fs) k v) ⟨_, e1, q2, q3, t_set q4 hap hk v⟩ (fun j _ => vp_updV_set hlen v j)⟩) hK
theorem z_putF (C : zCx X p l s m args meth c own nm cc nL) (I : zWk X s M H locs) (F : zFl own idx ci k Cn T N ty) (hfin : (T k).2.2.2 = true) (hnmi : nm = "<init>") (hdecl : (T k).1 = own) {v : Value} (hn : narrow (ty k) v = v) (hf : fits (ty k) v = true) {K : zM → Prop} (hw : zPu M a ci k v K) (d : decode cc pc = .ok (.putfield idx, 3))
    (kk : ∀ (M1 : zM) (H1 : Heap) (locs1 : List Loc), zWk X s M1 H1 locs1 → K M1 → W p l e R s m args below meth c H1 locs1 cells slots Q (F0 m (pc + 3) ls rest)) : W p l e R s m args below meth c H locs cells slots Q (F0 m pc ls (v :: .ref a :: rest)) := by
  obtain ⟨⟨hx, hb, -, hown, hts⟩, -, hname, -⟩ := id C
  obtain ⟨hc, hin, hty, hnm, hk, ref, hl, hs⟩ := F
  obtain ⟨fs, ha, hlen, hK⟩ := hw
  have hKn := C.K
  obtain ⟨hbase, r, h1, cell, q1, q2, q3, q4⟩ := I.2.2.2.1 a _ ha
  have hr : r = (Cn, T, N) := Option.some.inj (h1.symm.trans hc)
  subst hr
  have hap := va_apart (own := own) hts hin ty hty hnm hKn hc
  obtain ⟨hS, hfc, kC, hkC, hkind⟩ := hKn.1 ci _ hc
  obtain ⟨cf, kf, fi, f, hi, hsl⟩ := hS k hk
  have hlay := hts _ (hin _ (u_in_lay hk))
  unfold u_lay at hlay
  rw [if_pos hfin] at hlay
  have hst := (u_facts hfc hkC (u_lays hts hin hk) hi).1
  have hcf : m.cls = cf := by
    obtain ⟨_, _, c', _, _, _, -, -, hf', -, -, -, hown2, -⟩ := Cond.laysFinal_spec hlay
    have e1 : c' = cf := by have := hi.symm.trans hf'; simp at this; exact this.1.symm
    rw [hdecl] at hown2
    rw [← e1]; exact Option.some.inj (hown.symm.trans hown2)
  have h6 := u_fits hfc hkC hkind (Or.inr hlay) hi (hty k hk) hn hf
  have hsame : ∀ x, s.fieldFound? (T k).1 (T k).2.1 (T k).2.2.1 = some x → s.fieldFound? ref (T k).2.1 (T k).2.2.1 = some x := by
    rcases hs with rfl | hs
    · exact fun _ h => h
    · exact fun x h => u_same (hts _ hs) x h
  refine W.putFinK hx hb hown (hts _ hl) (hsame _ hi) hst hcf (hname.trans hnmi) (by rw [q2]; exact h6) q1 q3 (by rw [hsl]; exact k2_hasslot (q4 k hk)) rfl rfl d fun H' e1 e2 e3 => ?_
  rw [hsl] at e1
  exact kk _ _ _ (I.put (e := zO ci (fs.set k v)) ha zO_ne zO_ne hbase e2 e3 ⟨hbase, _, hc, t_OB.to (V := updV (vp_V fs) k v) ⟨_, e1, q2, q3, t_set q4 hap hk v⟩ (fun j _ => vp_updV_set hlen v j)⟩) hK
/-! rows of numbers and references -/
theorem z_iald (C : zCx X p l s m args meth c own nm cc nL) (I : zWk X s M H locs) {i : Int32} {K : Int32 → Prop} (hw : zAi M 0 a i K) (d : decode cc pc = .ok (.iaload, 1))
    (kk : ∀ v, K v → W p l e R s m args below meth c H locs cells slots Q (F0 m (pc + 1) ls (.int v :: rest))) : W p l e R s m args below meth c H locs cells slots Q (F0 m pc ls (.int i :: .ref a :: rest)) := by
  obtain ⟨n, f, ha, hin, hK⟩ := hw
  obtain ⟨-, hat⟩ := I.2.2.2.1 a _ ha
  exact va_iald C.1.1 C.1.2.1 C.K (z_one (D := X.2.1) (cl := vwCl) (q := (a, .inl (X.2.2 0, n, .inl f))) hat) 0 0 rfl rfl hin d (kk _ hK)
theorem z_aald (C : zCx X p l s m args meth c own nm cc nL) (I : zWk X s M H locs) {i : Int32} {K : Option Nat → Prop} (hw : zAo M a i K) (d : decode cc pc = .ok (.aaload, 1))
    (kk : ∀ v, K v → W p l e R s m args below meth c H locs cells slots Q (F0 m (pc + 1) ls (va_rf v :: rest))) : W p l e R s m args below meth c H locs cells slots Q (F0 m pc ls (.int i :: .ref a :: rest)) := by
  obtain ⟨n, f, ha, hin, hK⟩ := hw
  obtain ⟨-, hat⟩ := I.2.2.2.1 a _ ha
  exact va_aldq C.1.1 C.1.2.1 C.K (z_one (D := X.2.1) (cl := vwCl) (q := (a, .inl (X.2.2 2, n, .inr (.inr (.inr (.inr f)))))) hat) 0 2 rfl rfl hin d (kk _ hK)
theorem z_sald (C : zCx X p l s m args meth c own nm cc nL) (I : zWk X s M H locs) {i : Int32} {K : Int32 → Prop} (hw : zAs M a i K) (d : decode cc pc = .ok (.iaload, 1))
    (kk : ∀ v, K v → W p l e R s m args below meth c H locs cells slots Q (F0 m (pc + 1) ls (.int v :: rest))) : W p l e R s m args below meth c H locs cells slots Q (F0 m pc ls (.int i :: .ref a :: rest)) := by
  obtain ⟨n, f, ha, hin, hK⟩ := hw
  obtain ⟨⟨scr, h1, h2, h3, h4, h5⟩, hnb⟩ := I.2.2.2.1 a _ ha
  have hlt : i.toNatClampNeg < n := Nat.not_le.mp fun q => hin (Or.inr q)
  exact W.iald (v := .int (f i.toNatClampNeg)) C.1.1 C.1.2.1 (by rw [I.2.2.1 a (Nat.not_le.mp hnb)]; exact h1) (State.isArrayOf_alike C.2.2.2.1.alike h2) h3 (by rw [h4]; exact hin) (h5 _ hlt) rfl rfl d (kk _ hK)
theorem z_iast (C : zCx X p l s m args meth c own nm cc nL) (I : zWk X s M H locs) {i x : Int32} {K : zM → Prop} (hw : zSi M a i x K) (d : decode cc pc = .ok (.iastore, 1))
    (kk : ∀ (M1 : zM) (H1 : Heap) (locs1 : List Loc), zWk X s M1 H1 locs1 → K M1 → W p l e R s m args below meth c H1 locs1 cells slots Q (F0 m (pc + 1) ls rest)) : W p l e R s m args below meth c H locs cells slots Q (F0 m pc ls (.int x :: .int i :: .ref a :: rest)) := by
  obtain ⟨n, f, ha, hin, hK⟩ := hw
  obtain ⟨⟨ht, hbase⟩, hat⟩ := I.2.2.2.1 a _ ha
  refine W.iast C.1.1 C.1.2.1 hat ((C.K.2 0 _ rfl).1 n (fun j => .int (f j))) (fun q => by cases q) (by show ¬ (i < 0 ∨ (arrV _ _ _).slots.size ≤ _); rw [arrV_size]; exact hin) rfl rfl d fun H1 e z oq => ?_
  refine kk _ _ _ (I.put ha zI_ne zI_ne hbase z oq ⟨⟨ht, hbase⟩, e.trans ?_⟩) hK
  rw [vp_cell_i, vp_cell_i, arrV_store]
  congr 2
  funext q
  by_cases hq : q = i.toNatClampNeg
  · simp [updV, upd, hq]
  · simp [updV, upd, hq]
theorem z_nz {x : Int32} (h : x = 0 ∨ x = 1) : narrow .boolean (.int x) = .int x := by rcases h with rfl | rfl <;> rfl
theorem z_aastN (C : zCx X p l s m args meth c own nm cc nL) (I : zWk X s M H locs) {i : Int32} {K : zM → Prop} (hw : zSn M a i K) (d : decode cc pc = .ok (.aastore, 1))
    (kk : ∀ (M1 : zM) (H1 : Heap) (locs1 : List Loc), zWk X s M1 H1 locs1 → K M1 → W p l e R s m args below meth c H1 locs1 cells slots Q (F0 m (pc + 1) ls rest)) : W p l e R s m args below meth c H locs cells slots Q (F0 m pc ls (.null :: .int i :: .ref a :: rest)) := by
  obtain ⟨n, f, ha, hin, hK⟩ := hw
  obtain ⟨hbase, hat⟩ := I.2.2.2.1 a _ ha
  refine va_WaastN (C := "java/lang/Object") C.1.1 C.1.2.1 hat ((C.K.2 2 _ rfl).1 n (fun j => va_rf (f j))) (fun q => by cases q) (by show ¬ (i < 0 ∨ (arrV _ _ _).slots.size ≤ _); rw [arrV_size]; exact hin) rfl rfl d fun H1 e z oq => ?_
  refine kk _ _ _ (I.put ha zA_ne zA_ne hbase z oq ⟨hbase, e.trans ?_⟩) hK
  rw [vp_cell_q, vp_cell_q, arrV_store]
  congr 2
  funext q
  by_cases hq : q = i.toNatClampNeg
  · simp [updV, va_up, va_rf, hq]
  · simp [updV, va_up, hq]
/-- every class of ours may stand in a row of objects -/
def zCast : Prop := ∀ (k : Nat) (q : vw_C), vwCl[k]? = some q → Cond.castable q.1 "java/lang/Object" ∈ zG
theorem z_any (C : zCx X p l s m args meth c own nm cc nL) (hcast : zCast) (I : zWk X s M H locs) {v : Nat} {fs : List Value} (hv : M v = some (zO ci fs)) : va_Any "java/lang/Object" s H v := by
  obtain ⟨-, r, hc, hob⟩ := I.2.2.2.1 v _ hv
  refine va_rAny C.K (z_one (q := (v, .inr (ci, fs))) (I.2.2.2.1 v _ hv).2) (q0 := 0) rfl hc fun comp c0 h1 h2 => ?_
  obtain ⟨x, y, g1, g2, g3⟩ := Cond.castable_spec (C.1.2.2.2.2 _ (hcast ci r hc))
  cases Option.some.inj (g1.symm.trans h2)
  cases Option.some.inj (g2.symm.trans h1)
  exact g3
theorem z_aast (C : zCx X p l s m args meth c own nm cc nL) (hcast : zCast) (I : zWk X s M H locs) {i : Int32} {v : Nat} {K : zM → Prop} (hw : zSr M a i v K) (d : decode cc pc = .ok (.aastore, 1))
    (kk : ∀ (M1 : zM) (H1 : Heap) (locs1 : List Loc), zWk X s M1 H1 locs1 → K M1 → W p l e R s m args below meth c H1 locs1 cells slots Q (F0 m (pc + 1) ls rest)) : W p l e R s m args below meth c H locs cells slots Q (F0 m pc ls (.ref v :: .int i :: .ref a :: rest)) := by
  obtain ⟨n, f, cj, fs, ha, hv, hin, hK⟩ := hw
  obtain ⟨hbase, hat⟩ := I.2.2.2.1 a _ ha
  have hlt : i.toNatClampNeg < n := Nat.not_le.mp fun q => hin (Or.inr q)
  have h0 : ¬ i < 0 := fun q => hin (Or.inl q)
  obtain ⟨cellV, g1, g3, ⟨kC, hkC⟩, hasg⟩ := z_any C hcast I hv
  obtain ⟨kA, comp, k1, k2, k3, -⟩ := (C.K.2 2 _ rfl).2
  obtain ⟨kE, hkE, -⟩ := Vm.findClass_spec k3
  refine W.aast C.1.1 C.1.2.1 hat (fun q h => by cases h) (fun h => by cases h) k1 k2 rfl hkE ⟨h0, by show _ < (arrV _ _ _).slots.size; rw [arrV_size]; exact hlt⟩ g1 (fun q h => by rw [h] at g3; cases g3) hkC (hasg _ k3) rfl rfl d fun H1 e z oq => ?_
  refine kk _ _ _ (I.put ha zA_ne zA_ne hbase z oq ⟨hbase, e.trans ?_⟩) hK
  rw [vp_cell_q, vp_cell_q, arrV_store]
  congr 2
  funext q
  by_cases hq : q = i.toNatClampNeg
  · simp [updV, va_up, va_rf, hq]
  · simp [updV, va_up, hq]
theorem z_alen (C : zCx X p l s m args meth c own nm cc nL) (I : zWk X s M H locs) {K : Int32 → Prop} (hw : zLn M a K) (d : decode cc pc = .ok (.arraylength, 1))
    (kk : ∀ v, K v → W p l e R s m args below meth c H locs cells slots Q (F0 m (pc + 1) ls (.int v :: rest))) : W p l e R s m args below meth c H locs cells slots Q (F0 m pc ls (.ref a :: rest)) := by
  obtain ⟨e, n, ha, hn, hK⟩ := hw
  have hz := I.2.2.2.1 a _ ha
  obtain ⟨t, n', f⟩ | ⟨n', f⟩ | ⟨n', f⟩ | ⟨k', fs⟩ | u | ⟨n', f⟩ := e
  · cases hn
    obtain ⟨⟨ht, hbase⟩, hat⟩ := hz
    rcases (show t = 0 ∨ t = 1 by omega) with rfl | rfl
    · exact W.alen (n := Int32.ofNat n) C.1.1 C.1.2.1 hat ((C.K.2 0 _ rfl).1 n (fun j => .int (f j))) (by rw [vp_cell_i, arrV_size] <;> rfl) rfl rfl d (kk _ hK)
    · exact W.alen (n := Int32.ofNat n) C.1.1 C.1.2.1 hat ((C.K.2 1 _ rfl).1 n (fun j => .int (f j))) (by rw [vp_cell_i, arrV_size] <;> rfl) rfl rfl d (kk _ hK)
  · cases hn
    exact W.alen (n := Int32.ofNat n) C.1.1 C.1.2.1 hz.2 ((C.K.2 2 _ rfl).1 n (fun j => va_rf (f j))) (by rw [vp_cell_q, arrV_size] <;> rfl) rfl rfl d (kk _ hK)
  · cases hn
  · cases hn
  · cases hn
    obtain ⟨⟨cell, h1, h2, h3, h4, h5, h6, h7⟩, -⟩ := hz
    exact W.alen (n := Int32.ofNat 0) C.1.1 C.1.2.1 (by rw [I.2.2.1 a (Nat.not_le.mp h7)]; exact h1) (State.isArrayOf_alike C.2.2.2.1.alike h2) h5 rfl rfl d (kk _ hK)
  · cases hn
    obtain ⟨⟨scr, h1, h2, h3, h4, h5⟩, hnb⟩ := hz
    exact W.alen (n := Int32.ofNat n) C.1.1 C.1.2.1 (by rw [I.2.2.1 a (Nat.not_le.mp hnb)]; exact h1) (State.isArrayOf_alike C.2.2.2.1.alike h2) (by rw [h4] <;> rfl) rfl rfl d (kk _ hK)
end ZR
