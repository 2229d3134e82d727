/-! THE CLAIM OUT OF ONE WALK OF THE LAW'S BODY. Your part is whole_start (and what it stands on); all else here is the same for every law, but numbers. -/
def R_law : String := "SchemaSubjectsLaw"
def lw_P (b : Addr) (xs : List Int32) (args : Array Value) (s : State) : Prop := args = #[.ref b] ∧ s.IntsAt b xs ∧ xs.length ≤ 260 ∧ (Jvm.Cond.and given_1 narrow_1).before args s = true
def lw_Q (_ : Array Value) (s : State) (o : Outcome) (t : State) : Prop := o = .returned (some (.int 1)) ∧ Framed s o t [] 777227 6769943
def lw_Z (below : List Frame) (a : Array Value) (s : State) : State → Prop := fun t => ∃ o, t.status = .running ∧ Ended t below o ∧ lw_Q a s o t
/-- the law's own end, with 1 on the stack, nothing written that was there before, its room as the claim has it -/
theorem lw_ret {p : Program} {l : Launch} {e : Env} {s : State} {m : MethodId} {below : List Frame} {meth : Method} {c : Code} {b : Nat} (hx : p.tables.exec = Jvm.exec) (hb : c.code = code) (hr : meth.sig.returnType = ret) (hlocks : meth.locks = false) {pc : Nat} {H : Heap} {ls : Array Slot} (hdg : decode code pc = .ok (.ireturn, 1)) : W p l e room_1 s m #[Value.ref b] below meth c H [] 777227 6769943 (lw_Z below #[Value.ref b] s) (F0 m pc ls [.int 1]) := by
  intro T hT X
  obtain ⟨fs, hret, hrun, hended, hW, hframe⟩ := X.leave (v := some (.int 1)) (hlocks := hlocks) (fun h => by rw [hr] at h; cases h)
  have hmeth' : T.vm.method? m = some meth := X.method'
  refine ⟨T.setFrames fs, ?_, .returned (some (.int 1)), hrun, hended, rfl, ⟨_, rfl⟩, hW, hframe⟩
  jvm_step X.here [X.here.top, hx, hb, hdg, hmeth', hr, ret, narrow_b1]
  (try refine ⟨rfl, ?_⟩); (try refine ⟨rfl, ?_⟩)
  first | (intro acts; rw [hret _ acts rfl rfl rfl]) | rw [hret _ _ rfl rfl rfl]
  exact Steps.refl _
/-- what holds at the law's entry: the machine, the code, the tables' words (any of lw_tbl by 'hts w (by decide +kernel)'), the script of L ints xs at the cell b, what the Statement gives of the start (any of its parts by flat_of_before) -/
def lw_At (p : Program) (s : State) (m : MethodId) (meth : Method) (c : Code) (b L : Nat) (xs : Nat → Int32) : Prop :=
  p.tables.exec = Jvm.exec ∧ c.code = code ∧ meth.sig.returnType = ret ∧ c.maxLocals = 6 ∧ s.vm.findClass R_law = some m.cls ∧ (∀ w ∈ lw_tbl, w.before #[Value.ref b] s = true) ∧ va_X b L xs s s.heap ∧ b < s.heap.size ∧ meth.locks = false ∧ (Jvm.Cond.and given_1 narrow_1).before #[Value.ref b] s = true
/-! ===== the law's start ===== -/
theorem z_arr {s : State} {A : Array Value} {ty : FieldType} (hne : ∀ C, ty ≠ .object C) (h : (Cond.arrayClass ty).before A s = true) : ∃ cA : ClassId, ArrOfT s cA ty ∧ va_RA s cA ty := by
  obtain ⟨c, k, comp, h1, h2, h3⟩ := Cond.arrayClass_spec h
  refine ⟨c, fun n z => ⟨fun _ h => (by cases h), k, h2, comp, h3⟩, ?_⟩
  cases ty with
  | object C => exact absurd rfl (hne C)
  | _ => exact h1
theorem z_arrO {s : State} {A : Array Value} (h : (Cond.arrayOver (.object "java/lang/Object")).before A s = true) : ∃ cA : ClassId, ArrOfT s cA (.object "java/lang/Object") ∧ va_RA s cA (.object "java/lang/Object") := by
  obtain ⟨comp, c, k, h1, h2, h3, h4, h5⟩ := Cond.arrayOver_spec h
  exact ⟨c, fun n z => ⟨fun _ h => (by cases h), k, h3, comp, h4⟩, k, comp, h3, h4, h1, h5⟩
theorem z_kn {s : State} {A : Array Value} (hts : ∀ w ∈ lw_tbl, w.before A s = true) {Cn : String} {T : u_T} {N : Nat} (hin : ∀ w ∈ u_ws Cn T N, w ∈ zG) (hi : Cond.instantiable Cn N ∈ zG) : ∃ (cC : ClassId) (iS : Nat → Nat), u_Kn s Cn T N cC iS :=
  u_known (ws := lw_tbl) hts (fun w h => (List.mem_filter.mp (hin w h)).1) (hts _ (List.mem_filter.mp hi).1)
theorem z_str {s : State} {A : Array Value} (hts : ∀ w ∈ lw_tbl, w.before A s = true) : ∀ (own : String) (k : Nat) (tx : String), Cond.stringRef own k tx ∈ lw_tbl → ∃ a, vk_R own k tx a s := by
  intro own k tx hw
  have h := hts _ hw
  cases hc : s.vm.findClass own with
  | none =>
    simp only [Cond.before, Cond.holds, Cond.value] at h
    simp [hc] at h
  | some cur =>
    obtain ⟨-, -, -, a, -, -, -, -, -, h6⟩ := Cond.stringRef_spec hc h
    refine ⟨a, ?_, ?_⟩
    · first
        | exact va_tabs rfl rfl h
        | (simp only [Cond.before, Cond.holds, Cond.value, State.names, State.poolOf?, State.resolvedAt?] at h ⊢; exact h)
    · first
        | exact h6
        | simpa [Term.eval] using h6
theorem z_start {s : State} {b L : Nat} {xs : Nat → Int32} (l : Launch) (hflags : l.flags = flags0) (hts : ∀ w ∈ lw_tbl, w.before #[Value.ref b] s = true) (hX : va_X b L xs s s.heap) (hbl : b < s.heap.size) (hgv : (Jvm.Cond.and given_1 narrow_1).before #[Value.ref b] s = true) :
    ∃ (X : zX) (M0 : zM) (t : Nat), X.1 = s ∧ zEnv X l ∧ zNcs X ∧ zRep X M0 s.heap ∧ M0 b = some (zS L xs) ∧ M0 t = some zN ∧ t ≠ b ∧ ∀ q, q ≠ b → q ≠ t → M0 q = none := by
  have hs := flat_of_before _ hgv
  obtain ⟨d0, i0, k0⟩ := z_kn hts zin_0 zw44
  obtain ⟨d1, i1, k1⟩ := z_kn hts zin_1 zw374
  obtain ⟨d2, i2, k2⟩ := z_kn hts zin_2 zw156
  obtain ⟨d3, i3, k3⟩ := z_kn hts zin_3 zw148
  obtain ⟨d4, i4, k4⟩ := z_kn hts zin_4 zw70
  obtain ⟨d5, i5, k5⟩ := z_kn hts zin_5 zw532
  obtain ⟨d6, i6, k6⟩ := z_kn hts zin_6 zw36
  obtain ⟨c0, e0⟩ := z_arr (fun _ h => by cases h) (hts _ (List.mem_filter.mp zw168).1)
  have hover : (Cond.arrayOver (.object "java/lang/Object")).before #[Value.ref b] s = true := hts _ (List.mem_of_getElem? (i := 137) (by decide +kernel))
  obtain ⟨c2, e2⟩ := z_arrO hover
  have hA : ∀ a : Nat, a < s.heap.size → ¬ s.heap.size ≤ a := fun a h => Nat.not_le.mpr h
  let D : va_G := (fun k => match k with | 0 => d0 | 1 => d1 | 2 => d2 | 3 => d3 | 4 => d4 | 5 => d5 | _ => d6, fun k => match k with | 0 => i0 | 1 => i1 | 2 => i2 | 3 => i3 | 4 => i4 | 5 => i5 | _ => i6)
  let cA : Nat → ClassId := fun k => match k with | 0 => c0 | 1 => c0 | _ => c2
  have hK : va_K D vwCl (zTys cA) s := by
    refine ⟨fun k q hq => ?_, fun k q hq => ?_⟩
    · match k, hq with
      | 0, hq => cases hq; exact k0
      | 1, hq => cases hq; exact k1
      | 2, hq => cases hq; exact k2
      | 3, hq => cases hq; exact k3
      | 4, hq => cases hq; exact k4
      | 5, hq => cases hq; exact k5
      | 6, hq => cases hq; exact k6
      | k + 7, hq => simp [vwCl] at hq
    · match k, hq with
      | 0, hq => cases hq; exact e0
      | 1, hq => cases hq; exact e0
      | 2, hq => cases hq; exact e2
      | k + 3, hq => simp [zTys] at hq
  have hlen : (Term.length (.static "java/util/ArrayList" "DEFAULTCAPACITY_EMPTY_ELEMENTDATA" "[Ljava/lang/Object;")).eval #[Value.ref b] s none [] s = some (.int (Int32.ofNat 0)) := va_eqt (hs _ (by decide +kernel))
  obtain ⟨t, ht, hT⟩ := va_Tof (N := 0) (f := fun _ => .null) (A := fun q => s.heap.size ≤ q) (by decide) (hs (Cond.arrayOf (.static "java/util/ArrayList" "DEFAULTCAPACITY_EMPTY_ELEMENTDATA" "[Ljava/lang/Object;") (.object "java/lang/Object")) (by decide +kernel)) hlen (fun j hj => absurd hj (Nat.not_lt_zero j)) hA
  have hZ : va_Z "java/util/ArrayList" "DEFAULTCAPACITY_EMPTY_ELEMENTDATA" "[Ljava/lang/Object;" (.ref t) (fun q => s.heap.size ≤ q) s s.heap := va_Zref (hts _ (List.mem_of_getElem? (i := 56) (by decide +kernel))) (hts _ (List.mem_of_getElem? (i := 17) (by decide +kernel))) ht hA
  have htb : t ≠ b := by
    intro h
    subst h
    obtain ⟨scr, g1, ⟨-, kk, g3, cp, g4⟩, -⟩ := hX
    obtain ⟨cell, q1, ⟨-, kk', q3, cp', q4⟩, -⟩ := hT
    cases g1.symm.trans q1
    cases g3.symm.trans q3
    rw [g4] at q4
    cases q4
  refine ⟨(s, D, cA), fun q => if q = b then some (zS L xs) else if q = t then some zN else none, t, rfl, ⟨?_, hK, ⟨_, hts⟩, ⟨?_, ?_⟩, z_str hts, va_Mi.of (hs _ (by decide +kernel)), va_AO.of hover⟩, ?_, ⟨Nat.le_refl _, fun _ _ => rfl, fun a e ha => ?_, t, ?_, fun q hq => ?_⟩, ?_, ?_, htb, ?_⟩
  · show (!l.flags.contains noTraceFlag) = false
    rw [hflags]
    decide +kernel
  · exact vx_Zqof (hts _ (List.mem_of_getElem? (i := 256) (by decide +kernel))) (hts _ (List.mem_of_getElem? (i := 25) (by decide +kernel))) (hs _ (by decide +kernel)) hA
  · exact vx_Zqof (hts _ (List.mem_of_getElem? (i := 258) (by decide +kernel))) (hts _ (List.mem_of_getElem? (i := 25) (by decide +kernel))) (hs _ (by decide +kernel)) hA
  · have h12 : va_Nc (zXn 1) (zXn 2) s := va_Nc.of (hs (.not (.castable (zXn 1) (zXn 2))) (by decide +kernel))
    have h13 : va_Nc (zXn 1) (zXn 3) s := va_Nc.of (hs (.not (.castable (zXn 1) (zXn 3))) (by decide +kernel))
    have h21 : va_Nc (zXn 2) (zXn 1) s := va_Nc.of (hs (.not (.castable (zXn 2) (zXn 1))) (by decide +kernel))
    have h23 : va_Nc (zXn 2) (zXn 3) s := va_Nc.of (hs (.not (.castable (zXn 2) (zXn 3))) (by decide +kernel))
    have h31 : va_Nc (zXn 3) (zXn 1) s := va_Nc.of (hs (.not (.castable (zXn 3) (zXn 1))) (by decide +kernel))
    have h32 : va_Nc (zXn 3) (zXn 2) s := va_Nc.of (hs (.not (.castable (zXn 3) (zXn 2))) (by decide +kernel))
    intro j k hj hk hne
    rcases hj with rfl | rfl | rfl <;> rcases hk with rfl | rfl | rfl <;> first | exact absurd rfl hne | assumption
  · dsimp only at ha
    split at ha
    · next h => cases ha; subst h; exact ⟨hX, hA _ hbl⟩
    · split at ha
      · next h => cases ha; subst h; exact ⟨hT, hZ⟩
      · cases ha
  · simp [htb]
  · dsimp only at hq
    split at hq
    · cases hq
    · split at hq
      · next h => exact h
      · cases hq
  · simp
  · simp [htb]
  · intro q h1 h2
    simp [h1, h2]
