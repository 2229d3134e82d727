/-! ===== the pure part: two objects ===== -/
variable {M M' : zM} {n c d s i k a a1 a2 b L : Nat} {xs : Nat → Int32} {p q p' q' : Int32} {S S1 S2 : St} {D D1 D2 : Nat → Prop} {P : Int32 → zM → Prop} {PX : Nat → zM → Prop} {l : List Int32}
theorem Cmp.nz (h : Cmp a S D M) {q : Nat} (hq : D q) : ∃ e, M q = some e ∧ e ≠ zN := by
  obtain ⟨V, ad, σ, ρ, ξ, g, G, rfl⟩ := h
  obtain ⟨x, hx, rfl, hn⟩ := hq
  exact ⟨_, g.1 x hx, hn⟩
theorem Cmp.keep (h : Cmp a S D M) {D1 D1' : Nat → Prop} (nz : ∀ q, D1 q → ∃ e, M q = some e ∧ e ≠ zN) (dis : ∀ q, D1 q → ¬ D q) (K : Kp M D1 M' D1') : Cmp a S D M' := by
  obtain ⟨V, ad, σ, ρ, ξ, g, G, rfl⟩ := h
  refine ⟨V, ad, σ, ρ, ξ, g.off (fun x hx => ?_) (fun q e hq => by cases hq), G, rfl⟩
  have e := g.1 x hx
  have nd : ¬ D1 (ad x) := fun hd => by
    by_cases hz : cell ad σ ρ ξ x = zN
    · obtain ⟨e1, h1, h2⟩ := nz _ hd
      rw [e, hz] at h1
      exact h2 (Option.some.inj h1).symm
    · exact dis _ hd ⟨x, hx, rfl, hz⟩
  rw [K.1 _ _ e nd, e]
/-- two objects, apart, in their states; the script -/
def Two (b a1 a2 L : Nat) (xs : Nat → Int32) (S1 S2 : St) (M : zM) : Prop := ∃ D1 D2, Cmp a1 S1 D1 M ∧ Cmp a2 S2 D2 M ∧ (∀ q, D1 q → ¬ D2 q) ∧ M b = some (zS L xs) ∧ ¬ D1 b ∧ ¬ D2 b
theorem Two.swap (T : Two b a1 a2 L xs S1 S2 M) : Two b a2 a1 L xs S2 S1 M := by
  obtain ⟨D1, D2, c1, c2, dis, hb, n1, n2⟩ := T
  exact ⟨D2, D1, c2, c1, fun q h1 h2 => dis q h2 h1, hb, n2, n1⟩
/-- a call that ends in the state f tells -/
def Okf (C : Nat → zM → (Int32 → zM → Prop) → Prop) (f : St → Int32 × St) : Prop := ∀ a S D M P, Cmp a S D M → (∀ M' D', Kp M D M' D' → Cmp a (f S).2 D' M' → P (f S).1 M') → C a M P
theorem Two.o1 {C : Nat → zM → (Int32 → zM → Prop) → Prop} {f : St → Int32 × St} (hC : Okf C f) (T : Two b a1 a2 L xs S1 S2 M) (hP : ∀ M', Two b a1 a2 L xs (f S1).2 S2 M' → P (f S1).1 M') : C a1 M P := by
  obtain ⟨D1, D2, c1, c2, dis, hb, n1, n2⟩ := T
  refine hC a1 S1 D1 M P c1 (fun M' D' K c' => hP M' ⟨D', D2, c', c2.keep (fun q hq => c1.nz hq) dis K, fun q h1 h2 => ?_, K.1 b _ hb n1, fun h => ?_, n2⟩)
  · rcases K.2 q h1 with h | h
    · exact dis q h h2
    · obtain ⟨e, h3, -⟩ := c2.nz h2
      rw [h] at h3; cases h3
  · rcases K.2 b h with h | h
    · exact n1 h
    · rw [hb] at h; cases h
theorem Two.p2 {C : Nat → zM → (Int32 → zM → Prop) → Prop} {f : St → Int32 × St} (hC : Okf C f) (T : Two b a1 a2 L xs S1 S2 M) (hP : ∀ M', Two b a1 a2 L xs S1 (f S2).2 M' → P (f S2).1 M') : C a2 M P :=
  T.swap.o1 hC (fun M' T' => hP M' T'.swap)
theorem Two.vd (T : Two b a1 a2 L xs S1 S2 M) : Vd S1 := by
  obtain ⟨D1, D2, c1, -⟩ := T
  exact c1.vd
/-! what is asked -/
def fN (S : St) (p q : Int32) : Int32 := match sv S.2.1 S.2.2.1 p q with
  | some z => nI (S.2.2.2.1 (2, z.1, z.2))
  | none => -99999
def fL (S : St) (p q : Int32) : Int32 := match sv S.2.1 S.2.2.1 p q with
  | some z => nI (lnn S.2.2.1 (S.2.2.2.1 (2, z.1, z.2)))
  | none => -99999
def fR (S : St) (p q : Int32) : Int32 := match sv S.2.1 S.2.2.1 p q with
  | some z => bI (rcL S.2.2.1 S.2.2.2.2 (S.2.2.2.1 (2, z.1, z.2)))
  | none => -99999
def fA (S : St) (p : Int32) : Int32 := match sub p with
  | some s => if zz S.2.2.1 S.1 = 0 then -99999 else bI (accF S.2.2.1 S.2.2.2.1 s S.1 (S.2.1 s))
  | none => -99999
def fP (S : St) (p : Int32) : Int32 := match plc S.2.2.2.2 p with
  | some j => S.2.2.2.2.getD j 0
  | none => -99999
def fC (S : St) (p q p' q' : Int32) : Int32 := match sv S.2.1 S.2.2.1 p q, sv S.2.1 S.2.2.1 p' q' with
  | some z, some t => bI (canC S.2.2.1 S.2.2.2.1 (S.2.2.2.1 (2, z.1, z.2)) (S.2.2.2.1 (2, t.1, t.2)))
  | _, _ => -99999
def fAl (S : St) (p q p' q' : Int32) : Int32 := match sv S.2.1 S.2.2.1 p q, sv S.2.1 S.2.2.1 p' q' with
  | some z, some t => if prd (pl S.2.2.1 (S.2.2.2.1 (2, t.1, t.2))) (lnn S.2.2.1 (S.2.2.2.1 (2, t.1, t.2))) 0 ≤ 300 then bI (canC S.2.2.1 S.2.2.2.1 (S.2.2.2.1 (2, z.1, z.2)) (S.2.2.2.1 (2, t.1, t.2))) else -99999
  | _, _ => -99999
def fRd (S : St) (p q p' q' : Int32) : Int32 × St := match sv S.2.1 S.2.2.1 p q, sv S.2.1 S.2.2.1 p' q' with
  | some z, some t => if rcL S.2.2.1 S.2.2.2.2 (S.2.2.2.1 (2, t.1, t.2)) = true then (match rdF S.2.2.1 S.2.2.2.1 (fun j => S.2.2.2.2.getD j 0) 45 (S.2.2.2.1 (2, z.1, z.2)) (S.2.2.2.1 (2, t.1, t.2)) 0 with
    | some l => (nI l.length, stL S l)
    | none => (-99999, S)) else (-99999, S)
  | _, _ => (-99999, S)
theorem br_e {t : Bool} {P : Int32 → zM → Prop} {M : zM} (h : P (bI t) M) : (bI t = 0 → P 0 M) ∧ (¬ bI t = 0 → P 1 M) := br_01 h
theorem ok_num (p q : Int32) : Okf (fun a M P => w_L_does_7 a p q M P) (fun S => (fN S p q, S)) := fun a S D M P h hP => by
  have hP := hP M D Kp.rf h
  simp only [fN] at hP
  exact r_number h (fun z e => by rw [e] at hP; exact hP) (fun e k hk => by rw [e] at hP; exact ex_k hk hP)
theorem ok_len (p q : Int32) : Okf (fun a M P => w_L_does_8 a p q M P) (fun S => (fL S p q, S)) := fun a S D M P h hP => by
  have hP := hP M D Kp.rf h
  simp only [fL] at hP
  exact r_length h (fun z e => by rw [e] at hP; exact hP) (fun e k hk => by rw [e] at hP; exact ex_k hk hP)
theorem ok_rec (p q : Int32) : Okf (fun a M P => w_L_does_10 a p q M P) (fun S => (fR S p q, S)) := fun a S D M P h hP => by
  have hP := hP M D Kp.rf h
  simp only [fR] at hP
  exact r_isRecord h (fun z e => by rw [e] at hP; exact br_e hP) (fun e k hk => by rw [e] at hP; exact ex_k hk hP)
theorem ok_acc (p q : Int32) : Okf (fun a M P => w_L_does_1 a p q M P) (fun S => (fA S p, S)) := fun a S D M P h hP => by
  have hP := hP M D Kp.rf h
  simp only [fA] at hP
  refine r_isAccepted h (fun s e hz => ?_) (fun e k hk => ?_)
  · rw [e] at hP
    simp only [if_neg hz] at hP
    exact br_e hP
  · rcases e with e | e
    · rw [e] at hP; exact ex_k hk hP
    · cases e2 : sub p with
      | none => rw [e2] at hP; exact ex_k hk hP
      | some s => rw [e2] at hP; simp only [if_pos e] at hP; exact ex_k hk hP
theorem ok_at (p q : Int32) : Okf (fun a M P => w_L_does_11 a p q M P) (fun S => (fP S p, S)) := fun a S D M P h hP => by
  have hP := hP M D Kp.rf h
  simp only [fP] at hP
  exact r_valueAt h (fun z e => by rw [e] at hP; exact hP) (fun e k hk => by rw [e] at hP; exact ex_k hk hP)
theorem ok_can (p p' : Int32) : Okf (fun a M P => w_L_reads_0 a p p' M P) (fun S => (fC S (p / 6) (p - p / 6 * 6) (p' / 6) (p' - p' / 6 * 6), S)) := fun a S D M P h hP => by
  have hP := hP M D Kp.rf h
  simp only [fC] at hP
  refine r_canRead h (fun z t e e' => by rw [e, e'] at hP; exact br_e hP) (fun e k hk => ?_)
  rcases e with e | e
  · rw [e] at hP; exact ex_k hk hP
  · rw [e] at hP
    have hP : P (-99999) M := by
      split at hP
      · next q => cases q
      · exact hP
    exact ex_k hk hP
theorem ok_all (p p' : Int32) : Okf (fun a M P => w_L_reads_1 a p p' M P) (fun S => (fAl S (p / 6) (p - p / 6 * 6) (p' / 6) (p' - p' / 6 * 6), S)) := fun a S D M P h hP => by
  refine r_readsAll h (fun z t e e' h3 M' D' K c' => ?_) (fun e k hk => ?_) (fun z t e e' h3 k hk => ?_)
  · have hP := hP M' D' K c'
    simp only [fAl] at hP
    rw [e, e'] at hP
    simp only [if_pos h3] at hP
    exact br_e hP
  · have hP := hP M D Kp.rf h
    simp only [fAl] at hP
    rcases e with e | e
    · rw [e] at hP; exact ex_k hk hP
    · rw [e] at hP
      have hP : P (-99999) M := by
        split at hP
        · next q => cases q
        · exact hP
      exact ex_k hk hP
  · have hP := hP M D Kp.rf h
    simp only [fAl] at hP
    rw [e, e'] at hP
    simp only [if_neg (Nat.not_le.2 h3)] at hP
    exact ex_k hk hP
theorem ok_read (p p' : Int32) : Okf (fun a M P => w_L_reads_2 a p p' M P) (fun S => fRd S (p / 6) (p - p / 6 * 6) (p' / 6) (p' - p' / 6 * 6)) := fun a S D M P h hP => by
  refine r_read h (fun z t l e e' hr hd M' D' K c' => ?_) (fun e k hk => ?_) (fun z t e e' bad M' D' K c' k hk => ?_)
  · have hP := hP M' D' K
    simp only [fRd] at hP
    rw [e, e'] at hP
    simp only [hr, hd, if_true] at hP
    exact hP c'
  · have hP := hP M D Kp.rf
    simp only [fRd] at hP
    rcases e with e | e
    · rw [e] at hP; exact ex_k hk (hP h)
    · rw [e] at hP
      have hP : P (-99999) M := by
        split at hP
        · next q => cases q
        · exact hP h
      exact ex_k hk hP
  · have hP := hP M' D' K
    simp only [fRd] at hP
    rw [e, e'] at hP
    rcases bad with q | q
    · simp only [q, Bool.false_eq_true, if_false] at hP
      exact ex_k hk (hP c')
    · simp only [q] at hP
      split at hP
      · exact ex_k hk (hP c')
      · exact ex_k hk (hP c')
theorem ok_ver {s : Nat} (hs : s < 6) : Okf (fun a M P => zIs M a 6 ∧ w_X5_versions a (nI s) M P (fun _ _ => False)) (fun S => (nI (S.2.1 s), S)) := fun a S D M P h hP => by
  have e0 := sub_eq hs (p := nI s) rfl
  exact r_versions h (fun t e => by rw [e0] at e; obtain rfl := Option.some.inj e; exact hP M D Kp.rf h) (fun e => by rw [e0] at e; cases e)
theorem ok_clear : Okf (fun a M P => zIs M a 6 ∧ w_X5_clear a M P) (fun S => (nI S.2.2.2.2.length, stL S [])) := fun a S D M P h hP => r_clear h hP
theorem ok_discard : Okf (fun a M P => zIs M a 6 ∧ w_X5_discard a M P) (fun S => (nI (zz S.2.2.1 S.1), stI S (emS S.2.2.1 S.1))) := fun a S D M P h hP => r_discard h hP
