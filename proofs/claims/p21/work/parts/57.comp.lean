/-! ===== the pure part: one object in the memory, and what else lies there ===== -/
variable {Fm : zM} {V V' : nm → Prop} {ad ad' : nm → Nat} {σ σ' τ τ' X : nI2} {ρ ρ' π π' : nN2} {ξ ξ' : Nat → zE} {M M' : zM} {x y w : nm} {n n' c d s i k a : Nat} {cnt cnt' : Nat → Nat} {p q p' q' : Int32}
/-- the subject, the version that a call's arguments tell -/
def sub (p : Int32) : Option Nat := lk (fun s => p == nI s) 6 0
def ver (cnt : Nat → Nat) (σ : nI2) (s : Nat) (q : Int32) : Option Nat := lk (fun v => q == nI v && σ (2, s, v) != 2) (cnt s) 0
def sv (cnt : Nat → Nat) (σ : nI2) (p q : Int32) : Option (Nat × Nat) := match sub p with
  | none => none
  | some s => match ver cnt σ s q with
    | none => none
    | some v => some (s, v)
theorem sub_eq (hs : s < 6) (hp : p = nI s) : sub p = some s := by
  cases e : sub p with
  | none =>
    have := (lk_none _ _).1 e s (by omega) (by omega)
    simp [hp] at this
  | some t =>
    obtain ⟨-, h2, h3, -⟩ := lk_some _ _ _ e
    have h3 : p = nI t := by simpa using h3
    rw [hp] at h3
    rw [(nI_eq (by omega) (by omega)).1 h3]
theorem sub_no (no : NoS p) : sub p = none := (lk_none _ _).2 fun j _ hj => by simpa using no j (by omega)
theorem sub_is (h : sub p = some s) : s < 6 ∧ p = nI s := by
  obtain ⟨-, h2, h3, -⟩ := lk_some _ _ _ h
  exact ⟨by omega, by simpa using h3⟩
theorem ver_eq (h6 : cnt s ≤ 6) {v : Nat} (h : IsV cnt σ s v) (hq : q = nI v) : ver cnt σ s q = some v := by
  have hv := h.2.1
  cases e : ver cnt σ s q with
  | none =>
    have := (lk_none _ _).1 e v (by omega) (by omega)
    have h2 := h.2.2
    simp [hq, h2] at this
  | some t =>
    obtain ⟨-, h2, h3, -⟩ := lk_some _ _ _ e
    simp only [Bool.and_eq_true, beq_iff_eq] at h3
    have h3 := h3.1
    rw [hq] at h3
    rw [(nI_eq (by omega) (by omega)).1 h3]
theorem ver_no (no : NoV cnt σ s q) : ver cnt σ s q = none := (lk_none _ _).2 fun j _ hj => by
  by_cases e : q = nI j
  · have := no j e (by omega)
    simp [this]
  · simp [e]
theorem sv_eq (h6 : ∀ s, s < 6 → cnt s ≤ 6) {v : Nat} (h : IsV cnt σ s v) (hp : p = nI s) (hq : q = nI v) : sv cnt σ p q = some (s, v) := by
  unfold sv
  rw [sub_eq h.1 hp]
  simp only []
  rw [ver_eq (h6 s h.1) h hq]
theorem sv_noS (no : NoS p) : sv cnt σ p q = none := by
  unfold sv
  rw [sub_no no]
theorem sv_noV (hs : s < 6) (hp : p = nI s) (no : NoV cnt σ s q) : sv cnt σ p q = none := by
  unfold sv
  rw [sub_eq hs hp]
  simp only []
  rw [ver_no no]
theorem sv_is {z : Nat × Nat} (h : sv cnt σ p q = some z) : IsV cnt σ z.1 z.2 ∧ p = nI z.1 ∧ q = nI z.2 := by
  unfold sv at h
  cases e : sub p with
  | none => rw [e] at h; cases h
  | some s =>
    rw [e] at h
    simp only [] at h
    cases e2 : ver cnt σ s q with
    | none => rw [e2] at h; cases h
    | some v =>
      rw [e2] at h
      cases h
      obtain ⟨h1, h2⟩ := sub_is e
      obtain ⟨-, h4, h5, -⟩ := lk_some _ _ _ e2
      simp only [Bool.and_eq_true, beq_iff_eq, bne_iff_ne, ne_eq] at h5
      exact ⟨⟨h1, show v < cnt s by omega, h5.2⟩, h2, h5.1⟩
theorem ev_sv (E : EV σ' σ) (cnt : Nat → Nat) (p q : Int32) : sv cnt σ' p q = sv cnt σ p q := by
  have : ∀ s, ver cnt σ' s q = ver cnt σ s q := fun s => by
    unfold ver
    rw [show (fun v => q == nI v && σ' (2, s, v) != 2) = fun v => q == nI v && σ (2, s, v) != 2 from funext fun v => by rw [E.f (by omega)]]
  unfold sv
  simp only [this]
/-- an object's state: how many numbers, how many versions, the ints, the references, the record's draft -/
abbrev St : Type := Nat × (Nat → Nat) × nI2 × nN2 × List Int32
def Rw (σ : nI2) (ρ : nN2) (l : List Int32) : Prop := ∃ r s0, ρ (1, 0, 0) = r ∧ ρ (1, 1, 0) = s0 ∧ r ≠ s0 ∧ r < 2 ∧ s0 < 2 ∧ l.length ≤ 20 ∧ σ (4, r, 0) = nI l.length ∧ ∀ j, j < l.length → σ (5, r, j) = l.getD j 0
def Gd (a : Nat) (S : St) (V : nm → Prop) (ad : nm → Nat) (σ : nI2) (ρ : nN2) (ξ : Nat → zE) : Prop := V (0, 0, 0) ∧ ad (0, 0, 0) = a ∧ V (13, 0, 0) ∧ ξ 13 = zN ∧ (∀ y, V y → Bd S.1 S.2.1 σ y) ∧ Dg S.1 S.2.1 σ ρ ∧ EV σ S.2.2.1 ∧ ER ρ S.2.2.2.1 ∧ Rw σ ρ S.2.2.2.2
/-- where its cells lie -/
def dom (V : nm → Prop) (ad : nm → Nat) (σ : nI2) (ρ : nN2) (ξ : Nat → zE) : Nat → Prop := fun q => ∃ x, V x ∧ ad x = q ∧ cell ad σ ρ ξ x ≠ zN
def Cmp (a : Nat) (S : St) (D : Nat → Prop) (M : zM) : Prop := ∃ V ad σ ρ ξ, zC (fun _ => none) V ad σ ρ ξ M ∧ Gd a S V ad σ ρ ξ ∧ D = dom V ad σ ρ ξ
/-- what lies elsewhere -/
noncomputable def Fr (M : zM) (D : Nat → Prop) : zM := fun q => @ite _ (D q) (Classical.propDecidable (D q)) none (M q)
theorem Fr_is {D : Nat → Prop} {q : Nat} {e : zE} (h : Fr M D q = some e) : M q = some e ∧ ¬ D q := by
  unfold Fr at h
  by_cases hd : D q
  · rw [if_pos hd] at h; cases h
  · rw [if_neg hd] at h; exact ⟨h, hd⟩
theorem Fr_of {D : Nat → Prop} {q : Nat} {e : zE} (h : M q = some e) (hd : ¬ D q) : Fr M D q = some e := by
  unfold Fr
  rw [if_neg hd]; exact h
/-- what a call keeps: all cells elsewhere; and it takes fresh cells alone -/
def Kp (M : zM) (D : Nat → Prop) (M' : zM) (D' : Nat → Prop) : Prop := (∀ q e, M q = some e → ¬ D q → M' q = some e) ∧ ∀ q, D' q → D q ∨ M q = none
theorem Kp.rf {D : Nat → Prop} : Kp M D M D := ⟨fun _ _ h _ => h, fun _ h => Or.inl h⟩
theorem Cmp.op {S : St} {D : Nat → Prop} (h : Cmp a S D M) : ∃ V ad σ ρ ξ, zC (Fr M D) V ad σ ρ ξ M ∧ Gd a S V ad σ ρ ξ := by
  obtain ⟨V, ad, σ, ρ, ξ, g, G, rfl⟩ := h
  refine ⟨V, ad, σ, ρ, ξ, ⟨g.1, ⟨g.2.1.1, fun q e hq => ?_⟩, g.2.2⟩, G⟩
  obtain ⟨h1, h2⟩ := Fr_is hq
  exact ⟨h1, fun x hx e1 => Classical.byContradiction fun hn => h2 ⟨x, hx, e1, hn⟩⟩
theorem Cmp.go {S : St} {D : Nat → Prop} (g : zC (Fr M D) V ad σ ρ ξ M') (G : Gd a S V ad σ ρ ξ) {P : zM → Prop} (hP : ∀ M' D', Kp M D M' D' → Cmp a S D' M' → P M') : P M' := by
  refine hP M' (dom V ad σ ρ ξ) ⟨fun q e h1 h2 => (g.2.1.2 q e (Fr_of h1 h2)).1, fun q hq => ?_⟩ ⟨V, ad, σ, ρ, ξ, ⟨g.1, ⟨g.2.1.1, fun q e hq => by cases hq⟩, g.2.2⟩, G, rfl⟩
  obtain ⟨x, hx, e1, hn⟩ := hq
  by_cases hd : D q
  · exact Or.inl hd
  · right
    cases e : M q with
    | none => rfl
    | some z => exact absurd ((g.2.1.2 q z (Fr_of e hd)).2 x hx e1) hn
/-- what is known of a state -/
def Vd (S : St) : Prop := ∃ σ ρ, Dg S.1 S.2.1 σ ρ ∧ EV σ S.2.2.1 ∧ ER ρ S.2.2.2.1 ∧ S.2.2.2.2.length ≤ 20
theorem Cmp.vd {S : St} {D : Nat → Prop} (h : Cmp a S D M) : Vd S := by
  obtain ⟨V, ad, σ, ρ, ξ, -, ⟨-, -, -, -, -, G, E, R, r, s0, -, -, -, -, -, u, -⟩, -⟩ := h
  exact ⟨σ, ρ, G, E, R, u⟩
theorem Dg.c6 (h : Dg n cnt σ ρ) : ∀ s, s < 6 → cnt s ≤ 6 := fun s hs => (h.1.2.1 s hs).2.1
theorem ex_k {A : Prop} {k : Nat} (hk : k = 1 ∨ k = 2 ∨ k = 3) (h : A) : (k = 1 → A) ∧ (k = 2 → A) ∧ (k = 3 → A) ∧ (k = 1 ∨ k = 2 ∨ k = 3) := ⟨fun _ => h, fun _ => h, fun _ => h, hk⟩
abbrev exK (PX : Nat → zM → Prop) (M : zM) : Prop := ∀ k, (k = 1 ∨ k = 2 ∨ k = 3) → PX k M
