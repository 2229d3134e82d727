/-! ===== the pure part: what field demands ===== -/
variable {Fm : zM} {V V' : nm → Prop} {ad ad' : nm → Nat} {σ σ' τ τ' : nI2} {ρ ρ' π : nN2} {ξ ξ' : Nat → zE} {M : zM} {x y w : nm} {n : Nat} {cnt : Nat → Nat}
def OKa (p0 p1 p2 p3 : Int32) : Prop := (∃ a, a < 10 ∧ p0 = nI a) ∧ (∃ t, t < 5 ∧ p1 = nI t) ∧ ¬ p3 = p0 ∧ (p3 = -1 ∨ ∃ a, a < 10 ∧ p3 = nI a) ∧ (p1 = 3 → ∃ d, 1 ≤ d ∧ d ≤ 4 ∧ p2 = nI d)
def RefOK (cnt : Nat → Nat) (τ : nI2) (p2 : Int32) (s v : Nat) : Prop := s < 6 ∧ v < cnt s ∧ p2 = nI (10 * s + v) ∧ τ (2, s, v) = 0
/-- how many places the field takes -/
def Mor (cnt : Nat → Nat) (τ : nI2) (π : nN2) (p1 p2 : Int32) (k : Nat) : Prop := (¬ p1 = 4 ∧ k = 1) ∨ (p1 = 4 ∧ ∃ s v, RefOK cnt τ p2 s v ∧ k = lnn τ (π (2, s, v)))
def Ful (τ : nI2) (n : Nat) (p0 : Int32) (k : Nat) : Prop := zz τ n = 5 ∨ nmd τ n p0 ≠ none ∨ 20 < lnn τ n + k
theorem c_isName {p : Int32} {P : Int32 → zM → Prop} (h1 : ∀ a, a < 10 → p = nI a → P 1 M) (h0 : (∀ a, a < 10 → p ≠ nI a) → P 0 M) : w_X5_isName p M P := by
  refine ⟨fun e => h0 fun a ha hp => ?_, fun e => ⟨fun e1 => h0 fun a ha hp => ?_, fun e1 => ?_⟩⟩
  · rw [hp] at e; exact nI_pos (by omega) e
  · rw [hp] at e1; exact nI_ge (b := 10) ha (by omega) e1
  · obtain ⟨a, ha, rfl⟩ := nI_of e
    exact h1 a (Nat.lt_of_not_le fun q => e1 (nI_le (a := 10) q ha)) rfl
theorem c_isType {p : Int32} {P : Int32 → zM → Prop} (h1 : ∀ a, a < 5 → p = nI a → P 1 M) (h0 : (∀ a, a < 5 → p ≠ nI a) → P 0 M) : w_X5_isType p M P := by
  refine ⟨fun e => h0 fun a ha hp => ?_, fun e => ⟨fun e1 => h0 fun a ha hp => ?_, fun e1 => ?_⟩⟩
  · rw [hp] at e; exact nI_pos (by omega) e
  · rw [hp] at e1; exact nI_nlt (a := 4) (b := a) (by omega) (by omega) e1
  · obtain ⟨a, ha, rfl⟩ := nI_of e
    exact h1 a (Nat.lt_of_not_le fun q => e1 (nI_lt (a := 4) (by omega) ha)) rfl
theorem c_isSize {p : Int32} {P : Int32 → zM → Prop} (h1 : ∀ a, 1 ≤ a → a ≤ 4 → p = nI a → P 1 M) (h0 : (∀ a, 1 ≤ a → a ≤ 4 → p ≠ nI a) → P 0 M) : w_X5_isSize p M P := by
  refine ⟨fun e => h0 fun a ha ha2 hp => ?_, fun e => ⟨fun e1 => h0 fun a ha ha2 hp => ?_, fun e1 => ?_⟩⟩
  · rw [hp] at e; exact nI_nlt (b := 1) ha (by omega) e
  · rw [hp] at e1; exact nI_nlt (a := 4) (b := a) (by omega) (by omega) e1
  · have e0 : ¬ p < 0 := fun q => e (Int32.lt_of_lt_of_le q (show (0 : Int32) ≤ 1 by decide))
    obtain ⟨a, ha, rfl⟩ := nI_of e0
    exact h1 a (Nat.lt_of_not_le fun q => e (nI_lt (b := 1) (by omega) (by omega))) (Nat.le_of_not_lt fun q => e1 (nI_lt (a := 4) (by omega) ha)) rfl
theorem k_args {o : Nat} {p0 p1 p2 p3 : Int32} {P : Int32 → zM → Prop} {PX : Nat → zM → Prop} (h1 : OKa p0 p1 p2 p3 → w_X5_field_66 o p0 p1 p2 p3 P PX M) (h2 : ¬ OKa p0 p1 p2 p3 → PX 1 M) : w_X5_field o p0 p1 p2 p3 M P PX := by
  refine c_isName (fun a ha h0 => br_f (by decide) (c_isType (fun t ht h1' => br_f (by decide) ⟨fun e => h2 fun q => q.2.2.1 e, fun e => ?_⟩) (fun hno => br_t rfl (h2 fun q => by obtain ⟨t, ht, e⟩ := q.2.1; exact hno t ht e)))) (fun hno => br_t rfl (h2 fun q => by obtain ⟨a, ha, e⟩ := q.1; exact hno a ha e))
  have fin : (p3 = -1 ∨ ∃ a, a < 10 ∧ p3 = nI a) → w_X5_field_44 o p0 p1 p2 p3 P PX M := fun h3 => by
    refine ⟨fun e3 => h1 ⟨⟨a, ha, h0⟩, ⟨t, ht, h1'⟩, e, h3, fun q => absurd q e3⟩, fun e3 => c_isSize (fun d d1 d2 hd => ⟨fun _ => h1 ⟨⟨a, ha, h0⟩, ⟨t, ht, h1'⟩, e, h3, fun _ => ⟨d, d1, d2, hd⟩⟩, fun q => absurd q (by decide)⟩) (fun hno => ⟨fun q => absurd rfl q, fun _ => h2 fun q => by obtain ⟨d, d1, d2, hd⟩ := q.2.2.2.2 e3; exact hno d d1 d2 hd⟩)⟩
  refine ⟨fun e3 => fin (Or.inl e3), fun e3 => c_isName (fun b hb h3 => ⟨fun _ => fin (Or.inr ⟨b, hb, h3⟩), fun q => absurd q (by decide)⟩) (fun hno => ⟨fun q => absurd rfl q, fun _ => h2 fun q => ?_⟩)⟩
  rcases q.2.2.2.1 with q | ⟨b, hb, h3⟩
  · exact e3 q
  · exact hno b hb h3
theorem RefOK.uni {p2 : Int32} {s v s' v' : Nat} (hc6 : ∀ s, s < 6 → cnt s ≤ 6) (h : RefOK cnt τ p2 s v) (h' : RefOK cnt τ p2 s' v') : s' = s ∧ v' = v := by
  obtain ⟨a1, a2, a3, -⟩ := h
  obtain ⟨b1, b2, b3, -⟩ := h'
  have := hc6 s a1
  have := hc6 s' b1
  rw [a3] at b3
  have := (nI_eq (by omega) (by omega)).1 b3
  omega
