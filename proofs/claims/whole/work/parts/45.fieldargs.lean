/-! ===== the pure part: what field demands ===== -/
variable {V V' : nm → Prop} {ad ad' : nm → Nat} {σ σ' τ τ' : nI2} {ρ ρ' π : nN2} {ξ ξ' : Nat → zE} {M : zM} {x y w : nm} {n : Nat} {cnt : Nat → Nat}
def OKa (p0 p1 p2 p3 : Int32) : Prop := (∃ a, a < 10 ∧ p0 = nI a) ∧ (∃ t, t < 5 ∧ p1 = nI t) ∧ ¬ p3 = p0 ∧ (p3 = -1 ∨ ∃ a, a < 10 ∧ p3 = nI a) ∧ (p1 = 3 → ∃ d, 1 ≤ d ∧ d ≤ 4 ∧ p2 = nI d)
def RefOK (cnt : Nat → Nat) (τ : nI2) (p2 : Int32) (s v : Nat) : Prop := s < 6 ∧ v < cnt s ∧ p2 = nI (10 * s + v) ∧ τ (2, s, v) = 0
/-- how many places the field takes -/
def Mor (cnt : Nat → Nat) (τ : nI2) (π : nN2) (p1 p2 : Int32) (k : Nat) : Prop := (¬ p1 = 4 ∧ k = 1) ∨ (p1 = 4 ∧ ∃ s v, RefOK cnt τ p2 s v ∧ k = lnn τ (π (2, s, v)))
def Ful (τ : nI2) (n : Nat) (p0 : Int32) (k : Nat) : Prop := zz τ n = 5 ∨ nmd τ n p0 ≠ none ∨ 20 < lnn τ n + k
theorem c_isName {p : Int32} {P : Int32 → zM → Prop} (h1 : ∀ a, a < 10 → p = nI a → P 1 M) (h0 : (∀ a, a < 10 → p ≠ nI a) → P 0 M) : w_X5_isName p M P := by
  refine ⟨fun e => h0 fun a ha hp => ?_, fun e => ⟨fun e1 => h0 fun a ha hp => ?_, fun e1 => ?_⟩⟩
  · rw [hp] at e; exact nI_pos (by omega) e
  · rw [hp] at e1; exact nI_ge (b := 10) ha (by omega) e1
  · obtain ⟨a, ha, rfl⟩ := nI_of e
    exact h1 a (Nat.lt_of_not_le fun q => e1 (nI_le (a := 10) q ha)) rfl
theorem c_isType {p : Int32} {P : Int32 → zM → Prop} (h1 : ∀ a, a < 5 → p = nI a → P 1 M) (h0 : (∀ a, a < 5 → p ≠ nI a) → P 0 M) : w_X5_isType p M P := by
  refine ⟨fun e => h0 fun a ha hp => ?_, fun e => ⟨fun e1 => h0 fun a ha hp => ?_, fun e1 => ?_⟩⟩
  · rw [hp] at e; exact nI_pos (by omega) e
  · rw [hp] at e1; exact nI_nlt (a := 4) (b := a) (by omega) (by omega) e1
  · obtain ⟨a, ha, rfl⟩ := nI_of e
    exact h1 a (Nat.lt_of_not_le fun q => e1 (nI_lt (a := 4) (by omega) ha)) rfl
theorem c_isSize {p : Int32} {P : Int32 → zM → Prop} (h1 : ∀ a, 1 ≤ a → a ≤ 4 → p = nI a → P 1 M) (h0 : (∀ a, 1 ≤ a → a ≤ 4 → p ≠ nI a) → P 0 M) : w_X5_isSize p M P := by
  refine ⟨fun e => h0 fun a ha ha2 hp => ?_, fun e => ⟨fun e1 => h0 fun a ha ha2 hp => ?_, fun e1 => ?_⟩⟩
  · rw [hp] at e; exact nI_nlt (b := 1) ha (by omega) e
  · rw [hp] at e1; exact nI_nlt (a := 4) (b := a) (by omega) (by omega) e1
  · have e0 : ¬ p < 0 := fun q => e (Int32.lt_of_lt_of_le q (show (0 : Int32) ≤ 1 by decide))
    obtain ⟨a, ha, rfl⟩ := nI_of e0
    exact h1 a (Nat.lt_of_not_le fun q => e (nI_lt (b := 1) (by omega) (by omega))) (Nat.le_of_not_lt fun q => e1 (nI_lt (a := 4) (by omega) ha)) rfl
theorem k_args {o : Nat} {p0 p1 p2 p3 : Int32} {P : Int32 → zM → Prop} {PX : Nat → zM → Prop} (h1 : OKa p0 p1 p2 p3 → w_X5_field_66 o p0 p1 p2 p3 P PX M) (h2 : ¬ OKa p0 p1 p2 p3 → PX 1 M) : w_X5_field o p0 p1 p2 p3 M P PX := by
  refine c_isName (fun a ha h0 => br_f (by decide) (c_isType (fun t ht h1' => br_f (by decide) ⟨fun e => h2 fun q => q.2.2.1 e, fun e => ?_⟩) (fun hno => br_t rfl (h2 fun q => by obtain ⟨t, ht, e⟩ := q.2.1; exact hno t ht e)))) (fun hno => br_t rfl (h2 fun q => by obtain ⟨a, ha, e⟩ := q.1; exact hno a ha e))
  have fin : (p3 = -1 ∨ ∃ a, a < 10 ∧ p3 = nI a) → w_X5_field_44 o p0 p1 p2 p3 P PX M := fun h3 => by
    refine ⟨fun e3 => h1 ⟨⟨a, ha, h0⟩, ⟨t, ht, h1'⟩, e, h3, fun q => absurd q e3⟩, fun e3 => c_isSize (fun d d1 d2 hd => ⟨fun _ => h1 ⟨⟨a, ha, h0⟩, ⟨t, ht, h1'⟩, e, h3, fun _ => ⟨d, d1, d2, hd⟩⟩, fun q => absurd q (by decide)⟩) (fun hno => ⟨fun q => absurd rfl q, fun _ => h2 fun q => by obtain ⟨d, d1, d2, hd⟩ := q.2.2.2.2 e3; exact hno d d1 d2 hd⟩)⟩
  refine ⟨fun e3 => fin (Or.inl e3), fun e3 => c_isName (fun b hb h3 => ⟨fun _ => fin (Or.inr ⟨b, hb, h3⟩), fun q => absurd q (by decide)⟩) (fun hno => ⟨fun q => absurd rfl q, fun _ => h2 fun q => ?_⟩)⟩
  rcases q.2.2.2.1 with q | ⟨b, hb, h3⟩
  · exact e3 q
  · exact hno b hb h3
theorem m_isRange {o : Nat} {p0 p1 p2 p3 : Int32} {P : Int32 → zM → Prop} (h1 : OKa p0 p1 p2 p3 → P 1 M) (h2 : ¬ OKa p0 p1 p2 p3 → P 0 M) : w_X6_isRange o p0 p1 p2 p3 M P := by
  have k19 : ∀ y : Int32, (y = 0 ∨ y = 1) → (y = 1 ↔ (p1 = 3 → ∃ d, 1 ≤ d ∧ d ≤ 4 ∧ p2 = nI d)) → w_X6_isRange_19 o p0 p1 p2 p3 P y M := fun y hy hh => by
    refine m_inN (k := 10) (by omega) (by decide) (fun a ha h0 => br_f (by decide) (m_inN (k := 5) (by omega) (by decide) (fun t ht h1' => br_f (by decide) ⟨fun e => h2 fun q => ?_, fun e => ?_⟩) (fun hno => br_t rfl (h2 fun q => by obtain ⟨t, ht, e⟩ := q.2.1; exact hno t ht e)))) (fun hno => br_t rfl (h2 fun q => by obtain ⟨a, ha, e⟩ := q.1; exact hno a ha e))
    · have := hh.2 q.2.2.2.2; rw [e] at this; exact absurd this (by decide)
    · have hd := hh.1 (hy.resolve_left e)
      have h9 : ∀ b, b < 2 ^ 31 → ((9 : Int32) < nI b ↔ 9 < b) := fun b hb => nI_ltI (a := 9) (by omega) hb
      refine m_in1 (fun e1 e2 => br_f (by decide) ⟨fun e3 => h2 fun q => q.2.2.1 e3, fun e3 => h1 ⟨⟨a, ha, h0⟩, ⟨t, ht, h1'⟩, e3, ?_, hd⟩⟩) (fun e1 => br_t rfl (h2 fun q => ?_))
      · by_cases e0 : p3 < 0
        · left
          have f1 : (-1 : Int32) ≤ p3 := Int32.not_lt.1 e1
          have i1 := Int32.le_iff_toInt_le.1 f1
          have i2 := Int32.lt_iff_toInt_lt.1 e0
          have j1 : (-1 : Int32).toInt = -1 := by decide
          have j2 : (0 : Int32).toInt = 0 := by decide
          exact Int32.toInt_inj.1 (by omega)
        · right
          obtain ⟨b, hb, rfl⟩ := nI_of e0
          exact ⟨b, by have := (h9 b hb); have : ¬ 9 < b := fun q => e2 (this.2 q); omega, rfl⟩
      · rcases q.2.2.2.1 with q | ⟨b, hb, q⟩
        · rw [q] at e1; rcases e1 with e1 | e1 <;> exact absurd e1 (by decide)
        · rw [q] at e1
          rcases e1 with e1 | e1
          · have := m1_lt (j := b) (by omega)
            exact absurd (Int32.lt_of_lt_of_le e1 (Int32.le_of_lt this)) (Int32.lt_irrefl)
          · have := (h9 b (by omega)).1 e1; omega
  refine ⟨fun e => k19 1 (Or.inr rfl) ⟨fun _ q => absurd q e, fun _ => rfl⟩, fun e => m_in1 (fun e1 e2 => ⟨fun q => absurd q (by decide), fun _ => k19 1 (Or.inr rfl) ⟨fun _ _ => ?_, fun _ => rfl⟩⟩) (fun e1 => ⟨fun _ => k19 0 (Or.inl rfl) ⟨fun q => absurd q (by decide), fun q => ?_⟩, fun q => absurd rfl q⟩)⟩
  · have e0 : ¬ p2 < 0 := fun q => e1 (Int32.lt_of_lt_of_le q (show (0 : Int32) ≤ 1 by decide))
    obtain ⟨d, hd, rfl⟩ := nI_of e0
    exact ⟨d, Nat.lt_of_not_le fun q => e1 (nI_lt (b := 1) (by omega) (by omega)), Nat.le_of_not_lt fun q => e2 (nI_lt (a := 4) (by omega) hd), rfl⟩
  · obtain ⟨d, d1, d2, hd⟩ := q e
    rw [hd] at e1
    rcases e1 with e1 | e1
    · exact absurd e1 (nI_nlt (b := 1) d1 (by omega))
    · exact absurd e1 (nI_nlt (a := 4) (b := d) (by omega) (by omega))
theorem RefOK.uni {p2 : Int32} {s v s' v' : Nat} (hc6 : ∀ s, s < 6 → cnt s ≤ 6) (h : RefOK cnt τ p2 s v) (h' : RefOK cnt τ p2 s' v') : s' = s ∧ v' = v := by
  obtain ⟨a1, a2, a3, -⟩ := h
  obtain ⟨b1, b2, b3, -⟩ := h'
  have := hc6 s a1
  have := hc6 s' b1
  rw [a3] at b3
  have := (nI_eq (by omega) (by omega)).1 b3
  omega
theorem m_errorOfField (h : zC V ad σ ρ ξ M) (hV : V (9, 0, 0)) (R : Rel n cnt τ π σ) (hK : WK n cnt τ π) (hP0 : WP n τ π) {p0 p1 p2 p3 : Int32} {P : Int32 → zM → Prop} (h1 : ¬ OKa p0 p1 p2 p3 → P 1 M) (h2 : OKa p0 p1 p2 p3 → p1 = 4 → (∀ s v, ¬ RefOK cnt τ p2 s v) → P 2 M) (h3 : ∀ k, OKa p0 p1 p2 p3 → Mor cnt τ π p1 p2 k → Ful τ n p0 k → P 3 M) (h0 : ∀ k, OKa p0 p1 p2 p3 → Mor cnt τ π p1 p2 k → ¬ Ful τ n p0 k → P 0 M) : w_X6_errorOfField (ad (9, 0, 0)) p0 p1 p2 p3 M P := by
  have hn := hK.1.2.2.1
  have hc6 : ∀ s, s < 6 → cnt s ≤ 6 := fun s hs => (hK.2.1 s hs).2.1
  have z5 := (hK.2.2 n (Nat.le_refl n)).1.2
  have l20 := (hP0.lnn (Nat.le_refl n)).2
  obtain ⟨r1, r2, r3⟩ := R.2.1 n (Nat.le_refl n)
  rw [ix_n] at r1 r2
  refine ⟨g_is h hV rfl, m_isRange (fun ok => ⟨fun _ => ?_, fun e => absurd e (by decide)⟩) (fun no => ⟨fun e => absurd rfl e, fun _ => h1 no⟩)⟩
  have k77 : ∀ k, k ≤ 20 → Mor cnt τ π p1 p2 k → w_X6_errorOfField_77 (ad (9, 0, 0)) p0 p1 p2 p3 P (nI k) M := fun k hk hm => by
    refine m_r h hV 7 (a_i h hV 7 36 rfl (show 36 < 37 by omega) ?_)
    rw [r1]
    refine pk_eq (zz τ n) 5 (fun e => h3 k ok hm (Or.inl e)) (fun e => ⟨g_is h hV rfl, ?_⟩)
    have := m_named h hV R hn hK.2.2 (Nat.le_refl n) (p := p0) (P := fun v5 M4 => ((¬ v5 = (-1 : Int32) → (w_X6_errorOfField_116 (ad (9, 0, 0)) p0 p1 p2 p3 P M4)) ∧ (v5 = (-1 : Int32) → zGr M4 (ad (9, 0, 0)) 7 8 (fun v6 => zAi M4 0 v6 (36 : Int32) (fun v7 => (((v7 + nI k) ≤ (20 : Int32) → P (0 : Int32) M4) ∧ (¬ (v7 + nI k) ≤ (20 : Int32) → (w_X6_errorOfField_116 (ad (9, 0, 0)) p0 p1 p2 p3 P M4))))))))
    rw [ix_n] at this
    refine this ?_
    cases en : nmd τ n p0 with
    | some j =>
      have := nmd_lt en
      exact ⟨fun _ => h3 k ok hm (Or.inr (Or.inl (by rw [en]; simp))), fun q => absurd q (nI_m1 (by omega))⟩
    | none =>
      refine ⟨fun q => absurd rfl q, fun _ => m_r h hV 8 (a_i h hV 8 36 rfl (show 36 < 37 by omega) ?_)⟩
      rw [r2, nI_add]
      refine pk_le (lnn τ n + k) 20 (fun e2 => h0 k ok hm ?_) (fun e2 => h3 k ok hm (Or.inr (Or.inr e2)))
      rintro (q | q | q)
      · exact e q
      · exact q en
      · omega
  refine ⟨fun e4 => br_t rfl (br_t rfl (k77 1 (by omega) (Or.inl ⟨e4, rfl⟩))), fun e4 => br_f (by decide) ?_⟩
  have noref : (∀ s v, ¬ RefOK cnt τ p2 s v) → P 2 M := h2 ok e4
  refine m_inN (k := 60) (by omega) (by decide) (fun d hd hp => br_f (by decide) ?_) (fun hno => br_t rfl (noref fun s v q => by have := hc6 s q.1; have := q.2.1; have := q.1; exact hno (10 * s + v) (by omega) q.2.2.1))
  subst hp
  have x1 : nI d / (10 : Int32) = nI (d / 10) := pk_div (d := 10) (by omega) (by omega) (by omega)
  have x2 : nI d - nI d / (10 : Int32) * (10 : Int32) = nI (d % 10) := pk_rem (d := 10) (by omega) (by omega) (by omega)
  rw [x2, x1]
  have hs : d / 10 < 6 := by omega
  have hd10 : 10 * (d / 10) + d % 10 = d := by omega
  refine m_thereAt h hV R hK hs (fun v hv hvc ht => ⟨fun _ => br_f (by decide) (m_r h hV 8 ⟨g_is h hV rfl, ?_⟩), fun e => absurd e (by decide)⟩) (fun hno => ⟨fun e => absurd rfl e, fun _ => noref fun s v q => ?_⟩)
  · have hv6 := hc6 _ hs
    have ev : d % 10 = v := (nI_eq (by omega) (by omega)).1 hv
    have ed : nI d = nI (10 * (d / 10) + v) := by rw [← ev, hd10]
    have hlt := ((hK.2.1 _ hs).2.2 v hvc).2
    have hsc := m_schemaOf h hV R hs hvc hv6 (P := fun v10 M9 => zAi M9 0 (ad (10, 8, 0)) v10 (fun v11 => (w_X6_errorOfField_77 (ad (9, 0, 0)) p0 p1 (nI d) p3 P v11 M9)))
    rw [← ed] at hsc
    refine hsc (a_i h hV 8 (π (2, d / 10, v)) rfl (show π (2, d / 10, v) < 37 by omega) ?_)
    have r8 := (R.2.1 (π (2, d / 10, v)) (by omega)).2.1
    rw [ix_c hlt] at r8
    rw [r8]
    exact k77 _ (hP0.lnn (by omega)).2 (Or.inr ⟨e4, d / 10, v, ⟨hs, hvc, ed, ht⟩, rfl⟩)
  · have := hc6 s q.1
    have e1 := (nI_eq (by omega) (by have := q.1; have := q.2.1; omega)).1 q.2.2.1
    have hs' : s = d / 10 := by have := q.2.1; omega
    have hv' : v = d % 10 := by have := q.2.1; omega
    subst hs' hv'
    exact hno (d % 10) rfl q.2.1 q.2.2.2
