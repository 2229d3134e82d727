/-! ===== the pure part: small things ===== -/
variable {Fm : zM} {V V' : nm → Prop} {ad ad' : nm → Nat} {σ σ' τ : nI2} {ρ ρ' π : nN2} {ξ ξ' : Nat → zE} {M : zM} {x y w : nm} {n : Nat} {cnt : Nat → Nat}
/-! rules -/
/-! names -/
theorem nI_m1 {j : Nat} (h : j < 2 ^ 31) : ¬ nI j = -1 := fun e => absurd (show nI j < 0 by rw [e]; decide) (nI_pos h)
/-- modes and flags -/
def WM (τ : nI2) : Prop := ∀ s, s < 6 → (τ (0, s, 0) = 0 ∨ τ (0, s, 0) = 1 ∨ τ (0, s, 0) = 2 ∨ τ (0, s, 0) = 3) ∧ (τ (1, s, 0) = 0 ∨ τ (1, s, 0) = 1)
theorem n_ma (k i j : Nat) : nI k * nI i + nI j = nI (k * i + j) := by rw [pk_mul, nI_add]
