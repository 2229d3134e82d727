/-! ===== the pure part: discard and byDefault ===== -/
variable {Fm : zM} {V V' : nm → Prop} {ad ad' : nm → Nat} {σ σ' τ τ' : nI2} {ρ ρ' π : nN2} {ξ ξ' : Nat → zE} {M : zM} {x y w : nm} {n : Nat} {cnt : Nat → Nat}
/-- a schema emptied -/
def emS (σ : nI2) (c : Nat) : nI2 := up (up (up σ (6, 8 + c, 0) (σ (6, 8 + c, 0) + 1)) (7, 8 + c, 0) 0) (4, 3 + c, 0) 0
theorem s_empty (h : zC Fm V ad σ ρ ξ M) {c : Nat} (hV : V (5, c, 0)) (hS : Sc σ ρ c) {P : zM → Prop} (hP : ∀ M', zC Fm V ad (emS σ c) (clr ρ (8 + c) (zz σ c)) ξ M' → P M') : w_X2_empty (ad (5, c, 0)) M P := by
  obtain ⟨v2, v3, v6, v7⟩ := s_V h hV
  exact g_r h hV rfl rfl ⟨g_is h v2 rfl, l_clear h v2 hS.1 fun M1 h1 => g_r h1 hV rfl rfl ⟨g_is h1 v6 rfl, r_empty h1 v6 hP⟩⟩
theorem k_discard (h : zC Fm V ad σ ρ ξ M) (hV : V (0, 0, 0)) (hK : WK n cnt σ ρ) {P : Int32 → zM → Prop} (hP : ∀ M', zC Fm V ad (emS σ n) (clr ρ (8 + n) (zz σ n)) ξ M' → P (nI (zz σ n)) M') : w_X5_discard (ad (0, 0, 0)) M P := by
  have hVn := k_S h hV hK (Nat.le_refl n)
  have hS := (hK.2.2 n (Nat.le_refl n)).1
  have hd := hK.1.2.2.2
  have v2 := (s_V h hVn).1
  refine g_r h hV rfl rfl ?_
  show zGr M (ad (5, ρ (0, 0, 0), 0)) 3 0 _
  rw [hd]
  refine g_r h hVn rfl rfl ⟨g_is h v2 rfl, l_size h v2 hS.1 (g_r h hV rfl rfl ?_)⟩
  show zIs M (ad (5, ρ (0, 0, 0), 0)) 3 ∧ w_X2_empty (ad (5, ρ (0, 0, 0), 0)) M _
  rw [hd]
  exact ⟨g_is h hVn rfl, s_empty h hVn hS hP⟩
theorem s_last (h : zC Fm V ad σ ρ ξ M) {c : Nat} (hV : V (5, c, 0)) (hS : Sc σ ρ c) {P : Option Nat → zM → Prop} (h0 : zz σ c = 0 → P none M) (h1 : ∀ j, zz σ c = j + 1 → P (some (ad (8, c, j))) M) : w_X2_last (ad (5, c, 0)) M P := by
  obtain ⟨v2, v3, v6, v7⟩ := s_V h hV
  refine g_r h hV rfl rfl ⟨g_is h v2 rfl, l_isEmpty h v2 hS.1 ?_⟩
  by_cases e : zz σ c = 0
  · rw [if_pos e]; exact br_f (by decide) (h0 e)
  · rw [if_neg e]
    obtain ⟨j, hj⟩ : ∃ j, zz σ c = j + 1 := ⟨zz σ c - 1, by omega⟩
    refine br_t rfl (g_r h hV rfl rfl (g_r h hV rfl rfl ⟨g_is h v2 rfl, l_size h v2 hS.1 ⟨g_is h v2 rfl, ?_⟩⟩))
    rw [hj, nI_pred]
    exact s_get h hV hS (by omega) (g_ck h (s_F h hV hS (by omega)) rfl (h1 j hj))
theorem k_byDefault (h : zC Fm V ad σ ρ ξ M) (hV : V (0, 0, 0)) (hK : WK n cnt σ ρ) {p : Int32} {P : Int32 → zM → Prop} {PX : Nat → zM → Prop} (h1 : ∀ j, zz σ n = j + 1 → ¬ σ (9, n, j) = 4 → ofS p (σ (10, n, j)) = true → ∀ M', zC Fm V ad (up (up σ (14, n, j) 1) (15, n, j) p) ρ ξ M' → P (σ (8, n, j)) M') (h2 : (zz σ n = 0 ∨ ∃ j, zz σ n = j + 1 ∧ σ (9, n, j) = 4) → PX 3 M) (h3 : ∀ j, zz σ n = j + 1 → ¬ σ (9, n, j) = 4 → ofS p (σ (10, n, j)) = false → PX 1 M) : w_X5_byDefault (ad (0, 0, 0)) p M P PX := by
  have hVn := k_S h hV hK (Nat.le_refl n)
  have hS := (hK.2.2 n (Nat.le_refl n)).1
  have hd := hK.1.2.2.2
  refine g_r h hV rfl rfl ?_
  show zIs M (ad (5, ρ (0, 0, 0), 0)) 3 ∧ w_X2_last (ad (5, ρ (0, 0, 0), 0)) M _
  rw [hd]
  refine ⟨g_is h hVn rfl, s_last h hVn hS (fun e => cm_none (h2 (Or.inl e))) (fun j hj => cm_some ?_)⟩
  have hF := s_F h hVn hS (show j < zz σ n by omega)
  refine g_i h hF rfl rfl ⟨fun e => g_i h hF rfl rfl (c_isOfSize (br_n (fun e2 => ?_) (fun e2 => h3 j hj e e2))), fun e => h2 (Or.inr ⟨j, hj, e⟩)⟩
  refine p_i h (14, n, j) hF (v := 1) rfl (by simp) (by simp [cell, hI, up, List.set]) fun M1 h1' => p_i h1' (15, n, j) hF (v := p) rfl (by simp) (by simp [cell, hI, up, List.set]) fun M2 h2' => g_i h2' hF rfl rfl ?_
  show P (up (up σ (14, n, j) 1) (15, n, j) p (8, n, j)) M2
  rw [up_n _ _ (fun q => by cases q), up_n _ _ (fun q => by cases q)]
  exact h1 j hj e e2 M2 h2'
