/-! ===== the pure part: discard and byDefault ===== -/
variable {V V' : nm → Prop} {ad ad' : nm → Nat} {σ σ' τ τ' : nI2} {ρ ρ' π : nN2} {ξ ξ' : Nat → zE} {M : zM} {x y w : nm} {n : Nat} {cnt : Nat → Nat}
/-- a schema emptied -/
def emS (σ : nI2) (c : Nat) : nI2 := up (up (up σ (6, 8 + c, 0) (σ (6, 8 + c, 0) + 1)) (7, 8 + c, 0) 0) (4, 3 + c, 0) 0
theorem s_empty (h : zC V ad σ ρ ξ M) {c : Nat} (hV : V (5, c, 0)) (hS : Sc σ ρ c) {P : zM → Prop} (hP : ∀ M', zC V ad (emS σ c) (clr ρ (8 + c) (zz σ c)) ξ M' → P M') : w_X2_empty (ad (5, c, 0)) M P := by
  obtain ⟨v2, v3, v6, v7⟩ := s_V h hV
  exact g_r h hV rfl rfl ⟨g_is h v2 rfl, l_clear h v2 hS.1 fun M1 h1 => g_r h1 hV rfl rfl ⟨g_is h1 v6 rfl, r_empty h1 v6 hP⟩⟩
theorem k_discard (h : zC V ad σ ρ ξ M) (hV : V (0, 0, 0)) (hK : WK n cnt σ ρ) {P : Int32 → zM → Prop} (hP : ∀ M', zC V ad (emS σ n) (clr ρ (8 + n) (zz σ n)) ξ M' → P (nI (zz σ n)) M') : w_X5_discard (ad (0, 0, 0)) M P := by
  have hVn := k_S h hV hK (Nat.le_refl n)
  have hS := (hK.2.2 n (Nat.le_refl n)).1
  have hd := hK.1.2.2.2
  have v2 := (s_V h hVn).1
  refine g_r h hV rfl rfl ?_
  show zGr M (ad (5, ρ (0, 0, 0), 0)) 3 0 _
  rw [hd]
  refine g_r h hVn rfl rfl ⟨g_is h v2 rfl, l_size h v2 hS.1 (g_r h hV rfl rfl ?_)⟩
  show zIs M (ad (5, ρ (0, 0, 0), 0)) 3 ∧ w_X2_empty (ad (5, ρ (0, 0, 0), 0)) M _
  rw [hd]
  exact ⟨g_is h hVn rfl, s_empty h hVn hS hP⟩
theorem m_empties (h : zC V ad σ ρ ξ M) (hV : V (9, 0, 0)) {P : zM → Prop} (hP : ∀ M', zC V ad (up (up σ (17, 7, 36) 0) (17, 8, 36) 0) ρ ξ M' → P M') : zIs M (ad (9, 0, 0)) 7 ∧ w_X6_empties (ad (9, 0, 0)) M P :=
  ⟨g_is h hV rfl, m_r h hV 7 (st_i h hV 7 36 rfl (show 36 < 37 by omega) fun M1 h1 => m_r h1 hV 8 (st_i h1 hV 8 36 rfl (show 36 < 37 by omega) hP))⟩
theorem m_discard (h : zC V ad σ ρ ξ M) (hV : V (9, 0, 0)) (R : Rel n cnt τ π σ) {P : Int32 → zM → Prop} (hP : ∀ M', zC V ad (up (up (up σ (16, 0, 0) 0) (17, 7, 36) 0) (17, 8, 36) 0) ρ ξ M' → P (nI (zz τ n)) M') : w_X6_discard (ad (9, 0, 0)) M P := by
  have r1 := (R.2.1 n (Nat.le_refl n)).1
  rw [ix_n] at r1
  refine p_0 h hV fun M1 h1 => m_r h1 hV 7 (a_i h1 hV 7 36 rfl (show 36 < 37 by omega) (m_empties h1 hV fun M2 h2 => ?_))
  rw [up_n _ _ (fun e => by cases e), r1]
  exact hP M2 h2
theorem s_last (h : zC V ad σ ρ ξ M) {c : Nat} (hV : V (5, c, 0)) (hS : Sc σ ρ c) {P : Option Nat → zM → Prop} (h0 : zz σ c = 0 → P none M) (h1 : ∀ j, zz σ c = j + 1 → P (some (ad (8, c, j))) M) : w_X2_last (ad (5, c, 0)) M P := by
  obtain ⟨v2, v3, v6, v7⟩ := s_V h hV
  refine g_r h hV rfl rfl ⟨g_is h v2 rfl, l_isEmpty h v2 hS.1 ?_⟩
  by_cases e : zz σ c = 0
  · rw [if_pos e]; exact br_f (by decide) (h0 e)
  · rw [if_neg e]
    obtain ⟨j, hj⟩ : ∃ j, zz σ c = j + 1 := ⟨zz σ c - 1, by omega⟩
    refine br_t rfl (g_r h hV rfl rfl (g_r h hV rfl rfl ⟨g_is h v2 rfl, l_size h v2 hS.1 ⟨g_is h v2 rfl, ?_⟩⟩))
    rw [hj, nI_pred]
    exact s_get h hV hS (by omega) (g_ck h (s_F h hV hS (by omega)) rfl (h1 j hj))
theorem k_byDefault (h : zC V ad σ ρ ξ M) (hV : V (0, 0, 0)) (hK : WK n cnt σ ρ) {p : Int32} {P : Int32 → zM → Prop} {PX : Nat → zM → Prop} (h1 : ∀ j, zz σ n = j + 1 → ¬ σ (9, n, j) = 4 → ofS p (σ (10, n, j)) = true → ∀ M', zC V ad (up (up σ (14, n, j) 1) (15, n, j) p) ρ ξ M' → P (σ (8, n, j)) M') (h2 : (zz σ n = 0 ∨ ∃ j, zz σ n = j + 1 ∧ σ (9, n, j) = 4) → PX 3 M) (h3 : ∀ j, zz σ n = j + 1 → ¬ σ (9, n, j) = 4 → ofS p (σ (10, n, j)) = false → PX 1 M) : w_X5_byDefault (ad (0, 0, 0)) p M P PX := by
  have hVn := k_S h hV hK (Nat.le_refl n)
  have hS := (hK.2.2 n (Nat.le_refl n)).1
  have hd := hK.1.2.2.2
  refine g_r h hV rfl rfl ?_
  show zIs M (ad (5, ρ (0, 0, 0), 0)) 3 ∧ w_X2_last (ad (5, ρ (0, 0, 0), 0)) M _
  rw [hd]
  refine ⟨g_is h hVn rfl, s_last h hVn hS (fun e => cm_none (h2 (Or.inl e))) (fun j hj => cm_some ?_)⟩
  have hF := s_F h hVn hS (show j < zz σ n by omega)
  refine g_i h hF rfl rfl ⟨fun e => g_i h hF rfl rfl (c_isOfSize (br_n (fun e2 => ?_) (fun e2 => h3 j hj e e2))), fun e => h2 (Or.inr ⟨j, hj, e⟩)⟩
  refine p_i h (14, n, j) hF (v := 1) rfl (by simp) (by simp [cell, hI, up, List.set]) fun M1 h1' => p_i h1' (15, n, j) hF (v := p) rfl (by simp) (by simp [cell, hI, up, List.set]) fun M2 h2' => g_i h2' hF rfl rfl ?_
  show P (up (up σ (14, n, j) 1) (15, n, j) p (8, n, j)) M2
  rw [up_n _ _ (fun q => by cases q), up_n _ _ (fun q => by cases q)]
  exact h1 j hj e e2 M2 h2'
theorem m_byDefault (h : zC V ad σ ρ ξ M) (hV : V (9, 0, 0)) (R : Rel n cnt τ π σ) (hK : WK n cnt τ π) {p : Int32} {P : Int32 → zM → Prop} (h1 : ∀ j, zz τ n = j + 1 → ¬ τ (9, n, j) = 4 → ofS p (τ (10, n, j)) = true → ∀ M', zC V ad (up (up (up σ (16, 0, 0) 0) (17, 5, 180 + j) 1) (17, 6, 180 + j) p) ρ ξ M' → P (τ (8, n, j)) M') (h2 : (zz τ n = 0 ∨ ∃ j, zz τ n = j + 1 ∧ τ (9, n, j) = 4) → ∀ M', zC V ad (up σ (16, 0, 0) 1) ρ ξ M' → P 0 M') (h3 : ∀ j, zz τ n = j + 1 → ¬ τ (9, n, j) = 4 → ofS p (τ (10, n, j)) = false → ∀ M', zC V ad (up σ (16, 0, 0) 2) ρ ξ M' → P 0 M') : w_X6_byDefault (ad (9, 0, 0)) p M P := by
  obtain ⟨r1, r2, r3⟩ := R.2.1 n (Nat.le_refl n)
  rw [ix_n] at r1 r2 r3
  have z5 := (hK.2.2 n (Nat.le_refl n)).1.2
  refine m_r h hV 7 (a_i h hV 7 36 rfl (show 36 < 37 by omega) (m_r h hV 7 (a_i h hV 7 36 rfl (show 36 < 37 by omega) ?_)))
  rw [r1]
  have no : ∀ (x : Int32) (k : Int32), ¬ k = 0 → (∀ M', zC V ad (up σ (16, 0, 0) k) ρ ξ M' → P 0 M') → w_X6_byDefault_53 (ad (9, 0, 0)) p P x k (ad (9, 0, 0)) M := fun x k hk hp =>
    ⟨g_is h hV rfl, p_0 h hV fun M' h' => ⟨fun _ => ⟨fun e => absurd rfl e, fun _ => hp M' h'⟩, fun e => absurd e hk⟩⟩
  by_cases e : zz τ n = 0
  · rw [e]
    exact br_t rfl (no _ 1 (by decide) (h2 (Or.inl e)))
  · obtain ⟨j, hj⟩ : ∃ j, zz τ n = j + 1 := ⟨zz τ n - 1, by omega⟩
    obtain ⟨⟨f1, f2, f4, f5, f6⟩, -, fT⟩ := r3 j (by omega)
    have xe : (180 : Int32) + nI (zz τ n) - 1 = nI (180 + j) := by
      rw [hj, show (180 : Int32) = nI 180 from rfl, nI_add, show 180 + (j + 1) = (180 + j) + 1 by omega, nI_pred]
    have b1 : 180 + j < 185 := by omega
    rw [xe]
    refine br_f (nI_ne0 (by omega) (by omega)) (m_r h hV 2 (a_i h hV 2 _ rfl b1 ?_))
    rw [show σ (17, 2, 180 + j) = τ (9, n, j) from f2]
    refine ⟨fun e4 => ⟨g_is h hV rfl, ?_⟩, fun e4 => no _ 1 (by decide) (h2 (Or.inr ⟨j, hj, e4⟩))⟩
    have hq : π (3, n, j) = 0 := Classical.byContradiction fun q => e4 (((hK.2.2 n (Nat.le_refl n)).2 j (by omega)).2.1.2 q)
    have mv := m_isValue h hV R hK (c := n) (i := j) (v := p) (Nat.le_refl n) (by omega) hq (P := fun v17 M16 => ((v17 = (0 : Int32) → (w_X6_byDefault_53 (ad (9, 0, 0)) p P (nI (180 + j)) (2 : Int32) (ad (9, 0, 0)) M16)) ∧ (¬ v17 = (0 : Int32) → (w_X6_byDefault_53 (ad (9, 0, 0)) p P (nI (180 + j)) (0 : Int32) (ad (9, 0, 0)) M16))))
    rw [ix_n] at mv
    refine mv (br_b (fun e2 => no _ 2 (by decide) (h3 j hj e4 e2)) (fun e2 => ⟨g_is h hV rfl, p_0 h hV fun M1 h1' => ⟨fun q => absurd rfl q, fun _ => ⟨fun _ => m_r h1' hV 5 (st_z h1' hV 5 (180 + j) rfl b1 (Or.inr rfl) fun M2 h2' => m_r h2' hV 6 (st_i h2' hV 6 (180 + j) rfl b1 fun M3 h3' => m_r h3' hV 1 (a_i h3' hV 1 (180 + j) rfl b1 ?_))), fun q => absurd q (by decide)⟩⟩⟩))
    rw [up_n _ _ (fun q => by cases q), up_n _ _ (fun q => by cases q), up_n _ _ (fun q => by cases q), show σ (17, 1, 180 + j) = τ (8, n, j) from f1]
    exact h1 j hj e4 e2 M3 h3'
