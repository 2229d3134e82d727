/-! ===== the pure part: the record's calls ===== -/
variable {Fm : zM} {V V' : nm → Prop} {ad ad' : nm → Nat} {σ σ' τ : nI2} {ρ ρ' π : nN2} {ξ ξ' : Nat → zE} {M : zM} {x y w : nm} {n : Nat} {cnt : Nat → Nat}
theorem allR_congr {f g : Nat → Bool} {k : Nat} (h : ∀ j, j < k → f j = g j) : allR f k 0 = allR g k 0 := by
  rw [Bool.eq_iff_iff, allR_iff, allR_iff]
  exact ⟨fun q j a b => by rw [← h j (by omega)]; exact q j a b, fun q j a b => by rw [h j (by omega)]; exact q j a b⟩
theorem k_isRecord (h : zC Fm V ad σ ρ ξ M) (hV : V (0, 0, 0)) (hK : WK n cnt σ ρ) (hP0 : WP n σ ρ) {r u : Nat} (hr : ρ (1, 0, 0) = r) (hu : σ (4, r, 0) = nI u) (hu2 : u ≤ 20) {p q : Int32} {P : Int32 → zM → Prop} {PX : Nat → zM → Prop} (h1 : ∀ s v, IsV cnt σ s v → p = nI s → q = nI v → P (bI (isRc σ r (ρ (2, s, v)) u)) M) (h2 : NoS p → PX 1 M) (h3 : ∀ s, s < 6 → p = nI s → NoV cnt σ s q → PX 2 M) : w_X5_isRecord (ad (0, 0, 0)) p q M P PX := by
  refine ⟨g_is h hV rfl, c_schema h hV hK (fun s v hs hp hq hv hne => ⟨_, rfl, g_is h hV rfl, ?_⟩) h2 h3⟩
  have hlt := ((hK.2.1 s hs).2.2 v hv).2
  exact c_isRecordOf h hV hP0 (c := ρ (2, s, v)) (by omega) (k_S h hV hK (by omega)) hr hu hu2 (h1 s v ⟨hs, hv, hne⟩ hp hq)
theorem k_valueAt (h : zC Fm V ad σ ρ ξ M) (hV : V (0, 0, 0)) {r u : Nat} (hr : ρ (1, 0, 0) = r) (hu : σ (4, r, 0) = nI u) (hu2 : u ≤ 20) {p : Int32} {P : Int32 → zM → Prop} {PX : Nat → zM → Prop} (h1 : ∀ j, j < u → p = nI j → P (σ (5, r, j)) M) (h2 : (∀ j, j < u → p ≠ nI j) → PX 2 M) : w_X5_valueAt (ad (0, 0, 0)) p M P PX := by
  subst hr
  have hVr := (k_0 h hV).2.2.2.1
  refine ⟨fun e => h2 fun j hj hp => ?_, fun e => g_r h hV rfl rfl ⟨g_is h hVr rfl, r_count h hVr ?_⟩⟩
  · rw [hp] at e; exact absurd e (nI_pos (by omega))
  · rw [hu]
    refine ⟨fun e1 => ?_, fun e1 => h2 fun j hj hp => ?_⟩
    · obtain ⟨j, hj, rfl⟩ := nI_of e
      have hju := (nI_ltI hj (by omega)).1 e1
      exact g_r h hV rfl rfl ⟨g_is h hVr rfl, r_at h hVr hu hu2 hju (h1 j hju rfl)⟩
    · rw [hp] at e1; exact absurd (nI_lt hj (by omega)) e1
theorem k_value (h : zC Fm V ad σ ρ ξ M) (hV : V (0, 0, 0)) {r u : Nat} (hr : ρ (1, 0, 0) = r) (hu : σ (4, r, 0) = nI u) (hu2 : u ≤ 20) {p : Int32} {P : Int32 → zM → Prop} {PX : Nat → zM → Prop} (h1 : u < 20 → ∀ M', zC Fm V ad (up (up σ (5, r, u) p) (4, r, 0) (nI (u + 1))) ρ ξ M' → P (nI (u + 1)) M') (h2 : u = 20 → PX 3 M) : w_X5_value (ad (0, 0, 0)) p M P PX := by
  subst hr
  have hVr := (k_0 h hV).2.2.2.1
  refine g_r h hV rfl rfl ⟨g_is h hVr rfl, r_count h hVr ?_⟩
  rw [hu]
  refine pk_lt u 20 (fun e => g_r h hV rfl rfl ⟨g_is h hVr rfl, r_add h hVr hu e fun M' h' => g_r h' hV rfl rfl ⟨g_is h' hVr rfl, r_count h' hVr ?_⟩⟩) (fun e => h2 (by omega))
  rw [up_s]
  exact h1 e M' h'
theorem k_clear (h : zC Fm V ad σ ρ ξ M) (hV : V (0, 0, 0)) {r : Nat} (hr : ρ (1, 0, 0) = r) {P : Int32 → zM → Prop} (h1 : ∀ M', zC Fm V ad (up σ (4, r, 0) 0) ρ ξ M' → P (σ (4, r, 0)) M') : w_X5_clear (ad (0, 0, 0)) M P := by
  subst hr
  have hVr := (k_0 h hV).2.2.2.1
  exact g_r h hV rfl rfl ⟨g_is h hVr rfl, r_count h hVr (g_r h hV rfl rfl ⟨g_is h hVr rfl, r_empty h hVr h1⟩)⟩
theorem k_setMode (h : zC Fm V ad σ ρ ξ M) (hV : V (0, 0, 0)) (hK : WK n cnt σ ρ) {p md al : Int32} (ha : al = 0 ∨ al = 1) {P : Int32 → zM → Prop} {PX : Nat → zM → Prop} (h1 : ∀ s k, s < 6 → p = nI s → k < 4 → md = nI k → ∀ M', zC Fm V ad (up (up σ (0, s, 0) md) (1, s, 0) al) ρ ξ M' → P (σ (0, s, 0)) M') (h2 : (NoS p ∨ ∀ k, k < 4 → md ≠ nI k) → PX 1 M) : w_X5_setMode (ad (0, 0, 0)) p md al M P PX := by
  refine ⟨g_is h hV rfl, c_subject h hV hK (fun s hs hp => ?_) (fun hno => h2 (Or.inl hno))⟩
  have hVs := (k_1 h hV hK hs).2.1
  refine ⟨fun e => h2 (Or.inr fun k hk hm => ?_), fun e => ⟨fun e1 => ⟨_, rfl, ?_⟩, fun e1 => h2 (Or.inr fun k hk hm => ?_)⟩⟩
  · rw [hm] at e; exact absurd e (nI_pos (by omega))
  · obtain ⟨k, hk, rfl⟩ := nI_of e
    have hk3 := (nI_leI (b := 3) hk (by omega)).1 e1
    refine g_i h hVs rfl rfl (p_i h (0, s, 0) hVs rfl (by simp) (by simp [cell, hI, up, List.set]) fun M1 h1' => ⟨ha, p_i h1' (1, s, 0) hVs rfl (by simp) (by simp [cell, hI, up, List.set]) fun M2 h2' => h1 s k hs hp (by omega) rfl M2 h2'⟩)
  · rw [hm] at e1; exact absurd (nI_le (b := 3) (show k ≤ 3 by omega) (by omega)) e1
