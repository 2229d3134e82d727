/-! ===== the pure part: the record's calls ===== -/
variable {V V' : nm → Prop} {ad ad' : nm → Nat} {σ σ' τ : nI2} {ρ ρ' π : nN2} {ξ ξ' : Nat → zE} {M : zM} {x y w : nm} {n : Nat} {cnt : Nat → Nat}
/-- the record of the class is the reference's: r its Row, u its count -/
def RR (τ : nI2) (r u : Nat) (σ : nI2) : Prop := u ≤ 20 ∧ τ (4, r, 0) = nI u ∧ σ (16, 16, 0) = nI u ∧ ∀ j, j < u → σ (17, 17, j) = τ (5, r, j)
theorem RR.ofz {r u : Nat} (E : EQz σ' σ) (h : RR τ r u σ) : RR τ r u σ' := ⟨h.1, h.2.1, (E _ (by simp [scr]) (by simp)).trans h.2.2.1, fun j hj => (E.col (by decide) (by decide)).trans (h.2.2.2 j hj)⟩
theorem allR_congr {f g : Nat → Bool} {k : Nat} (h : ∀ j, j < k → f j = g j) : allR f k 0 = allR g k 0 := by
  rw [Bool.eq_iff_iff, allR_iff, allR_iff]
  exact ⟨fun q j a b => by rw [← h j (by omega)]; exact q j a b, fun q j a b => by rw [h j (by omega)]; exact q j a b⟩
theorem RR.is {r u c : Nat} (h : RR τ r u σ) : isRm τ (fun j => σ (17, 17, j)) c u = isRc τ r c u := by
  unfold isRm isRc
  rw [allR_congr (g := fun j => ofS (τ (5, r, j)) (τ (5, 3 + c, j))) fun j hj => by show ofS (σ (17, 17, j)) _ = _; rw [h.2.2.2 j hj]]
theorem m_isRecord (h : zC V ad σ ρ ξ M) (hV : V (9, 0, 0)) (R : Rel n cnt τ π σ) (hK : WK n cnt τ π) (hP0 : WP n τ π) (hQ : WQ n τ π) {r u : Nat} (hR : RR τ r u σ) {p q : Int32} {P : Int32 → zM → Prop} (h1 : ∀ s v, IsV cnt τ s v → p = nI s → q = nI v → ∀ σ' M', EQz σ' σ → σ' (16, 0, 0) = 0 → zC V ad σ' ρ ξ M' → P (bI (isRc τ r (π (2, s, v)) u)) M') (h2 : NoS p → ∀ σ' M', EQz σ' σ → σ' (16, 0, 0) = 1 → zC V ad σ' ρ ξ M' → P 0 M') (h3 : ∀ s, s < 6 → p = nI s → NoV cnt τ s q → ∀ σ' M', EQz σ' σ → σ' (16, 0, 0) = 2 → zC V ad σ' ρ ξ M' → P 0 M') : w_X6_isRecord (ad (9, 0, 0)) p q M P := by
  refine ⟨g_is h hV rfl, m_isAsked h hV R hK (fun s v hv hp hq σ' M' E e h' => br_f (by decide) ?_) (fun a b c d e f => br_t rfl (h2 a b c d e f)) (fun s a b c d e f g i => br_t rfl (h3 s a b c d e f g i))⟩
  subst hp hq
  have c6 := (hK.2.1 s hv.1).2.1
  have hlt := ((hK.2.1 s hv.1).2.2 v hv.2.1).2
  refine m_r h' hV 11 (a_i h' hV 11 (6 * s + v) (n_6 s v) (show 6 * s + v < 36 by have := hv.1; have := hv.2.1; omega) ⟨g_is h' hV rfl, ?_⟩)
  rw [(((R.ofz E).2.2 s hv.1).2.1 v hv.2.1).1, show nI (π (2, s, v)) = nI (ix n (π (2, s, v))) by rw [ix_c hlt]]
  refine m_isRecordOf h' hV (R.ofz E) hK hP0 hQ (by omega) (hR.ofz E).2.2.1 hR.1 fun σ'' M'' E' h'' => br_01 ?_
  rw [(hR.ofz E).is]
  exact h1 s v hv rfl rfl σ'' M'' (E'.z.trans E) ((E' _ (by simp [scr])).trans e) h''
theorem k_isRecord (h : zC V ad σ ρ ξ M) (hV : V (0, 0, 0)) (hK : WK n cnt σ ρ) (hP0 : WP n σ ρ) {r u : Nat} (hr : ρ (1, 0, 0) = r) (hu : σ (4, r, 0) = nI u) (hu2 : u ≤ 20) {p q : Int32} {P : Int32 → zM → Prop} {PX : Nat → zM → Prop} (h1 : ∀ s v, IsV cnt σ s v → p = nI s → q = nI v → P (bI (isRc σ r (ρ (2, s, v)) u)) M) (h2 : NoS p → PX 1 M) (h3 : ∀ s, s < 6 → p = nI s → NoV cnt σ s q → PX 2 M) : w_X5_isRecord (ad (0, 0, 0)) p q M P PX := by
  refine ⟨g_is h hV rfl, c_schema h hV hK (fun s v hs hp hq hv hne => ⟨_, rfl, g_is h hV rfl, ?_⟩) h2 h3⟩
  have hlt := ((hK.2.1 s hs).2.2 v hv).2
  exact c_isRecordOf h hV hP0 (c := ρ (2, s, v)) (by omega) (k_S h hV hK (by omega)) hr hu hu2 (h1 s v ⟨hs, hv, hne⟩ hp hq)
theorem m_valueAt (h : zC V ad σ ρ ξ M) (hV : V (9, 0, 0)) {r u : Nat} (hR : RR τ r u σ) {p : Int32} {P : Int32 → zM → Prop} (h1 : ∀ j, j < u → p = nI j → ∀ σ' M', EQz σ' σ → σ' (16, 0, 0) = 0 → zC V ad σ' ρ ξ M' → P (τ (5, r, j)) M') (h2 : (∀ j, j < u → p ≠ nI j) → ∀ σ' M', EQz σ' σ → σ' (16, 0, 0) = 1 → zC V ad σ' ρ ξ M' → P 0 M') : w_X6_valueAt (ad (9, 0, 0)) p M P := by
  have u20 := hR.1
  refine g_i h hV rfl rfl ?_
  show w_X6_in p 0 (σ (16, 16, 0) - 1) M _
  rw [hR.2.2.1]
  refine m_inN (k := u) (by omega) rfl (fun j hj hp => br_f (by decide) (m_holds h hV (fun _ σ' M' E e h' => br_f (by decide) (m_r h' hV 17 (a_i h' hV 17 j hp (show j < 20 by omega) ?_))) (fun e => absurd rfl e))) (fun hno => br_t rfl (m_holds h hV (fun e => absurd e (by decide)) (fun _ σ' M' E e h' => br_t rfl (h2 hno σ' M' E e h'))))
  rw [(hR.ofz E).2.2.2 j hj]
  exact h1 j hj hp σ' M' E e h'
theorem k_valueAt (h : zC V ad σ ρ ξ M) (hV : V (0, 0, 0)) {r u : Nat} (hr : ρ (1, 0, 0) = r) (hu : σ (4, r, 0) = nI u) (hu2 : u ≤ 20) {p : Int32} {P : Int32 → zM → Prop} {PX : Nat → zM → Prop} (h1 : ∀ j, j < u → p = nI j → P (σ (5, r, j)) M) (h2 : (∀ j, j < u → p ≠ nI j) → PX 2 M) : w_X5_valueAt (ad (0, 0, 0)) p M P PX := by
  subst hr
  have hVr := (k_0 h hV).2.2.2.1
  refine ⟨fun e => h2 fun j hj hp => ?_, fun e => g_r h hV rfl rfl ⟨g_is h hVr rfl, r_count h hVr ?_⟩⟩
  · rw [hp] at e; exact absurd e (nI_pos (by omega))
  · rw [hu]
    refine ⟨fun e1 => ?_, fun e1 => h2 fun j hj hp => ?_⟩
    · obtain ⟨j, hj, rfl⟩ := nI_of e
      have hju := (nI_ltI hj (by omega)).1 e1
      exact g_r h hV rfl rfl ⟨g_is h hVr rfl, r_at h hVr hu hu2 hju (h1 j hju rfl)⟩
    · rw [hp] at e1; exact absurd (nI_lt hj (by omega)) e1
theorem k_value (h : zC V ad σ ρ ξ M) (hV : V (0, 0, 0)) {r u : Nat} (hr : ρ (1, 0, 0) = r) (hu : σ (4, r, 0) = nI u) (hu2 : u ≤ 20) {p : Int32} {P : Int32 → zM → Prop} {PX : Nat → zM → Prop} (h1 : u < 20 → ∀ M', zC V ad (up (up σ (5, r, u) p) (4, r, 0) (nI (u + 1))) ρ ξ M' → P (nI (u + 1)) M') (h2 : u = 20 → PX 3 M) : w_X5_value (ad (0, 0, 0)) p M P PX := by
  subst hr
  have hVr := (k_0 h hV).2.2.2.1
  refine g_r h hV rfl rfl ⟨g_is h hVr rfl, r_count h hVr ?_⟩
  rw [hu]
  refine pk_lt u 20 (fun e => g_r h hV rfl rfl ⟨g_is h hVr rfl, r_add h hVr hu e fun M' h' => g_r h' hV rfl rfl ⟨g_is h' hVr rfl, r_count h' hVr ?_⟩⟩) (fun e => h2 (by omega))
  rw [up_s]
  exact h1 e M' h'
theorem m_value (h : zC V ad σ ρ ξ M) (hV : V (9, 0, 0)) {u : Nat} (hu : σ (16, 16, 0) = nI u) (hu2 : u ≤ 20) {p : Int32} {P : Int32 → zM → Prop} (h1 : u < 20 → ∀ M', zC V ad (up (up (up σ (16, 0, 0) 0) (17, 17, u) p) (16, 16, 0) (nI (u + 1))) ρ ξ M' → P (nI (u + 1)) M') (h2 : u = 20 → ∀ M', zC V ad (up σ (16, 0, 0) 1) ρ ξ M' → P 0 M') : w_X6_value (ad (9, 0, 0)) p M P := by
  refine g_i h hV rfl rfl ?_
  show (¬ σ (16, 16, 0) = 20 → _) ∧ (σ (16, 16, 0) = 20 → _)
  rw [hu]
  refine ⟨fun e => ⟨g_is h hV rfl, p_0 h hV fun M1 h1' => ⟨fun e2 => absurd rfl e2, fun _ => br_f (c := (1 : Int32) = 0) (A := False) (by decide) ?_ |>.2 (by decide) |> fun q => ⟨fun _ => q, fun e3 => absurd e3 (by decide)⟩⟩⟩, fun e => ⟨g_is h hV rfl, p_0 h hV fun M1 h1' => ⟨fun _ => ⟨fun e3 => absurd rfl e3, fun _ => h2 ((nI_eq (b := 20) (by omega) (by omega)).1 e) M1 h1'⟩, fun e2 => absurd e2 (by decide)⟩⟩⟩
  have hlt : u < 20 := Nat.lt_of_le_of_ne hu2 fun q => e (by rw [q]; rfl)
  refine m_r h1' hV 17 (g_i h1' hV rfl rfl ?_)
  have e16 : up σ (16, 0, 0) 0 (16, 16, 0) = nI u := (up_n _ _ (fun q => by cases q)).trans hu
  show zSi M1 (ad (10, 17, 0)) (up σ (16, 0, 0) 0 (16, 16, 0)) p _
  rw [e16]
  refine st_i h1' hV 17 u rfl (show u < 20 from hlt) fun M2 h2' => g_i h2' hV rfl rfl ?_
  show zPu M2 (ad (9, 0, 0)) 7 16 (.int (up (up σ (16, 0, 0) 0) (17, 17, u) p (16, 16, 0) + 1)) _
  rw [up_n _ _ (fun q => by cases q), e16, nI_1]
  refine p_16 h2' hV fun M3 h3' => g_i h3' hV rfl rfl ?_
  show P (up (up (up σ (16, 0, 0) 0) (17, 17, u) p) (16, 16, 0) (nI (u + 1)) (16, 16, 0)) M3
  rw [up_s]
  exact h1 hlt M3 h3'
theorem k_clear (h : zC V ad σ ρ ξ M) (hV : V (0, 0, 0)) {r : Nat} (hr : ρ (1, 0, 0) = r) {P : Int32 → zM → Prop} (h1 : ∀ M', zC V ad (up σ (4, r, 0) 0) ρ ξ M' → P (σ (4, r, 0)) M') : w_X5_clear (ad (0, 0, 0)) M P := by
  subst hr
  have hVr := (k_0 h hV).2.2.2.1
  exact g_r h hV rfl rfl ⟨g_is h hVr rfl, r_count h hVr (g_r h hV rfl rfl ⟨g_is h hVr rfl, r_empty h hVr h1⟩)⟩
theorem m_clear (h : zC V ad σ ρ ξ M) (hV : V (9, 0, 0)) {P : Int32 → zM → Prop} (h1 : ∀ M', zC V ad (up (up σ (16, 0, 0) 0) (16, 16, 0) 0) ρ ξ M' → P (σ (16, 16, 0)) M') : w_X6_clear (ad (9, 0, 0)) M P := by
  refine p_0 h hV fun M1 h1' => g_i h1' hV rfl rfl (p_16 h1' hV fun M2 h2 => ?_)
  show P (up σ (16, 0, 0) 0 (16, 16, 0)) M2
  rw [up_n _ _ (fun q => by cases q)]
  exact h1 M2 h2
theorem k_setMode (h : zC V ad σ ρ ξ M) (hV : V (0, 0, 0)) (hK : WK n cnt σ ρ) {p md al : Int32} (ha : al = 0 ∨ al = 1) {P : Int32 → zM → Prop} {PX : Nat → zM → Prop} (h1 : ∀ s k, s < 6 → p = nI s → k < 4 → md = nI k → ∀ M', zC V ad (up (up σ (0, s, 0) md) (1, s, 0) al) ρ ξ M' → P (σ (0, s, 0)) M') (h2 : (NoS p ∨ ∀ k, k < 4 → md ≠ nI k) → PX 1 M) : w_X5_setMode (ad (0, 0, 0)) p md al M P PX := by
  refine ⟨g_is h hV rfl, c_subject h hV hK (fun s hs hp => ?_) (fun hno => h2 (Or.inl hno))⟩
  have hVs := (k_1 h hV hK hs).2.1
  refine ⟨fun e => h2 (Or.inr fun k hk hm => ?_), fun e => ⟨fun e1 => ⟨_, rfl, ?_⟩, fun e1 => h2 (Or.inr fun k hk hm => ?_)⟩⟩
  · rw [hm] at e; exact absurd e (nI_pos (by omega))
  · obtain ⟨k, hk, rfl⟩ := nI_of e
    have hk3 := (nI_leI (b := 3) hk (by omega)).1 e1
    refine g_i h hVs rfl rfl (p_i h (0, s, 0) hVs rfl (by simp) (by simp [cell, hI, up, List.set]) fun M1 h1' => ⟨ha, p_i h1' (1, s, 0) hVs rfl (by simp) (by simp [cell, hI, up, List.set]) fun M2 h2' => h1 s k hs hp (by omega) rfl M2 h2'⟩)
  · rw [hm] at e1; exact absurd (nI_le (b := 3) (show k ≤ 3 by omega) (by omega)) e1
theorem m_setMode (h : zC V ad σ ρ ξ M) (hV : V (9, 0, 0)) {p md al : Int32} (ha : al = 0 ∨ al = 1) {P : Int32 → zM → Prop} (h1 : ∀ s k, s < 6 → p = nI s → k < 4 → md = nI k → ∀ M', zC V ad (up (up (up σ (16, 0, 0) 0) (17, 14, s) md) (17, 15, s) al) ρ ξ M' → P (σ (17, 14, s)) M') (h2 : (NoS p ∨ ∀ k, k < 4 → md ≠ nI k) → ∀ M', zC V ad (up σ (16, 0, 0) 1) ρ ξ M' → P 0 M') : w_X6_setMode (ad (9, 0, 0)) p md al M P := by
  have no : (NoS p ∨ ∀ k, k < 4 → md ≠ nI k) → w_X6_setMode_21 (ad (9, 0, 0)) p md al P (ad (9, 0, 0)) M := fun hno =>
    ⟨g_is h hV rfl, p_0 h hV fun M1 h1' => ⟨fun _ => ⟨fun e => absurd rfl e, fun _ => h2 hno M1 h1'⟩, fun e => absurd e (by decide)⟩⟩
  refine m_isSubject (fun s hs hp => br_f (by decide) (m_inN (k := 4) (by omega) (by decide) (fun k hk hm => br_f (by decide) ⟨g_is h hV rfl, p_0 h hV fun M1 h1' => ⟨fun e => absurd rfl e, fun _ => ⟨fun _ => ?_, fun e => absurd e (by decide)⟩⟩⟩) (fun hno => br_t rfl (no (Or.inr hno))))) (fun hno => br_t rfl (no (Or.inl hno)))
  refine m_r h1' hV 14 (a_i h1' hV 14 s hp (show s < 6 from hs) (m_r h1' hV 14 (st_i h1' hV 14 s hp (show s < 6 from hs) fun M2 h2' => m_r h2' hV 15 (st_z h2' hV 15 s hp (show s < 6 from hs) ha fun M3 h3' => ?_))))
  rw [up_n _ _ (fun q => by cases q)]
  exact h1 s k hs hp hk hm M3 h3'
