/-! ===== the pure part: register in the reference ===== -/
variable {V V' : nm → Prop} {ad ad' : nm → Nat} {σ σ' τ τ' : nI2} {ρ ρ' π : nN2} {ξ ξ' : Nat → zE} {M : zM} {x y w : nm} {n : Nat} {cnt : Nat → Nat}
/-- the draft's flags are flags -/
def WD (σ : nI2) : Prop := ∀ j, j < 5 → σ (17, 5, 180 + j) = 0 ∨ σ (17, 5, 180 + j) = 1
theorem WD.ofz (E : EQz σ' σ) (h : WD σ) : WD σ' := fun j hj => by rw [E.col (by decide) (by decide)]; exact h j hj
/-- the draft's first i fields copied to the place n -/
def cpI (σ : nI2) (n i : Nat) : nI2 := fun w => if w.1 = 17 ∧ 1 ≤ w.2.1 ∧ w.2.1 ≤ 6 ∧ 5 * n ≤ w.2.2 ∧ w.2.2 < 5 * n + i then σ (17, w.2.1, 180 + (w.2.2 - 5 * n)) else σ w
theorem cpI_0 : cpI σ n 0 = σ := funext fun w => if_neg (by omega)
theorem cpI_n {i : Nat} (h : w.1 ≠ 17 ∨ w.2.1 < 1 ∨ 6 < w.2.1 ∨ w.2.2 < 5 * n ∨ 5 * n + i ≤ w.2.2) : cpI σ n i w = σ w := if_neg (by omega)
theorem cpI_y {i k j : Nat} (hk : 1 ≤ k) (hk2 : k ≤ 6) (hj : j < i) : cpI σ n i (17, k, 5 * n + j) = σ (17, k, 180 + j) := by
  refine (if_pos ⟨rfl, hk, hk2, by simp only; omega, by simp only; omega⟩).trans ?_
  simp only [Nat.add_sub_cancel_left]
theorem cpI_s {i : Nat} : up (up (up (up (up (up (cpI σ n i) (17, 1, 5 * n + i) (σ (17, 1, 180 + i))) (17, 2, 5 * n + i) (σ (17, 2, 180 + i))) (17, 3, 5 * n + i) (σ (17, 3, 180 + i))) (17, 4, 5 * n + i) (σ (17, 4, 180 + i))) (17, 5, 5 * n + i) (σ (17, 5, 180 + i))) (17, 6, 5 * n + i) (σ (17, 6, 180 + i)) = cpI σ n (i + 1) := by
  funext w
  obtain ⟨a, b, c⟩ := w
  by_cases e : a = 17 ∧ 1 ≤ b ∧ b ≤ 6 ∧ c = 5 * n + i
  · obtain ⟨rfl, b1, b6, rfl⟩ := e
    rw [cpI_y b1 b6 (by omega)]
    have hb : b = 1 ∨ b = 2 ∨ b = 3 ∨ b = 4 ∨ b = 5 ∨ b = 6 := by omega
    rcases hb with rfl | rfl | rfl | rfl | rfl | rfl <;> simp [up]
  · have ne : ∀ k, 1 ≤ k → k ≤ 6 → ((a, b, c) : nm) ≠ (17, k, 5 * n + i) := fun k k1 k6 q => by
      have q1 := congrArg Prod.fst q
      have q2 := congrArg (fun w : nm => w.2.1) q
      have q3 := congrArg (fun w : nm => w.2.2) q
      simp only at q1 q2 q3
      exact e ⟨q1, by omega, by omega, q3⟩
    rw [up_n _ _ (ne 6 (by omega) (by omega)), up_n _ _ (ne 5 (by omega) (by omega)), up_n _ _ (ne 4 (by omega) (by omega)), up_n _ _ (ne 3 (by omega) (by omega)), up_n _ _ (ne 2 (by omega) (by omega)), up_n _ _ (ne 1 (by omega) (by omega))]
    by_cases e2 : a = 17 ∧ 1 ≤ b ∧ b ≤ 6 ∧ 5 * n ≤ c ∧ c < 5 * n + i
    · exact (if_pos e2).trans (if_pos (show a = 17 ∧ 1 ≤ b ∧ b ≤ 6 ∧ 5 * n ≤ c ∧ c < 5 * n + (i + 1) by omega)).symm
    · exact (if_neg e2).trans (if_neg (show ¬ (a = 17 ∧ 1 ≤ b ∧ b ≤ 6 ∧ 5 * n ≤ c ∧ c < 5 * n + (i + 1)) by omega)).symm
/-- the reference's rows once the draft has got the number n -/
def nbI (σ : nI2) (n : Nat) : nI2 := up (up (up (cpI σ n 5) (17, 7, n) (σ (17, 7, 36))) (17, 8, n) (σ (17, 8, 36))) (16, 9, 0) (nI (n + 1))
theorem m_numbered (h : zC V ad σ ρ ξ M) (hV : V (9, 0, 0)) (R : Rel n cnt τ π σ) (hK : WK n cnt τ π) (hD : WD σ) (hn36 : n < 36) {P : Int32 → zM → Prop} (h1 : ∀ i, i < n → numS τ n = some i → P (nI i) M) (h2 : numS τ n = none → ∀ M', zC V ad (nbI σ n) ρ ξ M' → P (nI n) M') : w_X6_numbered (ad (9, 0, 0)) M P := by
  have r9 := R.1
  have cp : numS τ n = none → ∀ k i M, i + k = 5 → zC V ad (cpI σ n i) ρ ξ M → w_X6_numbered_28 (ad (9, 0, 0)) P (k + 1) (nI i) M := fun hl => by
    intro k
    induction k with
    | zero =>
      intro i M hi h
      obtain rfl : i = 5 := by omega
      have q9 : cpI σ n 5 (16, 9, 0) = nI n := (cpI_n (Or.inl (by simp))).trans r9
      refine ⟨fun _ => ?_, fun q => absurd (nI_le (a := 5) (b := 5) (by omega) (by omega)) q⟩
      refine m_r h hV 7 (g_i h hV rfl rfl (m_r h hV 7 (a_i h hV 7 36 rfl (show 36 < 37 by omega) ?_)))
      rw [show cpI σ n 5 (17, 7, 36) = σ (17, 7, 36) from cpI_n (Or.inr (Or.inr (Or.inl (by simp))))]
      refine st_i h hV 7 n q9 (show n < 37 by omega) fun M1 h1' => m_r h1' hV 8 (g_i h1' hV rfl rfl (m_r h1' hV 8 (a_i h1' hV 8 36 rfl (show 36 < 37 by omega) ?_)))
      rw [show up (cpI σ n 5) (17, 7, n) (σ (17, 7, 36)) (17, 8, 36) = σ (17, 8, 36) from (up_n _ _ (fun e => by cases e)).trans (cpI_n (Or.inr (Or.inr (Or.inl (by simp)))))]
      refine st_i h1' hV 8 n ((up_n _ _ (fun e => by cases e)).trans q9) (show n < 37 by omega) fun M2 h2' => g_i h2' hV rfl rfl ?_
      have q9' : up (up (cpI σ n 5) (17, 7, n) (σ (17, 7, 36))) (17, 8, n) (σ (17, 8, 36)) (16, 9, 0) = nI n := (up_n _ _ (fun e => by cases e)).trans ((up_n _ _ (fun e => by cases e)).trans q9)
      rw [q9', nI_1]
      refine p_9 h2' hV fun M3 h3' => g_i h3' hV rfl rfl ?_
      rw [up_s, nI_pred]
      exact h2 hl M3 h3'
    | succ k ih =>
      intro i M hi h
      have q9 : cpI σ n i (16, 9, 0) = nI n := (cpI_n (Or.inl (by simp))).trans r9
      have qc : ∀ k, cpI σ n i (17, k, 180 + i) = σ (17, k, 180 + i) := fun k => cpI_n (Or.inr (Or.inr (Or.inr (Or.inr (by simp only; omega)))))
      have bs : 180 + i < 185 := by omega
      have bt : 5 * n + i < 185 := by omega
      have xs : (180 : Int32) + nI i = nI (180 + i) := nI_add 180 i
      have xt : (5 : Int32) * nI n + nI i = nI (5 * n + i) := n_ma 5 n i
      refine ⟨fun q => absurd q (nI_ge (b := 5) (show i < 5 by omega) (by omega)), fun _ => g_i h hV rfl rfl ?_⟩
      rw [q9]
      have ne : ∀ k k' : Nat, k ≠ k' → ∀ p q : Nat, ((17, k, p) : nm) ≠ (17, k', q) := fun k k' hk p q e => hk (by cases e; rfl)
      refine m_r h hV 1 (m_r h hV 1 (a_i h hV 1 _ xs bs ?_))
      rw [qc 1]
      refine st_i h hV 1 _ xt bt fun M1 h1' => m_r h1' hV 2 (m_r h1' hV 2 (a_i h1' hV 2 _ xs bs ?_))
      rw [up_n _ _ (ne 2 1 (by omega) _ _), qc 2]
      refine st_i h1' hV 2 _ xt bt fun M2 h2' => m_r h2' hV 3 (m_r h2' hV 3 (a_i h2' hV 3 _ xs bs ?_))
      rw [up_n _ _ (ne 3 2 (by omega) _ _), up_n _ _ (ne 3 1 (by omega) _ _), qc 3]
      refine st_i h2' hV 3 _ xt bt fun M3 h3' => m_r h3' hV 4 (m_r h3' hV 4 (a_i h3' hV 4 _ xs bs ?_))
      rw [up_n _ _ (ne 4 3 (by omega) _ _), up_n _ _ (ne 4 2 (by omega) _ _), up_n _ _ (ne 4 1 (by omega) _ _), qc 4]
      refine st_i h3' hV 4 _ xt bt fun M4 h4' => m_r h4' hV 5 (m_r h4' hV 5 (a_i h4' hV 5 _ xs bs ?_))
      rw [up_n _ _ (ne 5 4 (by omega) _ _), up_n _ _ (ne 5 3 (by omega) _ _), up_n _ _ (ne 5 2 (by omega) _ _), up_n _ _ (ne 5 1 (by omega) _ _), qc 5]
      refine st_z h4' hV 5 _ xt bt (hD i (by omega)) fun M5 h5' => m_r h5' hV 6 (m_r h5' hV 6 (a_i h5' hV 6 _ xs bs ?_))
      rw [up_n _ _ (ne 6 5 (by omega) _ _), up_n _ _ (ne 6 4 (by omega) _ _), up_n _ _ (ne 6 3 (by omega) _ _), up_n _ _ (ne 6 2 (by omega) _ _), up_n _ _ (ne 6 1 (by omega) _ _), qc 6]
      refine st_i h5' hV 6 _ xt bt fun M6 h6' => ?_
      rw [cpI_s] at h6'
      rw [nI_1]
      exact ih (i + 1) M6 (by omega) h6'
  have key : ∀ k i, i + k = n → numS τ n = lk (fun i => likeS τ i n) k i → w_X6_numbered_2 (ad (9, 0, 0)) P (k + 1) (nI i) M := by
    intro k
    induction k with
    | zero =>
      intro i hi hl
      refine g_i h hV rfl rfl ?_
      rw [r9]
      refine br_t (nI_le (by omega) (by omega)) ⟨6, ?_⟩
      have := cp hl 5 0 M (by omega) (by rw [cpI_0]; exact h)
      rw [nI_0] at this
      exact this
    | succ k ih =>
      intro i hi hl
      refine g_i h hV rfl rfl ?_
      rw [r9]
      refine br_f (nI_ge (by omega) (by omega)) ⟨g_is h hV rfl, ?_⟩
      have := m_isLike h hV R hK (c := i) (by omega) (P := fun v45 M44 => ((v45 = (0 : Int32) → (w_X6_numbered_2 (ad (9, 0, 0)) P (k + 1) (nI i + 1) M44)) ∧ (¬ v45 = (0 : Int32) → P (nI i) M44)))
      rw [ix_c (show i < n by omega)] at this
      refine this (br_b (fun e => ?_) (fun e => ?_))
      · rw [nI_1]
        refine ih (i + 1) (by omega) ?_
        rw [hl, lk, if_neg (by rw [e]; decide)]
      · refine h1 i (by omega) ?_
        rw [hl, lk, if_pos e]
  exact ⟨n + 1, key n 0 (by omega) rfl⟩
theorem m_errorOfRegister (h : zC V ad σ ρ ξ M) (hV : V (9, 0, 0)) (R : Rel n cnt τ π σ) (hK : WK n cnt τ π) (hM : WM τ) {p : Int32} {P : Int32 → zM → Prop}
    (h0 : ∀ s, s < 6 → p = nI s → zz τ n ≠ 0 → (lowS τ π s (cnt s) n ≠ none ∨ (cnt s < 6 ∧ accF τ π s n (cnt s) = true)) → ∀ σ' M', EQx σ' σ → zC V ad σ' ρ ξ M' → P 0 M') (h1 : NoS p → P 1 M)
    (h2 : ∀ s, s < 6 → p = nI s → (zz τ n = 0 ∨ (lowS τ π s (cnt s) n = none ∧ (cnt s = 6 ∨ accF τ π s n (cnt s) = false))) → ∀ σ' M', EQx σ' σ → zC V ad σ' ρ ξ M' → P 2 M') : w_X6_errorOfRegister (ad (9, 0, 0)) p M P := by
  obtain ⟨r1, r2, r3⟩ := R.2.1 n (Nat.le_refl n)
  rw [ix_n] at r1
  have z5 := (hK.2.2 n (Nat.le_refl n)).1.2
  refine m_isSubject (fun s hs hp => ⟨fun _ => m_r h hV 7 (a_i h hV 7 36 rfl (show 36 < 37 by omega) ?_), fun e => absurd e (by decide)⟩) (fun no => ⟨fun e => absurd rfl e, fun _ => h1 no⟩)
  have c6 := (hK.2.1 s hs).2.1
  have rs := (R.2.2 s hs).1
  rw [r1]
  by_cases e0 : zz τ n = 0
  · rw [e0]
    exact ⟨fun e => absurd rfl e, fun _ => h2 s hs hp (Or.inl e0) σ M EQx.refl h⟩
  · refine ⟨fun _ => ⟨g_is h hV rfl, ?_⟩, fun e => absurd e (nI_ne0 (by omega) (by omega))⟩
    subst hp
    refine m_likeVersion h hV R hK hs ?_
    cases el : lowS τ π s (cnt s) n with
    | some v =>
      have := lk_some _ _ _ el
      exact ⟨fun _ => h0 s hs rfl e0 (Or.inl (by rw [el]; simp)) σ M EQx.refl h, fun q => absurd q (nI_m1 (by omega))⟩
    | none =>
      refine ⟨fun q => absurd rfl q, fun _ => m_r h hV 13 (a_i h hV 13 s rfl (show s < 6 from hs) ?_)⟩
      rw [rs]
      refine pk_eq (cnt s) 6 (fun e6 => h2 s hs rfl (Or.inr ⟨el, Or.inl e6⟩) σ M EQx.refl h) (fun e6 => ⟨g_is h hV rfl, m_isAcceptedBy h hV R hK hM hs fun σ' M' E h' => br_n (fun e => ?_) (fun e => ?_)⟩)
      · exact h0 s hs rfl e0 (Or.inr ⟨by omega, e⟩) σ' M' E h'
      · exact h2 s hs rfl (Or.inr ⟨el, Or.inr e⟩) σ' M' E h'
/-- the reference's rows after a new version with the number i -/
def rgS (σ : nI2) (s k i : Nat) : nI2 := up (up (up (up (up σ (17, 11, 6 * s + k) (nI i)) (17, 12, 6 * s + k) 1) (17, 13, s) (nI (k + 1))) (17, 7, 36) 0) (17, 8, 36) 0
theorem m_register (h : zC V ad σ ρ ξ M) (hV : V (9, 0, 0)) (R : Rel n cnt τ π σ) (hK : WK n cnt τ π) (hM : WM τ) (hD : WD σ) (hT : ∀ s, s < 6 → cnt s < 6 → n < 36) {p : Int32} {P : Int32 → zM → Prop}
    (h1 : ∀ s v, s < 6 → p = nI s → zz τ n ≠ 0 → lowS τ π s (cnt s) n = some v → ∀ σ' M', EQz σ' σ → σ' (16, 0, 0) = 0 → zC V ad (up (up σ' (17, 7, 36) 0) (17, 8, 36) 0) ρ ξ M' → P (nI v) M')
    (h2 : NoS p → ∀ σ' M', EQz σ' σ → σ' (16, 0, 0) = 1 → zC V ad σ' ρ ξ M' → P 0 M')
    (h3 : ∀ s, s < 6 → p = nI s → (zz τ n = 0 ∨ (lowS τ π s (cnt s) n = none ∧ (cnt s = 6 ∨ accF τ π s n (cnt s) = false))) → ∀ σ' M', EQz σ' σ → σ' (16, 0, 0) = 2 → zC V ad σ' ρ ξ M' → P 0 M')
    (h4 : ∀ s i, s < 6 → p = nI s → zz τ n ≠ 0 → lowS τ π s (cnt s) n = none → cnt s < 6 → accF τ π s n (cnt s) = true → i < n → numS τ n = some i → ∀ σ' M', EQz σ' σ → σ' (16, 0, 0) = 0 → zC V ad (rgS σ' s (cnt s) i) ρ ξ M' → P (nI (cnt s)) M')
    (h5 : ∀ s, s < 6 → p = nI s → zz τ n ≠ 0 → lowS τ π s (cnt s) n = none → cnt s < 6 → accF τ π s n (cnt s) = true → n < 36 → numS τ n = none → ∀ σ' M', EQz σ' σ → σ' (16, 0, 0) = 0 → zC V ad (rgS (nbI σ' n) s (cnt s) n) ρ ξ M' → P (nI (cnt s)) M') : w_X6_register (ad (9, 0, 0)) p M P := by
  refine ⟨g_is h hV rfl, m_errorOfRegister h hV R hK hM (fun s hs hp z0 hl σ1 M1 E1 g1 => m_holds g1 hV (fun _ σ2 M2 E2 q2 g2 => ⟨fun _ => ⟨g_is g2 hV rfl, ?_⟩, fun e => absurd e (by decide)⟩) (fun q => absurd rfl q)) (fun no => m_holds h hV (fun q => absurd q (by decide)) (fun _ σ2 M2 E2 q2 g2 => ⟨fun e => absurd rfl e, fun _ => h2 no σ2 M2 E2 q2 g2⟩)) (fun s hs hp hl σ1 M1 E1 g1 => m_holds g1 hV (fun q => absurd q (by decide)) (fun _ σ2 M2 E2 q2 g2 => ⟨fun e => absurd rfl e, fun _ => h3 s hs hp hl σ2 M2 (E2.trans E1.z) q2 g2⟩))⟩
  have E := E2.trans E1.z
  have R2 := R.ofz E
  have D2 := hD.ofz E
  have c6 := (hK.2.1 s hs).2.1
  subst hp
  refine m_likeVersion g2 hV R2 hK hs ?_
  cases el : lowS τ π s (cnt s) n with
  | some v =>
    have := lk_some _ _ _ el
    exact ⟨fun _ => m_empties g2 hV fun M3 g3 => h1 s v hs rfl z0 el σ2 M3 E q2 g3, fun q => absurd q (nI_m1 (by omega))⟩
  | none =>
    obtain ⟨k6, ac⟩ := hl.resolve_left (fun q => q el)
    have rs := (R2.2.2 s hs).1
    refine ⟨fun q => absurd rfl q, fun _ => m_r g2 hV 13 (a_i g2 hV 13 s rfl (show s < 6 from hs) ?_)⟩
    rw [rs]
    have fin : ∀ i σ3 M3, zC V ad σ3 ρ ξ M3 → σ3 (17, 13, s) = nI (cnt s) → (∀ M', zC V ad (rgS σ3 s (cnt s) i) ρ ξ M' → P (nI (cnt s)) M') → zSi M3 (ad (10, 11, 0)) (((6 : Int32) * nI s) + nI (cnt s)) (nI i) (fun M15 => zGr M15 (ad (9, 0, 0)) 7 12 (fun v16 => zSi M15 v16 (((6 : Int32) * nI s) + nI (cnt s)) (1 : Int32) (fun M17 => zGr M17 (ad (9, 0, 0)) 7 13 (fun v18 => zAi M17 0 v18 (nI s) (fun v19 => zSi M17 v18 (nI s) (v19 + (1 : Int32)) (fun M20 => (w_X6_register_69 (ad (9, 0, 0)) (nI s) P (nI (cnt s)) M20))))))) := fun i σ3 M3 g3 q13 hp => by
      have b1 : 6 * s + cnt s < 36 := by omega
      refine st_i g3 hV 11 _ (n_6 s (cnt s)) b1 fun M4 g4 => m_r g4 hV 12 (st_i g4 hV 12 _ (n_6 s (cnt s)) b1 fun M5 g5 => m_r g5 hV 13 (a_i g5 hV 13 s rfl (show s < 6 from hs) ?_))
      rw [up_n _ _ (fun e => by cases e), up_n _ _ (fun e => by cases e), q13, nI_1]
      exact st_i g5 hV 13 s rfl (show s < 6 from hs) fun M6 g6 => m_empties g6 hV fun M7 g7 => hp M7 g7
    refine m_r g2 hV 11 ⟨g_is g2 hV rfl, m_numbered g2 hV R2 hK D2 (hT s hs k6) (fun i hi ei => ?_) (fun ei M3 g3 => ?_)⟩
    · exact fin i σ2 M2 g2 rs fun M' g' => h4 s i hs rfl z0 el k6 ac hi ei σ2 M' E q2 g'
    · refine fin n (nbI σ2 n) M3 g3 ?_ fun M' g' => h5 s hs rfl z0 el k6 ac (hT s hs k6) ei σ2 M' E q2 g'
      unfold nbI
      rw [up_n _ _ (fun e => by cases e), up_n _ _ (fun e => by cases e), up_n _ _ (fun e => by cases e), cpI_n (Or.inr (Or.inr (Or.inl (by simp))))]
      exact rs
