/-! ===== the pure part: read ===== -/
variable {V V' : nm → Prop} {ad ad' : nm → Nat} {σ σ' τ : nI2} {ρ ρ' π : nN2} {ξ ξ' : Nat → zE} {M : zM} {x y w : nm} {n : Nat} {cnt : Nat → Nat}
/-- the same but for Rows 0, 1, 2 -/
def EQw (σ' σ : nI2) : Prop := ∀ w : nm, ((w.1 = 4 ∨ w.1 = 5) → 3 ≤ w.2.1) → σ' w = σ w
theorem EQr.toW {s : Nat} (hs : s < 3) (E : EQr 2 s σ' σ) : EQw σ' σ := fun w h => E w fun q => by have := h q; omega
theorem EQw.eq (E : EQw σ' σ) : EQ σ' σ := fun w h4 h5 => E w fun q => absurd q (by omega)
theorem EQw.lnn (E : EQw σ' σ) (c : Nat) : lnn σ' c = lnn σ c := by
  unfold Jvm.Pilot.CSchemaSubjectsLaw_law_r5453_f9f500.lnn; rw [E _ (fun _ => by simp)]
theorem EQw.pcs (E : EQw σ' σ) (c j : Nat) : pcs σ' ρ c j = pcs σ ρ c j := by
  unfold Jvm.Pilot.CSchemaSubjectsLaw_law_r5453_f9f500.pcs; rw [E.lnn]
theorem EQw.bgn (E : EQw σ' σ) (c : Nat) : ∀ j, bgn σ' ρ c j = bgn σ ρ c j := by
  intro j
  induction j with
  | zero => rfl
  | succ j ih => simp only [Jvm.Pilot.CSchemaSubjectsLaw_law_r5453_f9f500.bgn]; rw [ih, E.pcs]
theorem EQw.WP (E : EQw σ' σ) (h : WP n σ ρ) : WP n σ' ρ := fun c hc => by
  obtain ⟨⟨a, b⟩, d⟩ := h c hc
  rw [E.eq.zz, E.bgn]
  refine ⟨⟨(E _ (fun _ => by simp)).trans a, b⟩, fun j hj => ?_⟩
  rw [E (13, c, j) (by simp), E (14, c, j) (by simp), E.bgn]
  exact d j hj
theorem EQw.WQ (E : EQw σ' σ) (h : WQ n σ ρ) : WQ n σ' ρ := fun c hc j hj => by
  rw [E.eq.zz] at hj
  obtain ⟨a, b⟩ := h c hc j hj
  rw [E.bgn, E (10, c, j) (by simp), E (9, c, j) (by simp), E.lnn]
  refine ⟨fun q => ?_, fun q i hi => ?_⟩
  · rw [E (5, 3 + c, _) (fun _ => by simp)]; exact a q
  · rw [E (5, 3 + c, _) (fun _ => by simp), E (5, 3 + rf ρ c j, _) (fun _ => by simp)]; exact b q i hi
theorem EQw.WK (E : EQw σ' σ) (h : WK n cnt σ ρ) : WK n cnt σ' ρ := by
  obtain ⟨⟨a, b, c, d⟩, e, f⟩ := h
  refine ⟨⟨E.eq.Ls a, E.eq.Ls b, c, d⟩, fun s hs => ⟨E.eq.Ls (e s hs).1, (e s hs).2.1, fun v hv => ?_⟩, E.eq.WC f⟩
  rw [E (2, s, v) (by simp)]
  exact (e s hs).2.2 v hv
theorem k_read (h : zC V ad σ ρ ξ M) (hV : V (0, 0, 0)) (hK : WK n cnt σ ρ) (hP0 : WP n σ ρ) {r s0 u : Nat} (hr : ρ (1, 0, 0) = r) (hs0 : ρ (1, 1, 0) = s0) (hrs : r ≠ s0) (hr2 : r < 2) (hs2 : s0 < 2) (hu : σ (4, r, 0) = nI u) (hu2 : u ≤ 20) {g : Nat → Int32} (hg : ∀ j, j < u → σ (5, r, j) = g j) {p q p' q' : Int32} {P : Int32 → zM → Prop} {PX : Nat → zM → Prop}
    (h1 : ∀ s v s' v' l, IsV cnt σ s v → IsV cnt σ s' v' → p = nI s → q = nI v → p' = nI s' → q' = nI v' → isRc σ r (ρ (2, s', v')) u = true → rdF σ ρ g 45 (ρ (2, s, v)) (ρ (2, s', v')) 0 = some l → ∀ M', zC V ad (rApp (up σ (4, s0, 0) 0) s0 0 l) (up (up ρ (1, 0, 0) s0) (1, 1, 0) r) ξ M' → P (nI l.length) M')
    (h2 : NoS p ∨ NoS p' → PX 1 M) (h3 : ∀ s s', s < 6 → s' < 6 → p = nI s → p' = nI s' → (NoV cnt σ s q ∨ NoV cnt σ s' q') → PX 2 M)
    (h4 : ∀ s v s' v', IsV cnt σ s v → IsV cnt σ s' v' → p = nI s → q = nI v → p' = nI s' → q' = nI v' → (isRc σ r (ρ (2, s', v')) u = false ∨ rdF σ ρ g 45 (ρ (2, s, v)) (ρ (2, s', v')) 0 = none) → ∀ σ' M', EQr 2 s0 σ' σ → zC V ad σ' ρ ξ M' → PX 3 M') : w_X5_read (ad (0, 0, 0)) p q p' q' M P PX := by
  refine k_both h hV hK (K := fun a b M => zGr M (ad (0, 0, 0)) 6 4 (fun v8 => (zIs M v8 2 ∧ w_X1_empty v8 M (fun M9 => zDf (some b) (fun a10 => (zIs M9 (ad (0, 0, 0)) 6 ∧ w_X5_isRecordOf (ad (0, 0, 0)) a10 M9 (fun v13 M12 => ((v13 = (0 : Int32) → (w_X5_read_59 (ad (0, 0, 0)) p q p' q' P PX M12)) ∧ (¬ v13 = (0 : Int32) → zGr M12 (ad (0, 0, 0)) 6 3 (fun v14 => zGr M12 (ad (0, 0, 0)) 6 4 (fun v15 => w_X5_readSchema (some a) (some a10) v14 (0 : Int32) v15 (0 : Int32) M12 (fun v17 M16 => ((¬ v17 = (0 : Int32) → zGr M16 (ad (0, 0, 0)) 6 3 (fun v18 => zGr M16 (ad (0, 0, 0)) 6 4 (fun v20 => zPu M16 (ad (0, 0, 0)) 6 3 (.ref v20) (fun M21 => zPu M21 (ad (0, 0, 0)) 6 4 (.ref v18) (fun M22 => zGr M22 (ad (0, 0, 0)) 6 3 (fun v23 => (zIs M22 v23 2 ∧ w_X1_count v23 M22 (fun v25 M24 => P v25 M24)))))))) ∧ (v17 = (0 : Int32) → (w_X5_read_59 (ad (0, 0, 0)) p q p' q' P PX M16))))))))))))))) (fun s v s' v' hv hv' e1 e2 e3 e4 => ?_) h2 h3 (fun a b hh => hh)
  subst hr hs0
  have l1 := ((hK.2.1 s hv.1).2.2 v hv.2.1).2
  have l2 := ((hK.2.1 s' hv'.1).2.2 v' hv'.2.1).2
  have hW := hK.2.2
  have hn := hK.1.2.2.1
  have hVa := k_S h hV hK (c := ρ (2, s, v)) (by omega)
  have hVb := k_S h hV hK (c := ρ (2, s', v')) (by omega)
  obtain ⟨-, -, -, vr, vs, -⟩ := k_0 h hV
  refine g_r h hV rfl rfl ⟨g_is h vs rfl, r_empty h vs fun M1 h1' => ⟨_, rfl, g_is h1' hV rfl, ?_⟩⟩
  have E1 : EQr 2 (ρ (1, 1, 0)) (up σ (4, ρ (1, 1, 0), 0) 0) σ := EQr.up (Or.inr rfl)
  have W1 := E1.toW (by omega)
  have hu1 : up σ (4, ρ (1, 1, 0), 0) 0 (4, ρ (1, 0, 0), 0) = nI u := (up_n _ _ (fun e => hrs (by have := congrArg (fun w : nm => w.2.1) e; exact this))).trans hu
  have hg1 : ∀ j, up σ (4, ρ (1, 1, 0), 0) 0 (5, ρ (1, 0, 0), j) = σ (5, ρ (1, 0, 0), j) := fun j => up_n _ _ (fun e => by have := congrArg (fun w : nm => w.1) e; simp only at this; omega)
  have eis : isRc (up σ (4, ρ (1, 1, 0), 0) 0) (ρ (1, 0, 0)) (ρ (2, s', v')) u = isRc σ (ρ (1, 0, 0)) (ρ (2, s', v')) u := by
    unfold isRc
    rw [W1.lnn, allR_congr (g := fun j => ofS (σ (5, ρ (1, 0, 0), j)) (σ (5, 3 + ρ (2, s', v'), j))) fun j hj => by show ofS (up σ (4, ρ (1, 1, 0), 0) 0 (5, ρ (1, 0, 0), j)) (up σ (4, ρ (1, 1, 0), 0) 0 (5, 3 + ρ (2, s', v'), j)) = _; rw [hg1, W1 (5, 3 + ρ (2, s', v'), j) (fun _ => by simp)]]
  refine c_isRecordOf h1' hV (W1.WP hP0) (c := ρ (2, s', v')) (by omega) hVb rfl hu1 hu2 ?_
  rw [eis]
  refine br_b (fun e => h4 s v s' v' hv hv' e1 e2 e3 e4 (Or.inl e) _ M1 E1 h1') (fun e => g_r h1' hV rfl rfl (g_r h1' hV rfl rfl ?_))
  have hul : u = lnn σ (ρ (2, s', v')) := by
    unfold isRc at e
    rw [Bool.and_eq_true, beq_iff_eq] at e
    exact e.1
  refine c_rdR (n := n) (r := ρ (1, 0, 0)) (t := ρ (1, 1, 0)) (ur := u) (g := g) hW hP0 hrs hu2 vr vs 45 (ρ (2, s, v)) (ρ (2, s', v')) 0 0 0 _ M1 _ h1' E1.eq (up_s _ _ _) hu1 (fun j hj => (hg1 j).trans (hg j hj)) (by omega) (by omega) hVa hVb (by omega) (by omega) (by have := (hP0.lnn (c := ρ (2, s, v)) (by omega)).2; omega) (by omega) (fun l M2 el h2' => ?_) (fun l M2 el h2' => ?_)
  · refine ⟨fun _ => g_r h2' hV rfl rfl (g_r h2' hV rfl rfl ?_), fun q => absurd q (by decide)⟩
    refine p_n h2' (1, 0, 0) (ρ (1, 1, 0)) (by simp) hV (fun y hy => ?_) rfl (by simp) ?_ fun M3 h3' => ?_
    · have := h2'.2.2.1 _ hV
      rcases hy with q | q | q | q | q | q
      · exact this y (Or.inl q)
      · exact this y (Or.inr (Or.inl q))
      · rw [up_n _ _ (fun e => by cases e)] at q; exact this y (Or.inr (Or.inr (Or.inl q)))
      · rw [up_s] at q; rw [q]; exact vs
      · rw [up_n _ _ (fun e => by cases e)] at q; rw [q]; exact vs
      · exact this y (Or.inr (Or.inr (Or.inr (Or.inr (Or.inr q)))))
    · simp [cell, hN, up, List.set]
    · refine p_n h3' (1, 1, 0) (ρ (1, 0, 0)) (by simp) hV (fun y hy => ?_) rfl (by simp) ?_ fun M4 h4' => ?_
      · have := h3'.2.2.1 _ hV
        rcases hy with q | q | q | q | q | q
        · exact this y (Or.inl q)
        · exact this y (Or.inr (Or.inl q))
        · rw [up_n _ _ (fun e => by cases e)] at q; exact this y (Or.inr (Or.inr (Or.inl q)))
        · rw [up_n _ _ (fun e => by cases e)] at q; exact this y (Or.inr (Or.inr (Or.inr (Or.inl q))))
        · rw [up_s] at q; rw [q]; exact vr
        · exact this y (Or.inr (Or.inr (Or.inr (Or.inr (Or.inr q)))))
      · simp [cell, hN, up, List.set]
      · have er : up (up ρ (1, 0, 0) (ρ (1, 1, 0))) (1, 1, 0) (ρ (1, 0, 0)) (1, 0, 0) = ρ (1, 1, 0) := (up_n _ _ (fun e => by cases e)).trans (up_s _ _ _)
        refine g_r h4' hV rfl rfl ?_
        show zIs M4 (ad (6, up (up ρ (1, 0, 0) (ρ (1, 1, 0))) (1, 1, 0) (ρ (1, 0, 0)) (1, 0, 0), 0)) 2 ∧ w_X1_count (ad (6, up (up ρ (1, 0, 0) (ρ (1, 1, 0))) (1, 1, 0) (ρ (1, 0, 0)) (1, 0, 0), 0)) M4 _
        rw [er]
        refine ⟨g_is h4' vs rfl, r_count h4' vs ?_⟩
        rw [rApp_used, Nat.zero_add]
        exact h1 s v s' v' l hv hv' e1 e2 e3 e4 e el M4 h4'
  · exact ⟨fun q => absurd rfl q, fun _ => h4 s v s' v' hv hv' e1 e2 e3 e4 (Or.inr el) _ M2 ((EQr.app (Or.inr rfl)).trans E1) h2'⟩
/-- the same but for the reference's record too -/
def EQc (σ' σ : nI2) : Prop := ∀ w, ¬ scr w → w ≠ (16, 0, 0) → w ≠ (16, 16, 0) → ¬ (w.1 = 17 ∧ w.2.1 = 17) → σ' w = σ w
theorem m_read (h : zC V ad σ ρ ξ M) (hV : V (9, 0, 0)) (R : Rel n cnt τ π σ) (hK : WK n cnt τ π) (hP0 : WP n τ π) (hQ : WQ n τ π) (hN0 : ∀ c, c < n → 1 ≤ lnn τ c) {r u : Nat} (hR : RR τ r u σ) {p q p' q' : Int32} {P : Int32 → zM → Prop}
    (h1 : ∀ s v s' v' l, IsV cnt τ s v → IsV cnt τ s' v' → p = nI s → q = nI v → p' = nI s' → q' = nI v' → isRc τ r (π (2, s', v')) u = true → rdF τ π (fun j => σ (17, 17, j)) 45 (π (2, s, v)) (π (2, s', v')) 0 = some l → ∀ σ' M', EQc σ' σ → σ' (16, 0, 0) = 0 → σ' (16, 16, 0) = nI l.length → (∀ j, j < l.length → σ' (17, 17, j) = l.getD j 0) → zC V ad σ' ρ ξ M' → P (nI l.length) M')
    (h2 : NoS p ∨ NoS p' → ∀ σ' M', EQz σ' σ → σ' (16, 0, 0) = 1 → zC V ad σ' ρ ξ M' → P 0 M') (h3 : ∀ s s', s < 6 → s' < 6 → p = nI s → p' = nI s' → (NoV cnt τ s q ∨ NoV cnt τ s' q') → ∀ σ' M', EQz σ' σ → σ' (16, 0, 0) = 2 → zC V ad σ' ρ ξ M' → P 0 M')
    (h4 : ∀ s v s' v', IsV cnt τ s v → IsV cnt τ s' v' → p = nI s → q = nI v → p' = nI s' → q' = nI v' → (isRc τ r (π (2, s', v')) u = false ∨ rdF τ π (fun j => σ (17, 17, j)) 45 (π (2, s, v)) (π (2, s', v')) 0 = none) → ∀ σ' M', EQz σ' σ → σ' (16, 0, 0) = 3 → zC V ad σ' ρ ξ M' → P 0 M') : w_X6_read (ad (9, 0, 0)) p q p' q' M P := by
  refine ⟨g_is h hV rfl, m_errorOfBoth h hV R hK (fun s v s' v' hv hv' e1 e2 e3 e4 => ⟨fun e => absurd rfl e, fun _ => ?_⟩) (fun hno => ⟨fun _ => br_f (by decide) (m_holds h hV (fun e => absurd e (by decide)) (fun _ σ' M' E e h' => ⟨fun q => absurd rfl q, fun _ => h2 hno σ' M' E e h'⟩)), fun e => absurd e (by decide)⟩) (fun s s' hs hs' e1 e2 hno => ⟨fun _ => br_f (by decide) (m_holds h hV (fun e => absurd e (by decide)) (fun _ σ' M' E e h' => ⟨fun q => absurd rfl q, fun _ => h3 s s' hs hs' e1 e2 hno σ' M' E e h'⟩)), fun e => absurd e (by decide)⟩)⟩
  have c6 := (hK.2.1 s hv.1).2.1
  have d6 := (hK.2.1 s' hv'.1).2.1
  have l1 := ((hK.2.1 s hv.1).2.2 v hv.2.1).2
  have l2 := ((hK.2.1 s' hv'.1).2.2 v' hv'.2.1).2
  subst e1 e2 e3 e4
  -- it fails
  have fail : ∀ σ1 M1, EQx σ1 σ → zC V ad σ1 ρ ξ M1 → (isRc τ r (π (2, s', v')) u = false ∨ rdF τ π (fun j => σ (17, 17, j)) 45 (π (2, s, v)) (π (2, s', v')) 0 = none) → w_X6_read_63 (ad (9, 0, 0)) (nI s) (nI v) (nI s') (nI v') P 0 (-1) M1 := fun σ1 M1 E1 hm hf =>
    br_t (by decide) ⟨fun q => absurd rfl q, fun _ => m_holds hm hV (fun e => absurd e (by decide)) (fun _ σ' M' E e h' => ⟨fun q => absurd rfl q, fun _ => h4 s v s' v' hv hv' rfl rfl rfl rfl hf σ' M' (E.trans E1.z) e h'⟩)⟩
  refine m_r h hV 11 (a_i h hV 11 (6 * s' + v') (n_6 s' v') (show 6 * s' + v' < 36 by have := hv'.1; have := hv'.2.1; omega) ⟨g_is h hV rfl, ?_⟩)
  rw [((R.2.2 s' hv'.1).2.1 v' hv'.2.1).1, show nI (π (2, s', v')) = nI (ix n (π (2, s', v'))) by rw [ix_c l2]]
  refine m_isRecordOf h hV R hK hP0 hQ (by omega) hR.2.2.1 hR.1 fun σ1 M1 E1 h1' => ?_
  rw [hR.is]
  refine br_b (fun e => fail σ1 M1 E1 h1' (Or.inl e)) (fun e => m_r h1' hV 11 (a_i h1' hV 11 (6 * s + v) (n_6 s v) (show 6 * s + v < 36 by have := hv.1; have := hv.2.1; omega) ⟨g_is h1' hV rfl, ?_⟩))
  have R1 := R.of E1
  rw [((R1.2.2 s hv.1).2.1 v hv.2.1).1, show nI (π (2, s, v)) = nI (ix n (π (2, s, v))) by rw [ix_c l1]]
  have eg : (fun j => σ1 (17, 17, j)) = fun j => σ (17, 17, j) := funext fun j => E1.col (by decide) (by decide)
  refine m_reads h1' hV R1 hK hP0 hN0 (by omega) (by omega) (fun l hl σ2 M2 E2 D2 h2' => ?_) (fun hl σ2 M2 E2 h2' => fail σ2 M2 (E2.trans E1) h2' (Or.inr (by rw [← eg]; exact hl)))
  have hlen : l.length ≤ 20 := by
    have := rdF_len hK.2.2 hP0 45 _ _ _ l (by omega) (by omega) hl
    have := (hP0.lnn (c := π (2, s, v)) (by omega)).2
    omega
  rw [eg] at hl
  refine br_t (by decide) ⟨fun _ => ⟨g_is h2' hV rfl, p_0 h2' hV fun M3 h3' => ⟨fun e => absurd rfl e, fun _ => ⟨fun _ => ?_, fun q => absurd q (by decide)⟩⟩⟩, fun q => absurd q (nI_m1 (by omega))⟩
  have E0 : EQz (up σ2 (16, 0, 0) 0) σ := EQz.up.trans ((E2.trans E1).z)
  have D3 : ∀ j, j < l.length → up σ2 (16, 0, 0) 0 (17, 18, j) = l.getD j 0 := fun j hj => (up_n _ _ (fun q => by cases q)).trans (D2 j hj)
  have t3 : up σ2 (16, 0, 0) 0 (16, 0, 0) = 0 := up_s _ _ _
  generalize up σ2 (16, 0, 0) 0 = σ3 at h3' E0 D3 t3
  have key : ∀ k i σ4 M4, i + k = l.length → zC V ad σ4 ρ ξ M4 → EQc σ4 σ → σ4 (16, 0, 0) = 0 → (∀ j, j < l.length → σ4 (17, 18, j) = l.getD j 0) → (∀ j, j < i → σ4 (17, 17, j) = l.getD j 0) → w_X6_read_98 (ad (9, 0, 0)) (nI s) (nI v) (nI s') (nI v') P (k + 1) (nI l.length) (nI i) M4 := by
    intro k
    induction k with
    | zero =>
      intro i σ4 M4 hi h4' E4 t4 D4 F4
      obtain rfl : i = l.length := by omega
      refine br_t (nI_le (Nat.le_refl _) (by omega)) (p_16 h4' hV fun M5 h5' => ?_)
      refine h1 s v s' v' l hv hv' rfl rfl rfl rfl e hl _ M5 (fun w a b c d => (up_n _ _ c).trans (E4 w a b c d)) ((up_n _ _ (fun q => by cases q)).trans t4) (up_s _ _ _) (fun j hj => (up_n _ _ (fun q => by cases q)).trans (F4 j hj)) h5'
    | succ k ih =>
      intro i σ4 M4 hi h4' E4 t4 D4 F4
      refine br_f (nI_ge (by omega) (by omega)) (m_r h4' hV 17 (m_r h4' hV 18 (a_i h4' hV 18 i rfl (show i < 20 by omega) ?_)))
      rw [D4 i (by omega), nI_1]
      refine st_i h4' hV 17 i rfl (show i < 20 by omega) fun M5 h5' => ?_
      refine ih (i + 1) _ M5 (by omega) h5' (fun w a b c d => (up_n _ _ (fun q => d (by rw [q]; exact ⟨rfl, rfl⟩))).trans (E4 w a b c d)) ((up_n _ _ (fun q => by cases q)).trans t4) (fun j hj => (up_n _ _ (fun q => by cases q)).trans (D4 j hj)) (fun j hj => ?_)
      by_cases ej : j = i
      · subst ej; exact up_s _ _ _
      · rw [up_n _ _ (fun q => ej (by cases q; rfl))]; exact F4 j (by omega)
  refine ⟨l.length + 1, ?_⟩
  have := key l.length 0 σ3 M3 (by omega) h3' (fun w a b c d => E0 w a b) t3 D3 (fun j hj => absurd hj (Nat.not_lt_zero j))
  exact this
