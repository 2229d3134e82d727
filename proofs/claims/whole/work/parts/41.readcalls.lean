/-! ===== the pure part: readsAll and read ===== -/
variable {V V' : nm → Prop} {ad ad' : nm → Nat} {σ σ' τ : nI2} {ρ ρ' π : nN2} {ξ ξ' : Nat → zE} {M : zM} {x y w : nm} {n : Nat} {cnt : Nat → Nat}
theorem m_reads (h : zC V ad σ ρ ξ M) (hV : V (9, 0, 0)) (R : Rel n cnt τ π σ) (hK : WK n cnt τ π) (hP0 : WP n τ π) (hN0 : ∀ c, c < n → 1 ≤ lnn τ c) {c w : Nat} (hc : c ≤ n) (hw : w ≤ n) {P : Int32 → zM → Prop} (h1 : ∀ l, rdF τ π (fun j => σ (17, 17, j)) 45 c w 0 = some l → ∀ σ' M', EQx σ' σ → Dn σ' l → zC V ad σ' ρ ξ M' → P (nI l.length) M') (h2 : rdF τ π (fun j => σ (17, 17, j)) 45 c w 0 = none → ∀ σ' M', EQx σ' σ → zC V ad σ' ρ ξ M' → P (-1) M') : w_X6_reads (ad (9, 0, 0)) (nI (ix n c)) (nI (ix n w)) M P := by
  have hn := hK.1.2.2.1
  refine m_r h hV 19 (st_i h hV 19 0 rfl (show 0 < 40 by omega) fun M1 h1' => m_r h1' hV 20 (st_i h1' hV 20 0 rfl (show 0 < 40 by omega) fun M2 h2' => m_r h2' hV 21 (st_i h2' hV 21 0 rfl (show 0 < 40 by omega) fun M3 h3' => m_r h3' hV 22 (st_i h3' hV 22 0 rfl (show 0 < 40 by omega) fun M4 h4' => ?_))))
  obtain ⟨N, hN⟩ := m_rdS (ad := ad) (ρ := ρ) (ξ := ξ) hK hP0 hN0 hV R (u := lnn τ w) (hP0.lnn hw).2 (nI (ix n c)) (nI (ix n w)) P (c + 1) c (by omega) hc (zz τ c) 0 (by omega)
  refine ⟨N + 1, ?_⟩
  generalize hσ4 : up (up (up (up σ (17, 19, 0) (nI (ix n c))) (17, 20, 0) (nI (ix n w))) (17, 21, 0) 0) (17, 22, 0) 0 = σ4 at h4'
  have E4 : EQx σ4 σ := by rw [← hσ4]; exact (EQx.up (scr_k (by decide))).trans ((EQx.up (scr_k (by decide))).trans ((EQx.up (scr_k (by decide))).trans (EQx.up (scr_k (by decide)))))
  have s19 : σ4 (17, 19, 0) = nI (ix n c) := by rw [← hσ4, up_n _ _ (fun q => by cases q), up_n _ _ (fun q => by cases q), up_n _ _ (fun q => by cases q), up_s]
  have s20 : σ4 (17, 20, 0) = nI (ix n w) := by rw [← hσ4, up_n _ _ (fun q => by cases q), up_n _ _ (fun q => by cases q), up_s]
  have s21 : σ4 (17, 21, 0) = nI 0 := by rw [← hσ4, up_n _ _ (fun q => by cases q), up_s]; rfl
  have s22 : σ4 (17, 22, 0) = nI 0 := by rw [← hσ4, up_s]; rfl
  have e45 : rdF τ π (fun j => σ (17, 17, j)) 45 c w 0 = seqR (rdFd τ π (fun j => σ (17, 17, j)) (rdF τ π (fun j => σ (17, 17, j)) 44) c w 0) (zz τ c) 0 := rfl
  rw [e45] at h1 h2
  refine hN 44 0 w 0 1 [] σ4 M4 (by omega) (by omega) hw h4' E4 s19 s20 s21 s22 (fun j hj => absurd hj (Nat.not_lt_zero j)) (by have := (hP0.lnn hc).2; simp only [List.length_nil]; omega) (by omega) (fun l hl σ' M' h' E' B' D' => br_t (by decide) ?_) (fun hl σ' M' E' h' => h2 hl σ' M' E' h')
  exact h1 l hl σ' M' E' D' h'
theorem m_readsAll (h : zC V ad σ ρ ξ M) (hV : V (9, 0, 0)) (R : Rel n cnt τ π σ) (hK : WK n cnt τ π) (hP0 : WP n τ π) (hQ : WQ n τ π) {p q p' q' : Int32} {P : Int32 → zM → Prop} (h1 : ∀ s v s' v', IsV cnt τ s v → IsV cnt τ s' v' → p = nI s → q = nI v → p' = nI s' → q' = nI v' → prd (pl τ (π (2, s', v'))) (lnn τ (π (2, s', v'))) 0 ≤ 300 → ∀ σ' M', EQz σ' σ → σ' (16, 0, 0) = 0 → zC V ad σ' ρ ξ M' → P (bI (canC τ π (π (2, s, v)) (π (2, s', v')))) M') (h2 : NoS p ∨ NoS p' → ∀ σ' M', EQz σ' σ → σ' (16, 0, 0) = 1 → zC V ad σ' ρ ξ M' → P 0 M') (h3 : ∀ s s', s < 6 → s' < 6 → p = nI s → p' = nI s' → (NoV cnt τ s q ∨ NoV cnt τ s' q') → ∀ σ' M', EQz σ' σ → σ' (16, 0, 0) = 2 → zC V ad σ' ρ ξ M' → P 0 M')
    (h4 : ∀ s v s' v', IsV cnt τ s v → IsV cnt τ s' v' → p = nI s → q = nI v → p' = nI s' → q' = nI v' → 300 < prd (pl τ (π (2, s', v'))) (lnn τ (π (2, s', v'))) 0 → ∀ σ' M', EQz σ' σ → σ' (16, 0, 0) = 3 → zC V ad σ' ρ ξ M' → P 0 M') : w_X6_readsAll (ad (9, 0, 0)) p q p' q' M P := by
  refine ⟨g_is h hV rfl, m_errorOfBoth h hV R hK (fun s v s' v' hv hv' e1 e2 e3 e4 => ⟨fun e => absurd rfl e, fun _ => ?_⟩) (fun hno => ⟨fun _ => br_f (by decide) (m_holds h hV (fun e => absurd e (by decide)) (fun _ σ' M' E e h' => br_t rfl (h2 hno σ' M' E e h'))), fun e => absurd e (by decide)⟩) (fun s s' hs hs' e1 e2 hno => ⟨fun _ => br_f (by decide) (m_holds h hV (fun e => absurd e (by decide)) (fun _ σ' M' E e h' => br_t rfl (h3 s s' hs hs' e1 e2 hno σ' M' E e h'))), fun e => absurd e (by decide)⟩)⟩
  have d6 := (hK.2.1 s' hv'.1).2.1
  have hlt := ((hK.2.1 s' hv'.1).2.2 v' hv'.2.1).2
  subst e1 e2 e3 e4
  refine m_r h hV 11 (a_i h hV 11 (6 * s' + v') (n_6 s' v') (show 6 * s' + v' < 36 by have := hv'.1; have := hv'.2.1; omega) ⟨g_is h hV rfl, ?_⟩)
  rw [((R.2.2 s' hv'.1).2.1 v' hv'.2.1).1, show nI (π (2, s', v')) = nI (ix n (π (2, s', v'))) by rw [ix_c hlt]]
  refine m_small h hV R hK hP0 hQ (by omega) fun σ1 M1 E1 h1' => ?_
  by_cases hb : prd (pl τ (π (2, s', v'))) (lnn τ (π (2, s', v'))) 0 ≤ 300
  · have ec : cap (prd (pl τ (π (2, s', v'))) (lnn τ (π (2, s', v'))) 0) = prd (pl τ (π (2, s', v'))) (lnn τ (π (2, s', v'))) 0 := if_pos hb
    rw [ec]
    refine br_t (nI_le (b := 300) hb (by omega)) (br_t (by decide) (br_t rfl (m_holds h1' hV (fun _ σ' M' E e h' => br_f (by decide) ?_) (fun e => absurd rfl e))))
    exact m_canOf h' hV ((R.of E1).ofz E) hK hv hv' fun σ'' M'' E' h'' => br_01 (h1 s v s' v' hv hv' rfl rfl rfl rfl hb σ'' M'' (E'.z.trans (E.trans E1.z)) ((E' _ (by simp [scr])).trans e) h'')
  · have ec : cap (prd (pl τ (π (2, s', v'))) (lnn τ (π (2, s', v'))) 0) = 301 := if_neg hb
    rw [ec]
    exact br_f (by decide) (br_t (by decide) (br_f (by decide) (m_holds h1' hV (fun e => absurd e (by decide)) (fun _ σ' M' E e h' => br_t rfl (h4 s v s' v' hv hv' rfl rfl rfl rfl (by omega) σ' M' (E.trans E1.z) e h')))))
theorem k_readsAll (h : zC V ad σ ρ ξ M) (hV : V (0, 0, 0)) (hK : WK n cnt σ ρ) (hP0 : WP n σ ρ) (hQ : WQ n σ ρ) (hs2 : ρ (1, 1, 0) < 2) {p q p' q' : Int32} {P : Int32 → zM → Prop} {PX : Nat → zM → Prop} (h1 : ∀ s v s' v', IsV cnt σ s v → IsV cnt σ s' v' → p = nI s → q = nI v → p' = nI s' → q' = nI v' → prd (pl σ (ρ (2, s', v'))) (lnn σ (ρ (2, s', v'))) 0 ≤ 300 → ∀ σ' M', EQr 2 (ρ (1, 1, 0)) σ' σ → zC V ad σ' ρ ξ M' → P (bI (canC σ ρ (ρ (2, s, v)) (ρ (2, s', v')))) M') (h2 : NoS p ∨ NoS p' → PX 1 M) (h3 : ∀ s s', s < 6 → s' < 6 → p = nI s → p' = nI s' → (NoV cnt σ s q ∨ NoV cnt σ s' q') → PX 2 M)
    (h4 : ∀ s v s' v', IsV cnt σ s v → IsV cnt σ s' v' → p = nI s → q = nI v → p' = nI s' → q' = nI v' → 300 < prd (pl σ (ρ (2, s', v'))) (lnn σ (ρ (2, s', v'))) 0 → PX 3 M) : w_X5_readsAll (ad (0, 0, 0)) p q p' q' M P PX := by
  refine k_both h hV hK (K := fun a b M => zGr M b 3 1 (fun v22 => w_X5_countSmallRecords v22 M (fun v24 M23 => ((v24 ≤ (300 : Int32) → (∃ nn, w_X5_readsAll_54 (ad (0, 0, 0)) p q p' q' P PX nn (some a) (some b) v24 (0 : Int32) M23)) ∧ (¬ v24 ≤ (300 : Int32) → PX 3 M23))))) (fun s v s' v' hv hv' e1 e2 e3 e4 => ?_) h2 h3 (fun a b hh => ⟨_, rfl, hh⟩)
  have l1 := ((hK.2.1 s hv.1).2.2 v hv.2.1).2
  have l2 := ((hK.2.1 s' hv'.1).2.2 v' hv'.2.1).2
  have hW := hK.2.2
  have hn := hK.1.2.2.1
  have hVa := k_S h hV hK (c := ρ (2, s, v)) (by omega)
  have hVb := k_S h hV hK (c := ρ (2, s', v')) (by omega)
  obtain ⟨w1, w2⟩ := hP0.lnn (c := ρ (2, s', v')) (by omega)
  have hu : σ (4, 3 + ρ (2, s', v'), 0) = nI (lnn σ (ρ (2, s', v'))) := by rw [w1]; exact (hP0 (ρ (2, s', v')) (by omega)).1.1
  have hpl := WQ.pl hW hP0 hQ (ρ (2, s', v') + 1) (ρ (2, s', v')) (by omega) (by omega)
  refine g_r h hVb rfl rfl (c_countSmall h (s_V h hVb).2.2.1 hu w2 (p := pl σ (ρ (2, s', v'))) hpl ?_)
  obtain ⟨c1, c2⟩ := smC_prd (p := pl σ (ρ (2, s', v'))) (lnn σ (ρ (2, s', v'))) 0 1 (by omega)
  rw [Nat.one_mul] at c1 c2
  have hb31 : smC (pl σ (ρ (2, s', v'))) (lnn σ (ρ (2, s', v'))) 0 1 < 2 ^ 31 := by
    have : ∀ k i a, a ≤ 1200 → (∀ j, i ≤ j → j < i + k → pl σ (ρ (2, s', v')) j ≤ 4) → smC (pl σ (ρ (2, s', v'))) k i a ≤ 1200 := by
      intro k
      induction k with
      | zero => intro i a ha _; exact ha
      | succ k ih =>
        intro i a ha hj
        unfold smC
        by_cases e : 300 < a
        · rw [if_pos e]; exact ha
        · rw [if_neg e]
          refine ih _ _ ?_ (fun j j1 j2 => hj j (by omega) (by omega))
          split
          · exact ha
          · calc a * pl σ (ρ (2, s', v')) i ≤ 300 * 4 := Nat.mul_le_mul (by omega) (hj i (Nat.le_refl i) (by omega))
              _ = 1200 := rfl
    have := this (lnn σ (ρ (2, s', v'))) 0 1 (by omega) (fun j _ hj => (hpl j (by omega)).2)
    omega
  refine pk_le _ 300 (fun e => ?_) (fun e => ?_)
  · have := c1 e
    refine c_readsLoop hW hP0 hn (c := ρ (2, s, v)) (w := ρ (2, s', v')) (by omega) (by omega) hV hVa hVb rfl hs2 rfl hpl e p q p' q' (fun σ' M' E' h' => ?_) h
    rw [this, rdAll_can hW hP0 hQ (by omega) (by omega)]
    exact h1 s v s' v' hv hv' e1 e2 e3 e4 (by omega) σ' M' E' h'
  · exact h4 s v s' v' hv hv' e1 e2 e3 e4 (c2 e)
