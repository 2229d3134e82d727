/-! ===== the pure part: read ===== -/
variable {Fm : zM} {V V' : nm → Prop} {ad ad' : nm → Nat} {σ σ' τ : nI2} {ρ ρ' π : nN2} {ξ ξ' : Nat → zE} {M : zM} {x y w : nm} {n : Nat} {cnt : Nat → Nat}
/-- the same but for Rows 0, 1, 2 -/
def EQw (σ' σ : nI2) : Prop := ∀ w : nm, ((w.1 = 4 ∨ w.1 = 5) → 3 ≤ w.2.1) → σ' w = σ w
theorem EQr.toW {s : Nat} (hs : s < 3) (E : EQr 2 s σ' σ) : EQw σ' σ := fun w h => E w fun q => by have := h q; omega
theorem EQw.eq (E : EQw σ' σ) : EQ σ' σ := fun w h4 h5 => E w fun q => absurd q (by omega)
theorem EQw.lnn (E : EQw σ' σ) (c : Nat) : lnn σ' c = lnn σ c := by
  unfold Jvm.Pilot.CSchemaSubjectsLaw_law_r9411_888cc3.lnn; rw [E _ (fun _ => by simp)]
theorem EQw.pcs (E : EQw σ' σ) (c j : Nat) : pcs σ' ρ c j = pcs σ ρ c j := by
  unfold Jvm.Pilot.CSchemaSubjectsLaw_law_r9411_888cc3.pcs; rw [E.lnn]
theorem EQw.bgn (E : EQw σ' σ) (c : Nat) : ∀ j, bgn σ' ρ c j = bgn σ ρ c j := by
  intro j
  induction j with
  | zero => rfl
  | succ j ih => simp only [Jvm.Pilot.CSchemaSubjectsLaw_law_r9411_888cc3.bgn]; rw [ih, E.pcs]
theorem EQw.WP (E : EQw σ' σ) (h : WP n σ ρ) : WP n σ' ρ := fun c hc => by
  obtain ⟨⟨a, b⟩, d⟩ := h c hc
  rw [E.eq.zz, E.bgn]
  refine ⟨⟨(E _ (fun _ => by simp)).trans a, b⟩, fun j hj => ?_⟩
  rw [E (13, c, j) (by simp), E (14, c, j) (by simp), E.bgn]
  exact d j hj
theorem EQw.WQ (E : EQw σ' σ) (h : WQ n σ ρ) : WQ n σ' ρ := fun c hc j hj => by
  rw [E.eq.zz] at hj
  obtain ⟨a, b⟩ := h c hc j hj
  rw [E.bgn, E (10, c, j) (by simp), E (9, c, j) (by simp), E.lnn]
  refine ⟨fun q => ?_, fun q i hi => ?_⟩
  · rw [E (5, 3 + c, _) (fun _ => by simp)]; exact a q
  · rw [E (5, 3 + c, _) (fun _ => by simp), E (5, 3 + rf ρ c j, _) (fun _ => by simp)]; exact b q i hi
theorem EQw.WK (E : EQw σ' σ) (h : WK n cnt σ ρ) : WK n cnt σ' ρ := by
  obtain ⟨⟨a, b, c, d⟩, e, f⟩ := h
  refine ⟨⟨E.eq.Ls a, E.eq.Ls b, c, d⟩, fun s hs => ⟨E.eq.Ls (e s hs).1, (e s hs).2.1, fun v hv => ?_⟩, E.eq.WC f⟩
  rw [E (2, s, v) (by simp)]
  exact (e s hs).2.2 v hv
theorem k_read (h : zC Fm V ad σ ρ ξ M) (hV : V (0, 0, 0)) (hK : WK n cnt σ ρ) (hP0 : WP n σ ρ) {r s0 u : Nat} (hr : ρ (1, 0, 0) = r) (hs0 : ρ (1, 1, 0) = s0) (hrs : r ≠ s0) (hr2 : r < 2) (hs2 : s0 < 2) (hu : σ (4, r, 0) = nI u) (hu2 : u ≤ 20) {g : Nat → Int32} (hg : ∀ j, j < u → σ (5, r, j) = g j) {p q p' q' : Int32} {P : Int32 → zM → Prop} {PX : Nat → zM → Prop}
    (h1 : ∀ s v s' v' l, IsV cnt σ s v → IsV cnt σ s' v' → p = nI s → q = nI v → p' = nI s' → q' = nI v' → isRc σ r (ρ (2, s', v')) u = true → rdF σ ρ g 45 (ρ (2, s, v)) (ρ (2, s', v')) 0 = some l → ∀ M', zC Fm V ad (rApp (up σ (4, s0, 0) 0) s0 0 l) (up (up ρ (1, 0, 0) s0) (1, 1, 0) r) ξ M' → P (nI l.length) M')
    (h2 : NoS p ∨ NoS p' → PX 1 M) (h3 : ∀ s s', s < 6 → s' < 6 → p = nI s → p' = nI s' → (NoV cnt σ s q ∨ NoV cnt σ s' q') → PX 2 M)
    (h4 : ∀ s v s' v', IsV cnt σ s v → IsV cnt σ s' v' → p = nI s → q = nI v → p' = nI s' → q' = nI v' → (isRc σ r (ρ (2, s', v')) u = false ∨ rdF σ ρ g 45 (ρ (2, s, v)) (ρ (2, s', v')) 0 = none) → ∀ σ' M', EQr 2 s0 σ' σ → zC Fm V ad σ' ρ ξ M' → PX 3 M') : w_X5_read (ad (0, 0, 0)) p q p' q' M P PX := by
  refine k_both h hV hK (K := fun a b M => zGr M (ad (0, 0, 0)) 6 4 (fun v8 => (zIs M v8 2 ∧ w_X1_empty v8 M (fun M9 => zDf (some b) (fun a10 => (zIs M9 (ad (0, 0, 0)) 6 ∧ w_X5_isRecordOf (ad (0, 0, 0)) a10 M9 (fun v13 M12 => ((v13 = (0 : Int32) → (w_X5_read_59 (ad (0, 0, 0)) p q p' q' P PX M12)) ∧ (¬ v13 = (0 : Int32) → zGr M12 (ad (0, 0, 0)) 6 3 (fun v14 => zGr M12 (ad (0, 0, 0)) 6 4 (fun v15 => w_X5_readSchema (some a) (some a10) v14 (0 : Int32) v15 (0 : Int32) M12 (fun v17 M16 => ((¬ v17 = (0 : Int32) → zGr M16 (ad (0, 0, 0)) 6 3 (fun v18 => zGr M16 (ad (0, 0, 0)) 6 4 (fun v20 => zPu M16 (ad (0, 0, 0)) 6 3 (.ref v20) (fun M21 => zPu M21 (ad (0, 0, 0)) 6 4 (.ref v18) (fun M22 => zGr M22 (ad (0, 0, 0)) 6 3 (fun v23 => (zIs M22 v23 2 ∧ w_X1_count v23 M22 (fun v25 M24 => P v25 M24)))))))) ∧ (v17 = (0 : Int32) → (w_X5_read_59 (ad (0, 0, 0)) p q p' q' P PX M16))))))))))))))) (fun s v s' v' hv hv' e1 e2 e3 e4 => ?_) h2 h3 (fun a b hh => hh)
  subst hr hs0
  have l1 := ((hK.2.1 s hv.1).2.2 v hv.2.1).2
  have l2 := ((hK.2.1 s' hv'.1).2.2 v' hv'.2.1).2
  have hW := hK.2.2
  have hn := hK.1.2.2.1
  have hVa := k_S h hV hK (c := ρ (2, s, v)) (by omega)
  have hVb := k_S h hV hK (c := ρ (2, s', v')) (by omega)
  obtain ⟨-, -, -, vr, vs, -⟩ := k_0 h hV
  refine g_r h hV rfl rfl ⟨g_is h vs rfl, r_empty h vs fun M1 h1' => ⟨_, rfl, g_is h1' hV rfl, ?_⟩⟩
  have E1 : EQr 2 (ρ (1, 1, 0)) (up σ (4, ρ (1, 1, 0), 0) 0) σ := EQr.up (Or.inr rfl)
  have W1 := E1.toW (by omega)
  have hu1 : up σ (4, ρ (1, 1, 0), 0) 0 (4, ρ (1, 0, 0), 0) = nI u := (up_n _ _ (fun e => hrs (by have := congrArg (fun w : nm => w.2.1) e; exact this))).trans hu
  have hg1 : ∀ j, up σ (4, ρ (1, 1, 0), 0) 0 (5, ρ (1, 0, 0), j) = σ (5, ρ (1, 0, 0), j) := fun j => up_n _ _ (fun e => by have := congrArg (fun w : nm => w.1) e; simp only at this; omega)
  have eis : isRc (up σ (4, ρ (1, 1, 0), 0) 0) (ρ (1, 0, 0)) (ρ (2, s', v')) u = isRc σ (ρ (1, 0, 0)) (ρ (2, s', v')) u := by
    unfold isRc
    rw [W1.lnn, allR_congr (g := fun j => ofS (σ (5, ρ (1, 0, 0), j)) (σ (5, 3 + ρ (2, s', v'), j))) fun j hj => by show ofS (up σ (4, ρ (1, 1, 0), 0) 0 (5, ρ (1, 0, 0), j)) (up σ (4, ρ (1, 1, 0), 0) 0 (5, 3 + ρ (2, s', v'), j)) = _; rw [hg1, W1 (5, 3 + ρ (2, s', v'), j) (fun _ => by simp)]]
  refine c_isRecordOf h1' hV (W1.WP hP0) (c := ρ (2, s', v')) (by omega) hVb rfl hu1 hu2 ?_
  rw [eis]
  refine br_b (fun e => h4 s v s' v' hv hv' e1 e2 e3 e4 (Or.inl e) _ M1 E1 h1') (fun e => g_r h1' hV rfl rfl (g_r h1' hV rfl rfl ?_))
  have hul : u = lnn σ (ρ (2, s', v')) := by
    unfold isRc at e
    rw [Bool.and_eq_true, beq_iff_eq] at e
    exact e.1
  refine c_rdR (n := n) (r := ρ (1, 0, 0)) (t := ρ (1, 1, 0)) (ur := u) (g := g) hW hP0 hrs hu2 vr vs 45 (ρ (2, s, v)) (ρ (2, s', v')) 0 0 0 _ M1 _ h1' E1.eq (up_s _ _ _) hu1 (fun j hj => (hg1 j).trans (hg j hj)) (by omega) (by omega) hVa hVb (by omega) (by omega) (by have := (hP0.lnn (c := ρ (2, s, v)) (by omega)).2; omega) (by omega) (fun l M2 el h2' => ?_) (fun l M2 el h2' => ?_)
  · refine ⟨fun _ => g_r h2' hV rfl rfl (g_r h2' hV rfl rfl ?_), fun q => absurd q (by decide)⟩
    refine p_n h2' (1, 0, 0) (ρ (1, 1, 0)) (by simp) hV (fun y hy => ?_) rfl (by simp) ?_ fun M3 h3' => ?_
    · have := h2'.2.2.1 _ hV
      rcases hy with q | q | q | q | q | q
      · exact this y (Or.inl q)
      · exact this y (Or.inr (Or.inl q))
      · rw [up_n _ _ (fun e => by cases e)] at q; exact this y (Or.inr (Or.inr (Or.inl q)))
      · rw [up_s] at q; rw [q]; exact vs
      · rw [up_n _ _ (fun e => by cases e)] at q; rw [q]; exact vs
      · exact this y (Or.inr (Or.inr (Or.inr (Or.inr (Or.inr q)))))
    · simp [cell, hN, up, List.set]
    · refine p_n h3' (1, 1, 0) (ρ (1, 0, 0)) (by simp) hV (fun y hy => ?_) rfl (by simp) ?_ fun M4 h4' => ?_
      · have := h3'.2.2.1 _ hV
        rcases hy with q | q | q | q | q | q
        · exact this y (Or.inl q)
        · exact this y (Or.inr (Or.inl q))
        · rw [up_n _ _ (fun e => by cases e)] at q; exact this y (Or.inr (Or.inr (Or.inl q)))
        · rw [up_n _ _ (fun e => by cases e)] at q; exact this y (Or.inr (Or.inr (Or.inr (Or.inl q))))
        · rw [up_s] at q; rw [q]; exact vr
        · exact this y (Or.inr (Or.inr (Or.inr (Or.inr (Or.inr q)))))
      · simp [cell, hN, up, List.set]
      · have er : up (up ρ (1, 0, 0) (ρ (1, 1, 0))) (1, 1, 0) (ρ (1, 0, 0)) (1, 0, 0) = ρ (1, 1, 0) := (up_n _ _ (fun e => by cases e)).trans (up_s _ _ _)
        refine g_r h4' hV rfl rfl ?_
        show zIs M4 (ad (6, up (up ρ (1, 0, 0) (ρ (1, 1, 0))) (1, 1, 0) (ρ (1, 0, 0)) (1, 0, 0), 0)) 2 ∧ w_X1_count (ad (6, up (up ρ (1, 0, 0) (ρ (1, 1, 0))) (1, 1, 0) (ρ (1, 0, 0)) (1, 0, 0), 0)) M4 _
        rw [er]
        refine ⟨g_is h4' vs rfl, r_count h4' vs ?_⟩
        rw [rApp_used, Nat.zero_add]
        exact h1 s v s' v' l hv hv' e1 e2 e3 e4 e el M4 h4'
  · exact ⟨fun q => absurd rfl q, fun _ => h4 s v s' v' hv hv' e1 e2 e3 e4 (Or.inr el) _ M2 ((EQr.app (Or.inr rfl)).trans E1) h2'⟩
