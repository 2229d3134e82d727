/-! ===== the pure part: readsAll and read ===== -/
variable {Fm : zM} {V V' : nm → Prop} {ad ad' : nm → Nat} {σ σ' τ : nI2} {ρ ρ' π : nN2} {ξ ξ' : Nat → zE} {M : zM} {x y w : nm} {n : Nat} {cnt : Nat → Nat}
theorem k_readsAll (h : zC Fm V ad σ ρ ξ M) (hV : V (0, 0, 0)) (hK : WK n cnt σ ρ) (hP0 : WP n σ ρ) (hQ : WQ n σ ρ) (hs2 : ρ (1, 1, 0) < 2) {p q p' q' : Int32} {P : Int32 → zM → Prop} {PX : Nat → zM → Prop} (h1 : ∀ s v s' v', IsV cnt σ s v → IsV cnt σ s' v' → p = nI s → q = nI v → p' = nI s' → q' = nI v' → prd (pl σ (ρ (2, s', v'))) (lnn σ (ρ (2, s', v'))) 0 ≤ 300 → ∀ σ' M', EQr 2 (ρ (1, 1, 0)) σ' σ → zC Fm V ad σ' ρ ξ M' → P (bI (canC σ ρ (ρ (2, s, v)) (ρ (2, s', v')))) M') (h2 : NoS p ∨ NoS p' → PX 1 M) (h3 : ∀ s s', s < 6 → s' < 6 → p = nI s → p' = nI s' → (NoV cnt σ s q ∨ NoV cnt σ s' q') → PX 2 M)
    (h4 : ∀ s v s' v', IsV cnt σ s v → IsV cnt σ s' v' → p = nI s → q = nI v → p' = nI s' → q' = nI v' → 300 < prd (pl σ (ρ (2, s', v'))) (lnn σ (ρ (2, s', v'))) 0 → PX 3 M) : w_X5_readsAll (ad (0, 0, 0)) p q p' q' M P PX := by
  refine k_both h hV hK (K := fun a b M => zGr M b 3 1 (fun v22 => w_X5_countSmallRecords v22 M (fun v24 M23 => ((v24 ≤ (300 : Int32) → (∃ nn, w_X5_readsAll_54 (ad (0, 0, 0)) p q p' q' P PX nn (some a) (some b) v24 (0 : Int32) M23)) ∧ (¬ v24 ≤ (300 : Int32) → PX 3 M23))))) (fun s v s' v' hv hv' e1 e2 e3 e4 => ?_) h2 h3 (fun a b hh => ⟨_, rfl, hh⟩)
  have l1 := ((hK.2.1 s hv.1).2.2 v hv.2.1).2
  have l2 := ((hK.2.1 s' hv'.1).2.2 v' hv'.2.1).2
  have hW := hK.2.2
  have hn := hK.1.2.2.1
  have hVa := k_S h hV hK (c := ρ (2, s, v)) (by omega)
  have hVb := k_S h hV hK (c := ρ (2, s', v')) (by omega)
  obtain ⟨w1, w2⟩ := hP0.lnn (c := ρ (2, s', v')) (by omega)
  have hu : σ (4, 3 + ρ (2, s', v'), 0) = nI (lnn σ (ρ (2, s', v'))) := by rw [w1]; exact (hP0 (ρ (2, s', v')) (by omega)).1.1
  have hpl := WQ.pl hW hP0 hQ (ρ (2, s', v') + 1) (ρ (2, s', v')) (by omega) (by omega)
  refine g_r h hVb rfl rfl (c_countSmall h (s_V h hVb).2.2.1 hu w2 (p := pl σ (ρ (2, s', v'))) hpl ?_)
  obtain ⟨c1, c2⟩ := smC_prd (p := pl σ (ρ (2, s', v'))) (lnn σ (ρ (2, s', v'))) 0 1 (by omega)
  rw [Nat.one_mul] at c1 c2
  have hb31 : smC (pl σ (ρ (2, s', v'))) (lnn σ (ρ (2, s', v'))) 0 1 < 2 ^ 31 := by
    have : ∀ k i a, a ≤ 1200 → (∀ j, i ≤ j → j < i + k → pl σ (ρ (2, s', v')) j ≤ 4) → smC (pl σ (ρ (2, s', v'))) k i a ≤ 1200 := by
      intro k
      induction k with
      | zero => intro i a ha _; exact ha
      | succ k ih =>
        intro i a ha hj
        unfold smC
        by_cases e : 300 < a
        · rw [if_pos e]; exact ha
        · rw [if_neg e]
          refine ih _ _ ?_ (fun j j1 j2 => hj j (by omega) (by omega))
          split
          · exact ha
          · calc a * pl σ (ρ (2, s', v')) i ≤ 300 * 4 := Nat.mul_le_mul (by omega) (hj i (Nat.le_refl i) (by omega))
              _ = 1200 := rfl
    have := this (lnn σ (ρ (2, s', v'))) 0 1 (by omega) (fun j _ hj => (hpl j (by omega)).2)
    omega
  refine pk_le _ 300 (fun e => ?_) (fun e => ?_)
  · have := c1 e
    refine c_readsLoop hW hP0 hn (c := ρ (2, s, v)) (w := ρ (2, s', v')) (by omega) (by omega) hV hVa hVb rfl hs2 rfl hpl e p q p' q' (fun σ' M' E' h' => ?_) h
    rw [this, rdAll_can hW hP0 hQ (by omega) (by omega)]
    exact h1 s v s' v' hv hv' e1 e2 e3 e4 (by omega) σ' M' E' h'
  · exact h4 s v s' v' hv hv' e1 e2 e3 e4 (c2 e)
