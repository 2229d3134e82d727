/-! ===== the pure part: the reference's reading is rdF ===== -/
variable {V V' : nm → Prop} {ad ad' : nm → Nat} {σ σ' τ : nI2} {ρ ρ' π : nN2} {ξ ξ' : Nat → zE} {M : zM} {x y w : nm} {n : Nat} {cnt : Nat → Nat}
theorem m_ahead (h : zC V ad σ ρ ξ M) (hV : V (9, 0, 0)) (R : Rel n cnt τ π σ) (hK : WK n cnt τ π) (hP0 : WP n τ π) {c s : Nat} (hc : c ≤ n) (hs : s < zz τ c) {P : Int32 → zM → Prop} (hP : P (nI (bgn τ π c s)) M) : w_X6_ahead (ad (9, 0, 0)) (nI (ix n c)) (nI s) M P := by
  have hn := hK.1.2.2.1
  obtain ⟨r1, r2, r3⟩ := R.2.1 c hc
  have z5 := (hK.2.2 c hc).1.2
  have i36 := ix_le (c := c) hn
  have key : ∀ k i, i + k = s → w_X6_ahead_5 (ad (9, 0, 0)) (nI (ix n c)) (nI s) P (k + 1) (nI (bgn τ π c i)) (nI i) M := by
    intro k
    induction k with
    | zero =>
      intro i hi
      obtain rfl : i = s := by omega
      exact br_t (nI_le (Nat.le_refl _) (by omega)) hP
    | succ k ih =>
      intro i hi
      obtain ⟨⟨-, f2, -⟩, -, fT⟩ := r3 i (by omega)
      obtain ⟨g1, g2, g3⟩ := (hK.2.2 c hc).2 i (by omega)
      have b1 : 5 * ix n c + i < 185 := by omega
      have x1 : (5 : Int32) * nI (ix n c) + nI i = nI (5 * ix n c + i) := n_ma 5 _ _
      have h1 : bgn τ π c (i + 1) = bgn τ π c i + pcs τ π c i := rfl
      refine br_f (nI_ge (by omega) (by omega)) (m_r h hV 2 (a_i h hV 2 _ x1 b1 ?_))
      rw [f2, x1]
      unfold w_X6_ahead_51
      rw [nI_1]
      refine ⟨fun e => ?_, fun e => m_r h hV 8 (m_r h hV 3 (a_i h hV 3 _ rfl b1 ⟨g_is h hV rfl, ?_⟩))⟩
      · have hp : pcs τ π c i = 1 := if_pos (Classical.byContradiction fun q => e (g2.2 q))
        have := ih (i + 1) (by omega)
        rw [h1, hp] at this
        rw [nI_1]; exact this
      · obtain ⟨s', v, a1, a2, a3, a4, a5, a6⟩ := fT.r4 e
        have q := g2.1 e
        have hp : pcs τ π c i = lnn τ (rf π c i) := if_neg q
        have ra : rf π c i = π (2, s', v) := by unfold rf; omega
        have hlt := g3 q
        rw [a3]
        refine m_schemaOf h hV R a1 a2 (hK.2.1 s' a1).2.1 ?_
        rw [← ra]
        have r8 := (R.2.1 (rf π c i) (by omega)).2.1
        rw [ix_c (show rf π c i < n by omega)] at r8
        refine a_i h hV 8 (rf π c i) rfl (show rf π c i < 37 by omega) ?_
        rw [r8, nI_add, nI_1]
        have := ih (i + 1) (by omega)
        rw [h1, hp] at this
        exact this
  exact ⟨s + 1, key s 0 (by omega)⟩
/-- what is read so far -/
def Dn (σ : nI2) (l : List Int32) : Prop := ∀ j, j < l.length → σ (17, 18, j) = l.getD j 0
theorem Dn.add {l : List Int32} {v : Int32} (h : Dn σ l) : Dn (up σ (17, 18, l.length) v) (l ++ [v]) := fun j hj => by
  rw [List.length_append, List.length_singleton] at hj
  by_cases e : j = l.length
  · subst e
    rw [up_s]
    simp [List.getD_eq_getElem?_getD]
  · rw [up_n _ _ (fun q => e (by cases q; rfl)), h j (by omega)]
    simp only [List.getD_eq_getElem?_getD]
    rw [List.getElem?_append_left (by omega)]
theorem Dn.up {l : List Int32} {k j : Nat} {v : Int32} (h : Dn σ l) (hk : k ≠ 18) : Dn (up σ (17, k, j) v) l := fun q hq => (up_n _ _ (fun e => hk (by cases e; rfl))).trans (h q hq)
theorem m_rdS (hK : WK n cnt τ π) (hP0 : WP n τ π) (hN0 : ∀ c, c < n → 1 ≤ lnn τ c) (hV : V (9, 0, 0)) {σ0 : nI2} (R0 : Rel n cnt τ π σ0) {u : Nat} (hu2 : u ≤ 20) (x0 y0 : Int32) (P : Int32 → zM → Prop) :
    ∀ m c, c < m → c ≤ n → ∀ k i, i + k = zz τ c → ∃ N, ∀ (f d w b n' : Nat) (l : List Int32) (σ : nI2) (M : zM), c ≤ f → d + c ≤ 36 → w ≤ n → zC V ad σ ρ ξ M → EQx σ σ0 → σ (17, 19, d) = nI (ix n c) → σ (17, 20, d) = nI (ix n w) → σ (17, 21, d) = nI i → σ (17, 22, d) = nI b → Dn σ l → l.length + (lnn τ c - bgn τ π c i) ≤ 20 → b + lnn τ w ≤ u →
      (∀ l', seqR (rdFd τ π (fun j => σ0 (17, 17, j)) (rdF τ π (fun j => σ0 (17, 17, j)) f) c w b) k i = some l' → ∀ σ' M', zC V ad σ' ρ ξ M' → EQx σ' σ0 → Blw d σ' σ → Dn σ' (l ++ l') → w_X6_reads_33 (ad (9, 0, 0)) x0 y0 P n' (nI (l ++ l').length) (nI d + (-1)) M') →
      (seqR (rdFd τ π (fun j => σ0 (17, 17, j)) (rdF τ π (fun j => σ0 (17, 17, j)) f) c w b) k i = none → ∀ σ' M', EQx σ' σ0 → zC V ad σ' ρ ξ M' → P (-1) M') →
      w_X6_reads_33 (ad (9, 0, 0)) x0 y0 P (N + n') (nI l.length) (nI d) M := by
  have hn := hK.1.2.2.1
  have hW := hK.2.2
  intro m
  induction m with
  | zero => intro c h; omega
  | succ m ihm =>
    intro c hcm hc k
    have z5 := (hW c hc).1.2
    have i36 := ix_le (c := c) hn
    have hlc := (hP0.lnn hc).1
    induction k with
    | zero =>
      intro i hi
      refine ⟨1, fun f d w b n' l σ M hf hd hw h E h19 h20 h21 h22 hD hl hb hk _ => ?_⟩
      obtain ⟨r1, r2, r3⟩ := (R0.of E).2.1 c hc
      rw [Nat.add_comm]
      refine br_f (nI_pos (by omega)) (m_r h hV 19 (a_i h hV 19 d rfl (show d < 40 by omega) (m_r h hV 21 (a_i h hV 21 d rfl (show d < 40 by omega) (m_r h hV 7 ?_)))))
      rw [h19, h21]
      refine a_i h hV 7 (ix n c) rfl (show ix n c < 37 by omega) ?_
      rw [r1]
      obtain rfl : i = zz τ c := by omega
      refine ⟨fun e => absurd rfl e, fun _ => ?_⟩
      have := hk [] rfl σ M h E Blw.refl (by rw [List.append_nil]; exact hD)
      rw [List.append_nil] at this
      exact this
    | succ k ihk =>
      intro i hi
      obtain ⟨N1, hN1⟩ := ihk (i + 1) (by omega)
      have b1 : 5 * ix n c + i < 185 := by omega
      have x1 : (5 : Int32) * nI (ix n c) + nI i = nI (5 * ix n c + i) := n_ma 5 _ _
      obtain ⟨g1, g2, g3⟩ := (hW c hc).2 i (by omega)
      have hs1 : bgn τ π c (i + 1) = bgn τ π c i + pcs τ π c i := rfl
      have hs2 : bgn τ π c (i + 1) ≤ bgn τ π c (zz τ c) := bgn_le (by omega)
      have g4 := ((hP0 c hc).2 i (by omega)).2
      have exN : ∃ N2, π (3, c, i) ≠ 0 → ∀ (f d w b n' : Nat) (l : List Int32) (σ : nI2) (M : zM), rf π c i ≤ f → d + rf π c i ≤ 36 → w ≤ n → zC V ad σ ρ ξ M → EQx σ σ0 → σ (17, 19, d) = nI (ix n (rf π c i)) → σ (17, 20, d) = nI (ix n w) → σ (17, 21, d) = nI 0 → σ (17, 22, d) = nI b → Dn σ l → l.length + (lnn τ (rf π c i) - bgn τ π (rf π c i) 0) ≤ 20 → b + lnn τ w ≤ u →
          (∀ l', seqR (rdFd τ π (fun j => σ0 (17, 17, j)) (rdF τ π (fun j => σ0 (17, 17, j)) f) (rf π c i) w b) (zz τ (rf π c i)) 0 = some l' → ∀ σ' M', zC V ad σ' ρ ξ M' → EQx σ' σ0 → Blw d σ' σ → Dn σ' (l ++ l') → w_X6_reads_33 (ad (9, 0, 0)) x0 y0 P n' (nI (l ++ l').length) (nI d + (-1)) M') →
          (seqR (rdFd τ π (fun j => σ0 (17, 17, j)) (rdF τ π (fun j => σ0 (17, 17, j)) f) (rf π c i) w b) (zz τ (rf π c i)) 0 = none → ∀ σ' M', EQx σ' σ0 → zC V ad σ' ρ ξ M' → P (-1) M') →
          w_X6_reads_33 (ad (9, 0, 0)) x0 y0 P (N2 + n') (nI l.length) (nI d) M := by
        by_cases q : π (3, c, i) = 0
        · exact ⟨0, fun e => absurd q e⟩
        · have hlt := g3 q
          obtain ⟨N2, hN2⟩ := ihm (rf π c i) (by omega) (by omega) (zz τ (rf π c i)) 0 (by omega)
          exact ⟨N2, fun _ => hN2⟩
      obtain ⟨N2, hN2⟩ := exN
      refine ⟨1 + (if π (3, c, i) = 0 then 0 else N2) + N1, fun f d w b n' l σ M hf hd hw h E h19 h20 h21 h22 hD hl hb hk hbad => ?_⟩
      obtain ⟨r1, r2, r3⟩ := (R0.of E).2.1 c hc
      obtain ⟨⟨-, f2, -, f5, f6⟩, -, fT⟩ := r3 i (by omega)
      have i36w := ix_le (c := w) hn
      have z5w := (hW w hw).1.2
      rw [show 1 + (if π (3, c, i) = 0 then 0 else N2) + N1 + n' = ((if π (3, c, i) = 0 then 0 else N2) + (N1 + n')) + 1 by omega]
      refine br_f (nI_pos (by omega)) (m_r h hV 19 (a_i h hV 19 d rfl (show d < 40 by omega) (m_r h hV 21 (a_i h hV 21 d rfl (show d < 40 by omega) (m_r h hV 7 ?_)))))
      rw [h19, h21]
      refine a_i h hV 7 (ix n c) rfl (show ix n c < 37 by omega) ?_
      rw [r1]
      refine ⟨fun _ => m_r h hV 21 (a_i h hV 21 d rfl (show d < 40 by omega) (m_r h hV 20 (a_i h hV 20 d rfl (show d < 40 by omega) ⟨g_is h hV rfl, ?_⟩))), fun e => absurd ((nI_eq (by omega) (by omega)).1 e) (by omega)⟩
      rw [h21, h20, x1]
      refine m_source h hV (R0.of E) hn hW hc hw (by omega) (m_r h hV 20 (a_i h hV 20 d rfl (show d < 40 by omega) ?_))
      rw [h20]
      unfold seqR at hk hbad
      -- one number more
      have one : ∀ (v : Int32) (σ1 : nI2) (M1 : zM), π (3, c, i) = 0 → rdFd τ π (fun j => σ0 (17, 17, j)) (rdF τ π (fun j => σ0 (17, 17, j)) f) c w b i = some [v] → zC V ad σ1 ρ ξ M1 → σ1 = up σ (17, 21, d) (nI (i + 1)) → zSi M1 (ad (10, 18, 0)) (nI l.length) v (fun M2 => w_X6_reads_408 (ad (9, 0, 0)) x0 y0 P (w_X6_reads_33 (ad (9, 0, 0)) x0 y0 P ((if π (3, c, i) = 0 then 0 else N2) + (N1 + n'))) (nI l.length + 1) (nI d) M2) := by
        intro v σ1 M1 q hv h1 hσ
        have hp : pcs τ π c i = 1 := if_pos q
        rw [if_pos q, Nat.zero_add]
        refine st_i h1 hV 18 l.length rfl (show l.length < 20 by omega) fun M2 h2 => ?_
        unfold w_X6_reads_408
        have E2 : EQx (up σ1 (17, 18, l.length) v) σ0 := (EQx.up (scr_k (by decide))).trans (by rw [hσ]; exact (EQx.up (scr_k (by decide))).trans E)
        have D2 : Dn (up σ1 (17, 18, l.length) v) (l ++ [v]) := by rw [hσ]; exact (hD.up (by decide)).add
        have s19 : up σ1 (17, 18, l.length) v (17, 19, d) = nI (ix n c) := by rw [up_n _ _ (fun e => by cases e), hσ, up_n _ _ (fun e => by cases e), h19]
        have s20 : up σ1 (17, 18, l.length) v (17, 20, d) = nI (ix n w) := by rw [up_n _ _ (fun e => by cases e), hσ, up_n _ _ (fun e => by cases e), h20]
        have s21 : up σ1 (17, 18, l.length) v (17, 21, d) = nI (i + 1) := by rw [up_n _ _ (fun e => by cases e), hσ, up_s]
        have s22 : up σ1 (17, 18, l.length) v (17, 22, d) = nI b := by rw [up_n _ _ (fun e => by cases e), hσ, up_n _ _ (fun e => by cases e), h22]
        have := hN1 f d w b n' (l ++ [v]) _ M2 hf hd hw h2 E2 s19 s20 s21 s22 D2 (by rw [List.length_append, List.length_singleton]; omega) hb (fun l' e σ' M' a1 a2 a3 a4 => ?_) (fun e σ' M' a1 a2 => ?_)
        · rw [List.length_append, List.length_singleton] at this
          rw [nI_1]; exact this
        · rw [List.append_assoc] at a4 ⊢
          refine hk ([v] ++ l') ?_ σ' M' a1 a2 (a3.trans ((Blw.up (Or.inr rfl)).trans (by rw [hσ]; exact Blw.up (Or.inl (Nat.le_refl d))))) a4
          rw [hv]; simp only [e]
        · refine hbad ?_ σ' M' a1 a2
          rw [hv]; simp only [e]
      -- it can't be read
      have bad : ∀ (σ1 : nI2) (M1 : zM), rdFd τ π (fun j => σ0 (17, 17, j)) (rdF τ π (fun j => σ0 (17, 17, j)) f) c w b i = none → EQx σ1 σ0 → zC V ad σ1 ρ ξ M1 → P (-1) M1 := fun σ1 M1 hv e1 e2 => hbad (by rw [hv]) σ1 M1 e1 e2
      unfold rdFd at one bad
      cases e : srcC τ c i w with
      | none =>
        simp only [e] at one bad
        refine ⟨fun q => absurd rfl q, fun _ => m_r h hV 21 (a_i h hV 21 d rfl (show d < 40 by omega) ?_)⟩
        rw [h21, nI_1]
        refine st_i h hV 21 d rfl (show d < 40 by omega) fun M1 h1 => ⟨fun q => absurd rfl q, fun _ => ?_⟩
        have E1 : EQx (up σ (17, 21, d) (nI (i + 1))) σ0 := (EQx.up (scr_k (by decide))).trans E
        have u5 : up σ (17, 21, d) (nI (i + 1)) (17, 5, 5 * ix n c + i) = τ (14, c, i) := (up_n _ _ (fun e => by cases e)).trans f5
        have u6 : up σ (17, 21, d) (nI (i + 1)) (17, 6, 5 * ix n c + i) = τ (15, c, i) := (up_n _ _ (fun e => by cases e)).trans f6
        refine m_r h1 hV 5 (a_i h1 hV 5 _ rfl b1 ?_)
        rw [u5]
        refine ⟨fun e5 => m_r h1 hV 18 (m_r h1 hV 6 (a_i h1 hV 6 _ rfl b1 ?_)), fun e5 => bad _ M1 (if_pos e5) E1 h1⟩
        rw [u6]
        exact one _ _ M1 (Classical.byContradiction fun q => e5 (g4 q)) (if_neg e5) h1 rfl
      | some s =>
        simp only [e] at one bad
        have hs := srcC_lt e
        have b2 : 5 * ix n w + s < 185 := by omega
        obtain ⟨w1, w2, w3⟩ := (hW w hw).2 s hs
        obtain ⟨-, -, q3⟩ := (R0.of E).2.1 w hw
        obtain ⟨⟨-, v2, -⟩, -, vT⟩ := q3 s hs
        have hlw := (hP0.lnn hw).1
        have hbw : bgn τ π w (s + 1) ≤ bgn τ π w (zz τ w) := bgn_le (by omega)
        have hbw1 : bgn τ π w (s + 1) = bgn τ π w s + pcs τ π w s := rfl
        have hp1 : 1 ≤ pcs τ π w s := by
          unfold pcs
          split
          · exact Nat.le_refl 1
          · next q => exact hN0 _ (by have := w3 q; omega)
        have hw20 : b + bgn τ π w s < 20 := by omega
        refine ⟨fun _ => m_r h hV 22 (a_i h hV 22 d rfl (show d < 40 by omega) (m_r h hV 20 (a_i h hV 20 d rfl (show d < 40 by omega) ⟨g_is h hV rfl, ?_⟩))), fun q => absurd q (nI_m1 (by omega))⟩
        rw [h22, h20]
        refine m_ahead h hV (R0.of E) hK hP0 hw hs ?_
        rw [nI_add, show (5 : Int32) * nI (ix n w) + nJ (some s) = nI (5 * ix n w + s) from n_ma 5 _ _]
        refine m_r h hV 21 (a_i h hV 21 d rfl (show d < 40 by omega) ?_)
        rw [h21, nI_1]
        refine st_i h hV 21 d rfl (show d < 40 by omega) fun M1 h1 => ⟨fun _ => m_r h1 hV 2 (a_i h1 hV 2 _ rfl b1 ?_), fun q => absurd q (nI_m1 (by omega))⟩
        have E1 : EQx (up σ (17, 21, d) (nI (i + 1))) σ0 := (EQx.up (scr_k (by decide))).trans E
        have u2 : up σ (17, 21, d) (nI (i + 1)) (17, 2, 5 * ix n c + i) = τ (9, c, i) := (up_n _ _ (fun e => by cases e)).trans f2
        have uw2 : up σ (17, 21, d) (nI (i + 1)) (17, 2, 5 * ix n w + s) = τ (9, w, s) := (up_n _ _ (fun e => by cases e)).trans v2
        have u3 : ∀ p, up σ (17, 21, d) (nI (i + 1)) (17, 3, p) = σ (17, 3, p) := fun p => up_n _ _ (fun e => by cases e)
        have u5 : up σ (17, 21, d) (nI (i + 1)) (17, 5, 5 * ix n c + i) = τ (14, c, i) := (up_n _ _ (fun e => by cases e)).trans f5
        have u6 : up σ (17, 21, d) (nI (i + 1)) (17, 6, 5 * ix n c + i) = τ (15, c, i) := (up_n _ _ (fun e => by cases e)).trans f6
        have u17 : ∀ p, up σ (17, 21, d) (nI (i + 1)) (17, 17, p) = σ0 (17, 17, p) := fun p => E1.col (k := 17) (by decide) (by decide)
        -- not both records
        have k275 : ¬ (τ (9, c, i) = 4 ∧ τ (9, w, s) = 4) → w_X6_reads_275 (ad (9, 0, 0)) x0 y0 P (w_X6_reads_33 (ad (9, 0, 0)) x0 y0 P ((if π (3, c, i) = 0 then 0 else N2) + (N1 + n'))) (nI l.length) (nI d) (nI (5 * ix n c + i)) (nI (5 * ix n w + s)) (nI (b + bgn τ π w s)) M1 := fun h44 => by
          have k318 : ∀ t : Bool, t = rdT (τ (9, c, i)) (τ (9, w, s)) → w_X6_reads_318 (ad (9, 0, 0)) x0 y0 P (w_X6_reads_33 (ad (9, 0, 0)) x0 y0 P ((if π (3, c, i) = 0 then 0 else N2) + (N1 + n'))) (nI l.length) (nI d) (nI (5 * ix n c + i)) (nI (b + bgn τ π w s)) (bI t) M1 := fun t ht => by
            rw [← ht] at one bad
            have fail : t = false → P (-1) M1 := fun e => bad _ M1 (by rw [e]; exact if_neg (by decide)) E1 h1
            have n4 : t = true → ¬ τ (9, c, i) = 4 := fun e e4 => h44 ⟨e4, by rw [ht, e4] at e; exact rdT_4 e⟩
            have zq : t = true → π (3, c, i) = 0 := fun e => Classical.byContradiction fun q => n4 e (g2.2 q)
            have k348 : ¬ (τ (9, c, i) = 3 ∧ ¬ σ0 (17, 17, b + bgn τ π w s) < τ (10, c, i)) → w_X6_reads_348 (ad (9, 0, 0)) x0 y0 P (w_X6_reads_33 (ad (9, 0, 0)) x0 y0 P ((if π (3, c, i) = 0 then 0 else N2) + (N1 + n'))) (nI l.length) (nI d) (nI (5 * ix n c + i)) (nI (b + bgn τ π w s)) (bI t) M1 := fun hno =>
              br_b fail (fun et => ⟨fun _ => m_r h1 hV 18 ⟨fun q => absurd q (by decide), fun _ => m_r h1 hV 17 (a_i h1 hV 17 _ rfl (show b + bgn τ π w s < 20 from hw20) (by
                rw [u17]
                exact one _ _ M1 (zq et) (by rw [if_pos et, if_neg (n4 et), if_neg hno]) h1 rfl))⟩, fun q => absurd q (by decide)⟩)
            refine m_r h1 hV 2 (a_i h1 hV 2 _ rfl b1 ?_)
            rw [u2]
            refine ⟨fun e3 => k348 (fun q => e3 q.1), fun e3 => ?_⟩
            refine m_r h1 hV 17 (a_i h1 hV 17 _ rfl (show b + bgn τ π w s < 20 from hw20) (m_r h1 hV 3 (a_i h1 hV 3 _ rfl b1 ?_)))
            rw [u17, u3, (fT.r3 e3).1]
            refine ⟨fun e5 => ?_, fun e5 => k348 (fun q => q.2 (Int32.not_le.1 e5))⟩
            have cond : τ (9, c, i) = 3 ∧ ¬ σ0 (17, 17, b + bgn τ π w s) < τ (10, c, i) := ⟨e3, Int32.not_lt.2 e5⟩
            refine br_b fail (fun et => ⟨fun q => absurd rfl q, fun _ => m_r h1 hV 5 (a_i h1 hV 5 _ rfl b1 ?_)⟩)
            rw [u5]
            refine ⟨fun e6 => m_r h1 hV 18 ⟨fun _ => m_r h1 hV 6 (a_i h1 hV 6 _ rfl b1 ?_), fun q => absurd rfl q⟩, fun e6 => bad _ M1 (by rw [if_pos et, if_neg (n4 et), if_pos cond]; exact if_pos e6) E1 h1⟩
            rw [u6]
            exact one _ _ M1 (zq et) (by rw [if_pos et, if_neg (n4 et), if_pos cond]; exact if_neg e6) h1 rfl
          refine m_r h1 hV 2 (a_i h1 hV 2 _ rfl b1 (m_r h1 hV 2 (a_i h1 hV 2 _ rfl b2 ?_)))
          rw [u2, uw2]
          refine ⟨fun q => k318 true (by simp [rdT, q]), fun q => m_r h1 hV 2 (a_i h1 hV 2 _ rfl b1 ?_)⟩
          rw [u2]
          refine ⟨fun q1 => k318 false (by simp [rdT, q, q1]), fun q1 => m_r h1 hV 2 (a_i h1 hV 2 _ rfl b2 ?_)⟩
          rw [uw2]
          refine ⟨fun q2 => k318 false (by rw [q1] at q; simp [rdT, q1, q2, q]), fun q2 => k318 true (by simp [rdT, q1, q2])⟩
        rw [u2]
        refine ⟨fun q => k275 (fun r => q r.1), fun q4 => m_r h1 hV 2 (a_i h1 hV 2 _ rfl b2 ?_)⟩
        rw [uw2]
        refine ⟨fun q => k275 (fun r => q r.2), fun q5 => ?_⟩
        have c1 := g2.1 q4
        have c2 := w2.1 q5
        obtain ⟨s1, v1, a1, a2, a3, a4, a5, a6⟩ := fT.r4 q4
        obtain ⟨s2, v2', d1, d2, d3, d4, d5, d6⟩ := vT.r4 q5
        have ra : rf π c i = π (2, s1, v1) := by unfold rf; omega
        have rb : rf π w s = π (2, s2, v2') := by unfold rf; omega
        have hlt := g3 c1
        have hltw := w3 c2
        have pc : pcs τ π c i = lnn τ (rf π c i) := if_neg c1
        have pw : pcs τ π w s = lnn τ (rf π w s) := if_neg c2
        obtain ⟨f, rfl⟩ : ∃ f', f = f' + 1 := ⟨f - 1, by omega⟩
        have hval : rdFd τ π (fun j => σ0 (17, 17, j)) (rdF τ π (fun j => σ0 (17, 17, j)) (f + 1)) c w b i = seqR (rdFd τ π (fun j => σ0 (17, 17, j)) (rdF τ π (fun j => σ0 (17, 17, j)) f) (rf π c i) (rf π w s) (b + bgn τ π w s)) (zz τ (rf π c i)) 0 := by
          unfold rdFd
          simp only [e]
          rw [if_pos (by rw [q4, q5]; rfl), if_pos q4]
          rfl
        rw [hval] at hk hbad
        refine m_r h1 hV 19 (m_r h1 hV 3 (a_i h1 hV 3 _ rfl b1 ⟨g_is h1 hV rfl, ?_⟩))
        rw [u3, a3]
        refine m_schemaOf h1 hV (R0.of E1) a1 a2 (hK.2.1 s1 a1).2.1 (st_i h1 hV 19 (d + 1) (nI_1 d) (show d + 1 < 40 by omega) fun M2 h2 => ?_)
        have E2 := (EQx.up (σ := up σ (17, 21, d) (nI (i + 1))) (w := (17, 19, d + 1)) (v := nI (π (2, s1, v1))) (scr_k (by decide))).trans E1
        refine m_r h2 hV 20 (m_r h2 hV 3 (a_i h2 hV 3 _ rfl b2 ⟨g_is h2 hV rfl, ?_⟩))
        rw [up_n _ _ (fun q => by cases q), u3, d3]
        refine m_schemaOf h2 hV (R0.of E2) d1 d2 (hK.2.1 s2 d1).2.1 (st_i h2 hV 20 (d + 1) (nI_1 d) (show d + 1 < 40 by omega) fun M3 h3 => m_r h3 hV 21 (st_i h3 hV 21 (d + 1) (nI_1 d) (show d + 1 < 40 by omega) fun M4 h4 => m_r h4 hV 22 (st_i h4 hV 22 (d + 1) (nI_1 d) (show d + 1 < 40 by omega) fun M5 h5 => ?_)))
        rw [if_neg c1, nI_1]
        unfold w_X6_reads_408
        generalize hσ5 : up (up (up (up (up σ (17, 21, d) (nI (i + 1))) (17, 19, d + 1) (nI (π (2, s1, v1)))) (17, 20, d + 1) (nI (π (2, s2, v2')))) (17, 21, d + 1) 0) (17, 22, d + 1) (nI (b + bgn τ π w s)) = σ5 at h5
        have E5 : EQx σ5 σ0 := by rw [← hσ5]; exact (EQx.up (scr_k (by decide))).trans ((EQx.up (scr_k (by decide))).trans ((EQx.up (scr_k (by decide))).trans E2))
        have B5 : Blw d σ5 σ := by rw [← hσ5]; exact (Blw.up (Or.inl (by omega))).trans ((Blw.up (Or.inl (by omega))).trans ((Blw.up (Or.inl (by omega))).trans ((Blw.up (Or.inl (by omega))).trans (Blw.up (Or.inl (by omega))))))
        have D5 : Dn σ5 l := by rw [← hσ5]; exact ((((hD.up (by decide)).up (by decide)).up (by decide)).up (by decide)).up (by decide)
        have nd : ∀ k k' : Nat, ((17, k, d) : nm) ≠ (17, k', d + 1) := fun k k' q => by have := congrArg (fun w : nm => w.2.2) q; simp only at this; omega
        have s19 : σ5 (17, 19, d + 1) = nI (ix n (rf π c i)) := by rw [← hσ5, up_n _ _ (fun q => by cases q), up_n _ _ (fun q => by cases q), up_n _ _ (fun q => by cases q), up_s, ix_c (by omega), ra]
        have s20 : σ5 (17, 20, d + 1) = nI (ix n (rf π w s)) := by rw [← hσ5, up_n _ _ (fun q => by cases q), up_n _ _ (fun q => by cases q), up_s, ix_c (by omega), rb]
        have s21 : σ5 (17, 21, d + 1) = nI 0 := by rw [← hσ5, up_n _ _ (fun q => by cases q), up_s]; rfl
        have s22 : σ5 (17, 22, d + 1) = nI (b + bgn τ π w s) := by rw [← hσ5, up_s]
        have t19 : σ5 (17, 19, d) = nI (ix n c) := by rw [← hσ5, up_n _ _ (nd _ _), up_n _ _ (nd _ _), up_n _ _ (nd _ _), up_n _ _ (nd _ _), up_n _ _ (fun q => by cases q), h19]
        have t20 : σ5 (17, 20, d) = nI (ix n w) := by rw [← hσ5, up_n _ _ (nd _ _), up_n _ _ (nd _ _), up_n _ _ (nd _ _), up_n _ _ (nd _ _), up_n _ _ (fun q => by cases q), h20]
        have t21 : σ5 (17, 21, d) = nI (i + 1) := by rw [← hσ5, up_n _ _ (nd _ _), up_n _ _ (nd _ _), up_n _ _ (nd _ _), up_n _ _ (nd _ _), up_s]
        have t22 : σ5 (17, 22, d) = nI b := by rw [← hσ5, up_n _ _ (nd _ _), up_n _ _ (nd _ _), up_n _ _ (nd _ _), up_n _ _ (nd _ _), up_n _ _ (fun q => by cases q), h22]
        refine hN2 c1 f (d + 1) (rf π w s) (b + bgn τ π w s) (N1 + n') l σ5 M5 (by omega) (by omega) (by omega) h5 E5 s19 s20 s21 s22 D5 (by simp only [bgn]; omega) (by omega) (fun l1 hl1 σ6 M6 h6 E6 B6 D6 => ?_) (fun hl1 σ6 M6 E6 h6 => hbad (by rw [hl1]) σ6 M6 E6 h6)
        rw [pk_m1]
        rw [hl1] at hk hbad
        obtain ⟨b19, b21, b20, b22⟩ := B6 d (by omega)
        have hlen : l1.length = lnn τ (rf π c i) := rdF_len hW hP0 (f + 1) (rf π c i) (rf π w s) (b + bgn τ π w s) l1 (by omega) (by omega) hl1
        refine hN1 (f + 1) d w b n' (l ++ l1) σ6 M6 hf hd hw h6 E6 (b19.trans t19) (b20.trans t20) (b21.trans t21) (b22.trans t22) D6 (by rw [List.length_append]; omega) hb (fun l2 hl2 σ7 M7 h7 E7 B7 D7 => ?_) (fun hl2 σ7 M7 E7 h7 => hbad (by simp only [hl2]) σ7 M7 E7 h7)
        rw [List.append_assoc] at D7 ⊢
        exact hk (l1 ++ l2) (by simp only [hl2]) σ7 M7 h7 E7 (B7.trans ((B6.less (by omega)).trans B5)) D7
