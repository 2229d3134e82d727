/-! ===== the pure part: the reference's walks through a schema with a row of its own ===== -/
variable {V V' : nm → Prop} {ad ad' : nm → Nat} {σ σ' τ : nI2} {ρ ρ' π : nN2} {ξ ξ' : Nat → zE} {M : zM} {x y w : nm} {n : Nat} {cnt : Nat → Nat}
/-- the rows of the walk below depth d stay -/
def Blw (d : Nat) (σ' σ : nI2) : Prop := ∀ e, e < d → σ' (17, 19, e) = σ (17, 19, e) ∧ σ' (17, 21, e) = σ (17, 21, e) ∧ σ' (17, 20, e) = σ (17, 20, e) ∧ σ' (17, 22, e) = σ (17, 22, e)
theorem Blw.refl {d : Nat} : Blw d σ σ := fun _ _ => ⟨rfl, rfl, rfl, rfl⟩
theorem Blw.trans {d : Nat} {σ'' : nI2} (h : Blw d σ'' σ') (g : Blw d σ' σ) : Blw d σ'' σ := fun e he => by
  obtain ⟨a1, a2, a3, a4⟩ := h e he
  obtain ⟨b1, b2, b3, b4⟩ := g e he
  exact ⟨a1.trans b1, a2.trans b2, a3.trans b3, a4.trans b4⟩
theorem Blw.less {d e : Nat} (h : Blw d σ' σ) (he : e ≤ d) : Blw e σ' σ := fun q hq => h q (by omega)
theorem Blw.up {d k j : Nat} {v : Int32} (h : d ≤ j ∨ k = 18) : Blw d (up σ (17, k, j) v) σ := fun e he =>
  ⟨up_n _ _ (fun q => by cases q; omega), up_n _ _ (fun q => by cases q; omega), up_n _ _ (fun q => by cases q; omega), up_n _ _ (fun q => by cases q; omega)⟩
theorem scr_k {k j : Nat} (h : 18 ≤ k) : scr (17, k, j) := Or.inl ⟨rfl, Or.inr h⟩
theorem prd_split {p : Nat → Nat} : ∀ k1 k2 i, prd p (k1 + k2) i = prd p k1 i * prd p k2 (i + k1) := by
  intro k1
  induction k1 with
  | zero => intro k2 i; rw [Nat.zero_add, Nat.add_zero]; simp only [prd, Nat.one_mul]
  | succ k1 ih =>
    intro k2 i
    rw [show k1 + 1 + k2 = (k1 + k2) + 1 by omega]
    simp only [prd]
    rw [ih, Nat.mul_assoc, show i + 1 + k1 = i + (k1 + 1) by omega]
theorem prd_congr {p q : Nat → Nat} : ∀ k i i', (∀ j, j < k → p (i + j) = q (i' + j)) → prd p k i = prd q k i' := by
  intro k
  induction k with
  | zero => intro i i' _; rfl
  | succ k ih =>
    intro i i' h
    simp only [prd]
    rw [ih (i + 1) (i' + 1) (fun j hj => by rw [show i + 1 + j = i + (j + 1) by omega, show i' + 1 + j = i' + (j + 1) by omega]; exact h (j + 1) (by omega))]
    have := h 0 (by omega)
    simp only [Nat.add_zero] at this
    rw [this]
def cap (a : Nat) : Nat := if a ≤ 300 then a else 301
/-- the product of the places from field i on -/
def prF (τ : nI2) (π : nN2) (c i : Nat) : Nat := prd (pl τ c) (lnn τ c - bgn τ π c i) (bgn τ π c i)
theorem prF_end {n c : Nat} (hP : WP n τ π) (hc : c ≤ n) : prF τ π c (zz τ c) = 1 := by
  unfold prF
  rw [(hP.lnn hc).1, Nat.sub_self]; rfl
theorem prF_step {n c i : Nat} (hP : WP n τ π) (hQ : WQ n τ π) (hc : c ≤ n) (hi : i < zz τ c) : prF τ π c i = (if π (3, c, i) = 0 then (if (τ (10, c, i)).toNatClampNeg = 0 then 1 else (τ (10, c, i)).toNatClampNeg) else prF τ π (rf π c i) 0) * prF τ π c (i + 1) := by
  have hl := (hP.lnn hc).1
  have h1 : bgn τ π c (i + 1) = bgn τ π c i + pcs τ π c i := rfl
  have h2 : bgn τ π c (i + 1) ≤ bgn τ π c (zz τ c) := bgn_le (by omega)
  have e : lnn τ c - bgn τ π c i = pcs τ π c i + (lnn τ c - bgn τ π c (i + 1)) := by omega
  obtain ⟨q1, q2⟩ := hQ c hc i hi
  unfold prF
  rw [e, prd_split, ← h1]
  congr 1
  by_cases q : π (3, c, i) = 0
  · rw [if_pos q]
    have hp : pcs τ π c i = 1 := if_pos q
    rw [hp]
    simp only [prd, Nat.mul_one]
    unfold pl
    rw [(q1 q).1]
  · rw [if_neg q]
    have hp : pcs τ π c i = lnn τ (rf π c i) := if_neg q
    rw [hp]
    refine prd_congr _ _ _ fun j hj => ?_
    unfold pl
    rw [q2 q j (by omega)]
    simp only [bgn, Nat.zero_add]
theorem prF_pos {c i : Nat} : 0 < prF τ π c i := prd_pos _ _
theorem cap_mul {A k : Nat} (hA : 0 < A) (hk : 0 < k) : (cap A * k ≤ 300 → cap A * k = cap (A * k)) ∧ (¬ cap A * k ≤ 300 → 301 = cap (A * k)) := by
  unfold cap
  by_cases e : A ≤ 300
  · rw [if_pos e]
    exact ⟨fun h => (if_pos h).symm, fun h => (if_neg h).symm⟩
  · rw [if_neg e]
    have h1 : 301 ≤ A * k := Nat.le_trans (by omega) (Nat.le_mul_of_pos_right A hk)
    have h2 : 301 ≤ 301 * k := Nat.le_mul_of_pos_right 301 hk
    exact ⟨fun h => by omega, fun _ => by rw [if_neg (by omega)]⟩
theorem m_smallS (hK : WK n cnt τ π) (hP0 : WP n τ π) (hQ : WQ n τ π) (hV : V (9, 0, 0)) {σ0 : nI2} (R0 : Rel n cnt τ π σ0) (x0 : Int32) (P : Int32 → zM → Prop) :
    ∀ c, c ≤ n → ∀ k i, i + k = zz τ c → ∃ N, ∀ (d A n' : Nat) (σ : nI2) (M : zM), d + c ≤ 36 → 0 < A → zC V ad σ ρ ξ M → EQx σ σ0 → σ (17, 19, d) = nI (ix n c) → σ (17, 21, d) = nI i →
      (∀ σ' M', zC V ad σ' ρ ξ M' → EQx σ' σ0 → Blw d σ' σ → w_X6_small_18 (ad (9, 0, 0)) x0 P n' (nI (cap (A * prF τ π c i))) (nI d + (-1)) M') → w_X6_small_18 (ad (9, 0, 0)) x0 P (N + n') (nI (cap A)) (nI d) M := by
  have hn := hK.1.2.2.1
  have hW := hK.2.2
  have main : ∀ m c, c < m → c ≤ n → ∀ k i, i + k = zz τ c → ∃ N, ∀ (d A n' : Nat) (σ : nI2) (M : zM), d + c ≤ 36 → 0 < A → zC V ad σ ρ ξ M → EQx σ σ0 → σ (17, 19, d) = nI (ix n c) → σ (17, 21, d) = nI i →
      (∀ σ' M', zC V ad σ' ρ ξ M' → EQx σ' σ0 → Blw d σ' σ → w_X6_small_18 (ad (9, 0, 0)) x0 P n' (nI (cap (A * prF τ π c i))) (nI d + (-1)) M') → w_X6_small_18 (ad (9, 0, 0)) x0 P (N + n') (nI (cap A)) (nI d) M := by
    intro m
    induction m with
    | zero => intro c h; omega
    | succ m ihm =>
      intro c hcm hc k
      have z5 := (hW c hc).1.2
      have i36 := ix_le (c := c) hn
      induction k with
      | zero =>
        intro i hi
        refine ⟨1, fun d A n' σ M hd hA h E h19 h21 hk => ?_⟩
        obtain ⟨r1, r2, r3⟩ := (R0.of E).2.1 c hc
        rw [Nat.add_comm]
        refine br_f (nI_pos (by omega)) (m_r h hV 19 (a_i h hV 19 d rfl (show d < 40 by omega) (m_r h hV 21 (a_i h hV 21 d rfl (show d < 40 by omega) (m_r h hV 7 ?_)))))
        rw [h19, h21]
        refine a_i h hV 7 (ix n c) rfl (show ix n c < 37 by omega) ?_
        rw [r1]
        refine ⟨fun e => absurd (by rw [show i = zz τ c by omega]) e, fun _ => ?_⟩
        have := hk σ M h E Blw.refl
        rw [show i = zz τ c by omega, prF_end hP0 hc, Nat.mul_one] at this
        exact this
      | succ k ihk =>
        intro i hi
        obtain ⟨N1, hN1⟩ := ihk (i + 1) (by omega)
        have hps := prF_step hP0 hQ hc (show i < zz τ c by omega)
        have b1 : 5 * ix n c + i < 185 := by omega
        have x1 : (5 : Int32) * nI (ix n c) + nI i = nI (5 * ix n c + i) := n_ma 5 _ _
        obtain ⟨g1, g2, g3⟩ := (hW c hc).2 i (by omega)
        by_cases q : π (3, c, i) = 0
        · -- a field of one number
          rw [if_pos q] at hps
          refine ⟨1 + N1, fun d A n' σ M hd hA h E h19 h21 hk => ?_⟩
          obtain ⟨r1, r2, r3⟩ := (R0.of E).2.1 c hc
          obtain ⟨⟨-, f2, -⟩, -, fT⟩ := r3 i (by omega)
          rw [show 1 + N1 + n' = (N1 + n') + 1 by omega]
          refine br_f (nI_pos (by omega)) (m_r h hV 19 (a_i h hV 19 d rfl (show d < 40 by omega) (m_r h hV 21 (a_i h hV 21 d rfl (show d < 40 by omega) (m_r h hV 7 ?_)))))
          rw [h19, h21]
          refine a_i h hV 7 (ix n c) rfl (show ix n c < 37 by omega) ?_
          rw [r1]
          refine ⟨fun _ => m_r h hV 21 (a_i h hV 21 d rfl (show d < 40 by omega) (m_r h hV 21 (a_i h hV 21 d rfl (show d < 40 by omega) ?_))), fun e => absurd ((nI_eq (by omega) (by omega)).1 e) (by omega)⟩
          rw [h21, nI_1, x1]
          refine st_i h hV 21 d rfl (show d < 40 by omega) fun M1 h1 => ?_
          have E1 : EQx (up σ (17, 21, d) (nI (i + 1))) σ0 := (EQx.up (scr_k (by decide))).trans E
          have u2 : up σ (17, 21, d) (nI (i + 1)) (17, 2, 5 * ix n c + i) = τ (9, c, i) := (up_n _ _ (fun e => by cases e)).trans f2
          have u3 : up σ (17, 21, d) (nI (i + 1)) (17, 3, 5 * ix n c + i) = σ (17, 3, 5 * ix n c + i) := up_n _ _ (fun e => by cases e)
          have go : ∀ s : Nat, s ≤ 4 → (if (τ (10, c, i)).toNatClampNeg = 0 then 1 else (τ (10, c, i)).toNatClampNeg) = s → w_X6_small_154 (ad (9, 0, 0)) x0 P (w_X6_small_18 (ad (9, 0, 0)) x0 P (N1 + n')) (nI d) (nI s) (nI (cap A)) M1 := fun s hs4 hs => by
            have hs0 : 0 < s := by rw [← hs]; split <;> omega
            have hcap : cap A ≤ 301 := by unfold cap; split <;> omega
            have hb : cap A * s ≤ 301 * 4 := Nat.mul_le_mul hcap hs4
            obtain ⟨c1, c2⟩ := cap_mul hA hs0
            have fin : w_X6_small_18 (ad (9, 0, 0)) x0 P (N1 + n') (nI (cap (A * s))) (nI d) M1 := by
              refine hN1 d (A * s) n' _ M1 hd (Nat.mul_pos hA hs0) h1 E1 ((up_n _ _ (fun e => by cases e)).trans h19) (up_s _ _ _) fun σ' M' h' E' B' => ?_
              have := hk σ' M' h' E' (B'.trans (Blw.up (Or.inl (Nat.le_refl d))))
              rw [hps, hs, ← Nat.mul_assoc] at this
              exact this
            unfold w_X6_small_154 w_X6_small_170 w_X6_small_171
            rw [pk_mul]
            refine ⟨fun e => ?_, fun e => ?_⟩
            · have e1 := (nI_leI (b := 300) (by omega) (by omega)).1 e
              rw [c1 e1]; exact fin
            · have e1 : ¬ cap A * s ≤ 300 := fun q => e (nI_le (b := 300) q (by omega))
              rw [show (301 : Int32) = nI 301 from rfl, c2 e1]; exact fin
          refine m_r h1 hV 2 (a_i h1 hV 2 _ rfl b1 ?_)
          rw [u2]
          have n4 : ¬ τ (9, c, i) = 4 := fun e => g2.1 e q
          refine ⟨fun _ => m_r h1 hV 2 (a_i h1 hV 2 _ rfl b1 ?_), fun e => absurd e n4⟩
          rw [u2]
          refine ⟨fun e2 => m_r h1 hV 2 (a_i h1 hV 2 _ rfl b1 ?_), fun e2 => ?_⟩
          · rw [u2]
            refine ⟨fun e3 => ?_, fun e3 => m_r h1 hV 3 (a_i h1 hV 3 _ rfl b1 ?_)⟩
            · refine go 1 (by omega) ?_
              have : τ (10, c, i) = 0 := by
                rcases fT with w | w | w
                · exact absurd w.1 n4
                · exact absurd w.1 e3
                · rw [w.2.2.1, if_neg e2]
              rw [this]; rfl
            · obtain ⟨d1, d, d2, d3, d4⟩ := fT.r3 e3
              rw [u3, d4]
              refine go d d3 ?_
              rw [← d1, d4, nI_clamp (by omega), if_neg (by omega)]
          · refine go 2 (by omega) ?_
            have : τ (10, c, i) = 2 := by
              rcases fT with w | w | w
              · exact absurd w.1 n4
              · rw [w.1] at e2; exact absurd e2 (by decide)
              · rw [w.2.2.1, if_pos e2]
            rw [this]; decide
        · -- a record
          rw [if_neg q] at hps
          have hlt := g3 q
          obtain ⟨N2, hN2⟩ := ihm (rf π c i) (by omega) (by omega) (zz τ (rf π c i)) 0 (by omega)
          refine ⟨1 + N2 + N1, fun d A n' σ M hd hA h E h19 h21 hk => ?_⟩
          obtain ⟨r1, r2, r3⟩ := (R0.of E).2.1 c hc
          obtain ⟨⟨-, f2, -⟩, -, fT⟩ := r3 i (by omega)
          have t4 := g2.2 q
          obtain ⟨s, v, a1, a2, a3, a4, a5, a6⟩ := fT.r4 t4
          have ra : rf π c i = π (2, s, v) := by unfold rf; omega
          rw [show 1 + N2 + N1 + n' = (N2 + (N1 + n')) + 1 by omega]
          refine br_f (nI_pos (by omega)) (m_r h hV 19 (a_i h hV 19 d rfl (show d < 40 by omega) (m_r h hV 21 (a_i h hV 21 d rfl (show d < 40 by omega) (m_r h hV 7 ?_)))))
          rw [h19, h21]
          refine a_i h hV 7 (ix n c) rfl (show ix n c < 37 by omega) ?_
          rw [r1]
          refine ⟨fun _ => m_r h hV 21 (a_i h hV 21 d rfl (show d < 40 by omega) (m_r h hV 21 (a_i h hV 21 d rfl (show d < 40 by omega) ?_))), fun e => absurd ((nI_eq (by omega) (by omega)).1 e) (by omega)⟩
          rw [h21, nI_1, x1, nI_1]
          refine st_i h hV 21 d rfl (show d < 40 by omega) fun M1 h1 => ?_
          have E1 : EQx (up σ (17, 21, d) (nI (i + 1))) σ0 := (EQx.up (scr_k (by decide))).trans E
          have u2 : up σ (17, 21, d) (nI (i + 1)) (17, 2, 5 * ix n c + i) = τ (9, c, i) := (up_n _ _ (fun e => by cases e)).trans f2
          have u3 : up σ (17, 21, d) (nI (i + 1)) (17, 3, 5 * ix n c + i) = nI (10 * s + v) := (up_n _ _ (fun e => by cases e)).trans a3
          refine m_r h1 hV 2 (a_i h1 hV 2 _ rfl b1 ?_)
          rw [u2]
          refine ⟨fun e => absurd t4 e, fun _ => m_r h1 hV 19 (m_r h1 hV 3 (a_i h1 hV 3 _ rfl b1 ⟨g_is h1 hV rfl, ?_⟩))⟩
          rw [u3]
          refine m_schemaOf h1 hV (R0.of E1) a1 a2 (hK.2.1 s a1).2.1 (st_i h1 hV 19 (d + 1) rfl (show d + 1 < 40 by omega) fun M2 h2 => m_r h2 hV 21 (st_i h2 hV 21 (d + 1) rfl (show d + 1 < 40 by omega) fun M3 h3 => ?_))
          generalize hσ3 : up (up (up σ (17, 21, d) (nI (i + 1))) (17, 19, d + 1) (nI (π (2, s, v)))) (17, 21, d + 1) 0 = σ3 at h3
          have E3 : EQx σ3 σ0 := by rw [← hσ3]; exact (EQx.up (scr_k (by decide))).trans ((EQx.up (scr_k (by decide))).trans E1)
          have B3 : Blw d σ3 σ := by rw [← hσ3]; exact (Blw.up (Or.inl (by omega))).trans ((Blw.up (Or.inl (by omega))).trans (Blw.up (Or.inl (by omega))))
          have s19 : σ3 (17, 19, d + 1) = nI (ix n (rf π c i)) := by rw [← hσ3, up_n _ _ (fun e => by cases e), up_s, ix_c (by omega), ra]
          have s21 : σ3 (17, 21, d + 1) = nI 0 := by rw [← hσ3]; exact up_s _ _ _
          have t19 : σ3 (17, 19, d) = nI (ix n c) := by rw [← hσ3, up_n _ _ (fun e => by cases e), up_n _ _ (fun e => by have := congrArg (fun w : nm => w.2.2) e; simp only at this; omega), up_n _ _ (fun e => by cases e), h19]
          have t21 : σ3 (17, 21, d) = nI (i + 1) := by rw [← hσ3, up_n _ _ (fun e => by have := congrArg (fun w : nm => w.2.2) e; simp only at this; omega), up_n _ _ (fun e => by cases e), up_s]
          refine hN2 (d + 1) A (N1 + n') σ3 M3 (by omega) hA h3 E3 s19 s21 fun σ4 M4 h4 E4 B4 => ?_
          rw [pk_m1]
          obtain ⟨b19, b21, -⟩ := B4 d (by omega)
          refine hN1 d (A * prF τ π (rf π c i) 0) n' σ4 M4 hd (Nat.mul_pos hA prF_pos) h4 E4 (b19.trans t19) (b21.trans t21) fun σ5 M5 h5 E5 B5 => ?_
          have := hk σ5 M5 h5 E5 (B5.trans ((B4.less (by omega)).trans B3))
          rw [hps, ← Nat.mul_assoc] at this
          exact this
  intro c hc k i hi
  exact main (c + 1) c (by omega) hc k i hi
theorem m_small (h : zC V ad σ ρ ξ M) (hV : V (9, 0, 0)) (R : Rel n cnt τ π σ) (hK : WK n cnt τ π) (hP0 : WP n τ π) (hQ : WQ n τ π) {c : Nat} (hc : c ≤ n) {P : Int32 → zM → Prop} (hP : ∀ σ' M', EQx σ' σ → zC V ad σ' ρ ξ M' → P (nI (cap (prd (pl τ c) (lnn τ c) 0))) M') : w_X6_small (ad (9, 0, 0)) (nI (ix n c)) M P := by
  have hn := hK.1.2.2.1
  refine m_r h hV 19 (st_i h hV 19 0 rfl (show 0 < 40 by omega) fun M1 h1 => m_r h1 hV 21 (st_i h1 hV 21 0 rfl (show 0 < 40 by omega) fun M2 h2 => ?_))
  obtain ⟨N, hN⟩ := m_smallS (ad := ad) (ρ := ρ) (ξ := ξ) hK hP0 hQ hV R (nI (ix n c)) P c hc (zz τ c) 0 (by omega)
  refine ⟨N + 1, ?_⟩
  have E2 : EQx (up (up σ (17, 19, 0) (nI (ix n c))) (17, 21, 0) 0) σ := (EQx.up (scr_k (by decide))).trans (EQx.up (scr_k (by decide)))
  refine hN 0 1 1 _ M2 (by omega) (by omega) h2 E2 ((up_n _ _ (fun e => by cases e)).trans (up_s _ _ _)) (up_s _ _ _) fun σ' M' h' E' _ => ?_
  refine br_t (by decide) ?_
  rw [Nat.one_mul]
  have := hP σ' M' E' h'
  unfold prF
  simp only [bgn, Nat.sub_zero]
  exact this
