/-! ===== the pure part: the reference's check of a record ===== -/
variable {V V' : nm → Prop} {ad ad' : nm → Nat} {σ σ' τ : nI2} {ρ ρ' π : nN2} {ξ ξ' : Nat → zE} {M : zM} {x y w : nm} {n : Nat} {cnt : Nat → Nat}
theorem ofS_nI {v : Int32} {d : Nat} (hd : d ≤ 4) (hd0 : d ≠ 0) : ofS v (nI d) = true ↔ ∃ j, j < d ∧ v = nI j := by
  unfold ofS
  rw [show (nI d == 0) = false by simpa using nI_ne0 (by omega) (by omega), Bool.false_or, Bool.and_eq_true, Bool.not_eq_true', decide_eq_false_iff_not, decide_eq_true_eq]
  constructor
  · rintro ⟨h1, h2⟩
    obtain ⟨j, hj, rfl⟩ := nI_of h1
    exact ⟨j, (nI_ltI hj (by omega)).1 h2, rfl⟩
  · rintro ⟨j, hj, rfl⟩
    exact ⟨nI_pos (by omega), nI_lt hj (by omega)⟩
theorem m_isValue (h : zC V ad σ ρ ξ M) (hV : V (9, 0, 0)) (R : Rel n cnt τ π σ) (hK : WK n cnt τ π) {c i : Nat} (hc : c ≤ n) (hi : i < zz τ c) (hq : π (3, c, i) = 0) {v : Int32} {P : Int32 → zM → Prop} (hP : P (bI (ofS v (τ (10, c, i)))) M) : w_X6_isValue (ad (9, 0, 0)) (nI (5 * ix n c + i)) v M P := by
  have hn := hK.1.2.2.1
  obtain ⟨r1, r2, r3⟩ := R.2.1 c hc
  obtain ⟨⟨-, f2, -⟩, -, fT⟩ := r3 i hi
  obtain ⟨g1, g2, g3⟩ := (hK.2.2 c hc).2 i hi
  have z5 := (hK.2.2 c hc).1.2
  have i36 := ix_le (c := c) hn
  have b1 : 5 * ix n c + i < 185 := by omega
  have n4 : ¬ τ (9, c, i) = 4 := fun e => g2.1 e hq
  have k31 : ∀ d, d ≤ 4 → d ≠ 0 → τ (10, c, i) = nI d → ∀ hi', hi' = nI d - 1 → w_X6_isValue_31 (ad (9, 0, 0)) (nI (5 * ix n c + i)) v P hi' 0 v M := fun d d1 d2 d3 hi' hh => by
    have key := ofS_nI (v := v) d1 d2
    rw [d3] at hP
    refine m_inN (k := d) (by omega) hh (fun j hj hv => br_f (by decide) ?_) (fun hno => br_t rfl ?_)
    · rw [key.2 ⟨j, hj, hv⟩] at hP; exact hP
    · have e0 : ofS v (nI d) = false := Bool.eq_false_iff.2 (fun q => by obtain ⟨j, hj, hv⟩ := key.1 q; exact hno j hj hv)
      rw [e0] at hP; exact hP
  refine m_r h hV 2 (a_i h hV 2 _ rfl b1 ?_)
  rw [f2]
  rcases fT with w | w | w
  · exact absurd w.1 n4
  · obtain ⟨w1, d, w2, w3, w4, w5, -⟩ := w
    rw [w1]
    refine br_f (by decide) ⟨fun _ => m_r h hV 3 (a_i h hV 3 _ rfl b1 ?_), fun e => absurd e (by decide)⟩
    rw [w4]
    exact k31 d w3 (by omega) w5 _ rfl
  · obtain ⟨w1, w2, w3, -⟩ := w
    rcases w1 with q | q | q
    · rw [q, if_neg (by decide)] at w3
      rw [w3] at hP
      rw [q]; exact br_t (by decide) hP
    · rw [q, if_neg (by decide)] at w3
      rw [w3] at hP
      rw [q]; exact br_t (by decide) hP
    · rw [q, if_pos rfl] at w3
      rw [q]
      exact br_f (by decide) ⟨fun e => absurd rfl e, fun _ => k31 2 (by omega) (by omega) w3 1 (by decide)⟩
/-- the record fits schema c's places from place j on, read from b on -/
def Fit (τ : nI2) (g : Nat → Int32) (u c j b : Nat) : Prop := ∀ q, j ≤ q → q < lnn τ c → b + (q - j) < u ∧ ofS (g (b + (q - j))) (τ (5, 3 + c, q)) = true
theorem Fit_end {g : Nat → Int32} {u c b : Nat} (hP : WP n τ π) (hc : c ≤ n) : Fit τ g u c (bgn τ π c (zz τ c)) b := fun q h1 h2 => by
  rw [← (hP.lnn hc).1] at h1; omega
theorem Fit_1 {g : Nat → Int32} {u c b i : Nat} (hP : WP n τ π) (hQ : WQ n τ π) (hc : c ≤ n) (hi : i < zz τ c) (hq : π (3, c, i) = 0) : Fit τ g u c (bgn τ π c i) b ↔ (b < u ∧ ofS (g b) (τ (10, c, i)) = true) ∧ Fit τ g u c (bgn τ π c (i + 1)) (b + 1) := by
  have h1 : bgn τ π c (i + 1) = bgn τ π c i + pcs τ π c i := rfl
  have hp : pcs τ π c i = 1 := if_pos hq
  have h2 : bgn τ π c (i + 1) ≤ bgn τ π c (zz τ c) := bgn_le (by omega)
  have hl := (hP.lnn hc).1
  have hx := ((hQ c hc i hi).1 hq).1
  constructor
  · intro h
    refine ⟨?_, fun q q1 q2 => ?_⟩
    · have := h (bgn τ π c i) (Nat.le_refl _) (by omega)
      rw [Nat.sub_self, Nat.add_zero, hx] at this
      exact this
    · have := h q (by omega) q2
      rw [show b + 1 + (q - bgn τ π c (i + 1)) = b + (q - bgn τ π c i) by omega]
      exact this
  · rintro ⟨h3, h4⟩ q q1 q2
    by_cases e : q = bgn τ π c i
    · rw [e, Nat.sub_self, Nat.add_zero, hx]; exact h3
    · have := h4 q (by omega) q2
      rw [show b + 1 + (q - bgn τ π c (i + 1)) = b + (q - bgn τ π c i) by omega] at this
      exact this
theorem Fit_r {g : Nat → Int32} {u c b i : Nat} (hP : WP n τ π) (hQ : WQ n τ π) (hc : c ≤ n) (hi : i < zz τ c) (hq : π (3, c, i) ≠ 0) : Fit τ g u c (bgn τ π c i) b ↔ Fit τ g u (rf π c i) 0 b ∧ Fit τ g u c (bgn τ π c (i + 1)) (b + lnn τ (rf π c i)) := by
  have h1 : bgn τ π c (i + 1) = bgn τ π c i + pcs τ π c i := rfl
  have hp : pcs τ π c i = lnn τ (rf π c i) := if_neg hq
  have h2 : bgn τ π c (i + 1) ≤ bgn τ π c (zz τ c) := bgn_le (by omega)
  have hl := (hP.lnn hc).1
  have hx := (hQ c hc i hi).2 hq
  constructor
  · intro h
    refine ⟨fun q _ q2 => ?_, fun q q1 q2 => ?_⟩
    · have := h (bgn τ π c i + q) (by omega) (by omega)
      rw [hx q q2, show bgn τ π c i + q - bgn τ π c i = q - 0 by omega] at this
      exact this
    · have := h q (by omega) q2
      rw [show b + lnn τ (rf π c i) + (q - bgn τ π c (i + 1)) = b + (q - bgn τ π c i) by omega]
      exact this
  · rintro ⟨h3, h4⟩ q q1 q2
    by_cases e : q < bgn τ π c (i + 1)
    · have := h3 (q - bgn τ π c i) (Nat.zero_le _) (by omega)
      rw [← hx _ (by omega), show bgn τ π c i + (q - bgn τ π c i) = q by omega, Nat.sub_zero] at this
      exact this
    · have := h4 q (by omega) q2
      rw [show b + lnn τ (rf π c i) + (q - bgn τ π c (i + 1)) = b + (q - bgn τ π c i) by omega] at this
      exact this
theorem Fit_len {g : Nat → Int32} {u c b : Nat} (hb : b ≤ u) (h : Fit τ g u c 0 b) : b + lnn τ c ≤ u := by
  by_cases e : lnn τ c = 0
  · omega
  · have := (h (lnn τ c - 1) (by omega) (by omega)).1
    omega
theorem m_recS (hK : WK n cnt τ π) (hP0 : WP n τ π) (hQ : WQ n τ π) (hV : V (9, 0, 0)) {σ0 : nI2} (R0 : Rel n cnt τ π σ0) {u : Nat} (hu : σ0 (16, 16, 0) = nI u) (hu2 : u ≤ 20) (x0 : Int32) (P : Int32 → zM → Prop) :
    ∀ m c, c < m → c ≤ n → ∀ k i, i + k = zz τ c → ∃ N, ∀ (d b n' : Nat) (σ : nI2) (M : zM), d + c ≤ 36 → b ≤ u → zC V ad σ ρ ξ M → EQx σ σ0 → σ (17, 19, d) = nI (ix n c) → σ (17, 21, d) = nI i →
      (Fit τ (fun j => σ0 (17, 17, j)) u c (bgn τ π c i) b → ∀ σ' M', zC V ad σ' ρ ξ M' → EQx σ' σ0 → Blw d σ' σ → w_X6_isRecordOf_18 (ad (9, 0, 0)) x0 P n' (nI (b + (lnn τ c - bgn τ π c i))) (nI d + (-1)) M') →
      (¬ Fit τ (fun j => σ0 (17, 17, j)) u c (bgn τ π c i) b → ∀ σ' M', EQx σ' σ0 → zC V ad σ' ρ ξ M' → P 0 M') →
      w_X6_isRecordOf_18 (ad (9, 0, 0)) x0 P (N + n') (nI b) (nI d) M := by
  have hn := hK.1.2.2.1
  have hW := hK.2.2
  intro m
  induction m with
  | zero => intro c h; omega
  | succ m ihm =>
    intro c hcm hc k
    have z5 := (hW c hc).1.2
    have i36 := ix_le (c := c) hn
    have hlc := (hP0.lnn hc).1
    induction k with
    | zero =>
      intro i hi
      refine ⟨1, fun d b n' σ M hd hb h E h19 h21 hk _ => ?_⟩
      obtain ⟨r1, r2, r3⟩ := (R0.of E).2.1 c hc
      rw [Nat.add_comm]
      refine br_f (nI_pos (by omega)) (m_r h hV 19 (a_i h hV 19 d rfl (show d < 40 by omega) (m_r h hV 21 (a_i h hV 21 d rfl (show d < 40 by omega) (m_r h hV 7 ?_)))))
      rw [h19, h21]
      refine a_i h hV 7 (ix n c) rfl (show ix n c < 37 by omega) ?_
      rw [r1]
      obtain rfl : i = zz τ c := by omega
      refine ⟨fun e => absurd rfl e, fun _ => ?_⟩
      have := hk (Fit_end hP0 hc) σ M h E Blw.refl
      rw [← hlc, Nat.sub_self, Nat.add_zero] at this
      exact this
    | succ k ihk =>
      intro i hi
      obtain ⟨N1, hN1⟩ := ihk (i + 1) (by omega)
      have b1 : 5 * ix n c + i < 185 := by omega
      have x1 : (5 : Int32) * nI (ix n c) + nI i = nI (5 * ix n c + i) := n_ma 5 _ _
      obtain ⟨g1, g2, g3⟩ := (hW c hc).2 i (by omega)
      have hs1 : bgn τ π c (i + 1) = bgn τ π c i + pcs τ π c i := rfl
      have hs2 : bgn τ π c (i + 1) ≤ bgn τ π c (zz τ c) := bgn_le (by omega)
      by_cases q : π (3, c, i) = 0
      · have hp : pcs τ π c i = 1 := if_pos q
        have hF := fun b => Fit_1 (g := fun j => σ0 (17, 17, j)) (u := u) (b := b) hP0 hQ hc (show i < zz τ c by omega) q
        refine ⟨1 + N1, fun d b n' σ M hd hb h E h19 h21 hk hbad => ?_⟩
        obtain ⟨r1, r2, r3⟩ := (R0.of E).2.1 c hc
        obtain ⟨⟨-, f2, -⟩, -, fT⟩ := r3 i (by omega)
        rw [show 1 + N1 + n' = (N1 + n') + 1 by omega]
        refine br_f (nI_pos (by omega)) (m_r h hV 19 (a_i h hV 19 d rfl (show d < 40 by omega) (m_r h hV 21 (a_i h hV 21 d rfl (show d < 40 by omega) (m_r h hV 7 ?_)))))
        rw [h19, h21]
        refine a_i h hV 7 (ix n c) rfl (show ix n c < 37 by omega) ?_
        rw [r1]
        refine ⟨fun _ => m_r h hV 21 (a_i h hV 21 d rfl (show d < 40 by omega) (m_r h hV 21 (a_i h hV 21 d rfl (show d < 40 by omega) ?_))), fun e => absurd ((nI_eq (by omega) (by omega)).1 e) (by omega)⟩
        rw [h21, nI_1, x1]
        refine st_i h hV 21 d rfl (show d < 40 by omega) fun M1 h1 => ?_
        have E1 : EQx (up σ (17, 21, d) (nI (i + 1))) σ0 := (EQx.up (scr_k (by decide))).trans E
        have u2 : up σ (17, 21, d) (nI (i + 1)) (17, 2, 5 * ix n c + i) = τ (9, c, i) := (up_n _ _ (fun e => by cases e)).trans f2
        refine m_r h1 hV 2 (a_i h1 hV 2 _ rfl b1 ?_)
        rw [u2]
        refine ⟨fun _ => g_i h1 hV rfl rfl ?_, fun e => absurd q (g2.1 e)⟩
        have u16 : up σ (17, 21, d) (nI (i + 1)) (16, 16, 0) = nI u := (E1 _ (by simp [scr])).trans hu
        show (nI b = up σ (17, 21, d) (nI (i + 1)) (16, 16, 0) → P 0 M1) ∧ (¬ nI b = up σ (17, 21, d) (nI (i + 1)) (16, 16, 0) → _)
        rw [u16]
        refine ⟨fun e => hbad (fun hf => ?_) _ M1 E1 h1, fun e => ?_⟩
        · have e := (nI_eq (by omega) (by omega)).1 e
          have := ((hF b).1 hf).1.1
          omega
        · have hbu : b < u := Nat.lt_of_le_of_ne hb fun q => e (by rw [q])
          refine m_r h1 hV 17 (a_i h1 hV 17 b rfl (show b < 20 by omega) ⟨g_is h1 hV rfl, ?_⟩)
          rw [E1.col (k := 17) (by decide) (by decide)]
          refine m_isValue h1 hV (R0.of E1) hK hc (by omega) q (br_n (fun e2 => ?_) (fun e2 => ?_))
          · unfold w_X6_isRecordOf_144
            rw [nI_1]
            refine hN1 d (b + 1) n' _ M1 hd hbu h1 E1 ((up_n _ _ (fun e => by cases e)).trans h19) (up_s _ _ _) (fun hf σ' M' h' E' B' => ?_) (fun hf => hbad fun hf2 => hf ((hF b).1 hf2).2)
            have := hk ((hF b).2 ⟨⟨hbu, e2⟩, hf⟩) σ' M' h' E' (B'.trans (Blw.up (Or.inl (Nat.le_refl d))))
            rw [show b + (lnn τ c - bgn τ π c i) = b + 1 + (lnn τ c - bgn τ π c (i + 1)) by omega] at this
            exact this
          · exact hbad (fun hf => by have := ((hF b).1 hf).1.2; rw [e2] at this; cases this) _ M1 E1 h1
      · have hp : pcs τ π c i = lnn τ (rf π c i) := if_neg q
        have hF := fun b => Fit_r (g := fun j => σ0 (17, 17, j)) (u := u) (b := b) hP0 hQ hc (show i < zz τ c by omega) q
        have hlt := g3 q
        obtain ⟨N2, hN2⟩ := ihm (rf π c i) (by omega) (by omega) (zz τ (rf π c i)) 0 (by omega)
        refine ⟨1 + N2 + N1, fun d b n' σ M hd hb h E h19 h21 hk hbad => ?_⟩
        obtain ⟨r1, r2, r3⟩ := (R0.of E).2.1 c hc
        obtain ⟨⟨-, f2, -⟩, -, fT⟩ := r3 i (by omega)
        have t4 := g2.2 q
        obtain ⟨s, v, a1, a2, a3, a4, a5, a6⟩ := fT.r4 t4
        have ra : rf π c i = π (2, s, v) := by unfold rf; omega
        rw [show 1 + N2 + N1 + n' = (N2 + (N1 + n')) + 1 by omega]
        refine br_f (nI_pos (by omega)) (m_r h hV 19 (a_i h hV 19 d rfl (show d < 40 by omega) (m_r h hV 21 (a_i h hV 21 d rfl (show d < 40 by omega) (m_r h hV 7 ?_)))))
        rw [h19, h21]
        refine a_i h hV 7 (ix n c) rfl (show ix n c < 37 by omega) ?_
        rw [r1]
        refine ⟨fun _ => m_r h hV 21 (a_i h hV 21 d rfl (show d < 40 by omega) (m_r h hV 21 (a_i h hV 21 d rfl (show d < 40 by omega) ?_))), fun e => absurd ((nI_eq (by omega) (by omega)).1 e) (by omega)⟩
        rw [h21, x1]
        simp only [nI_1]
        refine st_i h hV 21 d rfl (show d < 40 by omega) fun M1 h1 => ?_
        have E1 : EQx (up σ (17, 21, d) (nI (i + 1))) σ0 := (EQx.up (scr_k (by decide))).trans E
        have u2 : up σ (17, 21, d) (nI (i + 1)) (17, 2, 5 * ix n c + i) = τ (9, c, i) := (up_n _ _ (fun e => by cases e)).trans f2
        have u3 : up σ (17, 21, d) (nI (i + 1)) (17, 3, 5 * ix n c + i) = nI (10 * s + v) := (up_n _ _ (fun e => by cases e)).trans a3
        refine m_r h1 hV 2 (a_i h1 hV 2 _ rfl b1 ?_)
        rw [u2]
        refine ⟨fun e => absurd t4 e, fun _ => m_r h1 hV 19 (m_r h1 hV 3 (a_i h1 hV 3 _ rfl b1 ⟨g_is h1 hV rfl, ?_⟩))⟩
        rw [u3]
        refine m_schemaOf h1 hV (R0.of E1) a1 a2 (hK.2.1 s a1).2.1 (st_i h1 hV 19 (d + 1) rfl (show d + 1 < 40 by omega) fun M2 h2 => m_r h2 hV 21 (st_i h2 hV 21 (d + 1) rfl (show d + 1 < 40 by omega) fun M3 h3 => ?_))
        generalize hσ3 : up (up (up σ (17, 21, d) (nI (i + 1))) (17, 19, d + 1) (nI (π (2, s, v)))) (17, 21, d + 1) 0 = σ3 at h3
        have E3 : EQx σ3 σ0 := by rw [← hσ3]; exact (EQx.up (scr_k (by decide))).trans ((EQx.up (scr_k (by decide))).trans E1)
        have B3 : Blw d σ3 σ := by rw [← hσ3]; exact (Blw.up (Or.inl (by omega))).trans ((Blw.up (Or.inl (by omega))).trans (Blw.up (Or.inl (by omega))))
        have s19 : σ3 (17, 19, d + 1) = nI (ix n (rf π c i)) := by rw [← hσ3, up_n _ _ (fun e => by cases e), up_s, ix_c (by omega), ra]
        have s21 : σ3 (17, 21, d + 1) = nI 0 := by rw [← hσ3]; exact up_s _ _ _
        have t19 : σ3 (17, 19, d) = nI (ix n c) := by rw [← hσ3, up_n _ _ (fun e => by cases e), up_n _ _ (fun e => by have := congrArg (fun w : nm => w.2.2) e; simp only at this; omega), up_n _ _ (fun e => by cases e), h19]
        have t21 : σ3 (17, 21, d) = nI (i + 1) := by rw [← hσ3, up_n _ _ (fun e => by have := congrArg (fun w : nm => w.2.2) e; simp only at this; omega), up_n _ _ (fun e => by cases e), up_s]
        unfold w_X6_isRecordOf_144
        refine hN2 (d + 1) b (N1 + n') σ3 M3 (by omega) hb h3 E3 s19 s21 (fun hf σ4 M4 h4 E4 B4 => ?_) (fun hf => hbad fun hf2 => hf ((hF b).1 hf2).1)
        rw [pk_m1]
        obtain ⟨b19, b21, -⟩ := B4 d (by omega)
        simp only [bgn] at hf
        rw [show bgn τ π (rf π c i) 0 = 0 from rfl, Nat.sub_zero]
        refine hN1 d (b + lnn τ (rf π c i)) n' σ4 M4 hd (Fit_len hb hf) h4 E4 (b19.trans t19) (b21.trans t21) (fun hf2 σ5 M5 h5 E5 B5 => ?_) (fun hf2 => hbad fun hf3 => hf2 ((hF b).1 hf3).2)
        have := hk ((hF b).2 ⟨hf, hf2⟩) σ5 M5 h5 E5 (B5.trans ((B4.less (by omega)).trans B3))
        rw [show b + (lnn τ c - bgn τ π c i) = b + lnn τ (rf π c i) + (lnn τ c - bgn τ π c (i + 1)) by omega] at this
        exact this
/-- whether the reference's record is one of schema c -/
def isRm (τ : nI2) (g : Nat → Int32) (c u : Nat) : Bool := u == lnn τ c && allR (fun j => ofS (g j) (τ (5, 3 + c, j))) u 0
theorem m_isRecordOf (h : zC V ad σ ρ ξ M) (hV : V (9, 0, 0)) (R : Rel n cnt τ π σ) (hK : WK n cnt τ π) (hP0 : WP n τ π) (hQ : WQ n τ π) {c u : Nat} (hc : c ≤ n) (hu : σ (16, 16, 0) = nI u) (hu2 : u ≤ 20) {P : Int32 → zM → Prop} (hP : ∀ σ' M', EQx σ' σ → zC V ad σ' ρ ξ M' → P (bI (isRm τ (fun j => σ (17, 17, j)) c u)) M') : w_X6_isRecordOf (ad (9, 0, 0)) (nI (ix n c)) M P := by
  have hn := hK.1.2.2.1
  have l20 := (hP0.lnn hc).2
  refine m_r h hV 19 (st_i h hV 19 0 rfl (show 0 < 40 by omega) fun M1 h1 => m_r h1 hV 21 (st_i h1 hV 21 0 rfl (show 0 < 40 by omega) fun M2 h2 => ?_))
  obtain ⟨N, hN⟩ := m_recS (ad := ad) (ρ := ρ) (ξ := ξ) hK hP0 hQ hV R hu hu2 (nI (ix n c)) P (c + 1) c (by omega) hc (zz τ c) 0 (by omega)
  refine ⟨N + 1, ?_⟩
  have E2 : EQx (up (up σ (17, 19, 0) (nI (ix n c))) (17, 21, 0) 0) σ := (EQx.up (scr_k (by decide))).trans (EQx.up (scr_k (by decide)))
  have B : isRm τ (fun j => σ (17, 17, j)) c u = true ↔ u = lnn τ c ∧ Fit τ (fun j => σ (17, 17, j)) u c 0 0 := by
    unfold isRm Fit
    rw [Bool.and_eq_true, beq_iff_eq, allR_iff]
    refine ⟨fun h => ⟨h.1, fun q q1 q2 => ?_⟩, fun h => ⟨h.1, fun q q1 q2 => ?_⟩⟩
    · rw [Nat.zero_add, Nat.sub_zero]
      exact ⟨by omega, h.2 q q1 (by omega)⟩
    · have := (h.2 q (Nat.zero_le _) (by omega)).2
      rw [Nat.zero_add, Nat.sub_zero] at this
      exact this
  refine hN 0 0 1 _ M2 (by omega) (Nat.zero_le u) h2 E2 ((up_n _ _ (fun e => by cases e)).trans (up_s _ _ _)) (up_s _ _ _) (fun hf σ' M' h' E' _ => ?_) (fun hf σ' M' E' h' => ?_)
  · refine br_t (by decide) (g_i h' hV rfl rfl ?_)
    have u16 : σ' (16, 16, 0) = nI u := (E' _ (by simp [scr])).trans hu
    have := hP σ' M' E' h'
    simp only [bgn, Nat.sub_zero, Nat.zero_add]
    show (¬ nI (lnn τ c) = σ' (16, 16, 0) → P 0 M') ∧ (nI (lnn τ c) = σ' (16, 16, 0) → P 1 M')
    rw [u16]
    refine ⟨fun e => ?_, fun e => ?_⟩
    · have e0 : isRm τ (fun j => σ (17, 17, j)) c u = false := Bool.eq_false_iff.2 (fun q => e (by rw [(B.1 q).1]))
      rw [e0] at this
      exact this
    · rw [B.2 ⟨((nI_eq (by omega) (by omega)).1 e).symm, hf⟩] at this
      exact this
  · have := hP σ' M' E' h'
    have e0 : isRm τ (fun j => σ (17, 17, j)) c u = false := Bool.eq_false_iff.2 (fun q => hf (B.1 q).2)
    rw [e0] at this
    exact this
