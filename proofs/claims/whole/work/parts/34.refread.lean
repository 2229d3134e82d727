/-! ===== the pure part: what the reference reads ===== -/
variable {V V' : nm → Prop} {ad ad' : nm → Nat} {σ σ' τ : nI2} {ρ ρ' π : nN2} {ξ ξ' : Nat → zE} {M : zM} {x y w : nm} {n : Nat} {cnt : Nat → Nat}
theorem m1_lt {j : Nat} (h : j < 2 ^ 31) : (-1 : Int32) < nI j := by
  rw [Int32.lt_iff_toInt_lt, nI_toInt h]
  have : (-1 : Int32).toInt = -1 := by decide
  omega
theorem m_in1 {p lo hi : Int32} {P : Int32 → zM → Prop} (h1 : ¬ p < lo → ¬ hi < p → P 1 M) (h2 : (p < lo ∨ hi < p) → P 0 M) : w_X6_in p lo hi M P :=
  ⟨fun e => h2 (Or.inl e), fun e => ⟨fun e2 => h2 (Or.inr e2), fun e2 => h1 e e2⟩⟩
/-- in 0 .. k-1 -/
theorem m_inN {p hi : Int32} {k : Nat} (hk : k < 2 ^ 31) (hh : hi = nI k - 1) {P : Int32 → zM → Prop} (h1 : ∀ j, j < k → p = nI j → P 1 M) (h2 : (∀ j, j < k → p ≠ nI j) → P 0 M) : w_X6_in p 0 hi M P := by
  have lt : ∀ j, j < 2 ^ 31 → (nI k - 1 < nI j ↔ k ≤ j) := fun j hj => by
    cases k with
    | zero => exact ⟨fun _ => Nat.zero_le j, fun _ => m1_lt hj⟩
    | succ k => rw [nI_pred, nI_ltI (by omega) hj]; omega
  refine m_in1 (fun e1 e2 => ?_) (fun e => h2 fun j hj q => ?_)
  · obtain ⟨j, hj, rfl⟩ := nI_of e1
    rw [hh, lt j hj] at e2
    exact h1 j (by omega) rfl
  · subst q
    rcases e with e | e
    · exact nI_pos (by omega) e
    · rw [hh, lt j (by omega)] at e; omega
theorem m_isSubject {p : Int32} {P : Int32 → zM → Prop} (h1 : ∀ s, s < 6 → p = nI s → P 1 M) (h2 : (∀ s, s < 6 → p ≠ nI s) → P 0 M) : w_X6_isSubject p M P := m_inN (k := 6) (by omega) (by decide) h1 h2
theorem n_6 (s v : Nat) : (6 : Int32) * nI s + nI v = nI (6 * s + v) := n_ma 6 s v
theorem st_3 {t : Int32} (h : t = 0 ∨ t = 1 ∨ t = 2) : (t + 1 = 3 ↔ t = 2) ∧ (t + 1 = 1 ↔ t = 0) ∧ (t + 1 = 2 ↔ t = 1) := by
  rcases h with rfl | rfl | rfl <;> decide
theorem m_isVersion (h : zC V ad σ ρ ξ M) (hV : V (9, 0, 0)) (R : Rel n cnt τ π σ) (hK : WK n cnt τ π) {s : Nat} (hs : s < 6) {p : Int32} {P : Int32 → zM → Prop} (h1 : ∀ v, p = nI v → v < cnt s → ¬ τ (2, s, v) = 2 → P 1 M) (h2 : (∀ v, p = nI v → v < cnt s → τ (2, s, v) = 2) → P 0 M) : w_X6_isVersion (ad (9, 0, 0)) (nI s) p M P := by
  obtain ⟨r1, r2, r3, r4, r5⟩ := R.2.2 s hs
  obtain ⟨k1, k2, k3⟩ := hK.2.1 s hs
  refine m_r h hV 13 (a_i h hV 13 s rfl (show s < 6 by omega) ?_)
  rw [r1]
  refine m_inN (k := cnt s) (by omega) rfl (fun v hv hp => br_f (by decide) ?_) (fun hno => br_t rfl (h2 fun v hp hv => absurd hp (hno v hv)))
  subst hp
  refine m_r h hV 12 (a_i h hV 12 (6 * s + v) (n_6 s v) (show 6 * s + v < 36 by omega) ?_)
  rw [(r2 v hv).2]
  have t3 := st_3 (k3 v hv).1
  exact ⟨fun e => h2 fun v' hp' hv' => by rw [← (nI_eq (by omega) (by omega)).1 hp']; exact t3.1.1 e, fun e => h1 v rfl hv fun q => e (t3.1.2 q)⟩
theorem m_thereAt (h : zC V ad σ ρ ξ M) (hV : V (9, 0, 0)) (R : Rel n cnt τ π σ) (hK : WK n cnt τ π) {s : Nat} (hs : s < 6) {p : Int32} {P : Int32 → zM → Prop} (h1 : ∀ v, p = nI v → v < cnt s → τ (2, s, v) = 0 → P 1 M) (h2 : (∀ v, p = nI v → v < cnt s → ¬ τ (2, s, v) = 0) → P 0 M) : zIs M (ad (9, 0, 0)) 7 ∧ w_X6_isThereAt (ad (9, 0, 0)) (nI s) p M P := by
  obtain ⟨r1, r2, r3, r4, r5⟩ := R.2.2 s hs
  obtain ⟨k1, k2, k3⟩ := hK.2.1 s hs
  refine ⟨g_is h hV rfl, g_is h hV rfl, m_isVersion h hV R hK hs (fun v hp hv hne => br_f (by decide) ?_) (fun hno => br_t rfl (h2 fun v hp hv e => ?_))⟩
  · subst hp
    refine m_r h hV 12 (a_i h hV 12 (6 * s + v) (n_6 s v) (show 6 * s + v < 36 by omega) ?_)
    rw [(r2 v hv).2]
    have t3 := st_3 (k3 v hv).1
    exact ⟨fun e => h2 fun v' hp' hv' => by rw [← (nI_eq (by omega) (by omega)).1 hp']; exact fun q => e (t3.2.1.2 q), fun e => h1 v rfl hv (t3.2.1.1 e)⟩
  · have := hno v hp hv
    rw [e] at this; exact absurd this (by decide)
theorem m_thereV (h : zC V ad σ ρ ξ M) (hV : V (9, 0, 0)) (R : Rel n cnt τ π σ) (hK : WK n cnt τ π) {s v : Nat} (hs : s < 6) (hv : v < cnt s) {P : Int32 → zM → Prop} (hP : P (bI (τ (2, s, v) == 0)) M) : zIs M (ad (9, 0, 0)) 7 ∧ w_X6_isThereAt (ad (9, 0, 0)) (nI s) (nI v) M P := by
  have k2 := (hK.2.1 s hs).2.1
  refine m_thereAt h hV R hK hs (fun v' hp hv' e => ?_) (fun hno => ?_)
  · have e1 := (nI_eq (by omega) (by omega)).1 hp
    rw [← e1] at e
    rw [show (τ (2, s, v) == 0) = true by simpa using e] at hP; exact hP
  · have e := hno v rfl hv
    rw [show (τ (2, s, v) == 0) = false by simpa using e] at hP; exact hP
theorem FT.det {c j d i : Nat} {D E : Int32} (h : FT cnt τ π c j D) (g : FT cnt τ π d i E) (e : τ (9, c, j) = τ (9, d, i)) : D = E ↔ τ (10, c, j) = τ (10, d, i) ∧ τ (12, c, j) = τ (12, d, i) := by
  rcases h with ⟨h1, s, v, a1, a2, a3, a4, a5, a6⟩ | ⟨h1, k, a1, a2, a3, a4, a5, a6⟩ | ⟨h1, a1, a2, a3, a4⟩
  · obtain ⟨s', v', b1, b2, b3, b4, b5, b6⟩ := g.r4 (e.symm.trans h1)
    rw [a3, b3, a6, b6, a4, b4]
    exact ⟨fun q => ⟨rfl, q⟩, fun q => q.2⟩
  · rcases g with ⟨g1, -⟩ | ⟨g1, k', b1, b2, b3, b4, b5, b6⟩ | ⟨g1, -⟩
    · rw [h1, g1] at e; exact absurd e (by decide)
    · rw [a3, b3, a4, b4, a5, b5]; exact ⟨fun q => ⟨q, rfl⟩, fun q => q.1⟩
    · rcases g1 with q | q | q <;> rw [h1, q] at e <;> exact absurd e (by decide)
  · rcases g with ⟨g1, -⟩ | ⟨g1, -⟩ | ⟨g1, b1, b2, b3, b4⟩
    · rcases h1 with q | q | q <;> rw [q, g1] at e <;> exact absurd e (by decide)
    · rcases h1 with q | q | q <;> rw [q, g1] at e <;> exact absurd e (by decide)
    · rw [a1, b1, a2, b2, a3, b3, e]; exact ⟨fun _ => ⟨rfl, rfl⟩, fun _ => rfl⟩
theorem m_isLike (h : zC V ad σ ρ ξ M) (hV : V (9, 0, 0)) (R : Rel n cnt τ π σ) (hK : WK n cnt τ π) {c : Nat} (hc : c ≤ n) {P : Int32 → zM → Prop} (hP : P (bI (likeS τ c n)) M) : w_X6_isLike (ad (9, 0, 0)) (nI (ix n c)) M P := by
  have hn := hK.1.2.2.1
  have hW := hK.2.2
  obtain ⟨r1, r2, r3⟩ := R.2.1 c hc
  obtain ⟨q1, q2, q3⟩ := R.2.1 n (Nat.le_refl n)
  rw [ix_n] at q1 q2 q3
  have z5 := (hW c hc).1.2
  have z5' := (hW n (Nat.le_refl n)).1.2
  have i36 := ix_le (c := c) hn
  unfold likeS at hP
  refine m_r h hV 7 (a_i h hV 7 (ix n c) rfl (show ix n c < 37 by omega) (m_r h hV 7 (a_i h hV 7 36 rfl (show 36 < 37 by omega) ?_)))
  rw [r1, q1]
  refine ⟨fun e => ?_, fun e => ?_⟩
  · have e := (nI_eq (by omega) (by omega)).1 e
    rw [show (zz τ c == zz τ n) = true by simpa using e, Bool.true_and] at hP
    have key : ∀ k i, i + k = zz τ c → P (bI (allR (likeF τ c n) k i)) M → w_X6_isLike_20 (ad (9, 0, 0)) (nI (ix n c)) P (k + 1) (nI i) M := by
      intro k
      induction k with
      | zero =>
        intro i hi hp
        refine m_r h hV 7 (a_i h hV 7 (ix n c) rfl (show ix n c < 37 by omega) ?_)
        rw [r1]
        exact br_t (nI_le (by omega) (by omega)) hp
      | succ k ih =>
        intro i hi hp
        unfold allR at hp
        obtain ⟨⟨f1, f2, f4, f5, f6⟩, -, fT⟩ := r3 i (by omega)
        obtain ⟨⟨g1, g2, g4, g5, g6⟩, -, gT⟩ := q3 i (by omega)
        have b1 : 5 * ix n c + i < 185 := by omega
        have b2 : 180 + i < 185 := by omega
        have x1 : (5 : Int32) * nI (ix n c) + nI i = nI (5 * ix n c + i) := n_ma 5 _ _
        have x2 : (180 : Int32) + nI i = nI (180 + i) := nI_add 180 i
        have dT := fT.det gT
        refine m_r h hV 7 (a_i h hV 7 (ix n c) rfl (show ix n c < 37 by omega) ?_)
        rw [r1, x1, x2]
        have bad : likeF τ c n i = false → P 0 M := fun e => by rw [e, Bool.false_and] at hp; exact hp
        have neg : likeF τ c n i = false → w_X6_isLike_111 (ad (9, 0, 0)) (nI (ix n c)) P (w_X6_isLike_20 (ad (9, 0, 0)) (nI (ix n c)) P (k + 1)) (nI i) (nI (5 * ix n c + i)) (nI (180 + i)) M := fun e => br_t rfl (bad e)
        refine br_f (nI_ge (by omega) (by omega)) (m_r h hV 1 (a_i h hV 1 _ rfl b1 (m_r h hV 1 (a_i h hV 1 _ rfl b2 ?_))))
        rw [f1, show σ (17, 1, 180 + i) = τ (8, n, i) from g1]
        refine ⟨fun e1 => neg (by unfold likeF; rw [show (τ (8, c, i) == τ (8, n, i)) = false by simpa using e1]; rfl), fun e1 => m_r h hV 2 (a_i h hV 2 _ rfl b1 (m_r h hV 2 (a_i h hV 2 _ rfl b2 ?_)))⟩
        rw [f2, show σ (17, 2, 180 + i) = τ (9, n, i) from g2]
        refine ⟨fun e2 => neg (by unfold likeF; rw [show (τ (9, c, i) == τ (9, n, i)) = false by simpa using e2]; simp), fun e2 => m_r h hV 3 (a_i h hV 3 _ rfl b1 (m_r h hV 3 (a_i h hV 3 _ rfl b2 ?_)))⟩
        refine ⟨fun e3 => neg ?_, fun e3 => m_r h hV 4 (a_i h hV 4 _ rfl b1 (m_r h hV 4 (a_i h hV 4 _ rfl b2 ?_)))⟩
        · have e3 : ¬ (τ (10, c, i) = τ (10, n, i) ∧ τ (12, c, i) = τ (12, n, i)) := fun q => e3 ((dT e2).2 q)
          unfold likeF
          by_cases e4 : τ (10, c, i) = τ (10, n, i)
          · have e5 : ¬ τ (12, c, i) = τ (12, n, i) := fun q => e3 ⟨e4, q⟩
            rw [show (τ (12, c, i) == τ (12, n, i)) = false by simpa using e5]; simp
          · rw [show (τ (10, c, i) == τ (10, n, i)) = false by simpa using e4]; simp
        · obtain ⟨d1, d2⟩ := (dT e2).1 e3
          rw [f4, show σ (17, 4, 180 + i) = τ (11, n, i) from g4]
          refine ⟨fun e4 => neg (by unfold likeF; rw [show (τ (11, c, i) == τ (11, n, i)) = false by simpa using e4]; simp), fun e4 => br_f (by decide) (m_r h hV 5 (a_i h hV 5 _ rfl b1 (m_r h hV 5 (a_i h hV 5 _ rfl b2 ?_))))⟩
          rw [f5, show σ (17, 5, 180 + i) = τ (14, n, i) from g5]
          refine ⟨fun e5 => bad (by unfold likeF; rw [show (τ (14, c, i) == τ (14, n, i)) = false by simpa using e5]; simp), fun e5 => m_r h hV 6 (a_i h hV 6 _ rfl b1 (m_r h hV 6 (a_i h hV 6 _ rfl b2 ?_)))⟩
          rw [f6, show σ (17, 6, 180 + i) = τ (15, n, i) from g6]
          refine ⟨fun e6 => ?_, fun e6 => bad (by unfold likeF; rw [show (τ (15, c, i) == τ (15, n, i)) = false by simpa using e6]; simp)⟩
          rw [nI_1]
          refine ih (i + 1) (by omega) ?_
          have : likeF τ c n i = true := by
            unfold likeF
            have e1 : τ (8, c, i) = τ (8, n, i) := e1
            rw [e1, e2, d1, d2, e4, e5, e6]; simp
          rw [this, Bool.true_and] at hp
          exact hp
    exact ⟨zz τ c + 1, key (zz τ c) 0 (by omega) hP⟩
  · have e : ¬ zz τ c = zz τ n := fun q => e (by rw [q])
    rw [show (zz τ c == zz τ n) = false by simpa using e, Bool.false_and] at hP
    exact hP
theorem m_likeVersion (h : zC V ad σ ρ ξ M) (hV : V (9, 0, 0)) (R : Rel n cnt τ π σ) (hK : WK n cnt τ π) {s : Nat} (hs : s < 6) {P : Int32 → zM → Prop} (hP : P (nJ (lowS τ π s (cnt s) n)) M) : w_X6_likeVersion (ad (9, 0, 0)) (nI s) M P := by
  obtain ⟨r1, r2, r3, r4, r5⟩ := R.2.2 s hs
  obtain ⟨k1, k2, k3⟩ := hK.2.1 s hs
  have key : ∀ k i, i + k = cnt s → P (nJ (lk (fun v => τ (2, s, v) == 0 && likeS τ (π (2, s, v)) n) k i)) M → w_X6_likeVersion_2 (ad (9, 0, 0)) (nI s) P (k + 1) (nI i) M := by
    intro k
    induction k with
    | zero =>
      intro i hi hp
      refine m_r h hV 13 (a_i h hV 13 s rfl (show s < 6 by omega) ?_)
      rw [r1]
      exact br_t (nI_le (by omega) (by omega)) hp
    | succ k ih =>
      intro i hi hp
      unfold lk at hp
      refine m_r h hV 13 (a_i h hV 13 s rfl (show s < 6 by omega) ?_)
      rw [r1]
      unfold w_X6_likeVersion_41
      rw [nI_1]
      refine br_f (nI_ge (by omega) (by omega)) (m_thereV h hV R hK hs (by omega) (br_b (fun e => ?_) (fun e => ?_)))
      · rw [e, Bool.false_and, if_neg (by decide)] at hp
        exact ih (i + 1) (by omega) hp
      · refine m_r h hV 11 (a_i h hV 11 (6 * s + i) (n_6 s i) (show 6 * s + i < 36 by omega) ⟨g_is h hV rfl, ?_⟩)
        have hlt := (k3 i (by omega)).2
        rw [(r2 i (by omega)).1, show nI (π (2, s, i)) = nI (ix n (π (2, s, i))) by rw [ix_c hlt]]
        refine m_isLike h hV R hK (by omega) (br_b (fun e2 => ?_) (fun e2 => ?_))
        · rw [e2, Bool.and_false, if_neg (by decide)] at hp
          exact ih (i + 1) (by omega) hp
        · rw [e, e2, Bool.and_true, if_pos rfl] at hp
          exact hp
  exact ⟨cnt s + 1, key (cnt s) 0 (by omega) hP⟩
