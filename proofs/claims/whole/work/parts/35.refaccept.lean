/-! ===== the pure part: references and acceptance in the reference ===== -/
variable {V V' : nm → Prop} {ad ad' : nm → Nat} {σ σ' τ : nI2} {ρ ρ' π : nN2} {ξ ξ' : Nat → zE} {M : zM} {x y w : nm} {n : Nat} {cnt : Nat → Nat}
theorem m_refers (h : zC V ad σ ρ ξ M) (hV : V (9, 0, 0)) (R : Rel n cnt τ π σ) (hK : WK n cnt τ π) {c d : Nat} (hc : c ≤ n) (hd : d < 2 ^ 31) {P : Int32 → zM → Prop} (hP : P (bI (refS τ c (nI d))) M) : w_X6_refers (ad (9, 0, 0)) (nI (ix n c)) (nI d) M P := by
  have hn := hK.1.2.2.1
  obtain ⟨r1, r2, r3⟩ := R.2.1 c hc
  have z5 := (hK.2.2 c hc).1.2
  have i36 := ix_le (c := c) hn
  have key : ∀ k i, i + k = zz τ c → P (bI (anyR (fun j => τ (12, c, j) == nI d) k i)) M → w_X6_refers_2 (ad (9, 0, 0)) (nI (ix n c)) (nI d) P (k + 1) (nI i) M := by
    intro k
    induction k with
    | zero =>
      intro i hi hp
      refine m_r h hV 7 (a_i h hV 7 (ix n c) rfl (show ix n c < 37 by omega) ?_)
      rw [r1]
      exact br_t (nI_le (by omega) (by omega)) hp
    | succ k ih =>
      intro i hi hp
      rw [anyR_s] at hp
      obtain ⟨⟨-, f2, -⟩, -, fT⟩ := r3 i (by omega)
      have b1 : 5 * ix n c + i < 185 := by omega
      have x1 : (5 : Int32) * nI (ix n c) + nI i = nI (5 * ix n c + i) := n_ma 5 _ _
      refine m_r h hV 7 (a_i h hV 7 (ix n c) rfl (show ix n c < 37 by omega) ?_)
      rw [r1, x1]
      unfold w_X6_refers_42
      rw [nI_1]
      refine br_f (nI_ge (by omega) (by omega)) (m_r h hV 2 (a_i h hV 2 _ rfl b1 ?_))
      rw [f2]
      refine ⟨fun e => ?_, fun e => m_r h hV 3 (a_i h hV 3 _ rfl b1 ?_)⟩
      · have : τ (12, c, i) = -1 := by
          rcases fT with q | q | q
          · exact absurd q.1 e
          · obtain ⟨-, k, -, -, -, -, q, -⟩ := q; exact q
          · exact q.2.2.2.1
        rw [this, show ((-1 : Int32) == nI d) = false by simpa using fun q : (-1 : Int32) = nI d => nI_m1 hd q.symm, Bool.false_or] at hp
        exact ih (i + 1) (by omega) hp
      · obtain ⟨s, v, a1, a2, a3, a4, -⟩ := fT.r4 e
        rw [a4] at hp
        rw [a3]
        refine ⟨fun e2 => ?_, fun e2 => ?_⟩
        · rw [show (nI (10 * s + v) == nI d) = false by simpa using e2, Bool.false_or] at hp
          exact ih (i + 1) (by omega) hp
        · rw [show (nI (10 * s + v) == nI d) = true by simpa using e2, Bool.true_or] at hp
          exact hp
  exact ⟨zz τ c + 1, key (zz τ c) 0 (by omega) hP⟩
def refK (cnt : Nat → Nat) (τ : nI2) (π : nN2) (p : Int32) (k : Nat) : Bool := decide (k % 6 < cnt (k / 6)) && (τ (2, k / 6, k % 6) != 2 && refS τ (π (2, k / 6, k % 6)) p)
theorem refK_any {p : Int32} (hc6 : ∀ s, s < 6 → cnt s ≤ 6) : anyR (refK cnt τ π p) 36 0 = anyR (fun s => refB τ π s (cnt s) p) 6 0 := by
  rw [Bool.eq_iff_iff, anyR_iff, anyR_iff]
  constructor
  · rintro ⟨k, -, hk, h⟩
    unfold refK at h
    simp only [Bool.and_eq_true, decide_eq_true_eq] at h
    refine ⟨k / 6, Nat.zero_le _, by omega, ?_⟩
    unfold refB
    rw [anyR_iff]
    exact ⟨k % 6, Nat.zero_le _, by omega, by rw [Bool.and_eq_true]; exact h.2⟩
  · rintro ⟨s, -, hs, h⟩
    unfold refB at h
    rw [anyR_iff] at h
    obtain ⟨v, -, hv, h⟩ := h
    have h6 := hc6 s (by omega)
    refine ⟨6 * s + v, Nat.zero_le _, by omega, ?_⟩
    unfold refK
    rw [show (6 * s + v) % 6 = v by omega, show (6 * s + v) / 6 = s by omega, decide_eq_true (by omega), Bool.true_and]
    exact h
theorem m_isReferred (h : zC V ad σ ρ ξ M) (hV : V (9, 0, 0)) (R : Rel n cnt τ π σ) (hK : WK n cnt τ π) {d : Nat} (hd : d < 2 ^ 31) {P : Int32 → zM → Prop} (hP : P (bI (isRef τ π n cnt (nI d))) M) : w_X6_isReferred (ad (9, 0, 0)) (nI d) M P := by
  have hc6 : ∀ s, s < 6 → cnt s ≤ 6 := fun s hs => (hK.2.1 s hs).2.1
  unfold isRef at hP
  rw [← refK_any hc6, Bool.or_comm] at hP
  have key : ∀ k i, i + k = 36 → P (bI (anyR (refK cnt τ π (nI d)) k i || refS τ n (nI d))) M → w_X6_isReferred_2 (ad (9, 0, 0)) (nI d) P (k + 1) (nI i) M := by
    intro k
    induction k with
    | zero =>
      intro i hi hp
      obtain rfl : i = 36 := by omega
      refine br_t (nI_le (a := 36) (by omega) (by omega)) ⟨g_is h hV rfl, ?_⟩
      have := m_refers h hV R hK (Nat.le_refl n) hd hp
      rw [ix_n] at this
      exact this
    | succ k ih =>
      intro i hi hp
      rw [anyR_s] at hp
      have hs : i / 6 < 6 := by omega
      obtain ⟨r1, r2, r3, r4, r5⟩ := R.2.2 (i / 6) hs
      obtain ⟨k1, k2, k3⟩ := hK.2.1 (i / 6) hs
      have hi6 : 6 * (i / 6) + i % 6 = i := by omega
      refine br_f (nI_ge (b := 36) (by omega) (by omega)) (m_r h hV 12 (a_i h hV 12 i rfl (show i < 36 by omega) ?_))
      have next : refK cnt τ π (nI d) i = false → w_X6_isReferred_44 (ad (9, 0, 0)) (nI d) P (w_X6_isReferred_2 (ad (9, 0, 0)) (nI d) P (k + 1)) (nI i) M := fun e => by
        unfold w_X6_isReferred_44
        rw [nI_1]
        rw [e, Bool.false_or] at hp
        exact ih (i + 1) (by omega) hp
      by_cases hv : i % 6 < cnt (i / 6)
      · obtain ⟨t1, t2⟩ := k3 _ hv
        have t3 := st_3 t1
        have e12 := (r2 _ hv).2
        have e11 := (r2 _ hv).1
        rw [hi6] at e12 e11
        have go : ¬ τ (2, i / 6, i % 6) = 2 → w_X6_isReferred_28 (ad (9, 0, 0)) (nI d) P (w_X6_isReferred_2 (ad (9, 0, 0)) (nI d) P (k + 1)) (nI i) M := fun ht => by
          refine m_r h hV 11 (a_i h hV 11 i rfl (show i < 36 by omega) ⟨g_is h hV rfl, ?_⟩)
          rw [e11, show nI (π (2, i / 6, i % 6)) = nI (ix n (π (2, i / 6, i % 6))) by rw [ix_c t2]]
          have er : refK cnt τ π (nI d) i = refS τ (π (2, i / 6, i % 6)) (nI d) := by
            unfold refK
            rw [decide_eq_true hv, Bool.true_and, show (τ (2, i / 6, i % 6) != 2) = true by simpa using ht, Bool.true_and]
          refine m_refers h hV R hK (by omega) hd (br_b (fun e => next (er.trans e)) (fun e => ?_))
          rw [er, e, Bool.true_or] at hp
          exact hp
        rw [e12]
        refine ⟨fun e => go (by rw [t3.2.1.1 e]; decide), fun e => m_r h hV 12 (a_i h hV 12 i rfl (show i < 36 by omega) ?_)⟩
        rw [e12]
        refine ⟨fun e2 => next ?_, fun e2 => go (by rw [t3.2.2.1 e2]; decide)⟩
        have : τ (2, i / 6, i % 6) = 2 := by
          rcases t1 with q | q | q
          · exact absurd (t3.2.1.2 q) e
          · exact absurd (t3.2.2.2 q) e2
          · exact q
        unfold refK
        rw [this]; simp
      · have e12 := r3 (i % 6) (by omega) (by omega)
        rw [hi6] at e12
        rw [e12]
        refine br_f (by decide) (m_r h hV 12 (a_i h hV 12 i rfl (show i < 36 by omega) ?_))
        rw [e12]
        refine ⟨fun _ => next ?_, fun e => absurd e (by decide)⟩
        unfold refK
        rw [decide_eq_false hv, Bool.false_and]
  exact ⟨37, key 36 0 (by omega) hP⟩
/-- modes and flags -/
def WM (τ : nI2) : Prop := ∀ s, s < 6 → (τ (0, s, 0) = 0 ∨ τ (0, s, 0) = 1 ∨ τ (0, s, 0) = 2 ∨ τ (0, s, 0) = 3) ∧ (τ (1, s, 0) = 0 ∨ τ (1, s, 0) = 1)
theorem m_isAcceptedBy (h : zC V ad σ ρ ξ M) (hV : V (9, 0, 0)) (R0 : Rel n cnt τ π σ) (hK : WK n cnt τ π) (hM : WM τ) {s : Nat} (hs : s < 6) {P : Int32 → zM → Prop} (hP0 : ∀ σ' M', EQx σ' σ → zC V ad σ' ρ ξ M' → P (bI (accF τ π s n (cnt s))) M') : w_X6_isAcceptedBy (ad (9, 0, 0)) (nI s) M P := by
  have hn := hK.1.2.2.1
  refine ⟨g_is h hV rfl, m_tells h hV R0 hn hK.2.2 (fun s hs => (hK.2.1 s hs).2.1) fun σ1 M1 E D h => ?_⟩
  have R := R0.of E
  have hP := hP0 σ1 M1 E h
  obtain ⟨r1, r2, r3, r4, r5⟩ := R.2.2 s hs
  obtain ⟨k1, k2, k3⟩ := hK.2.1 s hs
  obtain ⟨m1, m2⟩ := hM s hs
  have key : ∀ v (f : Bool), v ≤ cnt s → P (bI (if f = true ∨ ¬ τ (1, s, 0) = 0 then accF τ π s n v else true)) M1 → w_X6_isAcceptedBy_15 (ad (9, 0, 0)) (nI s) P (v + 1) (bI f) (nI v + (-1)) M1 := by
    intro v
    induction v with
    | zero =>
      intro f _ hp
      refine br_t (by decide) ?_
      have : (if f = true ∨ ¬ τ (1, s, 0) = 0 then accF τ π s n 0 else true) = true := by split <;> rfl
      rw [this] at hp
      exact hp
    | succ v ih =>
      intro f hv hp
      rw [pk_m1]
      have hlt := (k3 v (by omega)).2
      have e11 := (r2 v (by omega)).1
      have ixv : ix n (π (2, s, v)) = π (2, s, v) := ix_c hlt
      -- not asked
      have not : P (bI (if f = true ∨ ¬ τ (1, s, 0) = 0 then accF τ π s n v else true)) M1 → w_X6_isAcceptedBy_45 (ad (9, 0, 0)) (nI s) P (w_X6_isAcceptedBy_15 (ad (9, 0, 0)) (nI s) P (v + 1)) (bI f) (nI v) M1 := fun hq => by
        refine m_r h hV 11 (a_i h hV 11 (6 * s + v) (n_6 s v) (show 6 * s + v < 36 by omega) (br_t rfl ?_))
        have := ih f (by omega) hq
        cases f
        · exact br_t rfl this
        · exact br_f (by decide) ⟨fun e => absurd rfl e, fun _ => this⟩
      -- asked: then no longer the first
      have ask : (agr τ π s n (π (2, s, v)) = true → P (bI (if False ∨ ¬ τ (1, s, 0) = 0 then accF τ π s n v else true)) M1) → (agr τ π s n (π (2, s, v)) = false → P 0 M1) → w_X6_isAcceptedBy_41 (ad (9, 0, 0)) (nI s) P (w_X6_isAcceptedBy_15 (ad (9, 0, 0)) (nI s) P (v + 1)) (bI f) (nI v) M1 := fun ht hf => by
        have h120 : agr τ π s n (π (2, s, v)) = true → w_X6_isAcceptedBy_120 (ad (9, 0, 0)) (nI s) P (w_X6_isAcceptedBy_15 (ad (9, 0, 0)) (nI s) P (v + 1)) (bI f) (nI v) 1 M1 := fun q => by
          have := ih false (by omega) (by simpa using ht q)
          exact ⟨fun _ => this, fun _ => ⟨fun _ => this, fun e => absurd e (by decide)⟩⟩
        have d1 := D n (π (2, s, v)) (Nat.le_refl n) (by omega) (by rw [ix_n, ixv]; omega)
        have d2 := D (π (2, s, v)) n (by omega) (Nat.le_refl n) (by rw [ix_n, ixv]; omega)
        rw [ix_n, ixv] at d1 d2
        have h92 : (if τ (0, s, 0) = 1 ∨ τ (0, s, 0) = 3 then canC τ π n (π (2, s, v)) else true) = true → w_X6_isAcceptedBy_92 (ad (9, 0, 0)) (nI s) P (w_X6_isAcceptedBy_15 (ad (9, 0, 0)) (nI s) P (v + 1)) (bI f) (nI v) 1 (nI (π (2, s, v))) M1 := fun q => by
          refine m_r h hV 14 (a_i h hV 14 s rfl (show s < 6 by omega) ?_)
          rw [r4]
          have ha : agr τ π s n (π (2, s, v)) = (if τ (0, s, 0) = 2 ∨ τ (0, s, 0) = 3 then canC τ π (π (2, s, v)) n else true) := by
            unfold agr; rw [q, Bool.true_and]
          refine ⟨fun e => h120 ?_, fun e => m_r h hV 10 (a_i h hV 10 (37 * π (2, s, v) + 36) (n_ma 37 _ 36) (show 37 * π (2, s, v) + 36 < 1369 by omega) ?_)⟩
          · rw [ha, if_neg]
            rintro (q | q) <;> rw [q] at e <;> exact absurd e (by decide)
          · rw [d2]
            have : τ (0, s, 0) = 2 ∨ τ (0, s, 0) = 3 := by
              rcases m1 with q | q | q | q
              · rw [q] at e; exact absurd (by decide) e
              · rw [q] at e; exact absurd (by decide) e
              · exact Or.inl q
              · exact Or.inr q
            rw [if_pos this] at ha
            exact br_n (fun e => h120 (ha.trans e)) (fun e => hf (ha.trans e))
        refine m_r h hV 11 (a_i h hV 11 (6 * s + v) (n_6 s v) (show 6 * s + v < 36 by omega) (br_f (by decide) (m_r h hV 14 (a_i h hV 14 s rfl (show s < 6 by omega) ?_))))
        rw [r4, e11]
        refine ⟨fun e => h92 ?_, fun e => m_r h hV 10 (a_i h hV 10 (37 * 36 + π (2, s, v)) (nI_add 1332 _) (show 37 * 36 + π (2, s, v) < 1369 by omega) ?_)⟩
        · rw [if_neg]
          rintro (q | q) <;> rw [q] at e <;> exact e (by decide)
        · rw [d1]
          have : τ (0, s, 0) = 1 ∨ τ (0, s, 0) = 3 := by
            rcases m1 with q | q | q | q
            · rw [q] at e; exact absurd e (by decide)
            · exact Or.inl q
            · rw [q] at e; exact absurd e (by decide)
            · exact Or.inr q
          refine br_b (fun e => hf ?_) (fun e => h92 ?_)
          · unfold agr; rw [if_pos this, e, Bool.false_and]
          · rw [if_pos this]; exact e
      refine br_f (nI_pos (by omega)) ⟨g_is h hV rfl, (m_thereV h hV R hK hs (by omega) (br_b (fun e => ?_) (fun e => ⟨fun e2 => ?_, fun e2 => m_r h hV 15 (a_i h hV 15 s rfl (show s < 6 by omega) ?_)⟩))).2⟩
      · have e : ¬ τ (2, s, v) = 0 := by simpa using e
        refine not ?_
        rw [show accF τ π s n (v + 1) = accF τ π s n v from if_neg e] at hp
        exact hp
      · have e : τ (2, s, v) = 0 := by simpa using e
        have hf : f = true := by cases f; exact absurd rfl e2; rfl
        rw [if_pos (Or.inl hf), show accF τ π s n (v + 1) = (agr τ π s n (π (2, s, v)) && (τ (1, s, 0) == 0 || accF τ π s n v)) from if_pos e] at hp
        refine ask (fun q => ?_) (fun q => ?_)
        · rw [q, Bool.true_and] at hp
          by_cases e3 : τ (1, s, 0) = 0
          · rw [if_neg (by simp [e3])]; rw [e3] at hp; exact hp
          · rw [if_pos (Or.inr e3)]; rw [show (τ (1, s, 0) == 0) = false by simpa using e3, Bool.false_or] at hp; exact hp
        · rw [q, Bool.false_and] at hp; exact hp
      · have e : τ (2, s, v) = 0 := by simpa using e
        have hf : f = false := by cases f; rfl; exact absurd e2 (by decide)
        rw [r5]
        refine ⟨fun e3 => not ?_, fun e3 => ?_⟩
        · rw [hf, if_neg (by simp [e3])] at hp
          rw [hf, if_neg (by simp [e3])]; exact hp
        · rw [hf, if_pos (Or.inr e3), show accF τ π s n (v + 1) = (agr τ π s n (π (2, s, v)) && (τ (1, s, 0) == 0 || accF τ π s n v)) from if_pos e, show (τ (1, s, 0) == 0) = false by simpa using e3, Bool.false_or] at hp
          refine ask (fun q => ?_) (fun q => ?_)
          · rw [q, Bool.true_and] at hp
            rw [if_pos (Or.inr e3)]; exact hp
          · rw [q, Bool.false_and] at hp; exact hp
  refine m_r h hV 13 (a_i h hV 13 s rfl (show s < 6 by omega) ⟨cnt s + 1, ?_⟩)
  rw [r1, Int32.sub_eq_add_neg]
  have := key (cnt s) true (Nat.le_refl _) (by rw [if_pos (Or.inl rfl)]; exact hP)
  exact this
