/-! ===== the pure part: who can read whom agrees with the small records that can be read ===== -/
variable {σ σ' : nI2} {ρ ρ' : nN2}
/-- what a schema's places hold -/
def WQ (n : Nat) (σ : nI2) (ρ : nN2) : Prop := ∀ c, c ≤ n → ∀ j, j < zz σ c → (ρ (3, c, j) = 0 → σ (5, 3 + c, bgn σ ρ c j) = σ (10, c, j) ∧ ∃ d, d ≤ 4 ∧ σ (10, c, j) = nI d ∧ (σ (9, c, j) = 3 → d ≠ 0)) ∧ (ρ (3, c, j) ≠ 0 → ∀ q, q < lnn σ (rf ρ c j) → σ (5, 3 + c, bgn σ ρ c j + q) = σ (5, 3 + rf ρ c j, q))
theorem bgn_find {c : Nat} : ∀ k i, i < bgn σ ρ c k → ∃ j, j < k ∧ bgn σ ρ c j ≤ i ∧ i < bgn σ ρ c (j + 1) := by
  intro k
  induction k with
  | zero => intro i h; simp only [bgn] at h; omega
  | succ k ih =>
    intro i h
    by_cases e : i < bgn σ ρ c k
    · obtain ⟨j, h1, h2⟩ := ih i e; exact ⟨j, by omega, h2⟩
    · exact ⟨k, by omega, by omega, h⟩
def pl (σ : nI2) (c i : Nat) : Nat := (σ (5, 3 + c, i)).toNatClampNeg
theorem WQ.pl {n : Nat} (hW : WC n σ ρ) (hP : WP n σ ρ) (hQ : WQ n σ ρ) : ∀ m c, c < m → c ≤ n → ∀ i, i < lnn σ c → σ (5, 3 + c, i) = nI (pl σ c i) ∧ pl σ c i ≤ 4 := by
  intro m
  induction m with
  | zero => intro c h; omega
  | succ m ih =>
    intro c hm hc i hi
    rw [(hP.lnn hc).1] at hi
    obtain ⟨j, h1, h2, h3⟩ := bgn_find _ _ hi
    obtain ⟨q1, q2⟩ := hQ c hc j h1
    have hs : bgn σ ρ c (j + 1) = bgn σ ρ c j + pcs σ ρ c j := rfl
    by_cases e : ρ (3, c, j) = 0
    · obtain ⟨q1, d, hd, q3, -⟩ := q1 e
      have hp : pcs σ ρ c j = 1 := if_pos e
      have hi2 : i = bgn σ ρ c j := by omega
      unfold Jvm.Pilot.CSchemaSubjectsLaw_law_r9411_888cc3.pl
      rw [hi2, q1, q3, nI_clamp (by omega)]
      exact ⟨rfl, hd⟩
    · have hp : pcs σ ρ c j = lnn σ (rf ρ c j) := if_neg e
      have hr := ((hW c hc).2 j h1).2.2 e
      have hx := q2 e (i - bgn σ ρ c j) (by omega)
      rw [show bgn σ ρ c j + (i - bgn σ ρ c j) = i by omega] at hx
      have := ih (rf ρ c j) (by omega) (by omega) (i - bgn σ ρ c j) (by omega)
      unfold Jvm.Pilot.CSchemaSubjectsLaw_law_r9411_888cc3.pl at this ⊢
      rw [hx]; exact this
theorem seqR_some {f : Nat → Option (List Int32)} : ∀ k i, (seqR f k i).isSome = true ↔ ∀ j, i ≤ j → j < i + k → (f j).isSome = true := by
  intro k
  induction k with
  | zero => intro i; exact ⟨fun _ j h1 h2 => absurd h2 (by omega), fun _ => rfl⟩
  | succ k ih =>
    intro i
    unfold seqR
    cases e : f i with
    | none => exact ⟨fun h => (by cases h), fun h => by have := h i (Nat.le_refl i) (by omega); rw [e] at this; cases this⟩
    | some l =>
      have h3 := ih (i + 1)
      have tr : (∀ j, i + 1 ≤ j → j < i + 1 + k → (f j).isSome = true) ↔ ∀ j, i ≤ j → j < i + (k + 1) → (f j).isSome = true := by
        refine ⟨fun h j h1 h2 => ?_, fun h j h1 h2 => h j (by omega) (by omega)⟩
        by_cases e3 : j = i
        · rw [e3, e]; rfl
        · exact h j (by omega) (by omega)
      cases e2 : seqR f k (i + 1) with
      | none =>
        rw [e2, tr] at h3
        exact h3
      | some l' =>
        rw [e2, tr] at h3
        exact h3
theorem dfl_some {c j : Nat} : (dfl σ c j).isSome = true ↔ σ (14, c, j) ≠ 0 := by
  unfold dfl
  by_cases e : σ (14, c, j) = 0
  · rw [if_pos e]; exact ⟨fun h => (by cases h), fun h => absurd e h⟩
  · rw [if_neg e]; exact ⟨fun _ => e, fun _ => rfl⟩
theorem can_reads {n : Nat} (hW : WC n σ ρ) (hP : WP n σ ρ) (hQ : WQ n σ ρ) {g : Nat → Int32} : ∀ f c w b, c ≤ n → w ≤ n → (∀ i, i < lnn σ w → σ (5, 3 + w, i) = 0 ∨ g (b + i) < σ (5, 3 + w, i)) → canF σ ρ f c w = true → (rdF σ ρ g f c w b).isSome = true := by
  intro f
  induction f with
  | zero => intro c w b _ _ _ h; cases h
  | succ f ih =>
    intro c w b hc hw hg h
    unfold canF at h
    unfold rdF
    rw [allR_iff] at h
    rw [seqR_some]
    intro j h1 h2
    have hj : j < zz σ c := by omega
    have := h j h1 h2
    unfold canFd at this
    unfold rdFd
    cases e : srcC σ c j w with
    | none =>
      rw [e] at this
      exact dfl_some.2 (by simpa using this)
    | some s =>
      rw [e] at this
      simp only [Bool.and_eq_true] at this ⊢
      obtain ⟨t1, t2⟩ := this
      rw [if_pos t1]
      have hs := srcC_lt e
      obtain ⟨q1, q2⟩ := hQ w hw s hs
      have hbz : bgn σ ρ w (s + 1) ≤ bgn σ ρ w (zz σ w) := bgn_le (by omega)
      have hbs : bgn σ ρ w (s + 1) = bgn σ ρ w s + pcs σ ρ w s := rfl
      have hlw := (hP.lnn hw).1
      by_cases e4 : σ (9, c, j) = 4
      · rw [if_pos e4]
        have e43 : ¬ σ (9, c, j) = 3 := by rw [e4]; decide
        rw [if_neg e43, if_pos e4] at t2
        rw [e4] at t1
        obtain ⟨g1, g2, g3⟩ := (hW c hc).2 j hj
        obtain ⟨w1, w2, w3⟩ := (hW w hw).2 s hs
        have r1 := g2.1 e4
        have r2 := w2.1 (rdT_4 t1)
        have pw : pcs σ ρ w s = lnn σ (rf ρ w s) := if_neg r2
        refine ih _ _ _ (by have := g3 r1; omega) (by have := w3 r2; omega) (fun i hi => ?_) t2
        rw [← q2 r2 i hi, Nat.add_assoc]
        exact hg _ (by omega)
      · rw [if_neg e4]
        by_cases e3 : σ (9, c, j) = 3
        · rw [if_pos e3] at t2
          by_cases e5 : σ (9, c, j) = 3 ∧ ¬ g (b + bgn σ ρ w s) < σ (10, c, j)
          · rw [if_pos e5]
            refine dfl_some.2 ?_
            simp only [Bool.or_eq_true, decide_eq_true_eq, bne_iff_ne, ne_eq] at t2
            refine t2.resolve_left fun hle => e5.2 ?_
            rw [e3] at t1
            have w9 : σ (9, w, s) = 3 := by simp [rdT] at t1; exact t1.symm
            have r2 : ρ (3, w, s) = 0 := Classical.byContradiction fun q => by
              have := ((hW w hw).2 s hs).2.1.2 q
              rw [w9] at this; exact absurd this (by decide)
            obtain ⟨q3, d, hd, q4, q5⟩ := q1 r2
            have pw : pcs σ ρ w s = 1 := if_pos r2
            have := hg (bgn σ ρ w s) (by omega)
            rw [q3] at this
            rcases this with q | q
            · rw [q4] at q; exact absurd ((nI_eq (b := 0) (by omega) (by omega)).1 q) (q5 w9)
            · exact Int32.lt_of_lt_of_le q hle
          · rw [if_neg e5]; rfl
        · rw [if_neg (fun q => e3 q.1)]; rfl
theorem reads_can {n : Nat} (hW : WC n σ ρ) (hP : WP n σ ρ) (hQ : WQ n σ ρ) {g : Nat → Int32} : ∀ f c w b, c ≤ n → w ≤ n → (∀ i, i < lnn σ w → ∀ d, d ≠ 0 → d ≤ 4 → σ (5, 3 + w, i) = nI d → g (b + i) = nI (d - 1)) → (rdF σ ρ g f c w b).isSome = true → canF σ ρ f c w = true := by
  intro f
  induction f with
  | zero => intro c w b _ _ _ h; cases h
  | succ f ih =>
    intro c w b hc hw hg h
    unfold rdF at h
    unfold canF
    rw [seqR_some] at h
    rw [allR_iff]
    intro j h1 h2
    have hj : j < zz σ c := by omega
    have := h j h1 h2
    unfold rdFd at this
    unfold canFd
    cases e : srcC σ c j w with
    | none =>
      rw [e] at this
      simpa using dfl_some.1 this
    | some s =>
      rw [e] at this
      simp only [Bool.and_eq_true] at this ⊢
      have hs := srcC_lt e
      obtain ⟨q1, q2⟩ := hQ w hw s hs
      have hbz : bgn σ ρ w (s + 1) ≤ bgn σ ρ w (zz σ w) := bgn_le (by omega)
      have hbs : bgn σ ρ w (s + 1) = bgn σ ρ w s + pcs σ ρ w s := rfl
      have hlw := (hP.lnn hw).1
      by_cases t1 : rdT (σ (9, c, j)) (σ (9, w, s)) = true
      · rw [if_pos t1] at this
        refine ⟨t1, ?_⟩
        by_cases e4 : σ (9, c, j) = 4
        · rw [if_pos e4] at this
          have e43 : ¬ σ (9, c, j) = 3 := by rw [e4]; decide
          rw [if_neg e43, if_pos e4]
          rw [e4] at t1
          obtain ⟨g1, g2, g3⟩ := (hW c hc).2 j hj
          obtain ⟨w1, w2, w3⟩ := (hW w hw).2 s hs
          have r1 := g2.1 e4
          have r2 := w2.1 (rdT_4 t1)
          have pw : pcs σ ρ w s = lnn σ (rf ρ w s) := if_neg r2
          refine ih _ _ _ (by have := g3 r1; omega) (by have := w3 r2; omega) (fun i hi d d1 d2 d3 => ?_) this
          rw [Nat.add_assoc]
          exact hg _ (by omega) d d1 d2 (by rw [q2 r2 i hi]; exact d3)
        · rw [if_neg e4] at this
          by_cases e3 : σ (9, c, j) = 3
          · rw [if_pos e3]
            simp only [Bool.or_eq_true, decide_eq_true_eq, bne_iff_ne, ne_eq]
            by_cases e5 : σ (9, c, j) = 3 ∧ ¬ g (b + bgn σ ρ w s) < σ (10, c, j)
            · rw [if_pos e5] at this
              exact Or.inr (dfl_some.1 this)
            · refine Or.inl ?_
              have lt : g (b + bgn σ ρ w s) < σ (10, c, j) := Classical.byContradiction fun q => e5 ⟨e3, q⟩
              rw [e3] at t1
              have w9 : σ (9, w, s) = 3 := by simp [rdT] at t1; exact t1.symm
              have r2 : ρ (3, w, s) = 0 := Classical.byContradiction fun q => by
                have := ((hW w hw).2 s hs).2.1.2 q
                rw [w9] at this; exact absurd this (by decide)
              have r1 : ρ (3, c, j) = 0 := Classical.byContradiction fun q => by
                have := ((hW c hc).2 j hj).2.1.2 q
                rw [e3] at this; exact absurd this (by decide)
              obtain ⟨q3, d, hd, q4, q5⟩ := q1 r2
              obtain ⟨-, d', hd', q6, -⟩ := (hQ c hc j hj).1 r1
              have pw : pcs σ ρ w s = 1 := if_pos r2
              have := hg (bgn σ ρ w s) (by omega) d (q5 w9) hd (q3.trans q4)
              rw [this, q6] at lt
              have := (nI_ltI (by omega) (by omega)).1 lt
              have := q5 w9
              rw [q4, q6]
              exact nI_le (by omega) (by omega)
          · rw [if_neg e3, if_neg e4]
      · rw [if_neg t1] at this; cases this
/-! the digits -/
def prd (p : Nat → Nat) : Nat → Nat → Nat
  | 0, _ => 1
  | k + 1, i => (if p i = 0 then 1 else p i) * prd p k (i + 1)
theorem prd_pos {p : Nat → Nat} : ∀ k i, 0 < prd p k i := by
  intro k
  induction k with
  | zero => intro i; exact Nat.one_pos
  | succ k ih =>
    intro i
    refine Nat.mul_pos ?_ (ih _)
    split <;> omega
theorem smC_prd {p : Nat → Nat} : ∀ k i a, 0 < a → (smC p k i a ≤ 300 → smC p k i a = a * prd p k i) ∧ (300 < smC p k i a → 300 < a * prd p k i) := by
  intro k
  induction k with
  | zero => intro i a _; simp only [smC, prd, Nat.mul_one]; exact ⟨fun _ => trivial, fun h => h⟩
  | succ k ih =>
    intro i a ha
    unfold smC prd
    by_cases e : 300 < a
    · rw [if_pos e]
      refine ⟨fun h => by omega, fun h => Nat.lt_of_lt_of_le h ?_⟩
      have h2 : 0 < (if p i = 0 then 1 else p i) * prd p k (i + 1) := Nat.mul_pos (by split <;> omega) (prd_pos _ _)
      exact Nat.le_mul_of_pos_right a h2
    · rw [if_neg e]
      by_cases e2 : p i = 0
      · rw [if_pos e2, if_pos e2, Nat.one_mul]; exact ih _ _ ha
      · rw [if_neg e2, if_neg e2, ← Nat.mul_assoc]; exact ih _ _ (Nat.mul_pos ha (by omega))
theorem dgs_lt {p : Nat → Nat} : ∀ k i a j, j < k → p (i + j) ≠ 0 → ∃ v, v < p (i + j) ∧ (dgs p k i a).getD j 0 = nI v := by
  intro k
  induction k with
  | zero => intro i a j h; omega
  | succ k ih =>
    intro i a j hj hp
    cases j with
    | zero =>
      simp only [dgs, List.getD_cons_zero, Nat.add_zero] at hp ⊢
      rw [if_neg hp]
      exact ⟨_, Nat.mod_lt _ (by omega), rfl⟩
    | succ j =>
      simp only [dgs, List.getD_cons_succ]
      have := ih (i + 1) (if p i = 0 then a else a / p i) j (by omega) (by rw [show i + 1 + j = i + (j + 1) by omega]; exact hp)
      rw [show i + 1 + j = i + (j + 1) by omega] at this
      exact this
theorem dgs_max {p : Nat → Nat} : ∀ k i j, j < k → p (i + j) ≠ 0 → (dgs p k i (prd p k i - 1)).getD j 0 = nI (p (i + j) - 1) := by
  intro k
  induction k with
  | zero => intro i j h; omega
  | succ k ih =>
    intro i j hj hp
    have h1 := prd_pos (p := p) k (i + 1)
    have hdiv : ∀ P, P ≠ 0 → (P * prd p k (i + 1) - 1) % P = P - 1 ∧ (P * prd p k (i + 1) - 1) / P = prd p k (i + 1) - 1 := by
      intro P hP
      have e : P * prd p k (i + 1) - 1 = P - 1 + P * (prd p k (i + 1) - 1) := by
        obtain ⟨R, hR⟩ : ∃ R, prd p k (i + 1) = R + 1 := ⟨prd p k (i + 1) - 1, by omega⟩
        rw [hR, Nat.mul_add, Nat.add_sub_cancel]
        omega
      rw [e]
      refine ⟨?_, ?_⟩
      · rw [Nat.add_mul_mod_self_left, Nat.mod_eq_of_lt (by omega)]
      · rw [Nat.add_mul_div_left _ _ (by omega), Nat.div_eq_of_lt (by omega), Nat.zero_add]
    cases j with
    | zero =>
      simp only [Nat.add_zero] at hp
      simp only [dgs, List.getD_cons_zero, Nat.add_zero, prd]
      rw [if_neg hp, if_neg hp, (hdiv _ hp).1]
    | succ j =>
      simp only [dgs, List.getD_cons_succ, prd]
      have e : (if p i = 0 then (if p i = 0 then 1 else p i) * prd p k (i + 1) - 1 else ((if p i = 0 then 1 else p i) * prd p k (i + 1) - 1) / p i) = prd p k (i + 1) - 1 := by
        by_cases e2 : p i = 0
        · rw [if_pos e2, if_pos e2, Nat.one_mul]
        · rw [if_neg e2, if_neg e2, (hdiv _ e2).2]
      rw [e, show i + (j + 1) = i + 1 + j by omega]
      exact ih (i + 1) j (by omega) (by rw [show i + 1 + j = i + (j + 1) by omega]; exact hp)
theorem rdAll_can {n : Nat} (hW : WC n σ ρ) (hP : WP n σ ρ) (hQ : WQ n σ ρ) {c w : Nat} (hc : c ≤ n) (hw : w ≤ n) : rdAll σ ρ (pl σ w) (lnn σ w) c w (prd (pl σ w) (lnn σ w) 0) = canC σ ρ c w := by
  have hpl := WQ.pl hW hP hQ (w + 1) w (by omega) hw
  have h0 := prd_pos (p := pl σ w) (lnn σ w) 0
  unfold canC rdAll
  rw [Bool.eq_iff_iff, allR_iff]
  refine ⟨fun h => ?_, fun h i _ _ => ?_⟩
  · refine reads_can hW hP hQ 45 c w 0 hc hw (fun i hi d d1 d2 d3 => ?_) (h (prd (pl σ w) (lnn σ w) 0 - 1) (by omega) (by omega))
    obtain ⟨e1, e2⟩ := hpl i hi
    rw [e1] at d3
    have d4 := (nI_eq (by omega) (by omega)).1 d3
    rw [Nat.zero_add]
    have := dgs_max (p := pl σ w) (lnn σ w) 0 i hi (by rw [Nat.zero_add]; omega)
    rw [Nat.zero_add] at this
    rw [this, d4]
  · refine can_reads hW hP hQ 45 c w 0 hc hw (fun k hk => ?_) h
    obtain ⟨e1, e2⟩ := hpl k hk
    by_cases e : pl σ w k = 0
    · left; rw [e1, e]; rfl
    · right
      obtain ⟨v, hv, hv2⟩ := dgs_lt (p := pl σ w) (lnn σ w) 0 i k hk (by rw [Nat.zero_add]; exact e)
      rw [Nat.zero_add] at hv
      rw [Nat.zero_add, hv2, e1]
      exact nI_lt hv (by omega)
