/-! ===== the pure part: what reads itself, what is read ===== -/
variable {σ σ' : nI2} {ρ ρ' : nN2} {n c d s i k : Nat} {cnt : Nat → Nat} {p q p' q' : Int32} {S : St} {g : Nat → Int32} {b : Nat}
theorem lk_uni {f : Nat → Bool} {k j : Nat} (hj : j < k) (h : f j = true) (hu : ∀ i, i < k → f i = true → i = j) : lk f k 0 = some j := by
  cases e : lk f k 0 with
  | none =>
    have := (lk_none _ _).1 e j (Nat.zero_le j) (by omega)
    rw [h] at this; cases this
  | some t =>
    obtain ⟨-, h2, h3, -⟩ := lk_some _ _ _ e
    rw [hu t (by omega) h3]
theorem src_self (X : X4 σ c) {j : Nat} (hj : j < zz σ c) : srcC σ c j c = some j := by
  have : nmd σ c (σ (8, c, j)) = some j := lk_uni hj (by simp) (fun i hi h => X.1 i j hi hj (by simpa using h))
  unfold srcC
  rw [this]
theorem rdT_self (a : Int32) : rdT a a = true := by simp [rdT]
theorem ofS_iff {v k : Int32} : ofS v k = true ↔ k = 0 ∨ (¬ v < 0 ∧ v < k) := by
  unfold ofS
  simp
theorem can_self (hW : WC n σ ρ) (hX : ∀ c, c ≤ n → X4 σ c) : ∀ f c, c ≤ n → c < f → canF σ ρ f c c = true := by
  intro f
  induction f with
  | zero => intro c _ h; omega
  | succ f ih =>
    intro c hc hf
    unfold canF
    rw [allR_iff]
    intro j _ hj
    have hj : j < zz σ c := by omega
    unfold canFd
    rw [src_self (hX c hc) hj]
    simp only [rdT_self, Bool.true_and]
    by_cases e3 : σ (9, c, j) = 3
    · rw [if_pos e3, decide_eq_true (Int32.le_refl _), Bool.true_or]
    · rw [if_neg e3]
      by_cases e4 : σ (9, c, j) = 4
      · rw [if_pos e4]
        have w := ((hW c hc).2 j hj).2
        have r := w.2 (w.1.1 e4)
        exact ih _ (by omega) (by omega)
      · rw [if_neg e4]
/-- the numbers from b on -/
def seg (g : Nat → Int32) : Nat → Nat → List Int32
  | _, 0 => []
  | b, k + 1 => g b :: seg g (b + 1) k
theorem seg_app : ∀ k b m, seg g b (k + m) = seg g b k ++ seg g (b + k) m := by
  intro k
  induction k with
  | zero => intro b m; simp [seg]
  | succ k ih =>
    intro b m
    rw [show k + 1 + m = (k + m) + 1 by omega]
    show g b :: seg g (b + 1) (k + m) = g b :: (seg g (b + 1) k ++ seg g (b + (k + 1)) m)
    rw [ih, show b + 1 + k = b + (k + 1) by omega]
theorem seg_self : ∀ (l : List Int32) (b : Nat), (∀ j, j < l.length → g (b + j) = l.getD j 0) → seg g b l.length = l := by
  intro l
  induction l with
  | nil => intro b _; rfl
  | cons x t ih =>
    intro b h
    show g b :: seg g (b + 1) t.length = x :: t
    have h0 := h 0 (by simp)
    rw [ih (b + 1) (fun j hj => by
      have := h (j + 1) (by simp; omega)
      rw [show b + 1 + j = b + (j + 1) by omega, this]
      simp)]
    simp only [Nat.add_zero, List.getD_cons_zero] at h0
    rw [h0]
theorem seqR_seg {f : Nat → Option (List Int32)} {bg : Nat → Nat} {z : Nat} (h : ∀ j, j < z → f j = some (seg g (b + bg j) (bg (j + 1) - bg j))) (mono : ∀ i j, i ≤ j → bg i ≤ bg j) : ∀ k i, i + k = z → seqR f k i = some (seg g (b + bg i) (bg z - bg i)) := by
  intro k
  induction k with
  | zero =>
    intro i hi
    obtain rfl : i = z := by omega
    rw [Nat.sub_self]; rfl
  | succ k ih =>
    intro i hi
    unfold seqR
    rw [h i (by omega), ih (i + 1) (by omega)]
    simp only []
    have m1 := mono i (i + 1) (by omega)
    have m2 := mono (i + 1) z (by omega)
    have := seg_app (g := g) (bg (i + 1) - bg i) (b + bg i) (bg z - bg (i + 1))
    rw [show b + bg i + (bg (i + 1) - bg i) = b + bg (i + 1) by omega, show bg (i + 1) - bg i + (bg z - bg (i + 1)) = bg z - bg i by omega] at this
    rw [this]
theorem rd_self (hW : WC n σ ρ) (hP : WP n σ ρ) (hQ : WQ n σ ρ) (hX : ∀ c, c ≤ n → X4 σ c) : ∀ f c b, c ≤ n → c < f → (∀ i, i < lnn σ c → ofS (g (b + i)) (σ (5, 3 + c, i)) = true) → rdF σ ρ g f c c b = some (seg g b (lnn σ c)) := by
  intro f
  induction f with
  | zero => intro c b _ h; omega
  | succ f ih =>
    intro c b hc hf hg
    unfold rdF
    have hl := (hP.lnn hc).1
    have key : ∀ j, j < zz σ c → rdFd σ ρ g (rdF σ ρ g f) c c b j = some (seg g (b + bgn σ ρ c j) (bgn σ ρ c (j + 1) - bgn σ ρ c j)) := by
      intro j hj
      have hs : bgn σ ρ c (j + 1) = bgn σ ρ c j + pcs σ ρ c j := rfl
      have hb : bgn σ ρ c (j + 1) ≤ bgn σ ρ c (zz σ c) := bgn_le (by omega)
      obtain ⟨q1, q2⟩ := hQ c hc j hj
      obtain ⟨w1, w2, w3⟩ := (hW c hc).2 j hj
      unfold rdFd
      rw [src_self (hX c hc) hj]
      simp only []
      rw [if_pos (rdT_self _), show bgn σ ρ c (j + 1) - bgn σ ρ c j = pcs σ ρ c j by omega]
      by_cases e4 : σ (9, c, j) = 4
      · rw [if_pos e4]
        have r := w2.1 e4
        have r3 := w3 r
        have pc : pcs σ ρ c j = lnn σ (rf ρ c j) := if_neg r
        rw [pc]
        exact ih _ _ (by omega) (by omega) (fun i hi => by
          rw [← q2 r i hi, Nat.add_assoc]
          exact hg _ (by omega))
      · rw [if_neg e4]
        have r : ρ (3, c, j) = 0 := Classical.byContradiction fun q => e4 (w2.2 q)
        have pc : pcs σ ρ c j = 1 := if_pos r
        obtain ⟨q3, d, hd, q4, q5⟩ := q1 r
        have hgj := hg (bgn σ ρ c j) (by omega)
        rw [q3, ofS_iff] at hgj
        rw [if_neg (fun q => ?_), pc]
        · rfl
        · rcases hgj with q6 | q6
          · rw [q4] at q6
            exact q5 q.1 ((nI_eq (b := 0) (by omega) (by omega)).1 q6)
          · exact q.2 q6.2
    have := seqR_seg (g := g) (b := b) (bg := bgn σ ρ c) key (fun i j h => bgn_le h) (zz σ c) 0 (by omega)
    rw [this, hl]
    simp only [bgn, Nat.add_zero, Nat.sub_zero]
theorem seqR_fit {f : Nat → Option (List Int32)} (h : ∀ j l, j < zz σ c → f j = some l → l.length = pcs σ ρ c j ∧ ∀ q, q < pcs σ ρ c j → ofS (l.getD q 0) (σ (5, 3 + c, bgn σ ρ c j + q)) = true) : ∀ k i l, i + k = zz σ c → seqR f k i = some l → ∀ q, bgn σ ρ c i + q < bgn σ ρ c (zz σ c) → ofS (l.getD q 0) (σ (5, 3 + c, bgn σ ρ c i + q)) = true := by
  intro k
  induction k with
  | zero =>
    intro i l hi _ q hq
    obtain rfl : i = zz σ c := by omega
    omega
  | succ k ih =>
    intro i l hi hl q hq
    unfold seqR at hl
    cases e : f i with
    | none => rw [e] at hl; cases hl
    | some l1 =>
      rw [e] at hl
      simp only [] at hl
      cases e2 : seqR f k (i + 1) with
      | none => rw [e2] at hl; cases hl
      | some l2 =>
        rw [e2] at hl
        cases hl
        obtain ⟨h1, h2⟩ := h i l1 (by omega) e
        have hs : bgn σ ρ c (i + 1) = bgn σ ρ c i + pcs σ ρ c i := rfl
        by_cases hq1 : q < l1.length
        · have e3 : (l1 ++ l2).getD q 0 = l1.getD q 0 := by
            simp only [List.getD_eq_getElem?_getD]
            rw [List.getElem?_append_left hq1]
          rw [e3]
          exact h2 q (by omega)
        · have e3 : (l1 ++ l2).getD q 0 = l2.getD (q - l1.length) 0 := by
            simp only [List.getD_eq_getElem?_getD]
            rw [List.getElem?_append_right (by omega)]
          rw [e3]
          have := ih (i + 1) l2 (by omega) e2 (q - l1.length) (by omega)
          rw [show bgn σ ρ c (i + 1) + (q - l1.length) = bgn σ ρ c i + q by omega] at this
          exact this
theorem rd_fit (hW : WC n σ ρ) (hP : WP n σ ρ) (hQ : WQ n σ ρ) (hX : ∀ c, c ≤ n → X4 σ c) : ∀ f c w b l, c ≤ n → w ≤ n → (∀ i, i < lnn σ w → ofS (g (b + i)) (σ (5, 3 + w, i)) = true) → rdF σ ρ g f c w b = some l → ∀ q, q < lnn σ c → ofS (l.getD q 0) (σ (5, 3 + c, q)) = true := by
  intro f
  induction f with
  | zero => intro c w b l _ _ _ h; cases h
  | succ f ih =>
    intro c w b l hc hw hg h q hq
    unfold rdF at h
    have hl := (hP.lnn hc).1
    have hlw := (hP.lnn hw).1
    have fin := seqR_fit (σ := σ) (ρ := ρ) (c := c) (f := rdFd σ ρ g (rdF σ ρ g f) c w b) (fun j l hj hl => ⟨rdFd_len hW hP hc hw hj hl, fun q hq => ?_⟩) (zz σ c) 0 l (by omega) h q (by simp only [bgn]; omega)
    · simp only [bgn, Nat.zero_add] at fin
      exact fin
    · obtain ⟨x1, x2⟩ := hX c hc
      obtain ⟨d1, d2, d3, -⟩ := x2 j hj
      obtain ⟨q1, q2⟩ := hQ c hc j hj
      obtain ⟨w1, w2, w3⟩ := (hW c hc).2 j hj
      have w4 := ((hP c hc).2 j hj).2
      have dd : ∀ l, dfl σ c j = some l → ofS (l.getD q 0) (σ (5, 3 + c, bgn σ ρ c j + q)) = true := fun l hl => by
        unfold dfl at hl
        by_cases e : σ (14, c, j) = 0
        · rw [if_pos e] at hl; cases hl
        · rw [if_neg e] at hl
          cases hl
          have r : ρ (3, c, j) = 0 := Classical.byContradiction fun q => e (w4 q)
          have pc : pcs σ ρ c j = 1 := if_pos r
          obtain rfl : q = 0 := by omega
          rw [Nat.add_zero, (q1 r).1]
          exact d1 e
      unfold rdFd at hl
      cases e : srcC σ c j w with
      | none => rw [e] at hl; exact dd l hl
      | some s =>
        rw [e] at hl
        simp only [] at hl
        have hs := srcC_lt e
        by_cases t1 : rdT (σ (9, c, j)) (σ (9, w, s)) = true
        · rw [if_pos t1] at hl
          obtain ⟨v1, v2⟩ := hQ w hw s hs
          obtain ⟨u1, u2, u3⟩ := (hW w hw).2 s hs
          have hbs : bgn σ ρ w (s + 1) = bgn σ ρ w s + pcs σ ρ w s := rfl
          have hbz : bgn σ ρ w (s + 1) ≤ bgn σ ρ w (zz σ w) := bgn_le (by omega)
          by_cases e4 : σ (9, c, j) = 4
          · rw [if_pos e4] at hl
            rw [e4] at t1
            have r := w2.1 e4
            have r2 := u2.1 (rdT_4 t1)
            have pc : pcs σ ρ c j = lnn σ (rf ρ c j) := if_neg r
            have pw : pcs σ ρ w s = lnn σ (rf ρ w s) := if_neg r2
            rw [pc] at hq
            rw [q2 r q hq]
            refine ih _ _ _ l (by have := w3 r; omega) (by have := u3 r2; omega) (fun i hi => ?_) hl q hq
            rw [← v2 r2 i hi, Nat.add_assoc]
            exact hg _ (by omega)
          · rw [if_neg e4] at hl
            have r : ρ (3, c, j) = 0 := Classical.byContradiction fun q => e4 (w2.2 q)
            have pc : pcs σ ρ c j = 1 := if_pos r
            by_cases e3 : σ (9, c, j) = 3 ∧ ¬ g (b + bgn σ ρ w s) < σ (10, c, j)
            · rw [if_pos e3] at hl; exact dd l hl
            · rw [if_neg e3] at hl
              cases hl
              obtain rfl : q = 0 := by omega
              rw [Nat.add_zero, (q1 r).1]
              simp only [List.getD_cons_zero]
              -- the writer's field isn't a record
              have rs : ρ (3, w, s) = 0 := Classical.byContradiction fun q => by
                have a4 := u2.2 q
                rw [a4] at t1
                have : σ (9, c, j) = 4 := by simp [rdT] at t1; exact t1
                exact e4 this
              have pw : pcs σ ρ w s = 1 := if_pos rs
              obtain ⟨v3, d, hd, v4, v5⟩ := v1 rs
              have hgs := hg (bgn σ ρ w s) (by omega)
              rw [v3, ofS_iff] at hgs
              by_cases c3 : σ (9, c, j) = 3
              · have lt : g (b + bgn σ ρ w s) < σ (10, c, j) := Classical.byContradiction fun q => e3 ⟨c3, q⟩
                rw [c3] at t1
                have b3 : σ (9, w, s) = 3 := by simp [rdT] at t1; exact t1.symm
                refine ofS_iff.2 (Or.inr ⟨?_, lt⟩)
                rcases hgs with q6 | q6
                · rw [v4] at q6
                  exact absurd ((nI_eq (b := 0) (by omega) (by omega)).1 q6) (v5 b3)
                · exact q6.1
              · by_cases c2 : σ (9, c, j) = 2
                · rw [c2] at t1
                  have b2 : σ (9, w, s) = 2 := by simp [rdT] at t1; exact t1.symm
                  have z2 := ((hX w hw).2 s hs).2.1 b2
                  rw [d2 c2]
                  rw [z2] at hgs
                  exact ofS_iff.2 hgs
                · exact ofS_iff.2 (Or.inl (d3 c2 c3))
        · rw [if_neg t1] at hl; cases hl
/-! the same of a state -/
theorem vd_lt (h : Vd S) {z : Nat × Nat} (e : sv S.2.1 S.2.2.1 p q = some z) : S.2.2.2.1 (2, z.1, z.2) < S.1 ∧ S.1 ≤ 36 ∧ 1 ≤ lnn S.2.2.1 (S.2.2.2.1 (2, z.1, z.2)) ∧ lnn S.2.2.1 (S.2.2.2.1 (2, z.1, z.2)) ≤ 20 := by
  obtain ⟨σ, ρ, G, E, R, l20⟩ := h
  obtain ⟨⟨h1, h2, h3⟩, -, -⟩ := sv_is e
  have hlt := ((G.1.wk.2.1 z.1 h1).2.2 z.2 h2).2
  rw [← R _ (Or.inl rfl), ← ev_ln E]
  exact ⟨hlt, G.1.1.2.2.1, G.1.N0 _ hlt, (G.1.wp.lnn (by omega)).2⟩
theorem vd_can (h : Vd S) {c : Nat} (hc : c < S.1) : canC S.2.2.1 S.2.2.2.1 c c = true := by
  obtain ⟨σ, ρ, G, E, R, l20⟩ := h
  have := G.1.1.2.2.1
  rw [← ev_can E R]
  exact can_self G.1.wk.2.2 G.2 45 c (by omega) (by omega)
theorem rc_fits {l : List Int32} {c : Nat} (h : rcL σ l c = true) : l.length = lnn σ c ∧ ∀ i, i < lnn σ c → ofS (l.getD (0 + i) 0) (σ (5, 3 + c, i)) = true := by
  unfold rcL at h
  rw [Bool.and_eq_true, beq_iff_eq, allR_iff] at h
  exact ⟨h.1, fun i hi => by rw [Nat.zero_add]; exact h.2 i (Nat.zero_le i) (by omega)⟩
theorem vd_self (h : Vd S) {c : Nat} (hc : c < S.1) {l : List Int32} (hr : rcL S.2.2.1 l c = true) : rdF S.2.2.1 S.2.2.2.1 (fun j => l.getD j 0) 45 c c 0 = some l := by
  obtain ⟨σ, ρ, G, E, R, l20⟩ := h
  have := G.1.1.2.2.1
  obtain ⟨h1, h2⟩ := rc_fits hr
  rw [← ev_rdF E R, rd_self G.1.wk.2.2 G.1.wp G.1.wq G.2 45 c 0 (by omega) (by omega) (fun i hi => by
    rw [ev_ln E] at hi
    rw [E.g (Or.inr rfl)]; exact h2 i hi), ev_ln E, ← h1, seg_self l 0 (fun j _ => by rw [Nat.zero_add])]
theorem vd_read (h : Vd S) {c w : Nat} (hc : c < S.1) (hw : w < S.1) {l l' : List Int32} (hr : rcL S.2.2.1 l w = true) (hl : rdF S.2.2.1 S.2.2.2.1 (fun j => l.getD j 0) 45 c w 0 = some l') : l'.length = lnn S.2.2.1 c ∧ rcL S.2.2.1 l' c = true := by
  obtain ⟨σ, ρ, G, E, R, l20⟩ := h
  obtain ⟨h1, h2⟩ := rc_fits hr
  rw [← ev_rdF E R] at hl
  have e1 := rdF_len G.1.wk.2.2 G.1.wp 45 c w 0 l' (by omega) (by omega) hl
  have e2 := rd_fit G.1.wk.2.2 G.1.wp G.1.wq G.2 45 c w 0 l' (by omega) (by omega) (fun i hi => by
    rw [ev_ln E] at hi
    rw [E.g (Or.inr rfl)]; exact h2 i hi) hl
  rw [ev_ln E] at e1
  refine ⟨e1, ?_⟩
  unfold rcL
  rw [Bool.and_eq_true, beq_iff_eq, allR_iff]
  refine ⟨e1, fun i _ hi => ?_⟩
  rw [← E.g (Or.inr rfl)]
  exact e2 i (by rw [ev_ln E]; omega)
theorem vd_canr (h : Vd S) {c w : Nat} (hc : c < S.1) (hw : w < S.1) {l : List Int32} (hr : rcL S.2.2.1 l w = true) (hk : canC S.2.2.1 S.2.2.2.1 c w = true) : ∃ l', rdF S.2.2.1 S.2.2.2.1 (fun j => l.getD j 0) 45 c w 0 = some l' := by
  obtain ⟨σ, ρ, G, E, R, l20⟩ := h
  obtain ⟨h1, h2⟩ := rc_fits hr
  rw [← ev_can E R] at hk
  have := can_reads G.1.wk.2.2 G.1.wp G.1.wq (g := fun j => l.getD j 0) 45 c w 0 (by omega) (by omega) (fun i hi => by
    rw [ev_ln E] at hi
    rw [E.g (Or.inr rfl)]
    exact (ofS_iff.1 (h2 i hi)).imp id (fun q => q.2)) hk
  rw [ev_rdF E R] at this
  exact Option.isSome_iff_exists.1 this
