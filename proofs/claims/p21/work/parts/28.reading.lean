/-! ===== the pure part: reading a record, in the class ===== -/
variable {Fm : zM} {V V' : nm → Prop} {ad ad' : nm → Nat} {σ σ' : nI2} {ρ ρ' : nN2} {ξ ξ' : Nat → zE} {M : zM} {x y w : nm}
/-- the same but for what Rows hold -/
def EQ (σ' σ : nI2) : Prop := ∀ w : nm, w.1 ≠ 4 → w.1 ≠ 5 → σ' w = σ w
theorem EQ.rAdd {r u n : Nat} {g : Nat → Int32} : EQ (rAdd σ r u n g) σ := fun w h4 h5 => by
  unfold Jvm.Pilot.CSchemaSubjectsLaw_law_r9411_888cc3.rAdd
  rw [if_neg (fun e => h4 (by rw [e])), if_neg (fun e => h5 e.1)]
theorem EQ.zz (E : EQ σ' σ) (c : Nat) : zz σ' c = zz σ c := by
  unfold Jvm.Pilot.CSchemaSubjectsLaw_law_r9411_888cc3.zz; rw [E _ (by simp) (by simp)]
theorem EQ.nmd (E : EQ σ' σ) (c : Nat) (p : Int32) : nmd σ' c p = nmd σ c p := by
  unfold Jvm.Pilot.CSchemaSubjectsLaw_law_r9411_888cc3.nmd; rw [E.zz, show (fun j => σ' (8, c, j) == p) = fun j => σ (8, c, j) == p from funext fun j => by rw [E _ (by simp) (by simp)]]
theorem EQ.srcC (E : EQ σ' σ) (c j w : Nat) : srcC σ' c j w = srcC σ c j w := by
  unfold Jvm.Pilot.CSchemaSubjectsLaw_law_r9411_888cc3.srcC; rw [E.nmd, E.nmd, E _ (by simp) (by simp), E (11, c, j) (by simp) (by simp)]
theorem EQ.Ls (E : EQ σ' σ) {l n : Nat} (h : Ls σ ρ l n) : Ls σ' ρ l n := ⟨(E _ (by simp) (by simp)).trans h.1, h.2⟩
theorem EQ.Sc (E : EQ σ' σ) {c : Nat} (h : Sc σ ρ c) : Sc σ' ρ c := by
  unfold Jvm.Pilot.CSchemaSubjectsLaw_law_r9411_888cc3.Sc; rw [E.zz]; exact ⟨E.Ls h.1, h.2⟩
theorem EQ.WC (E : EQ σ' σ) {n : Nat} (h : WC n σ ρ) : WC n σ' ρ := fun c hc => by
  refine ⟨E.Sc (h c hc).1, fun j hj => ?_⟩
  rw [E.zz] at hj
  rw [E (14, c, j) (by simp) (by simp), E (9, c, j) (by simp) (by simp)]
  exact (h c hc).2 j hj
theorem EQ.trans {σ'' : nI2} (E : EQ σ'' σ') (F : EQ σ' σ) : EQ σ'' σ := fun w h4 h5 => (E w h4 h5).trans (F w h4 h5)
/-- how many numbers a field takes, how many lie before it -/
def lnn (σ : nI2) (c : Nat) : Nat := (σ (4, 3 + c, 0)).toNatClampNeg
def pcs (σ : nI2) (ρ : nN2) (c j : Nat) : Nat := if ρ (3, c, j) = 0 then 1 else lnn σ (rf ρ c j)
def bgn (σ : nI2) (ρ : nN2) (c : Nat) : Nat → Nat
  | 0 => 0
  | j + 1 => bgn σ ρ c j + pcs σ ρ c j
theorem bgn_le {c : Nat} : ∀ {i j : Nat}, i ≤ j → bgn σ ρ c i ≤ bgn σ ρ c j := by
  intro i j h
  induction h with
  | refl => exact Nat.le_refl _
  | step _ ih => exact Nat.le_trans ih (Nat.le_add_right _ _)
/-- the places of all schemas up to n -/
def WP (n : Nat) (σ : nI2) (ρ : nN2) : Prop := ∀ c, c ≤ n → (σ (4, 3 + c, 0) = nI (bgn σ ρ c (zz σ c)) ∧ bgn σ ρ c (zz σ c) ≤ 20) ∧ ∀ j, j < zz σ c → σ (13, c, j) = nI (bgn σ ρ c j) ∧ (ρ (3, c, j) ≠ 0 → σ (14, c, j) = 0)
theorem WP.lnn {n : Nat} (h : WP n σ ρ) {c : Nat} (hc : c ≤ n) : lnn σ c = bgn σ ρ c (zz σ c) ∧ lnn σ c ≤ 20 := by
  obtain ⟨⟨h1, h2⟩, -⟩ := h c hc
  have : Jvm.Pilot.CSchemaSubjectsLaw_law_r9411_888cc3.lnn σ c = bgn σ ρ c (zz σ c) := by
    unfold Jvm.Pilot.CSchemaSubjectsLaw_law_r9411_888cc3.lnn; rw [h1, nI_clamp (by omega)]
  exact ⟨this, by omega⟩
/-- what a reader's field gives, read from the numbers g; none if it can't be read -/
def dfl (σ : nI2) (c j : Nat) : Option (List Int32) := if σ (14, c, j) = 0 then none else some [σ (15, c, j)]
def rdFd (σ : nI2) (ρ : nN2) (g : Nat → Int32) (rc : Nat → Nat → Nat → Option (List Int32)) (c w b j : Nat) : Option (List Int32) := match srcC σ c j w with
  | none => dfl σ c j
  | some s => if rdT (σ (9, c, j)) (σ (9, w, s)) = true then (if σ (9, c, j) = 4 then rc (rf ρ c j) (rf ρ w s) (b + bgn σ ρ w s) else if σ (9, c, j) = 3 ∧ ¬ g (b + bgn σ ρ w s) < σ (10, c, j) then dfl σ c j else some [g (b + bgn σ ρ w s)]) else none
def seqR (f : Nat → Option (List Int32)) : Nat → Nat → Option (List Int32)
  | 0, _ => some []
  | k + 1, i => match f i with
    | none => none
    | some l => match seqR f k (i + 1) with
      | none => none
      | some l' => some (l ++ l')
def rdF (σ : nI2) (ρ : nN2) (g : Nat → Int32) : Nat → Nat → Nat → Nat → Option (List Int32)
  | 0, _, _, _ => none
  | f + 1, c, w, b => seqR (rdFd σ ρ g (rdF σ ρ g f) c w b) (zz σ c) 0
/-- a Row after a list was added -/
def rApp (σ : nI2) (t u : Nat) (l : List Int32) : nI2 := rAdd σ t u l.length (fun i => l.getD i 0)
theorem rApp_0 {t u : Nat} (hu : σ (4, t, 0) = nI u) : rApp σ t u [] = σ := rAdd_0 hu
theorem rApp_used {t u : Nat} {l : List Int32} : rApp σ t u l (4, t, 0) = nI (u + l.length) := if_pos rfl
theorem rApp_1 {t u : Nat} {v : Int32} (hu : σ (4, t, 0) = nI u) : up (up σ (5, t, u) v) (4, t, 0) (nI (u + 1)) = rApp σ t u [v] := by
  have := rAdd_s (σ := σ) (r := t) (u := u) (n := 0) (g := fun i => [v].getD i 0)
  rw [rAdd_0 hu] at this
  exact this
theorem rApp_app {t u : Nat} {l l' : List Int32} : rApp (rApp σ t u l) t (u + l.length) l' = rApp σ t u (l ++ l') := by
  funext w
  obtain ⟨a, b, c⟩ := w
  unfold rApp rAdd
  by_cases e : (a, b, c) = (4, t, 0)
  · rw [if_pos e, if_pos e, List.length_append, Nat.add_assoc]
  · rw [if_neg e, if_neg e, if_neg e]
    show (if a = 5 ∧ b = t ∧ u + l.length ≤ c ∧ c < u + l.length + l'.length then l'.getD (c - (u + l.length)) 0 else if a = 5 ∧ b = t ∧ u ≤ c ∧ c < u + l.length then l.getD (c - u) 0 else σ (a, b, c)) = if a = 5 ∧ b = t ∧ u ≤ c ∧ c < u + (l ++ l').length then (l ++ l').getD (c - u) 0 else σ (a, b, c)
    rw [List.length_append]
    by_cases e1 : a = 5 ∧ b = t ∧ u + l.length ≤ c ∧ c < u + l.length + l'.length
    · rw [if_pos e1, if_pos (show a = 5 ∧ b = t ∧ u ≤ c ∧ c < u + (l.length + l'.length) by omega)]
      simp only [List.getD_eq_getElem?_getD]
      rw [List.getElem?_append_right (by omega), show c - u - l.length = c - (u + l.length) by omega]
    · rw [if_neg e1]
      by_cases e2 : a = 5 ∧ b = t ∧ u ≤ c ∧ c < u + l.length
      · rw [if_pos e2, if_pos (show a = 5 ∧ b = t ∧ u ≤ c ∧ c < u + (l.length + l'.length) by omega)]
        simp only [List.getD_eq_getElem?_getD]
        rw [List.getElem?_append_left (by omega)]
      · rw [if_neg e2, if_neg (by omega)]
theorem seqR_len {σ : nI2} {ρ : nN2} {c : Nat} {f : Nat → Option (List Int32)} : ∀ k i l, (∀ j l, i ≤ j → j < i + k → f j = some l → l.length = pcs σ ρ c j) → seqR f k i = some l → bgn σ ρ c i + l.length = bgn σ ρ c (i + k) := by
  intro k
  induction k with
  | zero => intro i l _ h; cases h; rfl
  | succ k ih =>
    intro i l hf h
    unfold seqR at h
    cases e : f i with
    | none => rw [e] at h; cases h
    | some l1 =>
      rw [e] at h
      simp only [] at h
      cases e2 : seqR f k (i + 1) with
      | none => rw [e2] at h; cases h
      | some l2 =>
        rw [e2] at h
        cases h
        have h1 := hf i l1 (Nat.le_refl i) (by omega) e
        have h2 := ih (i + 1) l2 (fun j l q1 q2 => hf j l (by omega) (by omega)) e2
        have h3 : bgn σ ρ c (i + 1) = bgn σ ρ c i + pcs σ ρ c i := rfl
        rw [List.length_append, show i + (k + 1) = i + 1 + k by omega]
        omega
theorem rdFd_len0 {n : Nat} (hW : WC n σ ρ) (hP : WP n σ ρ) {g : Nat → Int32} {rc : Nat → Nat → Nat → Option (List Int32)} {c w b j : Nat} {l : List Int32} (hc : c ≤ n) (hw : w ≤ n) (hj : j < zz σ c) (ih : ∀ c' w' b' l, c' ≤ n → w' ≤ n → rc c' w' b' = some l → l.length = lnn σ c') (hl : rdFd σ ρ g rc c w b j = some l) : l.length = pcs σ ρ c j := by
  obtain ⟨g1, g2, g3⟩ := (hW c hc).2 j hj
  obtain ⟨-, g4⟩ := (hP c hc).2 j hj
  have d1 : ∀ l, dfl σ c j = some l → l.length = pcs σ ρ c j := fun l hl => by
    unfold dfl at hl
    by_cases e : σ (14, c, j) = 0
    · rw [if_pos e] at hl; cases hl
    · rw [if_neg e] at hl
      cases hl
      unfold pcs
      rw [if_pos (Classical.byContradiction fun q => e (g4 q))]
      rfl
  unfold rdFd at hl
  cases e : srcC σ c j w with
  | none => rw [e] at hl; exact d1 l hl
  | some s =>
    rw [e] at hl
    simp only [] at hl
    by_cases e1 : rdT (σ (9, c, j)) (σ (9, w, s)) = true
    · rw [if_pos e1] at hl
      by_cases e4 : σ (9, c, j) = 4
      · rw [if_pos e4] at hl
        have q := g2.1 e4
        have hs := srcC_lt e
        rw [e4] at e1
        have q2 := ((hW w hw).2 s hs).2
        have := ih _ _ _ l (by have := g3 q; omega) (by have := q2.2 (q2.1.1 (rdT_4 e1)); omega) hl
        unfold pcs
        rw [if_neg q]; exact this
      · rw [if_neg e4] at hl
        by_cases e3 : σ (9, c, j) = 3 ∧ ¬ g (b + bgn σ ρ w s) < σ (10, c, j)
        · rw [if_pos e3] at hl; exact d1 l hl
        · rw [if_neg e3] at hl
          cases hl
          unfold pcs
          rw [if_pos (Classical.byContradiction fun q => e4 (g2.2 q))]
          rfl
    · rw [if_neg e1] at hl; cases hl
theorem rdF_len {n : Nat} (hW : WC n σ ρ) (hP : WP n σ ρ) {g : Nat → Int32} : ∀ f c w b l, c ≤ n → w ≤ n → rdF σ ρ g f c w b = some l → l.length = lnn σ c := by
  intro f
  induction f with
  | zero => intro c w b l _ _ h; cases h
  | succ f ih =>
    intro c w b l hc hw h
    have := seqR_len (σ := σ) (ρ := ρ) (c := c) (zz σ c) 0 l (fun j l _ hj hl => rdFd_len0 hW hP hc hw (by omega) ih hl) h
    rw [(hP.lnn hc).1]; rw [Nat.zero_add] at this; simp only [bgn] at this; omega
theorem rdFd_len {n : Nat} (hW : WC n σ ρ) (hP : WP n σ ρ) {g : Nat → Int32} {f c w b j : Nat} {l : List Int32} (hc : c ≤ n) (hw : w ≤ n) (hj : j < zz σ c) (hl : rdFd σ ρ g (rdF σ ρ g f) c w b j = some l) : l.length = pcs σ ρ c j := rdFd_len0 hW hP hc hw hj (rdF_len hW hP f) hl
