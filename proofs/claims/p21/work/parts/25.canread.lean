/-! ===== the pure part: who can read whom, in the class ===== -/
variable {Fm : zM} {V V' : nm → Prop} {ad ad' : nm → Nat} {σ σ' : nI2} {ρ ρ' : nN2} {ξ ξ' : Nat → zE} {M : zM} {x y w : nm}
theorem canF_stable {n : Nat} (hW : WC n σ ρ) : ∀ f g c w, c ≤ n → w ≤ n → c < f → c < g → canF σ ρ f c w = canF σ ρ g c w := by
  intro f
  induction f with
  | zero => intro g c w _ _ h; omega
  | succ f ih =>
    intro g c w hc hw h1 h2
    obtain ⟨g, rfl⟩ : ∃ g', g = g' + 1 := ⟨g - 1, by omega⟩
    unfold canF
    have key : ∀ j, j < zz σ c → canFd σ ρ (canF σ ρ f) c w j = canFd σ ρ (canF σ ρ g) c w j := by
      intro j hj
      unfold canFd
      cases e : srcC σ c j w with
      | none => rfl
      | some s =>
        have hs := srcC_lt e
        simp only []
        by_cases e4 : σ (9, c, j) = 4
        · by_cases e5 : rdT (σ (9, c, j)) (σ (9, w, s)) = true
          · rw [e4] at e5
            have e6 := rdT_4 e5
            have r1 := ((hW c hc).2 j hj).2
            have r2 := ((hW w hw).2 s hs).2
            have h3 := r1.2 (r1.1.1 e4)
            have h4 := r2.2 (r2.1.1 e6)
            rw [ih g (rf ρ c j) (rf ρ w s) (by omega) (by omega) (by omega) (by omega)]
          · rw [Bool.eq_false_iff.2 e5]; rfl
        · rw [if_neg e4, if_neg e4]
    rw [Bool.eq_iff_iff, allR_iff, allR_iff]
    exact ⟨fun h j j1 j2 => by rw [← key j (by omega)]; exact h j j1 j2, fun h j j1 j2 => by rw [key j (by omega)]; exact h j j1 j2⟩
theorem c_canFd (h : zC Fm V ad σ ρ ξ M) {n : Nat} (hW : WC n σ ρ) {c w j d : Nat} (hc : c ≤ n) (hw : w ≤ n) (hVc : V (5, c, 0)) (hVw : V (5, w, 0)) (hj : j < zz σ c) {R : Option Nat → Option Nat → Int32 → zM → (Int32 → zM → Prop) → Prop} {rc : Nat → Nat → Bool}
    (hR : ∀ c' w' P, c' < c → w' ≤ n → V (5, c', 0) → V (5, w', 0) → P (bI (rc c' w')) M → R (some (ad (5, c', 0))) (some (ad (5, w', 0))) (nI (d + 1)) M P) {P : Int32 → zM → Prop} (hP : P (bI (canFd σ ρ rc c w j)) M) : w_X5_canReadField R (ad (8, c, j)) (ad (5, w, 0)) (nI d) M P := by
  have hF := s_F h hVc (hW c hc).1 hj
  obtain ⟨f1, f2, f3⟩ := (hW c hc).2 j hj
  refine ⟨g_is h hVw rfl, s_sourceOf h hF hVw (hW w hw).1 ?_⟩
  unfold canFd at hP
  cases e : srcC σ c j w with
  | none =>
    rw [e] at hP
    refine cm_none (g_i h hF rfl rfl ⟨f1, ?_⟩)
    have : bI (σ (14, c, j) != 0) = σ (14, c, j) := by rcases f1 with q | q <;> rw [q] <;> decide
    rw [← this]; exact hP
  | some s =>
    rw [e] at hP
    have hs := srcC_lt e
    have hG := s_F h hVw (hW w hw).1 hs
    refine cm_some (g_i h hG rfl rfl ⟨g_is h hF rfl, f_isRead h hF ?_⟩)
    simp only [] at hP
    refine br_n (fun e1 => ?_) (fun e1 => ?_)
    · rw [e1, Bool.true_and] at hP
      refine g_i h hF rfl rfl ⟨fun e3 => g_i h hF rfl rfl ⟨fun e4 => ?_, fun e4 => ?_⟩, fun e3 => g_i h hF rfl rfl (g_i h hG rfl rfl ⟨fun e5 => ?_, fun e5 => g_i h hF rfl rfl ⟨fun e6 => ?_, fun e6 => ?_⟩⟩)⟩
      · rw [if_neg e3, if_neg e4] at hP; exact hP
      · rw [if_neg e3, if_pos e4] at hP
        have e4 : σ (9, c, j) = 4 := e4
        rw [e4] at e1
        have e6 := rdT_4 e1
        obtain ⟨g1, g2, g3⟩ := (hW w hw).2 s hs
        have q1 := f2.1 e4
        have q2 := g2.1 e6
        refine f_ref h hF q1 (f_ref h hG q2 ?_)
        rw [nI_1]
        refine hR _ _ _ (f3 q1) (by have := g3 q2; omega) (f_refV h hF q1) (f_refV h hG q2) (br_b (fun e7 => ?_) (fun e7 => ?_))
        · rw [e7] at hP; exact hP
        · rw [e7] at hP; exact hP
      · rw [if_pos e3, decide_eq_true e5, Bool.true_or] at hP; exact hP
      · rw [if_pos e3, decide_eq_false e5, Bool.false_or, show (σ (14, c, j) != 0) = false by simpa using e6] at hP; exact hP
      · rw [if_pos e3, decide_eq_false e5, Bool.false_or, show (σ (14, c, j) != 0) = true by simpa using e6] at hP; exact hP
    · rw [e1] at hP; exact hP
theorem c_canR (h : zC Fm V ad σ ρ ξ M) {n : Nat} (hW : WC n σ ρ) : ∀ f c w d P, c ≤ n → w ≤ n → V (5, c, 0) → V (5, w, 0) → c < f → c + d ≤ 40 → P (bI (canF σ ρ f c w)) M → w_X5_canReadSchemaR f (some (ad (5, c, 0))) (some (ad (5, w, 0))) (nI d) M P := by
  intro f
  induction f with
  | zero => intro c w d P _ _ _ _ h; omega
  | succ f ih =>
    intro c w d P hc hw hVc hVw hf hd hP
    obtain ⟨v2, v3, v6, v7⟩ := s_V h hVc
    have hS := (hW c hc).1
    refine cm_some (cm_some (br_t (nI_le (b := 40) (by omega) (by omega)) ?_))
    have key : ∀ k i, i + k = zz σ c → P (bI (allR (canFd σ ρ (canF σ ρ f) c w) k i)) M → w_X5_canReadSchemaB_18 (w_X5_canReadSchemaR f) (some (ad (5, c, 0))) (some (ad (5, w, 0))) (nI d) P (k + 1) (nI i) M := by
      intro k
      induction k with
      | zero =>
        intro i hi hp
        exact ⟨_, rfl, g_r h hVc rfl rfl ⟨g_is h v2 rfl, l_size h v2 hS.1 (br_t (nI_le (by omega) (by have := hS.2; omega)) hp)⟩⟩
      | succ k ihk =>
        intro i hi hp
        refine ⟨_, rfl, g_r h hVc rfl rfl ⟨g_is h v2 rfl, l_size h v2 hS.1 (br_f (nI_ge (by omega) (by have := hS.2; omega)) (g_r h hVc rfl rfl ⟨g_is h v2 rfl, s_get h hVc hS (by omega) (g_ck h (s_F h hVc hS (by omega)) rfl ⟨_, rfl, ?_⟩)⟩))⟩⟩
        unfold allR at hp
        refine c_canFd h hW hc hw hVc hVw (by omega) (rc := canF σ ρ f) (fun c' w' P' h1 h2 h3 h4 h5 => ih c' w' (d + 1) P' (by omega) h2 h3 h4 (by omega) (by omega) h5) (br_n (fun e => ?_) (fun e => ?_))
        · rw [e, Bool.true_and] at hp
          rw [nI_1]
          exact ihk (i + 1) (by omega) hp
        · rw [e, Bool.false_and] at hp; exact hp
    exact ⟨zz σ c + 1, key (zz σ c) 0 (by omega) hP⟩
def canC (σ : nI2) (ρ : nN2) (c w : Nat) : Bool := canF σ ρ 45 c w
theorem c_canRead (h : zC Fm V ad σ ρ ξ M) {n : Nat} (hW : WC n σ ρ) (hn : n ≤ 36) {c w : Nat} (hc : c ≤ n) (hw : w ≤ n) (hVc : V (5, c, 0)) (hVw : V (5, w, 0)) {P : Int32 → zM → Prop} (hP : P (bI (canC σ ρ c w)) M) : w_X5_canReadSchema (some (ad (5, c, 0))) (some (ad (5, w, 0))) 0 M P :=
  c_canR h hW 45 c w 0 P hc hw hVc hVw (by omega) (by omega) hP
