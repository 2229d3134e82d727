/-! ===== the pure part: the class's reading is rdF ===== -/
variable {Fm : zM} {V V' : nm → Prop} {ad ad' : nm → Nat} {σ σ' : nI2} {ρ ρ' : nN2} {ξ ξ' : Nat → zE} {M : zM} {x y w : nm}
theorem rApp_row {r t u : Nat} {l : List Int32} (h : r ≠ t) : rApp σ t u l (4, r, 0) = σ (4, r, 0) ∧ ∀ j, rApp σ t u l (5, r, j) = σ (5, r, j) := by
  unfold rApp rAdd
  refine ⟨?_, fun j => ?_⟩
  · rw [if_neg (fun e => h (by cases e; rfl)), if_neg (by simp)]
  · rw [if_neg (by simp), if_neg (fun e => h e.2.1)]
theorem rAdd1 (h : zC Fm V ad σ ρ ξ M) {t u : Nat} {v : Int32} (hV : V (6, t, 0)) (hu : σ (4, t, 0) = nI u) (hu2 : u < 20) {P : zM → Prop} (hP : ∀ M', zC Fm V ad (rApp σ t u [v]) ρ ξ M' → P M') : zIs M (ad (6, t, 0)) 2 ∧ w_X1_add (ad (6, t, 0)) v M P :=
  ⟨g_is h hV rfl, r_add h hV hu hu2 fun M' h' => hP M' (by rw [← rApp_1 hu]; exact h')⟩
theorem c_dfl (h : zC Fm V ad σ ρ ξ M) {c j t u : Nat} (hF : V (8, c, j)) (hT : V (6, t, 0)) (hu : σ (4, t, 0) = nI u) (hfl : σ (14, c, j) = 0 ∨ σ (14, c, j) = 1) (hu2 : u < 20) {P : Int32 → zM → Prop}
    (h1 : ∀ l M', dfl σ c j = some l → zC Fm V ad (rApp σ t u l) ρ ξ M' → P 1 M') (h2 : ∀ l M', dfl σ c j = none → zC Fm V ad (rApp σ t u l) ρ ξ M' → P 0 M') : w_X5_readDefault (ad (8, c, j)) (ad (6, t, 0)) M P := by
  refine g_i h hF rfl rfl ⟨fun e => ?_, fun e => g_i h hF rfl rfl (rAdd1 h hT hu hu2 fun M' h' => ?_)⟩
  · have e : σ (14, c, j) = 0 := e
    refine g_i h hF rfl rfl ⟨hfl, ?_⟩
    show P (σ (14, c, j)) M
    rw [e]
    exact h2 [] M (by unfold dfl; rw [if_pos e]) (by rw [rApp_0 hu]; exact h)
  · have e : ¬ σ (14, c, j) = 0 := e
    have e1 : σ (14, c, j) = 1 := hfl.resolve_left e
    have e2 : rApp σ t u [σ (15, c, j)] (14, c, j) = 1 := (EQ.rAdd (14, c, j) (by simp) (by simp)).trans e1
    refine g_i h' hF rfl rfl ⟨Or.inr e2, ?_⟩
    show P (rApp σ t u [σ (15, c, j)] (14, c, j)) M'
    rw [e2]
    exact h1 _ M' (by unfold dfl; rw [if_neg e]) h'
theorem c_rdFd {n r t ur : Nat} {σ0 : nI2} {g : Nat → Int32} (hW : WC n σ0 ρ) (hP0 : WP n σ0 ρ) (hr20 : ur ≤ 20) (hR : V (6, r, 0)) (hT : V (6, t, 0))
    (h : zC Fm V ad σ ρ ξ M) (E : EQ σ σ0) {u : Nat} (hu : σ (4, t, 0) = nI u) (hs1 : σ (4, r, 0) = nI ur) (hs2 : ∀ j, j < ur → σ (5, r, j) = g j)
    {c w j d b : Nat} (hc : c ≤ n) (hw : w ≤ n) (hVc : V (5, c, 0)) (hVw : V (5, w, 0)) (hj : j < zz σ0 c) (hub : u + pcs σ0 ρ c j ≤ 20) (hbw : b + lnn σ0 w ≤ ur)
    {R : Option Nat → Option Nat → Nat → Int32 → Nat → Int32 → zM → (Int32 → zM → Prop) → Prop} {rc : Nat → Nat → Nat → Option (List Int32)}
    (hRc : ∀ c' w' b' (P : Int32 → zM → Prop), c' < c → w' ≤ n → V (5, c', 0) → V (5, w', 0) → u + lnn σ0 c' ≤ 20 → b' + lnn σ0 w' ≤ ur → (∀ l M', rc c' w' b' = some l → zC Fm V ad (rApp σ t u l) ρ ξ M' → P 1 M') → (∀ l M', rc c' w' b' = none → zC Fm V ad (rApp σ t u l) ρ ξ M' → P 0 M') → R (some (ad (5, c', 0))) (some (ad (5, w', 0))) (ad (6, r, 0)) (nI b') (ad (6, t, 0)) (nI (d + 1)) M P)
    {P : Int32 → zM → Prop} (h1 : ∀ l M', rdFd σ0 ρ g rc c w b j = some l → zC Fm V ad (rApp σ t u l) ρ ξ M' → P 1 M') (h2 : ∀ l M', rdFd σ0 ρ g rc c w b j = none → zC Fm V ad (rApp σ t u l) ρ ξ M' → P 0 M') : w_X5_readField R (ad (8, c, j)) (ad (5, w, 0)) (ad (6, r, 0)) (nI b) (ad (6, t, 0)) (nI d) M P := by
  have hWσ := E.WC hW
  have hjσ : j < zz σ c := by rw [E.zz]; exact hj
  have hF := s_F h hVc (hWσ c hc).1 hjσ
  obtain ⟨f1, f2, f3⟩ := (hWσ c hc).2 j hjσ
  have q9 := E (9, c, j) (by simp) (by simp)
  have q10 := E (10, c, j) (by simp) (by simp)
  have q14 := E (14, c, j) (by simp) (by simp)
  have q15 := E (15, c, j) (by simp) (by simp)
  have hdf : dfl σ c j = dfl σ0 c j := by unfold dfl; rw [q14, q15]
  have f4 := ((hP0 c hc).2 j hj).2
  have p1 : ρ (3, c, j) = 0 → u < 20 := fun q => by unfold pcs at hub; rw [if_pos q] at hub; omega
  refine ⟨g_is h hVw rfl, s_sourceOf h hF hVw (hWσ w hw).1 ?_⟩
  rw [E.srcC]
  unfold rdFd at h1 h2
  cases e : srcC σ0 c j w with
  | none =>
    rw [e] at h1 h2
    by_cases q : ρ (3, c, j) = 0
    · exact cm_none (c_dfl h hF hT hu f1 (p1 q) (fun l M' hl hm => h1 l M' (by rw [← hdf]; exact hl) hm) (fun l M' hl hm => h2 l M' (by rw [← hdf]; exact hl) hm))
    · have e0 : σ (14, c, j) = 0 := q14.trans (f4 q)
      refine cm_none (g_i h hF rfl rfl ⟨fun _ => g_i h hF rfl rfl ⟨f1, ?_⟩, fun q2 => absurd e0 q2⟩)
      show P (σ (14, c, j)) M
      rw [e0]
      exact h2 [] M (by unfold dfl; exact if_pos (f4 q)) (by rw [rApp_0 hu]; exact h)
  | some s =>
    rw [e] at h1 h2
    simp only [] at h1 h2
    have hs := srcC_lt e
    have hsσ : s < zz σ w := by rw [E.zz]; exact hs
    have hG := s_F h hVw (hWσ w hw).1 hsσ
    have w9 := E (9, w, s) (by simp) (by simp)
    refine cm_some (g_i h hG rfl rfl ⟨g_is h hF rfl, f_isRead h hF ?_⟩)
    refine br_n (fun e1 => ?_) (fun e1 => ?_)
    · have e1 : rdT (σ (9, c, j)) (σ (9, w, s)) = true := e1
      rw [q9, w9] at e1
      rw [if_pos e1] at h1 h2
      refine g_i h hG rfl rfl (g_i h hF rfl rfl ?_)
      have hbg : σ (13, w, s) = nI (bgn σ0 ρ w s) := (E (13, w, s) (by simp) (by simp)).trans ((hP0 w hw).2 s hs).1
      have hlw := (hP0.lnn hw).1
      have hmono : bgn σ0 ρ w (s + 1) ≤ bgn σ0 ρ w (zz σ0 w) := bgn_le (by omega)
      have hsucc : bgn σ0 ρ w (s + 1) = bgn σ0 ρ w s + pcs σ0 ρ w s := rfl
      show (¬ σ (9, c, j) = 4 → zIs M (ad (6, r, 0)) 2 ∧ w_X1_at (ad (6, r, 0)) (nI b + σ (13, w, s)) M _) ∧ (σ (9, c, j) = 4 → zGo M (ad (8, c, j)) 1 5 _)
      rw [hbg, nI_add]
      refine ⟨fun e4 => ?_, fun e4 => ?_⟩
      · rw [if_neg (by rw [← q9]; exact e4)] at h1 h2
        have qz : ρ (3, c, j) = 0 := Classical.byContradiction fun q => e4 (f2.2 q)
        have qs : ρ (3, w, s) = 0 := Classical.byContradiction fun q => by
          have w4 := (((hW w hw).2 s hs).2.1).2 q
          rw [w4] at e1
          have e5 : σ0 (9, c, j) = 4 := by
            simp [rdT] at e1; exact e1
          exact e4 (q9.trans e5)
        have ps : pcs σ0 ρ w s = 1 := if_pos qs
        refine ⟨g_is h hR rfl, r_at h hR hs1 hr20 (by omega) ?_⟩
        rw [hs2 _ (by omega)]
        have fin : P 1 = P 1 → (dfl σ0 c j = dfl σ0 c j) → (σ0 (9, c, j) = 3 ∧ ¬ g (b + bgn σ0 ρ w s) < σ0 (10, c, j) → False) → w_X5_readField_104 R (ad (8, c, j)) (ad (5, w, 0)) (ad (6, r, 0)) (nI b) (ad (6, t, 0)) (nI d) P (g (b + bgn σ0 ρ w s)) M := fun _ _ hn =>
          rAdd1 h hT hu (p1 qz) fun M' h' => h1 _ M' (if_neg hn) h'
        refine g_i h hF rfl rfl ⟨fun e3 => fin rfl rfl (fun q => e3 (q9.trans q.1)), fun e3 => g_i h hF rfl rfl ⟨fun e5 => fin rfl rfl (fun q => q.2 (by rw [← q10]; exact e5)), fun e5 => ?_⟩⟩
        have cond : σ0 (9, c, j) = 3 ∧ ¬ g (b + bgn σ0 ρ w s) < σ0 (10, c, j) := ⟨by rw [← q9]; exact e3, by rw [← q10]; exact e5⟩
        rw [if_pos cond] at h1 h2
        exact c_dfl h hF hT hu f1 (p1 qz) (fun l M' hl hm => h1 l M' (by rw [← hdf]; exact hl) hm) (fun l M' hl hm => h2 l M' (by rw [← hdf]; exact hl) hm)
      · rw [if_pos (by rw [← q9]; exact e4)] at h1 h2
        have e4' : σ0 (9, c, j) = 4 := q9.symm.trans e4
        rw [e4'] at e1
        obtain ⟨g1, g2, g3⟩ := (hW w hw).2 s hs
        have q1 := f2.1 e4
        have q2 := g2.1 (rdT_4 e1)
        have pc : pcs σ0 ρ c j = lnn σ0 (rf ρ c j) := if_neg q1
        have pw : pcs σ0 ρ w s = lnn σ0 (rf ρ w s) := if_neg q2
        refine f_ref h hF q1 (f_ref h hG q2 ?_)
        rw [nI_1]
        exact hRc _ _ _ _ (f3 q1) (by have := g3 q2; omega) (f_refV h hF q1) (f_refV h hG q2) (by omega) (by omega) h1 h2
    · have e1 : rdT (σ (9, c, j)) (σ (9, w, s)) = false := e1
      rw [q9, w9] at e1
      exact h2 [] M (if_neg (by rw [e1]; decide)) (by rw [rApp_0 hu]; exact h)
theorem c_rdR {n r t ur : Nat} {σ0 : nI2} {g : Nat → Int32} (hW : WC n σ0 ρ) (hP0 : WP n σ0 ρ) (hrt : r ≠ t) (hr20 : ur ≤ 20) (hR : V (6, r, 0)) (hT : V (6, t, 0)) :
    ∀ (f c w b d u : Nat) (σ : nI2) (M : zM) (P : Int32 → zM → Prop), zC Fm V ad σ ρ ξ M → EQ σ σ0 → σ (4, t, 0) = nI u → σ (4, r, 0) = nI ur → (∀ j, j < ur → σ (5, r, j) = g j) → c ≤ n → w ≤ n → V (5, c, 0) → V (5, w, 0) → c < f → c + d ≤ 40 → u + lnn σ0 c ≤ 20 → b + lnn σ0 w ≤ ur →
      (∀ l M', rdF σ0 ρ g f c w b = some l → zC Fm V ad (rApp σ t u l) ρ ξ M' → P 1 M') → (∀ l M', rdF σ0 ρ g f c w b = none → zC Fm V ad (rApp σ t u l) ρ ξ M' → P 0 M') → w_X5_readSchemaR f (some (ad (5, c, 0))) (some (ad (5, w, 0))) (ad (6, r, 0)) (nI b) (ad (6, t, 0)) (nI d) M P := by
  intro f
  induction f with
  | zero => intro c w b d u σ M P _ _ _ _ _ _ _ _ _ h; omega
  | succ f ih =>
    intro c w b d u σ M P h E hu hs1 hs2 hc hw hVc hVw hf hd huc hbw h1 h2
    refine cm_some (cm_some (br_t (nI_le (b := 40) (by omega) (by omega)) ?_))
    have hlc := (hP0.lnn hc).1
    have z5 := (hW c hc).1.2
    have key : ∀ k i l M, i + k = zz σ0 c → l.length = bgn σ0 ρ c i → zC Fm V ad (rApp σ t u l) ρ ξ M →
        (∀ l' M', seqR (rdFd σ0 ρ g (rdF σ0 ρ g f) c w b) k i = some l' → zC Fm V ad (rApp σ t u (l ++ l')) ρ ξ M' → P 1 M') → (∀ l' M', seqR (rdFd σ0 ρ g (rdF σ0 ρ g f) c w b) k i = none → zC Fm V ad (rApp σ t u l') ρ ξ M' → P 0 M') →
        w_X5_readSchemaB_20 (w_X5_readSchemaR f) (some (ad (5, c, 0))) (some (ad (5, w, 0))) (ad (6, r, 0)) (nI b) (ad (6, t, 0)) (nI d) P (k + 1) (nI i) M := by
      intro k
      induction k with
      | zero =>
        intro i l M hi hl hx k1 k2
        have E2 : EQ (rApp σ t u l) σ0 := EQ.rAdd.trans E
        have hS : Sc (rApp σ t u l) ρ c := (E2.WC hW c hc).1
        have hz : zz (rApp σ t u l) c = zz σ0 c := (EQ.rAdd.trans E : EQ (rApp σ t u l) σ0).zz c
        obtain ⟨v2, -, -, -⟩ := s_V hx hVc
        exact ⟨_, rfl, g_r hx hVc rfl rfl ⟨g_is hx v2 rfl, l_size hx v2 hS.1 (br_t (nI_le (by omega) (by omega)) (k1 [] M rfl (by rw [List.append_nil]; exact hx)))⟩⟩
      | succ k ihk =>
        intro i l M hi hl hx k1 k2
        have E2 : EQ (rApp σ t u l) σ0 := EQ.rAdd.trans E
        have hS := (E2.WC hW c hc).1
        have hz : zz (rApp σ t u l) c = zz σ0 c := E2.zz c
        obtain ⟨v2, -, -, -⟩ := s_V hx hVc
        have hmono : bgn σ0 ρ c (i + 1) ≤ bgn σ0 ρ c (zz σ0 c) := bgn_le (by omega)
        have hsucc : bgn σ0 ρ c (i + 1) = bgn σ0 ρ c i + pcs σ0 ρ c i := rfl
        refine ⟨_, rfl, g_r hx hVc rfl rfl ⟨g_is hx v2 rfl, l_size hx v2 hS.1 (br_f (nI_ge (by omega) (by omega)) (g_r hx hVc rfl rfl ⟨g_is hx v2 rfl, s_get hx hVc hS (by omega) (g_ck hx (s_F hx hVc hS (by omega)) rfl ⟨_, rfl, ?_⟩)⟩))⟩⟩
        have r1 := rApp_row (σ := σ) (u := u) (l := l) hrt
        unfold seqR at k1 k2
        refine c_rdFd hW hP0 hr20 hR hT hx E2 rApp_used (r1.1.trans hs1) (fun j hj => (r1.2 j).trans (hs2 j hj)) hc hw hVc hVw (by omega) (by omega) hbw (rc := rdF σ0 ρ g f)
          (fun c' w' b' P' a1 a2 a3 a4 a5 a6 a7 a8 => ih c' w' b' (d + 1) (u + l.length) (rApp σ t u l) M P' hx E2 rApp_used (r1.1.trans hs1) (fun j hj => (r1.2 j).trans (hs2 j hj)) (by omega) a2 a3 a4 (by omega) (by omega) a5 a6 a7 a8) (fun l1 M1 e1 hm1 => ?_) (fun l1 M1 e1 hm1 => ?_)
        · rw [e1] at k1 k2
          rw [rApp_app] at hm1
          refine br_f (by decide) (c := (1 : Int32) = 0) (A := P 0 M1) ?_ |>.symm
          rw [nI_1]
          have hlen : l1.length = pcs σ0 ρ c i := by
            exact rdFd_len hW hP0 hc hw (by omega) e1
          refine ihk (i + 1) (l ++ l1) M1 (by omega) (by rw [List.length_append]; omega) hm1 (fun l' M' e2 hm => ?_) (fun l' M' e2 hm => ?_)
          · simp only [e2] at k1
            rw [List.append_assoc] at hm
            exact k1 _ M' rfl hm
          · simp only [e2] at k2
            exact k2 l' M' trivial hm
        · rw [e1] at k2
          rw [rApp_app] at hm1
          exact (br_t (c := (0 : Int32) = 0) rfl (k2 _ M1 rfl hm1)).symm
    exact ⟨zz σ0 c + 1, key (zz σ0 c) 0 [] M (by omega) rfl (by rw [rApp_0 hu]; exact h) h1 h2⟩
