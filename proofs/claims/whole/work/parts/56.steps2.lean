/-! ===== the pure part: data after setMode, delete, discard, byDefault ===== -/
variable {V V' : nm → Prop} {ad ad' : nm → Nat} {σ σ' τ τ' X : nI2} {ρ ρ' π π' : nN2} {ξ ξ' : Nat → zE} {M : zM} {x y w : nm} {n n' c d : Nat} {cnt cnt' : Nat → Nat}
theorem EQh.ul {k r j : Nat} {v : Int32} (hk : k < 16) : EQh (up σ (k, r, j) v) σ := fun w h _ _ => up_n _ _ (fun e => by rw [e] at h; simp only at h; omega)
theorem EQh.u {v : Int32} : EQh (up σ (16, 0, 0) v) σ := fun w _ _ h => up_n _ _ h
theorem All.modes (h : All n cnt σ ρ) {s k : Nat} {al : Int32} (hs : s < 6) (hk : k < 4) (ha : al = 0 ∨ al = 1) : All n cnt (up (up (up (up (up σ (0, s, 0) (nI k)) (1, s, 0) al) (16, 0, 0) 0) (17, 14, s) (nI k)) (17, 15, s) al) ρ := by
  obtain ⟨h1, h2, h3, r, s0, u, a, b, c, d, e, f⟩ := h
  have c6 : ∀ s, s < 6 → cnt s ≤ 6 := fun s hs => (h1.2.1 s hs).2.1
  have El : EQl (up (up (up (up (up σ (0, s, 0) (nI k)) (1, s, 0) al) (16, 0, 0) 0) (17, 14, s) (nI k)) (17, 15, s) al) (up (up σ (0, s, 0) (nI k)) (1, s, 0) al) := (EQl.u (by simp)).trans ((EQl.u (by simp)).trans (EQl.u (by simp)))
  have Eh : EQh (up (up (up σ (0, s, 0) (nI k)) (1, s, 0) al) (16, 0, 0) 0) σ := EQh.u.trans ((EQh.ul (by omega)).trans (EQh.ul (by omega)))
  generalize hX : up (up (up σ (0, s, 0) (nI k)) (1, s, 0) al) (16, 0, 0) 0 = X at El Eh ⊢
  generalize hσ2 : up (up X (17, 14, s) (nI k)) (17, 15, s) al = σ2 at El ⊢
  have L : ∀ p i j, p < 16 → 2 ≤ p → σ2 (p, i, j) = σ (p, i, j) := fun p i j q1 q2 => by
    rw [El _ q1, up_n _ _ (fun e => by cases e; omega), up_n _ _ (fun e => by cases e; omega)]
  have L0 : ∀ t, σ2 (0, t, 0) = if t = s then nI k else σ (0, t, 0) := fun t => by
    rw [El _ (by simp), up_n _ _ (fun e => by cases e)]
    by_cases e : t = s
    · subst e; rw [up_s, if_pos rfl]
    · rw [up_n _ _ (fun q => e (by cases q; rfl)), if_neg e]
  have L1 : ∀ t, σ2 (1, t, 0) = if t = s then al else σ (1, t, 0) := fun t => by
    rw [El _ (by simp)]
    by_cases e : t = s
    · subst e; rw [up_s, if_pos rfl]
    · rw [up_n _ _ (fun q => e (by cases q; rfl)), up_n _ _ (fun e => by cases e), if_neg e]
  have H : ∀ p i j, (p ≠ 17 ∨ (i ≠ 14 ∧ i ≠ 15)) → σ2 (p, i, j) = X (p, i, j) := fun p i j q => by
    rw [← hσ2, up_n _ _ (fun e => by cases e; omega), up_n _ _ (fun e => by cases e; omega)]
  have Hc : ∀ i j, i ≠ 10 → i < 14 ∨ i = 17 → σ2 (17, i, j) = σ (17, i, j) := fun i j q1 q2 => (H _ _ _ (by omega)).trans (Eh.col q1 (by omega))
  have H14 : ∀ t, σ2 (17, 14, t) = if t = s then nI k else σ (17, 14, t) := fun t => by
    rw [← hσ2, up_n _ _ (fun e => by cases e)]
    by_cases e : t = s
    · subst e; rw [up_s, if_pos rfl]
    · rw [up_n _ _ (fun q => e (by cases q; rfl)), if_neg e]; exact Eh.col (by decide) (by decide)
  have H15 : ∀ t, σ2 (17, 15, t) = if t = s then al else σ (17, 15, t) := fun t => by
    rw [← hσ2]
    by_cases e : t = s
    · subst e; rw [up_s, if_pos rfl]
    · rw [up_n _ _ (fun q => e (by cases q; rfl)), up_n _ _ (fun e => by cases e), if_neg e]; exact Eh.col (by decide) (by decide)
  have A : Ag (n + 1) σ2 σ ρ ρ := fun c _ => ⟨fun p j q1 q2 => L _ _ _ (by omega) (by omega), fun j => L _ _ _ (by omega) (by omega), L _ _ _ (by omega) (by omega), L _ _ _ (by omega) (by omega), fun _ => rfl, fun _ => rfl, rfl⟩
  refine ⟨h1.of (fun c hc => A.c0 (by omega) (h1.2.2.1 c hc)) (fun c hc => A.ln (by omega)) (fun l _ => ⟨L _ _ _ (by omega) (by omega), fun _ => rfl, rfl⟩) rfl (fun t v ht hv => ⟨by rw [L _ _ _ (by omega) (by omega)]; exact ((h1.wk.2.1 t ht).2.2 v hv).1, rfl⟩) (fun t ht => ?_) (fun c _ => L _ _ _ (by omega) (by omega)), Rel.mk ((H _ _ _ (by omega)).trans ((Eh _ (by simp) (by simp [scr]) (by simp)).trans h2.1)) (fun c hc => (h2.rc hc).mono A (by omega) (fun _ _ _ _ => rfl) (fun _ => Nat.le_refl _) (Hc _ _ (by omega) (by omega)) (Hc _ _ (by omega) (by omega)) (fun k j _ _ _ => Hc _ _ (by omega) (by omega))) (fun t ht => ?_), fun j hj => by rw [Hc _ _ (by omega) (by omega)]; exact h3 j hj, r, s0, u, a, b, c, d, e, f.1, (L _ _ _ (by omega) (by omega)).trans f.2.1, ?_, fun j hj => ?_⟩
  · rw [L0, L1]
    by_cases e : t = s
    · rw [if_pos e, if_pos e]
      refine ⟨?_, ha⟩
      have : k = 0 ∨ k = 1 ∨ k = 2 ∨ k = 3 := by omega
      rcases this with rfl | rfl | rfl | rfl <;> decide
    · rw [if_neg e, if_neg e]; exact h1.wm t ht
  · obtain ⟨r1, r2, r3, r4, r5⟩ := h2.rs ht
    refine ⟨(Hc _ _ (by omega) (by omega)).trans r1, fun v hv => ⟨(Hc _ _ (by omega) (by omega)).trans (r2 v hv).1, ?_⟩, fun v q1 q2 => (Hc _ _ (by omega) (by omega)).trans (r3 v q1 q2), ?_, ?_⟩
    · rw [Hc _ _ (by omega) (by omega), L _ _ _ (by omega) (by omega)]; exact (r2 v hv).2
    · rw [H14, L0, r4]
    · rw [H15, L1, r5]
  · rw [H _ _ _ (by omega)]; exact (Eh _ (by simp) (by simp [scr]) (by simp)).trans f.2.2.1
  · rw [Hc _ _ (by omega) (by omega), L _ _ _ (by omega) (by omega)]; exact f.2.2.2 j hj
theorem All.del (h : All n cnt σ ρ) {s v : Nat} {t : Int32} (hs : s < 6) (hv : v < cnt s) (ht : t = 0 ∨ t = 1 ∨ t = 2) : All n cnt (up (up (up σ (2, s, v) t) (16, 0, 0) 0) (17, 12, 6 * s + v) (t + 1)) ρ := by
  obtain ⟨h1, h2, h3, r, s0, u, a, b, c, d, e, f⟩ := h
  have c6 : ∀ s, s < 6 → cnt s ≤ 6 := fun s hs => (h1.2.1 s hs).2.1
  have El : EQl (up (up (up σ (2, s, v) t) (16, 0, 0) 0) (17, 12, 6 * s + v) (t + 1)) (up σ (2, s, v) t) := (EQl.u (by simp)).trans (EQl.u (by simp))
  have Eh : EQh (up (up σ (2, s, v) t) (16, 0, 0) 0) σ := EQh.u.trans (EQh.ul (by omega))
  have L : ∀ p i j, p ≠ 2 → up σ (2, s, v) t (p, i, j) = σ (p, i, j) := fun p i j q => up_n _ _ (fun e => q (by cases e; rfl))
  have A : Ag (n + 1) (up σ (2, s, v) t) σ ρ ρ := fun c _ => ⟨fun p j q1 q2 => L _ _ _ (by omega), fun j => L _ _ _ (by omega), L _ _ _ (by omega), L _ _ _ (by omega), fun _ => rfl, fun _ => rfl, rfl⟩
  have d1 : Dat n cnt (up σ (2, s, v) t) ρ := h1.of (fun c hc => A.c0 (by omega) (h1.2.2.1 c hc)) (fun c hc => A.ln (by omega)) (fun l _ => ⟨L _ _ _ (by omega), fun _ => rfl, rfl⟩) rfl (fun t' v' ht' hv' => ⟨by
    by_cases e : ((2, t', v') : nm) = (2, s, v)
    · rw [e, up_s]; exact ht
    · rw [up_n _ _ e]; exact ((h1.wk.2.1 t' ht').2.2 v' hv').1, rfl⟩) (fun t ht => by rw [L _ _ _ (by omega), L _ _ _ (by omega)]; exact h1.wm t ht) (fun c _ => L _ _ _ (by omega))
  have Hc : ∀ i j, i ≠ 10 → i ≠ 12 → i < 18 → up (up (up σ (2, s, v) t) (16, 0, 0) 0) (17, 12, 6 * s + v) (t + 1) (17, i, j) = σ (17, i, j) := fun i j q1 q2 q3 => (up_n _ _ (fun e => q2 (by cases e; rfl))).trans (Eh.col q1 q3)
  refine ⟨El.dat d1, El.rel (Rel_st hs c6 hv (Eh.rel h2)), fun j hj => by rw [Hc _ _ (by omega) (by omega) (by omega)]; exact h3 j hj, r, s0, u, a, b, c, d, e, f.1, ?_, ?_, fun j hj => ?_⟩
  · rw [El _ (by simp), L _ _ _ (by omega)]; exact f.2.1
  · rw [up_n _ _ (fun e => by cases e)]; exact (Eh _ (by simp) (by simp [scr]) (by simp)).trans f.2.2.1
  · rw [Hc _ _ (by omega) (by omega) (by omega), El _ (by simp), L _ _ _ (by omega)]; exact f.2.2.2 j hj
/-! the draft emptied -/
theorem em_ag : Ag n (emS σ n) σ (clr ρ (8 + n) d) ρ := fun c hc => ⟨fun k j q1 q2 => emS_n (fun e => by cases e; omega) (fun e => by cases e; omega) (fun e => by cases e; omega), fun j => emS_n (fun e => by cases e) (fun e => by cases e) (fun e => by cases e), emS_n (fun e => by cases e) (fun e => by cases e) (fun e => by have := congrArg (fun w : nm => w.2.1) e; simp only at this; omega), emS_n (fun e => by cases e) (fun e => by have := congrArg (fun w : nm => w.2.1) e; simp only at this; omega) (fun e => by cases e), fun j => clr_n _ _ _ (Or.inl (by simp)), fun j => clr_n _ _ _ (Or.inr (by simp only; omega)), clr_n _ _ _ (Or.inl (by simp))⟩
theorem em_em (h : Dat n cnt σ ρ) : Em (emS σ n) (clr ρ (8 + n) (zz σ n)) n := by
  obtain ⟨⟨q1, q2, q3, q4⟩, -⟩ := (h.2.2.1 n (Nat.le_refl n)).1.1
  refine ⟨?_, fun j => ?_, ?_, up_s _ _ _⟩
  · unfold emS; rw [up_n _ _ (fun e => by cases e), up_s]
  · rw [clr_4]
    by_cases e : j < zz σ n
    · rw [if_pos e]
    · rw [if_neg e]; exact Classical.byContradiction fun q => e ((q2 j).1 q)
  · rw [clr_n _ _ _ (Or.inl (by simp))]; exact q4
theorem em_dat (h : Dat n cnt σ ρ) : Dat n cnt (emS σ n) (clr ρ (8 + n) (zz σ n)) := by
  refine h.of (fun c hc => ?_) (fun c hc => (em_ag (ρ := ρ) (d := 0)).ln hc) (fun l hl => ⟨emS_n (fun e => by cases e) (fun e => by have := congrArg (fun w : nm => w.2.1) e; simp only at this; omega) (fun e => by cases e), fun j => clr_n _ _ _ (Or.inr (by simp only; omega)), clr_n _ _ _ (Or.inl (by simp))⟩) (clr_n _ _ _ (Or.inl (by simp))) (fun s v hs hv => ⟨?_, clr_n _ _ _ (Or.inl (by simp))⟩) (fun s hs => ?_) (fun c hc => emS_n (fun e => by cases e) (fun e => by cases e) (fun e => by cases e))
  · by_cases e : c < n
    · exact em_ag.c0 e (h.2.2.1 c hc)
    · obtain rfl : c = n := by omega
      exact (em_em h).c0
  · rw [emS_n (fun e => by cases e) (fun e => by cases e) (fun e => by cases e)]; exact ((h.wk.2.1 s hs).2.2 v hv).1
  · rw [emS_n (fun e => by cases e) (fun e => by cases e) (fun e => by cases e), emS_n (fun e => by cases e) (fun e => by cases e) (fun e => by cases e)]; exact h.wm s hs
theorem em_h : EQh (emS σ n) σ := fun w hw _ _ => emS_n (fun e => by rw [e] at hw; simp at hw) (fun e => by rw [e] at hw; simp at hw) (fun e => by rw [e] at hw; simp at hw)
theorem All.discard (h : All n cnt σ ρ) (E : EQz X (emS σ n)) : All n cnt (up (up X (17, 7, 36) 0) (17, 8, 36) 0) (clr ρ (8 + n) (zz σ n)) := by
  obtain ⟨h1, h2, h3, r, s0, u, a, b, c, d, e, f⟩ := h
  have hn := h1.wk.1.2.2.1
  have El : EQl (up (up X (17, 7, 36) 0) (17, 8, 36) 0) (emS σ n) := (EQl.u (by simp)).trans ((EQl.u (by simp)).trans E.l)
  have Eh : EQh X σ := E.h.trans em_h
  have H : ∀ i j, i ≠ 10 → i < 18 → ((i ≠ 7 ∧ i ≠ 8) ∨ j ≠ 36) → up (up X (17, 7, 36) 0) (17, 8, 36) 0 (17, i, j) = σ (17, i, j) := fun i j q1 q2 q3 => by
    rw [up_n _ _ (fun e => by cases e; omega), up_n _ _ (fun e => by cases e; omega)]; exact Eh.col q1 q2
  have H16 : ∀ i, i ≠ 0 → up (up X (17, 7, 36) 0) (17, 8, 36) 0 (16, i, 0) = σ (16, i, 0) := fun i hi => by
    rw [up_n _ _ (fun e => by cases e), up_n _ _ (fun e => by cases e)]; exact Eh _ (by simp) (by simp [scr]) (fun e => hi (by cases e; rfl))
  have L : ∀ p i j, p ≠ 4 ∧ p ≠ 6 ∧ p ≠ 7 → emS σ n (p, i, j) = σ (p, i, j) := fun p i j q => emS_n (fun e => q.2.1 (by cases e; rfl)) (fun e => q.2.2 (by cases e; rfl)) (fun e => q.1 (by cases e; rfl))
  have P : ∀ p i j, p ≠ 4 → clr ρ (8 + n) (zz σ n) (p, i, j) = ρ (p, i, j) := fun p i j q => clr_n _ _ _ (Or.inl q)
  have R : Rel n cnt (emS σ n) (clr ρ (8 + n) (zz σ n)) (up (up X (17, 7, 36) 0) (17, 8, 36) 0) := by
    refine Rel.mk ((H16 9 (by omega)).trans h2.1) (fun c hc => ?_) (fun s hs => (h2.rs hs).same (fun v _ => ⟨P _ _ _ (by omega), L _ _ _ (by omega)⟩) (L _ _ _ (by omega)) (L _ _ _ (by omega)) rfl (H _ _ (by omega) (by omega) (by omega)) (fun _ _ => H _ _ (by omega) (by omega) (by omega)) (fun _ _ => H _ _ (by omega) (by omega) (by omega)) (h1.2.1 s hs).2.1 (H _ _ (by omega) (by omega) (by omega)) (H _ _ (by omega) (by omega) (by omega)))
    by_cases e : c < n
    · refine (h2.rc hc).mono em_ag e (fun _ _ _ _ => P _ _ _ (by omega)) (fun _ => Nat.le_refl _) (H _ _ (by omega) (by omega) (Or.inr ?_)) (H _ _ (by omega) (by omega) (Or.inr ?_)) (fun k j _ _ _ => H _ _ (by omega) (by omega) (Or.inl (by omega)))
      · rw [ix_c e]; omega
      · rw [ix_c e]; omega
    · obtain rfl : c = n := by omega
      refine RC.em (em_em h1) ?_ ?_
      · rw [ix_n, up_n _ _ (fun e => by cases e), up_s]
      · rw [ix_n, up_s]
  refine ⟨El.dat (em_dat h1), El.rel R, fun j hj => by rw [H _ _ (by omega) (by omega) (by omega)]; exact h3 j hj, r, s0, u, (P _ _ _ (by omega)).trans a, (P _ _ _ (by omega)).trans b, c, d, e, f.1, ?_, ?_, fun j hj => ?_⟩
  · rw [El _ (by simp), emS_n (fun e => by cases e) (fun e => by cases e) (fun e => by have := congrArg (fun w : nm => w.2.1) e; simp only at this; omega)]; exact f.2.1
  · exact (H16 16 (by omega)).trans f.2.2.1
  · rw [H _ _ (by omega) (by omega) (by omega), El _ (by simp), L _ _ _ (by omega)]; exact f.2.2.2 j hj
/-! a default for the draft's last field -/
theorem All.byDefault (h : All n cnt σ ρ) {j : Nat} {p : Int32} (hj : zz σ n = j + 1) (h4 : ¬ σ (9, n, j) = 4) : All n cnt (up (up (up (up (up σ (14, n, j) 1) (15, n, j) p) (16, 0, 0) 0) (17, 5, 180 + j) 1) (17, 6, 180 + j) p) ρ := by
  obtain ⟨h1, h2, h3, r, s0, u, a, b, c, d, e, f⟩ := h
  have hn := h1.wk.1.2.2.1
  have z5 := (h1.2.2.1 n (Nat.le_refl n)).1.1.2
  have El : EQl (up (up (up (up (up σ (14, n, j) 1) (15, n, j) p) (16, 0, 0) 0) (17, 5, 180 + j) 1) (17, 6, 180 + j) p) (up (up σ (14, n, j) 1) (15, n, j) p) := (EQl.u (by simp)).trans ((EQl.u (by simp)).trans (EQl.u (by simp)))
  have Eh : EQh (up (up (up σ (14, n, j) 1) (15, n, j) p) (16, 0, 0) 0) σ := EQh.u.trans ((EQh.ul (by omega)).trans (EQh.ul (by omega)))
  have L : ∀ k i q, ((k ≠ 14 ∧ k ≠ 15) ∨ i ≠ n ∨ q ≠ j) → up (up σ (14, n, j) 1) (15, n, j) p (k, i, q) = σ (k, i, q) := fun k i q hq => by
    rw [up_n _ _ (fun e => by cases e; omega), up_n _ _ (fun e => by cases e; omega)]
  have L14 : up (up σ (14, n, j) 1) (15, n, j) p (14, n, j) = 1 := by rw [up_n _ _ (fun e => by cases e), up_s]
  have L15 : up (up σ (14, n, j) 1) (15, n, j) p (15, n, j) = p := up_s _ _ _
  have H : ∀ i q, i ≠ 10 → i < 18 → ((i ≠ 5 ∧ i ≠ 6) ∨ q ≠ 180 + j) → up (up (up (up (up σ (14, n, j) 1) (15, n, j) p) (16, 0, 0) 0) (17, 5, 180 + j) 1) (17, 6, 180 + j) p (17, i, q) = σ (17, i, q) := fun i q q1 q2 q3 => by
    rw [up_n _ _ (fun e => by cases e; omega), up_n _ _ (fun e => by cases e; omega)]; exact Eh.col q1 q2
  have H5 : up (up (up (up (up σ (14, n, j) 1) (15, n, j) p) (16, 0, 0) 0) (17, 5, 180 + j) 1) (17, 6, 180 + j) p (17, 5, 180 + j) = 1 := by rw [up_n _ _ (fun e => by cases e), up_s]
  have H6 : up (up (up (up (up σ (14, n, j) 1) (15, n, j) p) (16, 0, 0) 0) (17, 5, 180 + j) 1) (17, 6, 180 + j) p (17, 6, 180 + j) = p := up_s _ _ _
  generalize hσ1 : up (up σ (14, n, j) 1) (15, n, j) p = σ1 at *
  have A : Ag n σ1 σ ρ ρ := fun c hc => ⟨fun k i q1 q2 => L _ _ _ (by omega), fun i => L _ _ _ (by omega), L _ _ _ (by omega), L _ _ _ (by omega), fun _ => rfl, fun _ => rfl, rfl⟩
  have zn : zz σ1 n = zz σ n := by unfold zz; rw [L _ _ _ (by omega)]
  have ln : ∀ c, lnn σ1 c = lnn σ c := fun c => by unfold lnn; rw [L _ _ _ (by omega)]
  have pc : ∀ c i, pcs σ1 ρ c i = pcs σ ρ c i := fun c i => by unfold pcs; rw [ln]
  have bg : ∀ c i, bgn σ1 ρ c i = bgn σ ρ c i := fun c i => by
    induction i with
    | zero => rfl
    | succ i ih =>
      show bgn σ1 ρ c i + pcs σ1 ρ c i = bgn σ ρ c i + pcs σ ρ c i
      rw [ih, pc]
  obtain ⟨n1, n2, n3⟩ := h1.2.2.1 n (Nat.le_refl n)
  have hC : C0 σ1 ρ n := by
    refine ⟨⟨⟨?_, ?_⟩, fun i hi => ?_⟩, ⟨⟨?_, ?_⟩, fun i hi => ?_⟩, fun i hi => ?_⟩
    · rw [zn]; exact Ls_of (L _ _ _ (by omega)) (fun _ => rfl) rfl n1.1.1
    · rw [zn]; exact n1.1.2
    · rw [zn] at hi
      obtain ⟨q1, q2, q3⟩ := n1.2 i hi
      refine ⟨?_, by rw [L _ _ _ (by omega)]; exact q2, q3⟩
      by_cases e : i = j
      · subst e; rw [L14]; exact Or.inr rfl
      · rw [L _ _ _ (by omega)]; exact q1
    · rw [zn, bg, L _ _ _ (by omega)]; exact n2.1.1
    · rw [zn, bg]; exact n2.1.2
    · rw [zn] at hi
      obtain ⟨q1, q2⟩ := n2.2 i hi
      refine ⟨by rw [bg, L _ _ _ (by omega)]; exact q1, fun q => ?_⟩
      by_cases e : i = j
      · subst e; exact absurd ((n1.2 i hi).2.1.2 q) h4
      · rw [L _ _ _ (by omega)]; exact q2 q
    · rw [zn] at hi
      obtain ⟨q1, q2⟩ := n3 i hi
      rw [bg, ln, L _ _ _ (by omega), L _ _ _ (by omega), L _ _ _ (by omega)]
      refine ⟨q1, fun q k hk => ?_⟩
      rw [L _ _ _ (by omega), L _ _ _ (by omega)]; exact q2 q k hk
  have d1 : Dat n cnt σ1 ρ := by
    refine h1.of (fun c hc => ?_) (fun c _ => ln c) (fun l _ => ⟨L _ _ _ (by omega), fun _ => rfl, rfl⟩) rfl (fun s v hs hv => ⟨by rw [L _ _ _ (by omega)]; exact ((h1.wk.2.1 s hs).2.2 v hv).1, rfl⟩) (fun s hs => by rw [L _ _ _ (by omega), L _ _ _ (by omega)]; exact h1.wm s hs) (fun c _ => L _ _ _ (by omega))
    by_cases e : c < n
    · exact A.c0 e (h1.2.2.1 c hc)
    · obtain rfl : c = n := by omega
      exact hC
  have R : Rel n cnt σ1 ρ (up (up (up σ1 (16, 0, 0) 0) (17, 5, 180 + j) 1) (17, 6, 180 + j) p) := by
    refine Rel.mk ?_ (fun c hc => ?_) (fun s hs => (h2.rs hs).same (fun v _ => ⟨rfl, L _ _ _ (by omega)⟩) (L _ _ _ (by omega)) (L _ _ _ (by omega)) rfl (H _ _ (by omega) (by omega) (by omega)) (fun _ _ => H _ _ (by omega) (by omega) (by omega)) (fun _ _ => H _ _ (by omega) (by omega) (by omega)) (h1.2.1 s hs).2.1 (H _ _ (by omega) (by omega) (by omega)) (H _ _ (by omega) (by omega) (by omega)))
    · rw [up_n _ _ (fun e => by cases e), up_n _ _ (fun e => by cases e)]; exact (Eh _ (by simp) (by simp [scr]) (by simp)).trans h2.1
    · by_cases e : c < n
      · refine (h2.rc hc).mono A e (fun _ _ _ _ => rfl) (fun _ => Nat.le_refl _) (H _ _ (by omega) (by omega) (by omega)) (H _ _ (by omega) (by omega) (by omega)) (fun k i _ _ hi => H _ _ (by omega) (by omega) (Or.inr ?_))
        have := (h1.2.2.1 c hc).1.1.2
        rw [ix_c e]; omega
      · obtain rfl : c = n := by omega
        obtain ⟨r1, r2, r3⟩ := h2.rc hc
        refine ⟨?_, ?_, fun i hi => ?_⟩
        · rw [zn, H _ _ (by omega) (by omega) (by omega)]; exact r1
        · rw [ln, H _ _ (by omega) (by omega) (by omega)]; exact r2
        · rw [zn] at hi
          rw [ix_n]
          have := r3 i hi
          rw [ix_n] at this
          by_cases e : i = j
          · subst e
            obtain ⟨⟨f1, f2, f4, f5, f6⟩, fa, fT⟩ := this
            refine ⟨⟨?_, ?_, ?_, ?_, ?_⟩, ?_, ?_⟩
            · rw [L _ _ _ (by omega)]; exact (H _ _ (by omega) (by omega) (by omega)).trans f1
            · rw [L _ _ _ (by omega)]; exact (H _ _ (by omega) (by omega) (by omega)).trans f2
            · rw [L _ _ _ (by omega)]; exact (H _ _ (by omega) (by omega) (by omega)).trans f4
            · rw [L14]; exact H5
            · rw [L15]; exact H6
            · rw [L _ _ _ (by omega)]; exact fa
            · unfold FT at fT ⊢
              rw [L _ _ _ (by omega), L _ _ _ (by omega), L _ _ _ (by omega), H _ _ (by omega) (by omega) (by omega)]
              exact fT
          · exact this.mono (fun k _ _ => L _ _ _ (by omega)) rfl (fun _ _ _ _ => rfl) (fun _ => Nat.le_refl _) (fun k _ _ => H _ _ (by omega) (by omega) (Or.inr (by omega)))
  refine ⟨El.dat d1, El.rel R, fun i hi => ?_, r, s0, u, a, b, c, d, e, f.1, ?_, ?_, fun i hi => ?_⟩
  · by_cases e : i = j
    · subst e; rw [H5]; exact Or.inr rfl
    · rw [H _ _ (by omega) (by omega) (Or.inr (by omega))]; exact h3 i hi
  · rw [El _ (by simp), L _ _ _ (by omega)]; exact f.2.1
  · rw [up_n _ _ (fun e => by cases e), up_n _ _ (fun e => by cases e)]; exact (Eh _ (by simp) (by simp [scr]) (by simp)).trans f.2.2.1
  · rw [H _ _ (by omega) (by omega) (by omega), El _ (by simp), L _ _ _ (by omega)]; exact f.2.2.2 i hi
