/-! ===== the pure part: data after register ===== -/
variable {V V' : nm → Prop} {ad ad' : nm → Nat} {σ σ' τ τ' X S : nI2} {ρ ρ' π π' : nN2} {ξ ξ' : Nat → zE} {M : zM} {x y w : nm} {n n' c d s i k : Nat} {cnt cnt' : Nat → Nat}
/-- one version more -/
def uc (cnt : Nat → Nat) (s : Nat) : Nat → Nat := fun t => if t = s then cnt s + 1 else cnt t
theorem uc_s : uc cnt s s = cnt s + 1 := if_pos rfl
theorem uc_n {t : Nat} (h : t ≠ s) : uc cnt s t = cnt t := if_neg h
theorem uc_le (t : Nat) : cnt t ≤ uc cnt s t := by
  by_cases e : t = s
  · rw [e, uc_s]; omega
  · rw [uc_n e]; exact Nat.le_refl _
theorem uc_tot (hs : s < 6) : Tot (uc cnt s) = Tot cnt + 1 := by
  unfold Tot uc
  have : s = 0 ∨ s = 1 ∨ s = 2 ∨ s = 3 ∨ s = 4 ∨ s = 5 := by omega
  rcases this with rfl | rfl | rfl | rfl | rfl | rfl <;> simp <;> omega
theorem Dat.reg (h : Dat n cnt σ ρ) (hs : s < 6) (hk : cnt s < 6) (hnn : n' ≤ n + 1 ∧ n' ≤ 36 ∧ n ≤ n') (hi : i < n') (hC : ∀ c, c ≤ n' → C0 σ' ρ' c) (hN : ∀ c, c < n' → 1 ≤ lnn σ' c) (hl : ∀ l, l < 8 → l ≠ 1 → l ≠ 2 + s → σ' (7, l, 0) = σ (7, l, 0) ∧ (∀ j, ρ' (4, l, j) = ρ (4, l, j)) ∧ ρ' (5, l, 0) = ρ (5, l, 0)) (hl1 : Ls σ' ρ' 1 n') (hls : Ls σ' ρ' (2 + s) (cnt s + 1)) (h0 : ρ' (0, 0, 0) = n')
    (hv : ∀ t v, t ≠ s ∨ v ≠ cnt s → σ' (2, t, v) = σ (2, t, v) ∧ ρ' (2, t, v) = ρ (2, t, v)) (hvs : σ' (2, s, cnt s) = 0 ∧ ρ' (2, s, cnt s) = i) (hm : ∀ t, σ' (0, t, 0) = σ (0, t, 0) ∧ σ' (1, t, 0) = σ (1, t, 0)) (h3 : ∀ c, c < n' → σ' (3, c, 0) = nI c) : Dat n' (uc cnt s) σ' ρ' := by
  obtain ⟨⟨a1, a2, a3, a4⟩, b, -, d, e, f, g⟩ := h
  have q0 := hl 0 (by omega) (by omega) (by omega)
  refine ⟨⟨Ls_of q0.1 q0.2.1 q0.2.2 a1, hl1, hnn.2.1, h0⟩, fun t ht => ?_, hC, hN, fun t ht => by rw [(hm t).1, (hm t).2]; exact e t ht, h3, by rw [uc_tot hs]; omega⟩
  obtain ⟨s1, s2, s3⟩ := b t ht
  by_cases e : t = s
  · subst e
    refine ⟨by rw [uc_s]; exact hls, by rw [uc_s]; omega, fun v hv' => ?_⟩
    rw [uc_s] at hv'
    by_cases e2 : v = cnt t
    · rw [e2, hvs.1, hvs.2]; exact ⟨Or.inl rfl, hi⟩
    · rw [(hv t v (Or.inr e2)).1, (hv t v (Or.inr e2)).2]
      have := s3 v (by omega)
      exact ⟨this.1, by omega⟩
  · have q := hl (2 + t) (by omega) (by omega) (by omega)
    refine ⟨by rw [uc_n e]; exact Ls_of q.1 q.2.1 q.2.2 s1, by rw [uc_n e]; exact s2, fun v hv' => ?_⟩
    rw [uc_n e] at hv'
    rw [(hv t v (Or.inl e)).1, (hv t v (Or.inl e)).2]
    have := s3 v hv'
    exact ⟨this.1, by omega⟩
theorem Rel.reg (h : Rel n cnt σ ρ σ) (hc6 : ∀ s, s < 6 → cnt s ≤ 6) (hs : s < 6) (hk : cnt s < 6) (h9 : S (16, 9, 0) = nI n') (hRC : ∀ c, c ≤ n' → RC n' (uc cnt s) σ' ρ' S c) (hv : ∀ t v, t ≠ s ∨ v ≠ cnt s → σ' (2, t, v) = σ (2, t, v) ∧ ρ' (2, t, v) = ρ (2, t, v)) (hvs : σ' (2, s, cnt s) = 0 ∧ ρ' (2, s, cnt s) = i) (hm : ∀ t, σ' (0, t, 0) = σ (0, t, 0) ∧ σ' (1, t, 0) = σ (1, t, 0))
    (h11 : ∀ q, S (17, 11, q) = if q = 6 * s + cnt s then nI i else σ (17, 11, q)) (h12 : ∀ q, S (17, 12, q) = if q = 6 * s + cnt s then 1 else σ (17, 12, q)) (h13 : ∀ q, S (17, 13, q) = if q = s then nI (cnt s + 1) else σ (17, 13, q)) (h14 : ∀ q, S (17, 14, q) = σ (17, 14, q)) (h15 : ∀ q, S (17, 15, q) = σ (17, 15, q)) : Rel n' (uc cnt s) σ' ρ' S := by
  refine Rel.mk h9 hRC fun t ht => ?_
  obtain ⟨r1, r2, r3, r4, r5⟩ := h.rs ht
  have c6 := hc6 t ht
  by_cases e : t = s
  · subst e
    refine ⟨by rw [h13, if_pos rfl, uc_s], fun v hv' => ?_, fun v q1 q2 => ?_, by rw [h14, (hm t).1, r4], by rw [h15, (hm t).2, r5]⟩
    · rw [uc_s] at hv'
      by_cases e2 : v = cnt t
      · rw [e2, h11, h12, if_pos rfl, if_pos rfl, hvs.1, hvs.2]; exact ⟨rfl, rfl⟩
      · rw [h11, h12, if_neg (by omega), if_neg (by omega), (hv t v (Or.inr e2)).1, (hv t v (Or.inr e2)).2]; exact r2 v (by omega)
    · rw [uc_s] at q1
      rw [h12, if_neg (by omega)]; exact r3 v (by omega) q2
  · refine ⟨by rw [h13, if_neg e, uc_n e, r1], fun v hv' => ?_, fun v q1 q2 => ?_, by rw [h14, (hm t).1, r4], by rw [h15, (hm t).2, r5]⟩
    · rw [uc_n e] at hv'
      rw [h11, h12, if_neg (by omega), if_neg (by omega), (hv t v (Or.inl e)).1, (hv t v (Or.inl e)).2]; exact r2 v hv'
    · rw [uc_n e] at q1
      rw [h12, if_neg (by omega)]; exact r3 v q1 q2
theorem rgS_n {p q : Nat} (h : (p ≠ 7 ∧ p ≠ 8 ∧ p ≠ 11 ∧ p ≠ 12 ∧ p ≠ 13) ∨ ((p = 7 ∨ p = 8) ∧ q ≠ 36)) : rgS X s k i (17, p, q) = X (17, p, q) := by
  unfold rgS
  rw [up_n _ _ (fun e => by cases e; omega), up_n _ _ (fun e => by cases e; omega), up_n _ _ (fun e => by cases e; omega), up_n _ _ (fun e => by cases e; omega), up_n _ _ (fun e => by cases e; omega)]
theorem rgS_16 {p : Nat} : rgS X s k i (16, p, 0) = X (16, p, 0) := by
  unfold rgS
  rw [up_n _ _ (fun e => by cases e), up_n _ _ (fun e => by cases e), up_n _ _ (fun e => by cases e), up_n _ _ (fun e => by cases e), up_n _ _ (fun e => by cases e)]
theorem rgS_l : EQl (rgS X s k i) X := (EQl.u (by simp)).trans ((EQl.u (by simp)).trans ((EQl.u (by simp)).trans ((EQl.u (by simp)).trans (EQl.u (by simp)))))
theorem rgS_c : (∀ q, rgS X s k i (17, 11, q) = if q = 6 * s + k then nI i else X (17, 11, q)) ∧ (∀ q, rgS X s k i (17, 12, q) = if q = 6 * s + k then 1 else X (17, 12, q)) ∧ (∀ q, rgS X s k i (17, 13, q) = if q = s then nI (k + 1) else X (17, 13, q)) ∧ rgS X s k i (17, 7, 36) = 0 ∧ rgS X s k i (17, 8, 36) = 0 := by
  refine ⟨fun q => ?_, fun q => ?_, fun q => ?_, ?_, ?_⟩ <;> simp [rgS, up]
theorem va_2 : vaI σ s k (2, s, k) = 0 := by
  unfold vaI
  rw [up_n _ _ (fun e => by cases e), up_n _ _ (fun e => by cases e), up_s]
theorem va_h : EQh (vaI σ s k) σ := fun w hw _ _ => vaI_n (fun e => by rw [e] at hw; simp at hw) (fun e => by rw [e] at hw; simp at hw) (fun e => by rw [e] at hw; simp at hw)
theorem All.like (h : All n cnt σ ρ) (hs : s < 6) (hk : cnt s < 6) (hi : i < n) (hr : ∀ w, w ≠ (4, 2 + s, cnt s) → w ≠ (5, 2 + s, 0) → w ≠ (2, s, cnt s) → ρ' w = clr ρ (8 + n) (zz σ n) w) (hri : ρ' (2, s, cnt s) = i) (hL : Ls (vaI (emS σ n) s (cnt s)) ρ' (2 + s) (cnt s + 1)) (E : EQz X (vaI (emS σ n) s (cnt s))) : All n (uc cnt s) (rgS X s (cnt s) i) ρ' := by
  obtain ⟨h1, h2, h3, r, s0, u, a, b, c', d', e', f⟩ := h
  have hn := h1.wk.1.2.2.1
  have hc6 : ∀ s, s < 6 → cnt s ≤ 6 := fun s hs => (h1.2.1 s hs).2.1
  have L : ∀ p i q, p ≠ 2 → p ≠ 4 → p ≠ 6 → p ≠ 7 → vaI (emS σ n) s (cnt s) (p, i, q) = σ (p, i, q) := fun p i q q1 q2 q3 q4 => by
    rw [vaI_n (fun e => q1 (by cases e; rfl)) (fun e => q3 (by cases e; rfl)) (fun e => q4 (by cases e; rfl)), emS_n (fun e => q3 (by cases e; rfl)) (fun e => q4 (by cases e; rfl)) (fun e => q2 (by cases e; rfl))]
  have L2 : ∀ t v, t ≠ s ∨ v ≠ cnt s → vaI (emS σ n) s (cnt s) (2, t, v) = σ (2, t, v) := fun t v q => by
    rw [vaI_n (fun e => by cases e; omega) (fun e => by cases e) (fun e => by cases e), emS_n (fun e => by cases e) (fun e => by cases e) (fun e => by cases e)]
  have L4 : ∀ p i, (p = 4 ∧ i ≠ 3 + n) ∨ (p = 7 ∧ i ≠ 8 + n ∧ i ≠ 2 + s) → vaI (emS σ n) s (cnt s) (p, i, 0) = σ (p, i, 0) := fun p i q => by
    rw [vaI_n (fun e => by have := congrArg Prod.fst e; simp only at this; omega) (fun e => by cases e; omega) (fun e => by cases e; omega), emS_n (fun e => by cases e; omega) (fun e => by cases e; omega) (fun e => by cases e; omega)]
  have L5 : ∀ i q, vaI (emS σ n) s (cnt s) (5, i, q) = σ (5, i, q) := fun i q => L _ _ _ (by omega) (by omega) (by omega) (by omega)
  have P : ∀ p i j, p ≠ 4 → p ≠ 5 → p ≠ 2 → ρ' (p, i, j) = ρ (p, i, j) := fun p i j q1 q2 q3 => (hr _ (fun e => q1 (by cases e; rfl)) (fun e => q2 (by cases e; rfl)) (fun e => q3 (by cases e; rfl))).trans (clr_n _ _ _ (Or.inl q1))
  have P2 : ∀ t v, t ≠ s ∨ v ≠ cnt s → ρ' (2, t, v) = ρ (2, t, v) := fun t v q => (hr _ (fun e => by cases e) (fun e => by cases e) (fun e => by cases e; omega)).trans (clr_n _ _ _ (Or.inl (by simp)))
  have P4 : ∀ l j, l ≠ 2 + s → l ≠ 8 + n → ρ' (4, l, j) = ρ (4, l, j) := fun l j q1 q2 => (hr _ (fun e => q1 (by cases e; rfl)) (fun e => by cases e) (fun e => by cases e)).trans (clr_n _ _ _ (Or.inr q2))
  have P5 : ∀ l, l ≠ 2 + s → ρ' (5, l, 0) = ρ (5, l, 0) := fun l q1 => (hr _ (fun e => by cases e) (fun e => q1 (by cases e; rfl)) (fun e => by cases e)).trans (clr_n _ _ _ (Or.inl (by simp)))
  have A : Ag n (vaI (emS σ n) s (cnt s)) σ ρ' ρ := fun c hc => ⟨fun k j q1 q2 => L _ _ _ (by omega) (by omega) (by omega) (by omega), fun j => L5 _ _, L4 _ _ (by omega), L4 _ _ (by omega), fun j => P _ _ _ (by omega) (by omega) (by omega), fun j => P4 _ _ (by omega) (by omega), P5 _ (by omega)⟩
  have M1 : Em (vaI (emS σ n) s (cnt s)) ρ' n := by
    obtain ⟨q1, q2, q3, q4⟩ := em_em h1
    refine ⟨?_, fun j => ?_, ?_, ?_⟩
    · rw [vaI_n (fun e => by cases e) (fun e => by cases e) (fun e => by have := congrArg (fun w : nm => w.2.1) e; simp only at this; omega)]; exact q1
    · rw [hr _ (fun e => by have := congrArg (fun w : nm => w.2.1) e; simp only at this; omega) (fun e => by cases e) (fun e => by cases e)]; exact q2 j
    · rw [hr _ (fun e => by cases e) (fun e => by have := congrArg (fun w : nm => w.2.1) e; simp only at this; omega) (fun e => by cases e)]; exact q3
    · rw [vaI_n (fun e => by cases e) (fun e => by cases e) (fun e => by cases e)]; exact q4
  have va2 := va_2 (σ := emS σ n) (s := s) (k := cnt s)
  have Eh : EQh X σ := E.h.trans (va_h.trans em_h)
  generalize hσ1 : vaI (emS σ n) s (cnt s) = σ1 at *
  have hC : ∀ c, c ≤ n → C0 σ1 ρ' c := fun c hc => by
    by_cases e : c < n
    · exact A.c0 e (h1.2.2.1 c hc)
    · obtain rfl : c = n := by omega
      exact M1.c0
  have d1 : Dat n (uc cnt s) σ1 ρ' := h1.reg hs hk ⟨by omega, hn, Nat.le_refl _⟩ hi hC (fun c hc => by rw [A.ln hc]; exact h1.N0 c hc) (fun l l8 l1 ls => ⟨L4 _ _ (by omega), fun j => P4 _ _ (by omega) (by omega), P5 _ ls⟩) (Ls_of (L4 _ _ (by omega)) (fun j => P4 _ _ (by omega) (by omega)) (P5 _ (by omega)) h1.wk.1.2.1) hL ((P _ _ _ (by omega) (by omega) (by omega)).trans h1.wk.1.2.2.2) (fun t v q => ⟨L2 t v q, P2 t v q⟩) ⟨va2, hri⟩ (fun t => ⟨L _ _ _ (by omega) (by omega) (by omega) (by omega), L _ _ _ (by omega) (by omega) (by omega) (by omega)⟩) (fun c hc => (L _ _ _ (by omega) (by omega) (by omega) (by omega)).trans (h1.rank c hc))
  obtain ⟨g11, g12, g13, g7, g8⟩ := rgS_c (X := X) (s := s) (k := cnt s) (i := i)
  have R : Rel n (uc cnt s) σ1 ρ' (rgS X s (cnt s) i) := by
    refine h2.reg hc6 hs hk ?_ (fun c hc => ?_) (fun t v q => ⟨L2 t v q, P2 t v q⟩) ⟨va2, hri⟩ (fun t => ⟨L _ _ _ (by omega) (by omega) (by omega) (by omega), L _ _ _ (by omega) (by omega) (by omega) (by omega)⟩) (fun q => ?_) (fun q => ?_) (fun q => ?_) (fun q => (rgS_n (by omega)).trans (Eh.col (by omega) (by omega))) (fun q => (rgS_n (by omega)).trans (Eh.col (by omega) (by omega)))
    · rw [rgS_16]; exact (Eh _ (by simp) (by simp [scr]) (by simp)).trans h2.1
    · by_cases e : c < n
      · refine (h2.rc hc).mono A e (fun t v ht hv => P2 t v ?_) uc_le ((rgS_n (Or.inr ⟨Or.inl rfl, ?_⟩)).trans (Eh.col (by omega) (by omega))) ((rgS_n (Or.inr ⟨Or.inr rfl, ?_⟩)).trans (Eh.col (by omega) (by omega))) (fun k j _ _ _ => (rgS_n (by omega)).trans (Eh.col (by omega) (by omega)))
        · by_cases q : t = s
          · subst q; right; omega
          · exact Or.inl q
        · rw [ix_c e]; omega
        · rw [ix_c e]; omega
      · obtain rfl : c = n := by omega
        exact RC.em M1 (by rw [ix_n]; exact g7) (by rw [ix_n]; exact g8)
    · rw [g11, Eh.col (by omega) (by omega)]
    · rw [g12, Eh.col (by omega) (by omega)]
    · rw [g13, Eh.col (by omega) (by omega)]
  have El : EQl (rgS X s (cnt s) i) σ1 := rgS_l.trans E.l
  refine ⟨El.dat d1, El.rel R, fun j hj => by rw [rgS_n (by omega), Eh.col (by omega) (by omega)]; exact h3 j hj, r, s0, u, (P _ _ _ (by omega) (by omega) (by omega)).trans a, (P _ _ _ (by omega) (by omega) (by omega)).trans b, c', d', e', f.1, ?_, ?_, fun j hj => ?_⟩
  · rw [El _ (by simp), L4 _ _ (by omega)]; exact f.2.1
  · rw [rgS_16]; exact (Eh _ (by simp) (by simp [scr]) (by simp)).trans f.2.2.1
  · rw [rgS_n (by omega), Eh.col (by omega) (by omega), El _ (by simp), L5]; exact f.2.2.2 j hj
theorem nbI_l : EQl (nbI X n) X := (EQl.u (by simp)).trans ((EQl.u (by simp)).trans ((EQl.u (by simp)).trans (fun w hw => cpI_n (Or.inl (by omega)))))
theorem nbI_n {p q : Nat} (h : (6 < p ∨ q < 5 * n ∨ 5 * n + 5 ≤ q) ∧ ((p ≠ 7 ∧ p ≠ 8) ∨ q ≠ n)) : nbI X n (17, p, q) = X (17, p, q) := by
  unfold nbI
  rw [up_n _ _ (fun e => by cases e), up_n _ _ (fun e => by cases e; omega), up_n _ _ (fun e => by cases e; omega), cpI_n (by simp only; omega)]
theorem nbI_c : nbI X n (17, 7, n) = X (17, 7, 36) ∧ nbI X n (17, 8, n) = X (17, 8, 36) ∧ nbI X n (16, 9, 0) = nI (n + 1) ∧ ∀ k j, 1 ≤ k → k ≤ 6 → j < 5 → nbI X n (17, k, 5 * n + j) = X (17, k, 180 + j) := by
  refine ⟨?_, ?_, up_s _ _ _, fun k j q1 q2 q3 => ?_⟩
  · unfold nbI
    rw [up_n _ _ (fun e => by cases e), up_n _ _ (fun e => by cases e), up_s]
  · unfold nbI
    rw [up_n _ _ (fun e => by cases e), up_s]
  · unfold nbI
    rw [up_n _ _ (fun e => by cases e), up_n _ _ (fun e => by have := congrArg (fun w : nm => w.2.1) e; simp only at this; omega), up_n _ _ (fun e => by have := congrArg (fun w : nm => w.2.1) e; simp only at this; omega), cpI_y q1 q2 q3]
theorem nbI_16 : nbI X n (16, 16, 0) = X (16, 16, 0) := by
  unfold nbI
  rw [up_n _ _ (fun e => by cases e), up_n _ _ (fun e => by cases e), up_n _ _ (fun e => by cases e), cpI_n (Or.inl (by simp))]
theorem tk_h : EQh (tkI σ n) σ := fun w hw _ _ => tkI_n (by omega) (Or.inl ⟨by omega, by omega⟩) (Or.inl ⟨by omega, by omega⟩)
theorem tk_3 : tkI σ n (3, n, 0) = nI n := by
  unfold tkI
  rw [ovI_n (Or.inr (by simp only; omega)) (Or.inl (by simp)) (Or.inl (by simp))]
  unfold tk0
  rw [up_n _ _ (fun e => by cases e), up_n _ _ (fun e => by cases e), up_s]
theorem tk_3n (h : c < n) : tkI σ n (3, c, 0) = σ (3, c, 0) := by
  unfold tkI
  rw [ovI_n (Or.inr (by simp only; omega)) (Or.inl (by simp)) (Or.inl (by simp))]
  unfold tk0
  rw [up_n _ _ (fun e => by cases e), up_n _ _ (fun e => by cases e), up_n _ _ (fun e => by cases e; omega)]
theorem lnn_pos (h : Dat n cnt σ ρ) (hz : zz σ n ≠ 0) : 1 ≤ lnn σ n := by
  obtain ⟨n1, n2, n3⟩ := h.2.2.1 n (Nat.le_refl n)
  rw [(h.wp.lnn (Nat.le_refl n)).1]
  obtain ⟨z, hz⟩ : ∃ z, zz σ n = z + 1 := ⟨zz σ n - 1, by omega⟩
  rw [hz]
  show 1 ≤ bgn σ ρ n z + pcs σ ρ n z
  have : 1 ≤ pcs σ ρ n z := by
    unfold pcs
    by_cases e : ρ (3, n, z) = 0
    · rw [if_pos e]; omega
    · rw [if_neg e]; exact h.N0 _ ((n1.2 z (by omega)).2.2 e)
  omega
theorem All.new (h : All n cnt σ ρ) (hs : s < 6) (hk : cnt s < 6) (hn36 : n < 36) (hz0 : zz σ n ≠ 0) (hr : ∀ w : nm, w ≠ (4, 1, n) → w ≠ (5, 1, 0) → w ≠ (0, 0, 0) → ((w.1 ≠ 4 ∧ w.1 ≠ 5) ∨ w.2.1 ≠ 8 + (n + 1)) → w ≠ (4, 2 + s, cnt s) → w ≠ (5, 2 + s, 0) → w ≠ (2, s, cnt s) → ρ' w = ρ w) (hr0 : ρ' (0, 0, 0) = n + 1) (hri : ρ' (2, s, cnt s) = n) (hL1 : Ls (vaI (tkI σ n) s (cnt s)) ρ' 1 (n + 1)) (hL : Ls (vaI (tkI σ n) s (cnt s)) ρ' (2 + s) (cnt s + 1)) (hZ : Zs (vaI (tkI σ n) s (cnt s)) ρ' (n + 1)) (E : EQz X (vaI (tkI σ n) s (cnt s))) : All (n + 1) (uc cnt s) (rgS (nbI X n) s (cnt s) n) ρ' := by
  obtain ⟨h1, h2, h3, r, s0, u, a, b, c', d', e', f⟩ := h
  have hc6 : ∀ s, s < 6 → cnt s ≤ 6 := fun s hs => (h1.2.1 s hs).2.1
  have L : ∀ p i q, p ≠ 2 → p ≠ 3 → p ≠ 4 → p ≠ 5 → p ≠ 6 → p ≠ 7 → vaI (tkI σ n) s (cnt s) (p, i, q) = σ (p, i, q) := fun p i q q1 q2 q3 q4 q5 q6 => by
    rw [vaI_n (fun e => q1 (by cases e; rfl)) (fun e => q5 (by cases e; rfl)) (fun e => q6 (by cases e; rfl)), tkI_n q2 (Or.inl ⟨q5, q6⟩) (Or.inl ⟨q3, q4⟩)]
  have L2 : ∀ t v, t ≠ s ∨ v ≠ cnt s → vaI (tkI σ n) s (cnt s) (2, t, v) = σ (2, t, v) := fun t v q => by
    rw [vaI_n (fun e => by cases e; omega) (fun e => by cases e) (fun e => by cases e), tkI_n (by simp) (Or.inl (by simp)) (Or.inl (by simp))]
  have L4 : ∀ p i q, ((p = 4 ∨ p = 5) ∧ i ≠ 3 + (n + 1)) ∨ (p = 7 ∧ i ≠ 1 ∧ i ≠ 8 + (n + 1) ∧ i ≠ 2 + s) → vaI (tkI σ n) s (cnt s) (p, i, q) = σ (p, i, q) := fun p i q hq => by
    rw [vaI_n (fun e => by cases e; omega) (fun e => by cases e; omega) (fun e => by cases e; omega), tkI_n (by simp only; omega) (by simp only; omega) (by simp only; omega)]
  have L3 : ∀ c, vaI (tkI σ n) s (cnt s) (3, c, 0) = tkI σ n (3, c, 0) := fun c => vaI_n (fun e => by cases e) (fun e => by cases e) (fun e => by cases e)
  have P : ∀ p i j, p ≠ 4 → p ≠ 5 → p ≠ 2 → p ≠ 0 → ρ' (p, i, j) = ρ (p, i, j) := fun p i j q1 q2 q3 q4 => hr _ (fun e => q1 (by cases e; rfl)) (fun e => q2 (by cases e; rfl)) (fun e => q4 (by cases e; rfl)) (Or.inl ⟨q1, q2⟩) (fun e => q1 (by cases e; rfl)) (fun e => q2 (by cases e; rfl)) (fun e => q3 (by cases e; rfl))
  have P2 : ∀ t v, t ≠ s ∨ v ≠ cnt s → ρ' (2, t, v) = ρ (2, t, v) := fun t v q => hr _ (fun e => by cases e) (fun e => by cases e) (fun e => by cases e) (Or.inl (by simp)) (fun e => by cases e) (fun e => by cases e) (fun e => by cases e; omega)
  have P4 : ∀ l j, l ≠ 2 + s → l ≠ 1 → l ≠ 8 + (n + 1) → ρ' (4, l, j) = ρ (4, l, j) := fun l j q1 q2 q3 => hr _ (fun e => q2 (by cases e; rfl)) (fun e => by cases e) (fun e => by cases e) (Or.inr q3) (fun e => q1 (by cases e; rfl)) (fun e => by cases e) (fun e => by cases e)
  have P5 : ∀ l, l ≠ 2 + s → l ≠ 1 → l ≠ 8 + (n + 1) → ρ' (5, l, 0) = ρ (5, l, 0) := fun l q1 q2 q3 => hr _ (fun e => by cases e) (fun e => q2 (by cases e; rfl)) (fun e => by cases e) (Or.inr q3) (fun e => by cases e) (fun e => q1 (by cases e; rfl)) (fun e => by cases e)
  have A : Ag (n + 1) (vaI (tkI σ n) s (cnt s)) σ ρ' ρ := fun c hc => ⟨fun k j q1 q2 => L _ _ _ (by omega) (by omega) (by omega) (by omega) (by omega) (by omega), fun j => L4 _ _ _ (by omega), L4 _ _ _ (by omega), L4 _ _ _ (by omega), fun j => P _ _ _ (by omega) (by omega) (by omega) (by omega), fun j => P4 _ _ (by omega) (by omega) (by omega), P5 _ (by omega) (by omega) (by omega)⟩
  have M1 : Em (vaI (tkI σ n) s (cnt s)) ρ' (n + 1) := by
    obtain ⟨q1, q2, q3, q4, q5, q6, q7⟩ := hZ
    exact ⟨q4, q1, by omega, q5⟩
  have va2 := va_2 (σ := tkI σ n) (s := s) (k := cnt s)
  have Eh : EQh X σ := E.h.trans (va_h.trans tk_h)
  have t3 := tk_3 (σ := σ) (n := n)
  generalize hσ1 : vaI (tkI σ n) s (cnt s) = σ1 at *
  have hC : ∀ c, c ≤ n + 1 → C0 σ1 ρ' c := fun c hc => by
    by_cases e : c ≤ n
    · exact A.c0 (by omega) (h1.2.2.1 c e)
    · obtain rfl : c = n + 1 := by omega
      exact M1.c0
  have d1 : Dat (n + 1) (uc cnt s) σ1 ρ' := h1.reg hs hk ⟨by omega, by omega, by omega⟩ (show n < n + 1 by omega) hC (fun c hc => by
      rw [A.ln hc]
      by_cases e : c < n
      · exact h1.N0 c e
      · obtain rfl : c = n := by omega
        exact lnn_pos h1 hz0) (fun l l8 l1 ls => ⟨L4 _ _ _ (by omega), fun j => P4 _ _ (by omega) (by omega) (by omega), P5 _ ls (by omega) (by omega)⟩) hL1 hL hr0 (fun t v q => ⟨L2 t v q, P2 t v q⟩) ⟨va2, hri⟩ (fun t => ⟨L _ _ _ (by omega) (by omega) (by omega) (by omega) (by omega) (by omega), L _ _ _ (by omega) (by omega) (by omega) (by omega) (by omega) (by omega)⟩) (fun c hc => by
      rw [L3]
      by_cases e : c < n
      · rw [tk_3n e]; exact h1.rank c e
      · obtain rfl : c = n := by omega
        exact t3)
  obtain ⟨g11, g12, g13, g7, g8⟩ := rgS_c (X := nbI X n) (s := s) (k := cnt s) (i := n)
  obtain ⟨b7, b8, b9, bc⟩ := nbI_c (X := X) (n := n)
  have R : Rel (n + 1) (uc cnt s) σ1 ρ' (rgS (nbI X n) s (cnt s) n) := by
    have p2 : ∀ t v, t < 6 → v < cnt t → ρ' (2, t, v) = ρ (2, t, v) := fun t v ht hv => P2 t v (by
      by_cases q : t = s
      · subst q; right; omega
      · exact Or.inl q)
    refine h2.reg hc6 hs hk ?_ (fun c hc => ?_) (fun t v q => ⟨L2 t v q, P2 t v q⟩) ⟨va2, hri⟩ (fun t => ⟨L _ _ _ (by omega) (by omega) (by omega) (by omega) (by omega) (by omega), L _ _ _ (by omega) (by omega) (by omega) (by omega) (by omega) (by omega)⟩) (fun q => ?_) (fun q => ?_) (fun q => ?_) (fun q => ?_) (fun q => ?_)
    · rw [rgS_16]; exact b9
    · by_cases e : c < n
      · refine (h2.rc (by omega)).mono A (by omega) p2 uc_le ?_ ?_ (fun k j _ _ hj => ?_)
        · rw [ix_c e, ix_c (show c < n + 1 by omega), rgS_n (Or.inr ⟨Or.inl rfl, by omega⟩), nbI_n (by omega), Eh.col (by omega) (by omega)]
        · rw [ix_c e, ix_c (show c < n + 1 by omega), rgS_n (Or.inr ⟨Or.inr rfl, by omega⟩), nbI_n (by omega), Eh.col (by omega) (by omega)]
        · have := (h1.2.2.1 c (by omega)).1.1.2
          rw [ix_c e, ix_c (show c < n + 1 by omega), rgS_n (by omega), nbI_n (by omega), Eh.col (by omega) (by omega)]
      · by_cases e2 : c = n
        · subst e2
          refine (h2.rc (Nat.le_refl c)).mono A (by omega) p2 uc_le ?_ ?_ (fun k j q1 q2 hj => ?_)
          · rw [ix_n, ix_c (show c < c + 1 by omega), rgS_n (Or.inr ⟨Or.inl rfl, by omega⟩), b7, Eh.col (by omega) (by omega)]
          · rw [ix_n, ix_c (show c < c + 1 by omega), rgS_n (Or.inr ⟨Or.inr rfl, by omega⟩), b8, Eh.col (by omega) (by omega)]
          · have := (h1.2.2.1 c (Nat.le_refl c)).1.1.2
            rw [ix_n, ix_c (show c < c + 1 by omega), rgS_n (by omega), bc k j q1 q2 (by omega), Eh.col (by omega) (by omega)]
        · obtain rfl : c = n + 1 := by omega
          exact RC.em M1 (by rw [ix_n]; exact g7) (by rw [ix_n]; exact g8)
    · rw [g11, nbI_n (by omega), Eh.col (by omega) (by omega)]
    · rw [g12, nbI_n (by omega), Eh.col (by omega) (by omega)]
    · rw [g13, nbI_n (by omega), Eh.col (by omega) (by omega)]
    · rw [rgS_n (by omega), nbI_n (by omega), Eh.col (by omega) (by omega)]
    · rw [rgS_n (by omega), nbI_n (by omega), Eh.col (by omega) (by omega)]
  have El : EQl (rgS (nbI X n) s (cnt s) n) σ1 := rgS_l.trans (nbI_l.trans E.l)
  refine ⟨El.dat d1, El.rel R, fun j hj => by rw [rgS_n (by omega), nbI_n (by omega), Eh.col (by omega) (by omega)]; exact h3 j hj, r, s0, u, (P _ _ _ (by omega) (by omega) (by omega) (by omega)).trans a, (P _ _ _ (by omega) (by omega) (by omega) (by omega)).trans b, c', d', e', f.1, ?_, ?_, fun j hj => ?_⟩
  · rw [El _ (by simp), L4 _ _ _ (by omega)]; exact f.2.1
  · rw [rgS_16, nbI_16]; exact (Eh _ (by simp) (by simp [scr]) (by simp)).trans f.2.2.1
  · rw [rgS_n (by omega), nbI_n (by omega), Eh.col (by omega) (by omega), El _ (by simp), L4 _ _ _ (by omega)]; exact f.2.2.2 j hj
