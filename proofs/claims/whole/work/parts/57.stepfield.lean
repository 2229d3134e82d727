/-! ===== the pure part: data after field ===== -/
variable {V V' : nm → Prop} {ad ad' : nm → Nat} {σ σ' τ τ' X : nI2} {ρ ρ' π π' : nN2} {ξ ξ' : Nat → zE} {M : zM} {x y w : nm} {n n' c d : Nat} {cnt cnt' : Nat → Nat}
theorem fK_n {p0 p1 p2 p3 : Int32} {k : Nat} {g : Nat → Int32} {p i q : Nat} (h4 : (p ≠ 4 ∧ p ≠ 5) ∨ i ≠ 3 + n) (h6 : (p ≠ 6 ∧ p ≠ 7) ∨ i ≠ 8 + n) (h8 : p < 8 ∨ 15 < p ∨ i ≠ n ∨ q ≠ zz σ n) : fK σ n p0 p1 p2 p3 k g (p, i, q) = σ (p, i, q) := by
  unfold fK
  rw [rAdd_n (fun e => by cases e; omega) (by simp only; omega), f3_n (fun e => by cases e; omega) (fun e => by cases e; omega) (fun e => by cases e; omega)]
  refine f1_n ?_
  by_cases e : 8 ≤ p ∧ p ≤ 15
  · refine Or.inl fun q => ?_
    cases q; omega
  · simp only; omega
theorem fK_4 {p0 p1 p2 p3 : Int32} {k : Nat} {g : Nat → Int32} : fK σ n p0 p1 p2 p3 k g (4, 3 + n, 0) = nI (lnn σ n + k) := if_pos rfl
theorem fK_7 {p0 p1 p2 p3 : Int32} {k : Nat} {g : Nat → Int32} : fK σ n p0 p1 p2 p3 k g (7, 8 + n, 0) = nI (zz σ n + 1) := by
  unfold fK
  rw [rAdd_n (fun e => by cases e) (Or.inl (by simp))]
  exact up_s _ _ _
theorem fK_5 {p0 p1 p2 p3 : Int32} {k : Nat} {g : Nat → Int32} {q : Nat} : fK σ n p0 p1 p2 p3 k g (5, 3 + n, q) = if lnn σ n ≤ q ∧ q < lnn σ n + k then g (q - lnn σ n) else σ (5, 3 + n, q) := by
  unfold fK rAdd
  rw [if_neg (fun e => by cases e)]
  by_cases e : lnn σ n ≤ q ∧ q < lnn σ n + k
  · rw [if_pos e, if_pos ⟨rfl, rfl, e⟩]
  · rw [if_neg e, if_neg (fun q => e q.2.2), f3_n (fun e => by cases e) (fun e => by cases e) (fun e => by cases e)]
    exact f1_n (Or.inr (Or.inl (by simp)))
theorem fK_8 {p0 p1 p2 p3 : Int32} {k : Nat} {g : Nat → Int32} : fK σ n p0 p1 p2 p3 k g (8, n, zz σ n) = p0 ∧ fK σ n p0 p1 p2 p3 k g (9, n, zz σ n) = p1 ∧ fK σ n p0 p1 p2 p3 k g (10, n, zz σ n) = szO p1 p2 ∧ fK σ n p0 p1 p2 p3 k g (11, n, zz σ n) = p3 ∧ fK σ n p0 p1 p2 p3 k g (12, n, zz σ n) = (if p1 = 4 then p2 else -1) ∧ fK σ n p0 p1 p2 p3 k g (14, n, zz σ n) = 0 ∧ fK σ n p0 p1 p2 p3 k g (15, n, zz σ n) = 0 := by
  have q : ∀ p, 8 ≤ p → p ≠ 13 → fK σ n p0 p1 p2 p3 k g (p, n, zz σ n) = f1 σ n (zz σ n) p0 p1 p2 p3 (if p1 = 4 then p2 else -1) (p, n, zz σ n) := fun p hp h13 => by
    unfold fK
    have ne : ∀ a i j, a < 8 ∨ a = 13 → ((p, n, zz σ n) : nm) ≠ (a, i, j) := fun a i j ha e => by have := congrArg Prod.fst e; simp only at this; omega
    rw [rAdd_n (ne _ _ _ (by omega)) (by simp only; omega), f3_n (ne _ _ _ (by omega)) (ne _ _ _ (by omega)) (ne _ _ _ (by omega))]
  refine ⟨?_, ?_, ?_, ?_, ?_, ?_, ?_⟩
  · rw [q 8 (by omega) (by omega)]; simp [f1, up]
  · rw [q 9 (by omega) (by omega)]; simp [f1, up]
  · rw [q 10 (by omega) (by omega)]; simp [f1, up]
  · rw [q 11 (by omega) (by omega)]; simp [f1, up]
  · rw [q 12 (by omega) (by omega)]; simp [f1, up]
  · rw [q 14 (by omega) (by omega)]; simp [f1, f0, up]
  · rw [q 15 (by omega) (by omega)]; simp [f1, f0, up]
theorem fK_13 {p0 p1 p2 p3 : Int32} {k : Nat} {g : Nat → Int32} : fK σ n p0 p1 p2 p3 k g (13, n, zz σ n) = nI (lnn σ n) := by
  unfold fK
  rw [rAdd_n (fun e => by cases e) (Or.inl (by simp))]
  unfold f3
  rw [up_n _ _ (fun e => by cases e), up_n _ _ (fun e => by cases e), up_s]
theorem fS_n {z ln k : Nat} {p0 p1 p2 p3 : Int32} {i q : Nat} (h : ((i = 0 ∨ 6 < i) ∨ q ≠ 180 + z) ∧ ((i ≠ 7 ∧ i ≠ 8) ∨ q ≠ 36)) : fS σ z ln k p0 p1 p2 p3 (17, i, q) = σ (17, i, q) := by
  unfold fS
  rw [up_n _ _ (fun e => by cases e; omega), up_n _ _ (fun e => by cases e; omega), up_n _ _ (fun e => by cases e; omega), up_n _ _ (fun e => by cases e; omega), up_n _ _ (fun e => by cases e; omega), up_n _ _ (fun e => by cases e; omega), up_n _ _ (fun e => by cases e; omega), up_n _ _ (fun e => by cases e; omega), up_n _ _ (fun e => by cases e)]
theorem fS_l {z ln k : Nat} {p0 p1 p2 p3 : Int32} : EQl (fS σ z ln k p0 p1 p2 p3) σ := (EQl.u (by simp)).trans ((EQl.u (by simp)).trans ((EQl.u (by simp)).trans ((EQl.u (by simp)).trans ((EQl.u (by simp)).trans ((EQl.u (by simp)).trans ((EQl.u (by simp)).trans ((EQl.u (by simp)).trans (EQl.u (by simp)))))))))
theorem fS_16 {z ln k : Nat} {p0 p1 p2 p3 : Int32} {i : Nat} (h : i ≠ 0) : fS σ z ln k p0 p1 p2 p3 (16, i, 0) = σ (16, i, 0) := by
  unfold fS
  rw [up_n _ _ (fun e => by cases e), up_n _ _ (fun e => by cases e), up_n _ _ (fun e => by cases e), up_n _ _ (fun e => by cases e), up_n _ _ (fun e => by cases e), up_n _ _ (fun e => by cases e), up_n _ _ (fun e => by cases e), up_n _ _ (fun e => by cases e), up_n _ _ (fun e => h (by cases e; rfl))]
theorem fS_c {z ln k : Nat} {p0 p1 p2 p3 : Int32} : fS σ z ln k p0 p1 p2 p3 (17, 1, 180 + z) = p0 ∧ fS σ z ln k p0 p1 p2 p3 (17, 2, 180 + z) = p1 ∧ fS σ z ln k p0 p1 p2 p3 (17, 3, 180 + z) = (if p1 ≤ 2 then 0 else p2) ∧ fS σ z ln k p0 p1 p2 p3 (17, 4, 180 + z) = p3 ∧ fS σ z ln k p0 p1 p2 p3 (17, 5, 180 + z) = 0 ∧ fS σ z ln k p0 p1 p2 p3 (17, 6, 180 + z) = 0 ∧ fS σ z ln k p0 p1 p2 p3 (17, 8, 36) = nI (ln + k) ∧ fS σ z ln k p0 p1 p2 p3 (17, 7, 36) = nI (z + 1) := by
  refine ⟨?_, ?_, ?_, ?_, ?_, ?_, ?_, ?_⟩ <;> simp [fS, up]
theorem Mor.uni {p1 p2 : Int32} {k k' : Nat} (hc6 : ∀ s, s < 6 → cnt s ≤ 6) (h : Mor cnt τ π p1 p2 k) (h' : Mor cnt τ π p1 p2 k') : k' = k := by
  rcases h with ⟨a, b⟩ | ⟨a, s, v, b, e⟩
  · rcases h' with ⟨a', b'⟩ | ⟨a', -⟩
    · rw [b, b']
    · exact absurd a' a
  · rcases h' with ⟨a', -⟩ | ⟨a', s', v', b', e'⟩
    · exact absurd a a'
    · obtain ⟨rfl, rfl⟩ := b.uni hc6 b'
      rw [e, e']
theorem All.field (h : All n cnt σ ρ) {p0 p1 p2 p3 : Int32} {k x5 : Nat} {g : Nat → Int32} (ok : OKa p0 p1 p2 p3) (hfx : FX cnt σ ρ p1 p2 x5 k g) (hf : ¬ Ful σ n p0 k) (hr : ∀ w, w ≠ (4, 8 + n, zz σ n) → w ≠ (5, 8 + n, 0) → w ≠ (3, n, zz σ n) → ρ' w = ρ w) (hr3 : ρ' (3, n, zz σ n) = x5) (hL : Ls (fK σ n p0 p1 p2 p3 k g) ρ' (8 + n) (zz σ n + 1)) : All n cnt (fS (fK σ n p0 p1 p2 p3 k g) (zz σ n) (lnn σ n) k p0 p1 p2 p3) ρ' := by
  obtain ⟨h1, h2, h3, r, s0, u, a, b, c', d', e', f⟩ := h
  have hn := h1.wk.1.2.2.1
  have c6 : ∀ s, s < 6 → cnt s ≤ 6 := fun s hs => (h1.2.1 s hs).2.1
  obtain ⟨n1, n2, n3⟩ := h1.2.2.1 n (Nat.le_refl n)
  have z5 : zz σ n < 5 := by
    have := n1.1.2
    have : ¬ zz σ n = 5 := fun q => hf (Or.inl q)
    omega
  have l20 : lnn σ n + k ≤ 20 := by
    have : ¬ 20 < lnn σ n + k := fun q => hf (Or.inr (Or.inr q))
    omega
  have ln : lnn σ n = bgn σ ρ n (zz σ n) := (h1.wp.lnn (Nat.le_refl n)).1
  obtain ⟨⟨ka, ha, ea⟩, ⟨t, ht, et⟩, -, -, hd⟩ := id ok
  have P : ∀ p i j, p ≠ 4 → p ≠ 5 → p ≠ 3 → ρ' (p, i, j) = ρ (p, i, j) := fun p i j q1 q2 q3 => hr _ (fun e => q1 (by cases e; rfl)) (fun e => q2 (by cases e; rfl)) (fun e => q3 (by cases e; rfl))
  have P3 : ∀ c j, c ≠ n ∨ j ≠ zz σ n → ρ' (3, c, j) = ρ (3, c, j) := fun c j q => hr _ (fun e => by cases e) (fun e => by cases e) (fun e => by cases e; omega)
  have P4 : ∀ l j, l ≠ 8 + n → ρ' (4, l, j) = ρ (4, l, j) := fun l j q => hr _ (fun e => q (by cases e; rfl)) (fun e => by cases e) (fun e => by cases e)
  have P5 : ∀ l, l ≠ 8 + n → ρ' (5, l, 0) = ρ (5, l, 0) := fun l q => hr _ (fun e => by cases e) (fun e => q (by cases e; rfl)) (fun e => by cases e)
  -- what is referred to
  have hx : x5 ≠ 0 → p1 = 4 ∧ x5 - 1 < n ∧ k = lnn σ (x5 - 1) ∧ (∀ q, g q = σ (5, 3 + (x5 - 1), q)) := fun q => by
    rcases hfx with ⟨-, x2, -⟩ | ⟨x1, s, v, x2, x3, x4, x6⟩
    · exact absurd x2 q
    · have hlt := ((h1.wk.2.1 s x2.1).2.2 v x2.2.1).2
      have e1 : x5 - 1 = ρ (2, s, v) := by omega
      rw [e1]
      exact ⟨x1, hlt, x4, fun q => by rw [x6]⟩
  have hx0 : x5 = 0 → ¬ p1 = 4 ∧ k = 1 ∧ (∀ q, g q = szO p1 p2) := fun q => by
    rcases hfx with ⟨x1, -, x3, x4⟩ | ⟨x1, s, v, x2, x3, x4, x6⟩
    · exact ⟨x1, x3, fun q => by rw [x4]⟩
    · omega
  have A : Ag n (fK σ n p0 p1 p2 p3 k g) σ ρ' ρ := fun c hc => ⟨fun k j q1 q2 => fK_n (by omega) (by omega) (by omega), fun j => fK_n (by omega) (by omega) (by omega), fK_n (by omega) (by omega) (by omega), fK_n (by omega) (by omega) (by omega), fun j => P3 _ _ (by omega), fun j => P4 _ _ (by omega), P5 _ (by omega)⟩
  have N : ∀ p j, 8 ≤ p → p ≤ 15 → j ≠ zz σ n → fK σ n p0 p1 p2 p3 k g (p, n, j) = σ (p, n, j) := fun p j q1 q2 q3 => fK_n (by omega) (by omega) (by omega)
  have F4 := fK_4 (σ := σ) (n := n) (p0 := p0) (p1 := p1) (p2 := p2) (p3 := p3) (k := k) (g := g)
  have F7 := fK_7 (σ := σ) (n := n) (p0 := p0) (p1 := p1) (p2 := p2) (p3 := p3) (k := k) (g := g)
  have F5 := fun q => fK_5 (σ := σ) (n := n) (p0 := p0) (p1 := p1) (p2 := p2) (p3 := p3) (k := k) (g := g) (q := q)
  obtain ⟨F8, F9, F10, F11, F12, F14, F15⟩ := fK_8 (σ := σ) (n := n) (p0 := p0) (p1 := p1) (p2 := p2) (p3 := p3) (k := k) (g := g)
  have F13 := fK_13 (σ := σ) (n := n) (p0 := p0) (p1 := p1) (p2 := p2) (p3 := p3) (k := k) (g := g)
  have FN : ∀ p i q, p < 4 → fK σ n p0 p1 p2 p3 k g (p, i, q) = σ (p, i, q) := fun p i q hp => fK_n (by omega) (by omega) (by omega)
  have F7n : ∀ l, l ≠ 8 + n → fK σ n p0 p1 p2 p3 k g (7, l, 0) = σ (7, l, 0) := fun l hl => fK_n (by omega) (by omega) (by omega)
  have FH : ∀ p i q, 16 ≤ p → fK σ n p0 p1 p2 p3 k g (p, i, q) = σ (p, i, q) := fun p i q hp => fK_n (by omega) (by omega) (by omega)
  have FR0 : ∀ p r q, p = 4 ∨ p = 5 → r < 3 → fK σ n p0 p1 p2 p3 k g (p, r, q) = σ (p, r, q) := fun p r q hp hr => fK_n (by omega) (by omega) (by omega)
  generalize hσ1 : fK σ n p0 p1 p2 p3 k g = σ1 at *
  have zn : zz σ1 n = zz σ n + 1 := by
    show (σ1 (7, 8 + n, 0)).toNatClampNeg = _
    rw [F7, nI_clamp (by omega)]
  have lnn1 : lnn σ1 n = lnn σ n + k := by
    show (σ1 (4, 3 + n, 0)).toNatClampNeg = _
    rw [F4, nI_clamp (by omega)]
  have pc : ∀ j, j < zz σ n → pcs σ1 ρ' n j = pcs σ ρ n j := fun j hj => by
    unfold pcs
    rw [P3 n j (by omega)]
    by_cases e : ρ (3, n, j) = 0
    · rw [if_pos e, if_pos e]
    · rw [if_neg e, if_neg e]
      have q := (n1.2 j hj).2.2 e
      rw [show rf ρ' n j = rf ρ n j by unfold rf; rw [P3 n j (by omega)], A.ln q]
  have bg : ∀ j, j ≤ zz σ n → bgn σ1 ρ' n j = bgn σ ρ n j := by
    intro j
    induction j with
    | zero => intro _; rfl
    | succ j ih =>
      intro hj
      show bgn σ1 ρ' n j + pcs σ1 ρ' n j = bgn σ ρ n j + pcs σ ρ n j
      rw [ih (by omega), pc j (by omega)]
  have rz : rf ρ' n (zz σ n) = x5 - 1 := by unfold rf; rw [hr3]
  have pz : pcs σ1 ρ' n (zz σ n) = k := by
    unfold pcs
    rw [hr3, rz]
    by_cases e : x5 = 0
    · rw [if_pos e, (hx0 e).2.1]
    · rw [if_neg e, A.ln (hx e).2.1, (hx e).2.2.1]
  have bz : bgn σ1 ρ' n (zz σ n + 1) = lnn σ n + k := by
    show bgn σ1 ρ' n (zz σ n) + pcs σ1 ρ' n (zz σ n) = _
    rw [bg _ (Nat.le_refl _), pz, ln]
  have hC : C0 σ1 ρ' n := by
    refine ⟨⟨⟨?_, by omega⟩, fun i hi => ?_⟩, ⟨⟨?_, ?_⟩, fun i hi => ?_⟩, fun i hi => ?_⟩
    · rw [zn]; exact hL
    · rw [zn] at hi
      by_cases e : i = zz σ n
      · subst e
        rw [F14, F9, hr3, rz]
        refine ⟨Or.inl rfl, ⟨fun q q2 => (hx0 q2).1 q, fun q => (hx q).1⟩, fun q => (hx q).2.1⟩
      · rw [N 14 i (by omega) (by omega) e, N 9 i (by omega) (by omega) e, P3 n i (by omega), show rf ρ' n i = rf ρ n i by unfold rf; rw [P3 n i (by omega)]]
        exact n1.2 i (by omega)
    · rw [zn, bz]; exact F4
    · rw [zn, bz]; exact l20
    · rw [zn] at hi
      by_cases e : i = zz σ n
      · subst e
        exact ⟨by rw [F13, bg _ (Nat.le_refl _), ln], fun _ => F14⟩
      · rw [N 13 i (by omega) (by omega) e, N 14 i (by omega) (by omega) e, P3 n i (by omega), bg _ (by omega)]
        exact n2.2 i (by omega)
    · rw [zn] at hi
      by_cases e : i = zz σ n
      · subst e
        rw [hr3, rz, bg _ (Nat.le_refl _), ← ln]
        refine ⟨fun q => ?_, fun q j hj => ?_⟩
        · obtain ⟨x1, x2, x3⟩ := hx0 q
          rw [F5, if_pos (by omega), x3, F10, F9]
          refine ⟨rfl, ?_⟩
          unfold szO
          by_cases e2 : p1 = 2
          · exact ⟨2, by omega, by rw [if_pos e2]; rfl, fun q => by rw [e2] at q; exact absurd q (by decide)⟩
          · rw [if_neg e2]
            by_cases e3 : p1 = 3
            · obtain ⟨d, d1, d2, d3⟩ := hd e3
              exact ⟨d, d2, by rw [if_pos e3]; exact d3, fun _ => by omega⟩
            · exact ⟨0, by omega, by rw [if_neg e3]; rfl, fun q => absurd q e3⟩
        · obtain ⟨x1, x2, x3, x4⟩ := hx q
          rw [A.ln x2] at hj
          rw [F5, if_pos (by omega), Nat.add_sub_cancel_left, x4, (A _ x2).2.1 j]
      · have hi' : i < zz σ n := by omega
        obtain ⟨q1, q2⟩ := n3 i hi'
        have hb1 : bgn σ ρ n (i + 1) ≤ bgn σ ρ n (zz σ n) := bgn_le (by omega)
        have hb2 : bgn σ ρ n (i + 1) = bgn σ ρ n i + pcs σ ρ n i := rfl
        rw [N 10 i (by omega) (by omega) e, N 9 i (by omega) (by omega) e, P3 n i (by omega), bg _ (by omega), show rf ρ' n i = rf ρ n i by unfold rf; rw [P3 n i (by omega)]]
        refine ⟨fun q => ?_, fun q j hj => ?_⟩
        · have : pcs σ ρ n i = 1 := if_pos q
          rw [F5, if_neg (by omega)]
          exact q1 q
        · have hlt := (n1.2 i hi').2.2 q
          have : pcs σ ρ n i = lnn σ (rf ρ n i) := if_neg q
          rw [A.ln hlt] at hj
          rw [F5, if_neg (by omega), (A _ hlt).2.1 j]
          exact q2 q j hj
  have d1 : Dat n cnt σ1 ρ' := by
    refine h1.of (fun c hc => ?_) (fun c hc => A.ln hc) (fun l hl => ⟨F7n _ (by omega), fun j => P4 _ _ (by omega), P5 _ (by omega)⟩) (P _ _ _ (by omega) (by omega) (by omega)) (fun s v hs hv => ⟨by rw [FN _ _ _ (by omega)]; exact ((h1.wk.2.1 s hs).2.2 v hv).1, P _ _ _ (by omega) (by omega) (by omega)⟩) (fun s hs => by rw [FN _ _ _ (by omega), FN _ _ _ (by omega)]; exact h1.wm s hs) (fun c _ => FN _ _ _ (by omega))
    by_cases e : c < n
    · exact A.c0 e (h1.2.2.1 c hc)
    · obtain rfl : c = n := by omega
      exact hC
  obtain ⟨S1, S2, S3, S4, S5, S6, S8, S7⟩ := fS_c (σ := σ1) (z := zz σ n) (ln := lnn σ n) (k := k) (p0 := p0) (p1 := p1) (p2 := p2) (p3 := p3)
  have R : Rel n cnt σ1 ρ' (fS σ1 (zz σ n) (lnn σ n) k p0 p1 p2 p3) := by
    have p2 : ∀ s v, s < 6 → v < cnt s → ρ' (2, s, v) = ρ (2, s, v) := fun s v _ _ => P _ _ _ (by omega) (by omega) (by omega)
    refine Rel.mk ?_ (fun c hc => ?_) (fun s hs => (h2.rs hs).same (fun v _ => ⟨P _ _ _ (by omega) (by omega) (by omega), FN _ _ _ (by omega)⟩) (FN _ _ _ (by omega)) (FN _ _ _ (by omega)) rfl ((fS_n (by omega)).trans (FH _ _ _ (by omega))) (fun _ _ => (fS_n (by omega)).trans (FH _ _ _ (by omega))) (fun _ _ => (fS_n (by omega)).trans (FH _ _ _ (by omega))) (c6 s hs) ((fS_n (by omega)).trans (FH _ _ _ (by omega))) ((fS_n (by omega)).trans (FH _ _ _ (by omega))))
    · rw [fS_16 (by omega), FH _ _ _ (by omega)]; exact h2.1
    · by_cases e : c < n
      · refine (h2.rc hc).mono A e p2 (fun _ => Nat.le_refl _) ((fS_n ?_).trans (FH _ _ _ (by omega))) ((fS_n ?_).trans (FH _ _ _ (by omega))) (fun k i _ _ hi => (fS_n ?_).trans (FH _ _ _ (by omega)))
        · rw [ix_c e]; omega
        · rw [ix_c e]; omega
        · have := (h1.2.2.1 c hc).1.1.2
          rw [ix_c e]; omega
      · obtain rfl : c = n := by omega
        obtain ⟨r1, r2, r3⟩ := h2.rc hc
        refine ⟨?_, ?_, fun i hi => ?_⟩
        · rw [zn, ix_n, S7]
        · rw [lnn1, ix_n, S8]
        · rw [zn] at hi
          rw [ix_n]
          by_cases e : i = zz σ c
          · subst e
            refine ⟨⟨S1.trans F8.symm, S2.trans F9.symm, S4.trans F11.symm, S5.trans F14.symm, S6.trans F15.symm⟩, ⟨ka, by omega, F8.trans ea⟩, ?_⟩
            show FT cnt σ1 ρ' c (zz σ c) (fS σ1 (zz σ c) (lnn σ c) k p0 p1 _ p3 (17, 3, 180 + zz σ c))
            unfold FT
            rw [S3, F9, F10, F12, hr3]
            have tt : t = 0 ∨ t = 1 ∨ t = 2 ∨ t = 3 ∨ t = 4 := by omega
            rcases hfx with ⟨x1, x2, x3, x4⟩ | ⟨x1, s, v, x2, x3, x4, x6⟩
            · rcases tt with rfl | rfl | rfl | rfl | rfl
              · rw [et]; right; right; exact ⟨Or.inl rfl, if_pos (by decide), by unfold szO; rw [if_neg (by decide), if_neg (by decide), if_neg (by decide)], if_neg (by decide), x2⟩
              · rw [et]; right; right; exact ⟨Or.inr (Or.inl rfl), if_pos (by decide), by unfold szO; rw [if_neg (by decide), if_neg (by decide), if_neg (by decide)], if_neg (by decide), x2⟩
              · rw [et]; right; right; exact ⟨Or.inr (Or.inr rfl), if_pos (by decide), by unfold szO; rw [if_pos (by decide), if_pos (by decide)], if_neg (by decide), x2⟩
              · obtain ⟨d, q1, q2, q3⟩ := hd et
                rw [et]
                right; left
                refine ⟨rfl, d, q1, q2, ?_, ?_, if_neg (by decide), x2⟩
                · rw [if_neg (by decide)]; exact q3
                · unfold szO; rw [if_neg (by decide), if_pos (by decide)]; exact q3
              · exact absurd et x1
            · rw [x1]
              left
              refine ⟨rfl, s, v, x2.1, x2.2.1, ?_, ?_, ?_, ?_⟩
              · rw [if_neg (by decide)]; exact x2.2.2.1
              · rw [if_pos rfl]; exact x2.2.2.1
              · rw [p2 s v x2.1 x2.2.1]; exact x3
              · unfold szO; rw [if_neg (by decide), if_neg (by decide)]
          · have := r3 i (by omega)
            rw [ix_n] at this
            exact this.mono (fun k q1 q2 => N k i q1 q2 e) (P3 _ _ (by omega)) p2 (fun _ => Nat.le_refl _) (fun k _ _ => (fS_n (by omega)).trans (FH _ _ _ (by omega)))
  refine ⟨fS_l.dat d1, fS_l.rel R, fun i hi => ?_, r, s0, u, (P _ _ _ (by omega) (by omega) (by omega)).trans a, (P _ _ _ (by omega) (by omega) (by omega)).trans b, c', d', e', f.1, ?_, ?_, fun i hi => ?_⟩
  · by_cases e : i = zz σ n
    · subst e; exact Or.inl S5
    · rw [fS_n (by omega), FH _ _ _ (by omega)]; exact h3 i hi
  · rw [fS_l _ (by simp), FR0 _ _ _ (by omega) (by omega)]; exact f.2.1
  · rw [fS_16 (by omega), FH _ _ _ (by omega)]; exact f.2.2.1
  · rw [fS_n (by omega), FH _ _ _ (by omega), fS_l _ (by simp), FR0 _ _ _ (by omega) (by omega)]; exact f.2.2.2 i hi
