/-! ===== the pure part: data after calls that change little ===== -/
variable {V V' : nm → Prop} {ad ad' : nm → Nat} {σ σ' τ τ' X : nI2} {ρ ρ' π π' : nN2} {ξ ξ' : Nat → zE} {M : zM} {x y w : nm} {n n' c d : Nat} {cnt cnt' : Nat → Nat}
theorem Dat.of (h : Dat n cnt σ ρ) (hC : ∀ c, c ≤ n → C0 σ' ρ' c) (hN : ∀ c, c < n → lnn σ' c = lnn σ c) (hl : ∀ l, l < 8 → σ' (7, l, 0) = σ (7, l, 0) ∧ (∀ j, ρ' (4, l, j) = ρ (4, l, j)) ∧ ρ' (5, l, 0) = ρ (5, l, 0)) (h0 : ρ' (0, 0, 0) = ρ (0, 0, 0)) (hv : ∀ s v, s < 6 → v < cnt s → (σ' (2, s, v) = 0 ∨ σ' (2, s, v) = 1 ∨ σ' (2, s, v) = 2) ∧ ρ' (2, s, v) = ρ (2, s, v)) (hm : WM σ') (h3 : ∀ c, c < n → σ' (3, c, 0) = σ (3, c, 0)) : Dat n cnt σ' ρ' := by
  obtain ⟨⟨a1, a2, a3, a4⟩, b, -, d, -, f, g⟩ := h
  refine ⟨⟨Ls_of (hl 0 (by omega)).1 (hl 0 (by omega)).2.1 (hl 0 (by omega)).2.2 a1, Ls_of (hl 1 (by omega)).1 (hl 1 (by omega)).2.1 (hl 1 (by omega)).2.2 a2, a3, h0.trans a4⟩, fun s hs => ?_, hC, fun c hc => by rw [hN c hc]; exact d c hc, hm, fun c hc => (h3 c hc).trans (f c hc), g⟩
  obtain ⟨s1, s2, s3⟩ := b s hs
  have q := hl (2 + s) (by omega)
  exact ⟨Ls_of q.1 q.2.1 q.2.2 s1, s2, fun v hv' => ⟨(hv s v hs hv').1, by rw [(hv s v hs hv').2]; exact (s3 v hv').2⟩⟩
def RC (n : Nat) (cnt : Nat → Nat) (τ : nI2) (π : nN2) (σ : nI2) (c : Nat) : Prop := σ (17, 7, ix n c) = nI (zz τ c) ∧ σ (17, 8, ix n c) = nI (lnn τ c) ∧ ∀ j, j < zz τ c → FR cnt τ π σ c j (5 * ix n c + j)
def RS (cnt : Nat → Nat) (τ : nI2) (π : nN2) (σ : nI2) (s : Nat) : Prop := σ (17, 13, s) = nI (cnt s) ∧ (∀ v, v < cnt s → σ (17, 11, 6 * s + v) = nI (π (2, s, v)) ∧ σ (17, 12, 6 * s + v) = τ (2, s, v) + 1) ∧ (∀ v, cnt s ≤ v → v < 6 → σ (17, 12, 6 * s + v) = 0) ∧ σ (17, 14, s) = τ (0, s, 0) ∧ σ (17, 15, s) = τ (1, s, 0)
theorem Rel.mk (h1 : σ (16, 9, 0) = nI n) (h2 : ∀ c, c ≤ n → RC n cnt τ π σ c) (h3 : ∀ s, s < 6 → RS cnt τ π σ s) : Rel n cnt τ π σ := ⟨h1, h2, h3⟩
theorem Rel.rc (h : Rel n cnt τ π σ) (hc : c ≤ n) : RC n cnt τ π σ c := h.2.1 c hc
theorem Rel.rs (h : Rel n cnt τ π σ) {s : Nat} (hs : s < 6) : RS cnt τ π σ s := h.2.2 s hs
theorem FT.mono {j : Nat} {D : Int32} (h9 : ∀ k, 8 ≤ k → k ≤ 15 → τ' (k, c, j) = τ (k, c, j)) (h3 : π' (3, c, j) = π (3, c, j)) (h2 : ∀ s v, s < 6 → v < cnt s → π' (2, s, v) = π (2, s, v)) (hc : ∀ s, cnt s ≤ cnt' s) (h : FT cnt τ π c j D) : FT cnt' τ' π' c j D := by
  unfold FT at h ⊢
  rw [h9 9 (by omega) (by omega), h9 10 (by omega) (by omega), h9 12 (by omega) (by omega), h3]
  rcases h with ⟨a, s, v, b1, b2, b3, b4, b5, b6⟩ | h | h
  · exact Or.inl ⟨a, s, v, b1, Nat.lt_of_lt_of_le b2 (hc s), b3, b4, by rw [h2 s v b1 b2]; exact b5, b6⟩
  · exact Or.inr (Or.inl h)
  · exact Or.inr (Or.inr h)
theorem FR.mono {j p p' : Nat} (h9 : ∀ k, 8 ≤ k → k ≤ 15 → τ' (k, c, j) = τ (k, c, j)) (h3 : π' (3, c, j) = π (3, c, j)) (h2 : ∀ s v, s < 6 → v < cnt s → π' (2, s, v) = π (2, s, v)) (hc : ∀ s, cnt s ≤ cnt' s) (hσ : ∀ k, 1 ≤ k → k ≤ 6 → σ' (17, k, p') = σ (17, k, p)) (h : FR cnt τ π σ c j p) : FR cnt' τ' π' σ' c j p' := by
  obtain ⟨⟨a1, a2, a3, a4, a5⟩, b, d⟩ := h
  refine ⟨⟨?_, ?_, ?_, ?_, ?_⟩, ?_, ?_⟩
  · rw [hσ 1 (by omega) (by omega), h9 8 (by omega) (by omega)]; exact a1
  · rw [hσ 2 (by omega) (by omega), h9 9 (by omega) (by omega)]; exact a2
  · rw [hσ 4 (by omega) (by omega), h9 11 (by omega) (by omega)]; exact a3
  · rw [hσ 5 (by omega) (by omega), h9 14 (by omega) (by omega)]; exact a4
  · rw [hσ 6 (by omega) (by omega), h9 15 (by omega) (by omega)]; exact a5
  · rw [h9 8 (by omega) (by omega)]; exact b
  · rw [hσ 3 (by omega) (by omega)]; exact d.mono h9 h3 h2 hc
theorem RC.mono (A : Ag d τ' τ π' π) (hcd : c < d) (h2 : ∀ s v, s < 6 → v < cnt s → π' (2, s, v) = π (2, s, v)) (hc : ∀ s, cnt s ≤ cnt' s) (h7 : σ' (17, 7, ix n' c) = σ (17, 7, ix n c)) (h8 : σ' (17, 8, ix n' c) = σ (17, 8, ix n c)) (hσ : ∀ k j, 1 ≤ k → k ≤ 6 → j < zz τ c → σ' (17, k, 5 * ix n' c + j) = σ (17, k, 5 * ix n c + j)) (h : RC n cnt τ π σ c) : RC n' cnt' τ' π' σ' c := by
  obtain ⟨r1, r2, r3⟩ := h
  obtain ⟨a1, -, -, -, a5, -, -⟩ := A c hcd
  refine ⟨?_, ?_, fun j hj => ?_⟩
  · rw [A.zq hcd, h7]; exact r1
  · rw [A.ln hcd, h8]; exact r2
  · rw [A.zq hcd] at hj
    exact (r3 j hj).mono (fun k k1 k2 => a1 k j k1 k2) (a5 j) h2 hc (fun k k1 k2 => hσ k j k1 k2 hj)
theorem RC.em (h : Em τ π c) (h7 : σ (17, 7, ix n c) = 0) (h8 : σ (17, 8, ix n c) = 0) : RC n cnt τ π σ c := by
  refine ⟨?_, ?_, fun j hj => ?_⟩
  · rw [h.z, h7]; rfl
  · rw [h.l, h8]; rfl
  · rw [h.z] at hj; omega
theorem RS.same {s : Nat} (h2 : ∀ v, v < cnt s → π' (2, s, v) = π (2, s, v) ∧ τ' (2, s, v) = τ (2, s, v)) (h0 : τ' (0, s, 0) = τ (0, s, 0)) (h1 : τ' (1, s, 0) = τ (1, s, 0)) (hc : cnt' s = cnt s) (h13 : σ' (17, 13, s) = σ (17, 13, s)) (h11 : ∀ v, v < cnt s → σ' (17, 11, 6 * s + v) = σ (17, 11, 6 * s + v)) (h12 : ∀ v, v < 6 → σ' (17, 12, 6 * s + v) = σ (17, 12, 6 * s + v)) (h6 : cnt s ≤ 6) (h14 : σ' (17, 14, s) = σ (17, 14, s)) (h15 : σ' (17, 15, s) = σ (17, 15, s)) (h : RS cnt τ π σ s) : RS cnt' τ' π' σ' s := by
  obtain ⟨r1, r2, r3, r4, r5⟩ := h
  refine ⟨?_, fun v hv => ?_, fun v q1 q2 => ?_, ?_, ?_⟩
  · rw [h13, hc]; exact r1
  · rw [hc] at hv
    rw [h11 v hv, h12 v (by omega), (h2 v hv).1, (h2 v hv).2]; exact r2 v hv
  · rw [hc] at q1
    rw [h12 v q2]; exact r3 v q1 q2
  · rw [h14, h0]; exact r4
  · rw [h15, h1]; exact r5
/-- the same but for the record -/
def EQk (σ' σ : nI2) : Prop := ∀ w : nm, 16 ≤ w.1 → ¬ scr w → w ≠ (16, 0, 0) → w ≠ (16, 16, 0) → ¬ (w.1 = 17 ∧ w.2.1 = 17) → σ' w = σ w
theorem EQh.k (E : EQh σ' σ) : EQk σ' σ := fun w h h1 h2 _ _ => E w h h1 h2
theorem EQc.k (E : EQc σ' σ) : EQk σ' σ := fun w _ h1 h2 h3 h4 => E w h1 h2 h3 h4
theorem EQc.l (E : EQc σ' σ) : EQl σ' σ := fun w h => E w (fun q => by rcases q with q | q; · omega
                                                                       · exact q) (fun e => by rw [e] at h; simp at h) (fun e => by rw [e] at h; simp at h) (fun e => by omega)
theorem EQk.trans {σ'' : nI2} (E : EQk σ'' σ') (F : EQk σ' σ) : EQk σ'' σ := fun w h h2 h3 h4 h5 => (E w h h2 h3 h4 h5).trans (F w h h2 h3 h4 h5)
theorem EQk.col (E : EQk σ' σ) {k j : Nat} (h : k ≠ 10) (h2 : k < 17) : σ' (17, k, j) = σ (17, k, j) := E _ (by simp) (scr_no h (by omega)) (fun q => by cases q) (fun q => by cases q) (fun q => by simp only at q; omega)
theorem EQk.rel (E : EQk σ' σ) (h : Rel n cnt τ π σ) : Rel n cnt τ π σ' := by
  obtain ⟨h1, h2, h3⟩ := h
  refine ⟨(E _ (by simp) (by simp [scr]) (by simp) (by simp) (by simp)).trans h1, fun c hc => ?_, fun s hs => ?_⟩
  · obtain ⟨a, b, d⟩ := h2 c hc
    exact ⟨(E.col (by decide) (by decide)).trans a, (E.col (by decide) (by decide)).trans b, fun j hj => FR.tr (fun _ _ _ => rfl) (fun k hk => E.col (by omega) (by omega)) (d j hj)⟩
  · obtain ⟨a, b, d, e, f⟩ := h3 s hs
    exact ⟨(E.col (by decide) (by decide)).trans a, fun v hv => ⟨(E.col (by decide) (by decide)).trans (b v hv).1, (E.col (by decide) (by decide)).trans (b v hv).2⟩, fun v q1 q2 => (E.col (by decide) (by decide)).trans (d v q1 q2), (E.col (by decide) (by decide)).trans e, (E.col (by decide) (by decide)).trans f⟩
theorem EQk.wd (E : EQk σ' σ) (h : WD σ) : WD σ' := fun j hj => by rw [E.col (by decide) (by decide)]; exact h j hj
/-- only small rows changed -/
def EQs (σ' σ : nI2) : Prop := ∀ w : nm, w.1 < 16 → ((w.1 = 4 ∨ w.1 = 5) → 3 ≤ w.2.1) → σ' w = σ w
theorem EQr.s {s : Nat} (hs : s < 3) (E : EQr 2 s σ' σ) : EQs σ' σ := fun w _ h => E w fun q => by have := h q; omega
theorem EQs.ag (E : EQs σ' σ) : Ag d σ' σ ρ ρ := fun c _ => ⟨fun k j _ h => E _ (by simp only; omega) (fun q => by simp only at q; omega), fun j => E _ (by simp) (fun _ => by simp only; omega), E _ (by simp) (fun _ => by simp only; omega), E _ (by simp) (fun q => by simp at q), fun _ => rfl, fun _ => rfl, rfl⟩
theorem EQs.dat (E : EQs σ' σ) (h : Dat n cnt σ ρ) : Dat n cnt σ' ρ := by
  have F : ∀ k i j, k < 4 ∨ (5 < k ∧ k < 16) → σ' (k, i, j) = σ (k, i, j) := fun k i j hk => E _ (by simp only; omega) (fun q => by simp only at q; omega)
  refine h.of (fun c hc => (E.ag (d := n + 1)).c0 (by omega) (h.2.2.1 c hc)) (fun c hc => (E.ag (ρ := ρ) (d := n + 1)).ln (by omega)) (fun l hl => ⟨F _ _ _ (by omega), fun _ => rfl, rfl⟩) rfl (fun s v hs hv => ⟨?_, rfl⟩) (fun s hs => ?_) (fun c hc => F _ _ _ (by omega))
  · rw [F 2 s v (by omega)]; exact (h.wk.2.1 s hs).2.2 v hv |>.1
  · rw [F 0 s 0 (by omega), F 1 s 0 (by omega)]; exact h.wm s hs
theorem EQs.rel (E : EQs τ' τ) (h : Rel n cnt τ π σ) (h6 : ∀ s, s < 6 → cnt s ≤ 6) : Rel n cnt τ' π σ := by
  have F : ∀ k i j, k < 4 ∨ (5 < k ∧ k < 16) → τ' (k, i, j) = τ (k, i, j) := fun k i j hk => E _ (by simp only; omega) (fun q => by simp only at q; omega)
  refine Rel.mk h.1 (fun c hc => (h.rc hc).mono (E.ag (d := n + 1)) (by omega) (fun _ _ _ _ => rfl) (fun _ => Nat.le_refl _) rfl rfl (fun _ _ _ _ _ => rfl)) (fun s hs => (h.rs hs).same (fun v _ => ⟨rfl, F _ _ _ (by omega)⟩) (F _ _ _ (by omega)) (F _ _ _ (by omega)) rfl rfl (fun _ _ => rfl) (fun _ _ => rfl) (h6 s hs) rfl rfl)
/-- the draft of a record changes -/
theorem All.row (h : All n cnt σ ρ) (E1 : EQs X σ) (E2 : EQk X σ) (E3 : EQl σ' X) (E4 : EQk σ' X) (h0 : ∀ w : nm, w.1 ≠ 1 → ρ' w = ρ w) (hR : Rcd σ' ρ') : All n cnt σ' ρ' := by
  obtain ⟨h1, h2, h3, -⟩ := h
  have c6 : ∀ s, s < 6 → cnt s ≤ 6 := fun s hs => (h1.2.1 s hs).2.1
  have d1 := E3.dat (E1.dat h1)
  have r1 := E3.rel ((E1.rel (EQk.rel (E4.trans E2) h2) c6))
  have P : ∀ k i j, k ≠ 1 → ρ' (k, i, j) = ρ (k, i, j) := fun k i j hk => h0 _ hk
  have A : Ag (n + 1) σ' σ' ρ' ρ := fun c _ => ⟨fun _ _ _ _ => rfl, fun _ => rfl, rfl, rfl, fun j => P _ _ _ (by omega), fun j => P _ _ _ (by omega), P _ _ _ (by omega)⟩
  refine ⟨d1.of (fun c hc => A.c0 (by omega) (d1.2.2.1 c hc)) (fun _ _ => rfl) (fun l hl => ⟨rfl, fun j => P _ _ _ (by omega), P _ _ _ (by omega)⟩) (P _ _ _ (by omega)) (fun s v hs hv => ⟨((d1.wk.2.1 s hs).2.2 v hv).1, P _ _ _ (by omega)⟩) d1.wm (fun _ _ => rfl), Rel.mk r1.1 (fun c hc => (r1.rc hc).mono A (by omega) (fun _ _ _ _ => P _ _ _ (by omega)) (fun _ => Nat.le_refl _) rfl rfl (fun _ _ _ _ _ => rfl)) (fun s hs => (r1.rs hs).same (fun v _ => ⟨P _ _ _ (by omega), rfl⟩) rfl rfl rfl rfl (fun _ _ => rfl) (fun _ _ => rfl) (c6 s hs) rfl rfl), (E4.trans E2).wd h3, hR⟩
theorem EQs.u {k r j : Nat} {v : Int32} (hk : k = 4 ∨ k = 5) (hr : r < 3) : EQs (up σ (k, r, j) v) σ := fun w _ h => up_n _ _ (fun e => by rw [e] at h; have := h hk; simp only at this; omega)
theorem EQs.trans {σ'' : nI2} (E : EQs σ'' σ') (F : EQs σ' σ) : EQs σ'' σ := fun w h h1 => (E w h h1).trans (F w h h1)
theorem EQk.ul {k r j : Nat} {v : Int32} (hk : k < 16) : EQk (up σ (k, r, j) v) σ := fun w h _ _ _ _ => up_n _ _ (fun e => by rw [e] at h; simp only at h; omega)
theorem EQk.u {w : nm} {v : Int32} (hw : w = (16, 0, 0) ∨ w = (16, 16, 0) ∨ (w.1 = 17 ∧ w.2.1 = 17)) : EQk (up σ w v) σ := fun u _ _ h2 h3 h4 => up_n _ _ (fun e => by
  rw [← e] at hw
  rcases hw with q | q | q
  · exact h2 q
  · exact h3 q
  · exact h4 q)
theorem EQl.u {w : nm} {v : Int32} (h : 16 ≤ w.1) : EQl (up σ w v) σ := fun u hu => up_n _ _ (fun e => by rw [e] at hu; omega)
theorem All.value (h : All n cnt σ ρ) {r u : Nat} {p : Int32} (hr : ρ (1, 0, 0) = r) (hR : RR σ r u σ) (h20 : u < 20) : All n cnt (up (up (up (up (up σ (5, r, u) p) (4, r, 0) (nI (u + 1))) (16, 0, 0) 0) (17, 17, u) p) (16, 16, 0) (nI (u + 1))) ρ := by
  obtain ⟨r', s0, u', a, b, c', d', e, f⟩ := id h.2.2.2
  obtain rfl : r' = r := a.symm.trans hr
  refine h.row ((EQs.u (by omega) (by omega)).trans (EQs.u (by omega) (by omega))) ((EQk.ul (by omega)).trans (EQk.ul (by omega))) ((EQl.u (by simp)).trans ((EQl.u (by simp)).trans (EQl.u (by simp)))) ((EQk.u (by simp)).trans ((EQk.u (by simp)).trans (EQk.u (by simp)))) (fun _ _ => rfl) ⟨r', s0, u + 1, a, b, c', d', e, by omega, ?_, up_s _ _ _, fun j hj => ?_⟩
  · simp [up]
  · obtain ⟨-, -, -, q⟩ := hR
    by_cases e : j = u
    · subst e; simp [up]
    · have := q j (by omega)
      simpa [up, e] using this
theorem All.clear (h : All n cnt σ ρ) {r : Nat} (hr : ρ (1, 0, 0) = r) : All n cnt (up (up (up σ (4, r, 0) 0) (16, 0, 0) 0) (16, 16, 0) 0) ρ := by
  obtain ⟨r', s0, u', a, b, c', d', e, f⟩ := id h.2.2.2
  obtain rfl : r' = r := a.symm.trans hr
  refine h.row (EQs.u (by omega) (by omega)) (EQk.ul (by omega)) ((EQl.u (by simp)).trans (EQl.u (by simp))) ((EQk.u (by simp)).trans (EQk.u (by simp))) (fun _ _ => rfl) ⟨r', s0, 0, a, b, c', d', e, by omega, ?_, up_s _ _ _, fun j hj => by omega⟩
  simp [up]; rfl
theorem All.readsAll (h : All n cnt σ ρ) (E1 : EQr 2 (ρ (1, 1, 0)) X σ) (E2 : EQz σ' X) : All n cnt σ' ρ := by
  obtain ⟨r', s0, u', a, b, c', d', e, f⟩ := id h.2.2.2
  have hs : ρ (1, 1, 0) < 3 := by omega
  have K : EQk X σ := fun w hw _ _ _ _ => E1 w (fun q => by omega)
  have hk : EQh X σ := fun w hw _ _ => E1 w (fun q => by omega)
  refine h.row (E1.s hs) K E2.l E2.h.k (fun _ _ => rfl) ⟨r', s0, u', a, b, c', d', e, ?_⟩
  have f1 := E2.h.rr (hk.rr f)
  have q : ∀ k j, (k = 4 ∨ k = 5) → σ' (k, r', j) = σ (k, r', j) := fun k j hk => (E2.l _ (by simp only; omega)).trans (E1 _ (fun _ => ⟨by simp only; omega, by simp only; omega⟩))
  exact ⟨f1.1, (q _ _ (by omega)).trans f1.2.1, f1.2.2.1, fun j hj => (f1.2.2.2 j hj).trans (q _ _ (by omega)).symm⟩
theorem All.read (h : All n cnt σ ρ) {r s0 : Nat} {l : List Int32} (hr : ρ (1, 0, 0) = r) (hs : ρ (1, 1, 0) = s0) (h20 : l.length ≤ 20) (E : EQc σ' (rApp (up σ (4, s0, 0) 0) s0 0 l)) (h16 : σ' (16, 16, 0) = nI l.length) (h17 : ∀ j, j < l.length → σ' (17, 17, j) = l.getD j 0) : All n cnt σ' (up (up ρ (1, 0, 0) s0) (1, 1, 0) r) := by
  obtain ⟨r', s0', u', a, b, c', d', e, f⟩ := id h.2.2.2
  obtain rfl : r' = r := a.symm.trans hr
  obtain rfl : s0' = s0 := b.symm.trans hs
  have q : ∀ w : nm, ¬ ((w.1 = 4 ∨ w.1 = 5) ∧ w.2.1 = s0') → rApp (up σ (4, s0', 0) 0) s0' 0 l w = σ w := fun w hw => by
    unfold rApp
    rw [rAdd_n (fun e => by rw [e] at hw; simp at hw) (by omega), up_n _ _ (fun e => by rw [e] at hw; simp at hw)]
  refine h.row (X := rApp (up σ (4, s0', 0) 0) s0' 0 l) (fun w _ hw => q w (fun e => by have := hw e.1; omega)) (fun w hw _ _ _ _ => q w (fun e => by omega)) E.l E.k (fun w hw => ?_) ⟨s0', r', l.length, ?_, up_s _ _ _, fun e => c' e.symm, e, d', h20, ?_, h16, fun j hj => ?_⟩
  · rw [up_n _ _ (fun e => hw (by rw [e])), up_n _ _ (fun e => hw (by rw [e]))]
  · rw [up_n _ _ (fun e => by cases e), up_s]
  · rw [E.l _ (by simp), rApp_used, Nat.zero_add]
  · rw [h17 j hj, E.l _ (by simp)]
    unfold rApp rAdd
    rw [if_neg (fun e => by cases e), if_pos ⟨rfl, rfl, Nat.zero_le _, by simp only; omega⟩]
    rfl
