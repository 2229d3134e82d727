/-! ===== the pure part: stores into the memory by names ===== -/
variable {Fm : zM} {V V' : nm → Prop} {ad ad' : nm → Nat} {σ σ' : nI2} {ρ ρ' : nN2} {ξ ξ' : Nat → zE} {M : zM} {x y w : nm}
theorem cell_I {v : Int32} (hc : can x) (hw : can (hI w)) (h : x ≠ hI w) : cell ad (up σ w v) ρ ξ x = cell ad σ ρ ξ x := by
  obtain ⟨a, b, c⟩ := w
  obtain ⟨k, i, j⟩ := x
  have H : ∀ u : nm, (u = (a, b, c) → (k, i, j) = hI (a, b, c)) → up σ (a, b, c) v u = σ u := fun u hu => by
    unfold up
    by_cases e : u = (a, b, c)
    · exact absurd (hu e) h
    · rw [if_neg e]
  simp only [can] at hc
  match k, hc, h, H with
  | 0, hc, h, H => rfl
  | 1, hc, h, H => simp only [cell]; rw [H (0, i, 0) (fun e => by obtain ⟨rfl, rfl, rfl⟩ := e; simp_all [hI]), H (1, i, 0) (fun e => by cases e; simp_all [hI])]
  | 2, hc, h, H => simp only [cell]; rw [H (6, i, 0) (fun e => by cases e; simp_all [hI]), H (7, i, 0) (fun e => by cases e; simp_all [hI])]
  | 3, hc, h, H => rfl
  | 4, hc, h, H => simp only [cell]; rw [H (2, i, j) (fun e => by cases e; simp_all [hI])]
  | 5, hc, h, H => simp only [cell]; rw [H (3, i, 0) (fun e => by cases e; simp_all [hI])]
  | 6, hc, h, H => simp only [cell]; rw [H (4, i, 0) (fun e => by cases e; simp_all [hI])]
  | 7, hc, h, H => simp only [cell]; rw [show (fun j => up σ (a, b, c) v (5, i, j)) = fun j => σ (5, i, j) from funext fun q => H (5, i, q) (fun e => by cases e; simp_all [hI])]
  | 8, hc, h, H => simp only [cell]; rw [H (8, i, j) (fun e => by cases e; simp_all [hI]), H (9, i, j) (fun e => by cases e; simp_all [hI]), H (10, i, j) (fun e => by cases e; simp_all [hI]), H (11, i, j) (fun e => by cases e; simp_all [hI]), H (12, i, j) (fun e => by cases e; simp_all [hI]), H (13, i, j) (fun e => by cases e; simp_all [hI]), H (14, i, j) (fun e => by cases e; simp_all [hI]), H (15, i, j) (fun e => by cases e; simp_all [hI])]
  | 9, hc, h, H => simp only [cell]; rw [H (16, 0, 0) (fun e => by cases e; simp_all [hI]), H (16, 9, 0) (fun e => by cases e; simp_all [hI]), H (16, 16, 0) (fun e => by cases e; simp_all [hI])]
  | 10, hc, h, H => simp only [cell]; rw [show (fun j => up σ (a, b, c) v (17, i, j)) = fun j => σ (17, i, j) from funext fun q => H (17, i, q) (fun e => by cases e; simp_all [hI])]
  | k + 11, hc, h, H => rfl
theorem cell_N {v : Nat} (hw : w.1 < 6) (hc : can x) (h : x ≠ hN w) : cell ad σ (up ρ w v) ξ x = cell ad σ ρ ξ x ∧ ∀ y, refs (up ρ w v) x y = refs ρ x y := by
  obtain ⟨a, b, c⟩ := w
  obtain ⟨k, i, j⟩ := x
  have H : ∀ u : nm, (u = (a, b, c) → (k, i, j) = hN (a, b, c)) → up ρ (a, b, c) v u = ρ u := fun u hu => by
    unfold up
    by_cases e : u = (a, b, c)
    · exact absurd (hu e) h
    · rw [if_neg e]
  simp only [can] at hc
  match k, hc, h, H with
  | 0, hc, h, H =>
    have e1 := H (0, 0, 0) (fun e => by cases e; simp_all [hN])
    have e2 := H (1, 0, 0) (fun e => by cases e; simp_all [hN])
    have e3 := H (1, 1, 0) (fun e => by cases e; simp_all [hN])
    exact ⟨by simp only [cell]; rw [e1, e2, e3], fun y => by simp only [refs]; rw [e1, e2, e3]⟩
  | 1, hc, h, H => exact ⟨rfl, fun y => rfl⟩
  | 2, hc, h, H => exact ⟨rfl, fun y => rfl⟩
  | 3, hc, h, H =>
    have e1 : ∀ q, up ρ (a, b, c) v (4, i, q) = ρ (4, i, q) := fun q => H (4, i, q) (fun e => by cases e; simp_all [hN])
    have e2 := H (5, i, 0) (fun e => by cases e; simp_all [hN])
    exact ⟨by simp only [cell, e1, e2], fun y => by simp only [refs, e1]⟩
  | 4, hc, h, H =>
    have e1 := H (2, i, j) (fun e => by cases e; simp_all [hN])
    exact ⟨by simp only [cell]; rw [e1], fun y => by simp only [refs]; rw [e1]⟩
  | 5, hc, h, H => exact ⟨rfl, fun y => rfl⟩
  | 6, hc, h, H => exact ⟨rfl, fun y => rfl⟩
  | 7, hc, h, H => exact ⟨rfl, fun y => rfl⟩
  | 8, hc, h, H =>
    have e1 := H (3, i, j) (fun e => by cases e; simp_all [hN])
    exact ⟨by simp only [cell]; rw [e1], fun y => by simp only [refs]; rw [e1]⟩
  | 9, hc, h, H => exact ⟨rfl, fun y => rfl⟩
  | 10, hc, h, H => exact ⟨rfl, fun y => rfl⟩
  | k + 11, hc, h, H => exact ⟨rfl, fun y => rfl⟩
theorem cell_X {k : Nat} {e : zE} (h : x.1 ≠ k ∨ k < 11) : cell ad σ ρ (fun j => if j = k then e else ξ j) x = cell ad σ ρ ξ x := by
  obtain ⟨a, i, j⟩ := x
  match a, h with
  | 0, h => rfl
  | 1, h => rfl
  | 2, h => rfl
  | 3, h => rfl
  | 4, h => rfl
  | 5, h => rfl
  | 6, h => rfl
  | 7, h => rfl
  | 8, h => rfl
  | 9, h => rfl
  | 10, h => rfl
  | a + 11, h => exact if_neg (fun e => by simp only [] at h; omega)
/-- the general step: the cells of the names Z change, all others stay -/
theorem zC.step {M' : zM} (h : zC Fm V ad σ ρ ξ M) (x : nm) (hx : V x) (hn : cell ad σ ρ ξ x ≠ zN) {e : zE} (he : cell ad σ' ρ' ξ' x = e) (hM : M' = zUp M (ad x) e)
    (hr : ∀ y, refs ρ' x y → V y) (ho : ∀ y, V y → y ≠ x → cell ad σ' ρ' ξ' y = cell ad σ ρ ξ y ∧ ∀ u, refs ρ' y u = refs ρ y u) : zC Fm V ad σ' ρ' ξ' M' := by
  obtain ⟨h1, ⟨h2, hf⟩, h3, h4⟩ := h
  have hne : ∀ y, V y → y ≠ x → ad y ≠ ad x := fun y hy hyx e1 => hn (h2 x y hx hy (fun q => hyx q.symm) e1.symm)
  subst hM
  refine ⟨fun y hy => ?_, ⟨fun y z hy hz hyz e1 => ?_, fun q e0 hq => ?_⟩, fun y hy u hu => ?_, h4⟩
  · by_cases q : y = x
    · subst q; rw [zUp_same, he]
    · rw [zUp_ne _ _ (hne y hy q), (ho y hy q).1]; exact h1 y hy
  · by_cases q : y = x
    · subst q; exact absurd e1.symm (hne z hz (fun q => hyz q.symm))
    · rw [(ho y hy q).1]; exact h2 y z hy hz hyz e1
  · obtain ⟨f1, f2⟩ := hf q e0 hq
    have hxq : ad x ≠ q := fun q1 => hn (f2 x hx q1)
    refine ⟨by rw [zUp_ne _ _ (fun q1 => hxq q1.symm)]; exact f1, fun y hy q1 => ?_⟩
    have hyx : y ≠ x := fun q2 => hxq (q2 ▸ q1)
    rw [(ho y hy hyx).1]; exact f2 y hy q1
  · by_cases q : y = x
    · subst q; exact hr u hu
    · rw [(ho y hy q).2] at hu; exact h3 y hy u hu
theorem zC.ne {V : nm → Prop} (h : zC Fm V ad σ ρ ξ M) (hx : V x) (hy : V y) (hxy : x ≠ y) (hn : cell ad σ ρ ξ x ≠ zN) : ad x ≠ ad y := fun e => hn (h.2.1.1 x y hx hy hxy e)
theorem zC.I (h : zC Fm V ad σ ρ ξ M) (w : nm) (v : Int32) (hV : V (hI w)) : cell ad σ ρ ξ (hI w) ≠ zN → zC Fm V ad (up σ w v) ρ ξ (zUp M (ad (hI w)) (cell ad (up σ w v) ρ ξ (hI w))) := fun hn =>
  h.step (hI w) hV hn rfl rfl (fun y hy => h.2.2.1 _ hV y hy) (fun y hy hyx => ⟨cell_I (h.2.2.2 y hy) (h.2.2.2 _ hV) hyx, fun _ => rfl⟩)
theorem zC.N (h : zC Fm V ad σ ρ ξ M) (w : nm) (v : Nat) (hw : w.1 < 6) (hV : V (hN w)) (hr : ∀ y, refs (up ρ w v) (hN w) y → V y) : cell ad σ ρ ξ (hN w) ≠ zN → zC Fm V ad σ (up ρ w v) ξ (zUp M (ad (hN w)) (cell ad σ (up ρ w v) ξ (hN w))) := fun hn =>
  h.step (hN w) hV hn rfl rfl hr (fun y hy hyx => cell_N hw (h.2.2.2 y hy) hyx)
theorem zC.X (h : zC Fm V ad σ ρ ξ M) {k i j : Nat} {e : zE} (hV : V (k, i, j)) (hk : 11 ≤ k) (hn : cell ad σ ρ ξ (k, i, j) ≠ zN) (hu : ∀ y, V y → y.1 = k → y = (k, i, j)) : zC Fm V ad σ ρ (fun q => if q = k then e else ξ q) (zUp M (ad (k, i, j)) e) := by
  refine h.step (k, i, j) hV hn ?_ rfl (fun y hy => h.2.2.1 _ hV y hy) (fun y hy hyx => ⟨cell_X (Or.inl fun q => hyx (hu y hy q)), fun _ => rfl⟩)
  obtain ⟨k', rfl⟩ : ∃ k', k = k' + 11 := ⟨k - 11, by omega⟩
  exact if_pos rfl
/-- what lies off the names' addresses doesn't matter -/
theorem zC.off {M' : zM} (h : zC Fm V ad σ ρ ξ M) (hM : ∀ x, V x → M' (ad x) = M (ad x)) (hF : ∀ q e, Fm q = some e → M' q = M q) : zC Fm V ad σ ρ ξ M' := ⟨fun x hx => (hM x hx).trans (h.1 x hx), ⟨h.2.1.1, fun q e hq => ⟨(hF q e hq).trans (h.2.1.2 q e hq).1, (h.2.1.2 q e hq).2⟩⟩, h.2.2⟩
/-- what is fresh isn't of the frame -/
theorem zC.fq (h : zC Fm V ad σ ρ ξ M) {q : Nat} (hq : M q = none) : Fm q = none := by
  cases e : Fm q with
  | none => rfl
  | some x => have := (h.2.1.2 q x e).1; rw [hq] at this; cases this
theorem zC.fx (h : zC Fm V ad σ ρ ξ M) (hx : V x) (hn : cell ad σ ρ ξ x ≠ zN) : Fm (ad x) = none := by
  cases e : Fm (ad x) with
  | none => rfl
  | some y => exact absurd ((h.2.1.2 _ y e).2 x hx rfl) hn
theorem zC.free (h : zC Fm V ad σ ρ ξ M) {q : Nat} (hq : M q = none) (hx : V x) : ad x ≠ q := fun e => by have := h.1 x hx; rw [e, hq] at this; cases this
theorem zC.fresh (h : zC Fm V ad σ ρ ξ M) {q : Nat} {e : zE} (hq : M q = none) : zC Fm V ad σ ρ ξ (zUp M q e) := h.off (fun x hx => zUp_ne _ _ (h.free hq hx)) (fun q' e' h' => zUp_ne _ _ (fun e1 => by rw [e1, h.fq hq] at h'; cases h'))
/-- fewer names -/
theorem zC.less (h : zC Fm V ad σ ρ ξ M) (h1 : ∀ x, V' x → V x) (h2 : ∀ x, V' x → ∀ y, refs ρ x y → V' y) : zC Fm V' ad σ ρ ξ M := ⟨fun x hx => h.1 x (h1 x hx), ⟨fun x y hx hy => h.2.1.1 x y (h1 x hx) (h1 y hy), fun q e hq => ⟨(h.2.1.2 q e hq).1, fun x hx => (h.2.1.2 q e hq).2 x (h1 x hx)⟩⟩, h2, fun x hx => h.2.2.2 x (h1 x hx)⟩
/-- other ints and references, but the same on the names -/
theorem zC.same (h : zC Fm V ad σ ρ ξ M) (h1 : ∀ x, V x → cell ad σ' ρ' ξ' x = cell ad σ ρ ξ x) (h2 : ∀ x, V x → ∀ y, refs ρ' x y → V y) : zC Fm V ad σ' ρ' ξ' M := ⟨fun x hx => by rw [h1 x hx]; exact h.1 x hx, ⟨fun x y hx hy hxy e => by rw [h1 x hx]; exact h.2.1.1 x y hx hy hxy e, fun q e hq => ⟨(h.2.1.2 q e hq).1, fun x hx e1 => by rw [h1 x hx]; exact (h.2.1.2 q e hq).2 x hx e1⟩⟩, h2, h.2.2.2⟩
/-- one more name, its cell at q -/
theorem zC.more (h : zC Fm V ad σ ρ ξ M) (x : nm) (hx : ¬ V x) {q : Nat} (hM : M q = some (cell (up ad x q) σ ρ ξ x)) (hq : ∀ y, V y → ad y = q → cell ad σ ρ ξ y = zN ∧ cell (up ad x q) σ ρ ξ x = zN) (hr : ∀ y, refs ρ x y → V y) (hc : can x) (hf : Fm q = none ∨ cell (up ad x q) σ ρ ξ x = zN) : zC Fm (fun y => y = x ∨ V y) (up ad x q) σ ρ ξ M := by
  have hne : ∀ y, V y → y ≠ x := fun y hy e => hx (e ▸ hy)
  have hce : ∀ y, V y → cell (up ad x q) σ ρ ξ y = cell ad σ ρ ξ y := fun y hy => cell_ad fun u hu => up_n _ _ (hne u (h.2.2.1 y hy u hu))
  refine ⟨fun y hy => ?_, ⟨fun y z hy hz hyz e1 => ?_, fun q' e' hq' => ?_⟩, fun y hy u hu => ?_, fun y hy => ?_⟩
  · rcases hy with rfl | hy
    · rw [up_s]; exact hM
    · rw [up_n _ _ (hne y hy), hce y hy]; exact h.1 y hy
  · rcases hy with rfl | hy
    · rcases hz with rfl | hz
      · exact absurd rfl hyz
      · rw [up_s, up_n _ _ (hne z hz)] at e1
        exact (hq z hz e1.symm).2
    · rcases hz with rfl | hz
      · rw [up_s, up_n _ _ (hne y hy)] at e1
        rw [hce y hy]; exact (hq y hy e1).1
      · rw [up_n _ _ (hne y hy), up_n _ _ (hne z hz)] at e1
        rw [hce y hy]; exact h.2.1.1 y z hy hz hyz e1
  · obtain ⟨f1, f2⟩ := h.2.1.2 q' e' hq'
    refine ⟨f1, fun y hy e1 => ?_⟩
    rcases hy with rfl | hy
    · rw [up_s] at e1
      subst e1
      exact hf.resolve_left (fun e2 => by rw [e2] at hq'; cases hq')
    · rw [up_n _ _ (hne y hy)] at e1
      rw [hce y hy]; exact f2 y hy e1
  · rcases hy with rfl | hy
    · exact Or.inr (hr u hu)
    · exact Or.inr (h.2.2.1 y hy u hu)
  · rcases hy with rfl | hy
    · exact hc
    · exact h.2.2.2 y hy
