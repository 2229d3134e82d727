/-! ===== the pure part: field and register, on an object among others ===== -/
variable {Fm : zM} {V V' : nm → Prop} {ad ad' : nm → Nat} {σ σ' τ τ' X : nI2} {ρ ρ' π π' : nN2} {ξ ξ' : Nat → zE} {M M' : zM} {x y w : nm} {n n' c d s i k a : Nat} {cnt cnt' : Nat → Nat} {p q p' q' : Int32} {S : St} {D : Nat → Prop} {P : Int32 → zM → Prop} {PX : Nat → zM → Prop} {l : List Int32}
theorem ev_RefOK (E : EV σ' σ) {p2 : Int32} {v : Nat} : RefOK cnt σ' p2 s v ↔ RefOK cnt σ p2 s v := by
  unfold RefOK
  rw [E.f (k := 2) (by omega)]
theorem ev_Mor (E : EV σ' σ) (R : ER ρ' ρ) {p1 p2 : Int32} : Mor cnt σ' ρ' p1 p2 k ↔ Mor cnt σ ρ p1 p2 k := by
  have kR : ∀ s v, ρ' (2, s, v) = ρ (2, s, v) := fun s v => R _ (Or.inl rfl)
  unfold Mor
  simp only [ev_RefOK E, ev_ln E, kR]
theorem ev_FX (E : EV σ' σ) (R : ER ρ' ρ) {p1 p2 : Int32} {x5 : Nat} {g : Nat → Int32} : FX cnt σ' ρ' p1 p2 x5 k g ↔ FX cnt σ ρ p1 p2 x5 k g := by
  have k5 : ∀ c, (fun j => σ' (5, 3 + c, j)) = fun j => σ (5, 3 + c, j) := fun c => funext fun j => E.g (Or.inr rfl)
  have kR : ∀ s v, ρ' (2, s, v) = ρ (2, s, v) := fun s v => R _ (Or.inl rfl)
  unfold FX
  simp only [ev_RefOK E, ev_ln E, kR, k5]
theorem ev_Ful (E : EV σ' σ) {p0 : Int32} : Ful σ' n p0 k ↔ Ful σ n p0 k := by
  unfold Ful
  rw [ev_zz E, ev_nmd E, ev_ln E]
theorem r_field (h : Cmp a S D M) {p0 p1 p2 p3 : Int32} (h1 : ∀ k x5 g, OKa p0 p1 p2 p3 → Mor S.2.1 S.2.2.1 S.2.2.2.1 p1 p2 k → FX S.2.1 S.2.2.1 S.2.2.2.1 p1 p2 x5 k g → ¬ Ful S.2.2.1 S.1 p0 k → ∀ M' D', Kp M D M' D' → Cmp a (S.1, S.2.1, fK S.2.2.1 S.1 p0 p1 p2 p3 k g, up S.2.2.2.1 (3, S.1, zz S.2.2.1 S.1) x5, S.2.2.2.2) D' M' → P (nI (zz S.2.2.1 S.1 + 1)) M')
    (h2 : (¬ OKa p0 p1 p2 p3 ∨ (p1 = 4 ∧ ∀ s v, ¬ RefOK S.2.1 S.2.2.1 p2 s v) ∨ ∃ k, Mor S.2.1 S.2.2.1 S.2.2.2.1 p1 p2 k ∧ Ful S.2.2.1 S.1 p0 k) → exK PX M) : zIs M a 6 ∧ w_X5_field a p0 p1 p2 p3 M P PX := by
  obtain ⟨V, ad, σ, ρ, ξ, g, G0⟩ := h.op
  obtain ⟨v0, rfl, v13, x13, B, G, E, R, r, s0, r1, r2, r3, r4, r5, r6, r7, r8⟩ := id G0
  have hno : ¬ V (8, S.1, zz σ S.1) := fun hq => by
    have := ((B _ hq).2.2.2.2.2.1 rfl).2
    simp only at this
    omega
  refine ⟨g_is g v0 rfl, k_field g v0 G.1.wk G.1.wp hno (fun no => h2 (Or.inl no) 1 (by simp)) (fun ok e4 no => h2 (Or.inr (Or.inl ⟨e4, fun s v q => no s v ((ev_RefOK E).2 q)⟩)) 2 (by simp)) (fun k ok hm hf => h2 (Or.inr (Or.inr ⟨k, (ev_Mor E R).1 hm, (ev_Ful E).1 hf⟩)) 3 (by simp)) (fun k x5 gg ok hm hfx nf M1 ad1 ρ1 a1 q1 q3 hL g1 => ?_)⟩
  have z5 := (G.1.2.2.1 S.1 (Nat.le_refl _)).1.1.2
  have f : ∀ k' r j, k' = 4 ∨ k' = 5 → r < 2 → fK σ S.1 p0 p1 p2 p3 k gg (k', r, j) = σ (k', r, j) := fun k' r j hk hr => fK_n (by omega) (by omega) (by omega)
  have zn : zz (fK σ S.1 p0 p1 p2 p3 k gg) S.1 = zz σ S.1 + 1 := by
    have n5 : zz σ S.1 < 5 := by
      have : ¬ zz σ S.1 = 5 := fun q => nf (Or.inl q)
      omega
    show ((fK σ S.1 p0 p1 p2 p3 k gg) (7, 8 + S.1, 0)).toNatClampNeg = _
    rw [fK_7, nI_clamp (by omega)]
  have q1' : ∀ p i j, p ≠ 4 → p ≠ 5 → p ≠ 3 → ρ1 (p, i, j) = ρ (p, i, j) := fun p i j e1 e2 e3 => q1 _ (fun e => e1 (by cases e; rfl)) (fun e => e2 (by cases e; rfl)) (fun e => e3 (by cases e; rfl))
  have fin := h1 k x5 gg ok ((ev_Mor E R).1 hm) ((ev_FX E R).1 hfx) (fun q => nf ((ev_Ful E).2 q))
  rw [← ev_zz E] at fin
  refine Cmp.go (S := (S.1, S.2.1, fK S.2.2.1 S.1 p0 p1 p2 p3 k gg, up S.2.2.2.1 (3, S.1, zz σ S.1) x5, S.2.2.2.2)) g1 ⟨Or.inr v0, a1 _ (fun e => by cases e) (fun e => by cases e), Or.inr v13, x13, fun y hy => ?_, G.field ok hfx nf q1 q3 hL, ev_fK E _ _ _ _ _ _ _, fun w hw => ?_, r, s0, (q1' _ _ _ (by omega) (by omega) (by omega)).trans r1, (q1' _ _ _ (by omega) (by omega) (by omega)).trans r2, r3, r4, r5, r6, (f _ _ _ (Or.inl rfl) r4).trans r7, fun j hj => (f _ _ _ (Or.inr rfl) r4).trans (r8 j hj)⟩ fin
  · rcases hy with e | hy
    · rw [e]
      refine ⟨by simp, by simp, by simp, by simp, by simp, fun _ => ⟨Nat.le_refl _, ?_⟩, by simp⟩
      show zz σ S.1 < _
      rw [zn]; omega
    · refine (B y hy).mono (fun c hc => ?_) (fun _ => Nat.le_refl _) (Nat.le_refl _)
      by_cases e : c = S.1
      · rw [e, zn]; omega
      · show zz σ c ≤ ((fK σ S.1 p0 p1 p2 p3 k gg) (7, 8 + c, 0)).toNatClampNeg
        rw [fK_n (by omega) (by omega) (by omega)]
        exact Nat.le_refl _
  · show ρ1 w = up S.2.2.2.1 (3, S.1, zz σ S.1) x5 w
    by_cases e : w = (3, S.1, zz σ S.1)
    · rw [e, q3, up_s]
    · rw [up_n _ _ e, q1 w (fun q => by rw [q] at hw; simp at hw) (fun q => by rw [q] at hw; simp at hw) e]
      exact R w hw
theorem r_register (h : Cmp a S D M) (h1 : ∀ s v, sub p = some s → zz S.2.2.1 S.1 ≠ 0 → lowS S.2.2.1 S.2.2.2.1 s (S.2.1 s) S.1 = some v → ∀ M' D', Kp M D M' D' → Cmp a (stI S (emS S.2.2.1 S.1)) D' M' → P (nI v) M')
    (h2 : (sub p = none ∨ ∃ s, sub p = some s ∧ (zz S.2.2.1 S.1 = 0 ∨ (lowS S.2.2.1 S.2.2.2.1 s (S.2.1 s) S.1 = none ∧ (S.2.1 s = 6 ∨ accF S.2.2.1 S.2.2.2.1 s S.1 (S.2.1 s) = false)))) → exK PX M)
    (h4 : ∀ s i, sub p = some s → zz S.2.2.1 S.1 ≠ 0 → lowS S.2.2.1 S.2.2.2.1 s (S.2.1 s) S.1 = none → S.2.1 s < 6 → accF S.2.2.1 S.2.2.2.1 s S.1 (S.2.1 s) = true → numS S.2.2.1 S.1 = some i → ∀ M' D', Kp M D M' D' → Cmp a (S.1, uc S.2.1 s, vaI (emS S.2.2.1 S.1) s (S.2.1 s), up S.2.2.2.1 (2, s, S.2.1 s) i, S.2.2.2.2) D' M' → P (nI (S.2.1 s)) M')
    (h5 : ∀ s, sub p = some s → zz S.2.2.1 S.1 ≠ 0 → lowS S.2.2.1 S.2.2.2.1 s (S.2.1 s) S.1 = none → S.2.1 s < 6 → accF S.2.2.1 S.2.2.2.1 s S.1 (S.2.1 s) = true → numS S.2.2.1 S.1 = none → ∀ M' D', Kp M D M' D' → Cmp a (S.1 + 1, uc S.2.1 s, vaI (tkI S.2.2.1 S.1) s (S.2.1 s), up S.2.2.2.1 (2, s, S.2.1 s) S.1, S.2.2.2.2) D' M' → P (nI (S.2.1 s)) M') : zIs M a 6 ∧ w_X5_register a p M P PX := by
  obtain ⟨V, ad, σ, ρ, ξ, g, G0⟩ := h.op
  obtain ⟨v0, rfl, v13, x13, B, G, E, R, r, s0, r1, r2, r3, r4, r5, r6, r7, r8⟩ := id G0
  rw [← ev_zz E] at h1 h2 h4 h5
  simp only [← ev_low E R, ← ev_acc E R, ← ev_num E] at h1 h2 h4 h5
  refine ⟨g_is g v0 rfl, k_register g v0 G.1.wk v13 x13 B G.1.T (fun s v hs hp hz el M1 g1 => ?_) (fun no => h2 (Or.inl (sub_no no)) 1 (by simp)) (fun s hs hp bad => h2 (Or.inr ⟨s, sub_eq hs hp, bad⟩) 3 (by simp)) (fun s i hs hp hz el k6 ac hi ei M1 V1 ad1 ρ1 ξ1 v1 a1 q1 ri hL x1 g1 => ?_) (fun s hs hp hz el k6 ac n36 ei M1 V1 ad1 ρ1 ξ1 v1 a1 q1 q0 ri hL1 hL hZ x1 g1 => ?_)⟩
  · exact Cmp.go (G0.em g1).1 (G0.em g1).2 (h1 s v (sub_eq hs hp) hz el)
  · have hd : ∀ j, ρ1 (4, 8 + S.1, j) = 0 := fun j => by
      rw [q1 _ (fun e => by have := congrArg (fun w : nm => w.2.1) e; simp only at this; omega) (fun e => by cases e) (fun e => by cases e)]
      exact (em_em G.1).2.1 j
    have P1 : ∀ i j, ρ1 (1, i, j) = ρ (1, i, j) := fun i j => (q1 _ (fun e => by cases e) (fun e => by cases e) (fun e => by cases e)).trans (clr_n _ _ _ (Or.inl (by simp)))
    have f : ∀ k' r j, k' = 4 ∨ k' = 5 → r < 2 → vaI (emS σ S.1) s (S.2.1 s) (k', r, j) = σ (k', r, j) := fun k' r j hk hr => (vaI_n (fun e => by cases e; omega) (fun e => by cases e; omega) (fun e => by cases e; omega)).trans (emS_n (fun e => by cases e; omega) (fun e => by cases e; omega) (fun e => by cases e; omega))
    refine Cmp.go (S := (S.1, uc S.2.1 s, vaI (emS S.2.2.1 S.1) s (S.2.1 s), up S.2.2.2.1 (2, s, S.2.1 s) i, S.2.2.2.2)) (g1.drop hd) ⟨⟨(v1 _).2 (Or.inr v0), by simp⟩, a1 _ (fun e => by cases e) (fun e => by cases e) (by simp), ⟨(v1 _).2 (Or.inr v13), by simp⟩, (x1 13 (by omega)).trans x13, fun y hy => ?_, G.like hs k6 hi q1 ri hL, ev_vaI (ev_emS E _) _ _, fun w hw => ?_, r, s0, (P1 _ _).trans r1, (P1 _ _).trans r2, r3, r4, r5, r6, (f _ _ _ (Or.inl rfl) r4).trans r7, fun j hj => (f _ _ _ (Or.inr rfl) r4).trans (r8 j hj)⟩ (h4 s i (sub_eq hs hp) hz el k6 ac ei)
    · rcases (v1 y).1 hy.1 with q | q
      · rw [q]
        refine ⟨by simp, by simp, fun _ => ?_, by simp, by simp, by simp, by simp⟩
        show S.2.1 s < uc S.2.1 s s
        rw [uc_s]; omega
      · refine Bd.drop (fun c hc => ?_) uc_le (B y q) hy.2
        show zz σ c ≤ ((vaI (emS σ S.1) s (S.2.1 s)) (7, 8 + c, 0)).toNatClampNeg
        rw [vaI_n (fun e => by cases e) (fun e => by cases e) (fun e => by have := congrArg (fun w : nm => w.2.1) e; simp only at this; omega), emS_n (fun e => by cases e) (fun e => by have := congrArg (fun w : nm => w.2.1) e; simp only at this; omega) (fun e => by cases e)]
        exact Nat.le_refl _
    · show ρ1 w = up S.2.2.2.1 (2, s, S.2.1 s) i w
      by_cases e : w = (2, s, S.2.1 s)
      · rw [e, ri, up_s]
      · rw [up_n _ _ e, q1 w (fun q => by rw [q] at hw; simp at hw) (fun q => by rw [q] at hw; simp at hw) e, clr_n _ _ _ (Or.inl (by omega))]
        exact R w hw
  · have ns4 : ∀ y, nS (S.1 + 1) y → y.1 ≠ 0 ∧ y.1 < 8 := fun y hy => by rcases hy with e | e | e | e | e <;> (rw [e]; simp)
    have P1 : ∀ i j, ρ1 (1, i, j) = ρ (1, i, j) := fun i j => q1 _ (fun e => by cases e) (fun e => by cases e) (fun e => by cases e) (Or.inl (by simp)) (fun e => by cases e) (fun e => by cases e) (fun e => by cases e)
    have f : ∀ k' r j, k' = 4 ∨ k' = 5 → r < 2 → vaI (tkI σ S.1) s (S.2.1 s) (k', r, j) = σ (k', r, j) := fun k' r j hk hr => (vaI_n (fun e => by cases e; omega) (fun e => by cases e; omega) (fun e => by cases e; omega)).trans (tkI_n (by simp only; omega) (by simp only; omega) (by simp only; omega))
    refine Cmp.go (S := (S.1 + 1, uc S.2.1 s, vaI (tkI S.2.2.1 S.1) s (S.2.1 s), up S.2.2.2.1 (2, s, S.2.1 s) S.1, S.2.2.2.2)) g1 ⟨(v1 _).2 (Or.inr (Or.inr v0)), a1 _ (fun e => (ns4 _ e).1 rfl) (fun e => by cases e) (fun e => by cases e) (fun e => by cases e) (by simp), (v1 _).2 (Or.inr (Or.inr v13)), (x1 13 (by omega)).trans x13, fun y hy => ?_, G.new hs k6 n36 hz q1 q0 ri hL1 hL hZ, ev_vaI (ev_tkI E _) _ _, fun w hw => ?_, r, s0, (P1 _ _).trans r1, (P1 _ _).trans r2, r3, r4, r5, r6, (f _ _ _ (Or.inl rfl) r4).trans r7, fun j hj => (f _ _ _ (Or.inr rfl) r4).trans (r8 j hj)⟩ (h5 s (sub_eq hs hp) hz el k6 ac ei)
    · rcases (v1 y).1 hy with q | q | q
      · rw [q]
        refine ⟨by simp, by simp, fun _ => ?_, by simp, by simp, by simp, by simp⟩
        show S.2.1 s < uc S.2.1 s s
        rw [uc_s]; omega
      · rcases q with q | q | q | q | q <;> (rw [q]; simp [Bd])
      · refine (B y q).mono (fun c hc => ?_) uc_le (by omega)
        show zz σ c ≤ ((vaI (tkI σ S.1) s (S.2.1 s)) (7, 8 + c, 0)).toNatClampNeg
        rw [vaI_n (fun e => by cases e) (fun e => by cases e) (fun e => by have := congrArg (fun w : nm => w.2.1) e; simp only at this; omega), tkI_n (by simp) (Or.inr (by simp only; omega)) (Or.inl (by simp))]
        exact Nat.le_refl _
    · show ρ1 w = up S.2.2.2.1 (2, s, S.2.1 s) S.1 w
      by_cases e : w = (2, s, S.2.1 s)
      · rw [e, ri, up_s]
      · rw [up_n _ _ e, q1 w (fun q => by rw [q] at hw; simp at hw) (fun q => by rw [q] at hw; simp at hw) (fun q => by rw [q] at hw; simp at hw) (Or.inl (by omega)) (fun q => by rw [q] at hw; simp at hw) (fun q => by rw [q] at hw; simp at hw) e]
        exact R w hw
