/-! ===== the pure part: field in the class ===== -/
variable {Fm : zM} {V V' : nm → Prop} {ad ad' : nm → Nat} {σ σ' τ τ' : nI2} {ρ ρ' π : nN2} {ξ ξ' : Nat → zE} {M : zM} {x y w : nm} {n : Nat} {cnt : Nat → Nat}
theorem zC.offI (h : zC Fm V ad σ ρ ξ M) (w : nm) (v : Int32) (hn : ¬ V (hI w)) (hc : can (hI w)) : zC Fm V ad (up σ w v) ρ ξ M :=
  h.same (fun y hy => cell_I (h.2.2.2 y hy) hc (fun e => hn (e ▸ hy))) (fun y hy u hu => h.2.2.1 y hy u hu)
theorem zC.offN (h : zC Fm V ad σ ρ ξ M) (w : nm) (v : Nat) (hw : w.1 < 6) (hn : ¬ V (hN w)) : zC Fm V ad σ (up ρ w v) ξ M :=
  h.same (fun y hy => (cell_N hw (h.2.2.2 y hy) (fun e => hn (e ▸ hy))).1) (fun y hy u hu => by rw [(cell_N (ad := ad) (σ := σ) (ξ := ξ) hw (h.2.2.2 y hy) (fun e => hn (e ▸ hy))).2] at hu; exact h.2.2.1 y hy u hu)
def szO (p1 p2 : Int32) : Int32 := if p1 = 2 then 2 else if p1 = 3 then p2 else 0
/-- a fresh field's ints -/
def f0 (σ : nI2) (n z : Nat) : nI2 := up (up (up (up (up (up (up (up σ (8, n, z) 0) (9, n, z) 0) (10, n, z) 0) (11, n, z) 0) (12, n, z) 0) (13, n, z) 0) (14, n, z) 0) (15, n, z) 0
/-- its ints once it is made -/
def f1 (σ : nI2) (n z : Nat) (p0 p1 p2 p3 rv : Int32) : nI2 := up (up (up (up (up (f0 σ n z) (8, n, z) p0) (9, n, z) p1) (10, n, z) (szO p1 p2)) (11, n, z) p3) (12, n, z) rv
theorem zC.newF (h : zC Fm V ad σ ρ ξ M) {n z q : Nat} (hno : ¬ V (8, n, z)) (hq : M q = none) : zC Fm (fun y => y = (8, n, z) ∨ V y) (up ad (8, n, z) q) (f0 σ n z) (up ρ (3, n, z) 0) ξ (zUp M q (zO 1 [.int 0, .int 0, .int 0, .int 0, .int 0, .null, .int 0, .int 0, .int 0])) := by
  have hc : can (8, n, z) := ⟨fun _ h => absurd rfl h, fun h => by simp at h⟩
  have h1 : zC Fm V ad (f0 σ n z) (up ρ (3, n, z) 0) ξ M := by
    unfold f0
    exact ((((((((h.offI (8, n, z) 0 hno hc).offI (9, n, z) 0 hno hc).offI (10, n, z) 0 hno hc).offI (11, n, z) 0 hno hc).offI (12, n, z) 0 hno hc).offI (13, n, z) 0 hno hc).offI (14, n, z) 0 hno hc).offI (15, n, z) 0 hno hc).offN (3, n, z) 0 (by simp) hno
  refine (h1.fresh hq).more (8, n, z) hno ?_ (fun y hy e => absurd e (h1.free hq hy)) (fun y hy => ?_) hc (Or.inl (h1.fq hq))
  · rw [zUp_same]
    simp [cell, f0, up, va_rf]
  · exact absurd (up_s ρ (3, n, z) 0) hy.1
theorem k_sizeOf {p1 p2 : Int32} {P : Int32 → zM → Prop} (h : P (szO p1 p2) M) : w_X5_sizeOf p1 p2 M P := by
  unfold szO at h
  refine ⟨fun e => ⟨fun e2 => ?_, fun e2 => ?_⟩, fun e => ?_⟩
  · rw [if_neg e, if_neg e2] at h; exact h
  · rw [if_neg e, if_pos e2] at h; exact h
  · rw [if_pos e] at h; exact h
/-- what is referred to: x5 = 0 or the schema's number + 1; k places g -/
def FX (cnt : Nat → Nat) (σ : nI2) (ρ : nN2) (p1 p2 : Int32) (x5 k : Nat) (g : Nat → Int32) : Prop := (¬ p1 = 4 ∧ x5 = 0 ∧ k = 1 ∧ g = fun _ => szO p1 p2) ∨ (p1 = 4 ∧ ∃ s v, RefOK cnt σ p2 s v ∧ x5 = ρ (2, s, v) + 1 ∧ k = lnn σ (ρ (2, s, v)) ∧ g = fun j => σ (5, 3 + ρ (2, s, v), j))
theorem k_make (h : zC Fm V ad σ ρ ξ M) {z q x5 : Nat} {p0 p1 p2 p3 rv : Int32} (hno : ¬ V (8, n, z)) (hq : M q = none) (hx : x5 ≠ 0 → V (5, x5 - 1, 0)) {P : zM → Prop}
    (hP : ∀ M', zC Fm (fun y => y = (8, n, z) ∨ V y) (up ad (8, n, z) q) (f1 σ n z p0 p1 p2 p3 rv) (up (up ρ (3, n, z) 0) (3, n, z) x5) ξ M' → P M') : w_X0_init q p0 p1 (szO p1 p2) p3 rv (if x5 = 0 then none else some (ad (5, x5 - 1, 0))) (zUp M q (zO 1 [.int 0, .int 0, .int 0, .int 0, .int 0, .null, .int 0, .int 0, .int 0])) P := by
  have h1 := h.newF hno hq
  have hq8 : q = up ad (8, n, z) q (8, n, z) := (up_s _ _ _).symm
  have hF : (fun y => y = ((8, n, z) : nm) ∨ V y) (8, n, z) := Or.inl rfl
  have goal : ∀ a, a = up ad (8, n, z) q (8, n, z) → w_X0_init a p0 p1 (szO p1 p2) p3 rv (if x5 = 0 then none else some (ad (5, x5 - 1, 0))) (zUp M q (zO 1 [.int 0, .int 0, .int 0, .int 0, .int 0, .null, .int 0, .int 0, .int 0])) P := fun a ha => by
    subst ha
    refine p_i h1 (8, n, z) hF (v := p0) rfl (by simp) (by simp [cell, hI, up, List.set]) fun M1 g1 => p_i g1 (9, n, z) hF (v := p1) rfl (by simp) (by simp [cell, hI, up, List.set]) fun M2 g2 => p_i g2 (10, n, z) hF (v := szO p1 p2) rfl (by simp) (by simp [cell, hI, up, List.set]) fun M3 g3 => p_i g3 (11, n, z) hF (v := p3) rfl (by simp) (by simp [cell, hI, up, List.set]) fun M4 g4 => p_i g4 (12, n, z) hF (v := rv) rfl (by simp) (by simp [cell, hI, up, List.set]) fun M5 g5 => ?_
    refine p_n g5 (3, n, z) x5 (by simp) hF (fun y hy => ?_) rfl (by simp) ?_ hP
    · obtain ⟨e1, e2⟩ := hy
      have e3 : up (up ρ (3, n, z) 0) (3, n, z) x5 (3, n, z) = x5 := up_s _ _ _
      have e1' : up (up ρ (3, n, z) 0) (3, n, z) x5 (3, n, z) ≠ 0 := e1
      rw [e3] at e1'
      have e2' : y = (5, up (up ρ (3, n, z) 0) (3, n, z) x5 (3, n, z) - 1, 0) := e2
      rw [e3] at e2'
      rw [e2']
      exact Or.inr (hx e1')
    · have e3 : up (up ρ (3, n, z) 0) (3, n, z) x5 (3, n, z) = x5 := up_s _ _ _
      have e4 : up ad (8, n, z) q (5, x5 - 1, 0) = ad (5, x5 - 1, 0) := up_n _ _ (fun e => by cases e)
      simp only [cell, hN, List.set]
      rw [e3, e4]
  exact goal q hq8
/-- the schema's list and begin after a field was put behind it -/
def f3 (σ : nI2) (n z ln : Nat) : nI2 := up (up (up σ (13, n, z) (nI ln)) (6, 8 + n, 0) (up σ (13, n, z) (nI ln) (6, 8 + n, 0) + 1)) (7, 8 + n, 0) (nI (z + 1))
theorem f3_n {n z ln : Nat} {w : nm} (h1 : w ≠ (13, n, z)) (h2 : w ≠ (6, 8 + n, 0)) (h3 : w ≠ (7, 8 + n, 0)) : f3 σ n z ln w = σ w := by
  unfold f3; rw [up_n _ _ h3, up_n _ _ h2, up_n _ _ h1]
theorem s_append (h : zC Fm V ad σ ρ ξ M) {z ln k : Nat} {g : Nat → Int32} (hVn : V (5, n, 0)) (hF : V (8, n, z)) (hL : Ls σ ρ (8 + n) z) (hz : z < 5) (hln : σ (4, 3 + n, 0) = nI ln) (hk : ln + k ≤ 20)
    (hx : (ρ (3, n, z) = 0 ∧ k = 1 ∧ g = fun _ => σ (10, n, z)) ∨ (ρ (3, n, z) ≠ 0 ∧ rf ρ n z ≠ n ∧ σ (4, 3 + rf ρ n z, 0) = nI k ∧ g = fun j => σ (5, 3 + rf ρ n z, j))) {P : zM → Prop}
    (hP : ∀ M' ad2 ρ2, (∀ y, y ≠ (3, 8 + n, 0) → ad2 y = ad y) → (∀ w, w ≠ (4, 8 + n, z) → w ≠ (5, 8 + n, 0) → ρ2 w = ρ w) → Ls (f3 σ n z ln) ρ2 (8 + n) (z + 1) → zC Fm V ad2 (rAdd (f3 σ n z ln) (3 + n) ln k g) ρ2 ξ M' → P M') : w_X2_append (ad (5, n, 0)) (ad (8, n, z)) M P := by
  obtain ⟨v2, v3, v6, v7⟩ := s_V h hVn
  refine g_r h hVn rfl rfl ⟨g_is h v6 rfl, r_count h v6 ?_⟩
  rw [hln]
  refine p_i h (13, n, z) hF rfl (by simp) (by simp [cell, hI, up, List.set]) fun M1 h1 => g_r h1 hVn rfl rfl ⟨g_is h1 v2 rfl, ?_⟩
  have hL1 : Ls (up σ (13, n, z) (nI ln)) ρ (8 + n) z := ⟨(up_n _ _ (fun e => by cases e)).trans hL.1, hL.2⟩
  have add := l_add h1 v2 hL1 (by omega) (by rw [el_8]; exact hF) (P := fun v7 M6 => zGo M6 (ad (8, n, z)) 1 5 (fun v8 => ((v8 = none → zGr M6 (ad (5, n, 0)) 3 1 (fun v12 => zGi M6 (ad (8, n, z)) 1 2 (fun v13 => (zIs M6 v12 2 ∧ w_X1_add v12 v13 M6 (fun M14 => P M14))))) ∧ (∀ a9, v8 = some a9 → zGr M6 (ad (5, n, 0)) 3 1 (fun v15 => zGo M6 (ad (8, n, z)) 1 5 (fun v16 => zDf v16 (fun a17 => zGr M6 a17 3 1 (fun v19 => (zIs M6 v15 2 ∧ w_X1_addAll v15 v19 M6 (fun M20 => P M20)))))))))) (fun M2 ad2 ρ2 ha hr hl2 h2 => ?_)
  · rw [el_8] at add
    exact add
  · have h2 : zC Fm V ad2 (f3 σ n z ln) ρ2 ξ M2 := h2
    have hl2 : Ls (f3 σ n z ln) ρ2 (8 + n) (z + 1) := hl2
    have fin := fun M' hm => hP M' ad2 ρ2 ha hr hl2 hm
    have r3 : ρ2 (3, n, z) = ρ (3, n, z) := hr _ (fun e => by cases e) (fun e => by cases e)
    have l3 : f3 σ n z ln (4, 3 + n, 0) = nI ln := (f3_n (fun e => by cases e) (fun e => by cases e) (fun e => by cases e)).trans hln
    rw [← ha (5, n, 0) (fun e => by cases e), ← ha (8, n, z) (fun e => by cases e)]
    rcases hx with ⟨x0, xk, xg⟩ | ⟨x0, xn, xk, xg⟩
    · refine g_o h2 hF rfl rfl ?_
      show ((if ρ2 (3, n, z) = 0 then none else some (ad2 (5, ρ2 (3, n, z) - 1, 0))) = none → _) ∧ _
      rw [r3, if_pos x0]
      refine cm_none (g_r h2 hVn rfl rfl (g_i h2 hF rfl rfl ⟨g_is h2 v6 rfl, r_add h2 v6 l3 (by omega) fun M3 h3 => fin M3 ?_⟩))
      have e10 : f3 σ n z ln (10, n, z) = σ (10, n, z) := f3_n (fun e => by cases e) (fun e => by cases e) (fun e => by cases e)
      have := rAdd_s (σ := f3 σ n z ln) (r := 3 + n) (u := ln) (n := 0) (g := fun _ => σ (10, n, z))
      rw [rAdd_0 l3] at this
      rw [xk, xg]
      rw [← this, ← e10]
      exact h3
    · have hfr : ∀ K : Option Nat → Prop, K (some (ad2 (5, rf ρ n z, 0))) → zGo M2 (ad2 (8, n, z)) 1 5 K := fun K hK => by
        have := f_ref h2 hF (K := K) (by rw [r3]; exact x0)
        rw [show rf ρ2 n z = rf ρ n z by unfold rf; rw [r3]] at this
        exact this hK
      have hVc : V (5, rf ρ n z, 0) := f_refV h hF x0
      refine hfr _ (cm_some (g_r h2 hVn rfl rfl (hfr _ ⟨_, rfl, g_r h2 hVc rfl rfl ⟨g_is h2 v6 rfl, ?_⟩⟩)))
      refine r_addAll h2 v6 (s_V h2 hVc).2.2.1 (by omega) l3 ((f3_n (fun e => by cases e) (fun e => by cases e) (fun e => by cases e)).trans xk) hk fun M3 h3 => fin M3 ?_
      have eg : (fun j => f3 σ n z ln (5, 3 + rf ρ n z, j)) = fun j => σ (5, 3 + rf ρ n z, j) := funext fun j => f3_n (fun e => by cases e) (fun e => by cases e) (fun e => by cases e)
      rw [eg] at h3
      rw [xg]
      exact h3
/-- the class's ints after a field -/
def fK (σ : nI2) (n : Nat) (p0 p1 p2 p3 : Int32) (k : Nat) (g : Nat → Int32) : nI2 := rAdd (f3 (f1 σ n (zz σ n) p0 p1 p2 p3 (if p1 = 4 then p2 else -1)) n (zz σ n) (lnn σ n)) (3 + n) (lnn σ n) k g
theorem f1_n {z : Nat} {p0 p1 p2 p3 rv : Int32} {w : nm} (h : w.2 ≠ (n, z) ∨ w.1 < 8 ∨ 15 < w.1) : f1 σ n z p0 p1 p2 p3 rv w = σ w := by
  have : ∀ k, 8 ≤ k → k ≤ 15 → w ≠ (k, n, z) := fun k h1 h2 e => by rw [e] at h; rcases h with h | h | h; exact h rfl; exact absurd h (by simp only; omega); exact absurd h (by simp only; omega)
  unfold f1 f0
  rw [up_n _ _ (this 12 (by omega) (by omega)), up_n _ _ (this 11 (by omega) (by omega)), up_n _ _ (this 10 (by omega) (by omega)), up_n _ _ (this 9 (by omega) (by omega)), up_n _ _ (this 8 (by omega) (by omega)), up_n _ _ (this 15 (by omega) (by omega)), up_n _ _ (this 14 (by omega) (by omega)), up_n _ _ (this 13 (by omega) (by omega)), up_n _ _ (this 12 (by omega) (by omega)), up_n _ _ (this 11 (by omega) (by omega)), up_n _ _ (this 10 (by omega) (by omega)), up_n _ _ (this 9 (by omega) (by omega)), up_n _ _ (this 8 (by omega) (by omega))]
theorem Ls_of {l k : Nat} (h7 : σ' (7, l, 0) = σ (7, l, 0)) (h4 : ∀ j, ρ' (4, l, j) = ρ (4, l, j)) (h5 : ρ' (5, l, 0) = ρ (5, l, 0)) (h : Ls σ ρ l k) : Ls σ' ρ' l k := by
  obtain ⟨a, b, c, d⟩ := h
  exact ⟨h7.trans a, fun j => by rw [h4]; exact b j, by rw [h5]; exact c, by rw [h5]; exact d⟩
theorem rAdd_n {r u k : Nat} {g : Nat → Int32} {w : nm} (h4 : w ≠ (4, r, 0)) (h5 : w.1 ≠ 5 ∨ w.2.1 ≠ r) : rAdd σ r u k g w = σ w := by
  unfold rAdd
  rw [if_neg h4, if_neg (fun e => h5.elim (fun q => q e.1) (fun q => q e.2.1))]
theorem k_field (h : zC Fm V ad σ ρ ξ M) (hV : V (0, 0, 0)) (hK : WK n cnt σ ρ) (hP0 : WP n σ ρ) (hno : ¬ V (8, n, zz σ n)) {p0 p1 p2 p3 : Int32} {P : Int32 → zM → Prop} {PX : Nat → zM → Prop} (h1 : ¬ OKa p0 p1 p2 p3 → PX 1 M) (h2 : OKa p0 p1 p2 p3 → p1 = 4 → (∀ s v, ¬ RefOK cnt σ p2 s v) → PX 2 M) (h3 : ∀ k, OKa p0 p1 p2 p3 → Mor cnt σ ρ p1 p2 k → Ful σ n p0 k → PX 3 M)
    (h0 : ∀ k x5 g, OKa p0 p1 p2 p3 → Mor cnt σ ρ p1 p2 k → FX cnt σ ρ p1 p2 x5 k g → ¬ Ful σ n p0 k → ∀ M' ad' ρ', (∀ y, y ≠ (3, 8 + n, 0) → y ≠ (8, n, zz σ n) → ad' y = ad y) → (∀ w, w ≠ (4, 8 + n, zz σ n) → w ≠ (5, 8 + n, 0) → w ≠ (3, n, zz σ n) → ρ' w = ρ w) → ρ' (3, n, zz σ n) = x5 → Ls (fK σ n p0 p1 p2 p3 k g) ρ' (8 + n) (zz σ n + 1) → zC Fm (fun y => y = (8, n, zz σ n) ∨ V y) ad' (fK σ n p0 p1 p2 p3 k g) ρ' ξ M' → P (nI (zz σ n + 1)) M') : w_X5_field (ad (0, 0, 0)) p0 p1 p2 p3 M P PX := by
  have hn := hK.1.2.2.1
  have hd := hK.1.2.2.2
  have hVn := k_S h hV hK (Nat.le_refl n)
  have hS := (hK.2.2 n (Nat.le_refl n)).1
  have z5 := hS.2
  obtain ⟨v2, v3, v6, v7⟩ := s_V h hVn
  obtain ⟨l1, l20⟩ := hP0.lnn (Nat.le_refl n)
  have hln : σ (4, 3 + n, 0) = nI (lnn σ n) := by rw [l1]; exact (hP0 n (Nat.le_refl n)).1.1
  refine k_args (fun ok => ?_) h1
  have k119 : ∀ x5 k g, k ≤ 20 → Mor cnt σ ρ p1 p2 k → FX cnt σ ρ p1 p2 x5 k g → (x5 ≠ 0 → V (5, x5 - 1, 0) ∧ x5 - 1 < n) → w_X5_field_119 (ad (0, 0, 0)) p0 p1 p2 p3 P PX (if x5 = 0 then none else some (ad (5, x5 - 1, 0))) (nI k) M := fun x5 k g hk hm hfx hx => by
    refine g_r h hV rfl rfl ?_
    show zGr M (ad (5, ρ (0, 0, 0), 0)) 3 0 _
    rw [hd]
    refine g_r h hVn rfl rfl ⟨g_is h v2 rfl, l_size h v2 hS.1 (pk_le 5 (zz σ n) (fun e => h3 k ok hm (Or.inl (by omega))) (fun e => g_r h hV rfl rfl ?_))⟩
    show zIs M (ad (5, ρ (0, 0, 0), 0)) 3 ∧ w_X2_named (ad (5, ρ (0, 0, 0), 0)) p0 M _
    rw [hd]
    refine ⟨g_is h hVn rfl, s_named h hVn hS ?_⟩
    cases en : nmd σ n p0 with
    | some j => exact cm_some (h3 k ok hm (Or.inr (Or.inl (by rw [en]; simp))))
    | none =>
      refine cm_none (g_r h hV rfl rfl ?_)
      show zGr M (ad (5, ρ (0, 0, 0), 0)) 3 1 _
      rw [hd]
      refine g_r h hVn rfl rfl ⟨g_is h v6 rfl, r_count h v6 ?_⟩
      rw [hln, nI_add]
      refine pk_le (lnn σ n + k) 20 (fun e2 => ?_) (fun e2 => h3 k ok hm (Or.inr (Or.inr e2)))
      have nf : ¬ Ful σ n p0 k := by
        rintro (q | q | q)
        · omega
        · exact q en
        · omega
      have go : w_X5_field_184 (ad (0, 0, 0)) p0 p1 p2 p3 P PX (if x5 = 0 then none else some (ad (5, x5 - 1, 0))) (if p1 = 4 then p2 else -1) M := by
        refine g_r h hV rfl rfl fun q hq => k_sizeOf (k_make h hno hq (fun e => (hx e).1) fun M1 g1 => ?_)
        show zIs M1 (ad (5, ρ (0, 0, 0), 0)) 3 ∧ w_X2_append (ad (5, ρ (0, 0, 0), 0)) q M1 _
        rw [hd]
        have e5 : up ad (8, n, zz σ n) q (5, n, 0) = ad (5, n, 0) := up_n _ _ (fun e => by cases e)
        have e8 : up ad (8, n, zz σ n) q (8, n, zz σ n) = q := up_s _ _ _
        have e3 : up (up ρ (3, n, zz σ n) 0) (3, n, zz σ n) x5 (3, n, zz σ n) = x5 := up_s _ _ _
        have eρ : ∀ w : nm, w ≠ (3, n, zz σ n) → up (up ρ (3, n, zz σ n) 0) (3, n, zz σ n) x5 w = ρ w := fun w hw => by rw [up_n _ _ hw, up_n _ _ hw]
        have i1 := g_is g1 (x := (5, n, 0)) (Or.inr hVn) rfl
        rw [e5] at i1
        refine ⟨i1, ?_⟩
        have ap := s_append g1 (z := zz σ n) (ln := lnn σ n) (k := k) (g := g) (P := fun M8 => zGr M8 (ad (0, 0, 0)) 6 2 (fun v9 => zGr M8 v9 3 0 (fun v10 => (zIs M8 v10 0 ∧ w_Jx4a65c_size_8abf5 v10 M8 (fun v12 M11 => P v12 M11))))) (Or.inr hVn) (Or.inl rfl)
          (Ls_of (f1_n (Or.inr (Or.inl (by simp)))) (fun j => eρ _ (fun e => by cases e)) (eρ _ (fun e => by cases e)) hS.1) (by omega) ((f1_n (Or.inr (Or.inl (by simp)))).trans hln) (by have : ¬ 20 < lnn σ n + k := fun e => nf (Or.inr (Or.inr e)); omega) ?_ (fun M2 ad2 ρ2 ha hr hl2 h2 => ?_)
        · rw [e5, e8] at ap; exact ap
        · rcases hfx with ⟨x1, x2, x3, x4⟩ | ⟨x1, s, v, x2, x3, x4, x6⟩
          · exact Or.inl ⟨e3.trans x2, x3, by rw [x4]; funext j; simp [f1, up]⟩
          · have hlt := (hx (by omega)).2
            have er : rf (up (up ρ (3, n, zz σ n) 0) (3, n, zz σ n) x5) n (zz σ n) = ρ (2, s, v) := by unfold rf; rw [e3, x3]; rfl
            refine Or.inr ⟨by rw [e3]; omega, ?_, ?_, ?_⟩
            · rw [er]; omega
            · rw [er, f1_n (Or.inr (Or.inl (by simp))), x4, (hP0 (ρ (2, s, v)) (by omega)).1.1, (hP0.lnn (c := ρ (2, s, v)) (by omega)).1]
            · rw [er, x6]; funext j; exact (f1_n (Or.inr (Or.inl (by simp)))).symm
        · have a0 : ad2 (0, 0, 0) = ad (0, 0, 0) := (ha _ (fun e => by cases e)).trans (up_n _ _ (fun e => by cases e))
          have r0 : ρ2 (0, 0, 0) = n := ((hr _ (fun e => by cases e) (fun e => by cases e)).trans (eρ _ (fun e => by cases e))).trans hd
          have hl3 : Ls (fK σ n p0 p1 p2 p3 k g) ρ2 (8 + n) (zz σ n + 1) := Ls_of (rAdd_n (fun e => by cases e) (Or.inl (by simp))) (fun _ => rfl) rfl hl2
          have fin := h0 k x5 g ok hm hfx nf M2 ad2 ρ2 (fun y y1 y2 => (ha y y1).trans (up_n _ _ y2)) (fun w w1 w2 w3 => (hr w w1 w2).trans (eρ w w3)) ((hr _ (fun e => by cases e) (fun e => by cases e)).trans e3) hl3 h2
          rw [← a0]
          refine g_r h2 (Or.inr hV) rfl rfl ?_
          show zGr M2 (ad2 (5, ρ2 (0, 0, 0), 0)) 3 0 _
          rw [r0]
          have v2' := (s_V h2 (c := n) (Or.inr hVn)).1
          exact g_r h2 (Or.inr hVn) rfl rfl ⟨g_is h2 v2' rfl, l_size h2 v2' hl3 fin⟩
      refine ⟨fun e4 => ?_, fun e4 => ?_⟩
      · rw [if_neg e4] at go; exact go
      · rw [if_pos e4] at go; exact go
  refine ⟨fun e4 => ⟨fun _ => cm_none ?_, fun e => absurd e e4⟩, fun e4 => ⟨g_is h hV rfl, c_referable h hV hK (fun s v hs hp hv ht => ?_) (fun hnr => ?_)⟩⟩
  · have := k119 0 1 (fun _ => szO p1 p2) (by omega) (Or.inl ⟨e4, rfl⟩) (Or.inl ⟨e4, rfl, rfl, rfl⟩) (fun e => absurd rfl e)
    exact this
  · have hr : RefOK cnt σ p2 s v := ⟨hs, hv, hp, ht⟩
    have hlt := ((hK.2.1 s hs).2.2 v hv).2
    have hVc := k_S h hV hK (c := ρ (2, s, v)) (by omega)
    have hl := hP0.lnn (c := ρ (2, s, v)) (by omega)
    refine ⟨fun e => absurd e4 e, fun _ => cm_some (cm_some (g_r h hVc rfl rfl ⟨g_is h (s_V h hVc).2.2.1 rfl, r_count h (s_V h hVc).2.2.1 ?_⟩))⟩
    rw [(hP0 (ρ (2, s, v)) (by omega)).1.1, ← hl.1]
    have := k119 (ρ (2, s, v) + 1) (lnn σ (ρ (2, s, v))) (fun j => σ (5, 3 + ρ (2, s, v), j)) hl.2 (Or.inr ⟨e4, s, v, hr, rfl⟩) (Or.inr ⟨e4, s, v, hr, rfl, rfl, rfl⟩) (fun _ => ⟨hVc, hlt⟩)
    exact this
  · exact ⟨fun e => absurd e4 e, fun _ => cm_none (h2 ok e4 fun s v hr => hnr s v hr.1 hr.2.2.1 hr.2.1 hr.2.2.2)⟩
