/-! ===== the pure part: a number for the draft, in the class ===== -/
variable {Fm : zM} {V V' : nm → Prop} {ad ad' : nm → Nat} {σ σ' τ τ' : nI2} {ρ ρ' π : nN2} {ξ ξ' : Nat → zE} {M : zM} {x y w : nm} {n : Nat} {cnt : Nat → Nat}
/-- a cell depends on its own ints and references alone -/
theorem cell_cong (hc : can x) (hσ : ∀ w, hI w = x → σ' w = σ w) (hρ : ∀ w : nm, w.1 < 6 → hN w = x → ρ' w = ρ w) : cell ad σ' ρ' ξ x = cell ad σ ρ ξ x ∧ ∀ y, refs ρ' x y = refs ρ x y := by
  obtain ⟨k, i, j⟩ := x
  obtain ⟨c1, c2⟩ := hc
  match k, c1, c2, hσ, hρ with
  | 0, c1, c2, hσ, hρ =>
    obtain rfl : i = 0 := c2 (Or.inl rfl)
    obtain rfl : j = 0 := c1 (by simp) (by simp)
    have e1 := hρ (0, 0, 0) (by simp) rfl
    have e2 := hρ (1, 0, 0) (by simp) rfl
    have e3 := hρ (1, 1, 0) (by simp) rfl
    exact ⟨by simp only [cell]; rw [e1, e2, e3], fun y => by simp only [refs]; rw [e1, e2, e3]⟩
  | 1, c1, c2, hσ, hρ =>
    obtain rfl : j = 0 := c1 (by simp) (by simp)
    exact ⟨by simp only [cell]; rw [hσ (0, i, 0) rfl, hσ (1, i, 0) rfl], fun y => rfl⟩
  | 2, c1, c2, hσ, hρ =>
    obtain rfl : j = 0 := c1 (by simp) (by simp)
    exact ⟨by simp only [cell]; rw [hσ (6, i, 0) rfl, hσ (7, i, 0) rfl], fun y => rfl⟩
  | 3, c1, c2, hσ, hρ =>
    obtain rfl : j = 0 := c1 (by simp) (by simp)
    have e1 : ∀ q, ρ' (4, i, q) = ρ (4, i, q) := fun q => hρ (4, i, q) (by simp) rfl
    have e2 := hρ (5, i, 0) (by simp) rfl
    exact ⟨by simp only [cell, e1, e2], fun y => by simp only [refs, e1]⟩
  | 4, c1, c2, hσ, hρ =>
    have e1 := hρ (2, i, j) (by simp) rfl
    exact ⟨by simp only [cell]; rw [hσ (2, i, j) rfl, e1], fun y => by simp only [refs]; rw [e1]⟩
  | 5, c1, c2, hσ, hρ =>
    obtain rfl : j = 0 := c1 (by simp) (by simp)
    exact ⟨by simp only [cell]; rw [hσ (3, i, 0) rfl], fun y => rfl⟩
  | 6, c1, c2, hσ, hρ =>
    obtain rfl : j = 0 := c1 (by simp) (by simp)
    exact ⟨by simp only [cell]; rw [hσ (4, i, 0) rfl], fun y => rfl⟩
  | 7, c1, c2, hσ, hρ =>
    obtain rfl : j = 0 := c1 (by simp) (by simp)
    exact ⟨by simp only [cell]; rw [show (fun j => σ' (5, i, j)) = fun j => σ (5, i, j) from funext fun q => hσ (5, i, q) rfl], fun y => rfl⟩
  | 8, c1, c2, hσ, hρ =>
    have e1 := hρ (3, i, j) (by simp) rfl
    exact ⟨by simp only [cell]; rw [hσ (8, i, j) rfl, hσ (9, i, j) rfl, hσ (10, i, j) rfl, hσ (11, i, j) rfl, hσ (12, i, j) rfl, hσ (13, i, j) rfl, hσ (14, i, j) rfl, hσ (15, i, j) rfl, e1], fun y => by simp only [refs]; rw [e1]⟩
  | 9, c1, c2, hσ, hρ =>
    obtain rfl : i = 0 := c2 (Or.inr rfl)
    obtain rfl : j = 0 := c1 (by simp) (by simp)
    exact ⟨by simp only [cell]; rw [hσ (16, 0, 0) rfl, hσ (16, 9, 0) rfl, hσ (16, 16, 0) rfl], fun y => rfl⟩
  | 10, c1, c2, hσ, hρ =>
    obtain rfl : j = 0 := c1 (by simp) (by simp)
    exact ⟨by simp only [cell]; rw [show (fun j => σ' (17, i, j)) = fun j => σ (17, i, j) from funext fun q => hσ (17, i, q) rfl], fun y => rfl⟩
  | k + 11, c1, c2, hσ, hρ => exact ⟨rfl, fun y => rfl⟩
theorem zC.cong (h : zC Fm V ad σ ρ ξ M) (hσ : ∀ w, V (hI w) → σ' w = σ w) (hρ : ∀ w : nm, w.1 < 6 → V (hN w) → ρ' w = ρ w) : zC Fm V ad σ' ρ' ξ M :=
  h.same (fun y hy => (cell_cong (h.2.2.2 y hy) (fun w hw => hσ w (hw ▸ hy)) (fun w h6 hw => hρ w h6 (hw ▸ hy))).1)
    (fun y hy u hu => by
      rw [(cell_cong (ad := ad) (ξ := ξ) (h.2.2.2 y hy) (fun w hw => hσ w (hw ▸ hy)) (fun w h6 hw => hρ w h6 (hw ▸ hy))).2] at hu
      exact h.2.2.1 y hy u hu)
/-- a schema's ints and references as a new one wants them -/
def ovI (σ : nI2) (c : Nat) : nI2 := fun w => if w.1 = 3 ∧ w.2.1 = c then -1 else if ((w.1 = 4 ∨ w.1 = 5) ∧ w.2.1 = 3 + c) ∨ ((w.1 = 6 ∨ w.1 = 7) ∧ w.2.1 = 8 + c) then 0 else σ w
def ovN (ρ : nN2) (c : Nat) : nN2 := fun w => if (w.1 = 4 ∨ w.1 = 5) ∧ w.2.1 = 8 + c then 0 else ρ w
theorem ovI_n {c : Nat} {w : nm} (h3 : w.1 ≠ 3 ∨ w.2.1 ≠ c) (h4 : (w.1 ≠ 4 ∧ w.1 ≠ 5) ∨ w.2.1 ≠ 3 + c) (h6 : (w.1 ≠ 6 ∧ w.1 ≠ 7) ∨ w.2.1 ≠ 8 + c) : ovI σ c w = σ w := by
  unfold ovI
  rw [if_neg (by omega), if_neg (by omega)]
theorem ovN_n {c : Nat} {w : nm} (h : (w.1 ≠ 4 ∧ w.1 ≠ 5) ∨ w.2.1 ≠ 8 + c) : ovN ρ c w = ρ w := if_neg (by omega)
theorem Zs_ov {c : Nat} : Zs (ovI σ c) (ovN ρ c) c := by
  refine ⟨fun j => ?_, ?_, ?_, ?_, ?_, fun j => ?_, ?_⟩ <;> simp [ovI, ovN]
theorem zC.ov (h : zC Fm V ad σ ρ ξ M) {c : Nat} (hno : ∀ y, nS c y → ¬ V y) : zC Fm V ad (ovI σ c) (ovN ρ c) ξ M := by
  refine h.cong (fun w hw => ?_) (fun w h6 hw => ?_)
  · obtain ⟨a, i, j⟩ := w
    refine ovI_n ?_ ?_ ?_
    · by_cases e : a = 3
      · refine Or.inr fun e2 => ?_
        simp only at e2; subst e e2
        exact hno _ (Or.inl rfl) hw
      · exact Or.inl e
    · by_cases e : a = 4 ∨ a = 5
      · refine Or.inr fun e2 => ?_
        simp only at e2; subst e2
        rcases e with rfl | rfl
        · exact hno _ (Or.inr (Or.inl rfl)) hw
        · exact hno _ (Or.inr (Or.inr (Or.inl rfl))) hw
      · exact Or.inl (by simp only; omega)
    · by_cases e : a = 6 ∨ a = 7
      · refine Or.inr fun e2 => ?_
        simp only at e2; subst e2
        rcases e with rfl | rfl
        · exact hno _ (Or.inr (Or.inr (Or.inr (Or.inl rfl)))) hw
        · exact hno _ (Or.inr (Or.inr (Or.inr (Or.inl rfl)))) hw
      · exact Or.inl (by simp only; omega)
  · obtain ⟨a, i, j⟩ := w
    refine ovN_n ?_
    by_cases e : a = 4 ∨ a = 5
    · refine Or.inr fun e2 => ?_
      simp only at e2; subst e2
      rcases e with rfl | rfl
      · exact hno _ (Or.inr (Or.inr (Or.inr (Or.inr rfl)))) hw
      · exact hno _ (Or.inr (Or.inr (Or.inr (Or.inr rfl)))) hw
    · exact Or.inl (by simp only; omega)
/-- the number of a like schema -/
def numS (σ : nI2) (n : Nat) : Option Nat := lk (fun i => likeS σ i n) n 0
/-- the ints once the draft has got a number -/
def tk0 (σ : nI2) (n : Nat) : nI2 := up (up (up σ (3, n, 0) (nI n)) (6, 1, 0) (up σ (3, n, 0) (nI n) (6, 1, 0) + 1)) (7, 1, 0) (nI (n + 1))
def tkI (σ : nI2) (n : Nat) : nI2 := ovI (tk0 σ n) (n + 1)
theorem k_take (h : zC Fm V ad σ ρ ξ M) (hV : V (0, 0, 0)) (hK : WK n cnt σ ρ) (hz : V (13, 0, 0)) (hz2 : ξ 13 = zN) (hno : ∀ y, nS (n + 1) y → ¬ V y) (hno15 : ∀ y, V y → y.1 < 15) (hn36 : n < 36) {P : Option Nat → zM → Prop}
    (h1 : ∀ i, i < n → numS σ n = some i → ∀ M', zC Fm V ad (emS σ n) (clr ρ (8 + n) (zz σ n)) ξ M' → P (some (ad (5, i, 0))) M')
    (h2 : numS σ n = none → ∀ M' V' ad' ρ' ξ', (∀ y, V' y ↔ nS (n + 1) y ∨ V y) → (∀ y, ¬ nS (n + 1) y → y ≠ (3, 1, 0) → y.1 < 15 → ad' y = ad y) → (∀ w : nm, w ≠ (4, 1, n) → w ≠ (5, 1, 0) → w ≠ (0, 0, 0) → ((w.1 ≠ 4 ∧ w.1 ≠ 5) ∨ w.2.1 ≠ 8 + (n + 1)) → ρ' w = ρ w) → ρ' (0, 0, 0) = n + 1 → Ls (tkI σ n) ρ' 1 (n + 1) → Zs (tkI σ n) ρ' (n + 1) → (∀ q, q < 15 → ξ' q = ξ q) → zC Fm V' ad' (tkI σ n) ρ' ξ' M' → P (some (ad (5, n, 0))) M') : w_X5_takeDraft (ad (0, 0, 0)) M P := by
  obtain ⟨⟨l0, l1, hn, hd⟩, hs, hW⟩ := id hK
  have hL := (k_0 h hV).2.1
  have hVn := k_S h hV hK (Nat.le_refl n)
  have hSn := (hW n (Nat.le_refl n)).1
  have key : ∀ k i, i + k = n → numS σ n = lk (fun i => likeS σ i n) k i → w_X5_takeDraft_2 (ad (0, 0, 0)) P (k + 1) (nI i) M := by
    intro k
    induction k with
    | zero =>
      intro i hi hl
      refine g_r h hV rfl rfl ⟨g_is h hL rfl, l_size h hL l1 (br_t (nI_le (by omega) (by omega)) (g_r h hV rfl rfl ?_))⟩
      show zGr M (ad (0, 0, 0)) 6 1 (fun v6 => (zIs M v6 0 ∧ w_Jx4a65c_size_8abf5 v6 M (fun v8 M7 => zPu M7 (ad (5, ρ (0, 0, 0), 0)) 3 2 (.int v8) (fun M9 => zGr M9 (ad (0, 0, 0)) 6 1 (fun v10 => (zIs M9 v10 0 ∧ w_Jx4a65c_add_9ea2d v10 (ad (5, ρ (0, 0, 0), 0)) M9 (fun v12 M11 => zNw M11 3 [.null, .null, .int 0] (fun q13 M14 => w_X2_init q13 M14 (fun M15 => zPu M15 (ad (0, 0, 0)) 6 2 (.ref q13) (fun M16 => P (some (ad (5, ρ (0, 0, 0), 0))) M16))))))))))
      rw [hd]
      refine g_r h hV rfl rfl ⟨g_is h hL rfl, l_size h hL l1 (p_i h (3, n, 0) hVn rfl (by simp) (by simp [cell, hI, up, List.set]) fun M1 g1 => g_r g1 hV rfl rfl ⟨g_is g1 hL rfl, ?_⟩)⟩
      refine l_add g1 hL (l := 1) (n := n) (Ls_of (up_n _ _ (fun e => by cases e)) (fun _ => rfl) rfl l1) (by omega) hVn fun M2 ad2 ρ2 a2 r2 l2 g2 => fun q hq => ?_
      have g2 : zC Fm V ad2 (tk0 σ n) ρ2 ξ M2 := g2
      have l2 : Ls (tk0 σ n) ρ2 1 (n + 1) := l2
      have g3 := g2.ov hno
      have g4 := g3.tmp (k := 15) (e := zO 3 [.null, .null, .int 0]) (by omega) (fun y hy => by have := hno15 y hy; omega) hq
      have e15 : up ad2 (15, 0, 0) q (15, 0, 0) = q := up_s _ _ _
      have si := s_init g4 (c := n + 1) (Or.inl rfl) (fun y hy hy1 => hy.elim id (fun q => absurd hy1 (by have := hno15 y q; omega))) (fun y hy => hy.elim (fun e => by rw [e]; simp) (fun q => by have := hno15 y q; omega)) (ux_s _ _ _) (Or.inr hz) ((ux_n _ _ (by omega)).trans hz2) (fun y hy q => q.elim (fun e => by
        rw [e] at hy
        rcases hy with e | e | e | e | e <;> cases e) (hno y hy)) Zs_ov (P := fun M15 => zPu M15 (ad (0, 0, 0)) 6 2 (.ref q) (fun M16 => P (some (ad (5, n, 0))) M16)) (fun M5 V5 ad5 ξ5 v5 a5 b5 x5 g5 => ?_)
      · rw [e15] at si; exact si
      have v5' : ∀ y, V5 y ↔ nS (n + 1) y ∨ V y := fun y => by
        rw [v5]
        constructor
        · rintro (e | ⟨e | e, e1⟩)
          · exact Or.inl e
          · rw [e] at e1; exact absurd rfl e1
          · exact Or.inr e
        · rintro (e | e)
          · exact Or.inl e
          · exact Or.inr ⟨Or.inr e, by have := hno15 y e; omega⟩
      have a5' : ∀ y, ¬ nS (n + 1) y → y ≠ (3, 1, 0) → y.1 < 15 → ad5 y = ad y := fun y y1 y2 y3 => by
        rw [a5 y y1 (by omega), up_n _ _ (fun e => by rw [e] at y3; simp at y3), a2 y y2]
      have nn : ∀ k i : Nat, (k ≠ 5 ∧ k ≠ 6 ∧ k ≠ 7 ∧ k ≠ 2 ∧ k ≠ 3) → ¬ nS (n + 1) (k, i, 0) := fun k i hk q => by
        rcases q with e | e | e | e | e <;> (have := congrArg Prod.fst e; simp only at this; omega)
      have n5 : ¬ nS (n + 1) (5, n, 0) := fun q => by
        rcases q with e | e | e | e | e
        · have := congrArg (fun w : nm => w.2.1) e; simp only at this; omega
        · cases e
        · cases e
        · cases e
        · cases e
      have n31 : ¬ nS (n + 1) (3, 1, 0) := fun q => by
        rcases q with e | e | e | e | e
        · cases e
        · cases e
        · cases e
        · cases e
        · have := congrArg (fun w : nm => w.2.1) e; simp only at this; omega
      rw [← a5' (0, 0, 0) (nn 0 0 (by omega)) (by simp) (by simp)]
      have hV5 : V5 (0, 0, 0) := (v5' _).2 (Or.inr hV)
      have b5' : q = ad5 (5, n + 1, 0) := by rw [b5, e15]
      have r01 : ovN ρ2 (n + 1) (1, 0, 0) = ρ (1, 0, 0) := (ovN_n (Or.inl ⟨by simp, by simp⟩)).trans (r2 _ (fun e => by cases e) (fun e => by cases e))
      refine p_n g5 (0, 0, 0) (n + 1) (by simp) hV5 (fun y hy => ?_) rfl (by simp) ?_ (fun M6 g6 => ?_)
      · obtain ⟨k0, k1, k2, k3, k4, k5⟩ := k_0 g5 hV5
        have e1 : ∀ k i : Nat, k ≠ 0 → up (ovN ρ2 (n + 1)) (0, 0, 0) (n + 1) (k, i, 0) = ovN ρ2 (n + 1) (k, i, 0) := fun k i hk => up_n _ _ (fun e => hk (congrArg Prod.fst e))
        have e0 : up (ovN ρ2 (n + 1)) (0, 0, 0) (n + 1) (0, 0, 0) = n + 1 := up_s _ _ _
        simp only [hN, refs] at hy
        rw [e0, e1 1 0 (by simp), e1 1 1 (by simp)] at hy
        rcases hy with rfl | rfl | rfl | rfl | rfl | rfl
        · exact k0
        · exact k1
        · exact (v5' _).2 (Or.inl (Or.inl rfl))
        · exact k3
        · exact k4
        · exact k5
      · have e1 : ∀ k i : Nat, k ≠ 0 → up (ovN ρ2 (n + 1)) (0, 0, 0) (n + 1) (k, i, 0) = ovN ρ2 (n + 1) (k, i, 0) := fun k i hk => up_n _ _ (fun e => hk (congrArg Prod.fst e))
        have e0 : up (ovN ρ2 (n + 1)) (0, 0, 0) (n + 1) (0, 0, 0) = n + 1 := up_s _ _ _
        simp only [hN, cell, List.set]
        rw [e0, e1 1 0 (by simp), e1 1 1 (by simp), ← b5']
      · refine h2 hl M6 V5 ad5 _ ξ5 v5' a5' (fun w w1 w2 w3 w4 => ?_) (up_s _ _ _) ?_ ?_ (fun q hq => (x5 q (by omega) (by omega)).trans (ux_n _ _ (by omega))) g6
        · rw [up_n _ _ w3, ovN_n w4, r2 w w1 w2]
        · refine Ls_of ?_ (fun j => ?_) ?_ l2
          · exact ovI_n (Or.inl (by simp)) (Or.inl (by simp)) (Or.inr (by simp only; omega))
          · rw [up_n _ _ (fun e => by cases e)]; exact ovN_n (Or.inr (by simp only; omega))
          · rw [up_n _ _ (fun e => by cases e)]; exact ovN_n (Or.inr (by simp only; omega))
        · obtain ⟨z1, z2, z3, z4, z5, z6, z7⟩ := Zs_ov (σ := tk0 σ n) (ρ := ρ2) (c := n + 1)
          exact ⟨fun j => (up_n _ _ (fun e => by cases e)).trans (z1 j), (up_n _ _ (fun e => by cases e)).trans z2, z3, z4, z5, z6, z7⟩
    | succ k ih =>
      intro i hi hl
      have hVi := k_S h hV hK (c := i) (by omega)
      refine g_r h hV rfl rfl ⟨g_is h hL rfl, l_size h hL l1 (br_f (nI_ge (by omega) (by omega)) (g_r h hV rfl rfl ⟨g_is h hL rfl, l_get h hL l1 (j := i) (by omega) (g_ck h hVi rfl (g_r h hV rfl rfl ⟨g_is h hVi rfl, ?_⟩))⟩))⟩
      rw [hd]
      refine s_isLike h hVi (hW i (by omega)).1 hVn hSn (br_b (fun e => ?_) (fun e => ?_))
      · rw [nI_1]
        refine ih (i + 1) (by omega) ?_
        rw [hl, lk, if_neg (by rw [e]; decide)]
      · refine g_r h hV rfl rfl ?_
        show zIs M (ad (5, ρ (0, 0, 0), 0)) 3 ∧ w_X2_empty (ad (5, ρ (0, 0, 0), 0)) M _
        rw [hd]
        refine ⟨g_is h hVn rfl, s_empty h hVn hSn fun M1 g1 => g_r g1 hV rfl rfl ⟨g_is g1 hL rfl, l_get g1 hL (l := 1) (n := n) (j := i) (Ls_of ?_ (fun j => ?_) ?_ l1) (by omega) (g_ck g1 hVi rfl (h1 i (by omega) ?_ M1 g1))⟩⟩
        · unfold emS
          rw [up_n _ _ (fun e => by cases e), up_n _ _ (fun e => by have := congrArg (fun w : nm => w.2.1) e; simp only at this; omega), up_n _ _ (fun e => by cases e)]
        · exact clr_n _ _ _ (Or.inr (by simp only; omega))
        · exact clr_n _ _ _ (Or.inl (by simp))
        · rw [hl, lk, if_pos e]
  exact ⟨n + 1, key n 0 (by omega) rfl⟩
