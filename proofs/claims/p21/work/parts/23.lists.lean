/-! ===== the pure part: lists over the memory by names ===== -/
variable {Fm : zM} {V V' : nm → Prop} {ad ad' : nm → Nat} {σ σ' : nI2} {ρ ρ' : nN2} {ξ ξ' : Nat → zE} {M : zM} {x y w : nm}
theorem el_kind (l j : Nat) : (el l j).1 ≠ 3 ∧ (el l j).1 ≠ 2 ∧ (el l j).1 < 9 := by
  unfold el
  split
  · exact ⟨by simp, by simp, by simp⟩
  · split
    · exact ⟨by simp, by simp, by simp⟩
    · split
      · exact ⟨by simp, by simp, by simp⟩
      · exact ⟨by simp, by simp, by simp⟩
theorem el_obj (ad : nm → Nat) (σ : nI2) (ρ : nN2) (ξ : Nat → zE) (l j : Nat) : ∃ ci fs, cell ad σ ρ ξ (el l j) = zO ci fs := by
  unfold el
  split
  · exact ⟨_, _, rfl⟩
  · split
    · exact ⟨_, _, rfl⟩
    · split
      · exact ⟨_, _, rfl⟩
      · exact ⟨_, _, rfl⟩
theorem refs_arr {l : Nat} (hc : can y) (h : refs ρ y (3, l, 0)) : y = (2, l, 0) := by
  obtain ⟨k, i, j⟩ := y
  match k, hc, h with
  | 0, hc, h => simp [refs] at h
  | 1, hc, h => simp [refs] at h
  | 2, hc, h =>
    simp only [refs, Prod.mk.injEq, and_true, true_and] at h
    have := hc.1 (by simp) (by simp)
    simp only at this
    rw [h, this]
  | 3, hc, h =>
    obtain ⟨q, -, h⟩ := h
    exact absurd (congrArg Prod.fst h).symm (el_kind _ _).1
  | 4, hc, h => simp [refs] at h
  | 5, hc, h => simp [refs] at h
  | 6, hc, h => simp [refs] at h
  | 7, hc, h => exact h.elim
  | 8, hc, h => simp [refs] at h
  | 9, hc, h => simp [refs] at h
  | 10, hc, h => exact h.elim
  | k + 11, hc, h => exact h.elim
/-- a list l of n elements -/
def Ls (σ : nI2) (ρ : nN2) (l n : Nat) : Prop := σ (7, l, 0) = nI n ∧ (∀ j, ρ (4, l, j) ≠ 0 ↔ j < n) ∧ n ≤ ρ (5, l, 0) ∧ ρ (5, l, 0) ≤ 100
theorem l_size (h : zC Fm V ad σ ρ ξ M) {l n : Nat} (hV : V (2, l, 0)) (hL : Ls σ ρ l n) {P : Int32 → zM → Prop} (hP : P (nI n) M) : w_Jx4a65c_size_8abf5 (ad (2, l, 0)) M P := by
  refine g_i h hV rfl rfl ?_
  rw [hL.1]; exact hP
theorem l_isEmpty (h : zC Fm V ad σ ρ ξ M) {l n : Nat} (hV : V (2, l, 0)) (hL : Ls σ ρ l n) {P : Int32 → zM → Prop} (hP : P (if n = 0 then 1 else 0) M) : w_Jx4a65c_isEmpty_aae02 (ad (2, l, 0)) M P := by
  refine g_i h hV rfl rfl ?_
  have := hL.2.2
  rw [hL.1]
  by_cases e : n = 0
  · subst e; rw [if_pos rfl] at hP; exact ⟨fun q => absurd nI_0 q, fun _ => hP⟩
  · rw [if_neg e] at hP; exact ⟨fun _ => hP, fun q => absurd q (nI_ne0 (by omega) (by omega))⟩
theorem l_get (h : zC Fm V ad σ ρ ξ M) {l n j : Nat} (hV : V (2, l, 0)) (hL : Ls σ ρ l n) (hj : j < n) {P : Option Nat → zM → Prop} (hP : P (some (ad (el l j))) M) : w_Jx4a65c_get_915e3 (ad (2, l, 0)) (nI j) M P := by
  have hV3 : V (3, l, 0) := h.2.2.1 _ hV _ rfl
  have h3 := h.1 _ hV3
  have := hL.2.2
  rw [show cell ad σ ρ ξ (3, l, 0) = zA (ρ (5, l, 0)) (fun j => if ρ (4, l, j) = 0 then none else some (ad (el l j))) from if_neg (show ¬ ρ (5, l, 0) = 0 by omega)] at h3
  refine g_i h hV rfl rfl ?_
  rw [hL.1]
  refine br_f (nI_pos (by omega)) (br_t (nI_lt hj (by omega)) ⟨g_is h hV rfl, g_r h hV rfl rfl ⟨_, _, h3, vp_in_nI (by omega) (by omega), ?_⟩⟩)
  rw [nI_clamp (by omega), if_neg ((hL.2.1 j).2 hj)]
  exact hP
/-- a greater row for a list -/
theorem zC.grow (h : zC Fm V ad σ ρ ξ M) {l q c : Nat} {g : Nat → Option Nat} (hV : V (2, l, 0)) (hc : c ≠ 0) (hq : M q = none) (hg : g = fun j => if ρ (4, l, j) = 0 then none else some (ad (el l j))) (hr : ∀ j, ρ (4, l, j) ≠ 0 → V (el l j)) :
    zC Fm V (up ad (3, l, 0) q) σ (up ρ (5, l, 0) c) ξ (zUp (zUp M q (zA c g)) (ad (2, l, 0)) (zO 0 [.int (σ (6, l, 0)), .ref q, .int (σ (7, l, 0))])) := by
  have hV3 : V (3, l, 0) := h.2.2.1 _ hV _ rfl
  have h2q : ad (2, l, 0) ≠ q := h.free hq hV
  have hel : ∀ j, up ad (3, l, 0) q (el l j) = ad (el l j) := fun j => up_n _ _ fun e => (el_kind l j).1 (congrArg Prod.fst e)
  have c3 : cell (up ad (3, l, 0) q) σ (up ρ (5, l, 0) c) ξ (3, l, 0) = zA c g := by
    simp only [cell]
    rw [up_s, if_neg hc, hg]
    congr 1
    refine funext fun j => ?_
    rw [hel, up_n _ _ (fun e => by cases e)]
  have c2 : cell (up ad (3, l, 0) q) σ (up ρ (5, l, 0) c) ξ (2, l, 0) = zO 0 [.int (σ (6, l, 0)), .ref q, .int (σ (7, l, 0))] := by
    simp only [cell]; rw [up_s]
  have co : ∀ y, V y → y ≠ (3, l, 0) → y ≠ (2, l, 0) → cell (up ad (3, l, 0) q) σ (up ρ (5, l, 0) c) ξ y = cell ad σ ρ ξ y := fun y hy h3 h2 => by
    rw [cell_ad (ad' := up ad (3, l, 0) q) (ad := ad) (fun u hu => up_n _ _ fun e => h2 ?_)]
    · exact (cell_N (w := (5, l, 0)) (by simp) (h.2.2.2 y hy) h3).1
    · rw [e, (cell_N (ad := ad) (σ := σ) (ξ := ξ) (w := (5, l, 0)) (by simp) (h.2.2.2 y hy) h3).2] at hu
      exact refs_arr (h.2.2.2 y hy) hu
  refine ⟨fun y hy => ?_, ⟨fun y z hy hz hyz e => ?_, fun q' e' hq' => ?_⟩, fun y hy u hu => ?_, h.2.2.2⟩
  · by_cases e3 : y = (3, l, 0)
    · subst e3
      rw [up_s, zUp_ne _ _ (fun e => h2q e.symm), zUp_same, c3]
    · rw [up_n _ _ e3]
      by_cases e2 : y = (2, l, 0)
      · subst e2; rw [zUp_same, c2]
      · rw [zUp_ne _ _ (h.ne hV hy (fun e => e2 e.symm) (fun e => by cases e)).symm, zUp_ne _ _ (h.free hq hy), co y hy e3 e2]
        exact h.1 y hy
  · by_cases e3 : y = (3, l, 0)
    · subst e3
      rw [up_s, up_n _ _ (fun e => hyz e.symm)] at e
      exact absurd e.symm (h.free hq hz)
    · by_cases e4 : z = (3, l, 0)
      · subst e4
        rw [up_s, up_n _ _ e3] at e
        exact absurd e (h.free hq hy)
      · rw [up_n _ _ e3, up_n _ _ e4] at e
        by_cases e2 : y = (2, l, 0)
        · subst e2; exact absurd e (h.ne hV hz hyz (fun e => by cases e))
        · rw [co y hy e3 e2]; exact h.2.1.1 y z hy hz hyz e
  · obtain ⟨f1, f2⟩ := h.2.1.2 q' e' hq'
    have n1 : q' ≠ q := fun e => by rw [e, h.fq hq] at hq'; cases hq'
    have n2 : q' ≠ ad (2, l, 0) := fun e => by rw [e, h.fx hV (fun e => by cases e)] at hq'; cases hq'
    refine ⟨by rw [zUp_ne _ _ n2, zUp_ne _ _ n1]; exact f1, fun y hy e => ?_⟩
    by_cases e3 : y = (3, l, 0)
    · subst e3; rw [up_s] at e; exact absurd e.symm n1
    · rw [up_n _ _ e3] at e
      by_cases e2 : y = (2, l, 0)
      · subst e2; exact absurd e.symm n2
      · rw [co y hy e3 e2]; exact f2 y hy e
  · by_cases e3 : y = (3, l, 0)
    · subst e3
      obtain ⟨j, hj, rfl⟩ := hu
      rw [up_n _ _ (fun e => by cases e)] at hj
      exact hr j hj
    · rw [(cell_N (ad := ad) (σ := σ) (ξ := ξ) (w := (5, l, 0)) (by simp) (h.2.2.2 y hy) e3).2] at hu
      exact h.2.2.1 y hy u hu
theorem l_add (h : zC Fm V ad σ ρ ξ M) {l n : Nat} (hV : V (2, l, 0)) (hL : Ls σ ρ l n) (hn : n < 60) (hE : V (el l n)) {P : Int32 → zM → Prop}
    (hP : ∀ M' ad' ρ', (∀ y, y ≠ (3, l, 0) → ad' y = ad y) → (∀ w, w ≠ (4, l, n) → w ≠ (5, l, 0) → ρ' w = ρ w) → Ls (up (up σ (6, l, 0) (σ (6, l, 0) + 1)) (7, l, 0) (nI (n + 1))) ρ' l (n + 1) → zC Fm V ad' (up (up σ (6, l, 0) (σ (6, l, 0) + 1)) (7, l, 0) (nI (n + 1))) ρ' ξ M' → P 1 M') : w_Jx4a65c_add_9ea2d (ad (2, l, 0)) (ad (el l n)) M P := by
  obtain ⟨ci, fs, hob⟩ := el_obj ad (up σ (6, l, 0) (σ (6, l, 0) + 1)) ρ ξ l n
  have hV3 : V (3, l, 0) := h.2.2.1 _ hV _ rfl
  have hl := hL.2.2
  refine g_i h hV rfl rfl ?_
  refine p_i h (6, l, 0) hV rfl (by simp) (by simp only [cell, hI, up_s, List.set]; rw [up_n _ _ (fun e => by cases e)]) fun M2 h2 => ?_
  have s7 : up σ (6, l, 0) (σ (6, l, 0) + 1) (7, l, 0) = nI n := (up_n _ _ (fun e => by cases e)).trans hL.1
  generalize hσ1 : up σ (6, l, 0) (σ (6, l, 0) + 1) = σ1 at *
  refine g_r h2 hV rfl rfl (g_i h2 hV rfl rfl ?_)
  rw [s7]
  refine ⟨g_is h2 hV rfl, ?_⟩
  have h3 := h2.1 _ hV3
  -- the end: the element is stored, the length counted
  have fin : ∀ (adx : nm → Nat) (ρx : nN2) (Mx : zM), (∀ y, y ≠ (3, l, 0) → adx y = ad y) → (∀ w, w ≠ (5, l, 0) → ρx w = ρ w) → n < ρx (5, l, 0) → ρx (5, l, 0) ≤ 100 → zC Fm V adx σ1 ρx ξ Mx → w_Jx4a65c_add_72be8_11 (ad (2, l, 0)) (ad (el l n)) (adx (3, l, 0)) (nI n) (fun M5 => P 1 M5) (some (adx (3, l, 0))) Mx := by
    intro adx ρx Mx ha hr hc hc2 hx
    have h3 := hx.1 _ hV3
    have q4 : ∀ j, ρx (4, l, j) = ρ (4, l, j) := fun j => hr _ (fun e => by cases e)
    rw [show cell adx σ1 ρx ξ (3, l, 0) = zA (ρx (5, l, 0)) (fun j => if ρx (4, l, j) = 0 then none else some (adx (el l j))) from if_neg (show ¬ ρx (5, l, 0) = 0 by omega)] at h3
    have hea : ∀ j, adx (el l j) = ad (el l j) := fun j => ha _ fun e => (el_kind l j).1 (congrArg Prod.fst e)
    obtain ⟨ci2, fs2, hob2⟩ := el_obj adx σ1 ρx ξ l n
    have hob3 := hx.1 _ hE
    rw [hob2, hea] at hob3
    refine ⟨_, rfl, _, _, _, _, h3, hob3, vp_in_nI hc (by omega), ?_⟩
    rw [nI_clamp (by omega)]
    have hup := hx.N (4, l, n) 1 (by simp) hV3 (fun y hy => by
      obtain ⟨j, hj, rfl⟩ := hy
      by_cases e : j = n
      · subst e; exact hE
      · refine hx.2.2.1 _ hV3 _ ⟨j, ?_, rfl⟩
        rw [up_n _ _ (fun q => e (by cases q; rfl))] at hj
        exact hj) (by
      rw [show cell adx σ1 ρx ξ (hN (4, l, n)) = zA (ρx (5, l, 0)) (fun j => if ρx (4, l, j) = 0 then none else some (adx (el l j))) from if_neg (show ¬ ρx (5, l, 0) = 0 by omega)]
      exact fun e => by cases e)
    have e3 : cell adx σ1 (up ρx (4, l, n) 1) ξ (hN (4, l, n)) = zA (ρx (5, l, 0)) (va_up (fun j => if ρx (4, l, j) = 0 then none else some (adx (el l j))) n (some (ad (el l n)))) := by
      have e5 : up ρx (4, l, n) 1 (5, l, 0) = ρx (5, l, 0) := up_n _ _ (fun e => by cases e)
      simp only [cell, hN]
      rw [e5, if_neg (show ¬ ρx (5, l, 0) = 0 by omega)]
      congr 1
      refine funext fun j => ?_
      by_cases e : j = n
      · subst e; rw [up_s, if_neg (by decide), hea]; simp [va_up]
      · rw [up_n _ _ (fun q => e (by cases q; rfl))]; simp only [va_up, if_neg e]
    rw [e3] at hup
    rw [nI_1, ← ha (2, l, 0) (fun e => by cases e)]
    refine p_i hup (7, l, 0) hV rfl (by simp) (by simp only [cell, hI, up_s, List.set]; rw [up_n _ _ (fun e => by cases e)]) fun M9 h9 => ?_
    refine hP M9 adx _ ha ?_ ?_ h9
    · intro w h1 h2
      rw [up_n _ _ h1, hr w h2]
    · refine ⟨up_s _ _ _, fun j => ?_, ?_, ?_⟩
      · by_cases e : j = n
        · subst e; rw [up_s]; exact ⟨fun _ => by omega, fun _ => by decide⟩
        · rw [up_n _ _ (fun q => e (by cases q; rfl)), q4, hL.2.1]; omega
      · rw [up_n _ _ (fun e => by cases e)]; omega
      · rw [up_n _ _ (fun e => by cases e)]; omega
  by_cases hc : n < ρ (5, l, 0)
  · rw [show cell ad σ1 ρ ξ (3, l, 0) = zA (ρ (5, l, 0)) (fun j => if ρ (4, l, j) = 0 then none else some (ad (el l j))) from if_neg (show ¬ ρ (5, l, 0) = 0 by omega)] at h3
    exact ⟨_, ρ (5, l, 0), h3, rfl, fun _ => fin ad ρ M2 (fun _ _ => rfl) (fun _ _ => rfl) hc hl.2 h2, fun e => absurd ((nI_eq (by omega) (by omega)).1 e) (by omega)⟩
  · have hcn : ρ (5, l, 0) = n := by omega
    -- a new row
    have grown : ∀ (c q : Nat) (g : Nat → Option Nat), n < c → c ≤ 100 → M2 q = none → (g = fun j => if ρ (4, l, j) = 0 then none else some (ad (el l j))) →
        zPu (zUp M2 q (zA c g)) (ad (2, l, 0)) 0 1 (.ref q) (fun M6 => w_Jx4a65c_add_72be8_11 (ad (2, l, 0)) (ad (el l n)) (ad (3, l, 0)) (nI n) (fun M5 => P 1 M5) (some q) M6) := by
      intro c q g hc1 hc2 hq hg
      have hgr := h2.grow (c := c) hV (by omega) hq hg (fun j hj => h2.2.2.1 _ hV3 _ ⟨j, hj, rfl⟩)
      refine ⟨_, (zUp_ne _ _ (h2.free hq hV)).trans (h2.1 _ hV), by simp, ?_⟩
      have := fin (up ad (3, l, 0) q) (up ρ (5, l, 0) c) _ (fun y hy => up_n _ _ hy) (fun w hw => up_n _ _ hw) (by rw [up_s]; exact hc1) (by rw [up_s]; exact hc2) hgr
      rw [up_s] at this
      simp only [List.set]
      have key : ∀ a b, w_Jx4a65c_add_72be8_11 (ad (2, l, 0)) (ad (el l n)) a (nI n) (fun M5 => P 1 M5) (some q) b → w_Jx4a65c_add_72be8_11 (ad (2, l, 0)) (ad (el l n)) (ad (3, l, 0)) (nI n) (fun M5 => P 1 M5) (some q) b := fun _ _ x => x
      exact key _ _ this
    have hlen : ∃ e k, M2 (ad (3, l, 0)) = some e ∧ zLe e = some k ∧ k = n := by
      by_cases e0 : n = 0
      · rw [show cell ad σ1 ρ ξ (3, l, 0) = zN from if_pos (by rw [hcn, e0])] at h3
        exact ⟨_, 0, h3, rfl, e0.symm⟩
      · rw [show cell ad σ1 ρ ξ (3, l, 0) = zA (ρ (5, l, 0)) (fun j => if ρ (4, l, j) = 0 then none else some (ad (el l j))) from if_neg (show ¬ ρ (5, l, 0) = 0 by omega)] at h3
        exact ⟨_, _, h3, rfl, hcn⟩
    obtain ⟨e9, k9, he9, hk9, rfl⟩ := hlen
    refine ⟨e9, k9, he9, hk9, fun e => absurd rfl e, fun _ => ⟨g_is h2 hV rfl, ?_⟩⟩
    refine g_i h2 hV rfl rfl ?_
    rw [s7]
    refine ⟨g_is h2 hV rfl, g_r h2 hV rfl rfl ⟨e9, k9, he9, hk9, ?_⟩⟩
    by_cases e0 : k9 = 0
    · subst e0
      rw [show cell ad σ1 ρ ξ (3, l, 0) = zN from if_pos hcn] at h3
      refine br_f (by decide) (g_r h2 hV rfl rfl fun q hq hu => br_t (congrArg some (hu _ h3)) ?_)
      refine ⟨by decide, by decide, fun q hq => ?_⟩
      have := grown 10 q (fun _ => none) (by decide) (by decide) hq (funext fun j => by rw [if_pos (Nat.eq_zero_of_not_pos fun e => by have := (hL.2.1 j).1 (by omega); omega)])
      exact this
    · rw [show cell ad σ1 ρ ξ (3, l, 0) = zA (ρ (5, l, 0)) (fun j => if ρ (4, l, j) = 0 then none else some (ad (el l j))) from if_neg (show ¬ ρ (5, l, 0) = 0 by omega)] at h3
      refine br_t (nI_lt (a := 0) (by omega) (by omega)) ?_
      have e1 : nI k9 + 1 - nI k9 = nI 1 := by rw [nI_1, pk_sub (by omega)]; congr 1; omega
      have e2 : nI k9 >>> ((1 : Int32) &&& 31) = nI (k9 / 2) := pk_shrN (by omega) _ 1 (by decide)
      have e3 : ∃ c, k9 < c ∧ c ≤ 100 ∧ nI k9 + (if nI 1 < nI (k9 / 2) then nI (k9 / 2) else nI 1) = nI c := by
        by_cases q : 1 < k9 / 2
        · rw [if_pos (nI_lt q (by omega)), nI_add]; exact ⟨_, by omega, by omega, rfl⟩
        · rw [if_neg (nI_nlt (by omega) (by omega)), nI_add]; exact ⟨_, by omega, by omega, rfl⟩
      obtain ⟨c, hc1, hc2, e3⟩ := e3
      unfold w_Jx4a65c_grow_92f84_20 w_J8_newLength_cabcc
      rw [show Int32.ofNat k9 = nI k9 from rfl, e1, e2, e3]
      refine br_f (nI_nle (by omega) (by omega)) (br_f (nI_nlt (b := c) (a := 2147483639) (by omega) (by omega)) (g_r h2 hV rfl rfl ?_))
      refine ⟨_, _, h3, nI_pos (by omega), by rw [nI_clamp (by omega)]; omega, by rw [nI_clamp (by omega)]; exact hc2, fun j _ y hy => ?_, fun q hq => ?_⟩
      · by_cases e : ρ (4, l, j) = 0
        · rw [if_pos e] at hy; cases hy
        · rw [if_neg e] at hy
          cases hy
          obtain ⟨ci2, fs2, hob2⟩ := el_obj ad σ1 ρ ξ l j
          exact ⟨ci2, fs2, (h2.1 _ (h2.2.2.1 _ hV3 _ ⟨j, e, rfl⟩)).trans (congrArg some hob2)⟩
      · rw [nI_clamp (by omega)]
        refine grown c q _ hc1 hc2 hq (funext fun j => ?_)
        unfold va_cpy
        by_cases e : j < k9
        · rw [if_pos ⟨Nat.zero_le _, by omega⟩, Nat.sub_zero, Nat.zero_add]
        · rw [if_neg (by omega), if_pos (Nat.eq_zero_of_not_pos fun e2 => by have := (hL.2.1 j).1 (by omega); omega)]
/-- a list's first i places emptied -/
def clr (ρ : nN2) (l i : Nat) : nN2 := fun w => if w.1 = 4 ∧ w.2.1 = l ∧ w.2.2 < i then 0 else ρ w
theorem clr_0 (ρ : nN2) (l : Nat) : clr ρ l 0 = ρ := funext fun w => if_neg (by omega)
theorem clr_n (ρ : nN2) (l i : Nat) (h : w.1 ≠ 4 ∨ w.2.1 ≠ l) : clr ρ l i w = ρ w := if_neg (by omega)
theorem clr_4 (ρ : nN2) (l i j : Nat) : clr ρ l i (4, l, j) = if j < i then 0 else ρ (4, l, j) := by
  unfold clr
  by_cases e : j < i
  · rw [if_pos e, if_pos ⟨rfl, rfl, e⟩]
  · rw [if_neg e, if_neg (fun q => e q.2.2)]
theorem clr_s (ρ : nN2) (l i : Nat) : clr ρ l (i + 1) = up (clr ρ l i) (4, l, i) 0 := by
  funext w
  obtain ⟨a, b, c⟩ := w
  by_cases e : (a, b, c) = (4, l, i)
  · rw [e, up_s, clr_4, if_pos (Nat.lt_succ_self i)]
  · rw [up_n _ _ e]
    by_cases e2 : a = 4 ∧ b = l
    · obtain ⟨rfl, rfl⟩ := e2
      have : c ≠ i := fun q => e (by rw [q])
      rw [clr_4, clr_4]
      by_cases e3 : c < i
      · rw [if_pos e3, if_pos (by omega)]
      · rw [if_neg e3, if_neg (by omega)]
    · have e3 : (a, b, c).1 ≠ 4 ∨ (a, b, c).2.1 ≠ l := by simp only [ne_eq]; omega
      rw [clr_n ρ l _ e3, clr_n ρ l _ e3]
theorem l_clear (h : zC Fm V ad σ ρ ξ M) {l n : Nat} (hV : V (2, l, 0)) (hL : Ls σ ρ l n) {P : zM → Prop}
    (hP : ∀ M', zC Fm V ad (up (up σ (6, l, 0) (σ (6, l, 0) + 1)) (7, l, 0) 0) (clr ρ l n) ξ M' → P M') : w_Jx4a65c_clear_da8c8 (ad (2, l, 0)) M P := by
  have hV3 : V (3, l, 0) := h.2.2.1 _ hV _ rfl
  have hl := hL.2.2
  refine g_i h hV rfl rfl ?_
  refine p_i h (6, l, 0) hV rfl (by simp) (by simp only [cell, hI, up_s, List.set]; rw [up_n _ _ (fun e => by cases e)]) fun M2 h2 => ?_
  have s7 : up σ (6, l, 0) (σ (6, l, 0) + 1) (7, l, 0) = nI n := (up_n _ _ (fun e => by cases e)).trans hL.1
  generalize hσ1 : up σ (6, l, 0) (σ (6, l, 0) + 1) = σ1 at *
  refine g_r h2 hV rfl rfl (g_i h2 hV rfl rfl ?_)
  rw [s7]
  refine p_i h2 (7, l, 0) hV rfl (by simp) (by simp only [cell, hI, up_s, List.set]; rw [up_n _ _ (fun e => by cases e)]) fun M3 h3 => ?_
  have c3 : ∀ i, 0 < n → cell ad (up σ1 (7, l, 0) 0) (clr ρ l i) ξ (3, l, 0) = zA (ρ (5, l, 0)) (fun j => if clr ρ l i (4, l, j) = 0 then none else some (ad (el l j))) := fun i hi => by
    simp only [cell]
    rw [clr_n ρ l i (w := (5, l, 0)) (Or.inl (by simp)), if_neg (by omega)]
  have key : ∀ k i Mx, i + k = n → zC Fm V ad (up σ1 (7, l, 0) 0) (clr ρ l i) ξ Mx → w_Jx4a65c_clear_da8c8_27 (ad (2, l, 0)) P (k + 1) (ad (3, l, 0)) (nI n) (nI i) Mx := by
    intro k
    induction k with
    | zero =>
      intro i Mx hi hx
      obtain rfl : i = n := by omega
      exact br_t (nI_le (Nat.le_refl _) (by omega)) (hP _ hx)
    | succ k ih =>
      intro i Mx hi hx
      refine br_f (nI_ge (by omega) (by omega)) ?_
      have h4 := hx.1 _ hV3
      rw [c3 i (by omega)] at h4
      refine ⟨_, _, h4, vp_in_nI (by omega) (by omega), ?_⟩
      rw [nI_clamp (by omega)]
      have hup := hx.N (4, l, i) 0 (by simp) hV3 (fun y hy => by
        obtain ⟨j, hj, rfl⟩ := hy
        refine hx.2.2.1 _ hV3 _ ⟨j, ?_, rfl⟩
        intro q
        refine hj ?_
        unfold up
        split
        · rfl
        · exact q) (by
        rw [show hN (4, l, i) = (3, l, 0) from rfl, c3 i (by omega)]
        exact fun e => by cases e)
      rw [← clr_s] at hup
      have e3 : cell ad (up σ1 (7, l, 0) 0) (clr ρ l (i + 1)) ξ (hN (4, l, i)) = zA (ρ (5, l, 0)) (va_up (fun j => if clr ρ l i (4, l, j) = 0 then none else some (ad (el l j))) i none) := by
        refine (c3 (i + 1) (by omega)).trans ?_
        congr 1
        refine funext fun j => ?_
        show (if clr ρ l (i + 1) (4, l, j) = 0 then none else some (ad (el l j))) = if j = i then none else if clr ρ l i (4, l, j) = 0 then none else some (ad (el l j))
        rw [clr_4, clr_4]
        by_cases e : j = i
        · rw [if_pos e, if_pos]; rw [if_pos (by omega)]
        · rw [if_neg e]
          by_cases e2 : j < i
          · rw [if_pos e2, if_pos (show j < i + 1 by omega)]
          · rw [if_neg (show ¬ j < i + 1 by omega), if_neg e2]
      rw [e3] at hup
      have := ih (i + 1) _ (by omega) hup
      rw [nI_succ] at this
      exact this
  refine ⟨n + 1, ?_⟩
  have := key n 0 M3 (by omega) (by rw [clr_0]; exact h3)
  rw [nI_0] at this
  exact this
