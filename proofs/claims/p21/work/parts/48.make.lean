/-! ===== the pure part: objects under construction ===== -/
variable {Fm : zM} {V V' : nm → Prop} {ad ad' : nm → Nat} {σ σ' τ τ' : nI2} {ρ ρ' π : nN2} {ξ ξ' : Nat → zE} {M : zM} {x y w : nm} {n : Nat} {cnt : Nat → Nat}
/-- names from kind 14 on stand for objects whose fields aren't all set yet -/
def ux (ξ : Nat → zE) (k : Nat) (e : zE) : Nat → zE := fun q => if q = k then e else ξ q
theorem ux_s (ξ : Nat → zE) (k : Nat) (e : zE) : ux ξ k e k = e := if_pos rfl
theorem ux_n (ξ : Nat → zE) {k q : Nat} (e : zE) (h : q ≠ k) : ux ξ k e q = ξ q := if_neg h
theorem cell_k {k i j : Nat} (hk : 11 ≤ k) : cell ad σ ρ ξ (k, i, j) = ξ k := by
  obtain ⟨k', rfl⟩ : ∃ k', k = k' + 11 := ⟨k - 11, by omega⟩
  rfl
theorem refs_lt (h : refs ρ x y) : y.1 < 11 := by
  obtain ⟨k, i, j⟩ := x
  match k, h with
  | 0, h => simp only [refs] at h; rcases h with rfl | rfl | rfl | rfl | rfl | rfl <;> simp
  | 1, h => simp only [refs] at h; subst h; simp
  | 2, h => simp only [refs] at h; subst h; simp
  | 3, h => obtain ⟨q, -, rfl⟩ := h; exact Nat.lt_trans (el_kind i q).2.2 (by omega)
  | 4, h => simp only [refs] at h; subst h; simp
  | 5, h => simp only [refs] at h; rcases h with rfl | rfl <;> simp
  | 6, h => simp only [refs] at h; subst h; simp
  | 7, h => exact h.elim
  | 8, h => obtain ⟨-, h⟩ := h; subst h; simp
  | 9, h => obtain ⟨q, -, rfl⟩ := h; simp
  | 10, h => exact h.elim
  | k + 11, h => exact h.elim
theorem refs_k {k i j : Nat} (hk : 10 ≤ k) (h : refs ρ (k, i, j) y) : False := by
  obtain ⟨k', rfl⟩ : ∃ k', k = k' + 10 := ⟨k - 10, by omega⟩
  match k', h with
  | 0, h => exact h
  | k' + 1, h => exact h
theorem can_k {k : Nat} : can (k, 0, 0) := ⟨fun _ _ => rfl, fun _ => rfl⟩
theorem zC.setX (h : zC Fm V ad σ ρ ξ M) {k : Nat} {e : zE} (hno : ∀ y, V y → y.1 ≠ k) : zC Fm V ad σ ρ (ux ξ k e) M :=
  h.same (fun y hy => cell_X (Or.inl (hno y hy))) (fun y hy u hu => h.2.2.1 y hy u hu)
/-- other cells that no name has -/
theorem zC.xi (h : zC Fm V ad σ ρ ξ M) (hx : ∀ q, (∃ y, V y ∧ y.1 = q) → ξ' q = ξ q) : zC Fm V ad σ ρ ξ' M :=
  h.same (fun y hy => by
    obtain ⟨k, i, j⟩ := y
    by_cases e : 11 ≤ k
    · rw [cell_k e, cell_k e]; exact hx k ⟨_, hy, rfl⟩
    · match k, e with
      | 0, _ => rfl
      | 1, _ => rfl
      | 2, _ => rfl
      | 3, _ => rfl
      | 4, _ => rfl
      | 5, _ => rfl
      | 6, _ => rfl
      | 7, _ => rfl
      | 8, _ => rfl
      | 9, _ => rfl
      | 10, _ => rfl
      | k + 11, e => exact absurd (by omega) e) (fun y hy u hu => h.2.2.1 y hy u hu)
theorem zC.tmp (h : zC Fm V ad σ ρ ξ M) {k q : Nat} {e : zE} (hk : 11 ≤ k) (hno : ∀ y, V y → y.1 ≠ k) (hq : M q = none) : zC Fm (fun y => y = (k, 0, 0) ∨ V y) (up ad (k, 0, 0) q) σ ρ (ux ξ k e) (zUp M q e) := by
  refine ((h.setX hno).fresh hq).more (k, 0, 0) (fun hV => hno _ hV rfl) ?_ (fun y hy e1 => absurd e1 (h.free hq hy)) (fun y hy => (refs_k (by omega) hy).elim) can_k (Or.inl (h.fq hq))
  rw [zUp_same, cell_k hk, ux_s]
theorem p_x (h : zC Fm V ad σ ρ ξ M) {k ci i : Nat} {fs : List Value} {v : Value} (hk : 11 ≤ k) (hV : V (k, 0, 0)) (hu : ∀ y, V y → y.1 = k → y = (k, 0, 0)) (hξ : ξ k = zO ci fs) (hi : i < fs.length) {K : zM → Prop} (hK : ∀ M', zC Fm V ad σ ρ (ux ξ k (zO ci (fs.set i v))) M' → K M') : zPu M (ad (k, 0, 0)) ci i v K := by
  have e := (cell_k (ad := ad) (σ := σ) (ρ := ρ) (ξ := ξ) (i := 0) (j := 0) hk).trans hξ
  exact ⟨fs, (h.1 _ hV).trans (congrArg some e), hi, hK _ (h.X hV hk (by rw [e]; exact zO_ne) hu)⟩
theorem zC.turn (h : zC Fm V ad σ ρ ξ M) {k : Nat} {x : nm} (hk : 11 ≤ k) (hV : V (k, 0, 0)) (hu : ∀ y, V y → y.1 = k → y = (k, 0, 0)) (hne : ξ k ≠ zN) (hno : ¬ V x) (hc : cell (up ad x (ad (k, 0, 0))) σ ρ ξ x = ξ k) (hr : ∀ y, refs ρ x y → V y) (hcan : can x) : zC Fm (fun y => y = x ∨ (V y ∧ y.1 ≠ k)) (up ad x (ad (k, 0, 0))) σ ρ ξ M := by
  have ek := cell_k (ad := ad) (σ := σ) (ρ := ρ) (ξ := ξ) (i := 0) (j := 0) hk
  have h' : zC Fm (fun y => V y ∧ y.1 ≠ k) ad σ ρ ξ M := h.less (fun y hy => hy.1) (fun y hy u hu => ⟨h.2.2.1 y hy.1 u hu, by have := refs_lt hu; omega⟩)
  refine h'.more x (fun q => hno q.1) ?_ (fun y hy e => ?_) (fun y hy => ⟨hr y hy, by have := refs_lt hy; omega⟩) hcan (Or.inl (h.fx hV (by rw [ek]; exact hne)))
  · rw [hc, h.1 _ hV, ek]
  · exact absurd e (h.ne hV hy.1 (fun q => hy.2 (by rw [← q])) (by rw [ek]; exact hne)).symm
/-! a list, a Row, a schema -/
theorem l_init (h : zC Fm V ad σ ρ ξ M) {k l : Nat} (hk : 14 ≤ k) (hV : V (k, 0, 0)) (hu : ∀ y, V y → y.1 = k → y = (k, 0, 0)) (hξ : ξ k = zO 0 [.int 0, .null, .int 0]) (hz : V (13, 0, 0)) (hz2 : ξ 13 = zN) (hno2 : ¬ V (2, l, 0)) (hno3 : ¬ V (3, l, 0)) (h4 : ∀ j, ρ (4, l, j) = 0) (h5 : ρ (5, l, 0) = 0) (h6 : σ (6, l, 0) = 0) (h7 : σ (7, l, 0) = 0) {P : zM → Prop}
    (hP : ∀ M' V' ad' ξ', (∀ y, V' y ↔ y = (2, l, 0) ∨ ((y = (3, l, 0) ∨ V y) ∧ y.1 ≠ k)) → (∀ y, y ≠ (2, l, 0) → y ≠ (3, l, 0) → ad' y = ad y) → ad' (2, l, 0) = ad (k, 0, 0) → (∀ q, q ≠ k → ξ' q = ξ q) → zC Fm V' ad' σ ρ ξ' M' → P M') : w_Jx4a65c_init_da8c8 (ad (k, 0, 0)) M P := by
  refine p_x h (by omega) hV hu hξ (by simp) fun M2 h2 => fun t ht hun => ?_
  have hk3 : k ≠ 3 := by omega
  have et : ad (13, 0, 0) = t := hun _ ((h2.1 _ hz).trans (congrArg some ((cell_k (by omega)).trans ((ux_n _ _ (by omega)).trans hz2))))
  refine p_x h2 (ci := 0) (fs := [.int 0, .null, .int 0]) (by omega) hV hu (ux_s _ _ _) (by simp) fun M3 h3 => ?_
  obtain ⟨ξ3, e3, en, h3⟩ : ∃ ξ3 : Nat → zE, ξ3 k = zO 0 [.int 0, .ref t, .int 0] ∧ (∀ q, q ≠ k → ξ3 q = ξ q) ∧ zC Fm V ad σ ρ ξ3 M3 := ⟨_, ux_s _ _ _, fun q hq => (ux_n _ _ hq).trans (ux_n _ _ hq), h3⟩
  have c3 : ∀ a : nm → Nat, cell a σ ρ ξ3 (3, l, 0) = zN := fun a => if_pos h5
  have h4' := h3.more (3, l, 0) hno3 (q := t) (by
    rw [c3, ← et, h3.1 _ hz, cell_k (by omega), en 13 (by omega), hz2]) (fun y hy e => ⟨by
      have a1 := h3.1 _ hy
      have a2 := h3.1 _ hz
      rw [e, ← et, a2, cell_k (by omega), en 13 (by omega), hz2] at a1
      exact (Option.some.inj a1).symm, c3 _⟩) (fun y hy => by obtain ⟨j, hj, -⟩ := hy; exact absurd (h4 j) hj) ⟨fun _ _ => rfl, fun q => by simp at q⟩ (Or.inr (c3 _))
  have hV' : (fun y => y = ((3, l, 0) : nm) ∨ V y) (k, 0, 0) := Or.inr hV
  have ek : up ad (3, l, 0) t (k, 0, 0) = ad (k, 0, 0) := up_n _ _ (fun e => hk3 (congrArg Prod.fst e))
  have h5' := h4'.turn (k := k) (x := (2, l, 0)) (by omega) hV' (fun y hy hy1 => by
    rcases hy with rfl | hy
    · exact absurd hy1 (by simp only; omega)
    · exact hu y hy hy1) (by rw [e3]; exact zO_ne) (fun q => by
    rcases q with q | q
    · cases q
    · exact hno2 q) (by
      rw [e3]
      simp only [cell]
      rw [h6, h7, up_n _ _ (fun e => by cases e), up_s]) (fun y hy => Or.inl hy) ⟨fun _ _ => rfl, fun q => by simp at q⟩
  rw [ek] at h5'
  exact hP M3 _ _ ξ3 (fun y => Iff.rfl) (fun y y1 y2 => by rw [up_n _ _ y1, up_n _ _ y2]) (up_s _ _ _) en h5'
theorem r_init (h : zC Fm V ad σ ρ ξ M) {k r : Nat} (hk : 14 ≤ k) (hV : V (k, 0, 0)) (hu : ∀ y, V y → y.1 = k → y = (k, 0, 0)) (hξ : ξ k = zO 2 [.null, .int 0]) (hno6 : ¬ V (6, r, 0)) (hno7 : ¬ V (7, r, 0)) (h4 : σ (4, r, 0) = 0) (h5 : ∀ j, σ (5, r, j) = 0) {P : zM → Prop}
    (hP : ∀ M' V' ad' ξ', (∀ y, V' y ↔ y = (6, r, 0) ∨ ((y = (7, r, 0) ∨ V y) ∧ y.1 ≠ k)) → (∀ y, y ≠ (6, r, 0) → y ≠ (7, r, 0) → ad' y = ad y) → ad' (6, r, 0) = ad (k, 0, 0) → (∀ q, q ≠ k → ξ' q = ξ q) → zC Fm V' ad' σ ρ ξ' M' → P M') : w_X1_init (ad (k, 0, 0)) M P := by
  refine ⟨by decide, by decide, fun q hq => ?_⟩
  have hk7 : k ≠ 7 := by omega
  have c7 : ∀ a : nm → Nat, cell a σ ρ ξ (7, r, 0) = zI 0 20 (fun _ => 0) := fun a => by
    simp only [cell]
    rw [show (fun j => σ (5, r, j)) = fun _ => 0 from funext h5]
  have h1 := (h.fresh (e := zI 0 (20 : Int32).toNatClampNeg (fun _ => 0)) hq).more (7, r, 0) hno7 (q := q) (by
    rw [zUp_same, c7]; rfl) (fun y hy e => absurd e (h.free hq hy)) (fun y hy => hy.elim) ⟨fun _ _ => rfl, fun q => by simp at q⟩ (Or.inl (h.fq hq))
  have hV' : (fun y => y = ((7, r, 0) : nm) ∨ V y) (k, 0, 0) := Or.inr hV
  have ek : up ad (7, r, 0) q (k, 0, 0) = ad (k, 0, 0) := up_n _ _ (fun e => hk7 (congrArg Prod.fst e))
  have hu' : ∀ y, (fun y => y = ((7, r, 0) : nm) ∨ V y) y → y.1 = k → y = (k, 0, 0) := fun y hy hy1 => by
    rcases hy with rfl | hy
    · exact absurd hy1 (by simp only; omega)
    · exact hu y hy hy1
  rw [← ek]
  refine p_x h1 (by omega) hV' hu' hξ (by simp) fun M3 h3 => ?_
  have h5' := h3.turn (k := k) (x := (6, r, 0)) (by omega) hV' hu' (by rw [ux_s]; exact zO_ne) (fun q => by
    rcases q with q | q
    · cases q
    · exact hno6 q) (by
      rw [ux_s]
      simp only [cell]
      rw [h4, up_n _ _ (fun e => by cases e), up_s]; rfl) (fun y hy => Or.inl hy) ⟨fun _ _ => rfl, fun q => by simp at q⟩
  refine hP M3 _ _ _ (fun y => Iff.rfl) (fun y y1 y2 => by rw [up_n _ _ y1, up_n _ _ y2]) ((up_s _ _ _).trans ek) (fun q hq => ux_n _ _ hq) h5'
/-- what a new schema needs of the ints and references -/
def Zs (σ : nI2) (ρ : nN2) (c : Nat) : Prop := (∀ j, ρ (4, 8 + c, j) = 0) ∧ ρ (5, 8 + c, 0) = 0 ∧ σ (6, 8 + c, 0) = 0 ∧ σ (7, 8 + c, 0) = 0 ∧ σ (4, 3 + c, 0) = 0 ∧ (∀ j, σ (5, 3 + c, j) = 0) ∧ σ (3, c, 0) = -1
def nS (c : Nat) (y : nm) : Prop := y = (5, c, 0) ∨ y = (6, 3 + c, 0) ∨ y = (7, 3 + c, 0) ∨ y = (2, 8 + c, 0) ∨ y = (3, 8 + c, 0)
theorem s_init (h : zC Fm V ad σ ρ ξ M) {c : Nat} (hV : V (15, 0, 0)) (hu : ∀ y, V y → y.1 = 15 → y = (15, 0, 0)) (hu2 : ∀ y, V y → y.1 ≠ 16) (hξ : ξ 15 = zO 3 [.null, .null, .int 0]) (hz : V (13, 0, 0)) (hz2 : ξ 13 = zN) (hno : ∀ y, nS c y → ¬ V y) (hZ : Zs σ ρ c) {P : zM → Prop}
    (hP : ∀ M' V' ad' ξ', (∀ y, V' y ↔ nS c y ∨ (V y ∧ y.1 ≠ 15)) → (∀ y, ¬ nS c y → y.1 ≠ 16 → ad' y = ad y) → ad' (5, c, 0) = ad (15, 0, 0) → (∀ q, q ≠ 15 → q ≠ 16 → ξ' q = ξ q) → zC Fm V' ad' σ ρ ξ' M' → P M') : w_X2_init (ad (15, 0, 0)) M P := by
  obtain ⟨z1, z2, z3, z4, z5, z6, z7⟩ := hZ
  have n5 := hno _ (Or.inl rfl)
  have n6 := hno _ (Or.inr (Or.inl rfl))
  have n7 := hno _ (Or.inr (Or.inr (Or.inl rfl)))
  have n2 := hno _ (Or.inr (Or.inr (Or.inr (Or.inl rfl))))
  have n3 := hno _ (Or.inr (Or.inr (Or.inr (Or.inr rfl))))
  intro q1 hq1
  have h1 := h.tmp (k := 16) (e := zO 0 [.int 0, .null, .int 0]) (by omega) hu2 hq1
  have l1 := l_init h1 (k := 16) (l := 8 + c) (by omega) (Or.inl rfl) (fun y hy hy1 => hy.elim id (fun q => absurd hy1 (hu2 y q))) (ux_s _ _ _) (Or.inr hz) ((ux_n _ _ (by omega)).trans hz2) (fun q => q.elim (fun e => by cases e) n2) (fun q => q.elim (fun e => by cases e) n3) z1 z2 z3 z4
    (P := fun M3 => zPu M3 (ad (15, 0, 0)) 3 0 (.ref q1) (fun M4 => zNw M4 2 [.null, .int 0] (fun q5 M6 => w_X1_init q5 M6 (fun M7 => zPu M7 (ad (15, 0, 0)) 3 1 (.ref q5) (fun M8 => zPu M8 (ad (15, 0, 0)) 3 2 (.int (-1 : Int32)) (fun M9 => P M9)))))) (fun M2 V2 ad2 ξ2 v2 a2 b2 x2 h2 => ?_)
  · rw [up_s] at l1; exact l1
  rw [up_s] at b2
  have a2' : ∀ y : nm, y.1 ≠ 16 → y ≠ (2, 8 + c, 0) → y ≠ (3, 8 + c, 0) → ad2 y = ad y := fun y y1 y2 y3 => (a2 y y2 y3).trans (up_n _ _ (fun e => y1 (congrArg Prod.fst e)))
  have x2' : ∀ q, q ≠ 16 → ξ2 q = ξ q := fun q hq => (x2 q hq).trans (ux_n _ _ hq)
  have v2' : ∀ y, V2 y ↔ y = (2, 8 + c, 0) ∨ y = (3, 8 + c, 0) ∨ V y := fun y => by
    rw [v2]
    constructor
    · rintro (e | ⟨e | e | e, e1⟩)
      · exact Or.inl e
      · exact Or.inr (Or.inl e)
      · rw [e] at e1; exact absurd rfl e1
      · exact Or.inr (Or.inr e)
    · rintro (e | e | e)
      · exact Or.inl e
      · exact Or.inr ⟨Or.inl e, by rw [e]; simp⟩
      · exact Or.inr ⟨Or.inr (Or.inr e), hu2 y e⟩
  have V15 : V2 (15, 0, 0) := (v2' _).2 (Or.inr (Or.inr hV))
  have u15 : ∀ y, V2 y → y.1 = 15 → y = (15, 0, 0) := fun y hy hy1 => by
    rcases (v2' y).1 hy with e | e | e
    · rw [e] at hy1; simp at hy1
    · rw [e] at hy1; simp at hy1
    · exact hu y e hy1
  have u16 : ∀ y, V2 y → y.1 ≠ 16 := fun y hy => by
    rcases (v2' y).1 hy with e | e | e
    · rw [e]; simp
    · rw [e]; simp
    · exact hu2 y e
  rw [← a2' (15, 0, 0) (by simp) (by simp) (by simp)]
  refine p_x h2 (by omega) V15 u15 ((x2' 15 (by omega)).trans hξ) (by simp) fun M4 h4 => fun q5 hq5 => ?_
  have h6 := h4.tmp (k := 16) (e := zO 2 [.null, .int 0]) (by omega) u16 hq5
  have r1 := r_init h6 (k := 16) (r := 3 + c) (by omega) (Or.inl rfl) (fun y hy hy1 => hy.elim id (fun q => absurd hy1 (u16 y q))) (ux_s _ _ _) (fun q => q.elim (fun e => by cases e) (fun q => ((v2' _).1 q).elim (fun e => by cases e) (fun q => q.elim (fun e => by cases e) n6))) (fun q => q.elim (fun e => by cases e) (fun q => ((v2' _).1 q).elim (fun e => by cases e) (fun q => q.elim (fun e => by cases e) n7))) z5 z6
    (P := fun M7 => zPu M7 (ad2 (15, 0, 0)) 3 1 (.ref q5) (fun M8 => zPu M8 (ad2 (15, 0, 0)) 3 2 (.int (-1 : Int32)) (fun M9 => P M9))) (fun M7 V7 ad7 ξ7 v7 a7 b7 x7 h7 => ?_)
  · rw [up_s] at r1; exact r1
  rw [up_s] at b7
  have a7' : ∀ y : nm, y.1 ≠ 16 → y ≠ (6, 3 + c, 0) → y ≠ (7, 3 + c, 0) → ad7 y = ad2 y := fun y y1 y2 y3 => (a7 y y2 y3).trans (up_n _ _ (fun e => y1 (congrArg Prod.fst e)))
  have x7' : ∀ q, q ≠ 16 → ξ7 q = ux ξ2 15 (zO 3 ([Value.null, .null, .int 0].set 0 (.ref q1))) q := fun q hq => (x7 q hq).trans (ux_n _ _ hq)
  have v7' : ∀ y, V7 y ↔ y = (6, 3 + c, 0) ∨ y = (7, 3 + c, 0) ∨ V2 y := fun y => by
    rw [v7]
    constructor
    · rintro (e | ⟨e | e | e, e1⟩)
      · exact Or.inl e
      · exact Or.inr (Or.inl e)
      · rw [e] at e1; exact absurd rfl e1
      · exact Or.inr (Or.inr e)
    · rintro (e | e | e)
      · exact Or.inl e
      · exact Or.inr ⟨Or.inl e, by rw [e]; simp⟩
      · exact Or.inr ⟨Or.inr (Or.inr e), u16 y e⟩
  have V15' : V7 (15, 0, 0) := (v7' _).2 (Or.inr (Or.inr V15))
  have u15' : ∀ y, V7 y → y.1 = 15 → y = (15, 0, 0) := fun y hy hy1 => by
    rcases (v7' y).1 hy with e | e | e
    · rw [e] at hy1; simp at hy1
    · rw [e] at hy1; simp at hy1
    · exact u15 y e hy1
  have e15 : ad7 (15, 0, 0) = ad2 (15, 0, 0) := a7' (15, 0, 0) (by simp) (by simp) (by simp)
  rw [← e15]
  refine p_x h7 (ci := 3) (fs := [.ref q1, .null, .int 0]) (by omega) V15' u15' ((x7' 15 (by omega)).trans (ux_s _ _ _)) (by simp) fun M8 h8 => ?_
  refine p_x h8 (ci := 3) (fs := [.ref q1, .ref q5, .int 0]) (by omega) V15' u15' (ux_s _ _ _) (by simp) fun M9 h9 => ?_
  have b2' : ad7 (2, 8 + c, 0) = q1 := (a7' _ (by simp) (by simp) (by simp)).trans b2
  have hT := h9.turn (k := 15) (x := (5, c, 0)) (by omega) V15' u15' (by rw [ux_s]; exact zO_ne) (fun q => by
    rcases (v7' _).1 q with e | e | q
    · cases e
    · cases e
    · rcases (v2' _).1 q with e | e | q
      · cases e
      · cases e
      · exact n5 q) (by
    rw [ux_s]
    simp only [cell, List.set]
    rw [up_n _ _ (fun e => by cases e), up_n _ _ (fun e => by cases e), b2', b7, z7]) (fun y hy => by
    rcases hy with rfl | rfl
    · exact (v7' _).2 (Or.inr (Or.inr ((v2' _).2 (Or.inl rfl))))
    · exact (v7' _).2 (Or.inl rfl)) ⟨fun _ _ => rfl, fun q => by simp at q⟩
  refine hP M9 _ _ _ (fun y => ?_) (fun y y1 y2 => ?_) ?_ (fun q q1 q2 => ?_) hT
  · constructor
    · rintro (e | ⟨e, e1⟩)
      · exact Or.inl (Or.inl e)
      · rcases (v7' _).1 e with e | e | e
        · exact Or.inl (Or.inr (Or.inl e))
        · exact Or.inl (Or.inr (Or.inr (Or.inl e)))
        · rcases (v2' _).1 e with e | e | e
          · exact Or.inl (Or.inr (Or.inr (Or.inr (Or.inl e))))
          · exact Or.inl (Or.inr (Or.inr (Or.inr (Or.inr e))))
          · exact Or.inr ⟨e, e1⟩
    · rintro ((e | e | e | e | e) | ⟨e, e1⟩)
      · exact Or.inl e
      · exact Or.inr ⟨(v7' _).2 (Or.inl e), by rw [e]; simp⟩
      · exact Or.inr ⟨(v7' _).2 (Or.inr (Or.inl e)), by rw [e]; simp⟩
      · exact Or.inr ⟨(v7' _).2 (Or.inr (Or.inr ((v2' _).2 (Or.inl e)))), by rw [e]; simp⟩
      · exact Or.inr ⟨(v7' _).2 (Or.inr (Or.inr ((v2' _).2 (Or.inr (Or.inl e))))), by rw [e]; simp⟩
      · exact Or.inr ⟨(v7' _).2 (Or.inr (Or.inr ((v2' _).2 (Or.inr (Or.inr e))))), e1⟩
  · rw [up_n _ _ (fun e => y1 (Or.inl e)), a7' y y2 (fun e => y1 (Or.inr (Or.inl e))) (fun e => y1 (Or.inr (Or.inr (Or.inl e)))), a2' y y2 (fun e => y1 (Or.inr (Or.inr (Or.inr (Or.inl e))))) (fun e => y1 (Or.inr (Or.inr (Or.inr (Or.inr e)))))]
  · rw [up_s, e15]; exact a2' _ (by simp) (by simp) (by simp)
  · rw [ux_n _ _ q1, ux_n _ _ q1, x7' q q2, ux_n _ _ q1, x2' q q2]
