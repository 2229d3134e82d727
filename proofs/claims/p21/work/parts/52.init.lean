/-! ===== the pure part: the two constructors ===== -/
variable {Fm : zM} {V V' : nm → Prop} {ad ad' : nm → Nat} {σ σ' τ τ' : nI2} {ρ ρ' π : nN2} {ξ ξ' : Nat → zE} {M : zM} {x y w : nm} {n : Nat} {cnt : Nat → Nat}
theorem n_list (h : zC Fm V ad σ ρ ξ M) {l : Nat} (hu : ∀ y, V y → y.1 ≠ 16) (hz : V (13, 0, 0)) (hz2 : ξ 13 = zN) (hno2 : ¬ V (2, l, 0)) (hno3 : ¬ V (3, l, 0)) (h4 : ∀ j, ρ (4, l, j) = 0) (h5 : ρ (5, l, 0) = 0) (h6 : σ (6, l, 0) = 0) (h7 : σ (7, l, 0) = 0) {P : Nat → zM → Prop}
    (hP : ∀ M' V' ad' ξ', (∀ y, V' y ↔ y = (2, l, 0) ∨ y = (3, l, 0) ∨ V y) → (∀ y, y ≠ (2, l, 0) → y ≠ (3, l, 0) → y.1 ≠ 16 → ad' y = ad y) → (∀ q, q ≠ 16 → ξ' q = ξ q) → zC Fm V' ad' σ ρ ξ' M' → P (ad' (2, l, 0)) M') : zNw M 0 [.int 0, .null, .int 0] (fun q M2 => w_Jx4a65c_init_da8c8 q M2 (fun M3 => P q M3)) := by
  intro q hq
  have h1 := h.tmp (k := 16) (e := zO 0 [.int 0, .null, .int 0]) (by omega) hu hq
  have l1 := l_init h1 (k := 16) (l := l) (by omega) (Or.inl rfl) (fun y hy hy1 => hy.elim id (fun q => absurd hy1 (hu y q))) (ux_s _ _ _) (Or.inr hz) ((ux_n _ _ (by omega)).trans hz2) (fun q => q.elim (fun e => by cases e) hno2) (fun q => q.elim (fun e => by cases e) hno3) h4 h5 h6 h7
    (P := fun M3 => P q M3) (fun M2 V2 ad2 ξ2 v2 a2 b2 x2 h2 => ?_)
  · rw [up_s] at l1; exact l1
  · have := hP M2 V2 ad2 ξ2 (fun y => ?_) (fun y y2 y3 y1 => (a2 y y2 y3).trans (up_n _ _ (fun e => y1 (congrArg Prod.fst e)))) (fun q hq => (x2 q hq).trans (ux_n _ _ hq)) h2
    · rw [b2, up_s] at this; exact this
    · rw [v2]
      constructor
      · rintro (e | ⟨e | e | e, e1⟩)
        · exact Or.inl e
        · exact Or.inr (Or.inl e)
        · rw [e] at e1; exact absurd rfl e1
        · exact Or.inr (Or.inr e)
      · rintro (e | e | e)
        · exact Or.inl e
        · exact Or.inr ⟨Or.inl e, by rw [e]; simp⟩
        · exact Or.inr ⟨Or.inr (Or.inr e), hu y e⟩
theorem n_row (h : zC Fm V ad σ ρ ξ M) {r : Nat} (hu : ∀ y, V y → y.1 ≠ 16) (hno6 : ¬ V (6, r, 0)) (hno7 : ¬ V (7, r, 0)) (h4 : σ (4, r, 0) = 0) (h5 : ∀ j, σ (5, r, j) = 0) {P : Nat → zM → Prop}
    (hP : ∀ M' V' ad' ξ', (∀ y, V' y ↔ y = (6, r, 0) ∨ y = (7, r, 0) ∨ V y) → (∀ y, y ≠ (6, r, 0) → y ≠ (7, r, 0) → y.1 ≠ 16 → ad' y = ad y) → (∀ q, q ≠ 16 → ξ' q = ξ q) → zC Fm V' ad' σ ρ ξ' M' → P (ad' (6, r, 0)) M') : zNw M 2 [.null, .int 0] (fun q M2 => w_X1_init q M2 (fun M3 => P q M3)) := by
  intro q hq
  have h1 := h.tmp (k := 16) (e := zO 2 [.null, .int 0]) (by omega) hu hq
  have l1 := r_init h1 (k := 16) (r := r) (by omega) (Or.inl rfl) (fun y hy hy1 => hy.elim id (fun q => absurd hy1 (hu y q))) (ux_s _ _ _) (fun q => q.elim (fun e => by cases e) hno6) (fun q => q.elim (fun e => by cases e) hno7) h4 h5
    (P := fun M3 => P q M3) (fun M2 V2 ad2 ξ2 v2 a2 b2 x2 h2 => ?_)
  · rw [up_s] at l1; exact l1
  · have := hP M2 V2 ad2 ξ2 (fun y => ?_) (fun y y2 y3 y1 => (a2 y y2 y3).trans (up_n _ _ (fun e => y1 (congrArg Prod.fst e)))) (fun q hq => (x2 q hq).trans (ux_n _ _ hq)) h2
    · rw [b2, up_s] at this; exact this
    · rw [v2]
      constructor
      · rintro (e | ⟨e | e | e, e1⟩)
        · exact Or.inl e
        · exact Or.inr (Or.inl e)
        · rw [e] at e1; exact absurd rfl e1
        · exact Or.inr (Or.inr e)
      · rintro (e | e | e)
        · exact Or.inl e
        · exact Or.inr ⟨Or.inl e, by rw [e]; simp⟩
        · exact Or.inr ⟨Or.inr (Or.inr e), hu y e⟩
theorem n_schema (h : zC Fm V ad σ ρ ξ M) {c : Nat} (hu : ∀ y, V y → y.1 ≠ 15 ∧ y.1 ≠ 16) (hz : V (13, 0, 0)) (hz2 : ξ 13 = zN) (hno : ∀ y, nS c y → ¬ V y) (hZ : Zs σ ρ c) {P : Nat → zM → Prop}
    (hP : ∀ M' V' ad' ξ', (∀ y, V' y ↔ nS c y ∨ V y) → (∀ y, ¬ nS c y → y.1 ≠ 15 → y.1 ≠ 16 → ad' y = ad y) → (∀ q, q ≠ 15 → q ≠ 16 → ξ' q = ξ q) → zC Fm V' ad' σ ρ ξ' M' → P (ad' (5, c, 0)) M') : zNw M 3 [.null, .null, .int 0] (fun q M2 => w_X2_init q M2 (fun M3 => P q M3)) := by
  intro q hq
  have h1 := h.tmp (k := 15) (e := zO 3 [.null, .null, .int 0]) (by omega) (fun y hy => (hu y hy).1) hq
  have l1 := s_init h1 (c := c) (Or.inl rfl) (fun y hy hy1 => hy.elim id (fun q => absurd hy1 (hu y q).1)) (fun y hy => hy.elim (fun e => by rw [e]; simp) (fun q => (hu y q).2)) (ux_s _ _ _) (Or.inr hz) ((ux_n _ _ (by omega)).trans hz2) (fun y hy q => q.elim (fun e => by
      rw [e] at hy
      rcases hy with e | e | e | e | e <;> cases e) (hno y hy)) hZ (P := fun M3 => P q M3) (fun M2 V2 ad2 ξ2 v2 a2 b2 x2 h2 => ?_)
  · rw [up_s] at l1; exact l1
  · have := hP M2 V2 ad2 ξ2 (fun y => ?_) (fun y y2 y3 y1 => (a2 y y2 y1).trans (up_n _ _ (fun e => y3 (congrArg Prod.fst e)))) (fun q hq hq2 => (x2 q hq hq2).trans (ux_n _ _ hq)) h2
    · rw [b2, up_s] at this; exact this
    · rw [v2]
      constructor
      · rintro (e | ⟨e | e, e1⟩)
        · exact Or.inl e
        · rw [e] at e1; exact absurd rfl e1
        · exact Or.inr e
      · rintro (e | e)
        · exact Or.inl e
        · exact Or.inr ⟨Or.inr e, (hu y e).1⟩
/-- a new subject -/
theorem b_init (h : zC Fm V ad σ ρ ξ M) {s : Nat} (hV : V (15, 0, 0)) (hu : ∀ y, V y → y.1 = 15 → y = (15, 0, 0)) (hu2 : ∀ y, V y → y.1 ≠ 16) (hξ : ξ 15 = zO 4 [.null, .int 0, .int 0]) (hz : V (13, 0, 0)) (hz2 : ξ 13 = zN) (hno1 : ¬ V (1, s, 0)) (hno2 : ¬ V (2, 2 + s, 0)) (hno3 : ¬ V (3, 2 + s, 0)) (h4 : ∀ j, ρ (4, 2 + s, j) = 0) (h5 : ρ (5, 2 + s, 0) = 0) (h6 : σ (6, 2 + s, 0) = 0) (h7 : σ (7, 2 + s, 0) = 0) (h0 : σ (0, s, 0) = 0) (h1 : σ (1, s, 0) = 0) {P : zM → Prop}
    (hP : ∀ M' V' ad' ξ', (∀ y, V' y ↔ y = (1, s, 0) ∨ y = (2, 2 + s, 0) ∨ y = (3, 2 + s, 0) ∨ (V y ∧ y.1 ≠ 15)) → (∀ y, y ≠ (1, s, 0) → y ≠ (2, 2 + s, 0) → y ≠ (3, 2 + s, 0) → y.1 ≠ 16 → ad' y = ad y) → ad' (1, s, 0) = ad (15, 0, 0) → (∀ q, q ≠ 15 → q ≠ 16 → ξ' q = ξ q) → zC Fm V' ad' σ ρ ξ' M' → P M') : w_X3_init (ad (15, 0, 0)) M P := by
  refine n_list h (l := 2 + s) hu2 hz hz2 hno2 hno3 h4 h5 h6 h7 (P := fun q M3 => zPu M3 (ad (15, 0, 0)) 4 0 (.ref q) (fun M4 => P M4)) (fun M2 V2 ad2 ξ2 v2 a2 x2 g2 => ?_)
  have e15 : ad2 (15, 0, 0) = ad (15, 0, 0) := a2 _ (fun e => by cases e) (fun e => by cases e) (by simp)
  have V15 : V2 (15, 0, 0) := (v2 _).2 (Or.inr (Or.inr hV))
  have u15 : ∀ y, V2 y → y.1 = 15 → y = (15, 0, 0) := fun y hy hy1 => by
    rcases (v2 y).1 hy with e | e | e
    · rw [e] at hy1; simp at hy1
    · rw [e] at hy1; simp at hy1
    · exact hu y e hy1
  rw [← e15]
  refine p_x g2 (by omega) V15 u15 ((x2 15 (by omega)).trans hξ) (by simp) fun M3 g3 => ?_
  have hT := g3.turn (k := 15) (x := (1, s, 0)) (by omega) V15 u15 (by rw [ux_s]; exact zO_ne) (fun q => by
    rcases (v2 _).1 q with e | e | q
    · cases e
    · cases e
    · exact hno1 q) (by
    rw [ux_s]
    simp only [cell, List.set]
    rw [up_n _ _ (fun e => by cases e), h0, h1]) (fun y hy => by
    have hy : y = (2, 2 + s, 0) := hy
    exact (v2 _).2 (Or.inl hy)) ⟨fun _ _ => rfl, fun q => by simp at q⟩
  refine hP M3 _ _ _ (fun y => ?_) (fun y y1 y2 y3 y4 => (up_n _ _ y1).trans (a2 y y2 y3 y4)) ((up_s _ _ _).trans e15) (fun q q1 q2 => (ux_n _ _ q1).trans (x2 q q2)) hT
  constructor
  · rintro (e | ⟨e, e1⟩)
    · exact Or.inl e
    · rcases (v2 _).1 e with e | e | e
      · exact Or.inr (Or.inl e)
      · exact Or.inr (Or.inr (Or.inl e))
      · exact Or.inr (Or.inr (Or.inr ⟨e, e1⟩))
  · rintro (e | e | e | ⟨e, e1⟩)
    · exact Or.inl e
    · exact Or.inr ⟨(v2 _).2 (Or.inl e), by rw [e]; simp⟩
    · exact Or.inr ⟨(v2 _).2 (Or.inr (Or.inl e)), by rw [e]; simp⟩
    · exact Or.inr ⟨(v2 _).2 (Or.inr (Or.inr e)), e1⟩
/-- the data at the start -/
def s00 : nI2 := fun w => if w = (3, 0, 0) then -1 else 0
def r00 : nN2 := fun w => if w = (1, 1, 0) then 1 else 0
theorem s00_0 (h : w ≠ (3, 0, 0)) : s00 w = 0 := if_neg h
theorem r00_0 (h : w ≠ (1, 1, 0)) : r00 w = 0 := if_neg h
/-- the names while the subjects are made -/
def Nb (i : Nat) (y : nm) : Prop := y = (17, 0, 0) ∨ y = (12, 0, 0) ∨ y = (13, 0, 0) ∨ y = (2, 0, 0) ∨ y = (3, 0, 0) ∨ (∃ s, s < i ∧ (y = (1, s, 0) ∨ y = (2, 2 + s, 0) ∨ y = (3, 2 + s, 0)))
theorem Nb.kind {i : Nat} (h : Nb i y) : y.1 ≠ 14 ∧ y.1 ≠ 15 ∧ y.1 ≠ 16 ∧ (y.1 = 17 → y = (17, 0, 0)) := by
  rcases h with e | e | e | e | e | ⟨s, -, e | e | e⟩ <;> (rw [e]; simp)
def Sb0 (σ : nI2) (ρ : nN2) : Prop := (∀ w, w ≠ (6, 0, 0) → w ≠ (7, 0, 0) → σ w = s00 w) ∧ ∀ w : nm, ((w.1 ≠ 4 ∧ w.1 ≠ 5) ∨ w.2.1 ≠ 0) → ρ w = r00 w
theorem x5_init (h : zC Fm V ad s00 r00 ξ M) (hV17 : V (17, 0, 0)) (hVV : ∀ y, V y ↔ y = (17, 0, 0) ∨ y = (12, 0, 0) ∨ y = (13, 0, 0)) (hξ : ξ 17 = zO 6 [.null, .null, .null, .null, .null, .null]) (hz2 : ξ 13 = zN) {P : zM → Prop}
    (hP : ∀ M' V' ad' σ' ρ' ξ', (∀ y, V' y → y.1 ≠ 9 ∧ y.1 ≠ 10 ∧ y.1 ≠ 11 ∧ Bd 0 (fun _ => 0) σ' y) → V' (0, 0, 0) → V' (12, 0, 0) → V' (13, 0, 0) → ad' (0, 0, 0) = ad (17, 0, 0) → ad' (12, 0, 0) = ad (12, 0, 0) → ad' (13, 0, 0) = ad (13, 0, 0) → ξ' 12 = ξ 12 → ξ' 13 = zN → Sb0 σ' ρ' → Ls σ' ρ' 0 6 → zC Fm V' ad' σ' ρ' ξ' M' → P M') : w_X5_init (ad (17, 0, 0)) M P := by
  have k12 := (hVV (12, 0, 0)).2 (Or.inr (Or.inl rfl))
  have k13 := (hVV (13, 0, 0)).2 (Or.inr (Or.inr rfl))
  have kk : ∀ y, V y → y.1 = 17 ∨ y.1 = 12 ∨ y.1 = 13 := fun y hy => by rcases (hVV y).1 hy with e | e | e <;> (rw [e]; simp)
  refine n_list h (l := 0) (fun y hy => by have := kk y hy; omega) k13 hz2 (fun q => by have := kk _ q; simp at this) (fun q => by have := kk _ q; simp at this) (fun j => r00_0 (fun e => by cases e)) (r00_0 (fun e => by cases e)) (s00_0 (fun e => by cases e)) (s00_0 (fun e => by cases e))
    (P := fun q28 M30 => zPu M30 (ad (17, 0, 0)) 6 0 (.ref q28) (fun M31 => (w_X5_init_17 (ad (17, 0, 0)) P 8 (0 : Int32) M31))) (fun M1 V1 ad1 ξ1 v1 a1 x1 h1 => ?_)
  have e17 : ad1 (17, 0, 0) = ad (17, 0, 0) := a1 _ (fun e => by cases e) (fun e => by cases e) (by simp)
  have e12 : ad1 (12, 0, 0) = ad (12, 0, 0) := a1 _ (fun e => by cases e) (fun e => by cases e) (by simp)
  have e13 : ad1 (13, 0, 0) = ad (13, 0, 0) := a1 _ (fun e => by cases e) (fun e => by cases e) (by simp)
  have n1 : ∀ y, V1 y ↔ Nb 0 y := fun y => by
    rw [v1, hVV]
    unfold Nb
    constructor
    · rintro (e | e | e | e | e)
      · exact Or.inr (Or.inr (Or.inr (Or.inl e)))
      · exact Or.inr (Or.inr (Or.inr (Or.inr (Or.inl e))))
      · exact Or.inl e
      · exact Or.inr (Or.inl e)
      · exact Or.inr (Or.inr (Or.inl e))
    · rintro (e | e | e | e | e | ⟨s, hs, -⟩)
      · exact Or.inr (Or.inr (Or.inl e))
      · exact Or.inr (Or.inr (Or.inr (Or.inl e)))
      · exact Or.inr (Or.inr (Or.inr (Or.inr e)))
      · exact Or.inl e
      · exact Or.inr (Or.inl e)
      · omega
  rw [← e17]
  refine p_x h1 (by omega) ((n1 _).2 (Or.inl rfl)) (fun y hy => ((n1 y).1 hy).kind.2.2.2) ((x1 17 (by omega)).trans hξ) (by simp) fun M2 h2 => ?_
  have loop : ∀ k i M V2 ad2 σ2 ρ2 ξ2, i + k = 6 → (∀ y, V2 y ↔ Nb i y) → ad2 (17, 0, 0) = ad1 (17, 0, 0) → ad2 (12, 0, 0) = ad (12, 0, 0) → ad2 (13, 0, 0) = ad (13, 0, 0) → ξ2 17 = zO 6 [.ref (ad2 (2, 0, 0)), .null, .null, .null, .null, .null] → ξ2 12 = ξ 12 → ξ2 13 = zN → Sb0 σ2 ρ2 → Ls σ2 ρ2 0 i → zC Fm V2 ad2 σ2 ρ2 ξ2 M → w_X5_init_17 (ad1 (17, 0, 0)) P (k + 2) (nI i) M := by
    intro k
    induction k with
    | zero =>
      intro i M V2 ad2 σ2 ρ2 ξ2 hi n2 f17 f12 f13 x17 x12 x13 hS hL g2
      obtain rfl : i = 6 := by omega
      have k13 : V2 (13, 0, 0) := (n2 _).2 (Or.inr (Or.inr (Or.inl rfl)))
      have sz : ∀ w : nm, w ≠ (6, 0, 0) → w ≠ (7, 0, 0) → w ≠ (3, 0, 0) → σ2 w = 0 := fun w w1 w2 w3 => (hS.1 w w1 w2).trans (s00_0 w3)
      have rz : ∀ w : nm, ((w.1 ≠ 4 ∧ w.1 ≠ 5) ∨ w.2.1 ≠ 0) → w ≠ (1, 1, 0) → ρ2 w = 0 := fun w w1 w2 => (hS.2 w w1).trans (r00_0 w2)
      have kd : ∀ y, V2 y → ((y.1 = 1 ∨ y.1 = 2 ∨ y.1 = 3) ∧ y.2.1 ≤ 7 ∧ (y.1 ≠ 1 → y.2.1 ≠ 1)) ∨ y.1 = 12 ∨ y.1 = 13 ∨ y = (17, 0, 0) := fun y hy => by
        rcases (n2 y).1 hy with e | e | e | e | e | ⟨s, hs, e | e | e⟩
        · exact Or.inr (Or.inr (Or.inr e))
        · rw [e]; exact Or.inr (Or.inl rfl)
        · rw [e]; exact Or.inr (Or.inr (Or.inl rfl))
        · rw [e]; left; simp
        · rw [e]; left; simp
        · rw [e]; left; simp only [true_or, true_and, ne_eq, not_true, false_implies, and_true]; omega
        · rw [e]; left; simp only [true_or, or_true, true_and, ne_eq]; omega
        · rw [e]; left; simp only [true_or, or_true, true_and, ne_eq]; omega
      have kd1 : ∀ y, V2 y → y.1 ≠ 5 ∧ y.1 ≠ 6 ∧ y.1 ≠ 7 ∧ y.1 ≠ 0 ∧ y.1 ≠ 15 ∧ y.1 ≠ 16 ∧ (y.1 = 17 → y = (17, 0, 0)) := fun y hy => by
        rcases kd y hy with ⟨e, -⟩ | e | e | e
        · omega
        · omega
        · omega
        · rw [e]; simp
      refine ⟨fun _ => ?_, fun q => absurd (nI_le (a := 6) (b := 6) (by omega) (by omega)) q⟩
      rw [← f17]
      refine n_list g2 (l := 1) (fun y hy => (kd1 y hy).2.2.2.2.2.1) k13 x13 (fun q => ?_) (fun q => ?_) (fun j => rz _ (Or.inr (by simp)) (fun e => by cases e)) (rz _ (Or.inr (by simp)) (fun e => by cases e)) (sz _ (fun e => by cases e) (fun e => by cases e) (fun e => by cases e)) (sz _ (fun e => by cases e) (fun e => by cases e) (fun e => by cases e)) (fun M3 V3 ad3 ξ3 v3 a3 y3 g3 => ?_)
      · rcases kd _ q with ⟨-, -, e⟩ | e | e | e
        · exact e (by simp) rfl
        · cases e
        · cases e
        · cases e
      · rcases kd _ q with ⟨-, -, e⟩ | e | e | e
        · exact e (by simp) rfl
        · cases e
        · cases e
        · cases e
      have kd3 : ∀ y, V3 y → (y.1 ≤ 3 ∧ y.1 ≠ 0 ∧ y.2.1 ≤ 7) ∨ y.1 = 12 ∨ y.1 = 13 ∨ y = (17, 0, 0) := fun y hy => by
        rcases (v3 y).1 hy with e | e | e
        · rw [e]; left; simp
        · rw [e]; left; simp
        · rcases kd y e with ⟨e, e1, -⟩ | e
          · left; omega
          · exact Or.inr e
      have b17 : ad3 (17, 0, 0) = ad2 (17, 0, 0) := a3 _ (fun e => by cases e) (fun e => by cases e) (by simp)
      have b2 : ad3 (2, 0, 0) = ad2 (2, 0, 0) := a3 _ (fun e => by cases e) (fun e => by cases e) (by simp)
      have V17 : V3 (17, 0, 0) := (v3 _).2 (Or.inr (Or.inr ((n2 _).2 (Or.inl rfl))))
      have u17 : ∀ y, V3 y → y.1 = 17 → y = (17, 0, 0) := fun y hy hy1 => by
        rcases kd3 y hy with e | e | e | e
        · omega
        · omega
        · omega
        · exact e
      show zPu M3 (ad2 (17, 0, 0)) 6 1 (.ref (ad3 (2, 1, 0))) _
      rw [← b17]
      refine p_x g3 (ci := 6) (fs := [.ref (ad2 (2, 0, 0)), .null, .null, .null, .null, .null]) (by omega) V17 u17 ((y3 17 (by omega)).trans x17) (by simp) fun M4 g4 => ?_
      refine n_schema g4 (c := 0) (fun y hy => by rcases kd3 y hy with e | e | e | e
                                                  · omega
                                                  · omega
                                                  · omega
                                                  · rw [e]; simp) ((v3 _).2 (Or.inr (Or.inr k13))) ((ux_n _ _ (by omega)).trans ((y3 13 (by omega)).trans x13)) (fun y hy q => ?_) ⟨fun j => rz _ (Or.inr (by simp)) (fun e => by cases e), rz _ (Or.inr (by simp)) (fun e => by cases e), sz _ (fun e => by cases e) (fun e => by cases e) (fun e => by cases e), sz _ (fun e => by cases e) (fun e => by cases e) (fun e => by cases e), sz _ (fun e => by cases e) (fun e => by cases e) (fun e => by cases e), fun j => sz _ (fun e => by cases e) (fun e => by cases e) (fun e => by cases e), ?_⟩ (fun M5 V5 ad5 ξ5 v5 a5 y5 g5 => ?_)
      · have := kd3 y q
        rcases hy with e | e | e | e | e <;> (rw [e] at this; simp at this)
      · rw [hS.1 _ (fun e => by cases e) (fun e => by cases e)]; rfl
      have ns : ∀ y, nS 0 y → y.1 = 5 ∨ (y.1 = 6 ∧ y.2.1 = 3) ∨ (y.1 = 7 ∧ y.2.1 = 3) ∨ ((y.1 = 2 ∨ y.1 = 3) ∧ y.2.1 = 8) := fun y hy => by rcases hy with e | e | e | e | e <;> (rw [e]; simp)
      have ns0 : ∀ k i j, (k < 2 ∨ 7 < k ∨ ((k = 2 ∨ k = 3) ∧ i ≠ 8)) → ¬ nS 0 (k, i, j) := fun k i j hk q => by have := ns _ q; simp only at this; omega
      have d17 : ad5 (17, 0, 0) = ad3 (17, 0, 0) := a5 _ (ns0 _ _ _ (by omega)) (by simp) (by simp)
      have V17' : V5 (17, 0, 0) := (v5 _).2 (Or.inr V17)
      have kd5 : ∀ y, V5 y → (y.1 ≤ 3 ∧ y.1 ≠ 0 ∧ y.2.1 ≤ 8) ∨ y = (5, 0, 0) ∨ y = (6, 3, 0) ∨ y = (7, 3, 0) ∨ y.1 = 12 ∨ y.1 = 13 ∨ y = (17, 0, 0) := fun y hy => by
        rcases (v5 y).1 hy with (e | e | e | e | e) | e
        · exact Or.inr (Or.inl e)
        · exact Or.inr (Or.inr (Or.inl e))
        · exact Or.inr (Or.inr (Or.inr (Or.inl e)))
        · rw [e]; left; simp
        · rw [e]; left; simp
        · rcases kd3 y e with e | e
          · left; omega
          · exact Or.inr (Or.inr (Or.inr (Or.inr e)))
      have u17' : ∀ y, V5 y → y.1 = 17 → y = (17, 0, 0) := fun y hy hy1 => by
        rcases (v5 y).1 hy with e | e
        · have := ns y e; omega
        · exact u17 y e hy1
      have no16 : ∀ y, V5 y → y.1 ≠ 16 := fun y hy => by
        rcases kd5 y hy with e | e | e | e | e | e | e
        · omega
        · rw [e]; simp
        · rw [e]; simp
        · rw [e]; simp
        · omega
        · omega
        · rw [e]; simp
      have no6 : ∀ r, r < 3 → ¬ V5 (6, r, 0) ∧ ¬ V5 (7, r, 0) := fun r hr => by
        refine ⟨fun q => ?_, fun q => ?_⟩ <;>
        · have := kd5 _ q
          simp only [Prod.mk.injEq] at this
          omega
      show zPu M5 (ad3 (17, 0, 0)) 6 2 (.ref (ad5 (5, 0, 0))) _
      rw [← d17]
      refine p_x g5 (ci := 6) (fs := [.ref (ad2 (2, 0, 0)), .ref (ad3 (2, 1, 0)), .null, .null, .null, .null]) (by omega) V17' u17' ((y5 17 (by omega) (by omega)).trans (ux_s _ _ _)) (by simp) fun M6 g6 => ?_
      refine n_row g6 (r := 0) no16 (no6 0 (by omega)).1 (no6 0 (by omega)).2 (sz _ (fun e => by cases e) (fun e => by cases e) (fun e => by cases e)) (fun j => sz _ (fun e => by cases e) (fun e => by cases e) (fun e => by cases e)) (fun M7 V7 ad7 ξ7 v7 a7 y7 g7 => ?_)
      have f7 : ad7 (17, 0, 0) = ad5 (17, 0, 0) := a7 _ (fun e => by cases e) (fun e => by cases e) (by simp)
      have u7 : ∀ y, V7 y → (y.1 = 17 → y = (17, 0, 0)) ∧ y.1 ≠ 16 := fun y hy => by
        rcases (v7 y).1 hy with e | e | e
        · rw [e]; simp
        · rw [e]; simp
        · exact ⟨u17' y e, no16 y e⟩
      show zPu M7 (ad5 (17, 0, 0)) 6 3 (.ref (ad7 (6, 0, 0))) _
      rw [← f7]
      refine p_x g7 (ci := 6) (fs := [.ref (ad2 (2, 0, 0)), .ref (ad3 (2, 1, 0)), .ref (ad5 (5, 0, 0)), .null, .null, .null]) (by omega) ((v7 _).2 (Or.inr (Or.inr V17'))) (fun y hy => (u7 y hy).1) ((y7 17 (by omega)).trans (ux_s _ _ _)) (by simp) fun M8 g8 => ?_
      refine n_row g8 (r := 1) (fun y hy => (u7 y hy).2) (fun q => ?_) (fun q => ?_) (sz _ (fun e => by cases e) (fun e => by cases e) (fun e => by cases e)) (fun j => sz _ (fun e => by cases e) (fun e => by cases e) (fun e => by cases e)) (fun M9 V9 ad9 ξ9 v9 a9 y9 g9 => ?_)
      · rcases (v7 _).1 q with e | e | e
        · cases e
        · cases e
        · exact (no6 1 (by omega)).1 e
      · rcases (v7 _).1 q with e | e | e
        · cases e
        · cases e
        · exact (no6 1 (by omega)).2 e
      have f9 : ad9 (17, 0, 0) = ad7 (17, 0, 0) := a9 _ (fun e => by cases e) (fun e => by cases e) (by simp)
      have u9 : ∀ y, V9 y → (y.1 = 17 → y = (17, 0, 0)) ∧ y.1 ≠ 16 := fun y hy => by
        rcases (v9 y).1 hy with e | e | e
        · rw [e]; simp
        · rw [e]; simp
        · exact u7 y e
      show zPu M9 (ad7 (17, 0, 0)) 6 4 (.ref (ad9 (6, 1, 0))) _
      rw [← f9]
      refine p_x g9 (ci := 6) (fs := [.ref (ad2 (2, 0, 0)), .ref (ad3 (2, 1, 0)), .ref (ad5 (5, 0, 0)), .ref (ad7 (6, 0, 0)), .null, .null]) (by omega) ((v9 _).2 (Or.inr (Or.inr ((v7 _).2 (Or.inr (Or.inr V17')))))) (fun y hy => (u9 y hy).1) ((y9 17 (by omega)).trans (ux_s _ _ _)) (by simp) fun M10 g10 => ?_
      refine n_row g10 (r := 2) (fun y hy => (u9 y hy).2) (fun q => ?_) (fun q => ?_) (sz _ (fun e => by cases e) (fun e => by cases e) (fun e => by cases e)) (fun j => sz _ (fun e => by cases e) (fun e => by cases e) (fun e => by cases e)) (fun M11 V11 ad11 ξ11 v11 a11 y11 g11 => ?_)
      · rcases (v9 _).1 q with e | e | e
        · cases e
        · cases e
        · rcases (v7 _).1 e with e | e | e
          · cases e
          · cases e
          · exact (no6 2 (by omega)).1 e
      · rcases (v9 _).1 q with e | e | e
        · cases e
        · cases e
        · rcases (v7 _).1 e with e | e | e
          · cases e
          · cases e
          · exact (no6 2 (by omega)).2 e
      have f11 : ad11 (17, 0, 0) = ad9 (17, 0, 0) := a11 _ (fun e => by cases e) (fun e => by cases e) (by simp)
      have V11i : ∀ y, V11 y ↔ y = (6, 2, 0) ∨ y = (7, 2, 0) ∨ y = (6, 1, 0) ∨ y = (7, 1, 0) ∨ y = (6, 0, 0) ∨ y = (7, 0, 0) ∨ V5 y := fun y => by rw [v11, v9, v7]
      have V17'' : V11 (17, 0, 0) := (V11i _).2 (by simp [V17'])
      have u11 : ∀ y, V11 y → (y.1 = 17 → y = (17, 0, 0)) ∧ y.1 ≠ 16 := fun y hy => by
        rcases (v11 y).1 hy with e | e | e
        · rw [e]; simp
        · rw [e]; simp
        · exact u9 y e
      show zPu M11 (ad9 (17, 0, 0)) 6 5 (.ref (ad11 (6, 2, 0))) _
      rw [← f11]
      refine p_x g11 (ci := 6) (fs := [.ref (ad2 (2, 0, 0)), .ref (ad3 (2, 1, 0)), .ref (ad5 (5, 0, 0)), .ref (ad7 (6, 0, 0)), .ref (ad9 (6, 1, 0)), .null]) (by omega) V17'' (fun y hy => (u11 y hy).1) ((y11 17 (by omega)).trans (ux_s _ _ _)) (by simp) fun M12 g12 => ?_
      -- the addresses of all that the component refers to
      have lo : ∀ y : nm, y.1 ≠ 16 → y.1 ≠ 6 → y.1 ≠ 7 → ad11 y = ad5 y := fun y y1 y2 y3 => by
        have ne : ∀ k i, (k = 6 ∨ k = 7) → y ≠ (k, i, 0) := fun k i hk e => by rw [e] at y2 y3; simp only at y2 y3; omega
        rw [a11 y (ne _ _ (by simp)) (ne _ _ (by simp)) y1, a9 y (ne _ _ (by simp)) (ne _ _ (by simp)) y1, a7 y (ne _ _ (by simp)) (ne _ _ (by simp)) y1]
      have lo3 : ∀ y : nm, y.1 ≠ 16 → y.1 ≠ 15 → y.1 ≠ 6 → y.1 ≠ 7 → ¬ nS 0 y → ad11 y = ad3 y := fun y y1 y2 y3 y4 y5 => (lo y y1 y3 y4).trans (a5 y y5 y2 y1)
      have e20 : ad11 (2, 0, 0) = ad2 (2, 0, 0) := (lo3 _ (by simp) (by simp) (by simp) (by simp) (ns0 _ _ _ (by omega))).trans b2
      have e21 : ad11 (2, 1, 0) = ad3 (2, 1, 0) := lo3 _ (by simp) (by simp) (by simp) (by simp) (ns0 _ _ _ (by omega))
      have e5 : ad11 (5, 0, 0) = ad5 (5, 0, 0) := lo _ (by simp) (by simp) (by simp)
      have e60 : ad11 (6, 0, 0) = ad7 (6, 0, 0) := (a11 _ (fun e => by cases e) (fun e => by cases e) (by simp)).trans (a9 _ (fun e => by cases e) (fun e => by cases e) (by simp))
      have e61 : ad11 (6, 1, 0) = ad9 (6, 1, 0) := a11 _ (fun e => by cases e) (fun e => by cases e) (by simp)
      have r0 : ρ2 (0, 0, 0) = 0 := rz _ (Or.inl (by simp)) (fun e => by cases e)
      have r1 : ρ2 (1, 0, 0) = 0 := rz _ (Or.inl (by simp)) (fun e => by cases e)
      have r2 : ρ2 (1, 1, 0) = 1 := (hS.2 _ (Or.inl (by simp))).trans rfl
      have in5 : ∀ y, V5 y → V11 y := fun y hy => (V11i y).2 (Or.inr (Or.inr (Or.inr (Or.inr (Or.inr (Or.inr hy))))))
      have in3 : ∀ y, V3 y → V11 y := fun y hy => in5 y ((v5 _).2 (Or.inr hy))
      have hT := g12.turn (k := 17) (x := (0, 0, 0)) (by omega) V17'' (fun y hy => (u11 y hy).1) (by rw [ux_s]; exact zO_ne) (fun q => by
        rcases (V11i _).1 q with e | e | e | e | e | e | e
        · cases e
        · cases e
        · cases e
        · cases e
        · cases e
        · cases e
        · have := kd5 _ e
          simp at this) (by
        rw [ux_s]
        have ne : ∀ k i : Nat, k ≠ 0 → up ad11 (0, 0, 0) (ad11 (17, 0, 0)) (k, i, 0) = ad11 (k, i, 0) := fun k i hk => up_n _ _ (fun e => hk (congrArg Prod.fst e))
        simp only [cell, List.set]
        rw [r0, r1, r2, ne 2 0 (by omega), ne 2 1 (by omega), ne 5 0 (by omega), ne 6 0 (by omega), ne 6 1 (by omega), ne 6 2 (by omega), e20, e21, e5, e60, e61]) (fun y hy => by
        simp only [refs] at hy
        rw [r0, r1, r2] at hy
        rcases hy with e | e | e | e | e | e
        · exact in3 y ((v3 _).2 (Or.inr (Or.inr ((n2 _).2 (Or.inr (Or.inr (Or.inr (Or.inl e))))))))
        · exact in3 y ((v3 _).2 (Or.inl e))
        · exact in5 y ((v5 _).2 (Or.inl (Or.inl e)))
        · exact (V11i y).2 (Or.inr (Or.inr (Or.inr (Or.inr (Or.inl e)))))
        · exact (V11i y).2 (Or.inr (Or.inr (Or.inl e)))
        · exact (V11i y).2 (Or.inl e)) ⟨fun _ _ => rfl, fun _ => rfl⟩
      have up0 : ∀ k i j : Nat, k ≠ 0 → up ad11 (0, 0, 0) (ad11 (17, 0, 0)) (k, i, j) = ad11 (k, i, j) := fun k i j hk => up_n _ _ (fun e => hk (congrArg Prod.fst e))
      have old : ∀ y, Nb 6 y → V11 y := fun y hy => in3 y ((v3 _).2 (Or.inr (Or.inr ((n2 _).2 hy))))
      have lo17 : ad11 (17, 0, 0) = ad (17, 0, 0) := (((lo3 _ (by simp) (by simp) (by simp) (by simp) (ns0 _ _ _ (by omega))).trans b17).trans f17).trans e17
      have lo12 : ad11 (12, 0, 0) = ad (12, 0, 0) := ((lo3 _ (by simp) (by simp) (by simp) (by simp) (ns0 _ _ _ (by omega))).trans (a3 _ (fun e => by cases e) (fun e => by cases e) (by simp))).trans f12
      have lo13 : ad11 (13, 0, 0) = ad (13, 0, 0) := ((lo3 _ (by simp) (by simp) (by simp) (by simp) (ns0 _ _ _ (by omega))).trans (a3 _ (fun e => by cases e) (fun e => by cases e) (by simp))).trans f13
      have xi : ∀ q, q < 15 → ux ξ11 17 (zO 6 ([Value.ref (ad2 (2, 0, 0)), .ref (ad3 (2, 1, 0)), .ref (ad5 (5, 0, 0)), .ref (ad7 (6, 0, 0)), .ref (ad9 (6, 1, 0)), .null].set 5 (.ref (ad11 (6, 2, 0))))) q = ξ2 q := fun q hq => by
        rw [ux_n _ _ (by omega), y11 q (by omega), ux_n _ _ (by omega), y9 q (by omega), ux_n _ _ (by omega), y7 q (by omega), ux_n _ _ (by omega), y5 q (by omega) (by omega), ux_n _ _ (by omega), y3 q (by omega)]
      refine hP M12 _ _ σ2 ρ2 _ (fun y hy => ?_) (Or.inl rfl) (Or.inr ⟨old _ (Or.inr (Or.inl rfl)), by simp⟩) (Or.inr ⟨old _ (Or.inr (Or.inr (Or.inl rfl))), by simp⟩) ((up_s _ _ _).trans lo17) ((up0 _ _ _ (by omega)).trans lo12) ((up0 _ _ _ (by omega)).trans lo13) ((xi 12 (by omega)).trans x12) ((xi 13 (by omega)).trans x13) hS hL hT
      rcases hy with e | ⟨e, e1⟩
      · rw [e]; simp [Bd]
      · rcases (V11i y).1 e with e | e | e | e | e | e | e
        · rw [e]; simp [Bd]
        · rw [e]; simp [Bd]
        · rw [e]; simp [Bd]
        · rw [e]; simp [Bd]
        · rw [e]; simp [Bd]
        · rw [e]; simp [Bd]
        · rcases (v5 y).1 e with (e | e | e | e | e) | e
          · rw [e]; simp [Bd]
          · rw [e]; simp [Bd]
          · rw [e]; simp [Bd]
          · rw [e]; simp [Bd]
          · rw [e]; simp [Bd]
          · rcases (v3 y).1 e with e | e | e
            · rw [e]; simp [Bd]
            · rw [e]; simp [Bd]
            · rcases (n2 y).1 e with e | e | e | e | e | ⟨s, hs, e | e | e⟩
              · rw [e] at e1; exact absurd rfl e1
              · rw [e]; simp [Bd]
              · rw [e]; simp [Bd]
              · rw [e]; simp [Bd]
              · rw [e]; simp [Bd]
              · rw [e]; simp [Bd]
              · rw [e]; simp [Bd]; omega
              · rw [e]; simp [Bd]; omega
    | succ k ih =>
      intro i M V2 ad2 σ2 ρ2 ξ2 hi n2 f17 f12 f13 x17 x12 x13 hS hL g2
      have i5 : i < 6 := by omega
      have k17 : V2 (17, 0, 0) := (n2 _).2 (Or.inl rfl)
      have k2 : V2 (2, 0, 0) := (n2 _).2 (Or.inr (Or.inr (Or.inr (Or.inl rfl))))
      refine ⟨fun q => absurd q (nI_ge (b := 6) i5 (by omega)), fun _ => ?_⟩
      rw [← f17]
      refine g_r g2 k17 ((cell_k (by omega)).trans x17) rfl fun q hq => ?_
      have g3 := g2.tmp (k := 15) (e := zO 4 [.null, .int 0, .int 0]) (by omega) (fun y hy => ((n2 y).1 hy).kind.2.1) hq
      have e15 : up ad2 (15, 0, 0) q (15, 0, 0) = q := up_s _ _ _
      have nn : ∀ t, i ≤ t → ¬ V2 (1, t, 0) ∧ ¬ V2 (2, 2 + t, 0) ∧ ¬ V2 (3, 2 + t, 0) := fun t ht => by
        refine ⟨fun q => ?_, fun q => ?_, fun q => ?_⟩ <;>
        · rcases (n2 _).1 q with e | e | e | e | e | ⟨s, hs, e | e | e⟩ <;> (have q1 := congrArg Prod.fst e; have q2 := congrArg (fun w : nm => w.2.1) e; simp only at q1 q2; omega)
      obtain ⟨nn1, nn2, nn3⟩ := nn i (Nat.le_refl i)
      have bi := b_init g3 (s := i) (Or.inl rfl) (fun y hy hy1 => hy.elim id (fun q => absurd hy1 ((n2 y).1 q).kind.2.1)) (fun y hy => hy.elim (fun e => by rw [e]; simp) (fun q => ((n2 y).1 q).kind.2.2.1)) (ux_s _ _ _) (Or.inr ((n2 _).2 (Or.inr (Or.inr (Or.inl rfl))))) ((ux_n _ _ (by omega)).trans x13) (fun q => q.elim (fun e => by cases e) nn1) (fun q => q.elim (fun e => by cases e) nn2) (fun q => q.elim (fun e => by cases e) nn3)
        (fun j => (hS.2 _ (Or.inr (by simp only; omega))).trans (r00_0 (fun e => by cases e))) ((hS.2 _ (Or.inr (by simp only; omega))).trans (r00_0 (fun e => by cases e))) ((hS.1 _ (fun e => by have := congrArg (fun w : nm => w.2.1) e; simp only at this; omega) (fun e => by cases e)).trans (s00_0 (fun e => by cases e))) ((hS.1 _ (fun e => by cases e) (fun e => by have := congrArg (fun w : nm => w.2.1) e; simp only at this; omega)).trans (s00_0 (fun e => by cases e))) ((hS.1 _ (fun e => by cases e) (fun e => by cases e)).trans (s00_0 (fun e => by cases e))) ((hS.1 _ (fun e => by cases e) (fun e => by cases e)).trans (s00_0 (fun e => by cases e)))
        (P := fun M24 => (zIs M24 (ad2 (2, 0, 0)) 0 ∧ w_Jx4a65c_add_9ea2d (ad2 (2, 0, 0)) q M24 (fun v26 M25 => (w_X5_init_17 (ad2 (17, 0, 0)) P (k + 2) (nI i + 1) M25)))) (fun M4 V4 ad4 ξ4 v4 a4 b4 x4 g4 => ?_)
      · rw [e15] at bi; exact bi
      have a4' : ∀ y : nm, y.1 ≠ 15 → y.1 ≠ 16 → y ≠ (1, i, 0) → y ≠ (2, 2 + i, 0) → y ≠ (3, 2 + i, 0) → ad4 y = ad2 y := fun y y1 y2 y3 y4 y5 => (a4 y y3 y4 y5 y2).trans (up_n _ _ (fun e => y1 (congrArg Prod.fst e)))
      have c2 : ad4 (2, 0, 0) = ad2 (2, 0, 0) := a4' _ (by simp) (by simp) (fun e => by cases e) (fun e => by have := congrArg (fun w : nm => w.2.1) e; simp only at this; omega) (fun e => by cases e)
      have c1 : ad4 (1, i, 0) = q := b4.trans e15
      have n4 : ∀ y, V4 y ↔ Nb (i + 1) y := fun y => by
        rw [v4]
        constructor
        · rintro (e | e | e | ⟨e | e, e1⟩)
          · exact Or.inr (Or.inr (Or.inr (Or.inr (Or.inr ⟨i, by omega, Or.inl e⟩))))
          · exact Or.inr (Or.inr (Or.inr (Or.inr (Or.inr ⟨i, by omega, Or.inr (Or.inl e)⟩))))
          · exact Or.inr (Or.inr (Or.inr (Or.inr (Or.inr ⟨i, by omega, Or.inr (Or.inr e)⟩))))
          · rw [e] at e1; exact absurd rfl e1
          · rcases (n2 _).1 e with e | e | e | e | e | ⟨s, hs, e⟩
            · exact Or.inl e
            · exact Or.inr (Or.inl e)
            · exact Or.inr (Or.inr (Or.inl e))
            · exact Or.inr (Or.inr (Or.inr (Or.inl e)))
            · exact Or.inr (Or.inr (Or.inr (Or.inr (Or.inl e))))
            · exact Or.inr (Or.inr (Or.inr (Or.inr (Or.inr ⟨s, by omega, e⟩))))
        · intro e
          have fw : Nb i y → V4 y := fun e => (v4 y).2 (Or.inr (Or.inr (Or.inr ⟨Or.inr ((n2 _).2 e), e.kind.2.1⟩)))
          refine (v4 y).1 ?_
          rcases e with e | e | e | e | e | ⟨s, hs, e⟩
          · exact fw (Or.inl e)
          · exact fw (Or.inr (Or.inl e))
          · exact fw (Or.inr (Or.inr (Or.inl e)))
          · exact fw (Or.inr (Or.inr (Or.inr (Or.inl e))))
          · exact fw (Or.inr (Or.inr (Or.inr (Or.inr (Or.inl e)))))
          · by_cases es : s = i
            · subst es
              rcases e with e | e | e
              · exact (v4 y).2 (Or.inl e)
              · exact (v4 y).2 (Or.inr (Or.inl e))
              · exact (v4 y).2 (Or.inr (Or.inr (Or.inl e)))
            · exact fw (Or.inr (Or.inr (Or.inr (Or.inr (Or.inr ⟨s, by omega, e⟩)))))
      have k2' : V4 (2, 0, 0) := (n4 _).2 (Or.inr (Or.inr (Or.inr (Or.inl rfl))))
      rw [← c2]
      refine ⟨g_is g4 k2' rfl, ?_⟩
      have add := l_add g4 k2' (l := 0) (n := i) hL (by omega) ((n4 _).2 (Or.inr (Or.inr (Or.inr (Or.inr (Or.inr ⟨i, by omega, Or.inl rfl⟩)))))) (P := fun v26 M25 => (w_X5_init_17 (ad2 (17, 0, 0)) P (k + 2) (nI i + 1) M25)) (fun M5 ad5 ρ5 a5 r5 l5 g5 => ?_)
      · rw [el_0, c1] at add; exact add
      · rw [nI_1, f17]
        refine ih (i + 1) M5 V4 ad5 _ ρ5 ξ4 (by omega) n4 ?_ ?_ ?_ ?_ ?_ ?_ ⟨fun w w1 w2 => ?_, fun w hw => ?_⟩ l5 g5
        · rw [a5 _ (fun e => by cases e), a4' _ (by simp) (by simp) (fun e => by cases e) (fun e => by cases e) (fun e => by cases e)]; exact f17
        · rw [a5 _ (fun e => by cases e), a4' _ (by simp) (by simp) (fun e => by cases e) (fun e => by cases e) (fun e => by cases e)]; exact f12
        · rw [a5 _ (fun e => by cases e), a4' _ (by simp) (by simp) (fun e => by cases e) (fun e => by cases e) (fun e => by cases e)]; exact f13
        · rw [x4 17 (by omega) (by omega), ux_n _ _ (by omega), x17, a5 _ (fun e => by cases e), c2]
        · rw [x4 12 (by omega) (by omega), ux_n _ _ (by omega), x12]
        · rw [x4 13 (by omega) (by omega), ux_n _ _ (by omega), x13]
        · rw [up_n _ _ w2, up_n _ _ w1]; exact hS.1 w w1 w2
        · rw [r5 w (fun e => by rw [e] at hw; simp at hw) (fun e => by rw [e] at hw; simp at hw)]; exact hS.2 w hw
  have hL0 : Ls s00 r00 0 0 := ⟨s00_0 (fun e => by cases e), fun j => ⟨fun q => absurd (r00_0 (fun e => by cases e)) q, fun q => absurd q (by omega)⟩, by omega, by rw [r00_0 (fun e => by cases e)]; omega⟩
  have := loop 6 0 M2 V1 ad1 s00 r00 _ (by omega) n1 rfl e12 e13 (ux_s _ _ _) ((ux_n _ _ (by omega)).trans (x1 12 (by omega))) ((ux_n _ _ (by omega)).trans ((x1 13 (by omega)).trans hz2)) ⟨fun _ _ _ => rfl, fun _ _ => rfl⟩ hL0 h2
  rw [nI_0] at this
  exact this
