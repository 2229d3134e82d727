/-! ===== the pure part: the reference's constructor ===== -/
variable {V V' : nm → Prop} {ad ad' : nm → Nat} {σ σ' τ τ' : nI2} {ρ ρ' π : nN2} {ξ ξ' : Nat → zE} {M : zM} {x y w : nm} {n : Nat} {cnt : Nat → Nat}
/-- the reference's fields once the rows L are made -/
def fsL (ad : nm → Nat) (L : List Nat) : List Value := (List.range 23).map (fun k => if k ∈ L then .ref (ad (10, k, 0)) else if k = 0 ∨ k = 9 ∨ k = 16 then .int 0 else .null)
theorem fsL_set {L : List Nat} {k : Nat} (hk : k < 23) (he : ∀ i, i ≠ k → ad' (10, i, 0) = ad (10, i, 0)) : (fsL ad L).set k (.ref (ad' (10, k, 0))) = fsL ad' (k :: L) := by
  refine List.ext_getElem? fun i => ?_
  unfold fsL
  rw [List.getElem?_set, List.getElem?_map, List.getElem?_map, List.length_map, List.length_range]
  by_cases e : i < 23
  · rw [List.getElem?_range e]
    by_cases e2 : k = i
    · subst e2
      rw [if_pos rfl, if_pos hk]
      simp
    · rw [if_neg e2]
      have e3 : i ≠ k := fun q => e2 q.symm
      simp only [Option.map_some, List.mem_cons, e3, false_or]
      rw [he i e3]
  · rw [List.getElem?_eq_none (by simp; omega)]
    by_cases e2 : k = i
    · omega
    · rw [if_neg e2]; rfl
/-- the state while the reference is made -/
def IS (V0 : nm → Prop) (ad0 : nm → Nat) (σ : nI2) (ρ : nN2) (ξ0 : Nat → zE) (a : Nat) (L : List Nat) (M : zM) : Prop :=
  ∃ V ad ξ, zC V ad σ ρ ξ M ∧ (∀ y, V y ↔ y = (18, 0, 0) ∨ (∃ k, k ∈ L ∧ y = (10, k, 0)) ∨ V0 y) ∧ ξ 18 = zO 7 (fsL ad L) ∧ (∀ q, q ≠ 18 → ξ q = ξ0 q) ∧ (∀ y, V0 y → ad y = ad0 y) ∧ ad (18, 0, 0) = a
theorem n_arr {V0 : nm → Prop} {ad0 : nm → Nat} {ξ0 : Nat → zE} {a k t mx : Nat} {len : Int32} {L : List Nat} (h0 : ∀ y, V0 y → y.1 ≠ 10 ∧ y.1 ≠ 18) (hσ : ∀ k j, σ (17, k, j) = 0) (hI : IS V0 ad0 σ ρ ξ0 a L M) {P : zM → Prop} (hP : ∀ M', IS V0 ad0 σ ρ ξ0 a (k :: L) M' → P M') (hk : k < 23 := by decide) (hkL : k ∉ L := by decide) (hlen : len.toNatClampNeg = cn k := by decide) (ht : t = ct k := by rfl) (hp : ¬ len < 0 := by decide) (hm : len.toNatClampNeg ≤ mx := by decide) : zNi M t len mx (fun q M2 => zPu M2 a 7 k (.ref q) P) := by
  obtain ⟨V, ad, ξ, h, hV, x18, xo, ha, h18⟩ := hI
  refine ⟨hp, hm, fun q hq => ?_⟩
  have no : ¬ V (10, k, 0) := fun hq => by
    rcases (hV _).1 hq with e | ⟨j, hj, e⟩ | e
    · cases e
    · cases e; exact hkL hj
    · exact (h0 _ e).1 rfl
  have h1 := (h.fresh (e := zI t len.toNatClampNeg (fun _ => 0)) hq).more (10, k, 0) no (q := q) (by
    rw [zUp_same]
    simp only [cell]
    rw [hlen, ht, show (fun j => σ (17, k, j)) = fun _ => 0 from funext fun j => hσ k j]) (fun y hy e => absurd e (h.free hq hy)) (fun y hy => hy.elim) ⟨fun _ _ => rfl, fun q => by simp at q⟩
  have V18 : (fun y => y = ((10, k, 0) : nm) ∨ V y) (18, 0, 0) := Or.inr ((hV _).2 (Or.inl rfl))
  have e18 : up ad (10, k, 0) q (18, 0, 0) = ad (18, 0, 0) := up_n _ _ (fun e => by cases e)
  have ek : up ad (10, k, 0) q (10, k, 0) = q := up_s _ _ _
  rw [← h18, ← e18]
  refine p_x h1 (by omega) V18 (fun y hy hy1 => by
    rcases hy with e | e
    · rw [e] at hy1; simp at hy1
    · rcases (hV _).1 e with e | ⟨j, -, e⟩ | e
      · exact e
      · rw [e] at hy1; simp at hy1
      · exact absurd hy1 (h0 _ e).2) x18 (by simp [fsL]; exact hk) fun M2 h2 => hP M2 ?_
  refine ⟨_, _, _, h2, fun y => ?_, ?_, fun q hq => (ux_n _ _ hq).trans (xo q hq), fun y hy => ?_, e18.trans h18⟩
  · rw [hV]
    constructor
    · rintro (e | e | ⟨j, hj, e⟩ | e)
      · exact Or.inr (Or.inl ⟨k, List.mem_cons_self, e⟩)
      · exact Or.inl e
      · exact Or.inr (Or.inl ⟨j, List.mem_cons_of_mem _ hj, e⟩)
      · exact Or.inr (Or.inr e)
    · rintro (e | ⟨j, hj, e⟩ | e)
      · exact Or.inr (Or.inl e)
      · rcases List.mem_cons.1 hj with hj | hj
        · rw [hj] at e; exact Or.inl e
        · exact Or.inr (Or.inr (Or.inl ⟨j, hj, e⟩))
      · exact Or.inr (Or.inr (Or.inr e))
  · rw [ux_s, ← fsL_set (ad := ad) hk (fun i hi => up_n _ _ (fun e => hi (by cases e; rfl))), ek]
  · exact (up_n _ _ (fun e => (h0 _ hy).1 (by rw [e]))).trans (ha y hy)
theorem x6_init (h : zC V ad σ ρ ξ M) (hV18 : V (18, 0, 0)) (hu : ∀ y, V y → y.1 = 18 → y = (18, 0, 0)) (h10 : ∀ y, V y → y.1 ≠ 10 ∧ y.1 ≠ 9) (hξ : ξ 18 = zO 7 [.int 0, .null, .null, .null, .null, .null, .null, .null, .null, .int 0, .null, .null, .null, .null, .null, .null, .int 0, .null, .null, .null, .null, .null, .null]) (hσ : ∀ k j, σ (17, k, j) = 0) (hσ2 : ∀ k, σ (16, k, 0) = 0) {P : zM → Prop}
    (hP : ∀ M' V' ad' ξ', (∀ y, V' y → y = (9, 0, 0) ∨ (∃ k, k < 23 ∧ y = (10, k, 0)) ∨ (V y ∧ y.1 ≠ 18)) → (∀ y, V y → y.1 ≠ 18 → V' y) → V' (9, 0, 0) → ad' (9, 0, 0) = ad (18, 0, 0) → (∀ y, V y → y.1 ≠ 18 → ad' y = ad y) → (∀ q, q ≠ 18 → ξ' q = ξ q) → zC V' ad' σ ρ ξ' M' → P M') : w_X6_init (ad (18, 0, 0)) M P := by
  have h0 : ∀ y, (fun y => V y ∧ y.1 ≠ 18) y → y.1 ≠ 10 ∧ y.1 ≠ 18 := fun y hy => ⟨(h10 y hy.1).1, hy.2⟩
  have I0 : IS (fun y => V y ∧ y.1 ≠ 18) ad σ ρ ξ (ad (18, 0, 0)) [] M := ⟨V, ad, ξ, h, fun y => by
    constructor
    · intro hy
      by_cases e : y.1 = 18
      · exact Or.inl (hu y hy e)
      · exact Or.inr (Or.inr ⟨hy, e⟩)
    · rintro (e | ⟨k, hk, -⟩ | e)
      · rw [e]; exact hV18
      · cases hk
      · exact e.1, hξ, fun _ _ => rfl, fun _ _ => rfl, rfl⟩
  refine n_arr h0 hσ I0 fun M1 I1 => n_arr h0 hσ I1 fun M2 I2 => n_arr h0 hσ I2 fun M3 I3 => n_arr h0 hσ I3 fun M4 I4 => n_arr h0 hσ I4 fun M5 I5 => n_arr h0 hσ I5 fun M6 I6 => n_arr h0 hσ I6 fun M7 I7 => n_arr h0 hσ I7 fun M8 I8 => n_arr h0 hσ I8 fun M9 I9 => n_arr h0 hσ I9 fun M10 I10 => n_arr h0 hσ I10 fun M11 I11 => n_arr h0 hσ I11 fun M12 I12 => n_arr h0 hσ I12 fun M13 I13 => n_arr h0 hσ I13 fun M14 I14 => n_arr h0 hσ I14 fun M15 I15 => n_arr h0 hσ I15 fun M16 I16 => n_arr h0 hσ I16 fun M17 I17 => n_arr h0 hσ I17 fun M18 I18 => n_arr h0 hσ I18 fun M19 I19 => n_arr h0 hσ I19 fun M20 I20 => ?_
  obtain ⟨V2, ad2, ξ2, h2, v2, x18, xo, ha, h18⟩ := I20
  have hT := h2.turn (k := 18) (x := (9, 0, 0)) (by omega) ((v2 _).2 (Or.inl rfl)) (fun y hy hy1 => by
    rcases (v2 y).1 hy with e | ⟨k, -, e⟩ | e
    · exact e
    · rw [e] at hy1; simp at hy1
    · exact absurd hy1 e.2) (by rw [x18]; exact zO_ne) (fun q => by
    rcases (v2 _).1 q with e | ⟨k, -, e⟩ | e
    · cases e
    · cases e
    · exact (h10 _ e.1).2 rfl) (by
    rw [x18]
    have ne : ∀ k : Nat, up ad2 (9, 0, 0) (ad2 (18, 0, 0)) (10, k, 0) = ad2 (10, k, 0) := fun k => up_n _ _ (fun e => by cases e)
    simp only [cell, ne, hσ2]
    rfl) (fun y hy => by
    obtain ⟨k, hk, e⟩ := hy
    exact (v2 y).2 (Or.inr (Or.inl ⟨k, by simp only [List.mem_cons, List.not_mem_nil]; omega, e⟩))) ⟨fun _ _ => rfl, fun _ => rfl⟩
  refine hP M20 (fun y => y = (9, 0, 0) ∨ (V2 y ∧ y.1 ≠ 18)) _ _ (fun y hy => ?_) (fun y hy hy1 => Or.inr ⟨(v2 y).2 (Or.inr (Or.inr ⟨hy, hy1⟩)), hy1⟩) (Or.inl rfl) ((up_s _ _ _).trans h18) (fun y hy hy1 => (up_n _ _ (fun e => (h10 y hy).2 (by rw [e]))).trans (ha y ⟨hy, hy1⟩)) xo hT
  rcases hy with e | ⟨e, e1⟩
  · exact Or.inl e
  · rcases (v2 y).1 e with e | ⟨k, hk, e⟩ | e
    · rw [e] at e1; exact absurd rfl e1
    · refine Or.inr (Or.inl ⟨k, ?_, e⟩)
      have all : ∀ k, k ∈ [22, 21, 20, 19, 18, 17, 15, 14, 13, 12, 11, 10, 8, 7, 6, 5, 4, 3, 2, 1] → k < 23 := by decide
      exact all k hk
    · exact Or.inr (Or.inr e)
