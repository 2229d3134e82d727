/-! ===== the pure part: delete ===== -/
variable {Fm : zM} {V V' : nm → Prop} {ad ad' : nm → Nat} {σ σ' τ τ' : nI2} {ρ ρ' π : nN2} {ξ ξ' : Nat → zE} {M : zM} {x y w : nm} {n : Nat} {cnt : Nat → Nat}
/-- only a version's state differs -/
theorem WK_st {s v : Nat} {t : Int32} (ht : t = 0 ∨ t = 1 ∨ t = 2) (h : WK n cnt σ ρ) : WK n cnt (up σ (2, s, v) t) ρ := by
  obtain ⟨⟨a, b, c, d⟩, e, f⟩ := h
  have L : ∀ l k, Ls σ ρ l k → Ls (up σ (2, s, v) t) ρ l k := fun l k q => ⟨(up_n _ _ (fun e => by cases e)).trans q.1, q.2⟩
  have Z : ∀ c, zz (up σ (2, s, v) t) c = zz σ c := fun c => by unfold zz; rw [up_n _ _ (fun e => by cases e)]
  refine ⟨⟨L _ _ a, L _ _ b, c, d⟩, fun s' hs => ⟨L _ _ (e s' hs).1, (e s' hs).2.1, fun v' hv => ⟨?_, ((e s' hs).2.2 v' hv).2⟩⟩, fun c hc => ⟨?_, fun j hj => ?_⟩⟩
  · by_cases q : (2, s', v') = ((2, s, v) : nm)
    · rw [q, up_s]; exact ht
    · rw [up_n _ _ q]; exact ((e s' hs).2.2 v' hv).1
  · unfold Sc; rw [Z]; exact ⟨L _ _ (f c hc).1.1, (f c hc).1.2⟩
  · rw [Z] at hj
    rw [up_n _ _ (fun e => by cases e), up_n _ _ (fun e => by cases e)]
    exact (f c hc).2 j hj
theorem n_10 (s v : Nat) : (10 : Int32) * nI s + nI v = nI (10 * s + v) := n_ma 10 s v
/-- whether version v of subject s can be deleted, softly (al = 0) or hard -/
def okD (τ : nI2) (π : nN2) (n : Nat) (cnt : Nat → Nat) (s v : Nat) (al : Int32) : Prop := if al = 0 then τ (2, s, v) = 0 else ¬ τ (2, s, v) = 0 ∧ isRef τ π n cnt (nI (10 * s + v)) = false
def dlS (al : Int32) : Int32 := if al = 0 then 1 else 2
theorem dlS_ok (al : Int32) : dlS al = 0 ∨ dlS al = 1 ∨ dlS al = 2 := by unfold dlS; split; exact Or.inr (Or.inl rfl); exact Or.inr (Or.inr rfl)
def cnT (τ : nI2) (cnt : Nat → Nat) (s : Nat) : Nat := cntR (fun v => τ (2, s, v) == 0) (cnt s) 0
theorem k_delete (h : zC Fm V ad σ ρ ξ M) (hV : V (0, 0, 0)) (hK : WK n cnt σ ρ) {p q al : Int32} {P : Int32 → zM → Prop} {PX : Nat → zM → Prop} (h1 : ∀ s v, IsV cnt σ s v → p = nI s → q = nI v → okD σ ρ n cnt s v al → ∀ M', zC Fm V ad (up σ (2, s, v) (dlS al)) ρ ξ M' → P (nI (cnT (up σ (2, s, v) (dlS al)) cnt s)) M') (h2 : NoS p → PX 1 M) (h3 : ∀ s, s < 6 → p = nI s → NoV cnt σ s q → PX 2 M) (h4 : ∀ s v, IsV cnt σ s v → p = nI s → q = nI v → ¬ okD σ ρ n cnt s v al → PX 3 M) : w_X5_delete (ad (0, 0, 0)) p q al M P PX := by
  refine ⟨g_is h hV rfl, c_subject h hV hK (fun s hs hp => ⟨_, rfl, c_version h hV hK hs (fun v hq hv hne => ?_) (fun hno => h3 s hs hp hno)⟩) h2⟩
  subst hp hq
  have c6 := (hK.2.1 s hs).2.1
  have hSb := k_1 h hV hK hs
  have hVv := (v_V h hSb hv).1
  have fin : ∀ M', zC Fm V ad (up σ (2, s, v) (dlS al)) ρ ξ M' → okD σ ρ n cnt s v al → w_X5_delete_83 (ad (0, 0, 0)) (nI s) (nI v) al P PX (some (ad (1, s, 0))) M' := fun M' h' ok => by
    have hS' := k_1 h' hV (WK_st (s := s) (v := v) (dlS_ok al) hK) hs
    exact ⟨_, rfl, g_is h' hS'.2.1 rfl, c_countThere h' hS' (h1 s v ⟨hs, hv, hne⟩ rfl rfl ok M' h')⟩
  refine ⟨fun e => ⟨_, rfl, g_i h hVv rfl rfl ⟨fun e2 => ?_, fun e2 => h4 s v ⟨hs, hv, hne⟩ rfl rfl (fun ok => e2 (by unfold okD at ok; rw [if_pos e] at ok; exact ok))⟩⟩, fun e => ⟨_, rfl, g_i h hVv rfl rfl ⟨fun e2 => h4 s v ⟨hs, hv, hne⟩ rfl rfl (fun ok => by unfold okD at ok; rw [if_neg e] at ok; exact ok.1 e2), fun e2 => ⟨g_is h hV rfl, ?_⟩⟩⟩⟩
  · have ed : dlS al = 1 := if_pos e
    refine p_i h (2, s, v) hVv (v := 1) rfl (by simp) (by simp [cell, hI, up, List.set]) fun M' h' => fin M' (by rw [ed]; exact h') (by unfold okD; rw [if_pos e]; exact e2)
  · have ed : dlS al = 2 := if_neg e
    rw [n_10]
    refine c_isReferredTo h hV hK (br_b (fun e3 => ?_) (fun e3 => h4 s v ⟨hs, hv, hne⟩ rfl rfl (fun ok => by unfold okD at ok; rw [if_neg e] at ok; rw [ok.2] at e3; cases e3)))
    refine p_i h (2, s, v) hVv (v := 2) rfl (by simp) (by simp [cell, hI, up, List.set]) fun M' h' => fin M' (by rw [ed]; exact h') (by unfold okD; rw [if_neg e]; exact ⟨e2, e3⟩)
