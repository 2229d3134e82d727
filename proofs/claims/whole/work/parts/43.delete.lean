/-! ===== the pure part: delete ===== -/
variable {V V' : nm → Prop} {ad ad' : nm → Nat} {σ σ' τ τ' : nI2} {ρ ρ' π : nN2} {ξ ξ' : Nat → zE} {M : zM} {x y w : nm} {n : Nat} {cnt : Nat → Nat}
theorem FR.tr {c j p : Nat} (hτ : ∀ k, 8 ≤ k → k ≤ 15 → τ' (k, c, j) = τ (k, c, j)) (hσ : ∀ k, k ≤ 6 → σ' (17, k, p) = σ (17, k, p)) (h : FR cnt τ π σ c j p) : FR cnt τ' π σ' c j p := by
  unfold FR FT at h ⊢
  rw [hτ 8 (by omega) (by omega), hτ 9 (by omega) (by omega), hτ 10 (by omega) (by omega), hτ 11 (by omega) (by omega), hτ 12 (by omega) (by omega), hτ 14 (by omega) (by omega), hτ 15 (by omega) (by omega), hσ 1 (by omega), hσ 2 (by omega), hσ 3 (by omega), hσ 4 (by omega), hσ 5 (by omega), hσ 6 (by omega)]
  exact h
/-- only a version's state differs -/
theorem WK_st {s v : Nat} {t : Int32} (ht : t = 0 ∨ t = 1 ∨ t = 2) (h : WK n cnt σ ρ) : WK n cnt (up σ (2, s, v) t) ρ := by
  obtain ⟨⟨a, b, c, d⟩, e, f⟩ := h
  have L : ∀ l k, Ls σ ρ l k → Ls (up σ (2, s, v) t) ρ l k := fun l k q => ⟨(up_n _ _ (fun e => by cases e)).trans q.1, q.2⟩
  have Z : ∀ c, zz (up σ (2, s, v) t) c = zz σ c := fun c => by unfold zz; rw [up_n _ _ (fun e => by cases e)]
  refine ⟨⟨L _ _ a, L _ _ b, c, d⟩, fun s' hs => ⟨L _ _ (e s' hs).1, (e s' hs).2.1, fun v' hv => ⟨?_, ((e s' hs).2.2 v' hv).2⟩⟩, fun c hc => ⟨?_, fun j hj => ?_⟩⟩
  · by_cases q : (2, s', v') = ((2, s, v) : nm)
    · rw [q, up_s]; exact ht
    · rw [up_n _ _ q]; exact ((e s' hs).2.2 v' hv).1
  · unfold Sc; rw [Z]; exact ⟨L _ _ (f c hc).1.1, (f c hc).1.2⟩
  · rw [Z] at hj
    rw [up_n _ _ (fun e => by cases e), up_n _ _ (fun e => by cases e)]
    exact (f c hc).2 j hj
theorem Rel_st {s v : Nat} {t : Int32} (hs : s < 6) (hc6 : ∀ s, s < 6 → cnt s ≤ 6) (hv : v < cnt s) (h : Rel n cnt τ π σ) : Rel n cnt (up τ (2, s, v) t) π (up σ (17, 12, 6 * s + v) (t + 1)) := by
  obtain ⟨h1, h2, h3⟩ := h
  have Z : ∀ c, zz (up τ (2, s, v) t) c = zz τ c := fun c => by unfold zz; rw [up_n _ _ (fun e => by cases e)]
  have N : ∀ c, lnn (up τ (2, s, v) t) c = lnn τ c := fun c => by unfold lnn; rw [up_n _ _ (fun e => by cases e)]
  have C : ∀ k j, k ≠ 12 → up σ (17, 12, 6 * s + v) (t + 1) (17, k, j) = σ (17, k, j) := fun k j hk => up_n _ _ (fun e => hk (by cases e; rfl))
  refine ⟨(up_n _ _ (fun e => by cases e)).trans h1, fun c hc => ?_, fun s' hs' => ?_⟩
  · obtain ⟨a, b, d⟩ := h2 c hc
    rw [Z, N]
    exact ⟨(C _ _ (by decide)).trans a, (C _ _ (by decide)).trans b, fun j hj => (d j hj).tr (fun k k1 k2 => up_n _ _ (fun e => by have := congrArg (fun w : nm => w.1) e; simp only at this; omega)) (fun k hk => C _ _ (by omega))⟩
  · obtain ⟨a, b, d, e, f⟩ := h3 s' hs'
    have c6 := hc6 s hs
    have c6' := hc6 s' hs'
    refine ⟨(C _ _ (by decide)).trans a, fun v' hv' => ⟨(C _ _ (by decide)).trans (b v' hv').1, ?_⟩, fun v' q1 q2 => ?_, (C _ _ (by decide)).trans (e.trans (up_n _ _ (fun e => by cases e)).symm), (C _ _ (by decide)).trans (f.trans (up_n _ _ (fun e => by cases e)).symm)⟩
    · by_cases q : s' = s ∧ v' = v
      · obtain ⟨rfl, rfl⟩ := q
        rw [up_s, up_s]
      · rw [up_n _ _ (fun e => q (by have := congrArg (fun w : nm => w.2.2) e; simp only at this; omega)), up_n _ _ (fun e => q (by cases e; exact ⟨rfl, rfl⟩))]
        exact (b v' hv').2
    · rw [up_n _ _ (fun e => by have := congrArg (fun w : nm => w.2.2) e; simp only at this; have hss : s' = s := (by omega); subst hss; omega)]
      exact d v' q1 q2
theorem n_10 (s v : Nat) : (10 : Int32) * nI s + nI v = nI (10 * s + v) := n_ma 10 s v
/-- whether version v of subject s can be deleted, softly (al = 0) or hard -/
def okD (τ : nI2) (π : nN2) (n : Nat) (cnt : Nat → Nat) (s v : Nat) (al : Int32) : Prop := if al = 0 then τ (2, s, v) = 0 else ¬ τ (2, s, v) = 0 ∧ isRef τ π n cnt (nI (10 * s + v)) = false
def dlS (al : Int32) : Int32 := if al = 0 then 1 else 2
theorem dlS_ok (al : Int32) : dlS al = 0 ∨ dlS al = 1 ∨ dlS al = 2 := by unfold dlS; split; exact Or.inr (Or.inl rfl); exact Or.inr (Or.inr rfl)
def cnT (τ : nI2) (cnt : Nat → Nat) (s : Nat) : Nat := cntR (fun v => τ (2, s, v) == 0) (cnt s) 0
theorem k_delete (h : zC V ad σ ρ ξ M) (hV : V (0, 0, 0)) (hK : WK n cnt σ ρ) {p q al : Int32} {P : Int32 → zM → Prop} {PX : Nat → zM → Prop} (h1 : ∀ s v, IsV cnt σ s v → p = nI s → q = nI v → okD σ ρ n cnt s v al → ∀ M', zC V ad (up σ (2, s, v) (dlS al)) ρ ξ M' → P (nI (cnT (up σ (2, s, v) (dlS al)) cnt s)) M') (h2 : NoS p → PX 1 M) (h3 : ∀ s, s < 6 → p = nI s → NoV cnt σ s q → PX 2 M) (h4 : ∀ s v, IsV cnt σ s v → p = nI s → q = nI v → ¬ okD σ ρ n cnt s v al → PX 3 M) : w_X5_delete (ad (0, 0, 0)) p q al M P PX := by
  refine ⟨g_is h hV rfl, c_subject h hV hK (fun s hs hp => ⟨_, rfl, c_version h hV hK hs (fun v hq hv hne => ?_) (fun hno => h3 s hs hp hno)⟩) h2⟩
  subst hp hq
  have c6 := (hK.2.1 s hs).2.1
  have hSb := k_1 h hV hK hs
  have hVv := (v_V h hSb hv).1
  have fin : ∀ M', zC V ad (up σ (2, s, v) (dlS al)) ρ ξ M' → okD σ ρ n cnt s v al → w_X5_delete_83 (ad (0, 0, 0)) (nI s) (nI v) al P PX (some (ad (1, s, 0))) M' := fun M' h' ok => by
    have hS' := k_1 h' hV (WK_st (s := s) (v := v) (dlS_ok al) hK) hs
    exact ⟨_, rfl, g_is h' hS'.2.1 rfl, c_countThere h' hS' (h1 s v ⟨hs, hv, hne⟩ rfl rfl ok M' h')⟩
  refine ⟨fun e => ⟨_, rfl, g_i h hVv rfl rfl ⟨fun e2 => ?_, fun e2 => h4 s v ⟨hs, hv, hne⟩ rfl rfl (fun ok => e2 (by unfold okD at ok; rw [if_pos e] at ok; exact ok))⟩⟩, fun e => ⟨_, rfl, g_i h hVv rfl rfl ⟨fun e2 => h4 s v ⟨hs, hv, hne⟩ rfl rfl (fun ok => by unfold okD at ok; rw [if_neg e] at ok; exact ok.1 e2), fun e2 => ⟨g_is h hV rfl, ?_⟩⟩⟩⟩
  · have ed : dlS al = 1 := if_pos e
    refine p_i h (2, s, v) hVv (v := 1) rfl (by simp) (by simp [cell, hI, up, List.set]) fun M' h' => fin M' (by rw [ed]; exact h') (by unfold okD; rw [if_pos e]; exact e2)
  · have ed : dlS al = 2 := if_neg e
    rw [n_10]
    refine c_isReferredTo h hV hK (br_b (fun e3 => ?_) (fun e3 => h4 s v ⟨hs, hv, hne⟩ rfl rfl (fun ok => by unfold okD at ok; rw [if_neg e] at ok; rw [ok.2] at e3; cases e3)))
    refine p_i h (2, s, v) hVv (v := 2) rfl (by simp) (by simp [cell, hI, up, List.set]) fun M' h' => fin M' (by rw [ed]; exact h') (by unfold okD; rw [if_neg e]; exact ⟨e2, e3⟩)
theorem m_delete (h : zC V ad σ ρ ξ M) (hV : V (9, 0, 0)) (R : Rel n cnt τ π σ) (hK : WK n cnt τ π) {p q al : Int32} {P : Int32 → zM → Prop} (h1 : ∀ s v, IsV cnt τ s v → p = nI s → q = nI v → okD τ π n cnt s v al → ∀ M', zC V ad (up (up σ (16, 0, 0) 0) (17, 12, 6 * s + v) (dlS al + 1)) ρ ξ M' → P (nI (cnT (up τ (2, s, v) (dlS al)) cnt s)) M') (h2 : NoS p → ∀ M', zC V ad (up σ (16, 0, 0) 1) ρ ξ M' → P 0 M') (h3 : ∀ s, s < 6 → p = nI s → NoV cnt τ s q → ∀ M', zC V ad (up σ (16, 0, 0) 2) ρ ξ M' → P 0 M') (h4 : ∀ s v, IsV cnt τ s v → p = nI s → q = nI v → ¬ okD τ π n cnt s v al → ∀ M', zC V ad (up σ (16, 0, 0) 3) ρ ξ M' → P 0 M') : w_X6_delete (ad (9, 0, 0)) p q al M P := by
  have no : ∀ k : Int32, ¬ k = 0 → (∀ M', zC V ad (up σ (16, 0, 0) k) ρ ξ M' → P 0 M') → zIs M (ad (9, 0, 0)) 7 ∧ w_X6_holds (ad (9, 0, 0)) k M (fun v13 M12 => ((¬ v13 = (0 : Int32) → zGr M12 (ad (9, 0, 0)) 7 12 (fun v14 => ((al = (0 : Int32) → (w_X6_delete_35 (ad (9, 0, 0)) p q al P (2 : Int32) (((6 : Int32) * p) + q) v14 M12)) ∧ (¬ al = (0 : Int32) → (w_X6_delete_35 (ad (9, 0, 0)) p q al P (3 : Int32) (((6 : Int32) * p) + q) v14 M12))))) ∧ (v13 = (0 : Int32) → P (0 : Int32) M12))) := fun k hk hp =>
    ⟨g_is h hV rfl, p_0 h hV fun M' h' => ⟨fun _ => ⟨fun e => absurd rfl e, fun _ => hp M' h'⟩, fun e => absurd e hk⟩⟩
  refine ⟨g_is h hV rfl, m_isSubject (fun s hs hp => ⟨fun _ => ⟨g_is h hV rfl, ?_⟩, fun e => absurd e (by decide)⟩) (fun hno => ⟨fun e => absurd rfl e, fun _ => no 1 (by decide) (h2 hno)⟩)⟩
  subst hp
  refine m_isVersion h hV R hK hs (fun v hq hv hne => ⟨fun _ => ?_, fun e => absurd e (by decide)⟩) (fun hno => ⟨fun e => absurd rfl e, fun _ => no 2 (by decide) (h3 s hs rfl hno)⟩)
  subst hq
  have c6 := (hK.2.1 s hs).2.1
  have hIv : IsV cnt τ s v := ⟨hs, hv, hne⟩
  have bad : ¬ okD τ π n cnt s v al → _ := fun hno => no 3 (by decide) (h4 s v hIv rfl rfl hno)
  have good : okD τ π n cnt s v al → zIs M (ad (9, 0, 0)) 7 ∧ w_X6_holds (ad (9, 0, 0)) 0 M (fun v13 M12 => ((¬ v13 = (0 : Int32) → zGr M12 (ad (9, 0, 0)) 7 12 (fun v14 => ((al = (0 : Int32) → (w_X6_delete_35 (ad (9, 0, 0)) (nI s) (nI v) al P (2 : Int32) (((6 : Int32) * nI s) + nI v) v14 M12)) ∧ (¬ al = (0 : Int32) → (w_X6_delete_35 (ad (9, 0, 0)) (nI s) (nI v) al P (3 : Int32) (((6 : Int32) * nI s) + nI v) v14 M12))))) ∧ (v13 = (0 : Int32) → P (0 : Int32) M12))) := fun ok => by
    refine ⟨g_is h hV rfl, p_0 h hV fun M1 h1' => ⟨fun e => absurd rfl e, fun _ => ⟨fun _ => m_r h1' hV 12 ?_, fun e => absurd e (by decide)⟩⟩⟩
    have cont : ∀ t : Int32, t = dlS al + 1 → w_X6_delete_35 (ad (9, 0, 0)) (nI s) (nI v) al P t (((6 : Int32) * nI s) + nI v) (ad (10, 12, 0)) M1 := fun t ht => by
      refine st_i h1' hV 12 (6 * s + v) (n_6 s v) (show 6 * s + v < 36 by omega) fun M2 h2' => ?_
      rw [ht] at h2'
      have R2 : Rel n cnt (up τ (2, s, v) (dlS al)) π (up (up σ (16, 0, 0) 0) (17, 12, 6 * s + v) (dlS al + 1)) := Rel_st hs (fun s hs => (hK.2.1 s hs).2.1) hv (R.ofz EQz.up)
      have K2 := WK_st (s := s) (v := v) (dlS_ok al) hK
      have fin := h1 s v hIv rfl rfl ok M2 h2'
      have key : ∀ k i a, i + k = cnt s → P (nI (a + cntR (fun u => up τ (2, s, v) (dlS al) (2, s, u) == 0) k i)) M2 → w_X6_delete_42 (ad (9, 0, 0)) (nI s) (nI v) al P (k + 1) (nI a) (nI i) M2 := by
        intro k
        induction k with
        | zero =>
          intro i a hi hp
          refine m_r h2' hV 13 (a_i h2' hV 13 s rfl (show s < 6 from hs) ?_)
          rw [(R2.2.2 s hs).1]
          exact br_t (nI_le (by omega) (by omega)) hp
        | succ k ih =>
          intro i a hi hp
          unfold cntR at hp
          refine m_r h2' hV 13 (a_i h2' hV 13 s rfl (show s < 6 from hs) ?_)
          rw [(R2.2.2 s hs).1]
          refine br_f (nI_ge (by omega) (by omega)) (m_thereV h2' hV R2 K2 hs (by omega) (br_b (fun e => ?_) (fun e => ?_)))
          · unfold w_X6_delete_70
            rw [nI_1, show nI a + (0 : Int32) = nI a from nI_add a 0]
            rw [if_neg (by rw [e]; decide), Nat.zero_add] at hp
            exact ih (i + 1) a (by omega) hp
          · unfold w_X6_delete_70
            rw [nI_1, nI_1]
            rw [if_pos e, ← Nat.add_assoc] at hp
            exact ih (i + 1) (a + 1) (by omega) hp
      exact ⟨cnt s + 1, key (cnt s) 0 0 (by omega) (by rw [Nat.zero_add]; exact fin)⟩
    refine ⟨fun e => cont 2 (by unfold dlS; rw [if_pos e]; decide), fun e => cont 3 (by unfold dlS; rw [if_neg e]; decide)⟩
  refine m_thereV h hV R hK hs hv ⟨fun e => ⟨fun e2 => bad ?_, fun e2 => good ?_⟩, fun e => ⟨fun e2 => bad ?_, fun e2 => ⟨g_is h hV rfl, ?_⟩⟩⟩
  · unfold okD; rw [if_pos e]; intro q; rw [q] at e2; exact absurd e2 (by decide)
  · unfold okD; rw [if_pos e]; exact Classical.byContradiction fun q => e2 (by rw [show (τ (2, s, v) == 0) = false by simpa using q]; rfl)
  · unfold okD; rw [if_neg e]; intro q; exact e2 (by rw [show (τ (2, s, v) == 0) = false by simpa using q.1]; rfl)
  · have ht : ¬ τ (2, s, v) = 0 := fun q => by rw [q] at e2; exact absurd e2 (by decide)
    rw [n_10]
    refine m_isReferred h hV R hK (by omega) (br_b (fun e3 => good ?_) (fun e3 => bad ?_))
    · unfold okD; rw [if_neg e]; exact ⟨ht, e3⟩
    · unfold okD; rw [if_neg e]; intro q; rw [q.2] at e3; cases e3
