/-! ===== the pure part: the calls that only ask ===== -/
variable {V V' : nm → Prop} {ad ad' : nm → Nat} {σ σ' τ : nI2} {ρ ρ' π : nN2} {ξ ξ' : Nat → zE} {M : zM} {x y w : nm} {n : Nat} {cnt : Nat → Nat}
theorem m_holds (h : zC V ad σ ρ ξ M) (hV : V (9, 0, 0)) {p : Int32} {P : Int32 → zM → Prop} (h0 : p = 0 → ∀ σ' M', EQz σ' σ → σ' (16, 0, 0) = p → zC V ad σ' ρ ξ M' → P 1 M') (h1 : ¬ p = 0 → ∀ σ' M', EQz σ' σ → σ' (16, 0, 0) = p → zC V ad σ' ρ ξ M' → P 0 M') : zIs M (ad (9, 0, 0)) 7 ∧ w_X6_holds (ad (9, 0, 0)) p M P :=
  ⟨g_is h hV rfl, p_0 h hV fun M' h' => ⟨fun e => h1 e _ M' (EQz.up) (up_s _ _ _) h', fun e => h0 e _ M' (EQz.up) (up_s _ _ _) h'⟩⟩
/-- what a call's arguments say: no subject; no version; subject s and version v -/
def NoS (p : Int32) : Prop := ∀ s, s < 6 → p ≠ nI s
def NoV (cnt : Nat → Nat) (τ : nI2) (s : Nat) (q : Int32) : Prop := ∀ v, q = nI v → v < cnt s → τ (2, s, v) = 2
def IsV (cnt : Nat → Nat) (τ : nI2) (s v : Nat) : Prop := s < 6 ∧ v < cnt s ∧ ¬ τ (2, s, v) = 2
theorem m_versions (h : zC V ad σ ρ ξ M) (hV : V (9, 0, 0)) (R : Rel n cnt τ π σ) {p : Int32} {P : Int32 → zM → Prop} (h1 : ∀ s, s < 6 → p = nI s → ∀ σ' M', EQz σ' σ → σ' (16, 0, 0) = 0 → zC V ad σ' ρ ξ M' → P (nI (cnt s)) M') (h2 : NoS p → ∀ σ' M', EQz σ' σ → σ' (16, 0, 0) = 1 → zC V ad σ' ρ ξ M' → P 0 M') : w_X6_versions (ad (9, 0, 0)) p M P := by
  refine m_isSubject (fun s hs hp => br_f (by decide) (m_holds h hV (fun _ σ' M' E e h' => ?_) (fun e => absurd rfl e))) (fun hno => br_t rfl (m_holds h hV (fun e => absurd e (by decide)) (fun _ σ' M' E e h' => br_t rfl (h2 hno σ' M' E e h'))))
  refine br_f (by decide) (m_r h' hV 13 (a_i h' hV 13 s hp (show s < 6 from hs) ?_))
  rw [((R.ofz E).2.2 s hs).1]
  exact h1 s hs hp σ' M' E e h'
theorem k_versions (h : zC V ad σ ρ ξ M) (hV : V (0, 0, 0)) (hK : WK n cnt σ ρ) {p : Int32} {P : Int32 → zM → Prop} {PX : Nat → zM → Prop} (h1 : ∀ s, s < 6 → p = nI s → P (nI (cnt s)) M) (h2 : NoS p → PX 1 M) : w_X5_versions (ad (0, 0, 0)) p M P PX := by
  refine ⟨g_is h hV rfl, c_subject h hV hK (fun s hs hp => ⟨_, rfl, ?_⟩) h2⟩
  have hS := k_1 h hV hK hs
  exact g_r h hS.2.1 rfl rfl ⟨g_is h (v_L h hS) rfl, l_size h (v_L h hS) hS.2.2.1 (h1 s hs hp)⟩
theorem m_isAsked (h : zC V ad σ ρ ξ M) (hV : V (9, 0, 0)) (R : Rel n cnt τ π σ) (hK : WK n cnt τ π) {p q : Int32} {P : Int32 → zM → Prop} (h1 : ∀ s v, IsV cnt τ s v → p = nI s → q = nI v → ∀ σ' M', EQz σ' σ → σ' (16, 0, 0) = 0 → zC V ad σ' ρ ξ M' → P 1 M') (h2 : NoS p → ∀ σ' M', EQz σ' σ → σ' (16, 0, 0) = 1 → zC V ad σ' ρ ξ M' → P 0 M') (h3 : ∀ s, s < 6 → p = nI s → NoV cnt τ s q → ∀ σ' M', EQz σ' σ → σ' (16, 0, 0) = 2 → zC V ad σ' ρ ξ M' → P 0 M') : w_X6_isAsked (ad (9, 0, 0)) p q M P := by
  refine m_isSubject (fun s hs hp => ⟨fun _ => ⟨g_is h hV rfl, ?_⟩, fun e => absurd e (by decide)⟩) (fun hno => ⟨fun e => absurd rfl e, fun _ => m_holds h hV (fun e => absurd e (by decide)) (fun _ σ' M' E e h' => h2 hno σ' M' E e h')⟩)
  subst hp
  refine m_isVersion h hV R hK hs (fun v hq hv hne => ⟨fun e => absurd e (by decide), fun _ => m_holds h hV (fun _ σ' M' E e h' => h1 s v ⟨hs, hv, hne⟩ rfl hq σ' M' E e h') (fun e => absurd rfl e)⟩) (fun hno => ⟨fun _ => m_holds h hV (fun e => absurd e (by decide)) (fun _ σ' M' E e h' => h3 s hs rfl hno σ' M' E e h'), fun e => absurd rfl e⟩)
theorem m_number (h : zC V ad σ ρ ξ M) (hV : V (9, 0, 0)) (R : Rel n cnt τ π σ) (hK : WK n cnt τ π) {p q : Int32} {P : Int32 → zM → Prop} (h1 : ∀ s v, IsV cnt τ s v → p = nI s → q = nI v → ∀ σ' M', EQz σ' σ → σ' (16, 0, 0) = 0 → zC V ad σ' ρ ξ M' → P (nI (π (2, s, v))) M') (h2 : NoS p → ∀ σ' M', EQz σ' σ → σ' (16, 0, 0) = 1 → zC V ad σ' ρ ξ M' → P 0 M') (h3 : ∀ s, s < 6 → p = nI s → NoV cnt τ s q → ∀ σ' M', EQz σ' σ → σ' (16, 0, 0) = 2 → zC V ad σ' ρ ξ M' → P 0 M') : w_X6_number (ad (9, 0, 0)) p q M P := by
  refine ⟨g_is h hV rfl, m_isAsked h hV R hK (fun s v hv hp hq σ' M' E e h' => br_f (by decide) ?_) (fun a b c d e f => br_t rfl (h2 a b c d e f)) (fun s a b c d e f g i => br_t rfl (h3 s a b c d e f g i))⟩
  subst hp hq
  have c6 := (hK.2.1 s hv.1).2.1
  refine m_r h' hV 11 (a_i h' hV 11 (6 * s + v) (n_6 s v) (show 6 * s + v < 36 by have := hv.1; have := hv.2.1; omega) ?_)
  rw [(((R.ofz E).2.2 s hv.1).2.1 v hv.2.1).1]
  exact h1 s v hv rfl rfl σ' M' E e h'
theorem m_isThere (h : zC V ad σ ρ ξ M) (hV : V (9, 0, 0)) (R : Rel n cnt τ π σ) (hK : WK n cnt τ π) {p q : Int32} {P : Int32 → zM → Prop} (h1 : ∀ s v, IsV cnt τ s v → p = nI s → q = nI v → ∀ σ' M', EQz σ' σ → σ' (16, 0, 0) = 0 → zC V ad σ' ρ ξ M' → P (bI (τ (2, s, v) == 0)) M') (h2 : NoS p → ∀ σ' M', EQz σ' σ → σ' (16, 0, 0) = 1 → zC V ad σ' ρ ξ M' → P 0 M') (h3 : ∀ s, s < 6 → p = nI s → NoV cnt τ s q → ∀ σ' M', EQz σ' σ → σ' (16, 0, 0) = 2 → zC V ad σ' ρ ξ M' → P 0 M') : w_X6_isThere (ad (9, 0, 0)) p q M P := by
  refine ⟨g_is h hV rfl, m_isAsked h hV R hK (fun s v hv hp hq σ' M' E e h' => br_f (by decide) ?_) (fun a b c d e f => br_t rfl (h2 a b c d e f)) (fun s a b c d e f g i => br_t rfl (h3 s a b c d e f g i))⟩
  subst hp hq
  have := h1 s v hv rfl rfl σ' M' E e h'
  refine m_thereV h' hV (R.ofz E) hK hv.1 hv.2.1 (br_b (fun e => ?_) (fun e => ?_))
  · rw [e] at this; exact this
  · rw [e] at this; exact this
theorem m_length (h : zC V ad σ ρ ξ M) (hV : V (9, 0, 0)) (R : Rel n cnt τ π σ) (hK : WK n cnt τ π) {p q : Int32} {P : Int32 → zM → Prop} (h1 : ∀ s v, IsV cnt τ s v → p = nI s → q = nI v → ∀ σ' M', EQz σ' σ → σ' (16, 0, 0) = 0 → zC V ad σ' ρ ξ M' → P (nI (lnn τ (π (2, s, v)))) M') (h2 : NoS p → ∀ σ' M', EQz σ' σ → σ' (16, 0, 0) = 1 → zC V ad σ' ρ ξ M' → P 0 M') (h3 : ∀ s, s < 6 → p = nI s → NoV cnt τ s q → ∀ σ' M', EQz σ' σ → σ' (16, 0, 0) = 2 → zC V ad σ' ρ ξ M' → P 0 M') : w_X6_length (ad (9, 0, 0)) p q M P := by
  refine ⟨g_is h hV rfl, m_isAsked h hV R hK (fun s v hv hp hq σ' M' E e h' => br_f (by decide) ?_) (fun a b c d e f => br_t rfl (h2 a b c d e f)) (fun s a b c d e f g i => br_t rfl (h3 s a b c d e f g i))⟩
  subst hp hq
  have c6 := (hK.2.1 s hv.1).2.1
  have hn := hK.1.2.2.1
  have hlt := ((hK.2.1 s hv.1).2.2 v hv.2.1).2
  refine m_r h' hV 8 (m_r h' hV 11 (a_i h' hV 11 (6 * s + v) (n_6 s v) (show 6 * s + v < 36 by have := hv.1; have := hv.2.1; omega) ?_))
  rw [(((R.ofz E).2.2 s hv.1).2.1 v hv.2.1).1]
  refine a_i h' hV 8 (π (2, s, v)) rfl (show π (2, s, v) < 37 by omega) ?_
  have := ((R.ofz E).2.1 (π (2, s, v)) (by omega)).2.1
  rw [ix_c hlt] at this
  rw [this]
  exact h1 s v hv rfl rfl σ' M' E e h'
theorem k_number (h : zC V ad σ ρ ξ M) (hV : V (0, 0, 0)) (hK : WK n cnt σ ρ) (hr : ∀ c, c < n → σ (3, c, 0) = nI c) {p q : Int32} {P : Int32 → zM → Prop} {PX : Nat → zM → Prop} (h1 : ∀ s v, IsV cnt σ s v → p = nI s → q = nI v → P (nI (ρ (2, s, v))) M) (h2 : NoS p → PX 1 M) (h3 : ∀ s, s < 6 → p = nI s → NoV cnt σ s q → PX 2 M) : w_X5_number (ad (0, 0, 0)) p q M P PX := by
  refine ⟨g_is h hV rfl, c_schema h hV hK (fun s v hs hp hq hv hne => ⟨_, rfl, ?_⟩) h2 h3⟩
  have hlt := ((hK.2.1 s hs).2.2 v hv).2
  refine g_i h (k_S h hV hK (c := ρ (2, s, v)) (by omega)) rfl rfl ?_
  show P (σ (3, ρ (2, s, v), 0)) M
  rw [hr _ hlt]
  exact h1 s v ⟨hs, hv, hne⟩ hp hq
theorem k_isThere (h : zC V ad σ ρ ξ M) (hV : V (0, 0, 0)) (hK : WK n cnt σ ρ) {p q : Int32} {P : Int32 → zM → Prop} {PX : Nat → zM → Prop} (h1 : ∀ s v, IsV cnt σ s v → p = nI s → q = nI v → P (bI (σ (2, s, v) == 0)) M) (h2 : NoS p → PX 1 M) (h3 : ∀ s, s < 6 → p = nI s → NoV cnt σ s q → PX 2 M) : w_X5_isThere (ad (0, 0, 0)) p q M P PX := by
  refine ⟨g_is h hV rfl, c_subject h hV hK (fun s hs hp => ⟨_, rfl, c_version h hV hK hs (fun v hq hv hne => ⟨_, rfl, ?_⟩) (fun hno => h3 s hs hp hno)⟩) h2⟩
  have := h1 s v ⟨hs, hv, hne⟩ hp hq
  refine g_i h (v_V h (k_1 h hV hK hs) hv).1 rfl rfl ⟨fun e => ?_, fun e => ?_⟩
  · rw [show (σ (2, s, v) == 0) = false by simpa using e] at this; exact this
  · rw [show (σ (2, s, v) == 0) = true by simpa using e] at this; exact this
theorem k_length (h : zC V ad σ ρ ξ M) (hV : V (0, 0, 0)) (hK : WK n cnt σ ρ) (hP0 : WP n σ ρ) {p q : Int32} {P : Int32 → zM → Prop} {PX : Nat → zM → Prop} (h1 : ∀ s v, IsV cnt σ s v → p = nI s → q = nI v → P (nI (lnn σ (ρ (2, s, v)))) M) (h2 : NoS p → PX 1 M) (h3 : ∀ s, s < 6 → p = nI s → NoV cnt σ s q → PX 2 M) : w_X5_length (ad (0, 0, 0)) p q M P PX := by
  refine ⟨g_is h hV rfl, c_schema h hV hK (fun s v hs hp hq hv hne => ⟨_, rfl, ?_⟩) h2 h3⟩
  have hlt := ((hK.2.1 s hs).2.2 v hv).2
  have hVc := k_S h hV hK (c := ρ (2, s, v)) (by omega)
  have hl := hP0.lnn (c := ρ (2, s, v)) (by omega)
  refine g_r h hVc rfl rfl ⟨g_is h (s_V h hVc).2.2.1 rfl, r_count h (s_V h hVc).2.2.1 ?_⟩
  rw [(hP0 (ρ (2, s, v)) (by omega)).1.1, ← hl.1]
  exact h1 s v ⟨hs, hv, hne⟩ hp hq
/-- two subjects and versions -/
theorem m_errorOfBoth (h : zC V ad σ ρ ξ M) (hV : V (9, 0, 0)) (R : Rel n cnt τ π σ) (hK : WK n cnt τ π) {p q p' q' : Int32} {P : Int32 → zM → Prop} (h1 : ∀ s v s' v', IsV cnt τ s v → IsV cnt τ s' v' → p = nI s → q = nI v → p' = nI s' → q' = nI v' → P 0 M) (h2 : NoS p ∨ NoS p' → P 1 M) (h3 : ∀ s s', s < 6 → s' < 6 → p = nI s → p' = nI s' → (NoV cnt τ s q ∨ NoV cnt τ s' q') → P 2 M) : w_X6_errorOfBoth (ad (9, 0, 0)) p q p' q' M P := by
  refine m_isSubject (fun s hs hp => br_f (by decide) (m_isSubject (fun s' hs' hp' => br_f (by decide) ⟨fun _ => ⟨g_is h hV rfl, ?_⟩, fun e => absurd e (by decide)⟩) (fun hno => br_t rfl ⟨fun e => absurd rfl e, fun _ => h2 (Or.inr hno)⟩))) (fun hno => br_t rfl ⟨fun e => absurd rfl e, fun _ => h2 (Or.inl hno)⟩)
  subst hp hp'
  refine m_isVersion h hV R hK hs (fun v hq hv hne => br_f (by decide) ⟨g_is h hV rfl, m_isVersion h hV R hK hs' (fun v' hq' hv' hne' => br_f (by decide) (h1 s v s' v' ⟨hs, hv, hne⟩ ⟨hs', hv', hne'⟩ rfl hq rfl hq')) (fun hno => br_t rfl (h3 s s' hs hs' rfl rfl (Or.inr hno)))⟩) (fun hno => br_t rfl (h3 s s' hs hs' rfl rfl (Or.inl hno)))
theorem k_both (h : zC V ad σ ρ ξ M) (hV : V (0, 0, 0)) (hK : WK n cnt σ ρ) {p q p' q' : Int32} {K : Nat → Nat → zM → Prop} {PX : Nat → zM → Prop} (h1 : ∀ s v s' v', IsV cnt σ s v → IsV cnt σ s' v' → p = nI s → q = nI v → p' = nI s' → q' = nI v' → K (ad (5, ρ (2, s, v), 0)) (ad (5, ρ (2, s', v'), 0)) M) (h2 : NoS p ∨ NoS p' → PX 1 M) (h3 : ∀ s s', s < 6 → s' < 6 → p = nI s → p' = nI s' → (NoV cnt σ s q ∨ NoV cnt σ s' q') → PX 2 M) {F : Option Nat → Option Nat → zM → Prop} (hF : ∀ a b, K a b M → F (some a) (some b) M) :
    zIs M (ad (0, 0, 0)) 6 ∧ w_X5_demandSubjects (ad (0, 0, 0)) p p' M (fun M1 => (zIs M1 (ad (0, 0, 0)) 6 ∧ w_X5_demandedSchema (ad (0, 0, 0)) p q M1 (fun v3 M2 => (zIs M2 (ad (0, 0, 0)) 6 ∧ w_X5_demandedSchema (ad (0, 0, 0)) p' q' M2 (fun v6 M5 => F v3 v6 M5) PX)) PX)) PX := by
  refine ⟨g_is h hV rfl, g_is h hV rfl, c_subject h hV hK (fun s hs hp => ⟨g_is h hV rfl, c_subject h hV hK (fun s' hs' hp' => ⟨g_is h hV rfl, ?_⟩) (fun hno => h2 (Or.inr hno))⟩) (fun hno => h2 (Or.inl hno))⟩
  refine c_schema h hV hK (fun s1 v hs1 hp1 hq hv hne => ⟨g_is h hV rfl, c_schema h hV hK (fun s2 v' hs2 hp2 hq' hv' hne' => hF _ _ (h1 s1 v s2 v' ⟨hs1, hv, hne⟩ ⟨hs2, hv', hne'⟩ hp1 hq hp2 hq')) (fun hno => absurd hp' (hno s' hs')) (fun s2 hs2 hp2 hno => h3 s1 s2 hs1 hs2 hp1 hp2 (Or.inr hno))⟩) (fun hno => absurd hp (hno s hs)) (fun s1 hs1 hp1 hno => h3 s1 s' hs1 hs' hp1 hp' (Or.inl hno))
theorem m_canOf (h : zC V ad σ ρ ξ M) (hV : V (9, 0, 0)) (R : Rel n cnt τ π σ) (hK : WK n cnt τ π) {s v s' v' : Nat} (hv : IsV cnt τ s v) (hv' : IsV cnt τ s' v') {P : Int32 → zM → Prop} (hP : ∀ σ' M', EQx σ' σ → zC V ad σ' ρ ξ M' → P (bI (canC τ π (π (2, s, v)) (π (2, s', v')))) M') : zIs M (ad (9, 0, 0)) 7 ∧ w_X6_canOf (ad (9, 0, 0)) (nI s) (nI v) (nI s') (nI v') M P := by
  have hn := hK.1.2.2.1
  obtain ⟨a1, a2, a3⟩ := hv
  obtain ⟨b1, b2, b3⟩ := hv'
  have c6 := (hK.2.1 s a1).2.1
  have d6 := (hK.2.1 s' b1).2.1
  have l1 := ((hK.2.1 s a1).2.2 v a2).2
  have l2 := ((hK.2.1 s' b1).2.2 v' b2).2
  refine ⟨g_is h hV rfl, g_is h hV rfl, m_tells h hV R hn hK.2.2 (fun s hs => (hK.2.1 s hs).2.1) fun σ' M' E D h' => ?_⟩
  have R' := R.of E
  have d := D (π (2, s, v)) (π (2, s', v')) (by omega) (by omega) (by rw [ix_c l1, ix_c l2]; omega)
  rw [ix_c l1, ix_c l2] at d
  refine m_r h' hV 10 (m_r h' hV 11 (a_i h' hV 11 (6 * s + v) (n_6 s v) (show 6 * s + v < 36 by omega) (m_r h' hV 11 (a_i h' hV 11 (6 * s' + v') (n_6 s' v') (show 6 * s' + v' < 36 by omega) ?_))))
  rw [((R'.2.2 s a1).2.1 v a2).1, ((R'.2.2 s' b1).2.1 v' b2).1]
  refine a_i h' hV 10 (37 * π (2, s, v) + π (2, s', v')) (n_ma 37 _ _) (show 37 * π (2, s, v) + π (2, s', v') < 1369 by omega) ?_
  rw [d]
  exact ⟨bI_01 _, hP σ' M' E h'⟩
theorem br_01 {b : Bool} {P : Int32 → zM → Prop} (h : P (bI b) M) : (bI b = 0 → P 0 M) ∧ (¬ bI b = 0 → P 1 M) :=
  br_b (fun e => by rw [e] at h; exact h) (fun e => by rw [e] at h; exact h)
theorem m_canRead (h : zC V ad σ ρ ξ M) (hV : V (9, 0, 0)) (R : Rel n cnt τ π σ) (hK : WK n cnt τ π) {p q p' q' : Int32} {P : Int32 → zM → Prop} (h1 : ∀ s v s' v', IsV cnt τ s v → IsV cnt τ s' v' → p = nI s → q = nI v → p' = nI s' → q' = nI v' → ∀ σ' M', EQz σ' σ → σ' (16, 0, 0) = 0 → zC V ad σ' ρ ξ M' → P (bI (canC τ π (π (2, s, v)) (π (2, s', v')))) M') (h2 : NoS p ∨ NoS p' → ∀ σ' M', EQz σ' σ → σ' (16, 0, 0) = 1 → zC V ad σ' ρ ξ M' → P 0 M') (h3 : ∀ s s', s < 6 → s' < 6 → p = nI s → p' = nI s' → (NoV cnt τ s q ∨ NoV cnt τ s' q') → ∀ σ' M', EQz σ' σ → σ' (16, 0, 0) = 2 → zC V ad σ' ρ ξ M' → P 0 M') : w_X6_canRead (ad (9, 0, 0)) p q p' q' M P := by
  refine ⟨g_is h hV rfl, m_errorOfBoth h hV R hK (fun s v s' v' hv hv' e1 e2 e3 e4 => ?_) (fun hno => m_holds h hV (fun e => absurd e (by decide)) (fun _ σ' M' E e h' => br_t rfl (h2 hno σ' M' E e h'))) (fun s s' hs hs' e1 e2 hno => m_holds h hV (fun e => absurd e (by decide)) (fun _ σ' M' E e h' => br_t rfl (h3 s s' hs hs' e1 e2 hno σ' M' E e h')))⟩
  refine m_holds h hV (fun _ σ' M' E e h' => br_f (by decide) ?_) (fun e => absurd rfl e)
  subst e1 e2 e3 e4
  exact m_canOf h' hV (R.ofz E) hK hv hv' fun σ'' M'' E' h'' => br_01 (h1 s v s' v' hv hv' rfl rfl rfl rfl σ'' M'' (E'.z.trans E) ((E' _ (by simp [scr])).trans e) h'')
theorem k_canRead (h : zC V ad σ ρ ξ M) (hV : V (0, 0, 0)) (hK : WK n cnt σ ρ) {p q p' q' : Int32} {P : Int32 → zM → Prop} {PX : Nat → zM → Prop} (h1 : ∀ s v s' v', IsV cnt σ s v → IsV cnt σ s' v' → p = nI s → q = nI v → p' = nI s' → q' = nI v' → P (bI (canC σ ρ (ρ (2, s, v)) (ρ (2, s', v')))) M) (h2 : NoS p ∨ NoS p' → PX 1 M) (h3 : ∀ s s', s < 6 → s' < 6 → p = nI s → p' = nI s' → (NoV cnt σ s q ∨ NoV cnt σ s' q') → PX 2 M) : w_X5_canRead (ad (0, 0, 0)) p q p' q' M P PX := by
  refine k_both h hV hK (K := fun a b M => ∃ s v s' v', IsV cnt σ s v ∧ IsV cnt σ s' v' ∧ a = ad (5, ρ (2, s, v), 0) ∧ b = ad (5, ρ (2, s', v'), 0) ∧ w_X5_canReadSchema (some a) (some b) 0 M P) (fun s v s' v' hv hv' e1 e2 e3 e4 => ⟨s, v, s', v', hv, hv', rfl, rfl, ?_⟩) h2 h3 (fun a b ⟨_, _, _, _, _, _, _, _, hh⟩ => hh)
  have l1 := ((hK.2.1 s hv.1).2.2 v hv.2.1).2
  have l2 := ((hK.2.1 s' hv'.1).2.2 v' hv'.2.1).2
  exact c_canRead h hK.2.2 hK.1.2.2.1 (by omega) (by omega) (k_S h hV hK (by omega)) (k_S h hV hK (by omega)) (h1 s v s' v' hv hv' e1 e2 e3 e4)
theorem m_isAccepted (h : zC V ad σ ρ ξ M) (hV : V (9, 0, 0)) (R : Rel n cnt τ π σ) (hK : WK n cnt τ π) (hM : WM τ) {p : Int32} {P : Int32 → zM → Prop} (h1 : ∀ s, s < 6 → p = nI s → zz τ n ≠ 0 → ∀ σ' M', EQz σ' σ → σ' (16, 0, 0) = 0 → zC V ad σ' ρ ξ M' → P (bI (accF τ π s n (cnt s))) M') (h2 : NoS p → ∀ σ' M', EQz σ' σ → σ' (16, 0, 0) = 1 → zC V ad σ' ρ ξ M' → P 0 M') (h3 : ∀ s, s < 6 → p = nI s → zz τ n = 0 → ∀ σ' M', EQz σ' σ → σ' (16, 0, 0) = 2 → zC V ad σ' ρ ξ M' → P 0 M') : w_X6_isAccepted (ad (9, 0, 0)) p M P := by
  have r1 := (R.2.1 n (Nat.le_refl n)).1
  have z5 := (hK.2.2 n (Nat.le_refl n)).1.2
  rw [ix_n] at r1
  refine m_isSubject (fun s hs hp => ⟨fun _ => m_r h hV 7 (a_i h hV 7 36 rfl (show 36 < 37 by omega) ?_), fun e => absurd e (by decide)⟩) (fun hno => ⟨fun e => absurd rfl e, fun _ => m_holds h hV (fun e => absurd e (by decide)) (fun _ σ' M' E e h' => br_t rfl (h2 hno σ' M' E e h'))⟩)
  rw [r1]
  refine ⟨fun e => m_holds h hV (fun _ σ' M' E e2 h' => br_f (by decide) ⟨g_is h' hV rfl, ?_⟩) (fun e => absurd rfl e), fun e => m_holds h hV (fun e => absurd e (by decide)) (fun _ σ' M' E e2 h' => br_t rfl (h3 s hs hp ((nI_eq (b := 0) (by omega) (by omega)).1 e) σ' M' E e2 h'))⟩
  rw [hp]
  exact m_isAcceptedBy h' hV (R.ofz E) hK hM hs fun σ'' M'' E' h'' => br_01 (h1 s hs hp (fun q => e (by rw [q]; rfl)) σ'' M'' (E'.z.trans E) ((E' _ (by simp [scr])).trans e2) h'')
theorem k_demandDraft (h : zC V ad σ ρ ξ M) (hV : V (0, 0, 0)) (hK : WK n cnt σ ρ) {P : zM → Prop} {PX : Nat → zM → Prop} (h1 : zz σ n ≠ 0 → P M) (h2 : zz σ n = 0 → PX 3 M) : w_X5_demandDraft (ad (0, 0, 0)) M P PX := by
  have hVn := k_S h hV hK (Nat.le_refl n)
  have hS := (hK.2.2 n (Nat.le_refl n)).1
  have hd := hK.1.2.2.2
  refine g_r h hV rfl rfl ?_
  show zGr M (ad (5, ρ (0, 0, 0), 0)) 3 0 _
  rw [hd]
  refine g_r h hVn rfl rfl ⟨g_is h (s_V h hVn).1 rfl, l_isEmpty h (s_V h hVn).1 hS.1 ?_⟩
  by_cases e : zz σ n = 0
  · rw [if_pos e]; exact br_f (by decide) (h2 e)
  · rw [if_neg e]; exact br_t rfl (h1 e)
theorem k_isAccepted (h : zC V ad σ ρ ξ M) (hV : V (0, 0, 0)) (hK : WK n cnt σ ρ) {p : Int32} {P : Int32 → zM → Prop} {PX : Nat → zM → Prop} (h1 : ∀ s, s < 6 → p = nI s → zz σ n ≠ 0 → P (bI (accF σ ρ s n (cnt s))) M) (h2 : NoS p → PX 1 M) (h3 : ∀ s, s < 6 → p = nI s → zz σ n = 0 → PX 3 M) : w_X5_isAccepted (ad (0, 0, 0)) p M P PX := by
  refine ⟨g_is h hV rfl, c_subject h hV hK (fun s hs hp => ⟨g_is h hV rfl, k_demandDraft h hV hK (fun e => ?_) (fun e => h3 s hs hp e)⟩) h2⟩
  have hVn := k_S h hV hK (Nat.le_refl n)
  have hd := hK.1.2.2.2
  have hS := k_1 h hV hK hs
  refine g_r h hV rfl rfl ⟨_, rfl, g_is h hS.2.1 rfl, ?_⟩
  show w_X3_accepts (ad (1, s, 0)) (ad (5, ρ (0, 0, 0), 0)) M _
  rw [hd]
  exact c_accepts h hS hK.2.2 hK.1.2.2.1 (fun v hv => ((hK.2.1 s hs).2.2 v hv).2) (Nat.le_refl n) hVn (h1 s hs hp e)
