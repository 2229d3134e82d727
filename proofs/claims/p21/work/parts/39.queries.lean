/-! ===== the pure part: the calls that only ask ===== -/
variable {Fm : zM} {V V' : nm → Prop} {ad ad' : nm → Nat} {σ σ' τ : nI2} {ρ ρ' π : nN2} {ξ ξ' : Nat → zE} {M : zM} {x y w : nm} {n : Nat} {cnt : Nat → Nat}
/-- what a call's arguments say: no subject; no version; subject s and version v -/
def NoS (p : Int32) : Prop := ∀ s, s < 6 → p ≠ nI s
def NoV (cnt : Nat → Nat) (τ : nI2) (s : Nat) (q : Int32) : Prop := ∀ v, q = nI v → v < cnt s → τ (2, s, v) = 2
def IsV (cnt : Nat → Nat) (τ : nI2) (s v : Nat) : Prop := s < 6 ∧ v < cnt s ∧ ¬ τ (2, s, v) = 2
theorem k_versions (h : zC Fm V ad σ ρ ξ M) (hV : V (0, 0, 0)) (hK : WK n cnt σ ρ) {p : Int32} {P : Int32 → zM → Prop} {PX : Nat → zM → Prop} (h1 : ∀ s, s < 6 → p = nI s → P (nI (cnt s)) M) (h2 : NoS p → PX 1 M) : w_X5_versions (ad (0, 0, 0)) p M P PX := by
  refine ⟨g_is h hV rfl, c_subject h hV hK (fun s hs hp => ⟨_, rfl, ?_⟩) h2⟩
  have hS := k_1 h hV hK hs
  exact g_r h hS.2.1 rfl rfl ⟨g_is h (v_L h hS) rfl, l_size h (v_L h hS) hS.2.2.1 (h1 s hs hp)⟩
theorem k_number (h : zC Fm V ad σ ρ ξ M) (hV : V (0, 0, 0)) (hK : WK n cnt σ ρ) (hr : ∀ c, c < n → σ (3, c, 0) = nI c) {p q : Int32} {P : Int32 → zM → Prop} {PX : Nat → zM → Prop} (h1 : ∀ s v, IsV cnt σ s v → p = nI s → q = nI v → P (nI (ρ (2, s, v))) M) (h2 : NoS p → PX 1 M) (h3 : ∀ s, s < 6 → p = nI s → NoV cnt σ s q → PX 2 M) : w_X5_number (ad (0, 0, 0)) p q M P PX := by
  refine ⟨g_is h hV rfl, c_schema h hV hK (fun s v hs hp hq hv hne => ⟨_, rfl, ?_⟩) h2 h3⟩
  have hlt := ((hK.2.1 s hs).2.2 v hv).2
  refine g_i h (k_S h hV hK (c := ρ (2, s, v)) (by omega)) rfl rfl ?_
  show P (σ (3, ρ (2, s, v), 0)) M
  rw [hr _ hlt]
  exact h1 s v ⟨hs, hv, hne⟩ hp hq
theorem k_length (h : zC Fm V ad σ ρ ξ M) (hV : V (0, 0, 0)) (hK : WK n cnt σ ρ) (hP0 : WP n σ ρ) {p q : Int32} {P : Int32 → zM → Prop} {PX : Nat → zM → Prop} (h1 : ∀ s v, IsV cnt σ s v → p = nI s → q = nI v → P (nI (lnn σ (ρ (2, s, v)))) M) (h2 : NoS p → PX 1 M) (h3 : ∀ s, s < 6 → p = nI s → NoV cnt σ s q → PX 2 M) : w_X5_length (ad (0, 0, 0)) p q M P PX := by
  refine ⟨g_is h hV rfl, c_schema h hV hK (fun s v hs hp hq hv hne => ⟨_, rfl, ?_⟩) h2 h3⟩
  have hlt := ((hK.2.1 s hs).2.2 v hv).2
  have hVc := k_S h hV hK (c := ρ (2, s, v)) (by omega)
  have hl := hP0.lnn (c := ρ (2, s, v)) (by omega)
  refine g_r h hVc rfl rfl ⟨g_is h (s_V h hVc).2.2.1 rfl, r_count h (s_V h hVc).2.2.1 ?_⟩
  rw [(hP0 (ρ (2, s, v)) (by omega)).1.1, ← hl.1]
  exact h1 s v ⟨hs, hv, hne⟩ hp hq
theorem k_both (h : zC Fm V ad σ ρ ξ M) (hV : V (0, 0, 0)) (hK : WK n cnt σ ρ) {p q p' q' : Int32} {K : Nat → Nat → zM → Prop} {PX : Nat → zM → Prop} (h1 : ∀ s v s' v', IsV cnt σ s v → IsV cnt σ s' v' → p = nI s → q = nI v → p' = nI s' → q' = nI v' → K (ad (5, ρ (2, s, v), 0)) (ad (5, ρ (2, s', v'), 0)) M) (h2 : NoS p ∨ NoS p' → PX 1 M) (h3 : ∀ s s', s < 6 → s' < 6 → p = nI s → p' = nI s' → (NoV cnt σ s q ∨ NoV cnt σ s' q') → PX 2 M) {F : Option Nat → Option Nat → zM → Prop} (hF : ∀ a b, K a b M → F (some a) (some b) M) :
    zIs M (ad (0, 0, 0)) 6 ∧ w_X5_demandSubjects (ad (0, 0, 0)) p p' M (fun M1 => (zIs M1 (ad (0, 0, 0)) 6 ∧ w_X5_demandedSchema (ad (0, 0, 0)) p q M1 (fun v3 M2 => (zIs M2 (ad (0, 0, 0)) 6 ∧ w_X5_demandedSchema (ad (0, 0, 0)) p' q' M2 (fun v6 M5 => F v3 v6 M5) PX)) PX)) PX := by
  refine ⟨g_is h hV rfl, g_is h hV rfl, c_subject h hV hK (fun s hs hp => ⟨g_is h hV rfl, c_subject h hV hK (fun s' hs' hp' => ⟨g_is h hV rfl, ?_⟩) (fun hno => h2 (Or.inr hno))⟩) (fun hno => h2 (Or.inl hno))⟩
  refine c_schema h hV hK (fun s1 v hs1 hp1 hq hv hne => ⟨g_is h hV rfl, c_schema h hV hK (fun s2 v' hs2 hp2 hq' hv' hne' => hF _ _ (h1 s1 v s2 v' ⟨hs1, hv, hne⟩ ⟨hs2, hv', hne'⟩ hp1 hq hp2 hq')) (fun hno => absurd hp' (hno s' hs')) (fun s2 hs2 hp2 hno => h3 s1 s2 hs1 hs2 hp1 hp2 (Or.inr hno))⟩) (fun hno => absurd hp (hno s hs)) (fun s1 hs1 hp1 hno => h3 s1 s' hs1 hs' hp1 hp' (Or.inl hno))
theorem br_01 {b : Bool} {P : Int32 → zM → Prop} (h : P (bI b) M) : (bI b = 0 → P 0 M) ∧ (¬ bI b = 0 → P 1 M) :=
  br_b (fun e => by rw [e] at h; exact h) (fun e => by rw [e] at h; exact h)
theorem k_canRead (h : zC Fm V ad σ ρ ξ M) (hV : V (0, 0, 0)) (hK : WK n cnt σ ρ) {p q p' q' : Int32} {P : Int32 → zM → Prop} {PX : Nat → zM → Prop} (h1 : ∀ s v s' v', IsV cnt σ s v → IsV cnt σ s' v' → p = nI s → q = nI v → p' = nI s' → q' = nI v' → P (bI (canC σ ρ (ρ (2, s, v)) (ρ (2, s', v')))) M) (h2 : NoS p ∨ NoS p' → PX 1 M) (h3 : ∀ s s', s < 6 → s' < 6 → p = nI s → p' = nI s' → (NoV cnt σ s q ∨ NoV cnt σ s' q') → PX 2 M) : w_X5_canRead (ad (0, 0, 0)) p q p' q' M P PX := by
  refine k_both h hV hK (K := fun a b M => ∃ s v s' v', IsV cnt σ s v ∧ IsV cnt σ s' v' ∧ a = ad (5, ρ (2, s, v), 0) ∧ b = ad (5, ρ (2, s', v'), 0) ∧ w_X5_canReadSchema (some a) (some b) 0 M P) (fun s v s' v' hv hv' e1 e2 e3 e4 => ⟨s, v, s', v', hv, hv', rfl, rfl, ?_⟩) h2 h3 (fun a b ⟨_, _, _, _, _, _, _, _, hh⟩ => hh)
  have l1 := ((hK.2.1 s hv.1).2.2 v hv.2.1).2
  have l2 := ((hK.2.1 s' hv'.1).2.2 v' hv'.2.1).2
  exact c_canRead h hK.2.2 hK.1.2.2.1 (by omega) (by omega) (k_S h hV hK (by omega)) (k_S h hV hK (by omega)) (h1 s v s' v' hv hv' e1 e2 e3 e4)
theorem k_demandDraft (h : zC Fm V ad σ ρ ξ M) (hV : V (0, 0, 0)) (hK : WK n cnt σ ρ) {P : zM → Prop} {PX : Nat → zM → Prop} (h1 : zz σ n ≠ 0 → P M) (h2 : zz σ n = 0 → PX 3 M) : w_X5_demandDraft (ad (0, 0, 0)) M P PX := by
  have hVn := k_S h hV hK (Nat.le_refl n)
  have hS := (hK.2.2 n (Nat.le_refl n)).1
  have hd := hK.1.2.2.2
  refine g_r h hV rfl rfl ?_
  show zGr M (ad (5, ρ (0, 0, 0), 0)) 3 0 _
  rw [hd]
  refine g_r h hVn rfl rfl ⟨g_is h (s_V h hVn).1 rfl, l_isEmpty h (s_V h hVn).1 hS.1 ?_⟩
  by_cases e : zz σ n = 0
  · rw [if_pos e]; exact br_f (by decide) (h2 e)
  · rw [if_neg e]; exact br_t rfl (h1 e)
theorem k_isAccepted (h : zC Fm V ad σ ρ ξ M) (hV : V (0, 0, 0)) (hK : WK n cnt σ ρ) {p : Int32} {P : Int32 → zM → Prop} {PX : Nat → zM → Prop} (h1 : ∀ s, s < 6 → p = nI s → zz σ n ≠ 0 → P (bI (accF σ ρ s n (cnt s))) M) (h2 : NoS p → PX 1 M) (h3 : ∀ s, s < 6 → p = nI s → zz σ n = 0 → PX 3 M) : w_X5_isAccepted (ad (0, 0, 0)) p M P PX := by
  refine ⟨g_is h hV rfl, c_subject h hV hK (fun s hs hp => ⟨g_is h hV rfl, k_demandDraft h hV hK (fun e => ?_) (fun e => h3 s hs hp e)⟩) h2⟩
  have hVn := k_S h hV hK (Nat.le_refl n)
  have hd := hK.1.2.2.2
  have hS := k_1 h hV hK hs
  refine g_r h hV rfl rfl ⟨_, rfl, g_is h hS.2.1 rfl, ?_⟩
  show w_X3_accepts (ad (1, s, 0)) (ad (5, ρ (0, 0, 0), 0)) M _
  rw [hd]
  exact c_accepts h hS hK.2.2 hK.1.2.2.1 (fun v hv => ((hK.2.1 s hs).2.2 v hv).2) (Nat.le_refl n) hVn (h1 s hs hp e)
