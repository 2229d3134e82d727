/-! ===== the pure part: register in the class ===== -/
variable {Fm : zM} {V V' : nm → Prop} {ad ad' : nm → Nat} {σ σ' τ τ' : nI2} {ρ ρ' π : nN2} {ξ ξ' : Nat → zE} {M : zM} {x y w : nm} {n : Nat} {cnt : Nat → Nat}
/-- a bound on the names -/
def Bd (n : Nat) (cnt : Nat → Nat) (σ : nI2) (x : nm) : Prop := x.1 ≤ 13 ∧ (x.1 = 2 ∨ x.1 = 3 → x.2.1 ≤ 8 + n) ∧ (x.1 = 4 → x.2.2 < cnt x.2.1) ∧ (x.1 = 5 → x.2.1 ≤ n) ∧ (x.1 = 6 ∨ x.1 = 7 → x.2.1 ≤ 3 + n) ∧ (x.1 = 8 → x.2.1 ≤ n ∧ x.2.2 < zz σ x.2.1) ∧ (11 ≤ x.1 → x.2 = (0, 0))
theorem Bd.nS (h : Bd n cnt σ y) (h2 : nS (n + 1) y) : False := by
  obtain ⟨b1, b2, b3, b4, b5, b6, b7⟩ := h
  rcases h2 with rfl | rfl | rfl | rfl | rfl
  · have := b4 rfl; simp only at this; omega
  · have := b5 (Or.inl rfl); simp only at this; omega
  · have := b5 (Or.inr rfl); simp only at this; omega
  · have := b2 (Or.inl rfl); simp only at this; omega
  · have := b2 (Or.inr rfl); simp only at this; omega
/-- the ints once a version was put behind a subject's others -/
def vaI (σ : nI2) (s k : Nat) : nI2 := up (up (up σ (2, s, k) 0) (6, 2 + s, 0) (up σ (2, s, k) 0 (6, 2 + s, 0) + 1)) (7, 2 + s, 0) (nI (k + 1))
theorem vaI_n {s k : Nat} (h1 : w ≠ (2, s, k)) (h2 : w ≠ (6, 2 + s, 0)) (h3 : w ≠ (7, 2 + s, 0)) : vaI σ s k w = σ w := by
  unfold vaI; rw [up_n _ _ h3, up_n _ _ h2, up_n _ _ h1]
theorem v_add (h : zC Fm V ad σ ρ ξ M) {s k i : Nat} (hs : s < 6) (hV14 : V (14, 0, 0)) (hu : ∀ y, V y → y.1 = 14 → y = (14, 0, 0)) (hξ : ξ 14 = zO 5 [.null, .int 0]) (hVi : V (5, i, 0)) (hVl : V (2, 2 + s, 0)) (hL : Ls σ ρ (2 + s) k) (hk : k < 6) (hno : ¬ V (4, s, k)) {P : zM → Prop}
    (hP : ∀ M' V' ad' ρ' ξ', (∀ y, V' y ↔ y = (4, s, k) ∨ (V y ∧ y.1 ≠ 14)) → (∀ y, y ≠ (3, 2 + s, 0) → y ≠ (4, s, k) → ad' y = ad y) → (∀ w, w ≠ (4, 2 + s, k) → w ≠ (5, 2 + s, 0) → w ≠ (2, s, k) → ρ' w = ρ w) → ρ' (2, s, k) = i → Ls (vaI σ s k) ρ' (2 + s) (k + 1) → (∀ q, q ≠ 14 → ξ' q = ξ q) → zC Fm V' ad' (vaI σ s k) ρ' ξ' M' → P M') :
    w_X4_init (ad (14, 0, 0)) (ad (5, i, 0)) M (fun M25 => (zIs M25 (ad (2, 2 + s, 0)) 0 ∧ w_Jx4a65c_add_9ea2d (ad (2, 2 + s, 0)) (ad (14, 0, 0)) M25 (fun _ M26 => P M26))) := by
  refine p_x h (by omega) hV14 hu hξ (by simp) fun M1 h1 => p_x h1 (ci := 5) (fs := [.ref (ad (5, i, 0)), .int 0]) (by omega) hV14 hu (ux_s _ _ _) (by simp) fun M2 h2 => ?_
  obtain ⟨ξ2, x14, xn, h2⟩ : ∃ ξ2 : Nat → zE, ξ2 14 = zO 5 [.ref (ad (5, i, 0)), .int 0] ∧ (∀ q, q ≠ 14 → ξ2 q = ξ q) ∧ zC Fm V ad σ ρ ξ2 M2 := ⟨_, ux_s _ _ _, fun q hq => (ux_n _ _ hq).trans (ux_n _ _ hq), h2⟩
  have c4 : can (4, s, k) := ⟨fun q => absurd rfl q, fun q => by simp at q⟩
  have h3 := (h2.offI (2, s, k) 0 hno c4).offN (2, s, k) i (by simp) hno
  have h4 := h3.turn (k := 14) (x := (4, s, k)) (by omega) hV14 hu (by rw [x14]; exact zO_ne) hno (by
    rw [x14]
    simp only [cell]
    rw [up_s, up_s, up_n _ _ (fun e => by cases e)]) (fun y hy => by
    have e0 : up ρ (2, s, k) i (2, s, k) = i := up_s _ _ _
    simp only [refs] at hy
    rw [e0] at hy
    rw [hy]; exact hVi) c4
  have el2 : el (2 + s) k = (4, s, k) := el_2 hs k
  have e2 : up ad (4, s, k) (ad (14, 0, 0)) (2, 2 + s, 0) = ad (2, 2 + s, 0) := up_n _ _ (fun e => by cases e)
  have e4 : up ad (4, s, k) (ad (14, 0, 0)) (4, s, k) = ad (14, 0, 0) := up_s _ _ _
  have hVl' : (fun y : nm => y = (4, s, k) ∨ (V y ∧ y.1 ≠ 14)) (2, 2 + s, 0) := Or.inr ⟨hVl, by simp⟩
  have i1 := g_is h4 hVl' rfl
  rw [e2] at i1
  refine ⟨i1, ?_⟩
  have add := l_add h4 hVl' (l := 2 + s) (n := k) (Ls_of (up_n _ _ (fun e => by cases e)) (fun j => up_n _ _ (fun e => by cases e)) (up_n _ _ (fun e => by cases e)) hL) (by omega) (by rw [el2]; exact Or.inl rfl) (P := fun _ M26 => P M26) (fun M3 ad3 ρ3 a3 r3 l3 h5 => ?_)
  · rw [el2, e2, e4] at add; exact add
  · exact hP M3 _ ad3 ρ3 ξ2 (fun y => Iff.rfl) (fun y y1 y2 => (a3 y y1).trans (up_n _ _ y2)) (fun w w1 w2 w3 => (r3 w w1 w2).trans (up_n _ _ w3)) ((r3 _ (fun e => by cases e) (fun e => by cases e)).trans (up_s _ _ _)) l3 xn h5
theorem emS_n {c : Nat} (h1 : w ≠ (6, 8 + c, 0)) (h2 : w ≠ (7, 8 + c, 0)) (h3 : w ≠ (4, 3 + c, 0)) : emS σ c w = σ w := by
  unfold emS; rw [up_n _ _ h3, up_n _ _ h2, up_n _ _ h1]
theorem tkI_n {w : nm} (h1 : w.1 ≠ 3) (h2 : (w.1 ≠ 6 ∧ w.1 ≠ 7) ∨ (w.2.1 ≠ 1 ∧ w.2.1 ≠ 8 + (n + 1))) (h3 : (w.1 ≠ 4 ∧ w.1 ≠ 5) ∨ w.2.1 ≠ 3 + (n + 1)) : tkI σ n w = σ w := by
  unfold tkI
  rw [ovI_n (Or.inl h1) h3 (by omega)]
  unfold tk0
  have e : ∀ k i, (k = 3 ∨ ((k = 6 ∨ k = 7) ∧ i = 1)) → w ≠ (k, i, 0) := fun k i hk e => by rw [e] at h1 h2; simp only at h1 h2; omega
  rw [up_n _ _ (e _ _ (by simp)), up_n _ _ (e _ _ (by simp)), up_n _ _ (e _ _ (by simp))]
theorem k_register (h : zC Fm V ad σ ρ ξ M) (hV : V (0, 0, 0)) (hK : WK n cnt σ ρ) (hz : V (13, 0, 0)) (hz2 : ξ 13 = zN) (hB : ∀ y, V y → Bd n cnt σ y) (hT : ∀ s, s < 6 → cnt s < 6 → n < 36) {p : Int32} {P : Int32 → zM → Prop} {PX : Nat → zM → Prop}
    (h1 : ∀ s v, s < 6 → p = nI s → zz σ n ≠ 0 → lowS σ ρ s (cnt s) n = some v → ∀ M', zC Fm V ad (emS σ n) (clr ρ (8 + n) (zz σ n)) ξ M' → P (nI v) M')
    (h2 : NoS p → PX 1 M)
    (h3 : ∀ s, s < 6 → p = nI s → (zz σ n = 0 ∨ (lowS σ ρ s (cnt s) n = none ∧ (cnt s = 6 ∨ accF σ ρ s n (cnt s) = false))) → PX 3 M)
    (h4 : ∀ s i, s < 6 → p = nI s → zz σ n ≠ 0 → lowS σ ρ s (cnt s) n = none → cnt s < 6 → accF σ ρ s n (cnt s) = true → i < n → numS σ n = some i → ∀ M' V' ad' ρ' ξ', (∀ y, V' y ↔ y = (4, s, cnt s) ∨ V y) → (∀ y, y ≠ (3, 2 + s, 0) → y ≠ (4, s, cnt s) → y.1 < 14 → ad' y = ad y) → (∀ w, w ≠ (4, 2 + s, cnt s) → w ≠ (5, 2 + s, 0) → w ≠ (2, s, cnt s) → ρ' w = clr ρ (8 + n) (zz σ n) w) → ρ' (2, s, cnt s) = i → Ls (vaI (emS σ n) s (cnt s)) ρ' (2 + s) (cnt s + 1) → (∀ q, q < 14 → ξ' q = ξ q) → zC Fm V' ad' (vaI (emS σ n) s (cnt s)) ρ' ξ' M' → P (nI (cnt s)) M')
    (h5 : ∀ s, s < 6 → p = nI s → zz σ n ≠ 0 → lowS σ ρ s (cnt s) n = none → cnt s < 6 → accF σ ρ s n (cnt s) = true → n < 36 → numS σ n = none → ∀ M' V' ad' ρ' ξ', (∀ y, V' y ↔ y = (4, s, cnt s) ∨ nS (n + 1) y ∨ V y) → (∀ y, ¬ nS (n + 1) y → y ≠ (3, 1, 0) → y ≠ (3, 2 + s, 0) → y ≠ (4, s, cnt s) → y.1 < 14 → ad' y = ad y) →
      (∀ w : nm, w ≠ (4, 1, n) → w ≠ (5, 1, 0) → w ≠ (0, 0, 0) → ((w.1 ≠ 4 ∧ w.1 ≠ 5) ∨ w.2.1 ≠ 8 + (n + 1)) → w ≠ (4, 2 + s, cnt s) → w ≠ (5, 2 + s, 0) → w ≠ (2, s, cnt s) → ρ' w = ρ w) → ρ' (0, 0, 0) = n + 1 → ρ' (2, s, cnt s) = n → Ls (vaI (tkI σ n) s (cnt s)) ρ' 1 (n + 1) → Ls (vaI (tkI σ n) s (cnt s)) ρ' (2 + s) (cnt s + 1) → Zs (vaI (tkI σ n) s (cnt s)) ρ' (n + 1) → (∀ q, q < 14 → ξ' q = ξ q) → zC Fm V' ad' (vaI (tkI σ n) s (cnt s)) ρ' ξ' M' → P (nI (cnt s)) M') : w_X5_register (ad (0, 0, 0)) p M P PX := by
  obtain ⟨⟨l0, l1, hn, hd⟩, hsub, hW⟩ := id hK
  have hVn := k_S h hV hK (Nat.le_refl n)
  have hSn := (hW n (Nat.le_refl n)).1
  refine ⟨g_is h hV rfl, c_subject h hV hK (fun s hs hp => ⟨g_is h hV rfl, k_demandDraft h hV hK (fun z0 => g_r h hV rfl rfl ⟨_, rfl, ?_⟩) (fun z0 => h3 s hs hp (Or.inl z0))⟩) h2⟩
  have hS := k_1 h hV hK hs
  have k6 := hS.2.2.2.1
  have hLs := v_L h hS
  have hlt : ∀ v, v < cnt s → ρ (2, s, v) < n := fun v hv => ((hsub s hs).2.2 v hv).2
  show zIs M (ad (1, s, 0)) 4 ∧ w_X3_lowestLike (ad (1, s, 0)) (ad (5, ρ (0, 0, 0), 0)) M _
  rw [hd]
  refine ⟨g_is h hS.2.1 rfl, c_lowestLike h hS hW hlt (Nat.le_refl n) hVn ?_⟩
  cases el : lowS σ ρ s (cnt s) n with
  | some v =>
    have hv := lk_some _ _ _ el
    refine ⟨fun e => absurd e (nI_m1 (by omega)), fun _ => g_r h hV rfl rfl ?_⟩
    show zIs M (ad (5, ρ (0, 0, 0), 0)) 3 ∧ w_X2_empty (ad (5, ρ (0, 0, 0), 0)) M _
    rw [hd]
    exact ⟨g_is h hVn rfl, s_empty h hVn hSn fun M1 g1 => h1 s v hs hp z0 el M1 g1⟩
  | none =>
    refine ⟨fun _ => g_r h hS.2.1 rfl rfl ⟨g_is h hLs rfl, l_size h hLs hS.2.2.1 (pk_le 6 (cnt s) (fun e6 => h3 s hs hp (Or.inr ⟨el, Or.inl (by omega)⟩)) (fun e6 => g_r h hV rfl rfl ?_))⟩, fun e => absurd rfl e⟩
    show zIs M (ad (1, s, 0)) 4 ∧ w_X3_accepts (ad (1, s, 0)) (ad (5, ρ (0, 0, 0), 0)) M _
    rw [hd]
    have k5 : cnt s < 6 := by omega
    have n36 := hT s hs k5
    refine ⟨g_is h hS.2.1 rfl, c_accepts h hS hW hn hlt (Nat.le_refl n) hVn (br_n (fun e => g_r h hS.2.1 rfl rfl fun q hq => ?_) (fun e => h3 s hs hp (Or.inr ⟨el, Or.inr e⟩)))⟩
    have hB14 : ∀ y, V y → y.1 ≠ 14 := fun y hy => by have := (hB y hy).1; omega
    have g1 := h.tmp (k := 14) (e := zO 5 [.null, .int 0]) (by omega) hB14 hq
    have e0 : up ad (14, 0, 0) q (0, 0, 0) = ad (0, 0, 0) := up_n _ _ (fun e => by cases e)
    have e14 : up ad (14, 0, 0) q (14, 0, 0) = q := up_s _ _ _
    have e2 : up ad (14, 0, 0) q (2, 2 + s, 0) = ad (2, 2 + s, 0) := up_n _ _ (fun e => by cases e)
    have i1 := g_is g1 (x := (0, 0, 0)) (Or.inr hV) rfl
    rw [e0] at i1
    refine ⟨i1, ?_⟩
    have hno4 : ¬ V (4, s, cnt s) := fun hq => by have := (hB _ hq).2.2.1 rfl; simp only at this; omega
    have ns4 : ∀ y, nS (n + 1) y → y.1 ≠ 4 ∧ y.1 < 14 := fun y hy => by rcases hy with e | e | e | e | e <;> (rw [e]; simp)
    have kt := k_take g1 (Or.inr hV) hK (Or.inr hz) ((ux_n _ _ (by omega)).trans hz2) (fun y hy hq => hq.elim (fun e => by have := (ns4 y hy).2; rw [e] at this; simp at this) (fun hq => (hB y hq).nS hy)) (fun y hy => hy.elim (fun e => by rw [e]; simp) (fun hq => by have := (hB y hq).1; omega)) n36
      (P := fun v22 M21 => zDf v22 (fun a23 => w_X4_init q a23 M21 (fun M25 => (zIs M25 (ad (2, 2 + s, 0)) 0 ∧ w_Jx4a65c_add_9ea2d (ad (2, 2 + s, 0)) q M25 (fun v27 M26 => P (nI (cnt s)) M26))))) (fun i hi ei M2 g2 => ⟨_, rfl, ?_⟩) (fun ei M2 V2 ad2 ρ2 ξ2 v2 a2 r2 r20 l2 z2 x2 g2 => ⟨_, rfl, ?_⟩)
    · rw [e0] at kt; exact kt
    · have va := v_add g2 (s := s) (k := cnt s) (i := i) hs (Or.inl rfl) (fun y hy hy1 => hy.elim id (fun hq => absurd hy1 (hB14 y hq))) (ux_s _ _ _) (Or.inr (k_S h hV hK (by omega))) (Or.inr hLs) (Ls_of (emS_n (fun e => by cases e) (fun e => by have := congrArg (fun w : nm => w.2.1) e; simp only at this; omega) (fun e => by cases e)) (fun j => clr_n _ _ _ (Or.inr (by simp only; omega))) (clr_n _ _ _ (Or.inl (by simp))) hS.2.2.1) k5 (fun hq => hq.elim (fun e => by cases e) hno4) (P := fun M26 => P (nI (cnt s)) M26)
        (fun M3 V3 ad3 ρ3 ξ3 v3 a3 r3 i3 l3 x3 g3 => h4 s i hs hp z0 el k5 e hi ei M3 V3 ad3 ρ3 ξ3 (fun y => ?_) (fun y y1 y2 y3 => (a3 y y1 y2).trans (up_n _ _ (fun e => by rw [e] at y3; simp at y3))) r3 i3 l3 (fun q hq => (x3 q (by omega)).trans (ux_n _ _ (by omega))) g3)
      · rw [e14, e2] at va; exact va
      · rw [v3]
        constructor
        · rintro (e | ⟨e | e, e1⟩)
          · exact Or.inl e
          · rw [e] at e1; exact absurd rfl e1
          · exact Or.inr e
        · rintro (e | e)
          · exact Or.inl e
          · exact Or.inr ⟨Or.inr e, hB14 y e⟩
    · have nS3 : ∀ j k, ¬ nS (n + 1) (14, j, k) := fun j k hq => by have := (ns4 _ hq).2; simp at this
      have nS5 : ¬ nS (n + 1) (5, n, 0) := fun q => by
        rcases q with e | e | e | e | e
        · have := congrArg (fun w : nm => w.2.1) e; simp only at this; omega
        · cases e
        · cases e
        · cases e
        · cases e
      have nS2 : ¬ nS (n + 1) (2, 2 + s, 0) := fun q => by
        rcases q with e | e | e | e | e
        · cases e
        · cases e
        · cases e
        · have := congrArg (fun w : nm => w.2.1) e; simp only at this; omega
        · cases e
      have b14 : ad2 (14, 0, 0) = q := (a2 _ (nS3 0 0) (fun e => by cases e) (by simp)).trans e14
      have b2 : ad2 (2, 2 + s, 0) = ad (2, 2 + s, 0) := (a2 _ nS2 (fun e => by cases e) (by simp)).trans e2
      have b5 : ad2 (5, n, 0) = up ad (14, 0, 0) q (5, n, 0) := a2 _ nS5 (fun e => by cases e) (by simp)
      have va := v_add g2 (s := s) (k := cnt s) (i := n) hs ((v2 _).2 (Or.inr (Or.inl rfl))) (fun y hy hy1 => ((v2 y).1 hy).elim (fun hq => absurd hy1 (by have := (ns4 y hq).2; omega)) (fun hy => hy.elim id (fun hq => absurd hy1 (hB14 y hq)))) ((x2 14 (by omega)).trans (ux_s _ _ _)) ((v2 _).2 (Or.inr (Or.inr hVn))) ((v2 _).2 (Or.inr (Or.inr hLs))) (Ls_of (tkI_n (by simp) (Or.inr (by simp only; omega)) (Or.inl (by simp))) (fun j => r2 _ (fun e => by have := congrArg (fun w : nm => w.2.1) e; simp only at this; omega) (fun e => by cases e) (fun e => by cases e) (Or.inr (by simp only; omega))) (r2 _ (fun e => by cases e) (fun e => by have := congrArg (fun w : nm => w.2.1) e; simp only at this; omega) (fun e => by cases e) (Or.inr (by simp only; omega))) hS.2.2.1) k5 (fun hq => ((v2 _).1 hq).elim (fun hq => (ns4 _ hq).1 rfl) (fun hq => hq.elim (fun e => by cases e) hno4)) (P := fun M26 => P (nI (cnt s)) M26)
        (fun M3 V3 ad3 ρ3 ξ3 v3 a3 r3 i3 l3 x3 g3 => h5 s hs hp z0 el k5 e n36 ei M3 V3 ad3 ρ3 ξ3 (fun y => ?_) (fun y y0 y1 y2 y3 y4 => ((a3 y y2 y3).trans (a2 y y0 y1 (by omega))).trans (up_n _ _ (fun e => by rw [e] at y4; simp at y4))) (fun w w1 w2 w3 w4 w5 w6 w7 => (r3 w w5 w6 w7).trans (r2 w w1 w2 w3 w4)) ((r3 _ (fun e => by cases e) (fun e => by cases e) (fun e => by cases e)).trans r20) i3 ?_ l3 ?_ (fun q hq => ((x3 q (by omega)).trans (x2 q (by omega))).trans (ux_n _ _ (by omega))) g3)
      · rw [b14, b2, b5] at va; exact va
      · rw [v3, v2]
        constructor
        · rintro (e | ⟨e | e | e, e1⟩)
          · exact Or.inl e
          · exact Or.inr (Or.inl e)
          · rw [e] at e1; exact absurd rfl e1
          · exact Or.inr (Or.inr e)
        · rintro (e | e | e)
          · exact Or.inl e
          · exact Or.inr ⟨Or.inl e, by have := (ns4 y e).2; omega⟩
          · exact Or.inr ⟨Or.inr (Or.inr e), hB14 y e⟩
      · refine Ls_of (vaI_n (fun e => by cases e) (fun e => by cases e) (fun e => by have := congrArg (fun w : nm => w.2.1) e; simp only at this; omega)) (fun j => r3 _ (fun e => by have := congrArg (fun w : nm => w.2.1) e; simp only at this; omega) (fun e => by cases e) (fun e => by cases e)) (r3 _ (fun e => by cases e) (fun e => by have := congrArg (fun w : nm => w.2.1) e; simp only at this; omega) (fun e => by cases e)) l2
      · obtain ⟨z1, z2, z3, z4, z5, z6, z7⟩ := z2
        have nl : ∀ k j : Nat, ((k, 8 + (n + 1), j) : nm) ≠ (k, 2 + s, 0) := fun k j e => by have := congrArg (fun w : nm => w.2.1) e; simp only at this; omega
        refine ⟨fun j => (r3 _ (fun e => by have := congrArg (fun w : nm => w.2.1) e; simp only at this; omega) (fun e => by cases e) (fun e => by cases e)).trans (z1 j), (r3 _ (fun e => by cases e) (nl 5 0) (fun e => by cases e)).trans z2, ?_, ?_, ?_, fun j => ?_, ?_⟩
        · rw [vaI_n (fun e => by cases e) (nl 6 0) (fun e => by cases e)]; exact z3
        · rw [vaI_n (fun e => by cases e) (fun e => by cases e) (nl 7 0)]; exact z4
        · rw [vaI_n (fun e => by cases e) (fun e => by cases e) (fun e => by cases e)]; exact z5
        · rw [vaI_n (fun e => by cases e) (fun e => by cases e) (fun e => by cases e)]; exact z6 j
        · rw [vaI_n (fun e => by cases e) (fun e => by cases e) (fun e => by cases e)]; exact z7
