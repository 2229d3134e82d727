/-! ===== the pure part: the calls that ask, on an object among others ===== -/
variable {Fm : zM} {V V' : nm → Prop} {ad ad' : nm → Nat} {σ σ' τ τ' X : nI2} {ρ ρ' π π' : nN2} {ξ ξ' : Nat → zE} {M M' : zM} {x y w : nm} {n n' c d s i k a : Nat} {cnt cnt' : Nat → Nat} {p q p' q' : Int32} {S : St} {D : Nat → Prop} {P : Int32 → zM → Prop} {PX : Nat → zM → Prop}
theorem r_versions (h : Cmp a S D M) (h1 : ∀ s, sub p = some s → P (nI (S.2.1 s)) M) (h2 : sub p = none → exK PX M) : zIs M a 6 ∧ w_X5_versions a p M P PX := by
  obtain ⟨V, ad, σ, ρ, ξ, g, v0, rfl, v13, x13, B, G, E, R, W⟩ := h.op
  exact ⟨g_is g v0 rfl, k_versions g v0 G.1.wk (fun s hs hp => h1 s (sub_eq hs hp)) (fun no => h2 (sub_no no) 1 (by simp))⟩
theorem r_number (h : Cmp a S D M) (h1 : ∀ z, sv S.2.1 S.2.2.1 p q = some z → P (nI (S.2.2.2.1 (2, z.1, z.2))) M) (h2 : sv S.2.1 S.2.2.1 p q = none → exK PX M) : zIs M a 6 ∧ w_X5_number a p q M P PX := by
  obtain ⟨V, ad, σ, ρ, ξ, g, v0, rfl, v13, x13, B, G, E, R, W⟩ := h.op
  rw [← ev_sv E] at h1 h2
  refine ⟨g_is g v0 rfl, k_number g v0 G.1.wk G.1.rank (fun s v hv hp hq => ?_) (fun no => h2 (sv_noS no) 1 (by simp)) (fun s hs hp no => h2 (sv_noV hs hp no) 2 (by simp))⟩
  rw [R _ (Or.inl rfl)]
  exact h1 (s, v) (sv_eq G.c6 hv hp hq)
theorem r_length (h : Cmp a S D M) (h1 : ∀ z, sv S.2.1 S.2.2.1 p q = some z → P (nI (lnn S.2.2.1 (S.2.2.2.1 (2, z.1, z.2)))) M) (h2 : sv S.2.1 S.2.2.1 p q = none → exK PX M) : zIs M a 6 ∧ w_X5_length a p q M P PX := by
  obtain ⟨V, ad, σ, ρ, ξ, g, v0, rfl, v13, x13, B, G, E, R, W⟩ := h.op
  rw [← ev_sv E] at h1 h2
  refine ⟨g_is g v0 rfl, k_length g v0 G.1.wk G.1.wp (fun s v hv hp hq => ?_) (fun no => h2 (sv_noS no) 1 (by simp)) (fun s hs hp no => h2 (sv_noV hs hp no) 2 (by simp))⟩
  rw [R _ (Or.inl rfl), ev_ln E]
  exact h1 (s, v) (sv_eq G.c6 hv hp hq)
theorem r_canRead (h : Cmp a S D M) (h1 : ∀ z t, sv S.2.1 S.2.2.1 p q = some z → sv S.2.1 S.2.2.1 p' q' = some t → P (bI (canC S.2.2.1 S.2.2.2.1 (S.2.2.2.1 (2, z.1, z.2)) (S.2.2.2.1 (2, t.1, t.2)))) M) (h2 : (sv S.2.1 S.2.2.1 p q = none ∨ sv S.2.1 S.2.2.1 p' q' = none) → exK PX M) : zIs M a 6 ∧ w_X5_canRead a p q p' q' M P PX := by
  obtain ⟨V, ad, σ, ρ, ξ, g, v0, rfl, v13, x13, B, G, E, R, W⟩ := h.op
  rw [← ev_sv E, ← ev_sv E] at h2
  simp only [← ev_sv E] at h1
  refine ⟨g_is g v0 rfl, k_canRead g v0 G.1.wk (fun s v t u hv hu hp hq hp' hq' => ?_) (fun no => h2 (no.imp sv_noS sv_noS) 1 (by simp)) (fun s t hs ht hp hp' no => h2 (no.imp (sv_noV hs hp) (sv_noV ht hp')) 2 (by simp))⟩
  rw [R _ (Or.inl rfl), R _ (Or.inl rfl), ev_can E R]
  exact h1 (s, v) (t, u) (sv_eq G.c6 hv hp hq) (sv_eq G.c6 hu hp' hq')
theorem r_isAccepted (h : Cmp a S D M) (h1 : ∀ s, sub p = some s → zz S.2.2.1 S.1 ≠ 0 → P (bI (accF S.2.2.1 S.2.2.2.1 s S.1 (S.2.1 s))) M) (h2 : (sub p = none ∨ zz S.2.2.1 S.1 = 0) → exK PX M) : zIs M a 6 ∧ w_X5_isAccepted a p M P PX := by
  obtain ⟨V, ad, σ, ρ, ξ, g, v0, rfl, v13, x13, B, G, E, R, W⟩ := h.op
  refine ⟨g_is g v0 rfl, k_isAccepted g v0 G.1.wk (fun s hs hp hz => ?_) (fun no => h2 (Or.inl (sub_no no)) 1 (by simp)) (fun s hs hp hz => h2 (Or.inr (by rw [← ev_zz E]; exact hz)) 3 (by simp))⟩
  rw [ev_acc E R]
  exact h1 s (sub_eq hs hp) (by rw [← ev_zz E]; exact hz)
/-- a record's draft is a record of a schema -/
def rcL (σ : nI2) (l : List Int32) (c : Nat) : Bool := l.length == lnn σ c && allR (fun j => ofS (l.getD j 0) (σ (5, 3 + c, j))) l.length 0
theorem ev_rc (E : EV σ' σ) {l : List Int32} {r : Nat} (hr : ∀ j, j < l.length → σ' (5, r, j) = l.getD j 0) (c : Nat) : isRc σ' r c l.length = rcL σ l c := by
  unfold isRc rcL
  rw [ev_ln E, allR_congr (g := fun j => ofS (l.getD j 0) (σ (5, 3 + c, j))) fun j hj => by rw [hr j hj, E.g (Or.inr rfl)]]
theorem r_isRecord (h : Cmp a S D M) (h1 : ∀ z, sv S.2.1 S.2.2.1 p q = some z → P (bI (rcL S.2.2.1 S.2.2.2.2 (S.2.2.2.1 (2, z.1, z.2)))) M) (h2 : sv S.2.1 S.2.2.1 p q = none → exK PX M) : zIs M a 6 ∧ w_X5_isRecord a p q M P PX := by
  obtain ⟨V, ad, σ, ρ, ξ, g, v0, rfl, v13, x13, B, G, E, R, r, s0, r1, r2, r3, r4, r5, r6, r7, r8⟩ := h.op
  rw [← ev_sv E] at h1 h2
  refine ⟨g_is g v0 rfl, k_isRecord g v0 G.1.wk G.1.wp r1 r7 r6 (fun s v hv hp hq => ?_) (fun no => h2 (sv_noS no) 1 (by simp)) (fun s hs hp no => h2 (sv_noV hs hp no) 2 (by simp))⟩
  rw [ev_rc E r8, R _ (Or.inl rfl)]
  exact h1 (s, v) (sv_eq G.c6 hv hp hq)
/-- a place of the record's draft -/
def plc (l : List Int32) (p : Int32) : Option Nat := lk (fun j => p == nI j) l.length 0
theorem plc_eq {l : List Int32} {j : Nat} (h20 : l.length ≤ 20) (hj : j < l.length) : plc l (nI j) = some j := by
  cases e : plc l (nI j) with
  | none =>
    have := (lk_none _ _).1 e j (by omega) (by omega)
    simp at this
  | some t =>
    obtain ⟨-, h2, h3, -⟩ := lk_some _ _ _ e
    have h3 : nI j = nI t := by simpa using h3
    rw [(nI_eq (by omega) (by omega)).1 h3]
theorem plc_no {l : List Int32} (no : ∀ j, j < l.length → p ≠ nI j) : plc l p = none := (lk_none _ _).2 fun j _ hj => by simpa using no j (by omega)
theorem r_valueAt (h : Cmp a S D M) (h1 : ∀ j, plc S.2.2.2.2 p = some j → P (S.2.2.2.2.getD j 0) M) (h2 : plc S.2.2.2.2 p = none → exK PX M) : zIs M a 6 ∧ w_X5_valueAt a p M P PX := by
  obtain ⟨V, ad, σ, ρ, ξ, g, v0, rfl, v13, x13, B, G, E, R, r, s0, r1, r2, r3, r4, r5, r6, r7, r8⟩ := h.op
  refine ⟨g_is g v0 rfl, k_valueAt g v0 r1 r7 r6 (fun j hj hp => ?_) (fun no => h2 (plc_no no) 2 (by simp))⟩
  rw [r8 j hj]
  exact h1 j (by rw [hp]; exact plc_eq r6 hj)
/-- only the small rows behind the record's draft changed -/
theorem Gd.rows {s0 : Nat} (G : Gd a S V ad σ ρ ξ) (hs : ρ (1, 1, 0) = s0) (F : EQr 2 s0 σ' σ) : Gd a S V ad σ' ρ ξ := by
  obtain ⟨v0, ha, v13, x13, B, G, E, R, r, s1, r1, r2, r3, r4, r5, r6, r7, r8⟩ := G
  obtain rfl : s1 = s0 := r2.symm.trans hs
  have Fs := F.toS (by omega)
  have f : ∀ k j, σ' (k, r, j) = σ (k, r, j) := fun k j => F _ (fun _ => ⟨by simp only [ne_eq]; omega, by simp only [ne_eq]; exact r3⟩)
  exact ⟨v0, ha, v13, x13, fun y hy => (B y hy).mono (fun c _ => by rw [Fs.zz]; exact Nat.le_refl _) (fun _ => Nat.le_refl _) (Nat.le_refl _), G.sm Fs, Fs.v.tr E, R, r, s1, r1, r2, r3, r4, r5, r6, (f _ _).trans r7, fun j hj => (f _ _).trans (r8 j hj)⟩
theorem r_readsAll (h : Cmp a S D M) (h1 : ∀ z t, sv S.2.1 S.2.2.1 p q = some z → sv S.2.1 S.2.2.1 p' q' = some t → prd (pl S.2.2.1 (S.2.2.2.1 (2, t.1, t.2))) (lnn S.2.2.1 (S.2.2.2.1 (2, t.1, t.2))) 0 ≤ 300 → ∀ M' D', Kp M D M' D' → Cmp a S D' M' → P (bI (canC S.2.2.1 S.2.2.2.1 (S.2.2.2.1 (2, z.1, z.2)) (S.2.2.2.1 (2, t.1, t.2)))) M') (h2 : (sv S.2.1 S.2.2.1 p q = none ∨ sv S.2.1 S.2.2.1 p' q' = none) → exK PX M)
    (h3 : ∀ z t, sv S.2.1 S.2.2.1 p q = some z → sv S.2.1 S.2.2.1 p' q' = some t → 300 < prd (pl S.2.2.1 (S.2.2.2.1 (2, t.1, t.2))) (lnn S.2.2.1 (S.2.2.2.1 (2, t.1, t.2))) 0 → exK PX M) : zIs M a 6 ∧ w_X5_readsAll a p q p' q' M P PX := by
  obtain ⟨V, ad, σ, ρ, ξ, g, G0⟩ := h.op
  obtain ⟨v0, rfl, v13, x13, B, G, E, R, r, s0, r1, r2, r3, r4, r5, r6, r7, r8⟩ := id G0
  rw [← ev_sv E, ← ev_sv E] at h2
  simp only [← ev_sv E] at h1 h3
  refine ⟨g_is g v0 rfl, k_readsAll g v0 G.1.wk G.1.wp G.1.wq (by omega) (fun s v t u hv hu hp hq hp' hq' h300 σ1 M1 F g1 => ?_) (fun no => h2 (no.imp sv_noS sv_noS) 1 (by simp)) (fun s t hs ht hp hp' no => h2 (no.imp (sv_noV hs hp) (sv_noV ht hp')) 2 (by simp)) (fun s v t u hv hu hp hq hp' hq' h300 => ?_)⟩
  · rw [R _ (Or.inl rfl), ev_pl E, ev_ln E] at h300
    rw [R _ (Or.inl rfl), R _ (Or.inl rfl), ev_can E R]
    exact Cmp.go g1 (G0.rows rfl F) (h1 (s, v) (t, u) (sv_eq G.c6 hv hp hq) (sv_eq G.c6 hu hp' hq') h300)
  · rw [R _ (Or.inl rfl), ev_pl E, ev_ln E] at h300
    exact h3 (s, v) (t, u) (sv_eq G.c6 hv hp hq) (sv_eq G.c6 hu hp' hq') h300 3 (by simp)
