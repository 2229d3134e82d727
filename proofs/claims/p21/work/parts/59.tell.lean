/-! ===== the pure part: the calls that change something, on an object among others ===== -/
variable {Fm : zM} {V V' : nm → Prop} {ad ad' : nm → Nat} {σ σ' τ τ' X : nI2} {ρ ρ' π π' : nN2} {ξ ξ' : Nat → zE} {M M' : zM} {x y w : nm} {n n' c d s i k a : Nat} {cnt cnt' : Nat → Nat} {p q p' q' : Int32} {S : St} {D : Nat → Prop} {P : Int32 → zM → Prop} {PX : Nat → zM → Prop} {l : List Int32}
abbrev stL (S : St) (l : List Int32) : St := (S.1, S.2.1, S.2.2.1, S.2.2.2.1, l)
abbrev stI (S : St) (τ : nI2) : St := (S.1, S.2.1, τ, S.2.2.2.1, S.2.2.2.2)
theorem Gd.rwd (G : Gd a S V ad σ ρ ξ) (F : EQs σ' σ) (h0 : ∀ w : nm, w.1 ≠ 1 → ρ' w = ρ w) (hW : Rw σ' ρ' l) : Gd a (stL S l) V ad σ' ρ' ξ := by
  obtain ⟨v0, ha, v13, x13, B, G, E, R, W⟩ := G
  exact ⟨v0, ha, v13, x13, fun y hy => (B y hy).mono (fun c _ => by rw [F.zz]; exact Nat.le_refl _) (fun _ => Nat.le_refl _) (Nat.le_refl _), (G.sm F).r1 h0, F.v.tr E, fun w hw => (h0 w (by omega)).trans (R w hw), hW⟩
theorem Gd.st (G : Gd a S V ad σ ρ ξ) (hz : ∀ c, zz σ c ≤ zz σ' c) (h : Dg S.1 S.2.1 σ' ρ) (E' : EV σ' τ) (hr : ∀ k r j, k = 4 ∨ k = 5 → r < 2 → σ' (k, r, j) = σ (k, r, j)) : Gd a (stI S τ) V ad σ' ρ ξ := by
  obtain ⟨v0, ha, v13, x13, B, G, E, R, r, s0, r1, r2, r3, r4, r5, r6, r7, r8⟩ := G
  exact ⟨v0, ha, v13, x13, fun y hy => (B y hy).mono (fun c _ => hz c) (fun _ => Nat.le_refl _) (Nat.le_refl _), h, E', R, r, s0, r1, r2, r3, r4, r5, r6, (hr _ _ _ (Or.inl rfl) r4).trans r7, fun j hj => (hr _ _ _ (Or.inr rfl) r4).trans (r8 j hj)⟩
theorem getD_app (l : List Int32) (v : Int32) {j : Nat} (h : j < l.length) : (l ++ [v]).getD j 0 = l.getD j 0 := by
  simp only [List.getD_eq_getElem?_getD]
  rw [List.getElem?_append_left h]
theorem getD_last (l : List Int32) (v : Int32) : (l ++ [v]).getD l.length 0 = v := by
  simp
theorem r_value (h : Cmp a S D M) (h1 : S.2.2.2.2.length < 20 → ∀ M' D', Kp M D M' D' → Cmp a (stL S (S.2.2.2.2 ++ [p])) D' M' → P (nI (S.2.2.2.2.length + 1)) M') (h2 : S.2.2.2.2.length = 20 → exK PX M) : zIs M a 6 ∧ w_X5_value a p M P PX := by
  obtain ⟨V, ad, σ, ρ, ξ, g, G0⟩ := h.op
  obtain ⟨v0, rfl, v13, x13, B, G, E, R, r, s0, r1, r2, r3, r4, r5, r6, r7, r8⟩ := id G0
  refine ⟨g_is g v0 rfl, k_value g v0 r1 r7 r6 (fun hu M1 g1 => Cmp.go g1 (G0.rwd ((EQs.u (Or.inl rfl) (by omega)).trans (EQs.u (Or.inr rfl) (by omega))) (fun _ _ => rfl) ⟨r, s0, r1, r2, r3, r4, r5, ?_, ?_, fun j hj => ?_⟩) (h1 hu)) (fun e => h2 e 3 (by simp))⟩
  · simp only [List.length_append, List.length_cons, List.length_nil]; omega
  · rw [up_s]; simp
  · simp only [List.length_append, List.length_cons, List.length_nil] at hj
    rw [up_n _ _ (fun e => by cases e)]
    by_cases e : j = S.2.2.2.2.length
    · rw [e, up_s, getD_last]
    · rw [up_n _ _ (fun q => e (by cases q; rfl)), getD_app _ _ (by omega)]; exact r8 j (by omega)
theorem r_clear (h : Cmp a S D M) (h1 : ∀ M' D', Kp M D M' D' → Cmp a (stL S []) D' M' → P (nI S.2.2.2.2.length) M') : zIs M a 6 ∧ w_X5_clear a M P := by
  obtain ⟨V, ad, σ, ρ, ξ, g, G0⟩ := h.op
  obtain ⟨v0, rfl, v13, x13, B, G, E, R, r, s0, r1, r2, r3, r4, r5, r6, r7, r8⟩ := id G0
  refine ⟨g_is g v0 rfl, k_clear g v0 r1 fun M1 g1 => ?_⟩
  rw [r7]
  exact Cmp.go g1 (G0.rwd (EQs.u (Or.inl rfl) (by omega)) (fun _ _ => rfl) ⟨r, s0, r1, r2, r3, r4, r5, by simp, by rw [up_s]; rfl, fun j hj => by simp at hj⟩) h1
theorem r_read (h : Cmp a S D M) (h1 : ∀ z t l, sv S.2.1 S.2.2.1 p q = some z → sv S.2.1 S.2.2.1 p' q' = some t → rcL S.2.2.1 S.2.2.2.2 (S.2.2.2.1 (2, t.1, t.2)) = true → rdF S.2.2.1 S.2.2.2.1 (fun j => S.2.2.2.2.getD j 0) 45 (S.2.2.2.1 (2, z.1, z.2)) (S.2.2.2.1 (2, t.1, t.2)) 0 = some l → ∀ M' D', Kp M D M' D' → Cmp a (stL S l) D' M' → P (nI l.length) M') (h2 : (sv S.2.1 S.2.2.1 p q = none ∨ sv S.2.1 S.2.2.1 p' q' = none) → exK PX M)
    (h3 : ∀ z t, sv S.2.1 S.2.2.1 p q = some z → sv S.2.1 S.2.2.1 p' q' = some t → (rcL S.2.2.1 S.2.2.2.2 (S.2.2.2.1 (2, t.1, t.2)) = false ∨ rdF S.2.2.1 S.2.2.2.1 (fun j => S.2.2.2.2.getD j 0) 45 (S.2.2.2.1 (2, z.1, z.2)) (S.2.2.2.1 (2, t.1, t.2)) 0 = none) → ∀ M' D', Kp M D M' D' → Cmp a S D' M' → exK PX M') : zIs M a 6 ∧ w_X5_read a p q p' q' M P PX := by
  obtain ⟨V, ad, σ, ρ, ξ, g, G0⟩ := h.op
  obtain ⟨v0, rfl, v13, x13, B, G, E, R, r, s0, r1, r2, r3, r4, r5, r6, r7, r8⟩ := id G0
  rw [← ev_sv E, ← ev_sv E] at h2
  simp only [← ev_sv E] at h1 h3
  have eR : ∀ s v, ρ (2, s, v) = S.2.2.2.1 (2, s, v) := fun s v => R _ (Or.inl rfl)
  refine ⟨g_is g v0 rfl, k_read g v0 G.1.wk G.1.wp r1 r2 r3 r4 r5 r7 r6 (g := fun j => S.2.2.2.2.getD j 0) r8 (fun s v t u l hv hu hp hq hp' hq' hrc hrd M1 g1 => ?_) (fun no => h2 (no.imp sv_noS sv_noS) 1 (by simp)) (fun s t hs ht hp hp' no => h2 (no.imp (sv_noV hs hp) (sv_noV ht hp')) 2 (by simp)) (fun s v t u hv hu hp hq hp' hq' bad σ1 M1 F g1 => ?_)⟩
  · have len := rdF_len G.1.wk.2.2 G.1.wp 45 _ _ _ l (show ρ (2, s, v) ≤ S.1 by have := ((G.1.wk.2.1 s hv.1).2.2 v hv.2.1).2; omega) (show ρ (2, t, u) ≤ S.1 by have := ((G.1.wk.2.1 t hu.1).2.2 u hu.2.1).2; omega) hrd
    have l20 := (G.1.wp.lnn (show ρ (2, s, v) ≤ S.1 by have := ((G.1.wk.2.1 s hv.1).2.2 v hv.2.1).2; omega)).2
    rw [ev_rc E r8, eR] at hrc
    rw [eR, eR, ev_rdF E R] at hrd
    have fq : ∀ w : nm, ¬ ((w.1 = 4 ∨ w.1 = 5) ∧ w.2.1 = s0) → rApp (up σ (4, s0, 0) 0) s0 0 l w = σ w := fun w hw => by
      unfold rApp
      rw [rAdd_n (fun e => by rw [e] at hw; simp at hw) (by omega), up_n _ _ (fun e => by rw [e] at hw; simp at hw)]
    refine Cmp.go g1 (G0.rwd (fun w _ hw => fq w (fun e => by have := hw e.1; omega)) (fun w hw => ?_) ⟨s0, r, ?_, up_s _ _ _, fun e => r3 e.symm, r5, r4, by omega, ?_, fun j hj => ?_⟩) (h1 (s, v) (t, u) l (sv_eq G.c6 hv hp hq) (sv_eq G.c6 hu hp' hq') hrc hrd)
    · rw [up_n _ _ (fun e => hw (by rw [e])), up_n _ _ (fun e => hw (by rw [e]))]
    · rw [up_n _ _ (fun e => by cases e), up_s]
    · rw [rApp_used, Nat.zero_add]
    · unfold rApp rAdd
      rw [if_neg (fun e => by cases e), if_pos ⟨rfl, rfl, Nat.zero_le _, by simp only; omega⟩]
      rfl
  · rw [ev_rc E r8, eR, eR, ev_rdF E R] at bad
    exact Cmp.go g1 (G0.rows r2 F) (fun M2 D2 hk hc => h3 (s, v) (t, u) (sv_eq G.c6 hv hp hq) (sv_eq G.c6 hu hp' hq') bad M2 D2 hk hc 3 (by simp))
/-- the draft of a schema is emptied -/
theorem Gd.em (G : Gd a S V ad σ ρ ξ) (g : zC Fm V ad (emS σ S.1) (clr ρ (8 + S.1) (zz σ S.1)) ξ M') : zC Fm (fun y => V y ∧ ¬ (y.1 = 8 ∧ y.2.1 = S.1)) ad (emS σ S.1) (clr ρ (8 + S.1) (zz σ S.1)) ξ M' ∧ Gd a (stI S (emS S.2.2.1 S.1)) (fun y => V y ∧ ¬ (y.1 = 8 ∧ y.2.1 = S.1)) ad (emS σ S.1) (clr ρ (8 + S.1) (zz σ S.1)) ξ := by
  obtain ⟨v0, ha, v13, x13, B, G, E, R, r, s0, r1, r2, r3, r4, r5, r6, r7, r8⟩ := G
  have f : ∀ k r j, k = 4 ∨ k = 5 → r < 2 → emS σ S.1 (k, r, j) = σ (k, r, j) := fun k r j hk hr => emS_n (fun e => by cases e; omega) (fun e => by cases e; omega) (fun e => by cases e; omega)
  refine ⟨g.drop (em_em G.1).2.1, ⟨v0, by simp⟩, ha, ⟨v13, by simp⟩, x13, fun y hy => Bd.drop (fun c hc => ?_) (fun _ => Nat.le_refl _) (B y hy.1) hy.2, G.em, ev_emS E _, fun w hw => (clr_n _ _ _ (Or.inl (by omega))).trans (R w hw), r, s0, (clr_n _ _ _ (Or.inl (by simp))).trans r1, (clr_n _ _ _ (Or.inl (by simp))).trans r2, r3, r4, r5, r6, (f _ _ _ (Or.inl rfl) r4).trans r7, fun j hj => (f _ _ _ (Or.inr rfl) r4).trans (r8 j hj)⟩
  rw [(em_ag (ρ := ρ) (d := 0)).zq hc]
  exact Nat.le_refl _
theorem r_discard (h : Cmp a S D M) (h1 : ∀ M' D', Kp M D M' D' → Cmp a (stI S (emS S.2.2.1 S.1)) D' M' → P (nI (zz S.2.2.1 S.1)) M') : zIs M a 6 ∧ w_X5_discard a M P := by
  obtain ⟨V, ad, σ, ρ, ξ, g, G0⟩ := h.op
  obtain ⟨v0, rfl, v13, x13, B, G, E, R, W⟩ := id G0
  refine ⟨g_is g v0 rfl, k_discard g v0 G.1.wk fun M1 g1 => ?_⟩
  rw [ev_zz E]
  exact Cmp.go (G0.em g1).1 (G0.em g1).2 h1
theorem r_byDefault (h : Cmp a S D M) (h1 : ∀ j, zz S.2.2.1 S.1 = j + 1 → ¬ S.2.2.1 (9, S.1, j) = 4 → ofS p (S.2.2.1 (10, S.1, j)) = true → ∀ M' D', Kp M D M' D' → Cmp a (stI S (up (up S.2.2.1 (14, S.1, j) 1) (15, S.1, j) p)) D' M' → P (S.2.2.1 (8, S.1, j)) M') (h2 : (∀ j, zz S.2.2.1 S.1 = j + 1 → ¬ S.2.2.1 (9, S.1, j) = 4 → ofS p (S.2.2.1 (10, S.1, j)) = false) → exK PX M) : zIs M a 6 ∧ w_X5_byDefault a p M P PX := by
  obtain ⟨V, ad, σ, ρ, ξ, g, G0⟩ := h.op
  obtain ⟨v0, rfl, v13, x13, B, G, E, R, W⟩ := id G0
  refine ⟨g_is g v0 rfl, k_byDefault g v0 G.1.wk (fun j hj h4 ho M1 g1 => ?_) (fun bad => h2 (fun j hj h4 => ?_) 3 (by simp)) (fun j hj h4 ho => h2 (fun j' hj' _ => ?_) 1 (by simp))⟩
  · rw [E.f (by omega)]
    refine Cmp.go g1 (G0.st (fun c => ?_) (G.byDefault hj h4 ho) ((E.up _ _).up _ _) (fun k r j hk hr => ?_)) (h1 j (by rw [← ev_zz E]; exact hj) (by rw [← E.f (by omega)]; exact h4) (by rw [← E.f (k := 10) (by omega)]; exact ho))
    · unfold zz
      rw [up_n _ _ (fun e => by cases e), up_n _ _ (fun e => by cases e)]
      exact Nat.le_refl _
    · rw [up_n _ _ (fun e => by cases e; omega), up_n _ _ (fun e => by cases e; omega)]
  · rw [← ev_zz E] at hj
    rw [← E.f (by omega)] at h4
    rcases bad with q | ⟨t, q1, q2⟩
    · omega
    · obtain rfl : j = t := by omega
      exact absurd q2 h4
  · rw [← ev_zz E] at hj'
    obtain rfl : j' = j := by omega
    rw [← E.f (k := 10) (by omega)]; exact ho
theorem r_setMode (h : Cmp a S D M) {md al : Int32} (ha : al = 0 ∨ al = 1) (h1 : ∀ s k, sub p = some s → k < 4 → md = nI k → ∀ M' D', Kp M D M' D' → Cmp a (stI S (up (up S.2.2.1 (0, s, 0) md) (1, s, 0) al)) D' M' → P (S.2.2.1 (0, s, 0)) M') (h2 : (sub p = none ∨ ∀ k, k < 4 → md ≠ nI k) → exK PX M) : zIs M a 6 ∧ w_X5_setMode a p md al M P PX := by
  obtain ⟨V, ad, σ, ρ, ξ, g, G0⟩ := h.op
  obtain ⟨v0, rfl, v13, x13, B, G, E, R, W⟩ := id G0
  refine ⟨g_is g v0 rfl, k_setMode g v0 G.1.wk ha (fun s k hs hp hk hm M1 g1 => ?_) (fun no => h2 (no.imp sub_no id) 1 (by simp))⟩
  rw [E.f (by omega)]
  refine Cmp.go g1 (G0.st (fun c => ?_) (by rw [hm]; exact G.modes hs hk ha) ((E.up _ _).up _ _) (fun k r j hk hr => ?_)) (h1 s k (sub_eq hs hp) hk hm)
  · unfold zz
    rw [up_n _ _ (fun e => by cases e), up_n _ _ (fun e => by cases e)]
    exact Nat.le_refl _
  · rw [up_n _ _ (fun e => by cases e; omega), up_n _ _ (fun e => by cases e; omega)]
theorem ev_okD (E : EV σ' σ) (R : ER ρ' ρ) {v : Nat} {al : Int32} : okD σ' ρ' n cnt s v al ↔ okD σ ρ n cnt s v al := by
  unfold okD
  rw [E.f (k := 2) (by omega), ev_isRef E R]
theorem r_delete (h : Cmp a S D M) {al : Int32} (h1 : ∀ z, sv S.2.1 S.2.2.1 p q = some z → okD S.2.2.1 S.2.2.2.1 S.1 S.2.1 z.1 z.2 al → ∀ M' D', Kp M D M' D' → Cmp a (stI S (up S.2.2.1 (2, z.1, z.2) (dlS al))) D' M' → P (nI (cnT (up S.2.2.1 (2, z.1, z.2) (dlS al)) S.2.1 z.1)) M') (h2 : sv S.2.1 S.2.2.1 p q = none → exK PX M) (h3 : ∀ z, sv S.2.1 S.2.2.1 p q = some z → ¬ okD S.2.2.1 S.2.2.2.1 S.1 S.2.1 z.1 z.2 al → exK PX M) : zIs M a 6 ∧ w_X5_delete a p q al M P PX := by
  obtain ⟨V, ad, σ, ρ, ξ, g, G0⟩ := h.op
  obtain ⟨v0, rfl, v13, x13, B, G, E, R, W⟩ := id G0
  rw [← ev_sv E] at h2
  simp only [← ev_sv E] at h1 h3
  refine ⟨g_is g v0 rfl, k_delete g v0 G.1.wk (fun s v hv hp hq ok M1 g1 => ?_) (fun no => h2 (sv_noS no) 1 (by simp)) (fun s hs hp no => h2 (sv_noV hs hp no) 2 (by simp)) (fun s v hv hp hq no => h3 (s, v) (sv_eq G.c6 hv hp hq) (fun ok => no ((ev_okD E R).2 ok)) 3 (by simp))⟩
  rw [ev_cnT (E.up _ _)]
  refine Cmp.go g1 (G0.st (fun c => ?_) (G.del (dlS_ok al)) (E.up _ _) (fun k r j hk hr => up_n _ _ (fun e => by cases e; omega))) (h1 (s, v) (sv_eq G.c6 hv hp hq) ((ev_okD E R).1 ok))
  unfold zz
  rw [up_n _ _ (fun e => by cases e)]
  exact Nat.le_refl _
