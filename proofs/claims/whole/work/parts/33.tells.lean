/-! ===== the pure part: the reference tells who can read whom ===== -/
variable {V V' : nm → Prop} {ad ad' : nm → Nat} {σ σ' τ : nI2} {ρ ρ' π : nN2} {ξ ξ' : Nat → zE} {M : zM} {x y w : nm} {n : Nat} {cnt : Nat → Nat}
theorem FT.r4 {c j : Nat} {D : Int32} (h : FT cnt τ π c j D) (e : τ (9, c, j) = 4) : ∃ s v, s < 6 ∧ v < cnt s ∧ D = nI (10 * s + v) ∧ τ (12, c, j) = nI (10 * s + v) ∧ π (3, c, j) = π (2, s, v) + 1 ∧ τ (10, c, j) = 0 := by
  rcases h with h | h | h
  · exact h.2
  · rw [h.1] at e; exact absurd e (by decide)
  · rcases h.1 with q | q | q <;> rw [q] at e <;> exact absurd e (by decide)
theorem FT.r3 {c j : Nat} {D : Int32} (h : FT cnt τ π c j D) (e : τ (9, c, j) = 3) : D = τ (10, c, j) ∧ ∃ d, 1 ≤ d ∧ d ≤ 4 ∧ D = nI d := by
  rcases h with h | h | h
  · rw [h.1] at e; exact absurd e (by decide)
  · obtain ⟨-, d, h1, h2, h3, h4, -⟩ := h; exact ⟨h3.trans h4.symm, d, h1, h2, h3⟩
  · rcases h.1 with q | q | q <;> rw [q] at e <;> exact absurd e (by decide)
theorem m_schemaOf (h : zC V ad σ ρ ξ M) (hV : V (9, 0, 0)) (R : Rel n cnt τ π σ) {s v : Nat} (hs : s < 6) (hv : v < cnt s) (hv6 : cnt s ≤ 6) {P : Int32 → zM → Prop} (hP : P (nI (π (2, s, v))) M) : w_X6_schemaOf (ad (9, 0, 0)) (nI (10 * s + v)) M P := by
  have e1 : nI (10 * s + v) / (10 : Int32) = nI ((10 * s + v) / 10) := pk_div (d := 10) (by omega) (by omega) (by omega)
  have e2 : nI (10 * s + v) - nI (10 * s + v) / (10 : Int32) * (10 : Int32) = nI ((10 * s + v) % 10) := pk_rem (d := 10) (by omega) (by omega) (by omega)
  have e3 : (6 : Int32) * (nI (10 * s + v) / (10 : Int32)) + (nI (10 * s + v) - nI (10 * s + v) / (10 : Int32) * (10 : Int32)) = nI (6 * s + v) := by
    rw [e2, e1, show (6 : Int32) = nI 6 from rfl, n_ma]
    congr 1; omega
  refine m_r h hV 11 (a_i h hV 11 (6 * s + v) e3 (show 6 * s + v < 36 by omega) ?_)
  rw [((R.2.2 s hs).2.1 v hv).1]
  exact hP
/-- the rows of the table below schema c are right -/
def Tb (n : Nat) (τ : nI2) (π : nN2) (σ : nI2) (c : Nat) : Prop := ∀ c' w, c' < c → w ≤ n → σ (17, 10, 37 * ix n c' + ix n w) = bI (canC τ π c' w)
theorem bI_01 (b : Bool) : bI b = 0 ∨ bI b = 1 := by cases b; exact Or.inl rfl; exact Or.inr rfl
theorem m_isRead (h : zC V ad σ ρ ξ M) (hV : V (9, 0, 0)) (R : Rel n cnt τ π σ) (hn : n ≤ 36) (hW : WC n τ π) (hc6 : ∀ s, s < 6 → cnt s ≤ 6) {c w j s : Nat} (hc : c ≤ n) (hw : w ≤ n) (hj : j < zz τ c) (hs : s < zz τ w) (hT : Tb n τ π σ c) {P : Int32 → zM → Prop}
    (hP : P (bI (rdT (τ (9, c, j)) (τ (9, w, s)) && (if τ (9, c, j) = 3 then decide (τ (10, w, s) ≤ τ (10, c, j)) || τ (14, c, j) != 0 else if τ (9, c, j) = 4 then canC τ π (rf π c j) (rf π w s) else true))) M) : w_X6_isRead (ad (9, 0, 0)) (nI (5 * ix n c + j)) (nI (5 * ix n w + s)) M P := by
  obtain ⟨r1, r2, r3⟩ := R.2.1 c hc
  obtain ⟨q1, q2, q3⟩ := R.2.1 w hw
  have z5 := (hW c hc).1.2
  have z5' := (hW w hw).1.2
  have i36 := ix_le (c := c) hn
  have i36' := ix_le (c := w) hn
  obtain ⟨⟨-, f2, -, f5, -⟩, -, fT⟩ := r3 j hj
  obtain ⟨⟨-, g2, -, -, -⟩, -, gT⟩ := q3 s hs
  have b1 : 5 * ix n c + j < 185 := by omega
  have b2 : 5 * ix n w + s < 185 := by omega
  -- the second half, types read
  have k81 : ∀ b : Bool, b = rdT (τ (9, c, j)) (τ (9, w, s)) → ¬ (τ (9, c, j) = 4 ∧ τ (9, w, s) = 4) → w_X6_isRead_81 (ad (9, 0, 0)) (nI (5 * ix n c + j)) (nI (5 * ix n w + s)) P (τ (9, c, j)) (bI b) M := by
    intro b hb h44
    rw [← hb] at hP
    refine br_b (fun e => ?_) (fun e => ⟨fun e3 => ?_, fun e3 => ?_⟩)
    · rw [e] at hP; exact hP
    · rw [e, Bool.true_and, if_neg e3] at hP
      have e4 : ¬ τ (9, c, j) = 4 := fun e4 => by
        rw [hb, e4] at e
        exact h44 ⟨e4, rdT_4 e⟩
      rw [if_neg e4] at hP
      exact hP
    · rw [e, Bool.true_and, if_pos e3] at hP
      have w3 : τ (9, w, s) = 3 := by
        rw [hb, e3] at e
        simp [rdT] at e; exact e.symm
      have d1 := (fT.r3 e3).1
      have d2 := (gT.r3 w3).1
      refine m_r h hV 3 (a_i h hV 3 _ rfl b1 (m_r h hV 3 (a_i h hV 3 _ rfl b2 ?_)))
      rw [d1, d2]
      refine ⟨fun e5 => ?_, fun e5 => m_r h hV 5 (a_i h hV 5 _ rfl b1 ?_)⟩
      · rw [decide_eq_true e5, Bool.true_or] at hP; exact hP
      · rw [f5]
        rw [decide_eq_false e5, Bool.false_or] at hP
        refine ⟨fun e6 => ?_, fun e6 => ?_⟩
        · rw [show (τ (14, c, j) != 0) = false by simpa using e6] at hP; exact hP
        · rw [show (τ (14, c, j) != 0) = true by simpa using e6] at hP; exact hP
  have k52 : ¬ (τ (9, c, j) = 4 ∧ τ (9, w, s) = 4) → w_X6_isRead_52 (ad (9, 0, 0)) (nI (5 * ix n c + j)) (nI (5 * ix n w + s)) P (τ (9, c, j)) M := by
    intro h44
    refine m_r h hV 2 (a_i h hV 2 _ rfl b2 ?_)
    rw [g2]
    refine ⟨fun e => ?_, fun e => ⟨fun e1 => ?_, fun e1 => m_r h hV 2 (a_i h hV 2 _ rfl b2 ?_)⟩⟩
    · exact k81 true (by simp [rdT, e]) h44
    · exact k81 false (by simp [rdT, e, e1]) h44
    · rw [g2]
      refine ⟨fun e2 => ?_, fun e2 => ?_⟩
      · exact k81 false (by rw [e1] at e; simp [rdT, e1, e2, e]) h44
      · exact k81 true (by simp [rdT, e1, e2]) h44
  refine m_r h hV 2 (a_i h hV 2 _ rfl b1 ?_)
  rw [f2]
  refine ⟨fun e => k52 (fun q => e q.1), fun e => m_r h hV 2 (a_i h hV 2 _ rfl b2 ?_)⟩
  rw [g2]
  refine ⟨fun e2 => k52 (fun q => e2 q.2), fun e2 => ?_⟩
  obtain ⟨s1, v1, a1, a2, a3, a4, a5, a6⟩ := fT.r4 e
  obtain ⟨s2, v2, b1', b2', b3, b4, b5, b6⟩ := gT.r4 e2
  have ra : rf π c j = π (2, s1, v1) := by unfold rf; omega
  have rb : rf π w s = π (2, s2, v2) := by unfold rf; omega
  have hra : rf π c j < c := ((hW c hc).2 j hj).2.2 (by omega)
  have hrb : rf π w s < w := ((hW w hw).2 s hs).2.2 (by omega)
  have e43 : ¬ τ (9, c, j) = 3 := by rw [e]; decide
  rw [e, e2, show rdT 4 4 = true from rfl, Bool.true_and, if_neg (by decide), if_pos rfl] at hP
  refine m_r h hV 10 (m_r h hV 3 (a_i h hV 3 _ rfl b1 ⟨g_is h hV rfl, ?_⟩))
  rw [a3]
  refine m_schemaOf h hV R a1 a2 (hc6 _ a1) (m_r h hV 3 (a_i h hV 3 _ rfl b2 ⟨g_is h hV rfl, ?_⟩))
  rw [b3]
  refine m_schemaOf h hV R b1' b2' (hc6 _ b1') ?_
  have t1 := hT (rf π c j) (rf π w s) hra (by omega)
  rw [ix_c (show rf π c j < n by omega), ix_c (show rf π w s < n by omega)] at t1
  refine a_i h hV 10 (37 * rf π c j + rf π w s) ?_ (show 37 * rf π c j + rf π w s < 1369 by omega) ?_
  · rw [ra, rb]; exact n_ma 37 _ _
  · rw [t1]; exact ⟨bI_01 _, hP⟩
theorem canF_s {σ : nI2} {ρ : nN2} {f c w : Nat} : canF σ ρ (f + 1) c w = allR (canFd σ ρ (canF σ ρ f) c w) (zz σ c) 0 := rfl
theorem canC_eq {c w : Nat} (hn : n ≤ 36) (hW : WC n τ π) (hc : c ≤ n) (hw : w ≤ n) : canC τ π c w = allR (canFd τ π (canC τ π) c w) (zz τ c) 0 := by
  have key : ∀ j, j < zz τ c → canFd τ π (canF τ π 44) c w j = canFd τ π (canC τ π) c w j := by
    intro j hj
    unfold canFd
    cases e : srcC τ c j w with
    | none => rfl
    | some s =>
      simp only []
      by_cases e5 : rdT (τ (9, c, j)) (τ (9, w, s)) = true
      · by_cases e4 : τ (9, c, j) = 4
        · have hs := srcC_lt e
          rw [e4] at e5
          have h3 := ((hW c hc).2 j hj).2
          have h4 := ((hW w hw).2 s hs).2
          have r1 := h3.2 (h3.1.1 e4)
          have r2 := h4.2 (h4.1.1 (rdT_4 e5))
          rw [show canF τ π 44 (rf π c j) (rf π w s) = canC τ π (rf π c j) (rf π w s) from canF_stable hW 44 45 _ _ (by omega) (by omega) (by omega) (by omega)]
        · rw [if_neg e4, if_neg e4]
      · rw [Bool.eq_false_iff.2 e5, Bool.false_and, Bool.false_and]
  rw [show canC τ π c w = canF τ π (44 + 1) c w from rfl, canF_s, Bool.eq_iff_iff, allR_iff, allR_iff]
  exact ⟨fun h j j1 j2 => by rw [← key j (by omega)]; exact h j j1 j2, fun h j j1 j2 => by rw [key j (by omega)]; exact h j j1 j2⟩
theorem m_canReadNow (h : zC V ad σ ρ ξ M) (hV : V (9, 0, 0)) (R : Rel n cnt τ π σ) (hn : n ≤ 36) (hW : WC n τ π) (hc6 : ∀ s, s < 6 → cnt s ≤ 6) {c w : Nat} (hc : c ≤ n) (hw : w ≤ n) (hT : Tb n τ π σ c) {P : Int32 → zM → Prop} (hP : P (bI (canC τ π c w)) M) : w_X6_canReadNow (ad (9, 0, 0)) (nI (ix n c)) (nI (ix n w)) M P := by
  obtain ⟨r1, r2, r3⟩ := R.2.1 c hc
  have z5 := (hW c hc).1.2
  have i36 := ix_le (c := c) hn
  rw [canC_eq hn hW hc hw] at hP
  have key : ∀ k i, i + k = zz τ c → P (bI (allR (canFd τ π (canC τ π) c w) k i)) M → w_X6_canReadNow_2 (ad (9, 0, 0)) (nI (ix n c)) (nI (ix n w)) P (k + 1) (nI i) M := by
    intro k
    induction k with
    | zero =>
      intro i hi hp
      refine m_r h hV 7 (a_i h hV 7 (ix n c) rfl (show ix n c < 37 by omega) ?_)
      rw [r1]
      exact br_t (nI_le (by omega) (by omega)) hp
    | succ k ih =>
      intro i hi hp
      unfold allR canFd at hp
      refine m_r h hV 7 (a_i h hV 7 (ix n c) rfl (show ix n c < 37 by omega) ?_)
      rw [r1]
      refine br_f (nI_ge (by omega) (by omega)) ⟨g_is h hV rfl, ?_⟩
      rw [show (5 : Int32) * nI (ix n c) + nI i = nI (5 * ix n c + i) from n_ma 5 _ _]
      refine m_source h hV R hn hW hc hw (by omega) ?_
      cases e : srcC τ c i w with
      | none =>
        rw [e] at hp
        refine ⟨fun q => absurd rfl q, fun _ => m_r h hV 5 (a_i h hV 5 _ rfl (show 5 * ix n c + i < 185 by omega) ?_)⟩
        rw [(r3 i (by omega)).1.2.2.2.1]
        unfold w_X6_canReadNow_64
        rw [nI_1]
        refine ⟨fun e6 => ?_, fun e6 => ?_⟩
        · rw [show (τ (14, c, i) != 0) = true by simpa using e6, Bool.true_and] at hp
          exact ih (i + 1) (by omega) hp
        · rw [show (τ (14, c, i) != 0) = false by simpa using e6, Bool.false_and] at hp
          exact hp
      | some s =>
        rw [e] at hp
        have hs := srcC_lt e
        have zw := (hW w hw).1.2
        have iw := ix_le (c := w) hn
        refine ⟨fun _ => ⟨g_is h hV rfl, ?_⟩, fun q => absurd q (nI_m1 (by omega))⟩
        rw [show (5 : Int32) * nI (ix n w) + nJ (some s) = nI (5 * ix n w + s) from n_ma 5 _ _]
        unfold w_X6_canReadNow_64
        rw [nI_1]
        refine m_isRead h hV R hn hW hc6 hc hw (by omega) hs hT (br_n (fun e6 => ?_) (fun e6 => ?_))
        · simp only [] at hp
          rw [e6, Bool.true_and] at hp
          exact ih (i + 1) (by omega) hp
        · simp only [] at hp
          rw [e6, Bool.false_and] at hp
          exact hp
  exact ⟨zz τ c + 1, key (zz τ c) 0 (by omega) hP⟩
def Done (n : Nat) (τ : nI2) (π : nN2) (σ : nI2) (i : Nat) : Prop := ∀ c w, c ≤ n → w ≤ n → 37 * ix n c + ix n w < i → σ (17, 10, 37 * ix n c + ix n w) = bI (canC τ π c w)
theorem Done.tb {i c : Nat} (hn : n ≤ 36) (hc : c ≤ n) (hi : 37 * ix n c ≤ i) (h : Done n τ π σ i) : Tb n τ π σ c := fun c' w hc' hw => by
  refine h c' w (by omega) hw ?_
  have h1 : ix n w ≤ 36 := ix_le hn
  have h2 : ix n c' = c' := ix_c (by omega)
  have h3 : c' + 1 ≤ ix n c := by unfold ix; split <;> omega
  omega
theorem m_tells (h : zC V ad σ ρ ξ M) (hV : V (9, 0, 0)) (R : Rel n cnt τ π σ) (hn : n ≤ 36) (hW : WC n τ π) (hc6 : ∀ s, s < 6 → cnt s ≤ 6) {P : zM → Prop} (hP : ∀ σ' M', EQx σ' σ → Done n τ π σ' 1369 → zC V ad σ' ρ ξ M' → P M') : w_X6_tells (ad (9, 0, 0)) M P := by
  have key : ∀ q i σ1 M, i + q = 1369 → EQx σ1 σ → Done n τ π σ1 i → zC V ad σ1 ρ ξ M → w_X6_tells_2 (ad (9, 0, 0)) P (q + 1) (nI i) M := by
    intro q
    induction q with
    | zero =>
      intro i σ1 M hi E D h
      obtain rfl : i = 1369 := by omega
      exact br_t (nI_le (a := 1369) (by omega) (by omega)) (hP σ1 M E D h)
    | succ q ih =>
      intro i σ1 M hi E D h
      have R1 := R.of E
      refine br_f (nI_ge (b := 1369) (by omega) (by omega)) ?_
      have e1 : nI i / (37 : Int32) = nI (i / 37) := pk_div (d := 37) (by omega) (by omega) (by omega)
      have e2 : nI i - nI i / (37 : Int32) * (37 : Int32) = nI (i % 37) := pk_rem (d := 37) (by omega) (by omega) (by omega)
      rw [e2, e1]
      -- the store
      have fin : ∀ b : Int32, (b = 0 ∨ b = 1) → (∀ c w, c ≤ n → w ≤ n → 37 * ix n c + ix n w = i → b = bI (canC τ π c w)) → w_X6_tells_78 (ad (9, 0, 0)) P (w_X6_tells_2 (ad (9, 0, 0)) P (q + 1)) (nI i) b (nI i) (ad (10, 10, 0)) M := by
        intro b hb hv
        refine st_z h hV 10 i rfl (show i < 1369 by omega) hb fun M' h' => ?_
        rw [nI_1]
        refine ih (i + 1) _ M' (by omega) ((EQx.up (Or.inl ⟨rfl, Or.inl rfl⟩)).trans E) (fun c w hc hw hlt => ?_) h'
        by_cases e : 37 * ix n c + ix n w = i
        · rw [e, up_s]; exact hv c w hc hw e
        · rw [up_n _ _ (fun q => e (by cases q; rfl))]; exact D c w hc hw (by omega)
      have no : (¬ (i / 37 < n ∨ i / 37 = 36) ∨ ¬ (i % 37 < n ∨ i % 37 = 36)) → w_X6_tells_77 (ad (9, 0, 0)) P (w_X6_tells_2 (ad (9, 0, 0)) P (q + 1)) (nI i) (nI i) (ad (10, 10, 0)) M := by
        intro hno
        refine fin 0 (Or.inl rfl) fun c w hc hw e => ?_
        exfalso
        have i1 := ix_le (c := c) hn
        have i2 := ix_le (c := w) hn
        have j1 : ix n c < n ∨ ix n c = 36 := by unfold ix; split <;> omega
        have j2 : ix n w < n ∨ ix n w = 36 := by unfold ix; split <;> omega
        have k1 : i / 37 = ix n c := by omega
        have k2 : i % 37 = ix n w := by omega
        rw [k1, k2] at hno
        rcases hno with q | q
        · exact q j1
        · exact q j2
      have yes : (i / 37 < n ∨ i / 37 = 36) → (i % 37 < n ∨ i % 37 = 36) → w_X6_tells_47 (ad (9, 0, 0)) P (w_X6_tells_2 (ad (9, 0, 0)) P (q + 1)) (nI i) (nI (i / 37)) (nI (i % 37)) M := by
        intro h1 h2
        obtain ⟨c, hc, ec⟩ : ∃ c, c ≤ n ∧ ix n c = i / 37 := by
          by_cases e : i / 37 < n
          · exact ⟨i / 37, by omega, ix_c e⟩
          · exact ⟨n, Nat.le_refl n, by rw [ix_n]; omega⟩
        obtain ⟨w, hw, ew⟩ : ∃ w, w ≤ n ∧ ix n w = i % 37 := by
          by_cases e : i % 37 < n
          · exact ⟨i % 37, by omega, ix_c e⟩
          · exact ⟨n, Nat.le_refl n, by rw [ix_n]; omega⟩
        have uniq : ∀ c' w', c' ≤ n → w' ≤ n → 37 * ix n c' + ix n w' = i → bI (canC τ π c w) = bI (canC τ π c' w') := fun c' w' a1 a2 a3 => by
          have i1 := ix_le (c := c') hn
          have i2 := ix_le (c := w') hn
          rw [ix_inj hn hc a1 (by omega), ix_inj hn hw a2 (by omega)]
        refine m_r h hV 10 (br_f (by decide) ⟨g_is h hV rfl, ?_⟩)
        rw [← ec, ← ew]
        refine m_canReadNow h hV R1 hn hW hc6 hc hw (D.tb hn hc (by omega)) (br_b (fun e => ?_) (fun e => ?_))
        · refine fin 0 (Or.inl rfl) fun c' w' a1 a2 a3 => ?_
          rw [← uniq c' w' a1 a2 a3, e]; rfl
        · refine fin 1 (Or.inr rfl) fun c' w' a1 a2 a3 => ?_
          rw [← uniq c' w' a1 a2 a3, e]; rfl
      have no2 : (¬ (i / 37 < n ∨ i / 37 = 36) ∨ ¬ (i % 37 < n ∨ i % 37 = 36)) → w_X6_tells_51 (ad (9, 0, 0)) P (w_X6_tells_2 (ad (9, 0, 0)) P (q + 1)) (nI i) (nI (i / 37)) (nI (i % 37)) M := fun hno =>
        m_r h hV 10 (br_t rfl (no hno))
      have mid : (i / 37 < n ∨ i / 37 = 36) → w_X6_tells_33 (ad (9, 0, 0)) P (w_X6_tells_2 (ad (9, 0, 0)) P (q + 1)) (nI i) (nI (i / 37)) (nI (i % 37)) M := by
        intro h1
        refine g_i h hV rfl rfl ?_
        show (nI (i % 37) < σ1 (16, 9, 0) → _) ∧ (¬ nI (i % 37) < σ1 (16, 9, 0) → _)
        rw [R1.1]
        refine pk_lt (i % 37) n (fun h2 => yes h1 (Or.inl h2)) (fun h2 => ⟨fun e => ?_, fun e => ?_⟩)
        · exact no2 (Or.inr fun q => e (by rcases q with q | q; omega; rw [q]; rfl))
        · exact yes h1 (Or.inr ((nI_eq (b := 36) (by omega) (by omega)).1 e))
      refine g_i h hV rfl rfl ?_
      show (nI (i / 37) < σ1 (16, 9, 0) → _) ∧ (¬ nI (i / 37) < σ1 (16, 9, 0) → _)
      rw [R1.1]
      refine pk_lt (i / 37) n (fun h2 => mid (Or.inl h2)) (fun h2 => ⟨fun e => ?_, fun e => ?_⟩)
      · exact no2 (Or.inl fun q => e (by rcases q with q | q; omega; rw [q]; rfl))
      · exact mid (Or.inr ((nI_eq (b := 36) (by omega) (by omega)).1 e))
  exact ⟨1369 + 1, key 1369 0 σ M (by omega) EQx.refl (fun c w _ _ q => by omega) h⟩
