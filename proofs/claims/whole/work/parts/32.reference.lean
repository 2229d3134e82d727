/-! ===== the pure part: the reference over its rows ===== -/
variable {V V' : nm → Prop} {ad ad' : nm → Nat} {σ σ' τ : nI2} {ρ ρ' π : nN2} {ξ ξ' : Nat → zE} {M : zM} {x y w : nm} {n : Nat} {cnt : Nat → Nat}
/-- a schema's place in the reference -/
def ix (n c : Nat) : Nat := if c < n then c else 36
theorem ix_n : ix n n = 36 := if_neg (Nat.lt_irrefl n)
theorem ix_c {c : Nat} (h : c < n) : ix n c = c := if_pos h
theorem ix_le {c : Nat} (hn : n ≤ 36) : ix n c ≤ 36 := by unfold ix; split <;> omega
theorem ix_inj {c d : Nat} (hn : n ≤ 36) (hc : c ≤ n) (hd : d ≤ n) (h : ix n c = ix n d) : c = d := by
  unfold ix at h
  split at h <;> split at h <;> omega
/-- a field of the class and its place p in the reference -/
def FT (cnt : Nat → Nat) (τ : nI2) (π : nN2) (c j : Nat) (D : Int32) : Prop :=
  (τ (9, c, j) = 4 ∧ ∃ s v, s < 6 ∧ v < cnt s ∧ D = nI (10 * s + v) ∧ τ (12, c, j) = nI (10 * s + v) ∧ π (3, c, j) = π (2, s, v) + 1 ∧ τ (10, c, j) = 0) ∨
  (τ (9, c, j) = 3 ∧ ∃ d, 1 ≤ d ∧ d ≤ 4 ∧ D = nI d ∧ τ (10, c, j) = nI d ∧ τ (12, c, j) = -1 ∧ π (3, c, j) = 0) ∨
  ((τ (9, c, j) = 0 ∨ τ (9, c, j) = 1 ∨ τ (9, c, j) = 2) ∧ D = 0 ∧ τ (10, c, j) = (if τ (9, c, j) = 2 then 2 else 0) ∧ τ (12, c, j) = -1 ∧ π (3, c, j) = 0)
def FR (cnt : Nat → Nat) (τ : nI2) (π : nN2) (σ : nI2) (c j p : Nat) : Prop :=
  (σ (17, 1, p) = τ (8, c, j) ∧ σ (17, 2, p) = τ (9, c, j) ∧ σ (17, 4, p) = τ (11, c, j) ∧ σ (17, 5, p) = τ (14, c, j) ∧ σ (17, 6, p) = τ (15, c, j)) ∧ (∃ a, a ≤ 9 ∧ τ (8, c, j) = nI a) ∧ FT cnt τ π c j (σ (17, 3, p))
/-- the class's schemas, subjects and versions as the reference keeps them -/
def Rel (n : Nat) (cnt : Nat → Nat) (τ : nI2) (π : nN2) (σ : nI2) : Prop :=
  σ (16, 9, 0) = nI n ∧ (∀ c, c ≤ n → σ (17, 7, ix n c) = nI (zz τ c) ∧ σ (17, 8, ix n c) = nI (lnn τ c) ∧ ∀ j, j < zz τ c → FR cnt τ π σ c j (5 * ix n c + j)) ∧
  ∀ s, s < 6 → σ (17, 13, s) = nI (cnt s) ∧ (∀ v, v < cnt s → σ (17, 11, 6 * s + v) = nI (π (2, s, v)) ∧ σ (17, 12, 6 * s + v) = τ (2, s, v) + 1) ∧ (∀ v, cnt s ≤ v → v < 6 → σ (17, 12, 6 * s + v) = 0) ∧ σ (17, 14, s) = τ (0, s, 0) ∧ σ (17, 15, s) = τ (1, s, 0)
/-- what the reference only uses for a while -/
def scr (w : nm) : Prop := (w.1 = 17 ∧ (w.2.1 = 10 ∨ 18 ≤ w.2.1)) ∨ False
def EQx (σ' σ : nI2) : Prop := ∀ w, ¬ scr w → σ' w = σ w
theorem EQx.refl : EQx σ σ := fun _ _ => rfl
theorem EQx.trans {σ'' : nI2} (E : EQx σ'' σ') (F : EQx σ' σ) : EQx σ'' σ := fun w h => (E w h).trans (F w h)
theorem EQx.up {w : nm} {v : Int32} (h : scr w) : EQx (up σ w v) σ := fun u hu => up_n _ _ fun e => hu (e ▸ h)
theorem scr_no {k j : Nat} (h : k ≠ 10) (h2 : k < 18) : ¬ scr (17, k, j) := fun q => by
  rcases q with q | q
  · have := q.2; simp only at this; omega
  · exact q
theorem EQx.col (E : EQx σ' σ) {k j : Nat} (h : k ≠ 10) (h2 : k < 18) : σ' (17, k, j) = σ (17, k, j) := E _ (scr_no h h2)
/-- the same but for that and for what was thrown -/
def EQz (σ' σ : nI2) : Prop := ∀ w, ¬ scr w → w ≠ (16, 0, 0) → σ' w = σ w
theorem EQx.z (E : EQx σ' σ) : EQz σ' σ := fun w h _ => E w h
theorem EQz.trans {σ'' : nI2} (E : EQz σ'' σ') (F : EQz σ' σ) : EQz σ'' σ := fun w h h2 => (E w h h2).trans (F w h h2)
theorem EQz.col (E : EQz σ' σ) {k j : Nat} (h : k ≠ 10) (h2 : k < 18) : σ' (17, k, j) = σ (17, k, j) := E _ (scr_no h h2) (fun q => by cases q)
theorem EQz.up {v : Int32} : EQz (up σ (16, 0, 0) v) σ := fun u _ hu => up_n _ _ hu
theorem FR.of {c j p : Nat} (E : EQz σ' σ) (h : FR cnt τ π σ c j p) : FR cnt τ π σ' c j p := by
  unfold FR at h ⊢
  rw [E.col (by decide) (by decide), E.col (by decide) (by decide), E.col (by decide) (by decide), E.col (by decide) (by decide), E.col (by decide) (by decide), E.col (k := 3) (by decide) (by decide)]
  exact h
theorem Rel.ofz (E : EQz σ' σ) (h : Rel n cnt τ π σ) : Rel n cnt τ π σ' := by
  obtain ⟨h1, h2, h3⟩ := h
  refine ⟨(E _ (by simp [scr]) (by simp)).trans h1, fun c hc => ?_, fun s hs => ?_⟩
  · obtain ⟨a, b, d⟩ := h2 c hc
    exact ⟨(E.col (by decide) (by decide)).trans a, (E.col (by decide) (by decide)).trans b, fun j hj => (d j hj).of E⟩
  · obtain ⟨a, b, d, e, f⟩ := h3 s hs
    exact ⟨(E.col (by decide) (by decide)).trans a, fun v hv => ⟨(E.col (by decide) (by decide)).trans (b v hv).1, (E.col (by decide) (by decide)).trans (b v hv).2⟩, fun v q1 q2 => (E.col (by decide) (by decide)).trans (d v q1 q2), (E.col (by decide) (by decide)).trans e, (E.col (by decide) (by decide)).trans f⟩
theorem Rel.of (E : EQx σ' σ) (h : Rel n cnt τ π σ) : Rel n cnt τ π σ' := h.ofz E.z
/-! rules -/
theorem m_V (h : zC V ad σ ρ ξ M) (hV : V (9, 0, 0)) {k : Nat} (hk : k < 23 ∧ k ≠ 0 ∧ k ≠ 9 ∧ k ≠ 16) : V (10, k, 0) := h.2.2.1 _ hV _ ⟨k, hk, rfl⟩
theorem m_r (h : zC V ad σ ρ ξ M) (hV : V (9, 0, 0)) (k : Nat) {K : Nat → Prop} (hK : K (ad (10, k, 0))) (hk : k < 23 ∧ k ≠ 0 ∧ k ≠ 9 ∧ k ≠ 16 := by decide) : zGr M (ad (9, 0, 0)) 7 k K := by
  refine ⟨_, ad (10, k, 0), h.1 _ hV, ?_, hK⟩
  obtain ⟨h1, h2, h3, h4⟩ := hk
  match k, h1, h2, h3, h4 with
  | 1, _, _, _, _ => rfl
  | 2, _, _, _, _ => rfl
  | 3, _, _, _, _ => rfl
  | 4, _, _, _, _ => rfl
  | 5, _, _, _, _ => rfl
  | 6, _, _, _, _ => rfl
  | 7, _, _, _, _ => rfl
  | 8, _, _, _, _ => rfl
  | 10, _, _, _, _ => rfl
  | 11, _, _, _, _ => rfl
  | 12, _, _, _, _ => rfl
  | 13, _, _, _, _ => rfl
  | 14, _, _, _, _ => rfl
  | 15, _, _, _, _ => rfl
  | 17, _, _, _, _ => rfl
  | 18, _, _, _, _ => rfl
  | 19, _, _, _, _ => rfl
  | 20, _, _, _, _ => rfl
  | 21, _, _, _, _ => rfl
  | 22, _, _, _, _ => rfl
  | k + 23, h1, _, _, _ => exact absurd h1 (by omega)
theorem a_i (h : zC V ad σ ρ ξ M) (hV : V (9, 0, 0)) (k j : Nat) {t : Nat} {x : Int32} (hx : x = nI j) (hj : j < cn k) {K : Int32 → Prop} (hK : K (σ (17, k, j))) (hk : k < 23 ∧ k ≠ 0 ∧ k ≠ 9 ∧ k ≠ 16 := by decide) (ht : ct k = t := by rfl) : zAi M t (ad (10, k, 0)) x K := by
  subst hx ht
  have hc : cn k < 2 ^ 31 := by unfold cn; repeat' split
                                all_goals omega
  refine ⟨_, _, h.1 _ (m_V h hV hk), vp_in_nI hj hc, ?_⟩
  rw [nI_clamp (by omega)]; exact hK
theorem col_up {k j : Nat} {v : Int32} : cell ad (up σ (17, k, j) v) ρ ξ (10, k, 0) = zI (ct k) (cn k) (upd (fun q => σ (17, k, q)) j v) := by
  have e0 : (fun q => up σ (17, k, j) v (17, k, q)) = upd (fun q => σ (17, k, q)) j v := by
    funext q
    simp only [upd, up, Prod.mk.injEq, true_and]
  show zI (ct k) (cn k) (fun q => up σ (17, k, j) v (17, k, q)) = _
  rw [e0]
theorem st_i (h : zC V ad σ ρ ξ M) (hV : V (9, 0, 0)) (k j : Nat) {x v : Int32} (hx : x = nI j) (hj : j < cn k) {K : zM → Prop} (hK : ∀ M', zC V ad (up σ (17, k, j) v) ρ ξ M' → K M') (hk : k < 23 ∧ k ≠ 0 ∧ k ≠ 9 ∧ k ≠ 16 := by decide) (ht : ct k = 0 := by rfl) : zSi M (ad (10, k, 0)) x v K := by
  subst hx
  have hc : cn k < 2 ^ 31 := by unfold cn; repeat' split
                                all_goals omega
  have hV10 := m_V h hV hk
  have h1 := h.1 _ hV10
  have h2 := h.I (17, k, j) v hV10 (fun e => by cases e)
  rw [show hI (17, k, j) = (10, k, 0) from rfl, col_up, ht] at h2
  rw [show cell ad σ ρ ξ (10, k, 0) = zI (ct k) (cn k) (fun q => σ (17, k, q)) from rfl, ht] at h1
  refine ⟨_, _, h1, vp_in_nI hj hc, ?_⟩
  rw [nI_clamp (by omega)]
  exact hK _ h2
theorem st_z (h : zC V ad σ ρ ξ M) (hV : V (9, 0, 0)) (k j : Nat) {x v : Int32} (hx : x = nI j) (hj : j < cn k) (hv : v = 0 ∨ v = 1) {K : zM → Prop} (hK : ∀ M', zC V ad (up σ (17, k, j) v) ρ ξ M' → K M') (hk : k < 23 ∧ k ≠ 0 ∧ k ≠ 9 ∧ k ≠ 16 := by decide) (ht : ct k = 1 := by rfl) : zSz M (ad (10, k, 0)) x v K := by
  subst hx
  have hc : cn k < 2 ^ 31 := by unfold cn; repeat' split
                                all_goals omega
  have hV10 := m_V h hV hk
  have h1 := h.1 _ hV10
  have h2 := h.I (17, k, j) v hV10 (fun e => by cases e)
  rw [show hI (17, k, j) = (10, k, 0) from rfl, col_up, ht] at h2
  rw [show cell ad σ ρ ξ (10, k, 0) = zI (ct k) (cn k) (fun q => σ (17, k, q)) from rfl, ht] at h1
  refine ⟨_, _, h1, vp_in_nI hj hc, hv, ?_⟩
  rw [nI_clamp (by omega)]
  exact hK _ h2
theorem p_0 (h : zC V ad σ ρ ξ M) (hV : V (9, 0, 0)) {v : Int32} {K : zM → Prop} (hK : ∀ M', zC V ad (up σ (16, 0, 0) v) ρ ξ M' → K M') : zPu M (ad (9, 0, 0)) 7 0 (.int v) K :=
  p_i h (16, 0, 0) hV rfl (by simp) (by simp [cell, hI, up, List.set]) hK
theorem p_9 (h : zC V ad σ ρ ξ M) (hV : V (9, 0, 0)) {v : Int32} {K : zM → Prop} (hK : ∀ M', zC V ad (up σ (16, 9, 0) v) ρ ξ M' → K M') : zPu M (ad (9, 0, 0)) 7 9 (.int v) K :=
  p_i h (16, 9, 0) hV rfl (by simp) (by simp [cell, hI, up, List.set]) hK
theorem p_16 (h : zC V ad σ ρ ξ M) (hV : V (9, 0, 0)) {v : Int32} {K : zM → Prop} (hK : ∀ M', zC V ad (up σ (16, 16, 0) v) ρ ξ M' → K M') : zPu M (ad (9, 0, 0)) 7 16 (.int v) K :=
  p_i h (16, 16, 0) hV rfl (by simp) (by simp [cell, hI, up, List.set]) hK
theorem n_ma (k i j : Nat) : nI k * nI i + nI j = nI (k * i + j) := by rw [pk_mul, nI_add]
/-! names -/
def nJ (o : Option Nat) : Int32 := match o with
  | some j => nI j
  | none => -1
theorem nI_m1 {j : Nat} (h : j < 2 ^ 31) : ¬ nI j = -1 := fun e => absurd (show nI j < 0 by rw [e]; decide) (nI_pos h)
theorem m_named (h : zC V ad σ ρ ξ M) (hV : V (9, 0, 0)) (R : Rel n cnt τ π σ) (hn : n ≤ 36) (hW : WC n τ π) {c : Nat} (hc : c ≤ n) {p : Int32} {P : Int32 → zM → Prop} (hP : P (nJ (nmd τ c p)) M) : w_X6_named (ad (9, 0, 0)) (nI (ix n c)) p M P := by
  obtain ⟨r1, r2, r3⟩ := R.2.1 c hc
  have z5 := (hW c hc).1.2
  have i36 := ix_le (c := c) hn
  have key : ∀ k i, i + k = zz τ c → P (nJ (lk (fun j => τ (8, c, j) == p) k i)) M → w_X6_named_2 (ad (9, 0, 0)) (nI (ix n c)) p P (k + 1) (nI i) M := by
    intro k
    induction k with
    | zero =>
      intro i hi hp
      refine m_r h hV 7 (a_i h hV 7 (ix n c) rfl (show ix n c < 37 by omega) ?_)
      rw [r1]
      exact br_t (nI_le (by omega) (by omega)) hp
    | succ k ih =>
      intro i hi hp
      obtain ⟨⟨f1, -⟩, -⟩ := r3 i (by omega)
      unfold lk at hp
      refine m_r h hV 7 (a_i h hV 7 (ix n c) rfl (show ix n c < 37 by omega) ?_)
      rw [r1]
      refine br_f (nI_ge (by omega) (by omega)) (m_r h hV 1 (a_i h hV 1 (5 * ix n c + i) (n_ma 5 _ _) (show 5 * ix n c + i < 185 by omega) ?_))
      rw [f1]
      refine ⟨fun e => ?_, fun e => ?_⟩
      · rw [nI_1]
        rw [if_neg (by simpa using e)] at hp
        exact ih (i + 1) (by omega) hp
      · rw [if_pos (by simpa using e)] at hp
        exact hp
  exact ⟨zz τ c + 1, key (zz τ c) 0 (by omega) hP⟩
theorem Rel.m1 (R : Rel n cnt τ π σ) {c : Nat} (hc : c ≤ n) : nmd τ c (-1) = none := by
  unfold nmd
  rw [lk_none]
  intro j _ hj
  obtain ⟨-, ⟨a, ha, e⟩, -⟩ := (R.2.1 c hc).2.2 j (by omega)
  rw [e]
  simpa using nI_m1 (j := a) (by omega)
theorem m_source (h : zC V ad σ ρ ξ M) (hV : V (9, 0, 0)) (R : Rel n cnt τ π σ) (hn : n ≤ 36) (hW : WC n τ π) {c w j : Nat} (hc : c ≤ n) (hw : w ≤ n) (hj : j < zz τ c) {P : Int32 → zM → Prop} (hP : P (nJ (srcC τ c j w)) M) : w_X6_source (ad (9, 0, 0)) (nI (5 * ix n c + j)) (nI (ix n w)) M P := by
  obtain ⟨r1, r2, r3⟩ := R.2.1 c hc
  have z5 := (hW c hc).1.2
  have i36 := ix_le (c := c) hn
  obtain ⟨⟨f1, f2, f3, -⟩, -⟩ := r3 j hj
  refine m_r h hV 1 (a_i h hV 1 (5 * ix n c + j) rfl (show 5 * ix n c + j < 185 by omega) ⟨g_is h hV rfl, ?_⟩)
  rw [f1]
  refine m_named h hV R hn hW hw ?_
  unfold srcC at hP
  cases e : nmd τ w (τ (8, c, j)) with
  | some s =>
    rw [e] at hP
    have hs := nmd_lt e
    have := (hW w hw).1.2
    exact (br_f (nI_m1 (by omega)) hP)
  | none =>
    rw [e] at hP
    refine br_t rfl (m_r h hV 4 (a_i h hV 4 (5 * ix n c + j) rfl (show 5 * ix n c + j < 185 by omega) ?_))
    rw [f3]
    refine ⟨fun e2 => m_r h hV 4 (a_i h hV 4 (5 * ix n c + j) rfl (show 5 * ix n c + j < 185 by omega) ⟨g_is h hV rfl, ?_⟩), fun e2 => ?_⟩
    · rw [f3]
      exact m_named h hV R hn hW hw hP
    · simp only [] at hP
      rw [e2, R.m1 hw] at hP
      exact hP
