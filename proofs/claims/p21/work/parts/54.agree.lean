/-! ===== the pure part: data that stays ===== -/
variable {Fm : zM} {V V' : nm → Prop} {ad ad' : nm → Nat} {σ σ' τ τ' : nI2} {ρ ρ' π π' : nN2} {ξ ξ' : Nat → zE} {M : zM} {x y w : nm} {n c d : Nat} {cnt cnt' : Nat → Nat}
/-- the schemas below d are the same -/
def Ag (d : Nat) (σ' σ : nI2) (ρ' ρ : nN2) : Prop := ∀ c, c < d → (∀ k j, 8 ≤ k → k ≤ 15 → σ' (k, c, j) = σ (k, c, j)) ∧ (∀ j, σ' (5, 3 + c, j) = σ (5, 3 + c, j)) ∧ σ' (4, 3 + c, 0) = σ (4, 3 + c, 0) ∧ σ' (7, 8 + c, 0) = σ (7, 8 + c, 0) ∧ (∀ j, ρ' (3, c, j) = ρ (3, c, j)) ∧ (∀ j, ρ' (4, 8 + c, j) = ρ (4, 8 + c, j)) ∧ ρ' (5, 8 + c, 0) = ρ (5, 8 + c, 0)
theorem Ag.less (A : Ag d σ' σ ρ' ρ) {e : Nat} (h : e ≤ d) : Ag e σ' σ ρ' ρ := fun c hc => A c (by omega)
theorem Ag.zq (A : Ag d σ' σ ρ' ρ) (hc : c < d) : zz σ' c = zz σ c := by
  have := (A c hc).2.2.2.1
  unfold zz
  rw [this]
theorem Ag.ln (A : Ag d σ' σ ρ' ρ) (hc : c < d) : lnn σ' c = lnn σ c := by
  have := (A c hc).2.2.1
  unfold lnn
  rw [this]
theorem Ag.rq (A : Ag d σ' σ ρ' ρ) (hc : c < d) (j : Nat) : rf ρ' c j = rf ρ c j := by
  have := (A c hc).2.2.2.2.1 j
  unfold rf
  rw [this]
/-- one schema as it is read; its begins; its places -/
def C1 (σ : nI2) (ρ : nN2) (c : Nat) : Prop := Sc σ ρ c ∧ ∀ j, j < zz σ c → (σ (14, c, j) = 0 ∨ σ (14, c, j) = 1) ∧ (σ (9, c, j) = 4 ↔ ρ (3, c, j) ≠ 0) ∧ (ρ (3, c, j) ≠ 0 → rf ρ c j < c)
def C2 (σ : nI2) (ρ : nN2) (c : Nat) : Prop := (σ (4, 3 + c, 0) = nI (bgn σ ρ c (zz σ c)) ∧ bgn σ ρ c (zz σ c) ≤ 20) ∧ ∀ j, j < zz σ c → σ (13, c, j) = nI (bgn σ ρ c j) ∧ (ρ (3, c, j) ≠ 0 → σ (14, c, j) = 0)
def C3 (σ : nI2) (ρ : nN2) (c : Nat) : Prop := ∀ j, j < zz σ c → (ρ (3, c, j) = 0 → σ (5, 3 + c, bgn σ ρ c j) = σ (10, c, j) ∧ ∃ d, d ≤ 4 ∧ σ (10, c, j) = nI d ∧ (σ (9, c, j) = 3 → d ≠ 0)) ∧ (ρ (3, c, j) ≠ 0 → ∀ q, q < lnn σ (rf ρ c j) → σ (5, 3 + c, bgn σ ρ c j + q) = σ (5, 3 + rf ρ c j, q))
def C0 (σ : nI2) (ρ : nN2) (c : Nat) : Prop := C1 σ ρ c ∧ C2 σ ρ c ∧ C3 σ ρ c
theorem Ag.bg (A : Ag d σ' σ ρ' ρ) (hc : c < d) (hr : ∀ j, j < zz σ c → ρ (3, c, j) ≠ 0 → rf ρ c j < c) : ∀ j, j ≤ zz σ c → bgn σ' ρ' c j = bgn σ ρ c j := by
  intro j
  induction j with
  | zero => intro _; rfl
  | succ j ih =>
    intro hj
    show bgn σ' ρ' c j + pcs σ' ρ' c j = bgn σ ρ c j + pcs σ ρ c j
    rw [ih (by omega)]
    have e3 := (A c hc).2.2.2.2.1 j
    unfold pcs
    rw [e3, A.rq hc]
    by_cases e : ρ (3, c, j) = 0
    · rw [if_pos e, if_pos e]
    · rw [if_neg e, if_neg e, A.ln (by have := hr j (by omega) e; omega)]
theorem Ag.c1 (A : Ag d σ' σ ρ' ρ) (hc : c < d) (h : C1 σ ρ c) : C1 σ' ρ' c := by
  obtain ⟨a1, a2, a3, a4, a5, a6, a7⟩ := A c hc
  obtain ⟨⟨h1, h2⟩, h3⟩ := h
  refine ⟨⟨?_, ?_⟩, fun j hj => ?_⟩
  · rw [A.zq hc]; exact Ls_of a4 a6 a7 h1
  · rw [A.zq hc]; exact h2
  · rw [A.zq hc] at hj
    rw [a1 14 j (by omega) (by omega), a1 9 j (by omega) (by omega), a5, A.rq hc]
    exact h3 j hj
theorem Ag.c2 (A : Ag d σ' σ ρ' ρ) (hc : c < d) (h1 : C1 σ ρ c) (h : C2 σ ρ c) : C2 σ' ρ' c := by
  obtain ⟨a1, a2, a3, a4, a5, a6, a7⟩ := A c hc
  have hb := A.bg hc (fun j hj => (h1.2 j hj).2.2)
  obtain ⟨h2, h3⟩ := h
  refine ⟨?_, fun j hj => ?_⟩
  · rw [A.zq hc, a3, hb _ (Nat.le_refl _)]; exact h2
  · rw [A.zq hc] at hj
    rw [a1 13 j (by omega) (by omega), a1 14 j (by omega) (by omega), a5, hb _ (by omega)]
    exact h3 j hj
theorem Ag.c3 (A : Ag d σ' σ ρ' ρ) (hc : c < d) (h1 : C1 σ ρ c) (h : C3 σ ρ c) : C3 σ' ρ' c := by
  obtain ⟨a1, a2, a3, a4, a5, a6, a7⟩ := A c hc
  have hb := A.bg hc (fun j hj => (h1.2 j hj).2.2)
  intro j hj
  rw [A.zq hc] at hj
  obtain ⟨q1, q2⟩ := h j hj
  rw [a5, A.rq hc, hb _ (by omega), a1 10 j (by omega) (by omega), a1 9 j (by omega) (by omega), a2]
  refine ⟨q1, fun e q hq => ?_⟩
  have hlt := (h1.2 j hj).2.2 e
  rw [A.ln (by omega)] at hq
  rw [a2, (A _ (show rf ρ c j < d by omega)).2.1 q]
  exact q2 e q hq
theorem Ag.c0 (A : Ag d σ' σ ρ' ρ) (hc : c < d) (h : C0 σ ρ c) : C0 σ' ρ' c := ⟨A.c1 hc h.1, A.c2 hc h.1 h.2.1, A.c3 hc h.1 h.2.2⟩
theorem C0_all (h1 : WC n σ ρ) (h2 : WP n σ ρ) (h3 : WQ n σ ρ) : ∀ c, c ≤ n → C0 σ ρ c := fun c hc => ⟨h1 c hc, h2 c hc, h3 c hc⟩
theorem C0_w (h : ∀ c, c ≤ n → C0 σ ρ c) : WC n σ ρ ∧ WP n σ ρ ∧ WQ n σ ρ := ⟨fun c hc => (h c hc).1, fun c hc => (h c hc).2.1, fun c hc => (h c hc).2.2⟩
/-- a schema without fields -/
def Em (σ : nI2) (ρ : nN2) (c : Nat) : Prop := σ (7, 8 + c, 0) = 0 ∧ (∀ j, ρ (4, 8 + c, j) = 0) ∧ ρ (5, 8 + c, 0) ≤ 100 ∧ σ (4, 3 + c, 0) = 0
theorem Em.z (h : Em σ ρ c) : zz σ c = 0 := by
  unfold zz
  rw [h.1]; rfl
theorem Em.l (h : Em σ ρ c) : lnn σ c = 0 := by
  unfold lnn
  rw [h.2.2.2]; rfl
theorem Em.c0 (h : Em σ ρ c) : C0 σ ρ c := by
  have z := h.z
  refine ⟨⟨⟨?_, by omega⟩, fun j hj => by omega⟩, ⟨⟨?_, ?_⟩, fun j hj => by omega⟩, fun j hj => by omega⟩
  · rw [z]; exact ⟨h.1, fun j => ⟨fun q => absurd (h.2.1 j) q, fun q => absurd q (by omega)⟩, by omega, h.2.2.1⟩
  · rw [z, h.2.2.2]; rfl
  · rw [z]; exact Nat.zero_le _
/-- subjects -/
def Tot (cnt : Nat → Nat) : Nat := cnt 0 + cnt 1 + cnt 2 + cnt 3 + cnt 4 + cnt 5
def SbK (n : Nat) (cnt : Nat → Nat) (σ : nI2) (ρ : nN2) (s : Nat) : Prop := Ls σ ρ (2 + s) (cnt s) ∧ cnt s ≤ 6 ∧ ∀ v, v < cnt s → (σ (2, s, v) = 0 ∨ σ (2, s, v) = 1 ∨ σ (2, s, v) = 2) ∧ ρ (2, s, v) < n
theorem Tot_lt (h6 : ∀ s, s < 6 → cnt s ≤ 6) {s : Nat} (hs : s < 6) (h : cnt s < 6) (hn : n ≤ Tot cnt) : n < 36 := by
  unfold Tot at hn
  have q0 := h6 0 (by omega)
  have q1 := h6 1 (by omega)
  have q2 := h6 2 (by omega)
  have q3 := h6 3 (by omega)
  have q4 := h6 4 (by omega)
  have q5 := h6 5 (by omega)
  have : s = 0 ∨ s = 1 ∨ s = 2 ∨ s = 3 ∨ s = 4 ∨ s = 5 := by omega
  rcases this with rfl | rfl | rfl | rfl | rfl | rfl <;> omega
/-- all that is known of the class's data -/
def Dat (n : Nat) (cnt : Nat → Nat) (σ : nI2) (ρ : nN2) : Prop := (Ls σ ρ 0 6 ∧ Ls σ ρ 1 n ∧ n ≤ 36 ∧ ρ (0, 0, 0) = n) ∧ (∀ s, s < 6 → SbK n cnt σ ρ s) ∧ (∀ c, c ≤ n → C0 σ ρ c) ∧ (∀ c, c < n → 1 ≤ lnn σ c) ∧ WM σ ∧ (∀ c, c < n → σ (3, c, 0) = nI c) ∧ n ≤ Tot cnt
theorem Dat.wk (h : Dat n cnt σ ρ) : WK n cnt σ ρ := ⟨h.1, h.2.1, (C0_w h.2.2.1).1⟩
theorem Dat.wp (h : Dat n cnt σ ρ) : WP n σ ρ := (C0_w h.2.2.1).2.1
theorem Dat.wq (h : Dat n cnt σ ρ) : WQ n σ ρ := (C0_w h.2.2.1).2.2
theorem Dat.N0 (h : Dat n cnt σ ρ) : ∀ c, c < n → 1 ≤ lnn σ c := h.2.2.2.1
theorem Dat.wm (h : Dat n cnt σ ρ) : WM σ := h.2.2.2.2.1
theorem Dat.rank (h : Dat n cnt σ ρ) : ∀ c, c < n → σ (3, c, 0) = nI c := h.2.2.2.2.2.1
theorem Dat.T (h : Dat n cnt σ ρ) : ∀ s, s < 6 → cnt s < 6 → n < 36 := fun _ hs h6 => Tot_lt (fun s hs => (h.2.1 s hs).2.1) hs h6 h.2.2.2.2.2.2
/-- the ints of the class are the same -/
def EQl (σ' σ : nI2) : Prop := ∀ w : nm, w.1 < 16 → σ' w = σ w
theorem EQl.refl : EQl σ σ := fun _ _ => rfl
theorem EQl.ag (E : EQl σ' σ) : Ag d σ' σ ρ ρ := fun c _ => ⟨fun k j _ h => E _ (by simp only; omega), fun j => E _ (by simp), E _ (by simp), E _ (by simp), fun _ => rfl, fun _ => rfl, rfl⟩
theorem EQl.u0 {k j : Nat} {v : Int32} {i : Nat} (h : 16 ≤ k) : EQl (up σ (k, i, j) v) σ := fun w hw => up_n _ _ (fun e => by rw [e] at hw; simp only at hw; omega)
theorem EQl.trans {σ'' : nI2} (E : EQl σ'' σ') (F : EQl σ' σ) : EQl σ'' σ := fun w h => (E w h).trans (F w h)
theorem EQl.dat (E : EQl σ' σ) (h : Dat n cnt σ ρ) : Dat n cnt σ' ρ := by
  obtain ⟨⟨a1, a2, a3, a4⟩, b, c, d, e, f, g⟩ := h
  refine ⟨⟨Ls_of (E _ (by simp)) (fun _ => rfl) rfl a1, Ls_of (E _ (by simp)) (fun _ => rfl) rfl a2, a3, a4⟩, fun s hs => ?_, fun q hq => (E.ag (d := n + 1)).c0 (by omega) (c q hq), fun q hq => ?_, fun s hs => ?_, fun q hq => (E _ (by simp)).trans (f q hq), g⟩
  · obtain ⟨s1, s2, s3⟩ := b s hs
    exact ⟨Ls_of (E _ (by simp)) (fun _ => rfl) rfl s1, s2, fun v hv => by rw [E _ (by simp)]; exact s3 v hv⟩
  · rw [(E.ag (ρ := ρ) (d := n + 1)).ln (by omega)]; exact d q hq
  · rw [E _ (by simp), E _ (by simp)]; exact e s hs
