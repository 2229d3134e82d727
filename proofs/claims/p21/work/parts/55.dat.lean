/-! ===== the pure part: data after calls ===== -/
variable {Fm : zM} {V V' : nm → Prop} {ad ad' : nm → Nat} {σ σ' τ τ' X S : nI2} {ρ ρ' π π' : nN2} {ξ ξ' : Nat → zE} {M : zM} {x y w : nm} {n n' c d s i k : Nat} {cnt cnt' : Nat → Nat}
theorem Dat.of (h : Dat n cnt σ ρ) (hC : ∀ c, c ≤ n → C0 σ' ρ' c) (hN : ∀ c, c < n → lnn σ' c = lnn σ c) (hl : ∀ l, l < 8 → σ' (7, l, 0) = σ (7, l, 0) ∧ (∀ j, ρ' (4, l, j) = ρ (4, l, j)) ∧ ρ' (5, l, 0) = ρ (5, l, 0)) (h0 : ρ' (0, 0, 0) = ρ (0, 0, 0)) (hv : ∀ s v, s < 6 → v < cnt s → (σ' (2, s, v) = 0 ∨ σ' (2, s, v) = 1 ∨ σ' (2, s, v) = 2) ∧ ρ' (2, s, v) = ρ (2, s, v)) (hm : WM σ') (h3 : ∀ c, c < n → σ' (3, c, 0) = σ (3, c, 0)) : Dat n cnt σ' ρ' := by
  obtain ⟨⟨a1, a2, a3, a4⟩, b, -, d, -, f, g⟩ := h
  refine ⟨⟨Ls_of (hl 0 (by omega)).1 (hl 0 (by omega)).2.1 (hl 0 (by omega)).2.2 a1, Ls_of (hl 1 (by omega)).1 (hl 1 (by omega)).2.1 (hl 1 (by omega)).2.2 a2, a3, h0.trans a4⟩, fun s hs => ?_, hC, fun c hc => by rw [hN c hc]; exact d c hc, hm, fun c hc => (h3 c hc).trans (f c hc), g⟩
  obtain ⟨s1, s2, s3⟩ := b s hs
  have q := hl (2 + s) (by omega)
  exact ⟨Ls_of q.1 q.2.1 q.2.2 s1, s2, fun v hv' => ⟨(hv s v hs hv').1, by rw [(hv s v hs hv').2]; exact (s3 v hv').2⟩⟩
def EQs (σ' σ : nI2) : Prop := ∀ w : nm, w.1 < 16 → ((w.1 = 4 ∨ w.1 = 5) → 3 ≤ w.2.1) → σ' w = σ w
theorem EQr.toS {s : Nat} (hs : s < 3) (E : EQr 2 s σ' σ) : EQs σ' σ := fun w _ h => E w fun q => by have := h q; omega
theorem EQs.ag (E : EQs σ' σ) : Ag d σ' σ ρ ρ := fun c _ => ⟨fun k j _ h => E _ (by simp only; omega) (fun q => by simp only at q; omega), fun j => E _ (by simp) (fun _ => by simp only; omega), E _ (by simp) (fun _ => by simp only; omega), E _ (by simp) (fun q => by simp at q), fun _ => rfl, fun _ => rfl, rfl⟩
theorem EQs.dat (E : EQs σ' σ) (h : Dat n cnt σ ρ) : Dat n cnt σ' ρ := by
  have F : ∀ k i j, k < 4 ∨ (5 < k ∧ k < 16) → σ' (k, i, j) = σ (k, i, j) := fun k i j hk => E _ (by simp only; omega) (fun q => by simp only at q; omega)
  refine h.of (fun c hc => (E.ag (d := n + 1)).c0 (by omega) (h.2.2.1 c hc)) (fun c hc => (E.ag (ρ := ρ) (d := n + 1)).ln (by omega)) (fun l hl => ⟨F _ _ _ (by omega), fun _ => rfl, rfl⟩) rfl (fun s v hs hv => ⟨?_, rfl⟩) (fun s hs => ?_) (fun c hc => F _ _ _ (by omega))
  · rw [F 2 s v (by omega)]; exact (h.wk.2.1 s hs).2.2 v hv |>.1
  · rw [F 0 s 0 (by omega), F 1 s 0 (by omega)]; exact h.wm s hs
theorem EQs.u {k r j : Nat} {v : Int32} (hk : k = 4 ∨ k = 5) (hr : r < 3) : EQs (up σ (k, r, j) v) σ := fun w _ h => up_n _ _ (fun e => by rw [e] at h; have := h hk; simp only at this; omega)
theorem EQs.trans {σ'' : nI2} (E : EQs σ'' σ') (F : EQs σ' σ) : EQs σ'' σ := fun w h h1 => (E w h h1).trans (F w h h1)
theorem EQl.u {w : nm} {v : Int32} (h : 16 ≤ w.1) : EQl (up σ w v) σ := fun u hu => up_n _ _ (fun e => by rw [e] at hu; omega)
theorem Bd.mono (hz : ∀ c, c ≤ n → zz σ c ≤ zz σ' c) (hc : ∀ s, cnt s ≤ cnt' s) (hn : n ≤ n') (B : Bd n cnt σ y) : Bd n' cnt' σ' y := by
  obtain ⟨b1, b2, b3, b4, b5, b6, b7⟩ := B
  refine ⟨b1, fun e => by have := b2 e; omega, fun e => Nat.lt_of_lt_of_le (b3 e) (hc _), fun e => by have := b4 e; omega, fun e => by have := b5 e; omega, fun e => ?_, b7⟩
  obtain ⟨q1, q2⟩ := b6 e
  exact ⟨by omega, Nat.lt_of_lt_of_le q2 (hz _ q1)⟩
theorem EQs.zz (E : EQs σ' σ) (c : Nat) : zz σ' c = zz σ c := (E.ag (ρ := fun _ => 0) (d := c + 1)).zq (by omega)
theorem EQl.zz (E : EQl σ' σ) (c : Nat) : zz σ' c = zz σ c := (E.ag (ρ := fun _ => 0) (d := c + 1)).zq (by omega)
theorem refs_8 (h : refs ρ x y) (h8 : y.1 = 8) : ρ (4, 8 + y.2.1, y.2.2) ≠ 0 := by
  obtain ⟨k, i, j⟩ := x
  match k, h with
  | 0, h => simp only [refs] at h; rcases h with rfl | rfl | rfl | rfl | rfl | rfl <;> simp at h8
  | 1, h => simp only [refs] at h; subst h; simp at h8
  | 2, h => simp only [refs] at h; subst h; simp at h8
  | 3, h =>
    obtain ⟨q, hq, rfl⟩ := h
    simp only at hq h8 ⊢
    unfold el at h8 ⊢
    by_cases e0 : i = 0
    · rw [if_pos e0] at h8; simp at h8
    · rw [if_neg e0] at h8 ⊢
      by_cases e1 : i = 1
      · rw [if_pos e1] at h8; simp at h8
      · rw [if_neg e1] at h8 ⊢
        by_cases e8 : i < 8
        · rw [if_pos e8] at h8; simp at h8
        · rw [if_neg e8]
          have : 8 + (i - 8) = i := by omega
          show ρ (4, 8 + (i - 8), q) ≠ 0
          rw [this]; exact hq
  | 4, h => simp only [refs] at h; subst h; simp at h8
  | 5, h => simp only [refs] at h; rcases h with rfl | rfl <;> simp at h8
  | 6, h => simp only [refs] at h; subst h; simp at h8
  | 7, h => exact h.elim
  | 8, h => obtain ⟨-, h⟩ := h; subst h; simp at h8
  | 9, h => obtain ⟨q, -, rfl⟩ := h; simp at h8
  | 10, h => exact h.elim
  | k + 11, h => exact h.elim
theorem zC.drop (h : zC Fm V ad σ ρ ξ M) (h4 : ∀ j, ρ (4, 8 + n, j) = 0) : zC Fm (fun y => V y ∧ ¬ (y.1 = 8 ∧ y.2.1 = n)) ad σ ρ ξ M :=
  h.less (fun y hy => hy.1) (fun y hy u hu => ⟨h.2.2.1 y hy.1 u hu, fun e => refs_8 hu e.1 (by rw [e.2]; exact h4 _)⟩)
theorem Bd.drop (hz : ∀ c, c < n → zz σ c ≤ zz σ' c) (hc : ∀ s, cnt s ≤ cnt' s) (B : Bd n cnt σ y) (h8 : ¬ (y.1 = 8 ∧ y.2.1 = n)) : Bd n cnt' σ' y := by
  obtain ⟨b1, b2, b3, b4, b5, b6, b7⟩ := B
  refine ⟨b1, b2, fun e => Nat.lt_of_lt_of_le (b3 e) (hc _), b4, b5, fun e => ?_, b7⟩
  obtain ⟨q1, q2⟩ := b6 e
  exact ⟨q1, Nat.lt_of_lt_of_le q2 (hz _ (by omega))⟩

theorem em_ag : Ag n (emS σ n) σ (clr ρ (8 + n) d) ρ := fun c hc => ⟨fun k j q1 q2 => emS_n (fun e => by cases e; omega) (fun e => by cases e; omega) (fun e => by cases e; omega), fun j => emS_n (fun e => by cases e) (fun e => by cases e) (fun e => by cases e), emS_n (fun e => by cases e) (fun e => by cases e) (fun e => by have := congrArg (fun w : nm => w.2.1) e; simp only at this; omega), emS_n (fun e => by cases e) (fun e => by have := congrArg (fun w : nm => w.2.1) e; simp only at this; omega) (fun e => by cases e), fun j => clr_n _ _ _ (Or.inl (by simp)), fun j => clr_n _ _ _ (Or.inr (by simp only; omega)), clr_n _ _ _ (Or.inl (by simp))⟩
theorem em_em (h : Dat n cnt σ ρ) : Em (emS σ n) (clr ρ (8 + n) (zz σ n)) n := by
  obtain ⟨⟨q1, q2, q3, q4⟩, -⟩ := (h.2.2.1 n (Nat.le_refl n)).1.1
  refine ⟨?_, fun j => ?_, ?_, up_s _ _ _⟩
  · unfold emS; rw [up_n _ _ (fun e => by cases e), up_s]
  · rw [clr_4]
    by_cases e : j < zz σ n
    · rw [if_pos e]
    · rw [if_neg e]; exact Classical.byContradiction fun q => e ((q2 j).1 q)
  · rw [clr_n _ _ _ (Or.inl (by simp))]; exact q4
theorem em_dat (h : Dat n cnt σ ρ) : Dat n cnt (emS σ n) (clr ρ (8 + n) (zz σ n)) := by
  refine h.of (fun c hc => ?_) (fun c hc => (em_ag (ρ := ρ) (d := 0)).ln hc) (fun l hl => ⟨emS_n (fun e => by cases e) (fun e => by have := congrArg (fun w : nm => w.2.1) e; simp only at this; omega) (fun e => by cases e), fun j => clr_n _ _ _ (Or.inr (by simp only; omega)), clr_n _ _ _ (Or.inl (by simp))⟩) (clr_n _ _ _ (Or.inl (by simp))) (fun s v hs hv => ⟨?_, clr_n _ _ _ (Or.inl (by simp))⟩) (fun s hs => ?_) (fun c hc => emS_n (fun e => by cases e) (fun e => by cases e) (fun e => by cases e))
  · by_cases e : c < n
    · exact em_ag.c0 e (h.2.2.1 c hc)
    · obtain rfl : c = n := by omega
      exact (em_em h).c0
  · rw [emS_n (fun e => by cases e) (fun e => by cases e) (fun e => by cases e)]; exact ((h.wk.2.1 s hs).2.2 v hv).1
  · rw [emS_n (fun e => by cases e) (fun e => by cases e) (fun e => by cases e), emS_n (fun e => by cases e) (fun e => by cases e) (fun e => by cases e)]; exact h.wm s hs
theorem fK_n {p0 p1 p2 p3 : Int32} {k : Nat} {g : Nat → Int32} {p i q : Nat} (h4 : (p ≠ 4 ∧ p ≠ 5) ∨ i ≠ 3 + n) (h6 : (p ≠ 6 ∧ p ≠ 7) ∨ i ≠ 8 + n) (h8 : p < 8 ∨ 15 < p ∨ i ≠ n ∨ q ≠ zz σ n) : fK σ n p0 p1 p2 p3 k g (p, i, q) = σ (p, i, q) := by
  unfold fK
  rw [rAdd_n (fun e => by cases e; omega) (by simp only; omega), f3_n (fun e => by cases e; omega) (fun e => by cases e; omega) (fun e => by cases e; omega)]
  refine f1_n ?_
  by_cases e : 8 ≤ p ∧ p ≤ 15
  · refine Or.inl fun q => ?_
    cases q; omega
  · simp only; omega
theorem fK_4 {p0 p1 p2 p3 : Int32} {k : Nat} {g : Nat → Int32} : fK σ n p0 p1 p2 p3 k g (4, 3 + n, 0) = nI (lnn σ n + k) := if_pos rfl
theorem fK_7 {p0 p1 p2 p3 : Int32} {k : Nat} {g : Nat → Int32} : fK σ n p0 p1 p2 p3 k g (7, 8 + n, 0) = nI (zz σ n + 1) := by
  unfold fK
  rw [rAdd_n (fun e => by cases e) (Or.inl (by simp))]
  exact up_s _ _ _
theorem fK_5 {p0 p1 p2 p3 : Int32} {k : Nat} {g : Nat → Int32} {q : Nat} : fK σ n p0 p1 p2 p3 k g (5, 3 + n, q) = if lnn σ n ≤ q ∧ q < lnn σ n + k then g (q - lnn σ n) else σ (5, 3 + n, q) := by
  unfold fK rAdd
  rw [if_neg (fun e => by cases e)]
  by_cases e : lnn σ n ≤ q ∧ q < lnn σ n + k
  · rw [if_pos e, if_pos ⟨rfl, rfl, e⟩]
  · rw [if_neg e, if_neg (fun q => e q.2.2), f3_n (fun e => by cases e) (fun e => by cases e) (fun e => by cases e)]
    exact f1_n (Or.inr (Or.inl (by simp)))
theorem fK_8 {p0 p1 p2 p3 : Int32} {k : Nat} {g : Nat → Int32} : fK σ n p0 p1 p2 p3 k g (8, n, zz σ n) = p0 ∧ fK σ n p0 p1 p2 p3 k g (9, n, zz σ n) = p1 ∧ fK σ n p0 p1 p2 p3 k g (10, n, zz σ n) = szO p1 p2 ∧ fK σ n p0 p1 p2 p3 k g (11, n, zz σ n) = p3 ∧ fK σ n p0 p1 p2 p3 k g (12, n, zz σ n) = (if p1 = 4 then p2 else -1) ∧ fK σ n p0 p1 p2 p3 k g (14, n, zz σ n) = 0 ∧ fK σ n p0 p1 p2 p3 k g (15, n, zz σ n) = 0 := by
  have q : ∀ p, 8 ≤ p → p ≠ 13 → fK σ n p0 p1 p2 p3 k g (p, n, zz σ n) = f1 σ n (zz σ n) p0 p1 p2 p3 (if p1 = 4 then p2 else -1) (p, n, zz σ n) := fun p hp h13 => by
    unfold fK
    have ne : ∀ a i j, a < 8 ∨ a = 13 → ((p, n, zz σ n) : nm) ≠ (a, i, j) := fun a i j ha e => by have := congrArg Prod.fst e; simp only at this; omega
    rw [rAdd_n (ne _ _ _ (by omega)) (by simp only; omega), f3_n (ne _ _ _ (by omega)) (ne _ _ _ (by omega)) (ne _ _ _ (by omega))]
  refine ⟨?_, ?_, ?_, ?_, ?_, ?_, ?_⟩
  · rw [q 8 (by omega) (by omega)]; simp [f1, up]
  · rw [q 9 (by omega) (by omega)]; simp [f1, up]
  · rw [q 10 (by omega) (by omega)]; simp [f1, up]
  · rw [q 11 (by omega) (by omega)]; simp [f1, up]
  · rw [q 12 (by omega) (by omega)]; simp [f1, up]
  · rw [q 14 (by omega) (by omega)]; simp [f1, f0, up]
  · rw [q 15 (by omega) (by omega)]; simp [f1, f0, up]
theorem fK_13 {p0 p1 p2 p3 : Int32} {k : Nat} {g : Nat → Int32} : fK σ n p0 p1 p2 p3 k g (13, n, zz σ n) = nI (lnn σ n) := by
  unfold fK
  rw [rAdd_n (fun e => by cases e) (Or.inl (by simp))]
  unfold f3
  rw [up_n _ _ (fun e => by cases e), up_n _ _ (fun e => by cases e), up_s]
theorem Mor.uni {p1 p2 : Int32} {k k' : Nat} (hc6 : ∀ s, s < 6 → cnt s ≤ 6) (h : Mor cnt τ π p1 p2 k) (h' : Mor cnt τ π p1 p2 k') : k' = k := by
  rcases h with ⟨a, b⟩ | ⟨a, s, v, b, e⟩
  · rcases h' with ⟨a', b'⟩ | ⟨a', -⟩
    · rw [b, b']
    · exact absurd a' a
  · rcases h' with ⟨a', -⟩ | ⟨a', s', v', b', e'⟩
    · exact absurd a a'
    · obtain ⟨rfl, rfl⟩ := b.uni hc6 b'
      rw [e, e']
def uc (cnt : Nat → Nat) (s : Nat) : Nat → Nat := fun t => if t = s then cnt s + 1 else cnt t
theorem uc_s : uc cnt s s = cnt s + 1 := if_pos rfl
theorem uc_n {t : Nat} (h : t ≠ s) : uc cnt s t = cnt t := if_neg h
theorem uc_le (t : Nat) : cnt t ≤ uc cnt s t := by
  by_cases e : t = s
  · rw [e, uc_s]; omega
  · rw [uc_n e]; exact Nat.le_refl _
theorem uc_tot (hs : s < 6) : Tot (uc cnt s) = Tot cnt + 1 := by
  unfold Tot uc
  have : s = 0 ∨ s = 1 ∨ s = 2 ∨ s = 3 ∨ s = 4 ∨ s = 5 := by omega
  rcases this with rfl | rfl | rfl | rfl | rfl | rfl <;> simp <;> omega
theorem Dat.reg (h : Dat n cnt σ ρ) (hs : s < 6) (hk : cnt s < 6) (hnn : n' ≤ n + 1 ∧ n' ≤ 36 ∧ n ≤ n') (hi : i < n') (hC : ∀ c, c ≤ n' → C0 σ' ρ' c) (hN : ∀ c, c < n' → 1 ≤ lnn σ' c) (hl : ∀ l, l < 8 → l ≠ 1 → l ≠ 2 + s → σ' (7, l, 0) = σ (7, l, 0) ∧ (∀ j, ρ' (4, l, j) = ρ (4, l, j)) ∧ ρ' (5, l, 0) = ρ (5, l, 0)) (hl1 : Ls σ' ρ' 1 n') (hls : Ls σ' ρ' (2 + s) (cnt s + 1)) (h0 : ρ' (0, 0, 0) = n')
    (hv : ∀ t v, t ≠ s ∨ v ≠ cnt s → σ' (2, t, v) = σ (2, t, v) ∧ ρ' (2, t, v) = ρ (2, t, v)) (hvs : σ' (2, s, cnt s) = 0 ∧ ρ' (2, s, cnt s) = i) (hm : ∀ t, σ' (0, t, 0) = σ (0, t, 0) ∧ σ' (1, t, 0) = σ (1, t, 0)) (h3 : ∀ c, c < n' → σ' (3, c, 0) = nI c) : Dat n' (uc cnt s) σ' ρ' := by
  obtain ⟨⟨a1, a2, a3, a4⟩, b, -, d, e, f, g⟩ := h
  have q0 := hl 0 (by omega) (by omega) (by omega)
  refine ⟨⟨Ls_of q0.1 q0.2.1 q0.2.2 a1, hl1, hnn.2.1, h0⟩, fun t ht => ?_, hC, hN, fun t ht => by rw [(hm t).1, (hm t).2]; exact e t ht, h3, by rw [uc_tot hs]; omega⟩
  obtain ⟨s1, s2, s3⟩ := b t ht
  by_cases e : t = s
  · subst e
    refine ⟨by rw [uc_s]; exact hls, by rw [uc_s]; omega, fun v hv' => ?_⟩
    rw [uc_s] at hv'
    by_cases e2 : v = cnt t
    · rw [e2, hvs.1, hvs.2]; exact ⟨Or.inl rfl, hi⟩
    · rw [(hv t v (Or.inr e2)).1, (hv t v (Or.inr e2)).2]
      have := s3 v (by omega)
      exact ⟨this.1, by omega⟩
  · have q := hl (2 + t) (by omega) (by omega) (by omega)
    refine ⟨by rw [uc_n e]; exact Ls_of q.1 q.2.1 q.2.2 s1, by rw [uc_n e]; exact s2, fun v hv' => ?_⟩
    rw [uc_n e] at hv'
    rw [(hv t v (Or.inl e)).1, (hv t v (Or.inl e)).2]
    have := s3 v hv'
    exact ⟨this.1, by omega⟩
theorem va_2 : vaI σ s k (2, s, k) = 0 := by
  unfold vaI
  rw [up_n _ _ (fun e => by cases e), up_n _ _ (fun e => by cases e), up_s]
theorem tk_3 : tkI σ n (3, n, 0) = nI n := by
  unfold tkI
  rw [ovI_n (Or.inr (by simp only; omega)) (Or.inl (by simp)) (Or.inl (by simp))]
  unfold tk0
  rw [up_n _ _ (fun e => by cases e), up_n _ _ (fun e => by cases e), up_s]
theorem tk_3n (h : c < n) : tkI σ n (3, c, 0) = σ (3, c, 0) := by
  unfold tkI
  rw [ovI_n (Or.inr (by simp only; omega)) (Or.inl (by simp)) (Or.inl (by simp))]
  unfold tk0
  rw [up_n _ _ (fun e => by cases e), up_n _ _ (fun e => by cases e), up_n _ _ (fun e => by cases e; omega)]
theorem lnn_pos (h : Dat n cnt σ ρ) (hz : zz σ n ≠ 0) : 1 ≤ lnn σ n := by
  obtain ⟨n1, n2, n3⟩ := h.2.2.1 n (Nat.le_refl n)
  rw [(h.wp.lnn (Nat.le_refl n)).1]
  obtain ⟨z, hz⟩ : ∃ z, zz σ n = z + 1 := ⟨zz σ n - 1, by omega⟩
  rw [hz]
  show 1 ≤ bgn σ ρ n z + pcs σ ρ n z
  have : 1 ≤ pcs σ ρ n z := by
    unfold pcs
    by_cases e : ρ (3, n, z) = 0
    · rw [if_pos e]; omega
    · rw [if_neg e]; exact h.N0 _ ((n1.2 z (by omega)).2.2 e)
  omega
theorem Mor.ref {p1 p2 : Int32} {k : Nat} (h : Mor cnt τ π p1 p2 k) (e : p1 = 4) (no : ∀ s v, ¬ RefOK cnt τ p2 s v) {P : Prop} : P := by
  rcases h with ⟨q, -⟩ | ⟨-, s, v, q, -⟩
  · exact absurd e q
  · exact absurd q (no s v)
/-! names differ, defaults are values, sizes go with types -/
def X4 (σ : nI2) (c : Nat) : Prop := (∀ i j, i < zz σ c → j < zz σ c → σ (8, c, i) = σ (8, c, j) → i = j) ∧ ∀ j, j < zz σ c → (σ (14, c, j) ≠ 0 → ofS (σ (15, c, j)) (σ (10, c, j)) = true) ∧ (σ (9, c, j) = 2 → σ (10, c, j) = 2) ∧ (σ (9, c, j) ≠ 2 → σ (9, c, j) ≠ 3 → σ (10, c, j) = 0) ∧ ∃ a, a < 10 ∧ σ (8, c, j) = nI a
theorem Ag.x4 (A : Ag d σ' σ ρ' ρ) (hc : c < d) (h : X4 σ c) : X4 σ' c := by
  have K := (A c hc).1
  unfold X4
  rw [A.zq hc]
  refine ⟨fun i j hi hj => ?_, fun j hj => ?_⟩
  · rw [K 8 i (by omega) (by omega), K 8 j (by omega) (by omega)]; exact h.1 i j hi hj
  · rw [K 8 j (by omega) (by omega), K 9 j (by omega) (by omega), K 10 j (by omega) (by omega), K 14 j (by omega) (by omega), K 15 j (by omega) (by omega)]; exact h.2 j hj
theorem Em.x4 (h : Em σ ρ c) : X4 σ c := ⟨fun i j hi => absurd hi (by rw [h.z]; omega), fun j hj => absurd hj (by rw [h.z]; omega)⟩
/-- all that is known of one object's data -/
def Dg (n : Nat) (cnt : Nat → Nat) (σ : nI2) (ρ : nN2) : Prop := Dat n cnt σ ρ ∧ ∀ c, c ≤ n → X4 σ c
theorem Dg.sm (E : EQs σ' σ) (h : Dg n cnt σ ρ) : Dg n cnt σ' ρ := ⟨E.dat h.1, fun c hc => (E.ag (ρ := ρ) (d := n + 1)).x4 (by omega) (h.2 c hc)⟩
theorem Dg.r1 (h : Dg n cnt σ ρ) (h0 : ∀ w : nm, w.1 ≠ 1 → ρ' w = ρ w) : Dg n cnt σ ρ' := by
  have P : ∀ k i j, k ≠ 1 → ρ' (k, i, j) = ρ (k, i, j) := fun k i j hk => h0 _ hk
  have A : Ag (n + 1) σ σ ρ' ρ := fun c _ => ⟨fun _ _ _ _ => rfl, fun _ => rfl, rfl, rfl, fun j => P _ _ _ (by omega), fun j => P _ _ _ (by omega), P _ _ _ (by omega)⟩
  have d1 := h.1
  exact ⟨d1.of (fun c hc => A.c0 (by omega) (d1.2.2.1 c hc)) (fun _ _ => rfl) (fun l hl => ⟨rfl, fun j => P _ _ _ (by omega), P _ _ _ (by omega)⟩) (P _ _ _ (by omega)) (fun s v hs hv => ⟨((d1.wk.2.1 s hs).2.2 v hv).1, P _ _ _ (by omega)⟩) d1.wm (fun _ _ => rfl), h.2⟩
theorem Dg.modes (h : Dg n cnt σ ρ) {a : Int32} (hs : s < 6) (hk : k < 4) (ha : a = 0 ∨ a = 1) : Dg n cnt (up (up σ (0, s, 0) (nI k)) (1, s, 0) a) ρ := by
  have L : ∀ p i j, p ≠ 0 → p ≠ 1 → up (up σ (0, s, 0) (nI k)) (1, s, 0) a (p, i, j) = σ (p, i, j) := fun p i j q1 q2 => by
    rw [up_n _ _ (fun e => q2 (by cases e; rfl)), up_n _ _ (fun e => q1 (by cases e; rfl))]
  have A : Ag (n + 1) (up (up σ (0, s, 0) (nI k)) (1, s, 0) a) σ ρ ρ := fun c _ => ⟨fun p j q1 q2 => L _ _ _ (by omega) (by omega), fun j => L _ _ _ (by omega) (by omega), L _ _ _ (by omega) (by omega), L _ _ _ (by omega) (by omega), fun _ => rfl, fun _ => rfl, rfl⟩
  refine ⟨h.1.of (fun c hc => A.c0 (by omega) (h.1.2.2.1 c hc)) (fun c hc => A.ln (by omega)) (fun l _ => ⟨L _ _ _ (by omega) (by omega), fun _ => rfl, rfl⟩) rfl (fun s v hs hv => ⟨by rw [L _ _ _ (by omega) (by omega)]; exact ((h.1.wk.2.1 s hs).2.2 v hv).1, rfl⟩) (fun t ht => ?_) (fun c _ => L _ _ _ (by omega) (by omega)), fun c hc => A.x4 (by omega) (h.2 c hc)⟩
  by_cases e : t = s
  · subst e
    rw [up_n _ _ (fun e => by cases e), up_s, up_s]
    refine ⟨?_, ha⟩
    have : k = 0 ∨ k = 1 ∨ k = 2 ∨ k = 3 := by omega
    rcases this with rfl | rfl | rfl | rfl <;> decide
  · rw [up_n _ _ (fun e => by cases e), up_n _ _ (fun q => e (by cases q; rfl)), up_n _ _ (fun q => e (by cases q; rfl)), up_n _ _ (fun e => by cases e)]; exact h.1.wm t ht
theorem Dg.del (h : Dg n cnt σ ρ) {v : Nat} {t : Int32} (ht : t = 0 ∨ t = 1 ∨ t = 2) : Dg n cnt (up σ (2, s, v) t) ρ := by
  have h1 := h.1
  have L : ∀ p i j, p ≠ 2 → up σ (2, s, v) t (p, i, j) = σ (p, i, j) := fun p i j q => up_n _ _ (fun e => q (by cases e; rfl))
  have A : Ag (n + 1) (up σ (2, s, v) t) σ ρ ρ := fun c _ => ⟨fun p j q1 q2 => L _ _ _ (by omega), fun j => L _ _ _ (by omega), L _ _ _ (by omega), L _ _ _ (by omega), fun _ => rfl, fun _ => rfl, rfl⟩
  exact ⟨h1.of (fun c hc => A.c0 (by omega) (h1.2.2.1 c hc)) (fun c hc => A.ln (by omega)) (fun l _ => ⟨L _ _ _ (by omega), fun _ => rfl, rfl⟩) rfl (fun t' v' ht' hv' => ⟨by
    by_cases e : ((2, t', v') : nm) = (2, s, v)
    · rw [e, up_s]; exact ht
    · rw [up_n _ _ e]; exact ((h1.wk.2.1 t' ht').2.2 v' hv').1, rfl⟩) (fun t ht => by rw [L _ _ _ (by omega), L _ _ _ (by omega)]; exact h1.wm t ht) (fun c _ => L _ _ _ (by omega)), fun c hc => A.x4 (by omega) (h.2 c hc)⟩
theorem Dg.em (h : Dg n cnt σ ρ) : Dg n cnt (emS σ n) (clr ρ (8 + n) (zz σ n)) := ⟨em_dat h.1, fun c hc => by
  by_cases e : c < n
  · exact (em_ag (ρ := ρ) (d := 0)).x4 e (h.2 c hc)
  · obtain rfl : c = n := by omega
    exact (em_em h.1).x4⟩
theorem Dg.byDefault (h : Dg n cnt σ ρ) {j : Nat} {p : Int32} (hj : zz σ n = j + 1) (h4 : ¬ σ (9, n, j) = 4) (hp : ofS p (σ (10, n, j)) = true) : Dg n cnt (up (up σ (14, n, j) 1) (15, n, j) p) ρ := by
  obtain ⟨h1, hx⟩ := h
  have L : ∀ k i q, ((k ≠ 14 ∧ k ≠ 15) ∨ i ≠ n ∨ q ≠ j) → up (up σ (14, n, j) 1) (15, n, j) p (k, i, q) = σ (k, i, q) := fun k i q hq => by
    rw [up_n _ _ (fun e => by cases e; omega), up_n _ _ (fun e => by cases e; omega)]
  have L14 : up (up σ (14, n, j) 1) (15, n, j) p (14, n, j) = 1 := by rw [up_n _ _ (fun e => by cases e), up_s]
  have L15 : up (up σ (14, n, j) 1) (15, n, j) p (15, n, j) = p := up_s _ _ _
  generalize hσ1 : up (up σ (14, n, j) 1) (15, n, j) p = σ1 at *
  have A : Ag n σ1 σ ρ ρ := fun c hc => ⟨fun k i q1 q2 => L _ _ _ (by omega), fun i => L _ _ _ (by omega), L _ _ _ (by omega), L _ _ _ (by omega), fun _ => rfl, fun _ => rfl, rfl⟩
  have zn : zz σ1 n = zz σ n := by unfold zz; rw [L _ _ _ (by omega)]
  have ln : ∀ c, lnn σ1 c = lnn σ c := fun c => by unfold lnn; rw [L _ _ _ (by omega)]
  have pc : ∀ c i, pcs σ1 ρ c i = pcs σ ρ c i := fun c i => by unfold pcs; rw [ln]
  have bg : ∀ c i, bgn σ1 ρ c i = bgn σ ρ c i := fun c i => by
    induction i with
    | zero => rfl
    | succ i ih =>
      show bgn σ1 ρ c i + pcs σ1 ρ c i = bgn σ ρ c i + pcs σ ρ c i
      rw [ih, pc]
  obtain ⟨n1, n2, n3⟩ := h1.2.2.1 n (Nat.le_refl n)
  have hC : C0 σ1 ρ n := by
    refine ⟨⟨⟨?_, ?_⟩, fun i hi => ?_⟩, ⟨⟨?_, ?_⟩, fun i hi => ?_⟩, fun i hi => ?_⟩
    · rw [zn]; exact Ls_of (L _ _ _ (by omega)) (fun _ => rfl) rfl n1.1.1
    · rw [zn]; exact n1.1.2
    · rw [zn] at hi
      obtain ⟨q1, q2, q3⟩ := n1.2 i hi
      refine ⟨?_, by rw [L _ _ _ (by omega)]; exact q2, q3⟩
      by_cases e : i = j
      · subst e; rw [L14]; exact Or.inr rfl
      · rw [L _ _ _ (by omega)]; exact q1
    · rw [zn, bg, L _ _ _ (by omega)]; exact n2.1.1
    · rw [zn, bg]; exact n2.1.2
    · rw [zn] at hi
      obtain ⟨q1, q2⟩ := n2.2 i hi
      refine ⟨by rw [bg, L _ _ _ (by omega)]; exact q1, fun q => ?_⟩
      by_cases e : i = j
      · subst e; exact absurd ((n1.2 i hi).2.1.2 q) h4
      · rw [L _ _ _ (by omega)]; exact q2 q
    · rw [zn] at hi
      obtain ⟨q1, q2⟩ := n3 i hi
      rw [bg, ln, L _ _ _ (by omega), L _ _ _ (by omega), L _ _ _ (by omega)]
      refine ⟨q1, fun q k hk => ?_⟩
      rw [L _ _ _ (by omega), L _ _ _ (by omega)]; exact q2 q k hk
  have d1 : Dat n cnt σ1 ρ := by
    refine h1.of (fun c hc => ?_) (fun c _ => ln c) (fun l _ => ⟨L _ _ _ (by omega), fun _ => rfl, rfl⟩) rfl (fun s v hs hv => ⟨by rw [L _ _ _ (by omega)]; exact ((h1.wk.2.1 s hs).2.2 v hv).1, rfl⟩) (fun s hs => by rw [L _ _ _ (by omega), L _ _ _ (by omega)]; exact h1.wm s hs) (fun c _ => L _ _ _ (by omega))
    by_cases e : c < n
    · exact A.c0 e (h1.2.2.1 c hc)
    · obtain rfl : c = n := by omega
      exact hC
  refine ⟨d1, fun c hc => ?_⟩
  by_cases e : c < n
  · exact A.x4 e (hx c hc)
  · obtain rfl : c = n := by omega
    obtain ⟨x1, x2⟩ := hx c hc
    unfold X4
    rw [zn]
    refine ⟨fun i k hi hk => ?_, fun i hi => ?_⟩
    · rw [L _ _ _ (by omega), L _ _ _ (by omega)]; exact x1 i k hi hk
    · rw [L 8 _ _ (by omega), L 9 _ _ (by omega), L 10 _ _ (by omega)]
      obtain ⟨q1, q2⟩ := x2 i hi
      refine ⟨fun q => ?_, q2⟩
      by_cases e2 : i = j
      · subst e2; rw [L15]; exact hp
      · rw [L 14 _ _ (by omega)] at q
        rw [L 15 _ _ (by omega)]; exact q1 q
theorem Dg.field (h : Dg n cnt σ ρ) {p0 p1 p2 p3 : Int32} {k x5 : Nat} {g : Nat → Int32} (ok : OKa p0 p1 p2 p3) (hfx : FX cnt σ ρ p1 p2 x5 k g) (hf : ¬ Ful σ n p0 k) (hr : ∀ w, w ≠ (4, 8 + n, zz σ n) → w ≠ (5, 8 + n, 0) → w ≠ (3, n, zz σ n) → ρ' w = ρ w) (hr3 : ρ' (3, n, zz σ n) = x5) (hL : Ls (fK σ n p0 p1 p2 p3 k g) ρ' (8 + n) (zz σ n + 1)) : Dg n cnt (fK σ n p0 p1 p2 p3 k g) ρ' := by
  obtain ⟨h1, hX⟩ := h
  have hn := h1.wk.1.2.2.1
  have c6 : ∀ s, s < 6 → cnt s ≤ 6 := fun s hs => (h1.2.1 s hs).2.1
  obtain ⟨n1, n2, n3⟩ := h1.2.2.1 n (Nat.le_refl n)
  have z5 : zz σ n < 5 := by
    have := n1.1.2
    have : ¬ zz σ n = 5 := fun q => hf (Or.inl q)
    omega
  have l20 : lnn σ n + k ≤ 20 := by
    have : ¬ 20 < lnn σ n + k := fun q => hf (Or.inr (Or.inr q))
    omega
  have ln : lnn σ n = bgn σ ρ n (zz σ n) := (h1.wp.lnn (Nat.le_refl n)).1
  obtain ⟨⟨ka, ha, ea⟩, ⟨t, ht, et⟩, -, -, hd⟩ := id ok
  have P : ∀ p i j, p ≠ 4 → p ≠ 5 → p ≠ 3 → ρ' (p, i, j) = ρ (p, i, j) := fun p i j q1 q2 q3 => hr _ (fun e => q1 (by cases e; rfl)) (fun e => q2 (by cases e; rfl)) (fun e => q3 (by cases e; rfl))
  have P3 : ∀ c j, c ≠ n ∨ j ≠ zz σ n → ρ' (3, c, j) = ρ (3, c, j) := fun c j q => hr _ (fun e => by cases e) (fun e => by cases e) (fun e => by cases e; omega)
  have P4 : ∀ l j, l ≠ 8 + n → ρ' (4, l, j) = ρ (4, l, j) := fun l j q => hr _ (fun e => q (by cases e; rfl)) (fun e => by cases e) (fun e => by cases e)
  have P5 : ∀ l, l ≠ 8 + n → ρ' (5, l, 0) = ρ (5, l, 0) := fun l q => hr _ (fun e => by cases e) (fun e => q (by cases e; rfl)) (fun e => by cases e)
  -- what is referred to
  have hx : x5 ≠ 0 → p1 = 4 ∧ x5 - 1 < n ∧ k = lnn σ (x5 - 1) ∧ (∀ q, g q = σ (5, 3 + (x5 - 1), q)) := fun q => by
    rcases hfx with ⟨-, x2, -⟩ | ⟨x1, s, v, x2, x3, x4, x6⟩
    · exact absurd x2 q
    · have hlt := ((h1.wk.2.1 s x2.1).2.2 v x2.2.1).2
      have e1 : x5 - 1 = ρ (2, s, v) := by omega
      rw [e1]
      exact ⟨x1, hlt, x4, fun q => by rw [x6]⟩
  have hx0 : x5 = 0 → ¬ p1 = 4 ∧ k = 1 ∧ (∀ q, g q = szO p1 p2) := fun q => by
    rcases hfx with ⟨x1, -, x3, x4⟩ | ⟨x1, s, v, x2, x3, x4, x6⟩
    · exact ⟨x1, x3, fun q => by rw [x4]⟩
    · omega
  have A : Ag n (fK σ n p0 p1 p2 p3 k g) σ ρ' ρ := fun c hc => ⟨fun k j q1 q2 => fK_n (by omega) (by omega) (by omega), fun j => fK_n (by omega) (by omega) (by omega), fK_n (by omega) (by omega) (by omega), fK_n (by omega) (by omega) (by omega), fun j => P3 _ _ (by omega), fun j => P4 _ _ (by omega), P5 _ (by omega)⟩
  have N : ∀ p j, 8 ≤ p → p ≤ 15 → j ≠ zz σ n → fK σ n p0 p1 p2 p3 k g (p, n, j) = σ (p, n, j) := fun p j q1 q2 q3 => fK_n (by omega) (by omega) (by omega)
  have F4 := fK_4 (σ := σ) (n := n) (p0 := p0) (p1 := p1) (p2 := p2) (p3 := p3) (k := k) (g := g)
  have F7 := fK_7 (σ := σ) (n := n) (p0 := p0) (p1 := p1) (p2 := p2) (p3 := p3) (k := k) (g := g)
  have F5 := fun q => fK_5 (σ := σ) (n := n) (p0 := p0) (p1 := p1) (p2 := p2) (p3 := p3) (k := k) (g := g) (q := q)
  obtain ⟨F8, F9, F10, F11, F12, F14, F15⟩ := fK_8 (σ := σ) (n := n) (p0 := p0) (p1 := p1) (p2 := p2) (p3 := p3) (k := k) (g := g)
  have F13 := fK_13 (σ := σ) (n := n) (p0 := p0) (p1 := p1) (p2 := p2) (p3 := p3) (k := k) (g := g)
  have FN : ∀ p i q, p < 4 → fK σ n p0 p1 p2 p3 k g (p, i, q) = σ (p, i, q) := fun p i q hp => fK_n (by omega) (by omega) (by omega)
  have F7n : ∀ l, l ≠ 8 + n → fK σ n p0 p1 p2 p3 k g (7, l, 0) = σ (7, l, 0) := fun l hl => fK_n (by omega) (by omega) (by omega)
  have FH : ∀ p i q, 16 ≤ p → fK σ n p0 p1 p2 p3 k g (p, i, q) = σ (p, i, q) := fun p i q hp => fK_n (by omega) (by omega) (by omega)
  have FR0 : ∀ p r q, p = 4 ∨ p = 5 → r < 3 → fK σ n p0 p1 p2 p3 k g (p, r, q) = σ (p, r, q) := fun p r q hp hr => fK_n (by omega) (by omega) (by omega)
  generalize hσ1 : fK σ n p0 p1 p2 p3 k g = σ1 at *
  have zn : zz σ1 n = zz σ n + 1 := by
    show (σ1 (7, 8 + n, 0)).toNatClampNeg = _
    rw [F7, nI_clamp (by omega)]
  have lnn1 : lnn σ1 n = lnn σ n + k := by
    show (σ1 (4, 3 + n, 0)).toNatClampNeg = _
    rw [F4, nI_clamp (by omega)]
  have pc : ∀ j, j < zz σ n → pcs σ1 ρ' n j = pcs σ ρ n j := fun j hj => by
    unfold pcs
    rw [P3 n j (by omega)]
    by_cases e : ρ (3, n, j) = 0
    · rw [if_pos e, if_pos e]
    · rw [if_neg e, if_neg e]
      have q := (n1.2 j hj).2.2 e
      rw [show rf ρ' n j = rf ρ n j by unfold rf; rw [P3 n j (by omega)], A.ln q]
  have bg : ∀ j, j ≤ zz σ n → bgn σ1 ρ' n j = bgn σ ρ n j := by
    intro j
    induction j with
    | zero => intro _; rfl
    | succ j ih =>
      intro hj
      show bgn σ1 ρ' n j + pcs σ1 ρ' n j = bgn σ ρ n j + pcs σ ρ n j
      rw [ih (by omega), pc j (by omega)]
  have rz : rf ρ' n (zz σ n) = x5 - 1 := by unfold rf; rw [hr3]
  have pz : pcs σ1 ρ' n (zz σ n) = k := by
    unfold pcs
    rw [hr3, rz]
    by_cases e : x5 = 0
    · rw [if_pos e, (hx0 e).2.1]
    · rw [if_neg e, A.ln (hx e).2.1, (hx e).2.2.1]
  have bz : bgn σ1 ρ' n (zz σ n + 1) = lnn σ n + k := by
    show bgn σ1 ρ' n (zz σ n) + pcs σ1 ρ' n (zz σ n) = _
    rw [bg _ (Nat.le_refl _), pz, ln]
  have hC : C0 σ1 ρ' n := by
    refine ⟨⟨⟨?_, by omega⟩, fun i hi => ?_⟩, ⟨⟨?_, ?_⟩, fun i hi => ?_⟩, fun i hi => ?_⟩
    · rw [zn]; exact hL
    · rw [zn] at hi
      by_cases e : i = zz σ n
      · subst e
        rw [F14, F9, hr3, rz]
        refine ⟨Or.inl rfl, ⟨fun q q2 => (hx0 q2).1 q, fun q => (hx q).1⟩, fun q => (hx q).2.1⟩
      · rw [N 14 i (by omega) (by omega) e, N 9 i (by omega) (by omega) e, P3 n i (by omega), show rf ρ' n i = rf ρ n i by unfold rf; rw [P3 n i (by omega)]]
        exact n1.2 i (by omega)
    · rw [zn, bz]; exact F4
    · rw [zn, bz]; exact l20
    · rw [zn] at hi
      by_cases e : i = zz σ n
      · subst e
        exact ⟨by rw [F13, bg _ (Nat.le_refl _), ln], fun _ => F14⟩
      · rw [N 13 i (by omega) (by omega) e, N 14 i (by omega) (by omega) e, P3 n i (by omega), bg _ (by omega)]
        exact n2.2 i (by omega)
    · rw [zn] at hi
      by_cases e : i = zz σ n
      · subst e
        rw [hr3, rz, bg _ (Nat.le_refl _), ← ln]
        refine ⟨fun q => ?_, fun q j hj => ?_⟩
        · obtain ⟨x1, x2, x3⟩ := hx0 q
          rw [F5, if_pos (by omega), x3, F10, F9]
          refine ⟨rfl, ?_⟩
          unfold szO
          by_cases e2 : p1 = 2
          · exact ⟨2, by omega, by rw [if_pos e2]; rfl, fun q => by rw [e2] at q; exact absurd q (by decide)⟩
          · rw [if_neg e2]
            by_cases e3 : p1 = 3
            · obtain ⟨d, d1, d2, d3⟩ := hd e3
              exact ⟨d, d2, by rw [if_pos e3]; exact d3, fun _ => by omega⟩
            · exact ⟨0, by omega, by rw [if_neg e3]; rfl, fun q => absurd q e3⟩
        · obtain ⟨x1, x2, x3, x4⟩ := hx q
          rw [A.ln x2] at hj
          rw [F5, if_pos (by omega), Nat.add_sub_cancel_left, x4, (A _ x2).2.1 j]
      · have hi' : i < zz σ n := by omega
        obtain ⟨q1, q2⟩ := n3 i hi'
        have hb1 : bgn σ ρ n (i + 1) ≤ bgn σ ρ n (zz σ n) := bgn_le (by omega)
        have hb2 : bgn σ ρ n (i + 1) = bgn σ ρ n i + pcs σ ρ n i := rfl
        rw [N 10 i (by omega) (by omega) e, N 9 i (by omega) (by omega) e, P3 n i (by omega), bg _ (by omega), show rf ρ' n i = rf ρ n i by unfold rf; rw [P3 n i (by omega)]]
        refine ⟨fun q => ?_, fun q j hj => ?_⟩
        · have : pcs σ ρ n i = 1 := if_pos q
          rw [F5, if_neg (by omega)]
          exact q1 q
        · have hlt := (n1.2 i hi').2.2 q
          have : pcs σ ρ n i = lnn σ (rf ρ n i) := if_neg q
          rw [A.ln hlt] at hj
          rw [F5, if_neg (by omega), (A _ hlt).2.1 j]
          exact q2 q j hj
  have d1 : Dat n cnt σ1 ρ' := by
    refine h1.of (fun c hc => ?_) (fun c hc => A.ln hc) (fun l hl => ⟨F7n _ (by omega), fun j => P4 _ _ (by omega), P5 _ (by omega)⟩) (P _ _ _ (by omega) (by omega) (by omega)) (fun s v hs hv => ⟨by rw [FN _ _ _ (by omega)]; exact ((h1.wk.2.1 s hs).2.2 v hv).1, P _ _ _ (by omega) (by omega) (by omega)⟩) (fun s hs => by rw [FN _ _ _ (by omega), FN _ _ _ (by omega)]; exact h1.wm s hs) (fun c _ => FN _ _ _ (by omega))
    by_cases e : c < n
    · exact A.c0 e (h1.2.2.1 c hc)
    · obtain rfl : c = n := by omega
      exact hC
  refine ⟨d1, fun c hc => ?_⟩
  by_cases e : c < n
  · exact A.x4 e (hX c hc)
  · obtain rfl : c = n := by omega
    obtain ⟨x1, x2⟩ := hX c hc
    have hnm : ∀ j, j < zz σ c → σ (8, c, j) ≠ p0 := fun j hj q => by
      have hno : nmd σ c p0 = none := Classical.byContradiction fun q => hf (Or.inr (Or.inl q))
      have := (lk_none _ _).1 hno j (Nat.zero_le j) (by omega)
      simp only [beq_eq_false_iff_ne, ne_eq] at this
      exact this q
    unfold X4
    rw [zn]
    refine ⟨fun i j hi hj q => ?_, fun i hi => ?_⟩
    · by_cases e1 : i = zz σ c
      · by_cases e2 : j = zz σ c
        · omega
        · rw [e1, F8, N 8 j (by omega) (by omega) e2] at q
          exact absurd q.symm (hnm j (by omega))
      · by_cases e2 : j = zz σ c
        · rw [e2, F8, N 8 i (by omega) (by omega) e1] at q
          exact absurd q (hnm i (by omega))
        · rw [N 8 i (by omega) (by omega) e1, N 8 j (by omega) (by omega) e2] at q
          exact x1 i j (by omega) (by omega) q
    · by_cases e1 : i = zz σ c
      · rw [e1, F8, F9, F10, F14]
        refine ⟨fun q => absurd rfl q, fun q => ?_, fun q q2 => ?_, ka, ha, ea⟩
        · unfold szO; rw [if_pos q]
        · unfold szO; rw [if_neg q, if_neg q2]
      · rw [N 8 i (by omega) (by omega) e1, N 9 i (by omega) (by omega) e1, N 10 i (by omega) (by omega) e1, N 14 i (by omega) (by omega) e1, N 15 i (by omega) (by omega) e1]
        exact x2 i (by omega)
theorem Dg.like (h : Dg n cnt σ ρ) (hs : s < 6) (hk : cnt s < 6) (hi : i < n) (hr : ∀ w, w ≠ (4, 2 + s, cnt s) → w ≠ (5, 2 + s, 0) → w ≠ (2, s, cnt s) → ρ' w = clr ρ (8 + n) (zz σ n) w) (hri : ρ' (2, s, cnt s) = i) (hL : Ls (vaI (emS σ n) s (cnt s)) ρ' (2 + s) (cnt s + 1)) : Dg n (uc cnt s) (vaI (emS σ n) s (cnt s)) ρ' := by
  obtain ⟨h1, hX⟩ := h
  have hn := h1.wk.1.2.2.1
  have hc6 : ∀ s, s < 6 → cnt s ≤ 6 := fun s hs => (h1.2.1 s hs).2.1
  have L : ∀ p i q, p ≠ 2 → p ≠ 4 → p ≠ 6 → p ≠ 7 → vaI (emS σ n) s (cnt s) (p, i, q) = σ (p, i, q) := fun p i q q1 q2 q3 q4 => by
    rw [vaI_n (fun e => q1 (by cases e; rfl)) (fun e => q3 (by cases e; rfl)) (fun e => q4 (by cases e; rfl)), emS_n (fun e => q3 (by cases e; rfl)) (fun e => q4 (by cases e; rfl)) (fun e => q2 (by cases e; rfl))]
  have L2 : ∀ t v, t ≠ s ∨ v ≠ cnt s → vaI (emS σ n) s (cnt s) (2, t, v) = σ (2, t, v) := fun t v q => by
    rw [vaI_n (fun e => by cases e; omega) (fun e => by cases e) (fun e => by cases e), emS_n (fun e => by cases e) (fun e => by cases e) (fun e => by cases e)]
  have L4 : ∀ p i, (p = 4 ∧ i ≠ 3 + n) ∨ (p = 7 ∧ i ≠ 8 + n ∧ i ≠ 2 + s) → vaI (emS σ n) s (cnt s) (p, i, 0) = σ (p, i, 0) := fun p i q => by
    rw [vaI_n (fun e => by have := congrArg Prod.fst e; simp only at this; omega) (fun e => by cases e; omega) (fun e => by cases e; omega), emS_n (fun e => by cases e; omega) (fun e => by cases e; omega) (fun e => by cases e; omega)]
  have L5 : ∀ i q, vaI (emS σ n) s (cnt s) (5, i, q) = σ (5, i, q) := fun i q => L _ _ _ (by omega) (by omega) (by omega) (by omega)
  have P : ∀ p i j, p ≠ 4 → p ≠ 5 → p ≠ 2 → ρ' (p, i, j) = ρ (p, i, j) := fun p i j q1 q2 q3 => (hr _ (fun e => q1 (by cases e; rfl)) (fun e => q2 (by cases e; rfl)) (fun e => q3 (by cases e; rfl))).trans (clr_n _ _ _ (Or.inl q1))
  have P2 : ∀ t v, t ≠ s ∨ v ≠ cnt s → ρ' (2, t, v) = ρ (2, t, v) := fun t v q => (hr _ (fun e => by cases e) (fun e => by cases e) (fun e => by cases e; omega)).trans (clr_n _ _ _ (Or.inl (by simp)))
  have P4 : ∀ l j, l ≠ 2 + s → l ≠ 8 + n → ρ' (4, l, j) = ρ (4, l, j) := fun l j q1 q2 => (hr _ (fun e => q1 (by cases e; rfl)) (fun e => by cases e) (fun e => by cases e)).trans (clr_n _ _ _ (Or.inr q2))
  have P5 : ∀ l, l ≠ 2 + s → ρ' (5, l, 0) = ρ (5, l, 0) := fun l q1 => (hr _ (fun e => by cases e) (fun e => q1 (by cases e; rfl)) (fun e => by cases e)).trans (clr_n _ _ _ (Or.inl (by simp)))
  have A : Ag n (vaI (emS σ n) s (cnt s)) σ ρ' ρ := fun c hc => ⟨fun k j q1 q2 => L _ _ _ (by omega) (by omega) (by omega) (by omega), fun j => L5 _ _, L4 _ _ (by omega), L4 _ _ (by omega), fun j => P _ _ _ (by omega) (by omega) (by omega), fun j => P4 _ _ (by omega) (by omega), P5 _ (by omega)⟩
  have M1 : Em (vaI (emS σ n) s (cnt s)) ρ' n := by
    obtain ⟨q1, q2, q3, q4⟩ := em_em h1
    refine ⟨?_, fun j => ?_, ?_, ?_⟩
    · rw [vaI_n (fun e => by cases e) (fun e => by cases e) (fun e => by have := congrArg (fun w : nm => w.2.1) e; simp only at this; omega)]; exact q1
    · rw [hr _ (fun e => by have := congrArg (fun w : nm => w.2.1) e; simp only at this; omega) (fun e => by cases e) (fun e => by cases e)]; exact q2 j
    · rw [hr _ (fun e => by cases e) (fun e => by have := congrArg (fun w : nm => w.2.1) e; simp only at this; omega) (fun e => by cases e)]; exact q3
    · rw [vaI_n (fun e => by cases e) (fun e => by cases e) (fun e => by cases e)]; exact q4
  have va2 := va_2 (σ := emS σ n) (s := s) (k := cnt s)
  generalize hσ1 : vaI (emS σ n) s (cnt s) = σ1 at *
  have hC : ∀ c, c ≤ n → C0 σ1 ρ' c := fun c hc => by
    by_cases e : c < n
    · exact A.c0 e (h1.2.2.1 c hc)
    · obtain rfl : c = n := by omega
      exact M1.c0
  have d1 : Dat n (uc cnt s) σ1 ρ' := h1.reg hs hk ⟨by omega, hn, Nat.le_refl _⟩ hi hC (fun c hc => by rw [A.ln hc]; exact h1.N0 c hc) (fun l l8 l1 ls => ⟨L4 _ _ (by omega), fun j => P4 _ _ (by omega) (by omega), P5 _ ls⟩) (Ls_of (L4 _ _ (by omega)) (fun j => P4 _ _ (by omega) (by omega)) (P5 _ (by omega)) h1.wk.1.2.1) hL ((P _ _ _ (by omega) (by omega) (by omega)).trans h1.wk.1.2.2.2) (fun t v q => ⟨L2 t v q, P2 t v q⟩) ⟨va2, hri⟩ (fun t => ⟨L _ _ _ (by omega) (by omega) (by omega) (by omega), L _ _ _ (by omega) (by omega) (by omega) (by omega)⟩) (fun c hc => (L _ _ _ (by omega) (by omega) (by omega) (by omega)).trans (h1.rank c hc))
  refine ⟨d1, fun c hc => ?_⟩
  by_cases e : c < n
  · exact A.x4 e (hX c hc)
  · obtain rfl : c = n := by omega
    exact M1.x4
theorem Dg.new (h : Dg n cnt σ ρ) (hs : s < 6) (hk : cnt s < 6) (hn36 : n < 36) (hz0 : zz σ n ≠ 0) (hr : ∀ w : nm, w ≠ (4, 1, n) → w ≠ (5, 1, 0) → w ≠ (0, 0, 0) → ((w.1 ≠ 4 ∧ w.1 ≠ 5) ∨ w.2.1 ≠ 8 + (n + 1)) → w ≠ (4, 2 + s, cnt s) → w ≠ (5, 2 + s, 0) → w ≠ (2, s, cnt s) → ρ' w = ρ w) (hr0 : ρ' (0, 0, 0) = n + 1) (hri : ρ' (2, s, cnt s) = n) (hL1 : Ls (vaI (tkI σ n) s (cnt s)) ρ' 1 (n + 1)) (hL : Ls (vaI (tkI σ n) s (cnt s)) ρ' (2 + s) (cnt s + 1)) (hZ : Zs (vaI (tkI σ n) s (cnt s)) ρ' (n + 1)) : Dg (n + 1) (uc cnt s) (vaI (tkI σ n) s (cnt s)) ρ' := by
  obtain ⟨h1, hX⟩ := h
  have hc6 : ∀ s, s < 6 → cnt s ≤ 6 := fun s hs => (h1.2.1 s hs).2.1
  have L : ∀ p i q, p ≠ 2 → p ≠ 3 → p ≠ 4 → p ≠ 5 → p ≠ 6 → p ≠ 7 → vaI (tkI σ n) s (cnt s) (p, i, q) = σ (p, i, q) := fun p i q q1 q2 q3 q4 q5 q6 => by
    rw [vaI_n (fun e => q1 (by cases e; rfl)) (fun e => q5 (by cases e; rfl)) (fun e => q6 (by cases e; rfl)), tkI_n q2 (Or.inl ⟨q5, q6⟩) (Or.inl ⟨q3, q4⟩)]
  have L2 : ∀ t v, t ≠ s ∨ v ≠ cnt s → vaI (tkI σ n) s (cnt s) (2, t, v) = σ (2, t, v) := fun t v q => by
    rw [vaI_n (fun e => by cases e; omega) (fun e => by cases e) (fun e => by cases e), tkI_n (by simp) (Or.inl (by simp)) (Or.inl (by simp))]
  have L4 : ∀ p i q, ((p = 4 ∨ p = 5) ∧ i ≠ 3 + (n + 1)) ∨ (p = 7 ∧ i ≠ 1 ∧ i ≠ 8 + (n + 1) ∧ i ≠ 2 + s) → vaI (tkI σ n) s (cnt s) (p, i, q) = σ (p, i, q) := fun p i q hq => by
    rw [vaI_n (fun e => by cases e; omega) (fun e => by cases e; omega) (fun e => by cases e; omega), tkI_n (by simp only; omega) (by simp only; omega) (by simp only; omega)]
  have L3 : ∀ c, vaI (tkI σ n) s (cnt s) (3, c, 0) = tkI σ n (3, c, 0) := fun c => vaI_n (fun e => by cases e) (fun e => by cases e) (fun e => by cases e)
  have P : ∀ p i j, p ≠ 4 → p ≠ 5 → p ≠ 2 → p ≠ 0 → ρ' (p, i, j) = ρ (p, i, j) := fun p i j q1 q2 q3 q4 => hr _ (fun e => q1 (by cases e; rfl)) (fun e => q2 (by cases e; rfl)) (fun e => q4 (by cases e; rfl)) (Or.inl ⟨q1, q2⟩) (fun e => q1 (by cases e; rfl)) (fun e => q2 (by cases e; rfl)) (fun e => q3 (by cases e; rfl))
  have P2 : ∀ t v, t ≠ s ∨ v ≠ cnt s → ρ' (2, t, v) = ρ (2, t, v) := fun t v q => hr _ (fun e => by cases e) (fun e => by cases e) (fun e => by cases e) (Or.inl (by simp)) (fun e => by cases e) (fun e => by cases e) (fun e => by cases e; omega)
  have P4 : ∀ l j, l ≠ 2 + s → l ≠ 1 → l ≠ 8 + (n + 1) → ρ' (4, l, j) = ρ (4, l, j) := fun l j q1 q2 q3 => hr _ (fun e => q2 (by cases e; rfl)) (fun e => by cases e) (fun e => by cases e) (Or.inr q3) (fun e => q1 (by cases e; rfl)) (fun e => by cases e) (fun e => by cases e)
  have P5 : ∀ l, l ≠ 2 + s → l ≠ 1 → l ≠ 8 + (n + 1) → ρ' (5, l, 0) = ρ (5, l, 0) := fun l q1 q2 q3 => hr _ (fun e => by cases e) (fun e => q2 (by cases e; rfl)) (fun e => by cases e) (Or.inr q3) (fun e => by cases e) (fun e => q1 (by cases e; rfl)) (fun e => by cases e)
  have A : Ag (n + 1) (vaI (tkI σ n) s (cnt s)) σ ρ' ρ := fun c hc => ⟨fun k j q1 q2 => L _ _ _ (by omega) (by omega) (by omega) (by omega) (by omega) (by omega), fun j => L4 _ _ _ (by omega), L4 _ _ _ (by omega), L4 _ _ _ (by omega), fun j => P _ _ _ (by omega) (by omega) (by omega) (by omega), fun j => P4 _ _ (by omega) (by omega) (by omega), P5 _ (by omega) (by omega) (by omega)⟩
  have M1 : Em (vaI (tkI σ n) s (cnt s)) ρ' (n + 1) := by
    obtain ⟨q1, q2, q3, q4, q5, q6, q7⟩ := hZ
    exact ⟨q4, q1, by omega, q5⟩
  have va2 := va_2 (σ := tkI σ n) (s := s) (k := cnt s)
  have t3 := tk_3 (σ := σ) (n := n)
  generalize hσ1 : vaI (tkI σ n) s (cnt s) = σ1 at *
  have hC : ∀ c, c ≤ n + 1 → C0 σ1 ρ' c := fun c hc => by
    by_cases e : c ≤ n
    · exact A.c0 (by omega) (h1.2.2.1 c e)
    · obtain rfl : c = n + 1 := by omega
      exact M1.c0
  have d1 : Dat (n + 1) (uc cnt s) σ1 ρ' := h1.reg hs hk ⟨by omega, by omega, by omega⟩ (show n < n + 1 by omega) hC (fun c hc => by
      rw [A.ln hc]
      by_cases e : c < n
      · exact h1.N0 c e
      · obtain rfl : c = n := by omega
        exact lnn_pos h1 hz0) (fun l l8 l1 ls => ⟨L4 _ _ _ (by omega), fun j => P4 _ _ (by omega) (by omega) (by omega), P5 _ ls (by omega) (by omega)⟩) hL1 hL hr0 (fun t v q => ⟨L2 t v q, P2 t v q⟩) ⟨va2, hri⟩ (fun t => ⟨L _ _ _ (by omega) (by omega) (by omega) (by omega) (by omega) (by omega), L _ _ _ (by omega) (by omega) (by omega) (by omega) (by omega) (by omega)⟩) (fun c hc => by
      rw [L3]
      by_cases e : c < n
      · rw [tk_3n e]; exact h1.rank c e
      · obtain rfl : c = n := by omega
        exact t3)
  refine ⟨d1, fun c hc => ?_⟩
  by_cases e : c ≤ n
  · exact A.x4 (by omega) (hX c e)
  · obtain rfl : c = n + 1 := by omega
    exact M1.x4
theorem Dg.start (hS : Sb0 σ ρ) (hL : Ls σ ρ 0 6) : Dg 0 (fun _ => 0) σ ρ := by
  have sz : ∀ w, w ≠ (6, 0, 0) → w ≠ (7, 0, 0) → w ≠ (3, 0, 0) → σ w = 0 := fun w w1 w2 w3 => (hS.1 w w1 w2).trans (s00_0 w3)
  have rz : ∀ w : nm, ((w.1 ≠ 4 ∧ w.1 ≠ 5) ∨ w.2.1 ≠ 0) → w ≠ (1, 1, 0) → ρ w = 0 := fun w w1 w2 => (hS.2 w w1).trans (r00_0 w2)
  have z : ∀ k i j, (k ≠ 6 ∧ k ≠ 7 ∧ k ≠ 3) ∨ (i ≠ 0 ∧ k ≠ 3) → σ (k, i, j) = 0 := fun k i j h => sz _ (fun e => by cases e; omega) (fun e => by cases e; omega) (fun e => by cases e; omega)
  have r : ∀ k i j, i ≠ 0 → k ≠ 1 → ρ (k, i, j) = 0 := fun k i j h h1 => rz _ (Or.inr h) (fun e => h1 (by cases e; rfl))
  have l0 : ∀ l, l ≠ 0 → Ls σ ρ l 0 := fun l hl => ⟨z _ _ _ (by omega), fun j => ⟨fun q => absurd (r _ _ _ hl (by omega)) q, fun q => absurd q (by omega)⟩, by omega, by rw [r _ _ _ hl (by omega)]; omega⟩
  have em : Em σ ρ 0 := ⟨z _ _ _ (by omega), fun j => r _ _ _ (by omega) (by omega), by rw [r _ _ _ (by omega) (by omega)]; omega, z _ _ _ (by omega)⟩
  refine ⟨⟨⟨hL, l0 1 (by omega), by omega, rz _ (Or.inl (by simp)) (fun e => by cases e)⟩, fun s hs => ⟨l0 _ (by omega), Nat.zero_le _, fun v hv => (Nat.not_lt_zero v hv).elim⟩, fun c hc => ?_, fun c hc => absurd hc (by omega), fun s hs => ⟨Or.inl (z _ _ _ (by omega)), Or.inl (z _ _ _ (by omega))⟩, fun c hc => absurd hc (by omega), Nat.zero_le _⟩, fun c hc => ?_⟩
  · obtain rfl : c = 0 := by omega
    exact em.c0
  · obtain rfl : c = 0 := by omega
    exact em.x4
