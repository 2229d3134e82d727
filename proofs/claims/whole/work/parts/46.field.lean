/-! ===== the pure part: field in the reference ===== -/
variable {V V' : nm → Prop} {ad ad' : nm → Nat} {σ σ' τ τ' : nI2} {ρ ρ' π : nN2} {ξ ξ' : Nat → zE} {M : zM} {x y w : nm} {n : Nat} {cnt : Nat → Nat}
/-- a place behind the draft's fields doesn't matter -/
theorem Rel_fld {k z : Nat} {v : Int32} (hn : n ≤ 36) (hW : WC n τ π) (hz : zz τ n ≤ z) (hk : k ≤ 6) (h : Rel n cnt τ π σ) : Rel n cnt τ π (up σ (17, k, 180 + z) v) := by
  obtain ⟨h1, h2, h3⟩ := h
  have C : ∀ q j, 7 ≤ q → up σ (17, k, 180 + z) v (17, q, j) = σ (17, q, j) := fun q j hq => up_n _ _ (fun e => by cases e; omega)
  refine ⟨(up_n _ _ (fun e => by cases e)).trans h1, fun c hc => ?_, fun s hs => ?_⟩
  · obtain ⟨a, b, d⟩ := h2 c hc
    refine ⟨(C _ _ (by omega)).trans a, (C _ _ (by omega)).trans b, fun j hj => (d j hj).tr (fun _ _ _ => rfl) (fun q _ => up_n _ _ (fun e => ?_))⟩
    have e2 := congrArg (fun w : nm => w.2.2) e
    simp only at e2
    have z5 := (hW c hc).1.2
    by_cases hcn : c < n
    · rw [ix_c hcn] at e2; omega
    · obtain rfl : c = n := by omega
      rw [ix_n] at e2; omega
  · obtain ⟨a, b, d, e, f⟩ := h3 s hs
    exact ⟨(C _ _ (by omega)).trans a, fun v' hv => ⟨(C _ _ (by omega)).trans (b v' hv).1, (C _ _ (by omega)).trans (b v' hv).2⟩, fun v' q1 q2 => (C _ _ (by omega)).trans (d v' q1 q2), (C _ _ (by omega)).trans e, (C _ _ (by omega)).trans f⟩
/-- the reference's rows after a field -/
def fS (σ : nI2) (z ln k : Nat) (p0 p1 p2 p3 : Int32) : nI2 := up (up (up (up (up (up (up (up (up σ (16, 0, 0) 0) (17, 1, 180 + z) p0) (17, 2, 180 + z) p1) (17, 3, 180 + z) (if p1 ≤ 2 then 0 else p2)) (17, 4, 180 + z) p3) (17, 5, 180 + z) 0) (17, 6, 180 + z) 0) (17, 8, 36) (nI (ln + k))) (17, 7, 36) (nI (z + 1))
theorem m_field (h : zC V ad σ ρ ξ M) (hV : V (9, 0, 0)) (R : Rel n cnt τ π σ) (hK : WK n cnt τ π) (hP0 : WP n τ π) {p0 p1 p2 p3 : Int32} {P : Int32 → zM → Prop} (h1 : ¬ OKa p0 p1 p2 p3 → ∀ M', zC V ad (up σ (16, 0, 0) 1) ρ ξ M' → P 0 M') (h2 : OKa p0 p1 p2 p3 → p1 = 4 → (∀ s v, ¬ RefOK cnt τ p2 s v) → ∀ M', zC V ad (up σ (16, 0, 0) 2) ρ ξ M' → P 0 M') (h3 : ∀ k, OKa p0 p1 p2 p3 → Mor cnt τ π p1 p2 k → Ful τ n p0 k → ∀ M', zC V ad (up σ (16, 0, 0) 3) ρ ξ M' → P 0 M') (h0 : ∀ k, OKa p0 p1 p2 p3 → Mor cnt τ π p1 p2 k → ¬ Ful τ n p0 k → ∀ M', zC V ad (fS σ (zz τ n) (lnn τ n) k p0 p1 p2 p3) ρ ξ M' → P (nI (zz τ n + 1)) M') : w_X6_field (ad (9, 0, 0)) p0 p1 p2 p3 M P := by
  have hn := hK.1.2.2.1
  have z5 := (hK.2.2 n (Nat.le_refl n)).1.2
  have l20 := (hP0.lnn (Nat.le_refl n)).2
  refine ⟨g_is h hV rfl, m_errorOfField h hV R hK hP0 (fun no => ⟨g_is h hV rfl, p_0 h hV fun M' h' => ⟨fun _ => ⟨fun e => absurd rfl e, fun _ => h1 no M' h'⟩, fun e => absurd e (by decide)⟩⟩) (fun ok e4 no => ⟨g_is h hV rfl, p_0 h hV fun M' h' => ⟨fun _ => ⟨fun e => absurd rfl e, fun _ => h2 ok e4 no M' h'⟩, fun e => absurd e (by decide)⟩⟩) (fun k ok hm hf => ⟨g_is h hV rfl, p_0 h hV fun M' h' => ⟨fun _ => ⟨fun e => absurd rfl e, fun _ => h3 k ok hm hf M' h'⟩, fun e => absurd e (by decide)⟩⟩) (fun k ok hm hf => ⟨g_is h hV rfl, p_0 h hV fun M1 h1' => ⟨fun e => absurd rfl e, fun _ => ⟨fun _ => ?_, fun e => absurd e (by decide)⟩⟩⟩)⟩
  have hz : zz τ n < 5 := by
    have : ¬ zz τ n = 5 := fun q => hf (Or.inl q)
    omega
  have fin := h0 k ok hm hf
  have R1 : Rel n cnt τ π (up σ (16, 0, 0) 0) := R.ofz EQz.up
  unfold fS at fin
  generalize up σ (16, 0, 0) 0 = σ1 at h1' R1 fin
  obtain ⟨r1, r2, r3⟩ := R1.2.1 n (Nat.le_refl n)
  rw [ix_n] at r1 r2
  have b1 : 180 + zz τ n < 185 := by omega
  have xe : (180 : Int32) + nI (zz τ n) = nI (180 + zz τ n) := nI_add 180 _
  refine m_r h1' hV 7 (a_i h1' hV 7 36 rfl (show 36 < 37 by omega) ?_)
  rw [r1, xe]
  refine m_r h1' hV 1 (st_i h1' hV 1 _ rfl b1 fun M2 h2' => m_r h2' hV 2 (st_i h2' hV 2 _ rfl b1 fun M3 h3' => m_r h3' hV 3 ?_))
  have R3 := Rel_fld (v := p1) hn hK.2.2 (Nat.le_refl _) (show 2 ≤ 6 by omega) (Rel_fld (v := p0) hn hK.2.2 (Nat.le_refl _) (show 1 ≤ 6 by omega) R1)
  have go : ∀ dt : Int32, dt = (if p1 ≤ 2 then 0 else p2) → w_X6_field_63 (ad (9, 0, 0)) p0 p1 p2 p3 P (nI (180 + zz τ n)) dt (nI (180 + zz τ n)) (ad (10, 3, 0)) M3 := fun dt hdt => by
    refine st_i h3' hV 3 _ rfl b1 fun M4 h4' => m_r h4' hV 4 (st_i h4' hV 4 _ rfl b1 fun M5 h5' => m_r h5' hV 5 (st_z h5' hV 5 _ rfl b1 (Or.inl rfl) fun M6 h6' => m_r h6' hV 6 (st_i h6' hV 6 _ rfl b1 fun M7 h7' => m_r h7' hV 8 (a_i h7' hV 8 36 rfl (show 36 < 37 by omega) ?_))))
    have R7 := Rel_fld (v := 0) hn hK.2.2 (Nat.le_refl _) (show 6 ≤ 6 by omega) (Rel_fld (v := 0) hn hK.2.2 (Nat.le_refl _) (show 5 ≤ 6 by omega) (Rel_fld (v := p3) hn hK.2.2 (Nat.le_refl _) (show 4 ≤ 6 by omega) (Rel_fld (v := dt) hn hK.2.2 (Nat.le_refl _) (show 3 ≤ 6 by omega) R3)))
    rw [← hdt] at fin
    generalize up (up (up (up (up (up σ1 (17, 1, 180 + zz τ n) p0) (17, 2, 180 + zz τ n) p1) (17, 3, 180 + zz τ n) dt) (17, 4, 180 + zz τ n) p3) (17, 5, 180 + zz τ n) 0) (17, 6, 180 + zz τ n) 0 = σ7 at h7' R7 fin
    obtain ⟨t1, t2, -⟩ := R7.2.1 n (Nat.le_refl n)
    rw [ix_n] at t1 t2
    rw [t2]
    have last : w_X6_field_116 (ad (9, 0, 0)) p0 p1 p2 p3 P (nI k) (nI (lnn τ n)) 36 (ad (10, 8, 0)) M7 := by
      refine st_i h7' hV 8 36 rfl (show 36 < 37 by omega) fun M8 h8' => m_r h8' hV 7 (a_i h8' hV 7 36 rfl (show 36 < 37 by omega) ?_)
      rw [up_n _ _ (fun e => by cases e), t1, nI_1]
      refine st_i h8' hV 7 36 rfl (show 36 < 37 by omega) fun M9 h9' => m_r h9' hV 7 (a_i h9' hV 7 36 rfl (show 36 < 37 by omega) ?_)
      rw [up_s]
      rw [nI_add] at h9'
      exact fin M9 h9'
    rcases hm with ⟨e4, ek⟩ | ⟨e4, s, v, ⟨a1, a2, a3, a4⟩, ek⟩
    · refine ⟨fun _ => ?_, fun e => absurd e e4⟩
      rw [ek] at last
      exact last
    · refine ⟨fun e => absurd e4 e, fun _ => m_r h7' hV 8 ⟨g_is h7' hV rfl, ?_⟩⟩
      have hlt := ((hK.2.1 s a1).2.2 v a2).2
      have hsc := m_schemaOf h7' hV R7 a1 a2 (hK.2.1 s a1).2.1 (P := fun v18 M17 => zAi M17 0 (ad (10, 8, 0)) v18 (fun v19 => (w_X6_field_116 (ad (9, 0, 0)) p0 p1 p2 p3 P v19 (nI (lnn τ n)) (36 : Int32) (ad (10, 8, 0)) M17)))
      rw [← a3] at hsc
      refine hsc (a_i h7' hV 8 (π (2, s, v)) rfl (show π (2, s, v) < 37 by omega) ?_)
      have r8 := (R7.2.1 (π (2, s, v)) (by omega)).2.1
      rw [ix_c hlt] at r8
      rw [r8, ← ek]
      exact last
  exact ⟨fun e => go 0 (by rw [if_pos e]), fun e => go p2 (by rw [if_neg e])⟩
