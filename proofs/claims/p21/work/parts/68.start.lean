/-! ===== the pure part: the law's start ===== -/
variable {M M' : zM} {n c d s i k a a1 a2 b t L : Nat} {xs : Nat → Int32}
/-- a new object's state -/
def S00 : St := (0, fun _ => 0, up s00 (7, 0, 0) (nI 6), r00, [])
theorem r_new (ht : M t = some zN) (hb : M b = some (zS L xs)) (htb : t ≠ b) {P : Nat → zM → Prop} (hP : ∀ q M' D', Kp M (fun _ => False) M' D' → Cmp q S00 D' M' → P q M') : zNw M 6 [.null, .null, .null, .null, .null, .null] (fun q M1 => w_X5_init q M1 (fun M2 => P q M2)) := by
  intro q1 hq1
  have h0 : zC (Fr M (fun q => q = b)) (fun y => y = ((12, 0, 0) : nm) ∨ y = (13, 0, 0)) (fun y => if y.1 = 12 then b else t) s00 r00 (fun k => if k = 12 then zS L xs else zN) M := by
    refine ⟨fun y hy => ?_, ⟨fun y z hy hz hne e => ?_, fun q e hq => ?_⟩, fun y hy u hu => ?_, fun y hy => ?_⟩
    · rcases hy with rfl | rfl
      · exact hb
      · exact ht
    · rcases hy with rfl | rfl <;> rcases hz with rfl | rfl
      · exact absurd rfl hne
      · exact absurd e.symm htb
      · exact absurd e htb
      · exact absurd rfl hne
    · obtain ⟨f1, f2⟩ := Fr_is hq
      refine ⟨f1, fun x hx e1 => ?_⟩
      rcases hx with rfl | rfl
      · exact absurd e1.symm f2
      · rfl
    · rcases hy with rfl | rfl
      · exact (refs_k (by omega) hu).elim
      · exact (refs_k (by omega) hu).elim
    · rcases hy with rfl | rfl <;> exact can_k
  have h1 := h0.tmp (k := 17) (e := zO 6 [.null, .null, .null, .null, .null, .null]) (by omega) (fun y hy => by rcases hy with rfl | rfl <;> simp) hq1
  have c17 : up (fun y : nm => if y.1 = 12 then b else t) (17, 0, 0) q1 (17, 0, 0) = q1 := up_s _ _ _
  have xi := x5_init h1 (Or.inl rfl) (fun y => Iff.rfl) (ux_s _ _ _) (ux_n _ _ (by omega)) (P := fun M2 => P q1 M2)
    (fun M2 V2 ad2 σ2 ρ2 ξ2 hB v0 v12 v13 a0 a12 a13 x12 x13 hS hLs h2 => ?_)
  · rw [c17] at xi; exact xi
  have b12 : ad2 (12, 0, 0) = b := by rw [a12, up_n _ _ (fun e => by cases e)]; rfl
  have e12 : cell ad2 σ2 ρ2 ξ2 (12, 0, 0) = zS L xs := by
    show ξ2 12 = _
    rw [x12, ux_n _ _ (by omega)]; rfl
  have h3 : zC (fun _ => none) (fun y => V2 y ∧ y.1 ≠ 12) ad2 σ2 ρ2 ξ2 M2 := by
    have h3 := h2.less (V' := fun y => V2 y ∧ y.1 ≠ 12) (fun y hy => hy.1) (fun y hy u hu => ⟨h2.2.2.1 y hy.1 u hu, by have := refs_lt hu; omega⟩)
    exact ⟨h3.1, ⟨h3.2.1.1, fun q e hq => by cases hq⟩, h3.2.2⟩
  have E : EV σ2 (up s00 (7, 0, 0) (nI 6)) := fun w w1 w2 w3 => by
    by_cases e : w = (7, 0, 0)
    · rw [e, up_s]; exact hLs.1
    · rw [up_n _ _ e]
      exact hS.1 w (fun q => w2 (by rw [q])) e
  refine hP q1 M2 (dom (fun y => V2 y ∧ y.1 ≠ 12) ad2 σ2 ρ2 ξ2) ⟨fun q e hq _ => ?_, fun q hq => Or.inr ?_⟩ ⟨_, ad2, σ2, ρ2, ξ2, h3, ⟨⟨v0, by simp⟩, a0.trans c17, ⟨v13, by simp⟩, x13, fun y hy => (hB y hy.1).2.2.2, Dg.start hS hLs, E, fun w hw => hS.2 w (Or.inl (by omega)), 0, 1, ?_, ?_, by omega, by omega, by omega, by show 0 ≤ 20; omega, ?_, fun j hj => absurd hj (Nat.not_lt_zero j)⟩, rfl⟩
  · by_cases e1 : q = b
    · subst e1
      rw [hb] at hq
      cases hq
      have := h2.1 _ v12
      rw [b12, e12] at this
      exact this
    · exact (h2.2.1.2 q e (Fr_of hq e1)).1
  · obtain ⟨x, hx, e1, hn⟩ := hq
    cases e : M q with
    | none => rfl
    | some z =>
      by_cases e2 : q = b
      · exact absurd (h2.2.1.1 x (12, 0, 0) hx.1 v12 (fun q => hx.2 (by rw [q])) (by rw [e1, b12, e2])) hn
      · exact absurd ((h2.2.1.2 q z (Fr_of e e2)).2 x hx.1 e1) hn
  · rw [hS.2 _ (Or.inl (by simp))]; exact r00_0 (fun e => by cases e)
  · rw [hS.2 _ (Or.inl (by simp))]; rfl
  · rw [hS.1 _ (fun e => by cases e) (fun e => by cases e)]; exact s00_0 (fun e => by cases e)
theorem law_ok (hL : L ≤ 260) (hb : M b = some (zS L xs)) (ht : M t = some zN) (htb : t ≠ b) : w_L_law b M := by
  refine r_new ht hb htb fun q1 M1 D1 K1 c1 => ?_
  have ht1 := K1.1 _ _ ht (fun h => h)
  have hb1 := K1.1 _ _ hb (fun h => h)
  refine r_new ht1 hb1 htb fun q2 M2 D2 K2 c2 => ?_
  have T : Two b q1 q2 L xs S00 S00 M2 := by
    refine ⟨D1, D2, c1.keep (D1 := fun _ => False) (fun q h => h.elim) (fun q h => h.elim) K2, c2, fun q h1 h2 => ?_, K2.1 _ _ hb1 (fun h => h), fun h => ?_, fun h => ?_⟩
    · rcases K2.2 q h2 with h | h
      · exact h
      · obtain ⟨e, h3, -⟩ := c1.nz h1
        rw [h] at h3; cases h3
    · rcases K1.2 b h with h | h
      · exact h
      · rw [hb] at h; cases h
    · rcases K2.2 b h with h | h
      · exact h
      · rw [hb1] at h; cases h
  have := law_loop hL 91 0 S00 M2 (by omega) (by omega) T
  rw [nI_0] at this
  exact this
