/-! ===== the pure part: the versions are as they should be ===== -/
variable {M M' : zM} {n c d s i k a a1 a2 b L : Nat} {xs : Nat → Int32} {p q p' q' : Int32} {S S1 S2 : St} {D D1 D2 : Nat → Prop} {P : Int32 → zM → Prop} {PX : Nat → zM → Prop} {l : List Int32}
theorem nI_20 (h : n ≤ 20) (h1 : 1 ≤ n) : ¬ nI n < 1 ∧ ¬ (20 : Int32) < nI n := ⟨nI_nlt (a := n) (b := 1) h1 (by omega), nI_nlt (a := 20) (b := n) h (by omega)⟩
theorem versions_so (T : Two b a1 a2 L xs S S2 M) {o w : Int32} (hP : ∀ M', Two b a1 a2 L xs S S2 M' → P 1 M') : w_L_areVersionsSo a1 o w M P := by
  have V := T.vd
  refine t1_num T fun M T => ?_
  have key : ∀ n k M, k + n = 36 → Two b a1 a2 L xs S S2 M → w_L_areVersionsSo_21 a1 o w P (n + 1) 1 (fN S (o / 6) (o - o / 6 * 6)) (nI k) M := by
    intro n
    induction n with
    | zero =>
      intro k M hk T
      obtain rfl : k = 36 := by omega
      exact ⟨fun _ => ⟨Or.inr rfl, hP M T⟩, fun q => absurd (nI_le (a := 36) (b := 36) (by omega) (by omega)) q⟩
    | succ n ih =>
      intro k M hk T
      have next : ∀ M, Two b a1 a2 L xs S S2 M → w_L_areVersionsSo_257 a1 o w P (w_L_areVersionsSo_21 a1 o w P (n + 1)) 1 (fN S (o / 6) (o - o / 6 * 6)) (nI k) M := fun M T => by
        show w_L_areVersionsSo_21 a1 o w P (n + 1) 1 (fN S (o / 6) (o - o / 6 * 6)) (nI k + 1) M
        rw [nI_1]
        exact ih (k + 1) M (by omega) T
      refine ⟨fun q => absurd q (nI_ge (a := k) (b := 36) (by omega) (by omega)), fun _ => ⟨fun q => absurd q (by decide), fun _ => t1_num T fun M1 T1 => ?_⟩⟩
      cases e : sv S.2.1 S.2.2.1 (nI k / 6) (nI k - nI k / 6 * 6) with
      | none =>
        have f1 : fN S (nI k / 6) (nI k - nI k / 6 * 6) = -99999 := by unfold fN; rw [e]
        rw [f1]
        exact ⟨fun _ => next M1 T1, fun q => absurd (by decide) q⟩
      | some z =>
        obtain ⟨l1, l2, l3, l4⟩ := vd_lt V e
        have f1 : fN S (nI k / 6) (nI k - nI k / 6 * 6) = nI (S.2.2.2.1 (2, z.1, z.2)) := by unfold fN; rw [e]
        have f2 : fL S (nI k / 6) (nI k - nI k / 6 * 6) = nI (lnn S.2.2.1 (S.2.2.2.1 (2, z.1, z.2))) := by unfold fL; rw [e]
        have f3 : fC S (nI k / 6) (nI k - nI k / 6 * 6) (nI k / 6) (nI k - nI k / 6 * 6) = 1 := by
          unfold fC; rw [e]
          simp only [vd_can V l1]
          rfl
        rw [f1]
        generalize hc : S.2.2.2.1 (2, z.1, z.2) = c at *
        -- the other one's version, where its number is this one's
        have same : fN S (o / 6) (o - o / 6 * 6) = nI c → ∃ t, sv S.2.1 S.2.2.1 (o / 6) (o - o / 6 * 6) = some t ∧ S.2.2.2.1 (2, t.1, t.2) = c := fun h => by
          cases e2 : sv S.2.1 S.2.2.1 (o / 6) (o - o / 6 * 6) with
          | none =>
            unfold fN at h
            rw [e2] at h
            exact absurd h.symm (nI_9 (by omega))
          | some t =>
            unfold fN at h
            rw [e2] at h
            have := (vd_lt V e2).1
            exact ⟨t, rfl, (nI_eq (by omega) (by omega)).1 h⟩
        have h232 : ∀ M, Two b a1 a2 L xs S S2 M → fN S (o / 6) (o - o / 6 * 6) = nI c → w_L_areVersionsSo_232 a1 o w P (w_L_areVersionsSo_21 a1 o w P (n + 1)) (fN S (o / 6) (o - o / 6 * 6)) (nI k) (nI (lnn S.2.2.1 c)) M := fun M T h => by
          obtain ⟨t, e2, e3⟩ := same h
          have f4 : fL S (o / 6) (o - o / 6 * 6) = nI (lnn S.2.2.1 c) := by unfold fL; rw [e2]; simp only [e3]
          refine t1_len T fun M1 T1 => ?_
          rw [f4]
          exact ⟨fun q => absurd rfl q, fun _ => next M1 T1⟩
        have h210 : ∀ M x7, Two b a1 a2 L xs S S2 M → (nI k - nI k / 6 * 6 = w → fN S (o / 6) (o - o / 6 * 6) = nI c → x7 = 1) → w_L_areVersionsSo_210 a1 o w P (w_L_areVersionsSo_21 a1 o w P (n + 1)) (fN S (o / 6) (o - o / 6 * 6)) (nI k) (nI c) x7 (nI (lnn S.2.2.1 c)) M := fun M x7 T h =>
          ⟨fun _ => next M T, fun h1 => ⟨fun _ => h232 M T h1, fun h2 => ⟨fun q => absurd (h h2 h1) q, fun _ => h232 M T h1⟩⟩⟩
        have h112 : ∀ M x7 y0, Two b a1 a2 L xs S S2 M → (nI k - nI k / 6 * 6 = w → ((0 : Int32) ≤ fN S (o / 6) (o - o / 6 * 6) → y0 = -99999 ∨ y0 = x7) ∧ (¬ (0 : Int32) ≤ fN S (o / 6) (o - o / 6 * 6) → x7 = -99999 ∧ y0 = -99999) ∧ (fN S (o / 6) (o - o / 6 * 6) = nI c → x7 = 1)) → w_L_areVersionsSo_112 a1 o w P (w_L_areVersionsSo_21 a1 o w P (n + 1)) (fN S (o / 6) (o - o / 6 * 6)) (nI k) (nI c) x7 y0 M := fun M x7 y0 T h => by
          refine t1_len T fun M1 T1 => ?_
          rw [f2]
          obtain ⟨g1, g2⟩ := nI_20 l4 l3
          refine ⟨fun q => absurd q g1, fun _ => ⟨fun q => absurd q g2, fun _ => ⟨fun q => absurd q (nI_ge (a := c) (b := 36) (by omega) (by omega)), fun _ => ⟨fun _ => h210 M1 x7 T1 (fun h1 h2 => (h h1).2.2 h2), fun h1 => t1_can T1 fun M2 T2 => ?_⟩⟩⟩⟩
          rw [f3]
          obtain ⟨h2, h3, h4⟩ := h h1
          refine ⟨fun q => absurd rfl q, fun _ => ⟨fun h0 => ⟨fun _ => h210 M2 x7 T2 (fun _ => h4), fun h5 => ⟨fun h6 => absurd ((h2 h0).resolve_left h5) h6, fun _ => h210 M2 x7 T2 (fun _ => h4)⟩⟩, fun h0 => ⟨fun q => absurd (h3 h0).1 q, fun _ => ⟨fun q => absurd (h3 h0).2 q, fun _ => h210 M2 x7 T2 (fun _ => h4)⟩⟩⟩⟩
        refine ⟨fun q => absurd q (nI_pos (by omega)), fun _ => ⟨fun h1 => ⟨fun _ => h112 M1 0 0 T1 (fun h2 => absurd h2 h1), fun h2 => absurd h2 h1⟩, fun h1 => t1_can T1 fun M2 T2 => ⟨fun h2 => absurd h1 h2, fun _ => ?_⟩⟩⟩
        have h4 : fN S (o / 6) (o - o / 6 * 6) = nI c → fC S (nI k / 6) (nI k - nI k / 6 * 6) (o / 6) (o - o / 6 * 6) = 1 := fun h => by
          obtain ⟨t, e2, e3⟩ := same h
          unfold fC
          rw [e, e2]
          simp only [hc, e3, vd_can V l1]
          rfl
        have h3 : ¬ (0 : Int32) ≤ fN S (o / 6) (o - o / 6 * 6) → sv S.2.1 S.2.2.1 (o / 6) (o - o / 6 * 6) = none := fun h => by
          cases e2 : sv S.2.1 S.2.2.1 (o / 6) (o - o / 6 * 6) with
          | none => rfl
          | some t =>
            unfold fN at h
            rw [e2] at h
            have := (vd_lt V e2)
            exact absurd (nI_pos' (by omega)) h
        refine ⟨fun _ => h112 M2 _ _ T2 (fun _ => ⟨fun _ => Or.inr rfl, fun h0 => ?_, h4⟩), fun _ => t1_all T2 fun M3 T3 => h112 M3 _ _ T3 (fun _ => ⟨fun h0 => ?_, fun h0 => ?_, h4⟩)⟩
        · have : fC S (nI k / 6) (nI k - nI k / 6 * 6) (o / 6) (o - o / 6 * 6) = -99999 := by
            unfold fC
            rw [e, h3 h0]
          exact ⟨this, this⟩
        · cases e2 : sv S.2.1 S.2.2.1 (o / 6) (o - o / 6 * 6) with
          | none => left; unfold fAl; rw [e, e2]
          | some t =>
            unfold fAl fC
            rw [e, e2]
            simp only []
            split
            · exact Or.inr rfl
            · exact Or.inl rfl
        · refine ⟨?_, ?_⟩
          · unfold fC
            rw [e, h3 h0]
          · unfold fAl
            rw [e, h3 h0]
  exact key 36 0 M (by omega) T
