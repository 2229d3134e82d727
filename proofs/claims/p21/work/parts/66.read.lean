/-! ===== the pure part: records are read as they should be ===== -/
variable {M M' : zM} {n c d s i k a a1 a2 b L : Nat} {xs : Nat → Int32} {p q p' q' : Int32} {S S1 S2 S' : St} {D D1 D2 : Nat → Prop} {P : Int32 → zM → Prop} {PX : Nat → zM → Prop} {l : List Int32} {r : Int32}
theorem Two.o0 {C : Nat → zM → (Int32 → zM → Prop) → Prop} (hC : ∀ a D M P, Cmp a S1 D M → (∀ M' D', Kp M D M' D' → Cmp a S' D' M' → P r M') → C a M P) (T : Two b a1 a2 L xs S1 S2 M) (hP : ∀ M', Two b a1 a2 L xs S' S2 M' → P r M') : C a1 M P := by
  obtain ⟨D1, D2, c1, c2, dis, hb, n1, n2⟩ := T
  refine hC a1 D1 M P c1 (fun M' D' K c' => hP M' ⟨D', D2, c', c2.keep (fun q hq => c1.nz hq) dis K, fun q h1 h2 => ?_, K.1 b _ hb n1, fun h => ?_, n2⟩)
  · rcases K.2 q h1 with h | h
    · exact dis q h h2
    · obtain ⟨e, h3, -⟩ := c2.nz h2
      rw [h] at h3; cases h3
  · rcases K.2 b h with h | h
    · exact n1 h
    · rw [hb] at h; cases h
theorem t1_val (T : Two b a1 a2 L xs S1 S2 M) (hl : S1.2.2.2.2.length < 20) (hP : ∀ M', Two b a1 a2 L xs (stL S1 (S1.2.2.2.2 ++ [p])) S2 M' → P (nI (S1.2.2.2.2.length + 1)) M') : zIs M a1 6 ∧ w_X5_value a1 p M P (fun _ _ => False) :=
  T.o0 (C := fun a M P => zIs M a 6 ∧ w_X5_value a p M P (fun _ _ => False)) (fun a D M P h hP => r_value h (fun _ => hP) (fun e => by omega)) hP
theorem t2_val (T : Two b a1 a2 L xs S1 S2 M) (hl : S2.2.2.2.2.length < 20) (hP : ∀ M', Two b a1 a2 L xs S1 (stL S2 (S2.2.2.2.2 ++ [p])) M' → P (nI (S2.2.2.2.2.length + 1)) M') : zIs M a2 6 ∧ w_X5_value a2 p M P (fun _ _ => False) :=
  t1_val T.swap hl (fun M' T' => hP M' T'.swap)
theorem t1_vat (T : Two b a1 a2 L xs S1 S2 M) {j : Nat} (hj : j < S1.2.2.2.2.length) (hP : ∀ M', Two b a1 a2 L xs S1 S2 M' → P (S1.2.2.2.2.getD j 0) M') : zIs M a1 6 ∧ w_X5_valueAt a1 (nI j) M P (fun _ _ => False) := by
  obtain ⟨σ, ρ, G, E, R, l20⟩ := T.vd
  have e0 := plc_eq l20 hj
  exact T.o0 (C := fun a M P => zIs M a 6 ∧ w_X5_valueAt a (nI j) M P (fun _ _ => False)) (fun a D M P h hP => r_valueAt h (fun t e => by rw [e0] at e; obtain rfl := Option.some.inj e; exact hP M D Kp.rf h) (fun e => by rw [e0] at e; cases e)) hP
/-- a cell's bits -/
def bit (v : Int32) (j : Nat) : Int32 := (v >>> ((nI j - nI j / 7 * 7) &&& 31)) &&& 1
def vs (v : Int32) : Nat → List Int32
  | 0 => []
  | j + 1 => vs v j ++ [bit v j]
theorem vs_len (v : Int32) : ∀ j, (vs v j).length = j := by
  intro j
  induction j with
  | zero => rfl
  | succ j ih => simp only [vs, List.length_append, List.length_cons, List.length_nil, ih]
theorem vs_get (v : Int32) : ∀ k j, j < k → (vs v k).getD j 0 = bit v j := by
  intro k
  induction k with
  | zero => intro j h; omega
  | succ k ih =>
    intro j h
    have hl := vs_len v k
    show (vs v k ++ [bit v k]).getD j 0 = bit v j
    by_cases e : j = k
    · subst e
      have := getD_last (vs v j) (bit v j)
      rw [hl] at this
      exact this
    · rw [getD_app _ _ (by omega)]
      exact ih j (by omega)
theorem bit_pos (v : Int32) (j : Nat) : ¬ bit v j < 0 := by
  obtain ⟨t, ht, e⟩ := pk_andE (v >>> ((nI j - nI j / 7 * 7) &&& 31)) (m := 1) 1 (by decide)
  unfold bit
  rw [e]
  exact nI_pos (by omega)
theorem bI_1 {t : Bool} : bI t = 1 ↔ t = true := by cases t <;> decide
theorem read_so (T : Two b a1 a2 L xs S S M) {rd w v : Int32} (hP : ∀ M' S', Two b a1 a2 L xs S' S' M' → P 1 M') : w_L_isReadSo a1 a2 rd w v M P := by
  have V := T.vd
  refine t1_len T fun M T => ?_
  cases e : sv S.2.1 S.2.2.1 (w / 6) (w - w / 6 * 6) with
  | none =>
    have f1 : fL S (w / 6) (w - w / 6 * 6) = -99999 := by unfold fL; rw [e]
    rw [f1]
    refine ⟨fun q => absurd q (by decide), fun _ => t2_len T fun M1 T1 => ?_⟩
    rw [f1]
    exact ⟨fun q => absurd rfl q, fun _ => hP M1 S T1⟩
  | some t =>
    obtain ⟨l1, l2, l3, l4⟩ := vd_lt V e
    have f1 : fL S (w / 6) (w - w / 6 * 6) = nI (lnn S.2.2.1 (S.2.2.2.1 (2, t.1, t.2))) := by unfold fL; rw [e]
    rw [f1]
    generalize hc : S.2.2.2.1 (2, t.1, t.2) = c at *
    generalize hlen : lnn S.2.2.1 c = len at *
    refine ⟨fun _ => t1_clear T fun M1 T1 => t2_clear T1 fun M2 T2 => ⟨fun q => absurd rfl q, fun _ => ?_⟩, fun q => absurd (nI_pos' (by omega)) q⟩
    -- the state with the record of the bits
    have evs : sv (stL S (vs v len)).2.1 (stL S (vs v len)).2.2.1 (w / 6) (w - w / 6 * 6) = some t := e
    have hlv : (stL S (vs v len)).2.2.2.2.length = len := vs_len v len
    -- the end
    have h296 : ∀ M S3 (x10 : Int32), Two b a1 a2 L xs S3 S3 M → ((0 : Int32) ≤ x10 → fL S3 (rd / 6) (rd - rd / 6 * 6) = x10 ∧ fR S3 (rd / 6) (rd - rd / 6 * 6) = 1) → (¬ (0 : Int32) ≤ x10 → S3 = stL S (vs v len)) → w_L_isReadSo_296 a1 a2 rd w v P (nI len) x10 M := fun M S3 x10 T h1 h2 => by
      refine ⟨fun q => absurd q (by decide), fun _ => ⟨fun h0 => t1_len T fun M1 T1 => ?_, fun h0 => t1_at T fun M1 T1 => ?_⟩⟩
      · rw [(h1 h0).1]
        refine ⟨fun q => absurd rfl q, fun _ => t1_rec T1 fun M2 T2 => ?_⟩
        rw [(h1 h0).2]
        exact ⟨fun q => absurd rfl q, fun _ => hP M2 S3 T2⟩
      · have e3 := h2 h0
        subst e3
        have p1 : fP (stL S (vs v len)) (nI len) = -99999 := by
          unfold fP
          rw [plc_no (fun j hj q => by
            rw [hlv] at hj
            have := (nI_eq (by omega) (by omega)).1 q
            omega)]
        rw [p1]
        refine ⟨fun q => absurd rfl q, fun _ => t1_at T1 fun M2 T2 => ?_⟩
        have p2 : fP (stL S (vs v len)) (nI len - 1) = bit v (len - 1) := by
          obtain ⟨m, hm⟩ : ∃ m, len = m + 1 := ⟨len - 1, by omega⟩
          unfold fP
          rw [show nI len - 1 = nI (len - 1) by rw [hm, nI_pred]; rfl, plc_eq (by omega) (show len - 1 < (stL S (vs v len)).2.2.2.2.length by omega)]
          exact vs_get v len (len - 1) (by omega)
        rw [p2]
        exact ⟨fun q => absurd q (bit_pos _ _), fun _ => hP M2 _ T2⟩
    -- the other's version reads it
    have h244 : ∀ M, Two b a1 a2 L xs (stL S (vs v len)) (stL S (vs v len)) M → w_L_isReadSo_244 a1 a2 rd w v P (nI len) 1 (bI (rcL S.2.2.1 (vs v len) c)) M := fun M T => by
      have V' := T.vd
      refine t1_can T fun M1 T1 => t1_read T1 fun M2 T2 => ⟨fun q => absurd q (by decide), fun _ => t2_read T2 fun M3 T3 => ⟨fun q => absurd rfl q, fun _ => ?_⟩⟩
      cases er : sv S.2.1 S.2.2.1 (rd / 6) (rd - rd / 6 * 6) with
      | none =>
        have er' : sv (stL S (vs v len)).2.1 (stL S (vs v len)).2.2.1 (rd / 6) (rd - rd / 6 * 6) = none := er
        have g1 : fC (stL S (vs v len)) (rd / 6) (rd - rd / 6 * 6) (w / 6) (w - w / 6 * 6) = -99999 := by unfold fC; rw [er']
        have g2 : fRd (stL S (vs v len)) (rd / 6) (rd - rd / 6 * 6) (w / 6) (w - w / 6 * 6) = (-99999, stL S (vs v len)) := by unfold fRd; rw [er']
        rw [g1, g2]
        rw [g2] at T3
        exact ⟨fun _ => h296 M3 _ _ T3 (fun q => absurd (show (0 : Int32) ≤ -99999 from q) (by decide)) (fun _ => rfl), fun q => absurd q (by decide)⟩
      | some z =>
        have er' : sv (stL S (vs v len)).2.1 (stL S (vs v len)).2.2.1 (rd / 6) (rd - rd / 6 * 6) = some z := er
        obtain ⟨k1, k2, k3, k4⟩ := vd_lt V er
        generalize hz : S.2.2.2.1 (2, z.1, z.2) = cz at *
        have g1 : fC (stL S (vs v len)) (rd / 6) (rd - rd / 6 * 6) (w / 6) (w - w / 6 * 6) = bI (canC S.2.2.1 S.2.2.2.1 cz c) := by
          unfold fC
          rw [er', evs]
          simp only [hz, hc]
        rw [g1]
        by_cases hr : rcL S.2.2.1 (vs v len) c = true
        · cases hd : rdF S.2.2.1 S.2.2.2.1 (fun j => (vs v len).getD j 0) 45 cz c 0 with
          | none =>
            have g2 : fRd (stL S (vs v len)) (rd / 6) (rd - rd / 6 * 6) (w / 6) (w - w / 6 * 6) = (-99999, stL S (vs v len)) := by
              unfold fRd
              rw [er', evs]
              simp only [hz, hc, hr, hd, if_true]
            rw [g2]
            rw [g2] at T3
            refine ⟨fun _ => h296 M3 _ _ T3 (fun q => absurd (show (0 : Int32) ≤ -99999 from q) (by decide)) (fun _ => rfl), fun h => ?_⟩
            obtain ⟨l', hl'⟩ := vd_canr V k1 l1 hr (bI_1.1 h)
            rw [hd] at hl'; cases hl'
          | some l' =>
            have g2 : fRd (stL S (vs v len)) (rd / 6) (rd - rd / 6 * 6) (w / 6) (w - w / 6 * 6) = (nI l'.length, stL S l') := by
              unfold fRd
              rw [er', evs]
              simp only [hz, hc, hr, hd, if_true]
            rw [g2]
            rw [g2] at T3
            obtain ⟨m1, m2⟩ := vd_read V k1 l1 hr hd
            have fin : w_L_isReadSo_296 a1 a2 rd w v P (nI len) (nI l'.length) M3 := h296 M3 _ _ T3 (fun _ => by
              have er2 : sv (stL S l').2.1 (stL S l').2.2.1 (rd / 6) (rd - rd / 6 * 6) = some z := er
              refine ⟨?_, ?_⟩
              · unfold fL
                rw [er2]
                simp only [hz, m1]
              · unfold fR
                rw [er2]
                simp only [hz, m2]
                rfl) (fun q => absurd (nI_pos' (by omega)) q)
            exact ⟨fun _ => fin, fun _ => ⟨fun _ => fin, fun _ => ⟨fun q => absurd q (nI_pos (by omega)), fun _ => fin⟩⟩⟩
        · have g2 : fRd (stL S (vs v len)) (rd / 6) (rd - rd / 6 * 6) (w / 6) (w - w / 6 * 6) = (-99999, stL S (vs v len)) := by
            unfold fRd
            rw [er', evs]
            simp only [hc, hr, if_false, Bool.false_eq_true]
          rw [g2]
          rw [g2] at T3
          have fin : w_L_isReadSo_296 a1 a2 rd w v P (nI len) (-99999) M3 := h296 M3 _ _ T3 (fun q => absurd (show (0 : Int32) ≤ -99999 from q) (by decide)) (fun _ => rfl)
          exact ⟨fun _ => fin, fun _ => ⟨fun _ => fin, fun h => absurd (bI_1.1 h) hr⟩⟩
    -- it is looked at, place by place
    have h200 : ∀ f j M, len + 1 ≤ j + f → j ≤ len → Two b a1 a2 L xs (stL S (vs v len)) (stL S (vs v len)) M → w_L_isReadSo_200 a1 a2 rd w v P f (nI len) 1 (bI (rcL S.2.2.1 (vs v len) c)) (nI j) M := by
      intro f
      induction f with
      | zero => intro j M h1 h2 _; omega
      | succ f ih =>
        intro j M h1 h2 T
        by_cases e1 : j = len
        · subst e1
          exact ⟨fun _ => h244 M T, fun q => absurd (nI_le (Nat.le_refl _) (by omega)) q⟩
        · refine ⟨fun q => absurd q (nI_ge (by omega) (by omega)), fun _ => ⟨fun q => absurd q (by decide), fun _ => t1_vat T (show j < (stL S (vs v len)).2.2.2.2.length by omega) fun M1 T1 => ?_⟩⟩
          show (¬ (vs v len).getD j 0 = bit v j → _) ∧ ((vs v len).getD j 0 = bit v j → _)
          rw [vs_get v len j (by omega)]
          refine ⟨fun q => absurd rfl q, fun _ => ?_⟩
          show w_L_isReadSo_200 a1 a2 rd w v P f (nI len) 1 (bI (rcL S.2.2.1 (vs v len) c)) (nI j + 1) M1
          rw [nI_1]
          exact ih (j + 1) M1 (by omega) (by omega) T1
    -- its own version reads it
    have h67 : ∀ f j M, len + 1 ≤ j + f → j ≤ len → Two b a1 a2 L xs (stL S (vs v j)) (stL S (vs v j)) M → w_L_isReadSo_67 a1 a2 rd w v P f (nI len) 1 (nI j) M := by
      intro f
      induction f with
      | zero => intro j M h1 h2 _; omega
      | succ f ih =>
        intro j M h1 h2 T
        by_cases e1 : j = len
        · subst e1
          refine ⟨fun _ => t1_rec T fun M1 T1 => t1_read T1 fun M2 T2 => ⟨fun q => absurd q (by decide), fun _ => t2_read T2 fun M3 T3 => ⟨fun q => absurd rfl q, fun _ => ?_⟩⟩, fun q => absurd (nI_le (Nat.le_refl _) (by omega)) q⟩
          have g1 : fR (stL S (vs v j)) (w / 6) (w - w / 6 * 6) = bI (rcL S.2.2.1 (vs v j) c) := by
            unfold fR
            rw [evs]
            simp only [hc]
          rw [g1]
          by_cases hr : rcL S.2.2.1 (vs v j) c = true
          · have g2 : fRd (stL S (vs v j)) (w / 6) (w - w / 6 * 6) (w / 6) (w - w / 6 * 6) = (nI j, stL S (vs v j)) := by
              unfold fRd
              rw [evs]
              simp only [hc, hr, vd_self V l1 hr, if_true, vs_len]
            rw [g2]
            rw [g2] at T3
            refine ⟨fun q => absurd (bI_1.2 hr) q, fun _ => ⟨fun q => absurd rfl q, fun _ => h200 21 0 M3 (by omega) (by omega) T3⟩⟩
          · have g2 : fRd (stL S (vs v j)) (w / 6) (w - w / 6 * 6) (w / 6) (w - w / 6 * 6) = (-99999, stL S (vs v j)) := by
              unfold fRd
              rw [evs]
              simp only [hc, hr, if_false, Bool.false_eq_true]
            rw [g2]
            rw [g2] at T3
            refine ⟨fun _ => ⟨fun q => absurd rfl q, fun _ => h200 21 0 M3 (by omega) (by omega) T3⟩, fun q => absurd (bI_1.1 q) hr⟩
        · have hj := vs_len v j
          refine ⟨fun q => absurd q (nI_ge (by omega) (by omega)), fun _ => ⟨fun q => absurd q (by decide), fun _ => t1_val T (show (vs v j).length < 20 by omega) fun M1 T1 => ⟨fun q => absurd (by show nI ((vs v j).length + 1) = nI j + 1; rw [hj, nI_1]) q, fun _ => t2_val T1 (show (vs v j).length < 20 by omega) fun M2 T2 => ⟨fun q => absurd (by show nI ((vs v j).length + 1) = nI j + 1; rw [hj, nI_1]) q, fun _ => ?_⟩⟩⟩⟩
          show w_L_isReadSo_67 a1 a2 rd w v P f (nI len) 1 (nI j + 1) M2
          rw [nI_1]
          exact ih (j + 1) M2 (by omega) (by omega) T2
    exact h67 21 0 M2 (by omega) (by omega) T2
