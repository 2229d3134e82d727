/-! ===== the pure part: the law's loop ===== -/
variable {M M' : zM} {n c d s i k a a1 a2 b L : Nat} {xs : Nat → Int32} {p q p' q' : Int32} {S S1 S2 S' : St} {D D1 D2 : Nat → Prop} {P : Int32 → zM → Prop} {PX : Nat → zM → Prop} {l : List Int32}
theorem c_low {x m : Int32} {t : Nat} (hm : m = nI t) (h0 : 0 < t) (ht : t < 2 ^ 31) (h : ∀ v, P v M) : w_L_low x m M P :=
  ⟨by rw [hm]; exact nI_ne0 h0 ht, h _⟩
theorem Two.scr (T : Two b a1 a2 L xs S1 S2 M) : M b = some (zS L xs) := by
  obtain ⟨D1, D2, c1, c2, dis, hb, n1, n2⟩ := T
  exact hb
theorem c_cell (hb : M b = some (zS L xs)) (hL : L ≤ 260) {j : Nat} (hj : j < 61) (h : ∀ v, P v M) : w_L_cell b (nI j) M P := by
  refine ⟨_, L, hb, rfl, fun _ => h _, fun c => ?_⟩
  have hlt : j < L := Nat.lt_of_not_le fun q => c (nI_le q (by omega))
  exact ⟨L, xs, hb, vp_in_nI hlt (by omega), h _⟩
theorem law_loop (hL : L ≤ 260) : ∀ f i S M, i + f = 91 → i ≤ 90 → Two b a1 a2 L xs S S M → w_L_law_18 b f a1 a2 (nI i) M := by
  intro f
  induction f with
  | zero =>
    intro i S M hi h9 T
    omega
  | succ f ih =>
    intro i S M hi h9 T
    have d3 : ∀ m : Nat, 0 < m → m < 100 → nI i - nI i / nI m * nI m = nI (i % m) := fun m h0 h1 => pk_rem (by omega) h0 (by omega)
    by_cases h90 : i = 90
    · subst h90
      refine ⟨fun _ => alike T fun M1 T1 => ⟨fun q => absurd q (by decide), fun _ => versions_so T1 fun M2 T2 => ⟨fun q => absurd q (by decide), fun _ => trivial⟩⟩, fun q => absurd (nI_le (a := 90) (b := 90) (by omega) (by omega)) q⟩
    · refine ⟨fun q => absurd q (nI_ge (a := i) (b := 90) (by omega) (by omega)), fun _ => ?_⟩
      have h194 : ∀ M S, Two b a1 a2 L xs S S M → w_L_law_194 b (w_L_law_18 b f) a1 a2 (nI i) M := fun M S T => by
        show w_L_law_18 b f a1 a2 (nI i + 1) M
        rw [nI_1]
        exact ih (i + 1) S M (by omega) (by omega) T
      have h153 : ∀ v M S, Two b a1 a2 L xs S S M → w_L_law_153 b (w_L_law_18 b f) a1 a2 (nI i) v M := fun v M S T =>
        ⟨fun _ => h194 M S T, fun _ => c_low (t := 18) rfl (by omega) (by omega) fun u1 => c_low (t := 18) rfl (by omega) (by omega) fun u2 => read_so T fun M1 S1 T1 => ⟨fun _ => h194 M1 S1 T1, fun q => absurd q (by decide)⟩⟩
      have h117 : ∀ v M S, Two b a1 a2 L xs S S M → w_L_law_117 b (w_L_law_18 b f) a1 a2 (nI i) v M := fun v M S T =>
        ⟨fun _ => h153 v M S T, fun _ => c_low (t := 18) rfl (by omega) (by omega) fun u1 => c_low (t := 6) rfl (by omega) (by omega) fun u2 => versions_so T fun M1 T1 => ⟨fun _ => h153 v M1 S T1, fun q => absurd q (by decide)⟩⟩
      have h93 : ∀ v M S, Two b a1 a2 L xs S S M → w_L_law_93 b (w_L_law_18 b f) a1 a2 (nI i) v M := fun v M S T =>
        ⟨fun _ => h117 v M S T, fun _ => c_low (t := 3) rfl (by omega) (by omega) fun u1 => alike T fun M1 T1 => ⟨fun q => absurd q (by decide), fun _ => h117 v M1 S T1⟩⟩
      have h58 : ∀ v y M, (nI i - nI i / 3 * 3 = 2 → y = 1) → (¬ nI i - nI i / 3 * 3 = 2 → y = 0) → Two b a1 a2 L xs S S M → w_L_law_58 b (w_L_law_18 b f) a1 a2 (nI i) v y v a1 M := fun v y M y1 y2 T => by
        obtain ⟨g, hg, ht⟩ := ex_act v y
        refine T.o1 hg fun M1 T1 => ?_
        have V := T.vd
        have fin : w_L_act a2 v y M1 (fun v19 M18 => ((¬ v19 = (g S).1 → False) ∧ (v19 = (g S).1 → (w_L_law_93 b (w_L_law_18 b f) a1 a2 (nI i) v M18)))) := T1.p2 hg fun M2 T2 => ⟨fun q => q rfl, fun _ => h93 v M2 _ T2⟩
        refine ⟨fun q => ?_, fun q => ⟨fun c => ?_, fun c => ?_⟩⟩
        · rw [ht S V q] at T1
          exact h93 v M1 S T1
        · rw [y2 c] at fin; exact fin
        · rw [y1 c] at fin; exact fin
      have e61 : nI i - nI i / 61 * 61 = nI (i % 61) := d3 61 (by omega) (by omega)
      show w_L_cell b (nI i - nI i / 61 * 61) M _
      rw [e61]
      refine c_cell T.scr hL (Nat.mod_lt _ (by omega)) fun v => ⟨fun c => h58 _ 0 M (fun q => absurd q c) (fun _ => rfl) T, fun c => h58 _ 1 M (fun _ => rfl) (fun q => absurd c q) T⟩
