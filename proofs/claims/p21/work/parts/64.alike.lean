/-! ===== the pure part: two objects are alike ===== -/
variable {M M' : zM} {n c d s i k a a1 a2 b L : Nat} {xs : Nat → Int32} {p q p' q' : Int32} {S S1 S2 : St} {D D1 D2 : Nat → Prop} {P : Int32 → zM → Prop} {PX : Nat → zM → Prop} {l : List Int32}
theorem t1_num (T : Two b a1 a2 L xs S1 S2 M) (hP : ∀ M', Two b a1 a2 L xs S1 S2 M' → P (fN S1 p q) M') : w_L_does_7 a1 p q M P := T.o1 (ok_num p q) hP
theorem t2_num (T : Two b a1 a2 L xs S1 S2 M) (hP : ∀ M', Two b a1 a2 L xs S1 S2 M' → P (fN S2 p q) M') : w_L_does_7 a2 p q M P := T.p2 (ok_num p q) hP
theorem t1_len (T : Two b a1 a2 L xs S1 S2 M) (hP : ∀ M', Two b a1 a2 L xs S1 S2 M' → P (fL S1 p q) M') : w_L_does_8 a1 p q M P := T.o1 (ok_len p q) hP
theorem t2_len (T : Two b a1 a2 L xs S1 S2 M) (hP : ∀ M', Two b a1 a2 L xs S1 S2 M' → P (fL S2 p q) M') : w_L_does_8 a2 p q M P := T.p2 (ok_len p q) hP
theorem t1_rec (T : Two b a1 a2 L xs S1 S2 M) (hP : ∀ M', Two b a1 a2 L xs S1 S2 M' → P (fR S1 p q) M') : w_L_does_10 a1 p q M P := T.o1 (ok_rec p q) hP
theorem t2_rec (T : Two b a1 a2 L xs S1 S2 M) (hP : ∀ M', Two b a1 a2 L xs S1 S2 M' → P (fR S2 p q) M') : w_L_does_10 a2 p q M P := T.p2 (ok_rec p q) hP
theorem t1_acc (T : Two b a1 a2 L xs S1 S2 M) (hP : ∀ M', Two b a1 a2 L xs S1 S2 M' → P (fA S1 p) M') : w_L_does_1 a1 p q M P := T.o1 (ok_acc p q) hP
theorem t2_acc (T : Two b a1 a2 L xs S1 S2 M) (hP : ∀ M', Two b a1 a2 L xs S1 S2 M' → P (fA S2 p) M') : w_L_does_1 a2 p q M P := T.p2 (ok_acc p q) hP
theorem t1_at (T : Two b a1 a2 L xs S1 S2 M) (hP : ∀ M', Two b a1 a2 L xs S1 S2 M' → P (fP S1 p) M') : w_L_does_11 a1 p q M P := T.o1 (ok_at p q) hP
theorem t2_at (T : Two b a1 a2 L xs S1 S2 M) (hP : ∀ M', Two b a1 a2 L xs S1 S2 M' → P (fP S2 p) M') : w_L_does_11 a2 p q M P := T.p2 (ok_at p q) hP
theorem t1_can (T : Two b a1 a2 L xs S1 S2 M) (hP : ∀ M', Two b a1 a2 L xs S1 S2 M' → P (fC S1 (p / 6) (p - p / 6 * 6) (p' / 6) (p' - p' / 6 * 6)) M') : w_L_reads_0 a1 p p' M P := T.o1 (ok_can p p') hP
theorem t1_all (T : Two b a1 a2 L xs S1 S2 M) (hP : ∀ M', Two b a1 a2 L xs S1 S2 M' → P (fAl S1 (p / 6) (p - p / 6 * 6) (p' / 6) (p' - p' / 6 * 6)) M') : w_L_reads_1 a1 p p' M P := T.o1 (ok_all p p') hP
theorem t1_read (T : Two b a1 a2 L xs S1 S2 M) (hP : ∀ M', Two b a1 a2 L xs (fRd S1 (p / 6) (p - p / 6 * 6) (p' / 6) (p' - p' / 6 * 6)).2 S2 M' → P (fRd S1 (p / 6) (p - p / 6 * 6) (p' / 6) (p' - p' / 6 * 6)).1 M') : w_L_reads_2 a1 p p' M P := T.o1 (ok_read p p') hP
theorem t2_read (T : Two b a1 a2 L xs S1 S2 M) (hP : ∀ M', Two b a1 a2 L xs S1 (fRd S2 (p / 6) (p - p / 6 * 6) (p' / 6) (p' - p' / 6 * 6)).2 M' → P (fRd S2 (p / 6) (p - p / 6 * 6) (p' / 6) (p' - p' / 6 * 6)).1 M') : w_L_reads_2 a2 p p' M P := T.p2 (ok_read p p') hP
theorem t1_ver (T : Two b a1 a2 L xs S1 S2 M) (hs : s < 6) (hP : ∀ M', Two b a1 a2 L xs S1 S2 M' → P (nI (S1.2.1 s)) M') : zIs M a1 6 ∧ w_X5_versions a1 (nI s) M P (fun _ _ => False) := T.o1 (ok_ver hs) hP
theorem t2_ver (T : Two b a1 a2 L xs S1 S2 M) (hs : s < 6) (hP : ∀ M', Two b a1 a2 L xs S1 S2 M' → P (nI (S2.2.1 s)) M') : zIs M a2 6 ∧ w_X5_versions a2 (nI s) M P (fun _ _ => False) := T.p2 (ok_ver hs) hP
theorem t1_clear (T : Two b a1 a2 L xs S1 S2 M) (hP : ∀ M', Two b a1 a2 L xs (stL S1 []) S2 M' → P (nI S1.2.2.2.2.length) M') : zIs M a1 6 ∧ w_X5_clear a1 M P := T.o1 ok_clear hP
theorem t2_clear (T : Two b a1 a2 L xs S1 S2 M) (hP : ∀ M', Two b a1 a2 L xs S1 (stL S2 []) M' → P (nI S2.2.2.2.2.length) M') : zIs M a2 6 ∧ w_X5_clear a2 M P := T.p2 ok_clear hP
/-- the objects are alike -/
theorem alike (T : Two b a1 a2 L xs S S M) {w : Int32} (hP : ∀ M', Two b a1 a2 L xs S S M' → P 1 M') : w_L_areAlike a1 a2 w M P := by
  have key : ∀ n i M, i + n = 36 → Two b a1 a2 L xs S S M → w_L_areAlike_5 a1 a2 w P (n + 1) 1 (nI i) M := by
    intro n
    induction n with
    | zero =>
      intro i M hi T
      obtain rfl : i = 36 := by omega
      exact ⟨fun _ => ⟨Or.inr rfl, hP M T⟩, fun q => absurd (nI_le (a := 36) (b := 36) (by omega) (by omega)) q⟩
    | succ n ih =>
      intro i M hi T
      have next : ∀ M, Two b a1 a2 L xs S S M → w_L_areAlike_214 a1 a2 w P (w_L_areAlike_5 a1 a2 w P (n + 1)) (nI i) M := fun M T => by
        show w_L_areAlike_5 a1 a2 w P (n + 1) 1 (nI i + 1) M
        rw [nI_1]
        exact ih (i + 1) M (by omega) T
      have h186 : ∀ M, Two b a1 a2 L xs S S M → w_L_areAlike_186 a1 a2 w P (w_L_areAlike_5 a1 a2 w P (n + 1)) (nI i) M := fun M T =>
        ⟨fun _ => next M T, fun _ => t1_at T fun M1 T1 => t2_at T1 fun M2 T2 => ⟨fun q => absurd rfl q, fun _ => next M2 T2⟩⟩
      have h130 : ∀ M, Two b a1 a2 L xs S S M → w_L_areAlike_130 a1 a2 w P (w_L_areAlike_5 a1 a2 w P (n + 1)) (nI i) M := fun M T =>
        ⟨fun q => absurd q (by decide), fun _ => ⟨fun _ => h186 M T, fun c => by
          have i6 : i < 6 := Nat.lt_of_not_le fun q => c (nI_lt (a := 5) (b := i) (by omega) (by omega))
          exact t1_ver T i6 fun M1 T1 => t2_ver T1 i6 fun M2 T2 => ⟨fun q => absurd rfl q, fun _ => ⟨fun _ => h186 M2 T2, fun _ => t1_acc T2 fun M3 T3 => t2_acc T3 fun M4 T4 => ⟨fun q => absurd rfl q, fun _ => h186 M4 T4⟩⟩⟩⟩⟩
      exact ⟨fun q => absurd q (nI_ge (a := i) (b := 36) (by omega) (by omega)), fun _ => ⟨fun q => absurd q (by decide), fun _ => t1_num T fun M1 T1 => t2_num T1 fun M2 T2 => ⟨fun q => absurd rfl q, fun _ => t1_len T2 fun M3 T3 => t2_len T3 fun M4 T4 => ⟨fun q => absurd rfl q, fun _ => ⟨fun _ => h130 M4 T4, fun _ => t1_rec T4 fun M5 T5 => t2_rec T5 fun M6 T6 => ⟨fun q => absurd rfl q, fun _ => h130 M6 T6⟩⟩⟩⟩⟩⟩
  exact key 36 0 M (by omega) T
