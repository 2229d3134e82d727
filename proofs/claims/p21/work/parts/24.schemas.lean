/-! ===== the pure part: schemas, read only ===== -/
variable {Fm : zM} {V V' : nm → Prop} {ad ad' : nm → Nat} {σ σ' : nI2} {ρ ρ' : nN2} {ξ ξ' : Nat → zE} {M : zM} {x y w : nm}
theorem el_8 (c j : Nat) : el (8 + c) j = (8, c, j) := by
  unfold el
  rw [if_neg (by omega), if_neg (by omega), if_neg (by omega)]
  congr 2; omega
theorem el_2 {s : Nat} (hs : s < 6) (j : Nat) : el (2 + s) j = (4, s, j) := by
  unfold el
  rw [if_neg (by omega), if_neg (by omega), if_pos (by omega)]
  congr 2; omega
theorem el_0 (j : Nat) : el 0 j = (1, j, 0) := rfl
theorem el_1 (j : Nat) : el 1 j = (5, j, 0) := rfl
/-- a flag as an int -/
def bI (b : Bool) : Int32 := if b then 1 else 0
theorem bI_0 (b : Bool) : bI b = 0 ↔ b = false := by cases b <;> decide
theorem br_b {b : Bool} {A B : Prop} (f : b = false → A) (g : b = true → B) : (bI b = 0 → A) ∧ (¬ bI b = 0 → B) := by
  cases b
  · exact ⟨fun _ => f rfl, fun q => absurd rfl q⟩
  · exact ⟨fun q => absurd q (by decide), fun _ => g rfl⟩
theorem br_n {b : Bool} {A B : Prop} (g : b = true → B) (f : b = false → A) : (¬ bI b = 0 → B) ∧ (bI b = 0 → A) := (br_b f g).symm
/-- the first place of k ones from i on -/
def lk (f : Nat → Bool) : Nat → Nat → Option Nat
  | 0, _ => none
  | k + 1, i => if f i then some i else lk f k (i + 1)
def allR (f : Nat → Bool) : Nat → Nat → Bool
  | 0, _ => true
  | k + 1, i => f i && allR f k (i + 1)
theorem allR_iff {f : Nat → Bool} : ∀ k i, allR f k i = true ↔ ∀ j, i ≤ j → j < i + k → f j = true := by
  intro k
  induction k with
  | zero => intro i; exact ⟨fun _ j h1 h2 => absurd h2 (by omega), fun _ => rfl⟩
  | succ k ih =>
    intro i
    simp only [allR, Bool.and_eq_true, ih]
    refine ⟨fun h j h1 h2 => ?_, fun h => ⟨h i (Nat.le_refl i) (by omega), fun j h1 h2 => h j (by omega) (by omega)⟩⟩
    by_cases e : j = i
    · rw [e]; exact h.1
    · exact h.2 j (by omega) (by omega)
theorem lk_some {f : Nat → Bool} : ∀ k i j, lk f k i = some j → i ≤ j ∧ j < i + k ∧ f j = true ∧ ∀ q, i ≤ q → q < j → f q = false := by
  intro k
  induction k with
  | zero => intro i j h; cases h
  | succ k ih =>
    intro i j h
    unfold lk at h
    by_cases e : f i = true
    · rw [if_pos e] at h; cases h; exact ⟨Nat.le_refl i, by omega, e, fun q h1 h2 => absurd h1 (by omega)⟩
    · rw [if_neg e] at h
      obtain ⟨h1, h2, h3, h4⟩ := ih _ _ h
      refine ⟨by omega, by omega, h3, fun q q1 q2 => ?_⟩
      by_cases e2 : q = i
      · rw [e2]; exact Bool.eq_false_iff.2 e
      · exact h4 q (by omega) q2
theorem lk_none {f : Nat → Bool} : ∀ k i, lk f k i = none ↔ ∀ j, i ≤ j → j < i + k → f j = false := by
  intro k
  induction k with
  | zero => intro i; exact ⟨fun _ j h1 h2 => absurd h2 (by omega), fun _ => rfl⟩
  | succ k ih =>
    intro i
    unfold lk
    by_cases e : f i = true
    · rw [if_pos e]
      exact ⟨fun h => (by cases h), fun h => absurd (h i (Nat.le_refl i) (by omega)) (by rw [e]; decide)⟩
    · rw [if_neg e, ih]
      refine ⟨fun h j h1 h2 => ?_, fun h j h1 h2 => h j (by omega) (by omega)⟩
      by_cases e2 : j = i
      · rw [e2]; exact Bool.eq_false_iff.2 e
      · exact h j (by omega) (by omega)
/-- a schema's count of fields; its field with a name; the field that a reader's is read from -/
def zz (σ : nI2) (c : Nat) : Nat := (σ (7, 8 + c, 0)).toNatClampNeg
def nmd (σ : nI2) (c : Nat) (p : Int32) : Option Nat := lk (fun j => σ (8, c, j) == p) (zz σ c) 0
def srcC (σ : nI2) (c j w : Nat) : Option Nat := match nmd σ w (σ (8, c, j)) with
  | some s => some s
  | none => nmd σ w (σ (11, c, j))
theorem nmd_lt {c j : Nat} {p : Int32} (h : nmd σ c p = some j) : j < zz σ c := by have := lk_some _ _ _ h; omega
theorem srcC_lt {c j w s : Nat} (h : srcC σ c j w = some s) : s < zz σ w := by
  unfold srcC at h
  cases e : nmd σ w (σ (8, c, j)) with
  | some s' => rw [e] at h; cases h; exact nmd_lt e
  | none => rw [e] at h; exact nmd_lt h
/-- a schema as it is read: its list, its flags, what it refers to -/
def Sc (σ : nI2) (ρ : nN2) (c : Nat) : Prop := Ls σ ρ (8 + c) (zz σ c) ∧ zz σ c ≤ 5
theorem s_V (h : zC Fm V ad σ ρ ξ M) {c : Nat} (hV : V (5, c, 0)) : V (2, 8 + c, 0) ∧ V (3, 8 + c, 0) ∧ V (6, 3 + c, 0) ∧ V (7, 3 + c, 0) :=
  have h1 := h.2.2.1 _ hV (2, 8 + c, 0) (Or.inl rfl)
  have h2 := h.2.2.1 _ hV (6, 3 + c, 0) (Or.inr rfl)
  ⟨h1, h.2.2.1 _ h1 _ rfl, h2, h.2.2.1 _ h2 _ rfl⟩
theorem s_F (h : zC Fm V ad σ ρ ξ M) {c j : Nat} (hV : V (5, c, 0)) (hS : Sc σ ρ c) (hj : j < zz σ c) : V (8, c, j) := by
  have := h.2.2.1 _ (s_V h hV).2.1 (el (8 + c) j) ⟨j, (hS.1.2.1 j).2 hj, rfl⟩
  rw [el_8] at this; exact this
theorem s_get (h : zC Fm V ad σ ρ ξ M) {c j : Nat} (hV : V (5, c, 0)) (hS : Sc σ ρ c) (hj : j < zz σ c) {P : Option Nat → zM → Prop} (hP : P (some (ad (8, c, j))) M) : w_Jx4a65c_get_915e3 (ad (2, 8 + c, 0)) (nI j) M P :=
  l_get h (s_V h hV).1 hS.1 hj (by rw [el_8]; exact hP)
theorem s_named (h : zC Fm V ad σ ρ ξ M) {c : Nat} (hV : V (5, c, 0)) (hS : Sc σ ρ c) {p : Int32} {P : Option Nat → zM → Prop} (hP : P ((nmd σ c p).map fun j => ad (8, c, j)) M) : w_X2_named (ad (5, c, 0)) p M P := by
  obtain ⟨v2, v3, v6, v7⟩ := s_V h hV
  have key : ∀ k i, i + k = zz σ c → P ((lk (fun j => σ (8, c, j) == p) k i).map fun j => ad (8, c, j)) M → w_X2_named_2 (ad (5, c, 0)) p P (k + 1) (nI i) M := by
    intro k
    induction k with
    | zero =>
      intro i hi hp
      exact g_r h hV rfl rfl ⟨g_is h v2 rfl, l_size h v2 hS.1 (br_t (nI_le (by omega) (by have := hS.2; omega)) hp)⟩
    | succ k ih =>
      intro i hi hp
      refine g_r h hV rfl rfl ⟨g_is h v2 rfl, l_size h v2 hS.1 (br_f (nI_ge (by omega) (by have := hS.2; omega)) (g_r h hV rfl rfl ⟨g_is h v2 rfl, s_get h hV hS (by omega) (g_ck h (s_F h hV hS (by omega)) rfl (g_i h (s_F h hV hS (by omega)) rfl rfl ⟨fun e => ?_, fun e => g_r h hV rfl rfl ⟨g_is h v2 rfl, s_get h hV hS (by omega) (g_ck h (s_F h hV hS (by omega)) rfl ?_)⟩⟩))⟩))⟩
      · rw [nI_1]
        refine ih (i + 1) (by omega) ?_
        unfold lk at hp
        rw [if_neg (by simpa using e)] at hp
        exact hp
      · unfold lk at hp
        rw [if_pos (by simpa using e)] at hp
        exact hp
  exact ⟨zz σ c + 1, key (zz σ c) 0 (by omega) hP⟩
theorem s_sourceOf (h : zC Fm V ad σ ρ ξ M) {c j w : Nat} (hF : V (8, c, j)) (hV : V (5, w, 0)) (hS : Sc σ ρ w) {P : Option Nat → zM → Prop} (hP : P ((srcC σ c j w).map fun s => ad (8, w, s)) M) : w_X2_sourceOf (ad (5, w, 0)) (ad (8, c, j)) M P := by
  refine g_i h hF rfl rfl ⟨g_is h hV rfl, s_named h hV hS ?_⟩
  unfold srcC at hP
  cases e : nmd σ w (σ (8, c, j)) with
  | some s =>
    rw [e] at hP
    exact cm_some hP
  | none =>
    rw [e] at hP
    exact cm_none (g_i h hF rfl rfl ⟨g_is h hV rfl, s_named h hV hS hP⟩)
def rdT (a b : Int32) : Bool := a == b || (a == 1 && b == 0)
theorem f_isRead (h : zC Fm V ad σ ρ ξ M) {c j : Nat} (hF : V (8, c, j)) {p : Int32} {P : Int32 → zM → Prop} (hP : P (bI (rdT (σ (9, c, j)) p)) M) : w_X0_isReadFromType (ad (8, c, j)) p M P := by
  refine g_i h hF rfl rfl ⟨fun e => ?_, fun e => g_i h hF rfl rfl ⟨fun e2 => ?_, fun e2 => ⟨fun e3 => ?_, fun e3 => ?_⟩⟩⟩
  · have : rdT (σ (9, c, j)) p = true := by simp [rdT, show σ (9, c, j) = p from e]
    rw [this] at hP; exact hP
  · have : rdT (σ (9, c, j)) p = false := by simp [rdT, show ¬ σ (9, c, j) = p from e, show ¬ σ (9, c, j) = 1 from e2]
    rw [this] at hP; exact hP
  · have : rdT (σ (9, c, j)) p = false := by simp [rdT, show ¬ σ (9, c, j) = p from e, e3]
    rw [this] at hP; exact hP
  · have : rdT (σ (9, c, j)) p = true := by simp [rdT, show σ (9, c, j) = 1 from e2, e3]
    rw [this] at hP; exact hP
/-- what a field refers to -/
def rf (ρ : nN2) (c j : Nat) : Nat := ρ (3, c, j) - 1
def canFd (σ : nI2) (ρ : nN2) (rc : Nat → Nat → Bool) (c w j : Nat) : Bool := match srcC σ c j w with
  | none => σ (14, c, j) != 0
  | some s => rdT (σ (9, c, j)) (σ (9, w, s)) && (if σ (9, c, j) = 3 then decide (σ (10, w, s) ≤ σ (10, c, j)) || σ (14, c, j) != 0 else if σ (9, c, j) = 4 then rc (rf ρ c j) (rf ρ w s) else true)
def canF (σ : nI2) (ρ : nN2) : Nat → Nat → Nat → Bool
  | 0, _, _ => false
  | f + 1, c, w => allR (canFd σ ρ (canF σ ρ f) c w) (zz σ c) 0
/-- all schemas up to n as they are read -/
def WC (n : Nat) (σ : nI2) (ρ : nN2) : Prop := ∀ c, c ≤ n → Sc σ ρ c ∧ ∀ j, j < zz σ c → (σ (14, c, j) = 0 ∨ σ (14, c, j) = 1) ∧ (σ (9, c, j) = 4 ↔ ρ (3, c, j) ≠ 0) ∧ (ρ (3, c, j) ≠ 0 → rf ρ c j < c)
theorem f_ref (h : zC Fm V ad σ ρ ξ M) {c j : Nat} (hF : V (8, c, j)) (hr : ρ (3, c, j) ≠ 0) {K : Option Nat → Prop} (hK : K (some (ad (5, rf ρ c j, 0)))) : zGo M (ad (8, c, j)) 1 5 K := by
  refine g_o h hF rfl rfl ?_
  show K (if ρ (3, c, j) = 0 then none else some (ad (5, ρ (3, c, j) - 1, 0)))
  rw [if_neg hr]; exact hK
theorem f_refV (h : zC Fm V ad σ ρ ξ M) {c j : Nat} (hF : V (8, c, j)) (hr : ρ (3, c, j) ≠ 0) : V (5, rf ρ c j, 0) := h.2.2.1 _ hF _ ⟨hr, rfl⟩
theorem rdT_4 {b : Int32} (h : rdT 4 b = true) : b = 4 := by
  have := h
  simp [rdT] at this
  exact this.symm
