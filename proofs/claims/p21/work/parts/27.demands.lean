/-! ===== the pure part: acceptance, references, what the calls demand, in the class ===== -/
variable {Fm : zM} {V V' : nm → Prop} {ad ad' : nm → Nat} {σ σ' : nI2} {ρ ρ' : nN2} {ξ ξ' : Nat → zE} {M : zM} {x y w : nm}
def agr (σ : nI2) (ρ : nN2) (s c old : Nat) : Bool := (if σ (0, s, 0) = 1 ∨ σ (0, s, 0) = 3 then canC σ ρ c old else true) && (if σ (0, s, 0) = 2 ∨ σ (0, s, 0) = 3 then canC σ ρ old c else true)
theorem c_agrees (h : zC Fm V ad σ ρ ξ M) {s k n c d : Nat} (hS : Sb V σ ρ s k) (hW : WC n σ ρ) (hn : n ≤ 36) (hc : c ≤ n) (hd : d ≤ n) (hVc : V (5, c, 0)) (hVd : V (5, d, 0)) {P : Int32 → zM → Prop} (hP : P (bI (agr σ ρ s c d)) M) : w_X3_agrees (ad (1, s, 0)) (ad (5, c, 0)) (ad (5, d, 0)) M P := by
  unfold agr at hP
  have hV := hS.2.1
  -- the second half
  have h43 : P (bI (canC σ ρ d c)) M → w_X3_agrees_43 (ad (1, s, 0)) (ad (5, c, 0)) (ad (5, d, 0)) P M := fun hp => by
    refine c_canRead h hW hn hd hc hVd hVc (br_b (fun e => ?_) (fun e => ?_))
    · rw [e] at hp; exact hp
    · rw [e] at hp; exact hp
  have h27 : P (bI (if σ (0, s, 0) = 2 ∨ σ (0, s, 0) = 3 then canC σ ρ d c else true)) M → w_X3_agrees_27 (ad (1, s, 0)) (ad (5, c, 0)) (ad (5, d, 0)) P M := fun hp => by
    refine g_i h hV rfl rfl ⟨fun e => ?_, fun e => g_i h hV rfl rfl ⟨fun e2 => ?_, fun e2 => ?_⟩⟩
    · rw [if_pos (Or.inl e)] at hp; exact h43 hp
    · rw [if_neg (fun q => q.elim e e2)] at hp; exact hp
    · rw [if_pos (Or.inr e2)] at hp; exact h43 hp
  have h16 : (σ (0, s, 0) = 1 ∨ σ (0, s, 0) = 3) → w_X3_agrees_16 (ad (1, s, 0)) (ad (5, c, 0)) (ad (5, d, 0)) P M := fun q => by
    rw [if_pos q] at hP
    refine c_canRead h hW hn hc hd hVc hVd (br_n (fun e => ?_) (fun e => ?_))
    · rw [e, Bool.true_and] at hP; exact h27 hP
    · rw [e, Bool.false_and] at hP; exact hP
  refine g_i h hV rfl rfl ⟨fun e => h16 (Or.inl e), fun e => g_i h hV rfl rfl ⟨fun e2 => ?_, fun e2 => h16 (Or.inr e2)⟩⟩
  rw [if_neg (fun q => q.elim e e2), Bool.true_and] at hP
  exact h27 hP
def accF (σ : nI2) (ρ : nN2) (s c : Nat) : Nat → Bool
  | 0 => true
  | v + 1 => if σ (2, s, v) = 0 then agr σ ρ s c (ρ (2, s, v)) && (σ (1, s, 0) == 0 || accF σ ρ s c v) else accF σ ρ s c v
theorem c_accepts (h : zC Fm V ad σ ρ ξ M) {s k n c : Nat} (hS : Sb V σ ρ s k) (hW : WC n σ ρ) (hn : n ≤ 36) (hk : ∀ v, v < k → ρ (2, s, v) < n) (hc : c ≤ n) (hVc : V (5, c, 0)) {P : Int32 → zM → Prop} (hP : P (bI (accF σ ρ s c k)) M) : w_X3_accepts (ad (1, s, 0)) (ad (5, c, 0)) M P := by
  have k6 := hS.2.2.2.1
  have hL := v_L h hS
  refine g_r h hS.2.1 rfl rfl ⟨g_is h hL rfl, l_size h hL hS.2.2.1 ⟨k + 1, ?_⟩⟩
  have key : ∀ v, v ≤ k → P (bI (accF σ ρ s c v)) M → w_X3_accepts_10 (ad (1, s, 0)) (ad (5, c, 0)) P (v + 1) (nI v + (-1)) M := by
    intro v
    induction v with
    | zero => intro _ hp; exact br_t (by decide) hp
    | succ v ih =>
      intro hv hp
      rw [pk_m1]
      have hvv := v_V h hS (show v < k by omega)
      unfold accF at hp
      refine br_f (nI_pos (by omega)) (g_r h hS.2.1 rfl rfl ⟨g_is h hL rfl, v_get h hS (by omega) (g_ck h hvv.1 rfl (g_i h hvv.1 rfl rfl ⟨fun e => ?_, fun e => g_r h hvv.1 rfl rfl ⟨g_is h hS.2.1 rfl, c_agrees h hS hW hn hc (by have := hk v (by omega); omega) hVc hvv.2 (br_n (fun e2 => g_i h hS.2.1 rfl rfl ⟨fun e3 => ?_, fun e3 => ?_⟩) (fun e2 => ?_))⟩⟩))⟩)
      · unfold w_X3_accepts_56
        rw [if_neg e] at hp
        exact ih (by omega) hp
      · unfold w_X3_accepts_56
        rw [if_pos e, e2, Bool.true_and, show (σ (1, s, 0) == 0) = false by simpa using e3, Bool.false_or] at hp
        exact ih (by omega) hp
      · rw [if_pos e, e2, Bool.true_and, show (σ (1, s, 0) == 0) = true by simpa using e3, Bool.true_or] at hp
        exact hp
      · rw [if_pos e, e2, Bool.false_and] at hp
        exact hp
  rw [Int32.sub_eq_add_neg]
  exact key k (Nat.le_refl k) hP
/-- the class as a whole, as it is read: n schemas with numbers, cnt versions -/
def WK (n : Nat) (cnt : Nat → Nat) (σ : nI2) (ρ : nN2) : Prop := (Ls σ ρ 0 6 ∧ Ls σ ρ 1 n ∧ n ≤ 36 ∧ ρ (0, 0, 0) = n) ∧ (∀ s, s < 6 → Ls σ ρ (2 + s) (cnt s) ∧ cnt s ≤ 6 ∧ ∀ v, v < cnt s → (σ (2, s, v) = 0 ∨ σ (2, s, v) = 1 ∨ σ (2, s, v) = 2) ∧ ρ (2, s, v) < n) ∧ WC n σ ρ
theorem k_0 (h : zC Fm V ad σ ρ ξ M) (hV : V (0, 0, 0)) : V (2, 0, 0) ∧ V (2, 1, 0) ∧ V (5, ρ (0, 0, 0), 0) ∧ V (6, ρ (1, 0, 0), 0) ∧ V (6, ρ (1, 1, 0), 0) ∧ V (6, 2, 0) :=
  have g := h.2.2.1 _ hV
  ⟨g _ (Or.inl rfl), g _ (Or.inr (Or.inl rfl)), g _ (Or.inr (Or.inr (Or.inl rfl))), g _ (Or.inr (Or.inr (Or.inr (Or.inl rfl)))), g _ (Or.inr (Or.inr (Or.inr (Or.inr (Or.inl rfl))))), g _ (Or.inr (Or.inr (Or.inr (Or.inr (Or.inr rfl)))))⟩
theorem k_1 (h : zC Fm V ad σ ρ ξ M) (hV : V (0, 0, 0)) {n : Nat} {cnt : Nat → Nat} (hK : WK n cnt σ ρ) {s : Nat} (hs : s < 6) : Sb V σ ρ s (cnt s) := by
  obtain ⟨⟨h1, h2, h3, h4⟩, h5, h6⟩ := hK
  obtain ⟨h7, h8, h9⟩ := h5 s hs
  refine ⟨hs, ?_, h7, h8, fun v hv => (h9 v hv).1⟩
  exact h.2.2.1 _ (h.2.2.1 _ (k_0 h hV).1 (3, 0, 0) rfl) (el 0 s) ⟨s, (h1.2.1 s).2 hs, rfl⟩
theorem k_S (h : zC Fm V ad σ ρ ξ M) (hV : V (0, 0, 0)) {n : Nat} {cnt : Nat → Nat} (hK : WK n cnt σ ρ) {c : Nat} (hc : c ≤ n) : V (5, c, 0) := by
  obtain ⟨⟨h1, h2, h3, h4⟩, h5, h6⟩ := hK
  by_cases e : c = n
  · have := (k_0 h hV).2.2.1; rw [h4] at this; rw [e]; exact this
  · exact h.2.2.1 _ (h.2.2.1 _ (k_0 h hV).2.1 (3, 1, 0) rfl) (el 1 c) ⟨c, (h2.2.1 c).2 (by omega), rfl⟩
theorem c_subject (h : zC Fm V ad σ ρ ξ M) (hV : V (0, 0, 0)) {n : Nat} {cnt : Nat → Nat} (hK : WK n cnt σ ρ) {p : Int32} {P : Option Nat → zM → Prop} {PX : Nat → zM → Prop} (h1 : ∀ s, s < 6 → p = nI s → P (some (ad (1, s, 0))) M) (h2 : (∀ s, s < 6 → p ≠ nI s) → PX 1 M) : w_X5_demandedSubject (ad (0, 0, 0)) p M P PX := by
  have hL := (k_0 h hV).1
  have l0 := hK.1.1
  refine ⟨fun e => h2 fun s hs hp => ?_, fun e => g_r h hV rfl rfl ⟨g_is h hL rfl, l_size h hL l0 ⟨fun e1 => ?_, fun e1 => h2 fun s hs hp => ?_⟩⟩⟩
  · rw [hp] at e; exact absurd e (nI_pos (by omega))
  · obtain ⟨s, hs, rfl⟩ := nI_of e
    have hs6 := (nI_ltI hs (by omega)).1 e1
    exact g_r h hV rfl rfl ⟨g_is h hL rfl, l_get h hL l0 hs6 (g_ck h (k_1 h hV hK hs6).2.1 rfl (h1 s hs6 rfl))⟩
  · rw [hp] at e1; exact absurd (nI_lt hs (by omega)) e1
theorem c_version (h : zC Fm V ad σ ρ ξ M) (hV : V (0, 0, 0)) {n : Nat} {cnt : Nat → Nat} (hK : WK n cnt σ ρ) {s : Nat} (hs : s < 6) {p : Int32} {P : Option Nat → zM → Prop} {PX : Nat → zM → Prop} (h1 : ∀ v, p = nI v → v < cnt s → ¬ σ (2, s, v) = 2 → P (some (ad (4, s, v))) M) (h2 : (∀ v, p = nI v → v < cnt s → σ (2, s, v) = 2) → PX 2 M) : w_X5_demandedVersion (ad (1, s, 0)) p M P PX := by
  have hS := k_1 h hV hK hs
  exact ⟨g_is h hS.2.1 rfl, c_kept h hS (fun v a b c => cm_some (h1 v a b c)) (fun q => cm_none (h2 q))⟩
theorem c_schema (h : zC Fm V ad σ ρ ξ M) (hV : V (0, 0, 0)) {n : Nat} {cnt : Nat → Nat} (hK : WK n cnt σ ρ) {p q : Int32} {P : Option Nat → zM → Prop} {PX : Nat → zM → Prop} (h1 : ∀ s v, s < 6 → p = nI s → q = nI v → v < cnt s → ¬ σ (2, s, v) = 2 → P (some (ad (5, ρ (2, s, v), 0))) M) (h2 : (∀ s, s < 6 → p ≠ nI s) → PX 1 M) (h3 : ∀ s, s < 6 → p = nI s → (∀ v, q = nI v → v < cnt s → σ (2, s, v) = 2) → PX 2 M) : w_X5_demandedSchema (ad (0, 0, 0)) p q M P PX := by
  refine ⟨g_is h hV rfl, c_subject h hV hK (fun s hs hp => ⟨_, rfl, c_version h hV hK hs (fun v hq hv hh => ⟨_, rfl, ?_⟩) (fun hq => h3 s hs hp hq)⟩) h2⟩
  exact g_r h (v_V h (k_1 h hV hK hs) hv).1 rfl rfl (h1 s v hs hp hq hv hh)
def isRef (σ : nI2) (ρ : nN2) (n : Nat) (cnt : Nat → Nat) (p : Int32) : Bool := refS σ n p || anyR (fun s => refB σ ρ s (cnt s) p) 6 0
theorem c_isReferredTo (h : zC Fm V ad σ ρ ξ M) (hV : V (0, 0, 0)) {n : Nat} {cnt : Nat → Nat} (hK : WK n cnt σ ρ) {p : Int32} {P : Int32 → zM → Prop} (hP : P (bI (isRef σ ρ n cnt p)) M) : w_X5_isReferredTo (ad (0, 0, 0)) p M P := by
  obtain ⟨⟨l0, l1, hn, hd⟩, hs, hW⟩ := id hK
  have hL := (k_0 h hV).1
  have hVn := k_S h hV hK (Nat.le_refl n)
  unfold isRef at hP
  refine g_r h hV rfl rfl ?_
  show zIs M (ad (5, ρ (0, 0, 0), 0)) 3 ∧ w_X2_refersTo (ad (5, ρ (0, 0, 0), 0)) p M _
  rw [hd]
  refine ⟨g_is h hVn rfl, s_refersTo h hVn (hW n (Nat.le_refl n)).1 (br_b (fun e => ?_) (fun e => ?_))⟩
  · rw [e, Bool.false_or] at hP
    have key : ∀ k i, i + k = 6 → P (bI (anyR (fun s => refB σ ρ s (cnt s) p) k i)) M → w_X5_isReferredTo_15 (ad (0, 0, 0)) p P (k + 1) (nI i) M := by
      intro k
      induction k with
      | zero =>
        intro i hi hp
        exact g_r h hV rfl rfl ⟨g_is h hL rfl, l_size h hL l0 (br_t (nI_le (by omega) (by omega)) hp)⟩
      | succ k ih =>
        intro i hi hp
        rw [anyR_s] at hp
        have hS := k_1 h hV hK (show i < 6 by omega)
        refine g_r h hV rfl rfl ⟨g_is h hL rfl, l_size h hL l0 (br_f (nI_ge (by omega) (by omega)) (g_r h hV rfl rfl ⟨g_is h hL rfl, l_get h hL l0 (by omega) (g_ck h hS.2.1 rfl ⟨g_is h hS.2.1 rfl, c_refersTo h hS hW (fun v hv => ((hs i (by omega)).2.2 v hv).2) (br_b (fun e2 => ?_) (fun e2 => ?_))⟩)⟩))⟩
        · rw [e2, Bool.false_or] at hp
          rw [nI_1]
          exact ih (i + 1) (by omega) hp
        · rw [e2, Bool.true_or] at hp; exact hp
    exact ⟨7, key 6 0 (by omega) hP⟩
  · rw [e, Bool.true_or] at hP; exact hP
theorem c_referable (h : zC Fm V ad σ ρ ξ M) (hV : V (0, 0, 0)) {n : Nat} {cnt : Nat → Nat} (hK : WK n cnt σ ρ) {p : Int32} {P : Option Nat → zM → Prop} (h1 : ∀ s v, s < 6 → p = nI (10 * s + v) → v < cnt s → σ (2, s, v) = 0 → P (some (ad (5, ρ (2, s, v), 0))) M) (h2 : (∀ s v, s < 6 → p = nI (10 * s + v) → v < cnt s → ¬ σ (2, s, v) = 0) → P none M) : w_X5_referable (ad (0, 0, 0)) p M P := by
  have hL := (k_0 h hV).1
  have l0 := hK.1.1
  have c6 : ∀ s, s < 6 → cnt s ≤ 6 := fun s hs => (hK.2.1 s hs).2.1
  refine ⟨fun e => h2 fun s v hs hp hv => ?_, fun e => ?_⟩
  · rw [hp] at e; have := c6 s hs; exact absurd e (nI_pos (by omega))
  · obtain ⟨d, hd, rfl⟩ := nI_of e
    have e1 : nI d / (10 : Int32) = nI (d / 10) := pk_div (d := 10) hd (by omega) (by omega)
    have e2 : nI d - nI d / (10 : Int32) * (10 : Int32) = nI (d % 10) := pk_rem (d := 10) hd (by omega) (by omega)
    rw [e2, e1]
    have uni : ∀ s v, s < 6 → nI d = nI (10 * s + v) → v < cnt s → s = d / 10 ∧ v = d % 10 := fun s v hs hp hv => by
      have := c6 s hs
      have := (nI_eq hd (by omega)).1 hp
      omega
    refine g_r h hV rfl rfl ⟨g_is h hL rfl, l_size h hL l0 (pk_lt (d / 10) 6 (fun hs => ?_) (fun hs => h2 fun s v hs' hp hv => ?_))⟩
    · have hS := k_1 h hV hK hs
      refine g_r h hV rfl rfl ⟨g_is h hL rfl, l_get h hL l0 hs (g_ck h hS.2.1 rfl ⟨g_is h hS.2.1 rfl, c_kept h hS (fun v hv hvk h2' => cm_some (g_i h (v_V h hS hvk).1 rfl rfl ⟨fun e3 => g_r h (v_V h hS hvk).1 rfl rfl (h1 _ v hs ?_ hvk e3), fun e3 => h2 fun s v' hs' hp hv' => ?_⟩)) (fun q => cm_none (h2 fun s v' hs' hp hv' => ?_))⟩)⟩
      · have := (nI_eq (by omega) (by have := c6 _ hs; omega)).1 hv
        congr 1; omega
      · obtain ⟨rfl, rfl⟩ := uni s v' hs' hp hv'
        have := (nI_eq (by omega) (by have := c6 _ hs; omega)).1 hv
        rw [this]; exact e3
      · obtain ⟨rfl, rfl⟩ := uni s v' hs' hp hv'
        rw [q _ rfl hv']; decide
    · have := uni s v hs' hp hv; omega
