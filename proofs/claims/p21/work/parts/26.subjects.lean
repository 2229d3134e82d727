/-! ===== the pure part: what only reads, in the class ===== -/
variable {Fm : zM} {V V' : nm → Prop} {ad ad' : nm → Nat} {σ σ' : nI2} {ρ ρ' : nN2} {ξ ξ' : Nat → zE} {M : zM} {x y w : nm}
def anyR (f : Nat → Bool) (k i : Nat) : Bool := (lk f k i).isSome
theorem anyR_iff {f : Nat → Bool} {k i : Nat} : anyR f k i = true ↔ ∃ j, i ≤ j ∧ j < i + k ∧ f j = true := by
  unfold anyR
  cases e : lk f k i with
  | some j => obtain ⟨h1, h2, h3, -⟩ := lk_some _ _ _ e; exact ⟨fun _ => ⟨j, h1, h2, h3⟩, fun _ => rfl⟩
  | none => exact ⟨fun h => (by cases h), fun ⟨j, h1, h2, h3⟩ => by rw [(lk_none k i).1 e j h1 h2] at h3; cases h3⟩
theorem anyR_s {f : Nat → Bool} {k i : Nat} : anyR f (k + 1) i = (f i || anyR f k (i + 1)) := by
  unfold anyR
  rw [lk]
  by_cases e : f i = true
  · rw [if_pos e, e]; rfl
  · rw [if_neg e, Bool.eq_false_iff.2 e]; rfl
def refS (σ : nI2) (c : Nat) (p : Int32) : Bool := anyR (fun j => σ (12, c, j) == p) (zz σ c) 0
theorem s_refersTo (h : zC Fm V ad σ ρ ξ M) {c : Nat} (hV : V (5, c, 0)) (hS : Sc σ ρ c) {p : Int32} {P : Int32 → zM → Prop} (hP : P (bI (refS σ c p)) M) : w_X2_refersTo (ad (5, c, 0)) p M P := by
  obtain ⟨v2, v3, v6, v7⟩ := s_V h hV
  have key : ∀ k i, i + k = zz σ c → P (bI (anyR (fun j => σ (12, c, j) == p) k i)) M → w_X2_refersTo_2 (ad (5, c, 0)) p P (k + 1) (nI i) M := by
    intro k
    induction k with
    | zero =>
      intro i hi hp
      exact g_r h hV rfl rfl ⟨g_is h v2 rfl, l_size h v2 hS.1 (br_t (nI_le (by omega) (by have := hS.2; omega)) hp)⟩
    | succ k ih =>
      intro i hi hp
      rw [anyR_s] at hp
      refine g_r h hV rfl rfl ⟨g_is h v2 rfl, l_size h v2 hS.1 (br_f (nI_ge (by omega) (by have := hS.2; omega)) (g_r h hV rfl rfl ⟨g_is h v2 rfl, s_get h hV hS (by omega) (g_ck h (s_F h hV hS (by omega)) rfl (g_i h (s_F h hV hS (by omega)) rfl rfl ⟨fun e => ?_, fun e => ?_⟩))⟩))⟩
      · rw [nI_1]
        refine ih (i + 1) (by omega) ?_
        rw [show (σ (12, c, i) == p) = false by simpa using e, Bool.false_or] at hp
        exact hp
      · rw [show (σ (12, c, i) == p) = true by simpa using e, Bool.true_or] at hp
        exact hp
  exact ⟨zz σ c + 1, key (zz σ c) 0 (by omega) hP⟩
def likeF (σ : nI2) (c d j : Nat) : Bool := σ (8, c, j) == σ (8, d, j) && (σ (9, c, j) == σ (9, d, j) && (σ (10, c, j) == σ (10, d, j) && (σ (11, c, j) == σ (11, d, j) && (σ (12, c, j) == σ (12, d, j) && (σ (14, c, j) == σ (14, d, j) && σ (15, c, j) == σ (15, d, j))))))
def likeS (σ : nI2) (c d : Nat) : Bool := zz σ c == zz σ d && allR (likeF σ c d) (zz σ c) 0
theorem br_q {a b : Int32} {A : Int32 → Prop} {B : Prop} {r : Bool} (hP : A (bI (a == b && r))) (g : a = b → A (bI r) → B) : (¬ a = b → A 0) ∧ (a = b → B) :=
  ⟨fun e => by rw [show (a == b) = false by simpa using e, Bool.false_and] at hP; exact hP, fun e => g e (by rw [show (a == b) = true by simpa using e, Bool.true_and] at hP; exact hP)⟩
theorem f_isLike (h : zC Fm V ad σ ρ ξ M) {c d j : Nat} (hF : V (8, c, j)) (hG : V (8, d, j)) {P : Int32 → zM → Prop} (hP : P (bI (likeF σ c d j)) M) : w_X0_isLike (ad (8, c, j)) (ad (8, d, j)) M P := by
  refine g_i h hF rfl rfl (g_i h hG rfl rfl (br_q (A := fun r => P r M) hP fun _ h1 => ?_))
  refine g_i h hF rfl rfl (g_i h hG rfl rfl (br_q (A := fun r => P r M) h1 fun _ h2 => ?_))
  refine g_i h hF rfl rfl (g_i h hG rfl rfl (br_q (A := fun r => P r M) h2 fun _ h3 => ?_))
  refine g_i h hF rfl rfl (g_i h hG rfl rfl (br_q (A := fun r => P r M) h3 fun _ h4 => ?_))
  refine g_i h hF rfl rfl (g_i h hG rfl rfl (br_q (A := fun r => P r M) h4 fun _ h5 => ?_))
  refine g_i h hF rfl rfl (g_i h hG rfl rfl (br_q (A := fun r => P r M) h5 fun _ h6 => ?_))
  exact g_i h hF rfl rfl (g_i h hG rfl rfl (br_q (A := fun r => P r M) (r := true) (by rw [Bool.and_true]; exact h6) fun _ h7 => h7))
theorem s_isLike (h : zC Fm V ad σ ρ ξ M) {c d : Nat} (hV : V (5, c, 0)) (hS : Sc σ ρ c) (hV' : V (5, d, 0)) (hS' : Sc σ ρ d) {P : Int32 → zM → Prop} (hP : P (bI (likeS σ c d)) M) : w_X2_isLike (ad (5, c, 0)) (ad (5, d, 0)) M P := by
  obtain ⟨v2, v3, v6, v7⟩ := s_V h hV
  obtain ⟨v2', v3', v6', v7'⟩ := s_V h hV'
  have z5 := hS.2
  have z5' := hS'.2
  refine g_r h hV rfl rfl ⟨g_is h v2 rfl, l_size h v2 hS.1 (g_r h hV' rfl rfl ⟨g_is h v2' rfl, l_size h v2' hS'.1 ⟨fun e => ?_, fun e => ?_⟩⟩)⟩
  · have e := (nI_eq (by omega) (by omega)).1 e
    unfold likeS at hP
    rw [show (zz σ c == zz σ d) = true by simpa using e, Bool.true_and] at hP
    have key : ∀ k i, i + k = zz σ c → P (bI (allR (likeF σ c d) k i)) M → w_X2_isLike_21 (ad (5, c, 0)) (ad (5, d, 0)) P (k + 1) (nI i) M := by
      intro k
      induction k with
      | zero =>
        intro i hi hp
        exact g_r h hV rfl rfl ⟨g_is h v2 rfl, l_size h v2 hS.1 (br_t (nI_le (by omega) (by omega)) hp)⟩
      | succ k ih =>
        intro i hi hp
        unfold allR at hp
        refine g_r h hV rfl rfl ⟨g_is h v2 rfl, l_size h v2 hS.1 (br_f (nI_ge (by omega) (by omega)) (g_r h hV' rfl rfl ⟨g_is h v2' rfl, l_size h v2' hS'.1 (br_f (nI_ge (by omega) (by omega)) (g_r h hV rfl rfl ⟨g_is h v2 rfl, s_get h hV hS (by omega) (g_ck h (s_F h hV hS (by omega)) rfl (g_r h hV' rfl rfl ⟨g_is h v2' rfl, s_get h hV' hS' (by omega) (g_ck h (s_F h hV' hS' (by omega)) rfl ⟨g_is h (s_F h hV hS (by omega)) rfl, f_isLike h (s_F h hV hS (by omega)) (s_F h hV' hS' (by omega)) (br_n (fun e => ?_) (fun e => ?_))⟩)⟩))⟩))⟩))⟩
        · rw [e, Bool.true_and] at hp
          rw [nI_1]
          exact ih (i + 1) (by omega) hp
        · rw [e, Bool.false_and] at hp; exact hp
    exact ⟨zz σ c + 1, key (zz σ c) 0 (by omega) hP⟩
  · unfold likeS at hP
    have e : ¬ zz σ c = zz σ d := fun q => e (by rw [q])
    rw [show (zz σ c == zz σ d) = false by simpa using e, Bool.false_and] at hP
    exact hP
/-! subjects: s < 6, k versions -/
def Sb (V : nm → Prop) (σ : nI2) (ρ : nN2) (s k : Nat) : Prop := s < 6 ∧ V (1, s, 0) ∧ Ls σ ρ (2 + s) k ∧ k ≤ 6 ∧ ∀ v, v < k → σ (2, s, v) = 0 ∨ σ (2, s, v) = 1 ∨ σ (2, s, v) = 2
theorem v_L (h : zC Fm V ad σ ρ ξ M) {s k : Nat} (hS : Sb V σ ρ s k) : V (2, 2 + s, 0) := h.2.2.1 _ hS.2.1 _ rfl
theorem v_V (h : zC Fm V ad σ ρ ξ M) {s k v : Nat} (hS : Sb V σ ρ s k) (hv : v < k) : V (4, s, v) ∧ V (5, ρ (2, s, v), 0) := by
  have h2 := v_L h hS
  have h3 := h.2.2.1 _ h2 (3, 2 + s, 0) rfl
  have := h.2.2.1 _ h3 (el (2 + s) v) ⟨v, (hS.2.2.1.2.1 v).2 hv, rfl⟩
  rw [el_2 hS.1] at this
  exact ⟨this, h.2.2.1 _ this _ rfl⟩
theorem v_get (h : zC Fm V ad σ ρ ξ M) {s k v : Nat} (hS : Sb V σ ρ s k) (hv : v < k) {P : Option Nat → zM → Prop} (hP : P (some (ad (4, s, v))) M) : w_Jx4a65c_get_915e3 (ad (2, 2 + s, 0)) (nI v) M P :=
  l_get h (v_L h hS) hS.2.2.1 hv (by rw [el_2 hS.1]; exact hP)
theorem c_kept (h : zC Fm V ad σ ρ ξ M) {s k : Nat} (hS : Sb V σ ρ s k) {p : Int32} {P : Option Nat → zM → Prop} (h1 : ∀ v, p = nI v → v < k → ¬ σ (2, s, v) = 2 → P (some (ad (4, s, v))) M) (h2 : (∀ v, p = nI v → v < k → σ (2, s, v) = 2) → P none M) : w_X3_keptVersion (ad (1, s, 0)) p M P := by
  have k6 := hS.2.2.2.1
  have hL := v_L h hS
  refine ⟨fun e => h2 fun v hv hk => ?_, fun e => g_r h hS.2.1 rfl rfl ⟨g_is h hL rfl, l_size h hL hS.2.2.1 ⟨fun e1 => ?_, fun e1 => h2 fun v hv hk => ?_⟩⟩⟩
  · rw [hv] at e; exact absurd e (nI_pos (by omega))
  · obtain ⟨v, hv, rfl⟩ := nI_of e
    have hvk := (nI_ltI hv (by omega)).1 e1
    refine g_r h hS.2.1 rfl rfl ⟨g_is h hL rfl, v_get h hS hvk (g_ck h (v_V h hS hvk).1 rfl (g_i h (v_V h hS hvk).1 rfl rfl ⟨fun e2 => h1 v rfl hvk e2, fun e2 => h2 fun v' hv' hk' => ?_⟩))⟩
    have := (nI_eq (by omega) (by omega)).1 hv'
    rw [← this]; exact e2
  · rw [hv] at e1; exact absurd (nI_lt hk (by omega)) e1
/-- how many of k from i on -/
def cntR (f : Nat → Bool) : Nat → Nat → Nat
  | 0, _ => 0
  | k + 1, i => (if f i then 1 else 0) + cntR f k (i + 1)
theorem c_countThere (h : zC Fm V ad σ ρ ξ M) {s k : Nat} (hS : Sb V σ ρ s k) {P : Int32 → zM → Prop} (hP : P (nI (cntR (fun v => σ (2, s, v) == 0) k 0)) M) : w_X3_countThere (ad (1, s, 0)) M P := by
  have k6 := hS.2.2.2.1
  have hL := v_L h hS
  have key : ∀ q i a, i + q = k → P (nI (a + cntR (fun v => σ (2, s, v) == 0) q i)) M → w_X3_countThere_4 (ad (1, s, 0)) P (q + 1) (nI a) (nI i) M := by
    intro q
    induction q with
    | zero =>
      intro i a hi hp
      exact g_r h hS.2.1 rfl rfl ⟨g_is h hL rfl, l_size h hL hS.2.2.1 (br_t (nI_le (by omega) (by omega)) hp)⟩
    | succ q ih =>
      intro i a hi hp
      unfold cntR at hp
      refine g_r h hS.2.1 rfl rfl ⟨g_is h hL rfl, l_size h hL hS.2.2.1 (br_f (nI_ge (by omega) (by omega)) (g_r h hS.2.1 rfl rfl ⟨g_is h hL rfl, v_get h hS (by omega) (g_ck h (v_V h hS (by omega)).1 rfl (g_i h (v_V h hS (by omega)).1 rfl rfl ⟨fun e => ?_, fun e => ?_⟩))⟩))⟩
      · unfold w_X3_countThere_35
        rw [nI_1]
        refine ih (i + 1) a (by omega) ?_
        rw [if_neg (by simpa using e), Nat.zero_add] at hp
        exact hp
      · unfold w_X3_countThere_35
        rw [nI_1, nI_1]
        refine ih (i + 1) (a + 1) (by omega) ?_
        rw [if_pos (by simpa using e)] at hp
        rw [Nat.add_assoc]; exact hp
  refine ⟨k + 1, ?_⟩
  have := key k 0 0 (by omega) (by rw [Nat.zero_add]; exact hP)
  exact this
def lowS (σ : nI2) (ρ : nN2) (s k c : Nat) : Option Nat := lk (fun v => σ (2, s, v) == 0 && likeS σ (ρ (2, s, v)) c) k 0
theorem c_lowestLike (h : zC Fm V ad σ ρ ξ M) {s k n c : Nat} (hS : Sb V σ ρ s k) (hW : WC n σ ρ) (hk : ∀ v, v < k → ρ (2, s, v) < n) (hc : c ≤ n) (hV : V (5, c, 0)) {P : Int32 → zM → Prop} (hP : P (match lowS σ ρ s k c with | some v => nI v | none => -1) M) : w_X3_lowestLike (ad (1, s, 0)) (ad (5, c, 0)) M P := by
  have k6 := hS.2.2.2.1
  have hL := v_L h hS
  have key : ∀ q i, i + q = k → P (match lk (fun v => σ (2, s, v) == 0 && likeS σ (ρ (2, s, v)) c) q i with | some v => nI v | none => -1) M → w_X3_lowestLike_2 (ad (1, s, 0)) (ad (5, c, 0)) P (q + 1) (nI i) M := by
    intro q
    induction q with
    | zero =>
      intro i hi hp
      exact g_r h hS.2.1 rfl rfl ⟨g_is h hL rfl, l_size h hL hS.2.2.1 (br_t (nI_le (by omega) (by omega)) hp)⟩
    | succ q ih =>
      intro i hi hp
      unfold lk at hp
      have hv := v_V h hS (show i < k by omega)
      refine g_r h hS.2.1 rfl rfl ⟨g_is h hL rfl, l_size h hL hS.2.2.1 (br_f (nI_ge (by omega) (by omega)) (g_r h hS.2.1 rfl rfl ⟨g_is h hL rfl, v_get h hS (by omega) (g_ck h hv.1 rfl (g_i h hv.1 rfl rfl ⟨fun e => ?_, fun e => g_r h hv.1 rfl rfl ⟨g_is h hv.2 rfl, s_isLike h hv.2 (hW _ (by have := hk i (by omega); omega)).1 hV (hW c hc).1 (br_b (fun e2 => ?_) (fun e2 => ?_))⟩⟩))⟩))⟩
      · unfold w_X3_lowestLike_45
        rw [nI_1]
        refine ih (i + 1) (by omega) ?_
        rw [show (σ (2, s, i) == 0) = false by simpa using e, Bool.false_and, if_neg (by decide)] at hp
        exact hp
      · unfold w_X3_lowestLike_45
        rw [nI_1]
        refine ih (i + 1) (by omega) ?_
        rw [e2, Bool.and_false, if_neg (by decide)] at hp
        exact hp
      · rw [show (σ (2, s, i) == 0) = true by simpa using e, e2, Bool.true_and, if_pos rfl] at hp
        exact hp
  exact ⟨k + 1, key k 0 (by omega) hP⟩
def refB (σ : nI2) (ρ : nN2) (s k : Nat) (p : Int32) : Bool := anyR (fun v => σ (2, s, v) != 2 && refS σ (ρ (2, s, v)) p) k 0
theorem c_refersTo (h : zC Fm V ad σ ρ ξ M) {s k n : Nat} (hS : Sb V σ ρ s k) (hW : WC n σ ρ) (hk : ∀ v, v < k → ρ (2, s, v) < n) {p : Int32} {P : Int32 → zM → Prop} (hP : P (bI (refB σ ρ s k p)) M) : w_X3_refersTo (ad (1, s, 0)) p M P := by
  have k6 := hS.2.2.2.1
  have hL := v_L h hS
  have key : ∀ q i, i + q = k → P (bI (anyR (fun v => σ (2, s, v) != 2 && refS σ (ρ (2, s, v)) p) q i)) M → w_X3_refersTo_2 (ad (1, s, 0)) p P (q + 1) (nI i) M := by
    intro q
    induction q with
    | zero =>
      intro i hi hp
      exact g_r h hS.2.1 rfl rfl ⟨g_is h hL rfl, l_size h hL hS.2.2.1 (br_t (nI_le (by omega) (by omega)) hp)⟩
    | succ q ih =>
      intro i hi hp
      rw [anyR_s] at hp
      have hv := v_V h hS (show i < k by omega)
      refine g_r h hS.2.1 rfl rfl ⟨g_is h hL rfl, l_size h hL hS.2.2.1 (br_f (nI_ge (by omega) (by omega)) (g_r h hS.2.1 rfl rfl ⟨g_is h hL rfl, v_get h hS (by omega) (g_ck h hv.1 rfl (g_i h hv.1 rfl rfl ⟨fun e => ?_, fun e => g_r h hv.1 rfl rfl ⟨g_is h hv.2 rfl, s_refersTo h hv.2 (hW _ (by have := hk i (by omega); omega)).1 (br_b (fun e2 => ?_) (fun e2 => ?_))⟩⟩))⟩))⟩
      · unfold w_X3_refersTo_46
        rw [nI_1]
        refine ih (i + 1) (by omega) ?_
        rw [show (σ (2, s, i) != 2) = false by simpa using e, Bool.false_and, Bool.false_or] at hp
        exact hp
      · unfold w_X3_refersTo_46
        rw [nI_1]
        refine ih (i + 1) (by omega) ?_
        rw [e2, Bool.and_false, Bool.false_or] at hp
        exact hp
      · rw [show (σ (2, s, i) != 2) = true by simpa using e, e2, Bool.true_and, Bool.true_or] at hp
        exact hp
  exact ⟨k + 1, key k 0 (by omega) hP⟩
