/-! ===== the pure part: records, small records, in the class ===== -/
variable {Fm : zM} {V V' : nm → Prop} {ad ad' : nm → Nat} {σ σ' : nI2} {ρ ρ' : nN2} {ξ ξ' : Nat → zE} {M : zM} {x y w : nm}
def ofS (v k : Int32) : Bool := k == 0 || (!decide (v < 0) && decide (v < k))
theorem c_isOfSize {v k : Int32} {P : Int32 → zM → Prop} (hP : P (bI (ofS v k)) M) : w_X5_isOfSize v k M P := by
  unfold ofS at hP
  refine ⟨fun e => ?_, fun e => ⟨fun e1 => ?_, fun e1 => ⟨fun e2 => ?_, fun e2 => ?_⟩⟩⟩
  · rw [show (k == 0) = true by simpa using e, Bool.true_or] at hP; exact hP
  · rw [show (k == 0) = false by simpa using e, Bool.false_or, decide_eq_true e1] at hP; exact hP
  · have : ¬ v < k := Int32.not_lt.2 e2
    rw [show (k == 0) = false by simpa using e, Bool.false_or, decide_eq_false e1, decide_eq_false this] at hP; exact hP
  · have : v < k := Int32.not_le.1 e2
    rw [show (k == 0) = false by simpa using e, Bool.false_or, decide_eq_false e1, decide_eq_true this] at hP; exact hP
def isRc (σ : nI2) (r c u : Nat) : Bool := u == lnn σ c && allR (fun j => ofS (σ (5, r, j)) (σ (5, 3 + c, j))) u 0
theorem c_isRecordOf (h : zC Fm V ad σ ρ ξ M) (hV : V (0, 0, 0)) {n c r u : Nat} (hP0 : WP n σ ρ) (hc : c ≤ n) (hVc : V (5, c, 0)) (hr : ρ (1, 0, 0) = r) (hu : σ (4, r, 0) = nI u) (hu2 : u ≤ 20) {P : Int32 → zM → Prop} (hP : P (bI (isRc σ r c u)) M) : w_X5_isRecordOf (ad (0, 0, 0)) (ad (5, c, 0)) M P := by
  subst hr
  have hVr := (k_0 h hV).2.2.2.1
  obtain ⟨v2, v3, v6, v7⟩ := s_V h hVc
  obtain ⟨l1, l2⟩ := hP0.lnn hc
  have hlc : σ (4, 3 + c, 0) = nI (lnn σ c) := by rw [l1]; exact (hP0 c hc).1.1
  unfold isRc at hP
  refine g_r h hV rfl rfl ⟨g_is h hVr rfl, r_count h hVr (g_r h hVc rfl rfl ⟨g_is h v6 rfl, r_count h v6 ?_⟩)⟩
  show (σ (4, ρ (1, 0, 0), 0) = σ (4, 3 + c, 0) → _) ∧ (¬ σ (4, ρ (1, 0, 0), 0) = σ (4, 3 + c, 0) → _)
  rw [hu, hlc]
  refine ⟨fun e => ?_, fun e => ?_⟩
  · have e := (nI_eq (by omega) (by omega)).1 e
    rw [show (u == lnn σ c) = true by simpa using e, Bool.true_and] at hP
    have key : ∀ k i, i + k = u → P (bI (allR (fun j => ofS (σ (5, ρ (1, 0, 0), j)) (σ (5, 3 + c, j))) k i)) M → w_X5_isRecordOf_21 (ad (0, 0, 0)) (ad (5, c, 0)) P (k + 1) (nI i) M := by
      intro k
      induction k with
      | zero =>
        intro i hi hp
        refine g_r h hV rfl rfl ⟨g_is h hVr rfl, r_count h hVr ?_⟩
        rw [hu]
        exact br_t (nI_le (by omega) (by omega)) hp
      | succ k ih =>
        intro i hi hp
        unfold allR at hp
        refine g_r h hV rfl rfl ⟨g_is h hVr rfl, r_count h hVr ?_⟩
        rw [hu]
        refine br_f (nI_ge (by omega) (by omega)) (g_r h hV rfl rfl ⟨g_is h hVr rfl, r_at h hVr hu hu2 (by omega) (g_r h hVc rfl rfl ⟨g_is h v6 rfl, r_at h v6 hlc l2 (by omega) (c_isOfSize (br_n (fun e => ?_) (fun e => ?_)))⟩)⟩)
        · rw [e, Bool.true_and] at hp
          rw [nI_1]
          exact ih (i + 1) (by omega) hp
        · rw [e, Bool.false_and] at hp; exact hp
    exact ⟨u + 1, key u 0 (by omega) hP⟩
  · have e : ¬ u = lnn σ c := fun q => e (by rw [q])
    rw [show (u == lnn σ c) = false by simpa using e, Bool.false_and] at hP
    exact hP
/-- how many small records, more than 300 cut short -/
def smC (p : Nat → Nat) : Nat → Nat → Nat → Nat
  | 0, _, a => a
  | k + 1, i, a => if 300 < a then a else smC p k (i + 1) (if p i = 0 then a else a * p i)
theorem c_countSmall (h : zC Fm V ad σ ρ ξ M) {r u : Nat} {p : Nat → Nat} (hV : V (6, r, 0)) (hu : σ (4, r, 0) = nI u) (hu2 : u ≤ 20) (hp : ∀ i, i < u → σ (5, r, i) = nI (p i) ∧ p i ≤ 4) {P : Int32 → zM → Prop} (hP : P (nI (smC p u 0 1)) M) : w_X5_countSmallRecords (ad (6, r, 0)) M P := by
  have key : ∀ k i a, i + k = u → a ≤ 1200 → P (nI (smC p k i a)) M → w_X5_countSmallRecords_4 (ad (6, r, 0)) P (k + 1) (nI a) (nI i) M := by
    intro k
    induction k with
    | zero =>
      intro i a hi ha hp
      refine ⟨g_is h hV rfl, r_count h hV ?_⟩
      rw [hu]
      exact br_t (nI_le (by omega) (by omega)) hp
    | succ k ih =>
      intro i a hi ha hp1
      obtain ⟨p1, p2⟩ := hp i (by omega)
      unfold smC at hp1
      refine ⟨g_is h hV rfl, r_count h hV ?_⟩
      rw [hu]
      refine br_f (nI_ge (by omega) (by omega)) (pk_lt 300 a (fun e => ?_) (fun e => ⟨g_is h hV rfl, r_at h hV hu hu2 (by omega) ?_⟩))
      · rw [if_pos e] at hp1; exact hp1
      · rw [if_neg (by omega)] at hp1
        rw [p1]
        refine pk_eq (p i) 0 (fun e => ?_) (fun e => ⟨g_is h hV rfl, r_at h hV hu hu2 (by omega) ?_⟩)
        · rw [if_pos e] at hp1
          unfold w_X5_countSmallRecords_35
          rw [nI_1]
          exact ih (i + 1) a (by omega) ha hp1
        · rw [if_neg e] at hp1
          unfold w_X5_countSmallRecords_35
          rw [nI_1, p1, pk_mul]
          refine ih (i + 1) _ (by omega) ?_ hp1
          calc a * p i ≤ 300 * 4 := Nat.mul_le_mul (by omega) p2
            _ = 1200 := rfl
  exact ⟨u + 1, key u 0 1 (by omega) (by omega) hP⟩
/-- the digits of the small record i -/
def dgs (p : Nat → Nat) : Nat → Nat → Nat → List Int32
  | 0, _, _ => []
  | k + 1, i, a => (if p i = 0 then 0 else nI (a % p i)) :: dgs p k (i + 1) (if p i = 0 then a else a / p i)
theorem c_putSmall (h : zC Fm V ad σ ρ ξ M) {r t u a : Nat} {p : Nat → Nat} (hrt : r ≠ t) (hV : V (6, r, 0)) (hT : V (6, t, 0)) (hu : σ (4, r, 0) = nI u) (hu2 : u ≤ 20) (ha : a < 2 ^ 31) (hp : ∀ i, i < u → σ (5, r, i) = nI (p i) ∧ p i ≤ 4) {P : zM → Prop} (hP : ∀ M', zC Fm V ad (rApp (up σ (4, t, 0) 0) t 0 (dgs p u 0 a)) ρ ξ M' → P M') : w_X5_putSmallRecord (ad (6, t, 0)) (ad (6, r, 0)) (nI a) M P := by
  refine ⟨g_is h hT rfl, r_empty h hT fun M1 h1 => ?_⟩
  have e0 : up σ (4, t, 0) 0 (4, t, 0) = nI 0 := up_s _ _ _
  have e1 : up σ (4, t, 0) 0 (4, r, 0) = nI u := (up_n _ _ (fun e => hrt (by cases e; rfl))).trans hu
  have e2 : ∀ j, up σ (4, t, 0) 0 (5, r, j) = σ (5, r, j) := fun j => up_n _ _ (fun e => by cases e)
  generalize hσ : up σ (4, t, 0) 0 = σ1 at *
  have key : ∀ k i a l M, i + k = u → a < 2 ^ 31 → l.length = i → zC Fm V ad (rApp σ1 t 0 l) ρ ξ M → (∀ M', zC Fm V ad (rApp σ1 t 0 (l ++ dgs p k i a)) ρ ξ M' → P M') → ∀ b, w_X5_putSmallRecord_9 (ad (6, t, 0)) (ad (6, r, 0)) b P (k + 1) (nI a) (nI i) M := by
    intro k
    induction k with
    | zero =>
      intro i a l M hi ha hl hx hp b
      refine ⟨g_is hx hV rfl, r_count hx hV ?_⟩
      rw [(rApp_row hrt).1, e1]
      exact br_t (nI_le (by omega) (by omega)) (hp M (by simp only [dgs]; rw [List.append_nil]; exact hx))
    | succ k ih =>
      intro i a l M hi ha hl hx hp1 b
      obtain ⟨p1, p2⟩ := hp i (by omega)
      have r1 := rApp_row (σ := σ1) (u := 0) (l := l) hrt
      refine ⟨g_is hx hV rfl, r_count hx hV ?_⟩
      rw [r1.1, e1]
      refine br_f (nI_ge (by omega) (by omega)) ⟨g_is hx hV rfl, r_at hx hV (r1.1.trans e1) hu2 (by omega) ?_⟩
      rw [r1.2, e2, p1]
      refine pk_le (p i) 0 (fun e => ?_) (fun e => ⟨nI_ne0 e (by omega), ?_⟩)
      · refine rAdd1 hx hT rApp_used (by omega) fun M' h' => ?_
        rw [rApp_app] at h'
        unfold w_X5_putSmallRecord_52
        rw [nI_1]
        refine ih (i + 1) a (l ++ [0]) M' (by omega) ha (by rw [List.length_append, hl]; rfl) h' (fun M'' h'' => hp1 M'' ?_) b
        simp only [dgs]
        rw [if_pos (by omega), if_pos (by omega)]
        rw [List.append_assoc] at h''
        exact h''
      · rw [pk_rem ha e (by omega)]
        refine rAdd1 hx hT rApp_used (by omega) fun M' h' => ⟨nI_ne0 e (by omega), ?_⟩
        rw [rApp_app] at h'
        unfold w_X5_putSmallRecord_52
        rw [nI_1, pk_div ha e (by omega)]
        refine ih (i + 1) (a / p i) (l ++ [nI (a % p i)]) M' (by omega) (Nat.lt_of_le_of_lt (Nat.div_le_self _ _) ha) (by rw [List.length_append, hl]; rfl) h' (fun M'' h'' => hp1 M'' ?_) b
        simp only [dgs]
        rw [if_neg (by omega), if_neg (by omega)]
        rw [List.append_assoc] at h''
        exact h''
  exact ⟨u + 1, key u 0 a [] M1 (by omega) ha rfl (by rw [rApp_0 e0]; exact h1) (by simpa using hP) _⟩
/-- the same but for two Rows -/
def EQr (t s : Nat) (σ' σ : nI2) : Prop := ∀ w : nm, ((w.1 = 4 ∨ w.1 = 5) → w.2.1 ≠ t ∧ w.2.1 ≠ s) → σ' w = σ w
theorem EQr.eq {t s : Nat} (E : EQr t s σ' σ) : EQ σ' σ := fun w h4 h5 => E w fun q => absurd q (by omega)
theorem EQr.trans {t s : Nat} {σ'' : nI2} (E : EQr t s σ'' σ') (F : EQr t s σ' σ) : EQr t s σ'' σ := fun w h => (E w h).trans (F w h)
theorem EQr.app {t s r u : Nat} {l : List Int32} (hr : r = t ∨ r = s) : EQr t s (rApp σ r u l) σ := fun w h => by
  unfold rApp rAdd
  rw [if_neg (fun e => by rw [e] at h; have := h (Or.inl rfl); simp only at this; omega), if_neg (fun e => by have := h (Or.inr e.1); omega)]
theorem EQr.up {t s r : Nat} {v : Int32} (hr : r = t ∨ r = s) : EQr t s (up σ (4, r, 0) v) σ := fun w h => up_n _ _ (fun e => by rw [e] at h; have := h (Or.inl rfl); simp only at this; omega)
def rdAll (σ : nI2) (ρ : nN2) (p : Nat → Nat) (u c w k : Nat) : Bool := allR (fun i => (rdF σ ρ (fun j => (dgs p u 0 i).getD j 0) 45 c w 0).isSome) k 0
theorem dgs_len {p : Nat → Nat} : ∀ k i a, (dgs p k i a).length = k := by
  intro k
  induction k with
  | zero => intro i a; rfl
  | succ k ih => intro i a; simp only [dgs, List.length_cons, ih]
theorem c_readsLoop {n c w u N s : Nat} {p : Nat → Nat} {σ0 : nI2} (hW : WC n σ0 ρ) (hP0 : WP n σ0 ρ) (hn : n ≤ 36) (hc : c ≤ n) (hw : w ≤ n) (hV : V (0, 0, 0)) (hVc : V (5, c, 0)) (hVw : V (5, w, 0)) (hs : ρ (1, 1, 0) = s) (hs2 : s < 2) (hu : u = lnn σ0 w) (hp : ∀ i, i < u → σ0 (5, 3 + w, i) = nI (p i) ∧ p i ≤ 4) (hN : N ≤ 300) (a b e f : Int32) {P : Int32 → zM → Prop} {PX : Nat → zM → Prop}
    (hP : ∀ σ' M', EQr 2 s σ' σ0 → zC Fm V ad σ' ρ ξ M' → P (bI (rdAll σ0 ρ p u c w N)) M') (h : zC Fm V ad σ0 ρ ξ M) : ∃ nn, w_X5_readsAll_54 (ad (0, 0, 0)) a b e f P PX nn (some (ad (5, c, 0))) (some (ad (5, w, 0))) (nI N) 0 M := by
  subst hs
  obtain ⟨l1, l2⟩ := hP0.lnn hw
  have hlw : σ0 (4, 3 + w, 0) = nI u := by rw [hu, l1]; exact (hP0 w hw).1.1
  have key : ∀ k i σ M, i + k = N → EQr 2 (ρ (1, 1, 0)) σ σ0 → zC Fm V ad σ ρ ξ M → (∀ σ' M', EQr 2 (ρ (1, 1, 0)) σ' σ0 → zC Fm V ad σ' ρ ξ M' → P (bI (allR (fun i => (rdF σ0 ρ (fun j => (dgs p u 0 i).getD j 0) 45 c w 0).isSome) k i)) M') → w_X5_readsAll_54 (ad (0, 0, 0)) a b e f P PX (k + 1) (some (ad (5, c, 0))) (some (ad (5, w, 0))) (nI N) (nI i) M := by
    intro k
    induction k with
    | zero =>
      intro i σ M hi E hx hp1
      exact br_t (nI_le (by omega) (by omega)) (hp1 σ M E hx)
    | succ k ih =>
      intro i σ M hi E hx hp1
      unfold allR at hp1
      obtain ⟨-, -, -, -, vs, vt⟩ := k_0 hx hV
      obtain ⟨v2, v3, v6, v7⟩ := s_V hx hVw
      have e4 : σ (4, 3 + w, 0) = nI u := (E (4, 3 + w, 0) (fun _ => ⟨by simp only [ne_eq]; omega, by simp only [ne_eq]; omega⟩)).trans hlw
      have e5 : ∀ j, σ (5, 3 + w, j) = σ0 (5, 3 + w, j) := fun j => E (5, 3 + w, j) (fun _ => ⟨by simp only [ne_eq]; omega, by simp only [ne_eq]; omega⟩)
      refine br_f (nI_ge (by omega) (by omega)) (g_r hx hV rfl rfl ⟨_, rfl, g_r hx hVw rfl rfl ?_⟩)
      refine c_putSmall hx (r := 3 + w) (t := 2) (a := i) (p := p) (by omega) v6 vt e4 (by omega) (by omega) (fun j hj => by rw [e5]; exact hp j hj) fun M1 h1 => ?_
      have E1 : EQr 2 (ρ (1, 1, 0)) (rApp (up σ (4, 2, 0) 0) 2 0 (dgs p u 0 i)) σ0 := (EQr.app (Or.inl rfl)).trans ((EQr.up (Or.inl rfl)).trans E)
      refine g_r h1 hV rfl rfl ⟨g_is h1 vs rfl, r_empty h1 vs fun M2 h2 => ?_⟩
      have E2 := (EQr.up (σ := rApp (up σ (4, 2, 0) 0) 2 0 (dgs p u 0 i)) (v := 0) (Or.inr rfl)).trans E1
      refine g_r h2 hV rfl rfl (g_r h2 hV rfl rfl ?_)
      have t1 : up (rApp (up σ (4, 2, 0) 0) 2 0 (dgs p u 0 i)) (4, ρ (1, 1, 0), 0) 0 (4, 2, 0) = nI u := by
        rw [up_n _ _ (fun e => by have := congrArg (fun w : nm => w.2.1) e; simp only at this; omega), rApp_used, dgs_len, Nat.zero_add]
      have t2 : ∀ j, j < u → up (rApp (up σ (4, 2, 0) 0) 2 0 (dgs p u 0 i)) (4, ρ (1, 1, 0), 0) 0 (5, 2, j) = (dgs p u 0 i).getD j 0 := fun j hj => by
        rw [up_n _ _ (fun e => by cases e)]
        unfold rApp rAdd
        rw [if_neg (fun e => by cases e), if_pos ⟨rfl, rfl, Nat.zero_le _, by rw [dgs_len]; show j < 0 + u; omega⟩]
        rfl
      have fin : ∀ b : Bool, ∀ l M', zC Fm V ad (rApp (up (rApp (up σ (4, 2, 0) 0) 2 0 (dgs p u 0 i)) (4, ρ (1, 1, 0), 0) 0) (ρ (1, 1, 0)) 0 l) ρ ξ M' → EQr 2 (ρ (1, 1, 0)) (rApp (up (rApp (up σ (4, 2, 0) 0) 2 0 (dgs p u 0 i)) (4, ρ (1, 1, 0), 0) 0) (ρ (1, 1, 0)) 0 l) σ0 := fun _ l M' _ => (EQr.app (Or.inr rfl)).trans E2
      refine c_rdR (n := n) (r := 2) (t := ρ (1, 1, 0)) (ur := u) (g := fun j => (dgs p u 0 i).getD j 0) hW hP0 (by omega) (by omega) vt vs 45 c w 0 0 0 _ M2 _ h2 E2.eq (up_s _ _ _) t1 t2 hc hw hVc hVw (by omega) (by omega) (by have := (hP0.lnn hc).2; omega) (by omega) (fun l M' e h' => ?_) (fun l M' e h' => ?_)
      · refine (br_f (c := (1 : Int32) = 0) (by decide) ?_).symm
        rw [nI_1]
        refine ih (i + 1) _ M' (by omega) (fin true l M' h') h' fun σ' M'' E' h'' => ?_
        have := hp1 σ' M'' E' h''
        rw [e] at this
        exact this
      · refine (br_t (c := (0 : Int32) = 0) rfl ?_).symm
        have := hp1 _ M' (fin true l M' h') h'
        rw [e] at this
        exact this
  exact ⟨N + 1, key N 0 σ0 M (by omega) (fun w _ => rfl) h hP⟩
