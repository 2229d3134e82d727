/-! ===== the pure part: gets, puts, Rows and lists over the memory by names ===== -/
variable {Fm : zM} {V V' : nm → Prop} {ad ad' : nm → Nat} {σ σ' : nI2} {ρ ρ' : nN2} {ξ ξ' : Nat → zE} {M : zM} {x y w : nm}
theorem g_i (h : zC Fm V ad σ ρ ξ M) (hV : V x) {ci k : Nat} {fs : List Value} {v : Int32} (e : cell ad σ ρ ξ x = zO ci fs) (hk : fs[k]? = some (.int v)) {K : Int32 → Prop} (hK : K v) : zGi M (ad x) ci k K := ⟨fs, v, (h.1 x hV).trans (congrArg some e), hk, hK⟩
theorem g_r (h : zC Fm V ad σ ρ ξ M) (hV : V x) {ci k v : Nat} {fs : List Value} (e : cell ad σ ρ ξ x = zO ci fs) (hk : fs[k]? = some (.ref v)) {K : Nat → Prop} (hK : K v) : zGr M (ad x) ci k K := ⟨fs, v, (h.1 x hV).trans (congrArg some e), hk, hK⟩
theorem g_o (h : zC Fm V ad σ ρ ξ M) (hV : V x) {ci k : Nat} {v : Option Nat} {fs : List Value} (e : cell ad σ ρ ξ x = zO ci fs) (hk : fs[k]? = some (va_rf v)) {K : Option Nat → Prop} (hK : K v) : zGo M (ad x) ci k K := ⟨fs, v, (h.1 x hV).trans (congrArg some e), hk, hK⟩
theorem g_is (h : zC Fm V ad σ ρ ξ M) (hV : V x) {ci : Nat} {fs : List Value} (e : cell ad σ ρ ξ x = zO ci fs) : zIs M (ad x) ci := ⟨fs, (h.1 x hV).trans (congrArg some e)⟩
theorem g_ck (h : zC Fm V ad σ ρ ξ M) (hV : V x) {ci : Nat} {fs : List Value} (e : cell ad σ ρ ξ x = zO ci fs) {K : Nat → Prop} (hK : K (ad x)) : zCk M (some (ad x)) ci K := ⟨ad x, fs, rfl, (h.1 x hV).trans (congrArg some e), hK⟩
theorem p_i (h : zC Fm V ad σ ρ ξ M) (w : nm) (hV : V (hI w)) {ci k : Nat} {fs : List Value} {v : Int32} (e : cell ad σ ρ ξ (hI w) = zO ci fs) (hk : k < fs.length) (e2 : cell ad (up σ w v) ρ ξ (hI w) = zO ci (fs.set k (.int v))) {K : zM → Prop} (hK : ∀ M', zC Fm V ad (up σ w v) ρ ξ M' → K M') : zPu M (ad (hI w)) ci k (.int v) K := by
  refine ⟨fs, (h.1 _ hV).trans (congrArg some e), hk, ?_⟩
  have := h.I w v hV (by rw [e]; exact zO_ne)
  rw [e2] at this
  exact hK _ this
theorem p_n (h : zC Fm V ad σ ρ ξ M) (w : nm) (n : Nat) (hw : w.1 < 6) (hV : V (hN w)) (hr : ∀ y, refs (up ρ w n) (hN w) y → V y) {ci k : Nat} {fs : List Value} {v : Value} (e : cell ad σ ρ ξ (hN w) = zO ci fs) (hk : k < fs.length) (e2 : cell ad σ (up ρ w n) ξ (hN w) = zO ci (fs.set k v)) {K : zM → Prop} (hK : ∀ M', zC Fm V ad σ (up ρ w n) ξ M' → K M') : zPu M (ad (hN w)) ci k v K := by
  refine ⟨fs, (h.1 _ hV).trans (congrArg some e), hk, ?_⟩
  have := h.N w n hw hV hr (by rw [e]; exact zO_ne)
  rw [e2] at this
  exact hK _ this
/-! Rows -/
theorem r_count (h : zC Fm V ad σ ρ ξ M) {r : Nat} (hV : V (6, r, 0)) {P : Int32 → zM → Prop} (hP : P (σ (4, r, 0)) M) : w_X1_count (ad (6, r, 0)) M P := g_i h hV rfl rfl hP
theorem r_at (h : zC Fm V ad σ ρ ξ M) {r u j : Nat} (hV : V (6, r, 0)) (hu : σ (4, r, 0) = nI u) (hu2 : u ≤ 20) (hj : j < u) {P : Int32 → zM → Prop} (hP : P (σ (5, r, j)) M) : w_X1_at (ad (6, r, 0)) (nI j) M P := by
  have hV7 : V (7, r, 0) := h.2.2.1 _ hV _ rfl
  refine br_f (nI_pos (by omega)) (g_i h hV rfl rfl ?_)
  rw [hu]
  refine br_f (nI_ge hj (by omega)) (g_r h hV rfl rfl ⟨_, 20, h.1 _ hV7, rfl, br_t (nI_lt (by omega) (by omega)) (g_r h hV rfl rfl ⟨20, _, h.1 _ hV7, vp_in_nI (by omega) (by omega), ?_⟩)⟩)
  rw [nI_clamp (by omega)]
  exact hP
theorem r_add (h : zC Fm V ad σ ρ ξ M) {r u : Nat} {v : Int32} (hV : V (6, r, 0)) (hu : σ (4, r, 0) = nI u) (hu2 : u < 20) {P : zM → Prop} (hP : ∀ M', zC Fm V ad (up (up σ (5, r, u) v) (4, r, 0) (nI (u + 1))) ρ ξ M' → P M') : w_X1_add (ad (6, r, 0)) v M P := by
  have hV7 : V (7, r, 0) := h.2.2.1 _ hV _ rfl
  refine g_i h hV rfl rfl ?_
  rw [hu]
  refine br_f (nI_pos (by omega)) (g_i h hV rfl rfl ?_)
  rw [hu]
  refine g_r h hV rfl rfl ⟨_, 20, h.1 _ hV7, rfl, br_f (nI_ge (by omega) (by omega)) (g_r h hV rfl rfl (g_i h hV rfl rfl ?_))⟩
  rw [hu]
  refine ⟨20, _, h.1 _ hV7, vp_in_nI (by omega) (by omega), ?_⟩
  rw [nI_clamp (by omega)]
  have h1 := h.I (5, r, u) v hV7 (fun e => by cases e)
  have e1 : cell ad (up σ (5, r, u) v) ρ ξ (hI (5, r, u)) = zI 0 20 (upd (fun j => σ (5, r, j)) u v) := by
    have e0 : (fun j => up σ (5, r, u) v (5, r, j)) = upd (fun j => σ (5, r, j)) u v := by
      funext j
      simp only [upd, up, Prod.mk.injEq, true_and]
    show zI 0 20 (fun j => up σ (5, r, u) v (5, r, j)) = _
    rw [e0]
  rw [e1] at h1
  refine g_i h1 hV rfl rfl ?_
  have hu3 : up σ (5, r, u) v (4, r, 0) = nI u := hu
  rw [hu3, nI_1]
  refine p_i h1 (4, r, 0) hV rfl (by simp) ?_ hP
  simp only [cell, hI, up_s, List.set]
theorem r_empty (h : zC Fm V ad σ ρ ξ M) {r : Nat} (hV : V (6, r, 0)) {P : zM → Prop} (hP : ∀ M', zC Fm V ad (up σ (4, r, 0) 0) ρ ξ M' → P M') : w_X1_empty (ad (6, r, 0)) M P := by
  refine p_i h (4, r, 0) hV rfl (by simp) ?_ hP
  simp only [cell, hI, up_s, List.set]
/-- what a Row holds more after n numbers g were added behind u -/
def rAdd (σ : nI2) (r u n : Nat) (g : Nat → Int32) : nI2 := fun w => if w = (4, r, 0) then nI (u + n) else if w.1 = 5 ∧ w.2.1 = r ∧ u ≤ w.2.2 ∧ w.2.2 < u + n then g (w.2.2 - u) else σ w
theorem rAdd_0 {r u : Nat} {g : Nat → Int32} (hu : σ (4, r, 0) = nI u) : rAdd σ r u 0 g = σ := by
  funext w
  unfold rAdd
  by_cases e : w = (4, r, 0)
  · rw [if_pos e, e, hu]; rfl
  · rw [if_neg e, if_neg (by omega)]
theorem rAdd_s {r u n : Nat} {g : Nat → Int32} : up (up (rAdd σ r u n g) (5, r, u + n) (g n)) (4, r, 0) (nI (u + n + 1)) = rAdd σ r u (n + 1) g := by
  funext w
  obtain ⟨a, b, c⟩ := w
  unfold rAdd up
  by_cases e : (a, b, c) = (4, r, 0)
  · rw [if_pos e, if_pos e]; rfl
  · rw [if_neg e, if_neg e]
    by_cases e2 : (a, b, c) = (5, r, u + n)
    · rw [if_pos e2]
      cases e2
      rw [if_pos ⟨rfl, rfl, Nat.le_add_right u n, by show u + n < u + (n + 1); omega⟩]
      show g n = g (u + n - u)
      rw [Nat.add_sub_cancel_left]
    · rw [if_neg e2]
      show (if (a, b, c) = (4, r, 0) then nI (u + n) else if a = 5 ∧ b = r ∧ u ≤ c ∧ c < u + n then g (c - u) else σ (a, b, c)) = if a = 5 ∧ b = r ∧ u ≤ c ∧ c < u + (n + 1) then g (c - u) else σ (a, b, c)
      rw [if_neg e]
      by_cases e3 : a = 5 ∧ b = r ∧ u ≤ c ∧ c < u + n
      · rw [if_pos e3, if_pos (show a = 5 ∧ b = r ∧ u ≤ c ∧ c < u + (n + 1) by omega)]
      · rw [if_neg e3, if_neg]
        rintro ⟨h1, h2, h3, h4⟩
        refine e3 ⟨h1, h2, h3, Nat.lt_of_not_le fun q => e2 ?_⟩
        have : c = u + n := by omega
        rw [h1, h2, this]
theorem r_addAll (h : zC Fm V ad σ ρ ξ M) {r r' u u' : Nat} (hV : V (6, r, 0)) (hV' : V (6, r', 0)) (hrr : r' ≠ r) (hu : σ (4, r, 0) = nI u) (hu' : σ (4, r', 0) = nI u') (hn : u + u' ≤ 20) {P : zM → Prop} (hP : ∀ M', zC Fm V ad (rAdd σ r u u' (fun j => σ (5, r', j))) ρ ξ M' → P M') : w_X1_addAll (ad (6, r, 0)) (ad (6, r', 0)) M P := by
  have key : ∀ n i M, i + n = u' → zC Fm V ad (rAdd σ r u i (fun j => σ (5, r', j))) ρ ξ M → w_X1_addAll_2 (ad (6, r, 0)) (ad (6, r', 0)) P (n + 1) (nI i) M := by
    intro n
    induction n with
    | zero =>
      intro i M hi h
      obtain rfl : i = u' := by omega
      refine ⟨g_is h hV' rfl, r_count h hV' ?_⟩
      have e : rAdd σ r u i (fun j => σ (5, r', j)) (4, r', 0) = nI i := by
        unfold rAdd
        rw [if_neg (fun e => hrr (by cases e; rfl)), if_neg (fun e => by have := e.1; simp at this)]; exact hu'
      rw [e]
      exact br_t (nI_le (Nat.le_refl _) (by omega)) (hP _ h)
    | succ n ih =>
      intro i M hi h
      have e : rAdd σ r u i (fun j => σ (5, r', j)) (4, r', 0) = nI u' := by
        unfold rAdd
        rw [if_neg (fun e => hrr (by cases e; rfl)), if_neg (fun e => by have := e.1; simp at this)]; exact hu'
      have e3 : rAdd σ r u i (fun j => σ (5, r', j)) (4, r, 0) = nI (u + i) := if_pos rfl
      refine ⟨g_is h hV' rfl, r_count h hV' ?_⟩
      rw [e]
      refine br_f (nI_ge (by omega) (by omega)) ⟨g_is h hV' rfl, r_at h hV' e (by omega) (by omega) ⟨g_is h hV rfl, ?_⟩⟩
      refine r_add h hV e3 (by omega) fun M' h' => ?_
      have e4 : rAdd σ r u i (fun j => σ (5, r', j)) (5, r', i) = σ (5, r', i) := by
        unfold rAdd
        rw [if_neg (fun e => by cases e), if_neg (fun e => hrr e.2.1)]
      rw [e4, rAdd_s (g := fun j => σ (5, r', j))] at h'
      have := ih (i + 1) M' (by omega) h'
      rw [nI_succ] at this
      exact this
  refine ⟨u' + 1, ?_⟩
  have := key u' 0 M (by omega) (by rw [rAdd_0 hu]; exact h)
  rw [nI_0] at this
  exact this
