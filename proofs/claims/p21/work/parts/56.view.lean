/-! ===== the pure part: what the answers rest on ===== -/
variable {Fm : zM} {V V' : nm → Prop} {ad ad' : nm → Nat} {σ σ' τ τ' X : nI2} {ρ ρ' π π' : nN2} {ξ ξ' : Nat → zE} {M : zM} {x y w : nm} {n n' c d s i k : Nat} {cnt cnt' : Nat → Nat}
/-- the ints that an answer rests on are the same; the references too -/
def EV (σ' σ : nI2) : Prop := ∀ w : nm, w.1 < 16 → w.1 ≠ 6 → ((w.1 = 4 ∨ w.1 = 5) → 3 ≤ w.2.1) → σ' w = σ w
def ER (ρ' ρ : nN2) : Prop := ∀ w : nm, w.1 = 2 ∨ w.1 = 3 → ρ' w = ρ w
theorem EV.f (E : EV σ' σ) {k i j : Nat} (h : k < 4 ∨ (6 < k ∧ k < 16)) : σ' (k, i, j) = σ (k, i, j) := E _ (by simp only; omega) (by simp only; omega) (fun q => by simp only at q; omega)
theorem EV.g (E : EV σ' σ) {k i j : Nat} (h : k = 4 ∨ k = 5) : σ' (k, 3 + i, j) = σ (k, 3 + i, j) := E _ (by simp only; omega) (by simp only; omega) (fun _ => by simp only; omega)
theorem EV.tr {σ'' : nI2} (E : EV σ'' σ') (F : EV σ' σ) : EV σ'' σ := fun w a b d => (E w a b d).trans (F w a b d)
theorem EQs.v (E : EQs σ' σ) : EV σ' σ := fun w a _ d => E w a d
theorem ev_zz (E : EV σ' σ) (c : Nat) : zz σ' c = zz σ c := by unfold zz; rw [E.f (by omega)]
theorem ev_ln (E : EV σ' σ) (c : Nat) : lnn σ' c = lnn σ c := by unfold lnn; rw [E.g (Or.inl rfl)]
theorem ev_nmd (E : EV σ' σ) (c : Nat) (p : Int32) : nmd σ' c p = nmd σ c p := by
  unfold nmd
  rw [ev_zz E, show (fun j => σ' (8, c, j) == p) = fun j => σ (8, c, j) == p from funext fun j => by rw [E.f (by omega)]]
theorem ev_src (E : EV σ' σ) (c j w : Nat) : srcC σ' c j w = srcC σ c j w := by
  unfold srcC
  rw [ev_nmd E, ev_nmd E, E.f (k := 8) (by omega), E.f (k := 11) (by omega)]
theorem er_rf (R : ER ρ' ρ) (c j : Nat) : rf ρ' c j = rf ρ c j := by unfold rf; rw [R _ (Or.inr rfl)]
theorem ev_canFd (E : EV σ' σ) (R : ER ρ' ρ) (rc : Nat → Nat → Bool) (c w j : Nat) : canFd σ' ρ' rc c w j = canFd σ ρ rc c w j := by
  have k9 : ∀ c j, σ' (9, c, j) = σ (9, c, j) := fun _ _ => E.f (by omega)
  have k10 : ∀ c j, σ' (10, c, j) = σ (10, c, j) := fun _ _ => E.f (by omega)
  have k14 : ∀ c j, σ' (14, c, j) = σ (14, c, j) := fun _ _ => E.f (by omega)
  unfold canFd
  rw [ev_src E]
  simp only [k9, k10, k14, er_rf R]
theorem ev_canF (E : EV σ' σ) (R : ER ρ' ρ) : ∀ f c w, canF σ' ρ' f c w = canF σ ρ f c w := by
  intro f
  induction f with
  | zero => intro c w; rfl
  | succ f ih =>
    intro c w
    unfold canF
    rw [ev_zz E, show canF σ' ρ' f = canF σ ρ f from funext fun a => funext fun b => ih a b, show canFd σ' ρ' (canF σ ρ f) c w = canFd σ ρ (canF σ ρ f) c w from funext fun j => ev_canFd E R _ _ _ _]
theorem ev_can (E : EV σ' σ) (R : ER ρ' ρ) (c w : Nat) : canC σ' ρ' c w = canC σ ρ c w := ev_canF E R _ _ _
theorem ev_pcs (E : EV σ' σ) (R : ER ρ' ρ) (c j : Nat) : pcs σ' ρ' c j = pcs σ ρ c j := by unfold pcs; rw [R _ (Or.inr rfl), ev_ln E, er_rf R]
theorem ev_bgn (E : EV σ' σ) (R : ER ρ' ρ) (c : Nat) : ∀ j, bgn σ' ρ' c j = bgn σ ρ c j := by
  intro j
  induction j with
  | zero => rfl
  | succ j ih =>
    show bgn σ' ρ' c j + pcs σ' ρ' c j = bgn σ ρ c j + pcs σ ρ c j
    rw [ih, ev_pcs E R]
theorem ev_dfl (E : EV σ' σ) (c j : Nat) : dfl σ' c j = dfl σ c j := by unfold dfl; rw [E.f (k := 14) (by omega), E.f (k := 15) (by omega)]
theorem ev_rdFd (E : EV σ' σ) (R : ER ρ' ρ) (g : Nat → Int32) (rc : Nat → Nat → Nat → Option (List Int32)) (c w b j : Nat) : rdFd σ' ρ' g rc c w b j = rdFd σ ρ g rc c w b j := by
  have k9 : ∀ c j, σ' (9, c, j) = σ (9, c, j) := fun _ _ => E.f (by omega)
  have k10 : ∀ c j, σ' (10, c, j) = σ (10, c, j) := fun _ _ => E.f (by omega)
  unfold rdFd
  rw [ev_src E]
  simp only [k9, k10, er_rf R, ev_bgn E R, ev_dfl E]
theorem ev_rdF (E : EV σ' σ) (R : ER ρ' ρ) (g : Nat → Int32) : ∀ f c w b, rdF σ' ρ' g f c w b = rdF σ ρ g f c w b := by
  intro f
  induction f with
  | zero => intro c w b; rfl
  | succ f ih =>
    intro c w b
    unfold rdF
    rw [ev_zz E, show rdF σ' ρ' g f = rdF σ ρ g f from funext fun a => funext fun b => funext fun d => ih a b d, show rdFd σ' ρ' g (rdF σ ρ g f) c w b = rdFd σ ρ g (rdF σ ρ g f) c w b from funext fun j => ev_rdFd E R _ _ _ _ _ _]
theorem ev_likeF (E : EV σ' σ) (c d j : Nat) : likeF σ' c d j = likeF σ c d j := by
  unfold likeF
  rw [E.f (k := 8) (i := c) (by omega), E.f (k := 8) (i := d) (by omega), E.f (k := 9) (i := c) (by omega), E.f (k := 9) (i := d) (by omega), E.f (k := 10) (i := c) (by omega), E.f (k := 10) (i := d) (by omega), E.f (k := 11) (i := c) (by omega), E.f (k := 11) (i := d) (by omega), E.f (k := 12) (i := c) (by omega), E.f (k := 12) (i := d) (by omega), E.f (k := 14) (i := c) (by omega), E.f (k := 14) (i := d) (by omega), E.f (k := 15) (i := c) (by omega), E.f (k := 15) (i := d) (by omega)]
theorem ev_likeS (E : EV σ' σ) (c d : Nat) : likeS σ' c d = likeS σ c d := by
  unfold likeS
  rw [ev_zz E, ev_zz E, show likeF σ' c d = likeF σ c d from funext fun j => ev_likeF E _ _ _]
theorem ev_low (E : EV σ' σ) (R : ER ρ' ρ) (s k c : Nat) : lowS σ' ρ' s k c = lowS σ ρ s k c := by
  unfold lowS
  rw [show (fun v => σ' (2, s, v) == 0 && likeS σ' (ρ' (2, s, v)) c) = fun v => σ (2, s, v) == 0 && likeS σ (ρ (2, s, v)) c from funext fun v => by rw [E.f (k := 2) (by omega), R _ (Or.inl rfl), ev_likeS E]]
theorem ev_num (E : EV σ' σ) (n : Nat) : numS σ' n = numS σ n := by
  unfold numS
  rw [show (fun i => likeS σ' i n) = fun i => likeS σ i n from funext fun i => ev_likeS E _ _]
theorem ev_agr (E : EV σ' σ) (R : ER ρ' ρ) (s c d : Nat) : agr σ' ρ' s c d = agr σ ρ s c d := by
  unfold agr
  rw [E.f (k := 0) (by omega), ev_can E R, ev_can E R]
theorem ev_acc (E : EV σ' σ) (R : ER ρ' ρ) (s c : Nat) : ∀ v, accF σ' ρ' s c v = accF σ ρ s c v := by
  intro v
  induction v with
  | zero => rfl
  | succ v ih =>
    unfold accF
    rw [E.f (k := 2) (by omega), E.f (k := 1) (by omega), R _ (Or.inl rfl), ev_agr E R, ih]
theorem ev_refS (E : EV σ' σ) (c : Nat) (p : Int32) : refS σ' c p = refS σ c p := by
  unfold refS
  rw [ev_zz E, show (fun j => σ' (12, c, j) == p) = fun j => σ (12, c, j) == p from funext fun j => by rw [E.f (by omega)]]
theorem ev_refB (E : EV σ' σ) (R : ER ρ' ρ) (s k : Nat) (p : Int32) : refB σ' ρ' s k p = refB σ ρ s k p := by
  unfold refB
  rw [show (fun v => σ' (2, s, v) != 2 && refS σ' (ρ' (2, s, v)) p) = fun v => σ (2, s, v) != 2 && refS σ (ρ (2, s, v)) p from funext fun v => by rw [E.f (k := 2) (by omega), R _ (Or.inl rfl), ev_refS E]]
theorem ev_isRef (E : EV σ' σ) (R : ER ρ' ρ) (n : Nat) (cnt : Nat → Nat) (p : Int32) : isRef σ' ρ' n cnt p = isRef σ ρ n cnt p := by
  unfold isRef
  rw [ev_refS E, show (fun s => refB σ' ρ' s (cnt s) p) = fun s => refB σ ρ s (cnt s) p from funext fun s => ev_refB E R _ _ _]
theorem ev_cnT (E : EV σ' σ) (cnt : Nat → Nat) (s : Nat) : cnT σ' cnt s = cnT σ cnt s := by
  unfold cnT
  rw [show (fun v => σ' (2, s, v) == 0) = fun v => σ (2, s, v) == 0 from funext fun v => by rw [E.f (by omega)]]
theorem ev_pl (E : EV σ' σ) (c : Nat) : pl σ' c = pl σ c := funext fun i => by unfold pl; rw [E.g (Or.inr rfl)]
/-! the changes keep that -/
theorem EV.up (E : EV σ' σ) (w : nm) (v : Int32) : EV (up σ' w v) (up σ w v) := fun u a b d => by
  by_cases e : u = w
  · rw [e, up_s, up_s]
  · rw [up_n _ _ e, up_n _ _ e]; exact E u a b d
theorem EV.u6 (E : EV σ' σ) {i j : Nat} {v v' : Int32} : EV (Jvm.Pilot.CSchemaSubjectsLaw_law_r9411_888cc3.up σ' (6, i, j) v') (Jvm.Pilot.CSchemaSubjectsLaw_law_r9411_888cc3.up σ (6, i, j) v) := fun u a b d => by
  rw [up_n _ _ (fun e => b (by rw [e])), up_n _ _ (fun e => b (by rw [e]))]; exact E u a b d
theorem ev_emS (E : EV σ' σ) (c : Nat) : EV (emS σ' c) (emS σ c) := by
  unfold emS
  exact ((E.u6).up _ _).up _ _
theorem ev_add (E : EV σ' σ) (r u n : Nat) (g : Nat → Int32) : EV (rAdd σ' r u n g) (rAdd σ r u n g) := fun w a b d => by
  unfold rAdd
  by_cases e : w = (4, r, 0)
  · rw [if_pos e, if_pos e]
  · rw [if_neg e, if_neg e]
    by_cases e2 : w.1 = 5 ∧ w.2.1 = r ∧ u ≤ w.2.2 ∧ w.2.2 < u + n
    · rw [if_pos e2, if_pos e2]
    · rw [if_neg e2, if_neg e2]; exact E w a b d
theorem ev_fK (E : EV σ' σ) (n : Nat) (p0 p1 p2 p3 : Int32) (k : Nat) (g : Nat → Int32) : EV (fK σ' n p0 p1 p2 p3 k g) (fK σ n p0 p1 p2 p3 k g) := by
  unfold fK
  rw [ev_zz E, ev_ln E]
  refine ev_add ?_ _ _ _ _
  unfold f3 f1 f0
  exact (((((((((((((((E.up _ _).up _ _).up _ _).up _ _).up _ _).up _ _).up _ _).up _ _).up _ _).up _ _).up _ _).up _ _).up _ _).up _ _).u6).up _ _
theorem ev_vaI (E : EV σ' σ) (s k : Nat) : EV (vaI σ' s k) (vaI σ s k) := by
  unfold vaI
  exact ((E.up _ _).u6).up _ _
theorem ev_ovI (E : EV σ' σ) (c : Nat) : EV (ovI σ' c) (ovI σ c) := fun w a b d => by
  unfold ovI
  by_cases e : w.1 = 3 ∧ w.2.1 = c
  · rw [if_pos e, if_pos e]
  · rw [if_neg e, if_neg e]
    by_cases e2 : ((w.1 = 4 ∨ w.1 = 5) ∧ w.2.1 = 3 + c) ∨ ((w.1 = 6 ∨ w.1 = 7) ∧ w.2.1 = 8 + c)
    · rw [if_pos e2, if_pos e2]
    · rw [if_neg e2, if_neg e2]; exact E w a b d
theorem ev_tkI (E : EV σ' σ) (n : Nat) : EV (tkI σ' n) (tkI σ n) := by
  unfold tkI tk0
  exact ev_ovI (((E.up _ _).u6).up _ _) _
theorem ER.up (R : ER ρ' ρ) (w : nm) (v : Nat) : ER (Jvm.Pilot.CSchemaSubjectsLaw_law_r9411_888cc3.up ρ' w v) (Jvm.Pilot.CSchemaSubjectsLaw_law_r9411_888cc3.up ρ w v) := fun u a => by
  by_cases e : u = w
  · rw [e, up_s, up_s]
  · rw [up_n _ _ e, up_n _ _ e]; exact R u a
