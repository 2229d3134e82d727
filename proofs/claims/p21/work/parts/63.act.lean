/-! ===== the pure part: what happens by a cell ===== -/
variable {M M' : zM} {n c d s i k a a1 a2 b L : Nat} {xs : Nat → Int32} {p q p' q' : Int32} {S S1 S2 : St} {D D1 D2 : Nat → Prop} {P : Int32 → zM → Prop} {PX : Nat → zM → Prop} {l : List Int32}
/-- what throws changes nothing -/
def Ths (f : St → Int32 × St) : Prop := ∀ S, Vd S → (f S).1 = -99999 → (f S).2 = S
def Exf (C : Nat → zM → (Int32 → zM → Prop) → Prop) : Prop := ∃ f, Okf C f ∧ Ths f
theorem nI_9 (h : n < 2 ^ 31) : nI n ≠ -99999 := fun e => absurd (show nI n < 0 by rw [e]; decide) (nI_pos h)
noncomputable def cif {α : Type} (c : Prop) (x y : α) : α := @ite _ c (Classical.propDecidable c) x y
theorem cif_t {α : Type} {c : Prop} {x y : α} (h : c) : cif c x y = x := if_pos h
theorem cif_f {α : Type} {c : Prop} {x y : α} (h : ¬ c) : cif c x y = y := if_neg h
theorem vd_c6 (h : Vd S) : ∀ s, s < 6 → S.2.1 s ≤ 6 := by
  obtain ⟨σ, ρ, G, -⟩ := h
  exact G.c6
theorem vd_z5 (h : Vd S) : zz S.2.2.1 S.1 ≤ 5 := by
  obtain ⟨σ, ρ, G, E, -⟩ := h
  rw [← ev_zz E]
  exact (G.1.2.2.1 S.1 (Nat.le_refl _)).1.1.2
theorem ex_read (p p' : Int32) : Exf (fun a M P => w_L_reads_2 a p p' M P) := by
  refine ⟨_, ok_read p p', fun S hS h => ?_⟩
  cases e : sv S.2.1 S.2.2.1 (p / 6) (p - p / 6 * 6) with
  | none => simp only [fRd, e]
  | some z =>
    cases e' : sv S.2.1 S.2.2.1 (p' / 6) (p' - p' / 6 * 6) with
    | none => simp only [fRd, e, e']
    | some t =>
      by_cases hr : rcL S.2.2.1 S.2.2.2.2 (S.2.2.2.1 (2, t.1, t.2)) = true
      · cases hd : rdF S.2.2.1 S.2.2.2.1 (fun j => S.2.2.2.2.getD j 0) 45 (S.2.2.2.1 (2, z.1, z.2)) (S.2.2.2.1 (2, t.1, t.2)) 0 with
        | none => simp only [fRd, e, e', if_pos hr, hd]
        | some l =>
          simp only [fRd, e, e', if_pos hr, hd] at h
          have l1 := (vd_lt hS e).1
          have l2 := (vd_lt hS e').1
          have h3 := (vd_lt hS e).2.2.2
          have := (vd_read hS l1 l2 hr hd).1
          exact absurd h (nI_9 (by omega))
      · simp only [fRd, e, e', if_neg hr]
theorem ex_clear : Exf (fun a M P => zIs M a 6 ∧ w_X5_clear a M P) := ⟨_, ok_clear, fun S hS h => by
  obtain ⟨σ, ρ, G, E, R, l20⟩ := hS
  exact absurd h (nI_9 (by omega))⟩
theorem ex_discard : Exf (fun a M P => zIs M a 6 ∧ w_X5_discard a M P) := ⟨_, ok_discard, fun S hS h => absurd h (nI_9 (by have := vd_z5 hS; omega))⟩
theorem ex_pure (v : Int32) : Exf (fun _ M P => P v M) := ⟨fun S => (v, S), fun a S D M P h hP => hP M D Kp.rf h, fun _ _ _ => rfl⟩
theorem ex_value (p q : Int32) : Exf (fun a M P => w_L_does a 9 p q M P) := by
  refine ⟨fun S => if S.2.2.2.2.length < 20 then (nI (S.2.2.2.2.length + 1), stL S (S.2.2.2.2 ++ [p])) else (-99999, S), fun a S D M P h hP => ?_, fun S hS h => ?_⟩
  · refine ⟨fun _ => ⟨fun _ => ⟨fun _ => ⟨fun _ => ⟨fun _ => ⟨fun _ => ⟨fun _ => ⟨fun q => absurd rfl q, fun _ => ?_⟩, fun q => absurd q (by decide)⟩, fun q => absurd q (by decide)⟩, fun q => absurd (show (7 : Int32) ≤ 9 by decide) q⟩, fun q => absurd (show (5 : Int32) ≤ 9 by decide) q⟩, fun q => absurd q (by decide)⟩, fun q => absurd q (by decide)⟩, fun q => absurd q (by decide)⟩
    refine r_value h (fun hl M' D' K c' => ?_) (fun hl k hk => ?_)
    · have hP := hP M' D' K
      simp only [if_pos hl] at hP
      exact hP c'
    · have hP := hP M D Kp.rf
      simp only [if_neg (show ¬ S.2.2.2.2.length < 20 by omega)] at hP
      exact ex_k hk (hP h)
  · by_cases hl : S.2.2.2.2.length < 20
    · simp only [if_pos hl] at h
      exact absurd h (nI_9 (by omega))
    · simp only [if_neg hl]
theorem ex_def (p q : Int32) : Exf (fun a M P => w_L_does a 0 p q M P) := by
  refine ⟨fun S => cif (∃ j, zz S.2.2.1 S.1 = j + 1 ∧ ¬ S.2.2.1 (9, S.1, j) = 4 ∧ ofS p (S.2.2.1 (10, S.1, j)) = true) (S.2.2.1 (8, S.1, zz S.2.2.1 S.1 - 1), stI S (up (up S.2.2.1 (14, S.1, zz S.2.2.1 S.1 - 1) 1) (15, S.1, zz S.2.2.1 S.1 - 1) p)) (-99999, S), fun a S D M P h hP => ?_, fun S hS h => ?_⟩
  · refine ⟨fun q => absurd rfl q, fun _ => ?_⟩
    refine r_byDefault h (fun j hj h4 ho M' D' K c' => ?_) (fun bad k hk => ?_)
    · have hP := hP M' D' K
      have hc : ∃ j, zz S.2.2.1 S.1 = j + 1 ∧ ¬ S.2.2.1 (9, S.1, j) = 4 ∧ ofS p (S.2.2.1 (10, S.1, j)) = true := ⟨j, hj, h4, ho⟩
      simp only [cif_t hc, show zz S.2.2.1 S.1 - 1 = j by omega] at hP
      exact hP c'
    · have hP := hP M D Kp.rf
      have hc : ¬ ∃ j, zz S.2.2.1 S.1 = j + 1 ∧ ¬ S.2.2.1 (9, S.1, j) = 4 ∧ ofS p (S.2.2.1 (10, S.1, j)) = true := fun ⟨j, hj, h4, ho⟩ => by rw [bad j hj h4] at ho; cases ho
      simp only [cif_f hc] at hP
      exact ex_k hk (hP h)
  · by_cases hc : ∃ j, zz S.2.2.1 S.1 = j + 1 ∧ ¬ S.2.2.1 (9, S.1, j) = 4 ∧ ofS p (S.2.2.1 (10, S.1, j)) = true
    · simp only [cif_t hc] at h
      obtain ⟨σ, ρ, G, E, R, l20⟩ := hS
      obtain ⟨j, hj, -⟩ := hc
      rw [← ev_zz E] at hj
      obtain ⟨x1, x2⟩ := G.2 S.1 (Nat.le_refl _)
      obtain ⟨-, -, -, t, ht, et⟩ := x2 j (by omega)
      rw [← ev_zz E, ← E.f (by omega), show zz σ S.1 - 1 = j by omega, et] at h
      exact absurd h (nI_9 (by omega))
    · simp only [cif_f hc]
theorem ex_mode {how : Int32} (hh : how = 3 ∨ how = 4) (p md : Int32) : Exf (fun a M P => w_L_does a how p md M P) := by
  obtain ⟨al, ha, hal⟩ : ∃ al : Int32, (al = 0 ∨ al = 1) ∧ ∀ a M P, (zIs M a 6 ∧ w_X5_setMode a p md al M P (fun k M3 => (k = 1 → P (-99999) M3) ∧ (k = 2 → P (-99999) M3) ∧ (k = 3 → P (-99999) M3) ∧ (k = 1 ∨ k = 2 ∨ k = 3))) → w_L_does a how p md M P := by
    rcases hh with rfl | rfl
    · exact ⟨0, Or.inl rfl, fun a M P h => ⟨fun _ => ⟨fun _ => ⟨fun _ => ⟨fun q => absurd q (by decide), fun _ => ⟨fun _ => h, fun q => absurd q (by decide)⟩⟩, fun q => absurd q (by decide)⟩, fun q => absurd q (by decide)⟩, fun q => absurd q (by decide)⟩⟩
    · exact ⟨1, Or.inr rfl, fun a M P h => ⟨fun _ => ⟨fun _ => ⟨fun _ => ⟨fun q => absurd q (by decide), fun _ => ⟨fun q => absurd rfl q, fun _ => h⟩⟩, fun q => absurd q (by decide)⟩, fun q => absurd q (by decide)⟩, fun q => absurd q (by decide)⟩⟩
  refine ⟨fun S => match sub p with
    | none => (-99999, S)
    | some s => cif (∃ k, k < 4 ∧ md = nI k) (S.2.2.1 (0, s, 0), stI S (up (up S.2.2.1 (0, s, 0) md) (1, s, 0) al)) (-99999, S), fun a S D M P h hP => hal a M P ?_, fun S hS h => ?_⟩
  · refine r_setMode h ha (fun s k e hk hm M' D' K c' => ?_) (fun bad k hk => ?_)
    · have hP := hP M' D' K
      rw [e] at hP
      simp only [cif_t (show ∃ k, k < 4 ∧ md = nI k from ⟨k, hk, hm⟩)] at hP
      exact hP c'
    · have hP := hP M D Kp.rf
      cases e : sub p with
      | none => rw [e] at hP; exact ex_k hk (hP h)
      | some s =>
        rw [e] at hP
        rcases bad with q | q
        · rw [e] at q; cases q
        · simp only [cif_f (show ¬ ∃ k, k < 4 ∧ md = nI k from fun ⟨k, h1, h2⟩ => q k h1 h2)] at hP
          exact ex_k hk (hP h)
  · cases e : sub p with
    | none => rfl
    | some s =>
      rw [e] at h
      simp only [] at h ⊢
      by_cases hc : ∃ k, k < 4 ∧ md = nI k
      · rw [cif_t hc] at h
        exfalso
        obtain ⟨σ, ρ, G, E, R, l20⟩ := hS
        have hm := (G.1.wm s (sub_is e).1).1
        simp only [] at h
        rw [← E.f (by omega)] at h
        rw [h] at hm
        exact absurd hm (by decide)
      · rw [cif_f hc]
theorem cnT_le (σ : nI2) (cnt : Nat → Nat) (s : Nat) : cnT σ cnt s ≤ cnt s := by
  have : ∀ k i, cntR (fun v => σ (2, s, v) == 0) k i ≤ k := by
    intro k
    induction k with
    | zero => intro i; exact Nat.le_refl _
    | succ k ih =>
      intro i
      unfold cntR
      have := ih (i + 1)
      split <;> omega
  exact this _ _
theorem ex_delete {how : Int32} (hh : how = 5 ∨ how = 6) (p q : Int32) : Exf (fun a M P => w_L_does a how p q M P) := by
  obtain ⟨al, hal⟩ : ∃ al : Int32, ∀ a M P, (zIs M a 6 ∧ w_X5_delete a p q al M P (fun k M3 => (k = 1 → P (-99999) M3) ∧ (k = 2 → P (-99999) M3) ∧ (k = 3 → P (-99999) M3) ∧ (k = 1 ∨ k = 2 ∨ k = 3))) → w_L_does a how p q M P := by
    rcases hh with rfl | rfl
    · exact ⟨0, fun a M P h => ⟨fun _ => ⟨fun _ => ⟨fun _ => ⟨fun _ => ⟨fun q => absurd q (by decide), fun _ => ⟨fun _ => h, fun q => absurd q (by decide)⟩⟩, fun q => absurd (show (5 : Int32) ≤ 5 by decide) q⟩, fun q => absurd q (by decide)⟩, fun q => absurd q (by decide)⟩, fun q => absurd q (by decide)⟩⟩
    · exact ⟨1, fun a M P h => ⟨fun _ => ⟨fun _ => ⟨fun _ => ⟨fun _ => ⟨fun q => absurd q (by decide), fun _ => ⟨fun q => absurd rfl q, fun _ => h⟩⟩, fun q => absurd (show (5 : Int32) ≤ 6 by decide) q⟩, fun q => absurd q (by decide)⟩, fun q => absurd q (by decide)⟩, fun q => absurd q (by decide)⟩⟩
  refine ⟨fun S => match sv S.2.1 S.2.2.1 p q with
    | none => (-99999, S)
    | some z => cif (okD S.2.2.1 S.2.2.2.1 S.1 S.2.1 z.1 z.2 al) (nI (cnT (up S.2.2.1 (2, z.1, z.2) (dlS al)) S.2.1 z.1), stI S (up S.2.2.1 (2, z.1, z.2) (dlS al))) (-99999, S), fun a S D M P h hP => hal a M P ?_, fun S hS h => ?_⟩
  · refine r_delete h (fun z e ok M' D' K c' => ?_) (fun e k hk => ?_) (fun z e no k hk => ?_)
    · have hP := hP M' D' K
      simp only [e, cif_t ok] at hP
      exact hP c'
    · have hP := hP M D Kp.rf
      simp only [e] at hP
      exact ex_k hk (hP h)
    · have hP := hP M D Kp.rf
      simp only [e, cif_f no] at hP
      exact ex_k hk (hP h)
  · cases e : sv S.2.1 S.2.2.1 p q with
    | none => simp only [e]
    | some z =>
      by_cases hc : okD S.2.2.1 S.2.2.2.1 S.1 S.2.1 z.1 z.2 al
      · simp only [e, cif_t hc] at h
        have h1 := cnT_le (up S.2.2.1 (2, z.1, z.2) (dlS al)) S.2.1 z.1
        have h2 := vd_c6 hS z.1 (sv_is e).1.1
        exact absurd h (nI_9 (by omega))
      · simp only [e, cif_f hc]
theorem FX.uni {cnt : Nat → Nat} {σ : nI2} {ρ : nN2} {p1 p2 : Int32} {k k' x x' : Nat} {g g' : Nat → Int32} (hc6 : ∀ s, s < 6 → cnt s ≤ 6) (h : FX cnt σ ρ p1 p2 x k g) (h' : FX cnt σ ρ p1 p2 x' k' g') : (x', k', g') = (x, k, g) := by
  rcases h with ⟨a1, a2, a3, a4⟩ | ⟨a1, s, v, a2, a3, a4, a5⟩
  · rcases h' with ⟨b1, b2, b3, b4⟩ | ⟨b1, -⟩
    · rw [a2, a3, a4, b2, b3, b4]
    · exact absurd b1 a1
  · rcases h' with ⟨b1, -⟩ | ⟨b1, s', v', b2, b3, b4, b5⟩
    · exact absurd a1 b1
    · obtain ⟨rfl, rfl⟩ := a2.uni hc6 b2
      rw [a3, a4, a5, b3, b4, b5]
theorem FX.mor {cnt : Nat → Nat} {σ : nI2} {ρ : nN2} {p1 p2 : Int32} {k x : Nat} {g : Nat → Int32} (h : FX cnt σ ρ p1 p2 x k g) : Mor cnt σ ρ p1 p2 k := by
  rcases h with ⟨a1, a2, a3, a4⟩ | ⟨a1, s, v, a2, a3, a4, a5⟩
  · exact Or.inl ⟨a1, a3⟩
  · exact Or.inr ⟨a1, s, v, a2, a4⟩
theorem ex_field (p0 p1 p2 p3 : Int32) : Exf (fun a M P => w_L_field a p0 p1 p2 p3 M P) := by
  have key : ∀ S : St, Vd S → ∀ k x g, OKa p0 p1 p2 p3 → FX S.2.1 S.2.2.1 S.2.2.2.1 p1 p2 x k g → ¬ Ful S.2.2.1 S.1 p0 k → Classical.epsilon (fun t : Nat × Nat × (Nat → Int32) => FX S.2.1 S.2.2.1 S.2.2.2.1 p1 p2 t.1 t.2.1 t.2.2) = (x, k, g) := fun S hS k x g ok hfx nf => by
    have := Classical.epsilon_spec (p := fun t : Nat × Nat × (Nat → Int32) => FX S.2.1 S.2.2.1 S.2.2.2.1 p1 p2 t.1 t.2.1 t.2.2) ⟨(x, k, g), hfx⟩
    exact FX.uni (vd_c6 hS) hfx this
  refine ⟨fun S => cif (∃ t : Nat × Nat × (Nat → Int32), OKa p0 p1 p2 p3 ∧ FX S.2.1 S.2.2.1 S.2.2.2.1 p1 p2 t.1 t.2.1 t.2.2 ∧ ¬ Ful S.2.2.1 S.1 p0 t.2.1) (nI (zz S.2.2.1 S.1 + 1), (S.1, S.2.1, fK S.2.2.1 S.1 p0 p1 p2 p3 (Classical.epsilon (fun t : Nat × Nat × (Nat → Int32) => FX S.2.1 S.2.2.1 S.2.2.2.1 p1 p2 t.1 t.2.1 t.2.2)).2.1 (Classical.epsilon (fun t : Nat × Nat × (Nat → Int32) => FX S.2.1 S.2.2.1 S.2.2.2.1 p1 p2 t.1 t.2.1 t.2.2)).2.2, up S.2.2.2.1 (3, S.1, zz S.2.2.1 S.1) (Classical.epsilon (fun t : Nat × Nat × (Nat → Int32) => FX S.2.1 S.2.2.1 S.2.2.2.1 p1 p2 t.1 t.2.1 t.2.2)).1, S.2.2.2.2)) (-99999, S), fun a S D M P h hP => ?_, fun S hS h => ?_⟩
  · refine r_field h (fun k x g ok hm hfx nf M' D' K c' => ?_) (fun bad k hk => ?_)
    · have hP := hP M' D' K
      have hc : ∃ t : Nat × Nat × (Nat → Int32), OKa p0 p1 p2 p3 ∧ FX S.2.1 S.2.2.1 S.2.2.2.1 p1 p2 t.1 t.2.1 t.2.2 ∧ ¬ Ful S.2.2.1 S.1 p0 t.2.1 := ⟨(x, k, g), ok, hfx, nf⟩
      simp only [cif_t hc, key S h.vd k x g ok hfx nf] at hP
      exact hP c'
    · have hP := hP M D Kp.rf
      have hc : ¬ ∃ t : Nat × Nat × (Nat → Int32), OKa p0 p1 p2 p3 ∧ FX S.2.1 S.2.2.1 S.2.2.2.1 p1 p2 t.1 t.2.1 t.2.2 ∧ ¬ Ful S.2.2.1 S.1 p0 t.2.1 := fun ⟨t, ok, hfx, nf⟩ => by
        rcases bad with q | ⟨q1, q2⟩ | ⟨k', q1, q2⟩
        · exact q ok
        · exact hfx.mor.ref q1 q2
        · rw [hfx.mor.uni (vd_c6 h.vd) q1] at q2
          exact nf q2
      simp only [cif_f hc] at hP
      exact ex_k hk (hP h)
  · by_cases hc : ∃ t : Nat × Nat × (Nat → Int32), OKa p0 p1 p2 p3 ∧ FX S.2.1 S.2.2.1 S.2.2.2.1 p1 p2 t.1 t.2.1 t.2.2 ∧ ¬ Ful S.2.2.1 S.1 p0 t.2.1
    · simp only [cif_t hc] at h
      exact absurd h (nI_9 (by have := vd_z5 hS; omega))
    · simp only [cif_f hc]
noncomputable def fRg (S : St) (p : Int32) : Int32 × St := match sub p with
  | none => (-99999, S)
  | some s => if zz S.2.2.1 S.1 = 0 then (-99999, S) else match lowS S.2.2.1 S.2.2.2.1 s (S.2.1 s) S.1 with
    | some v => (nI v, stI S (emS S.2.2.1 S.1))
    | none => if S.2.1 s = 6 then (-99999, S) else if accF S.2.2.1 S.2.2.2.1 s S.1 (S.2.1 s) = false then (-99999, S) else match numS S.2.2.1 S.1 with
      | some i => (nI (S.2.1 s), (S.1, uc S.2.1 s, vaI (emS S.2.2.1 S.1) s (S.2.1 s), up S.2.2.2.1 (2, s, S.2.1 s) i, S.2.2.2.2))
      | none => (nI (S.2.1 s), (S.1 + 1, uc S.2.1 s, vaI (tkI S.2.2.1 S.1) s (S.2.1 s), up S.2.2.2.1 (2, s, S.2.1 s) S.1, S.2.2.2.2))
theorem ex_register (p q : Int32) : Exf (fun a M P => w_L_does a 2 p q M P) := by
  refine ⟨fun S => fRg S p, fun a S D M P h hP => ?_, fun S hS h => ?_⟩
  · refine ⟨fun _ => ⟨fun _ => ⟨fun q => absurd rfl q, fun _ => ?_⟩, fun q => absurd q (by decide)⟩, fun q => absurd q (by decide)⟩
    refine r_register h (fun s v e hz el M' D' K c' => ?_) (fun bad k hk => ?_) (fun s i e hz el k6 ac ei M' D' K c' => ?_) (fun s e hz el k6 ac ei M' D' K c' => ?_)
    · have hP := hP M' D' K
      simp only [fRg, e, if_neg hz, el] at hP
      exact hP c'
    · have hP := hP M D Kp.rf
      refine ex_k hk ?_
      rcases bad with e | ⟨s, e, q | ⟨el, q | q⟩⟩
      · simp only [fRg, e] at hP; exact hP h
      · simp only [fRg, e, if_pos q] at hP; exact hP h
      · by_cases hz : zz S.2.2.1 S.1 = 0
        · simp only [fRg, e, if_pos hz] at hP; exact hP h
        · simp only [fRg, e, if_neg hz, el, if_pos q] at hP; exact hP h
      · by_cases hz : zz S.2.2.1 S.1 = 0
        · simp only [fRg, e, if_pos hz] at hP; exact hP h
        · by_cases h6 : S.2.1 s = 6
          · simp only [fRg, e, if_neg hz, el, if_pos h6] at hP; exact hP h
          · simp only [fRg, e, if_neg hz, el, if_neg h6, if_pos q] at hP; exact hP h
    · have hP := hP M' D' K
      simp only [fRg, e, if_neg hz, el, if_neg (show ¬ S.2.1 s = 6 by omega), if_neg (show ¬ accF S.2.2.1 S.2.2.2.1 s S.1 (S.2.1 s) = false by rw [ac]; decide), ei] at hP
      exact hP c'
    · have hP := hP M' D' K
      simp only [fRg, e, if_neg hz, el, if_neg (show ¬ S.2.1 s = 6 by omega), if_neg (show ¬ accF S.2.2.1 S.2.2.2.1 s S.1 (S.2.1 s) = false by rw [ac]; decide), ei] at hP
      exact hP c'
  · cases e : sub p with
    | none => simp only [fRg, e]
    | some s =>
      have h6 := vd_c6 hS s (sub_is e).1
      by_cases hz : zz S.2.2.1 S.1 = 0
      · simp only [fRg, e, if_pos hz]
      · cases el : lowS S.2.2.1 S.2.2.2.1 s (S.2.1 s) S.1 with
        | some v =>
          simp only [fRg, e, if_neg hz, el] at h
          have := lk_some _ _ _ el
          exact absurd h (nI_9 (by omega))
        | none =>
          by_cases k6 : S.2.1 s = 6
          · simp only [fRg, e, if_neg hz, el, if_pos k6]
          · by_cases ac : accF S.2.2.1 S.2.2.2.1 s S.1 (S.2.1 s) = false
            · simp only [fRg, e, if_neg hz, el, if_neg k6, if_pos ac]
            · cases ei : numS S.2.2.1 S.1 with
              | some i =>
                simp only [fRg, e, if_neg hz, el, if_neg k6, if_neg ac, ei] at h
                exact absurd h (nI_9 (by omega))
              | none =>
                simp only [fRg, e, if_neg hz, el, if_neg k6, if_neg ac, ei] at h
                exact absurd h (nI_9 (by omega))
/-! the choice by the cell -/
theorem ex_c {c : Prop} {C1 C2 : Nat → zM → (Int32 → zM → Prop) → Prop} (h1 : c → Exf C1) (h2 : ¬ c → Exf C2) : Exf (fun a M P => (c → C1 a M P) ∧ (¬ c → C2 a M P)) := by
  by_cases hc : c
  · obtain ⟨f, h, t⟩ := h1 hc
    exact ⟨f, fun a S D M P k hP => ⟨fun _ => h a S D M P k hP, fun q => absurd hc q⟩, t⟩
  · obtain ⟨f, h, t⟩ := h2 hc
    exact ⟨f, fun a S D M P k hP => ⟨fun q => absurd q hc, fun _ => h a S D M P k hP⟩, t⟩
theorem ex_d {c : Prop} {C1 C2 : Nat → zM → (Int32 → zM → Prop) → Prop} (h2 : ¬ c → Exf C2) (h1 : c → Exf C1) : Exf (fun a M P => (¬ c → C2 a M P) ∧ (c → C1 a M P)) := by
  by_cases hc : c
  · obtain ⟨f, h, t⟩ := h1 hc
    exact ⟨f, fun a S D M P k hP => ⟨fun q => absurd hc q, fun _ => h a S D M P k hP⟩, t⟩
  · obtain ⟨f, h, t⟩ := h2 hc
    exact ⟨f, fun a S D M P k hP => ⟨fun _ => h a S D M P k hP, fun q => absurd q hc⟩, t⟩
theorem ex_low {x m : Int32} {C : Int32 → Nat → zM → (Int32 → zM → Prop) → Prop} (hm : ¬ m = 0) (h : ∀ v, Exf (C v)) : Exf (fun a M P => w_L_low x m M (fun v M' => C v a M' P)) := by
  obtain ⟨f, h, t⟩ := h ((x &&& (2147483647 : Int32)) - (x &&& (2147483647 : Int32)) / m * m)
  exact ⟨f, fun a S D M P k hP => ⟨hm, h a S D M P k hP⟩, t⟩
theorem ex_207 (p1 p2 x3 y0 y1 y2 : Int32) : Exf (fun a M P => w_L_act_207 a p1 p2 P x3 y0 y1 y2 a M) := by
  refine ex_c (fun _ => ex_d (fun _ => ex_low (by decide) fun v => ex_field _ _ _ _) (fun _ => ex_field _ _ _ _)) (fun _ => ex_low (by decide) fun v => ex_field _ _ _ _)
theorem ex_148 (p1 p2 x3 x7 y0 : Int32) : Exf (fun a M P => w_L_act_148 a p1 p2 P x3 x7 y0 a M) := by
  refine ex_d (fun _ => ex_c (fun _ => ex_low (by decide) fun v => ex_207 _ _ _ _ _ _) (fun _ => ex_low (by decide) fun v => ex_207 _ _ _ _ _ _)) (fun _ => ex_low (by decide) fun v => ex_low (by decide) fun u => ex_207 _ _ _ _ _ _)
theorem ex_119 (p1 p2 x3 y0 : Int32) : Exf (fun a M P => w_L_act_119 a p1 p2 P x3 y0 M) := by
  refine ex_c (fun _ => ex_low (by decide) fun v => ex_148 _ _ _ _ _) (fun _ => ex_low (by decide) fun v => ex_148 _ _ _ _ _)
theorem ex_334 (p1 p2 x3 x5 : Int32) {y0 : Int32} (h : y0 = 3 ∨ y0 = 4) : Exf (fun a M P => w_L_act_334 a p1 p2 P x3 x5 y0 a M) := by
  refine ex_c (fun _ => ex_low (by decide) fun v => ex_mode h _ _) (fun _ => ex_low (by decide) fun v => ex_mode h _ _)
theorem ex_81 (p1 p2 x3 x4 x5 y0 : Int32) : Exf (fun a M P => w_L_act_81 a p1 p2 P x3 x4 x5 y0 M) := by
  refine ex_c (fun _ => ex_c (fun _ => ex_c (fun _ => ex_c (fun _ => ex_c (fun _ => ex_d (fun _ => ex_c (fun _ => ex_low (by decide) fun v => ex_low (by decide) fun u => ex_read _ _) (fun _ => ex_low (by decide) fun v => ex_low (by decide) fun u => ex_read _ _)) (fun _ => ex_d (fun _ => ex_clear) (fun _ => ex_discard))) (fun _ => ex_c (fun _ => ex_low (by decide) fun v => ex_value _ _) (fun _ => ex_value _ _))) (fun _ => ex_c (fun _ => ex_d (fun _ => ex_delete (Or.inr rfl) _ _) (fun _ => ex_delete (Or.inl rfl) _ _)) (fun _ => ex_d (fun _ => ex_334 _ _ _ _ (Or.inr rfl)) (fun _ => ex_334 _ _ _ _ (Or.inl rfl))))) (fun _ => ex_c (fun _ => ex_pure _) (fun _ => ex_register _ _))) (fun _ => ex_c (fun _ => ex_low (by decide) fun v => ex_def _ _) (fun _ => ex_def _ _))) (fun _ => ex_c (fun _ => ex_low (by decide) fun v => ex_119 _ _ _ _) (fun _ => ex_low (by decide) fun v => ex_119 _ _ _ _))
theorem ex_52 (p1 p2 x3 x4 y0 : Int32) : Exf (fun a M P => w_L_act_52 a p1 p2 P x3 x4 y0 M) := by
  refine ex_c (fun _ => ex_low (by decide) fun v => ex_81 _ _ _ _ _ _) (fun _ => ex_low (by decide) fun v => ex_81 _ _ _ _ _ _)
theorem ex_17 (p1 p2 y0 : Int32) : Exf (fun a M P => w_L_act_17 a p1 p2 P y0 M) := by
  refine ex_low (by decide) fun v => ex_c (fun _ => ex_low (by decide) fun u => ex_52 _ _ _ _ _) (fun _ => ex_low (by decide) fun u => ex_52 _ _ _ _ _)
theorem ex_act (p1 p2 : Int32) : Exf (fun a M P => w_L_act a p1 p2 M P) := by
  refine ex_low (by decide) fun v => ex_d (fun _ => ex_17 _ _ _) (fun _ => ex_17 _ _ _)
