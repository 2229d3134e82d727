/-! ===== the pure part: the law's start and its loop ===== -/
variable {V V' : nm → Prop} {ad ad' : nm → Nat} {σ σ' τ τ' X S : nI2} {ρ ρ' π π' : nN2} {ξ ξ' : Nat → zE} {M : zM} {x y w : nm} {n n' c d s i k b x1 x2 x3 L : Nat} {cnt cnt' : Nat → Nat} {xs : Nat → Int32} {K : zM → Prop}
theorem All.start (hS : Sb0 σ ρ) (hL : Ls σ ρ 0 6) : All 0 (fun _ => 0) σ ρ := by
  have sz : ∀ w, w ≠ (6, 0, 0) → w ≠ (7, 0, 0) → w ≠ (3, 0, 0) → σ w = 0 := fun w w1 w2 w3 => (hS.1 w w1 w2).trans (s00_0 w3)
  have rz : ∀ w : nm, ((w.1 ≠ 4 ∧ w.1 ≠ 5) ∨ w.2.1 ≠ 0) → w ≠ (1, 1, 0) → ρ w = 0 := fun w w1 w2 => (hS.2 w w1).trans (r00_0 w2)
  have z : ∀ k i j, (k ≠ 6 ∧ k ≠ 7 ∧ k ≠ 3) ∨ (i ≠ 0 ∧ k ≠ 3) → σ (k, i, j) = 0 := fun k i j h => sz _ (fun e => by cases e; omega) (fun e => by cases e; omega) (fun e => by cases e; omega)
  have r : ∀ k i j, i ≠ 0 → k ≠ 1 → ρ (k, i, j) = 0 := fun k i j h h1 => rz _ (Or.inr h) (fun e => h1 (by cases e; rfl))
  have l0 : ∀ l, l ≠ 0 → Ls σ ρ l 0 := fun l hl => ⟨z _ _ _ (by omega), fun j => ⟨fun q => absurd (r _ _ _ hl (by omega)) q, fun q => absurd q (by omega)⟩, by omega, by rw [r _ _ _ hl (by omega)]; omega⟩
  have em : Em σ ρ 0 := ⟨z _ _ _ (by omega), fun j => r _ _ _ (by omega) (by omega), by rw [r _ _ _ (by omega) (by omega)]; omega, z _ _ _ (by omega)⟩
  refine ⟨⟨⟨hL, l0 1 (by omega), by omega, rz _ (Or.inl (by simp)) (fun e => by cases e)⟩, fun s hs => ⟨l0 _ (by omega), Nat.zero_le _, fun v hv => (Nat.not_lt_zero v hv).elim⟩, fun c hc => ?_, fun c hc => absurd hc (by omega), fun s hs => ⟨Or.inl (z _ _ _ (by omega)), Or.inl (z _ _ _ (by omega))⟩, fun c hc => absurd hc (by omega), Nat.zero_le _⟩, Rel.mk (z _ _ _ (by omega)) (fun c hc => ?_) (fun s hs => ⟨z _ _ _ (by omega), fun v hv => (Nat.not_lt_zero v hv).elim, fun v _ _ => z _ _ _ (by omega), ?_, ?_⟩), fun j hj => Or.inl (z _ _ _ (by omega)), 0, 1, 0, rz _ (Or.inl (by simp)) (fun e => by cases e), (hS.2 _ (Or.inl (by simp))).trans rfl, by omega, by omega, by omega, by omega, z _ _ _ (by omega), z _ _ _ (by omega), fun j hj => absurd hj (by omega)⟩
  · obtain rfl : c = 0 := by omega
    exact em.c0
  · obtain rfl : c = 0 := by omega
    exact RC.em em (z _ _ _ (by omega)) (z _ _ _ (by omega))
  · rw [z _ _ _ (by omega), z _ _ _ (by omega)]
  · rw [z _ _ _ (by omega), z _ _ _ (by omega)]
theorem lt_end {i L : Nat} (hL : L ≤ 2560) (hi : i < 2 ^ 31) (h : L < i + 5) : nI L - (5 : Int32) < nI i := by
  by_cases e : 5 ≤ L
  · have : nI L - nI 5 = nI (L - 5) := pk_sub e
    have e5 : nI 5 = (5 : Int32) := rfl
    rw [e5] at this
    rw [this]
    exact nI_lt (by omega) hi
  · have q : L = 0 ∨ L = 1 ∨ L = 2 ∨ L = 3 ∨ L = 4 := by omega
    refine Int32.lt_of_lt_of_le (b := 0) ?_ (nI_pos' hi)
    rcases q with rfl | rfl | rfl | rfl | rfl <;> decide
theorem law_loop (hL : L ≤ 2560) : ∀ fuel i M, L + 5 ≤ i + 5 * fuel → i ≤ L → Inv b x1 x2 x3 L xs M → w_L_law_23 b fuel x1 x2 x3 (nI i) M := by
  intro fuel
  induction fuel with
  | zero => intro i M h1 h2 _; omega
  | succ fuel ih =>
    intro i M h1 h2 hI
    have sc : M b = some (zS L xs) := by
      obtain ⟨V, ad, σ, ρ, ξ, n, cnt, h, N, B, A⟩ := hI
      exact scr_ok h N
    refine ⟨_, L, sc, rfl, fun _ => trivial, fun hlt => ?_⟩
    have hi : i + 5 ≤ L := Nat.le_of_not_lt fun q => hlt (lt_end hL (by omega) q)
    have b1 : i + 1 < L := by omega
    have b2 : i + 2 < L := by omega
    have b3 : i + 3 < L := by omega
    have b4 : i + 4 < L := by omega
    have n1 : nI i + (1 : Int32) = nI (i + 1) := nI_add i 1
    have n2 : nI i + (2 : Int32) = nI (i + 2) := nI_add i 2
    have n3 : nI i + (3 : Int32) = nI (i + 3) := nI_add i 3
    have n4 : nI i + (4 : Int32) = nI (i + 4) := nI_add i 4
    have n5 : nI i + (5 : Int32) = nI (i + 5) := nI_add i 5
    have hK : ∀ M', Inv b x1 x2 x3 L xs M' → (fun M => w_L_law_23 b fuel x1 x2 x3 (nI i + (5 : Int32)) M) M' := fun M' hI' => by
      show w_L_law_23 b fuel x1 x2 x3 (nI i + (5 : Int32)) M'
      rw [n5]
      exact ih (i + 5) M' (by omega) hi hI'
    have a1 : ∀ {M : zM} {K : Int32 → Prop}, M b = some (zS L xs) → K (xs (i + 1)) → zAs M b (nI i + (1 : Int32)) K := fun s h => s_as s n1 b1 hL h
    have a2 : ∀ {M : zM} {K : Int32 → Prop}, M b = some (zS L xs) → K (xs (i + 2)) → zAs M b (nI i + (2 : Int32)) K := fun s h => s_as s n2 b2 hL h
    have a3 : ∀ {M : zM} {K : Int32 → Prop}, M b = some (zS L xs) → K (xs (i + 3)) → zAs M b (nI i + (3 : Int32)) K := fun s h => s_as s n3 b3 hL h
    have a4 : ∀ {M : zM} {K : Int32 → Prop}, M b = some (zS L xs) → K (xs (i + 4)) → zAs M b (nI i + (4 : Int32)) K := fun s h => s_as s n4 b4 hL h
    refine s_as sc rfl (show i < L by omega) hL fun s28 hs28 => ?_
    refine ⟨fun _ => ?_, fun _ => ?_, fun _ => ?_, fun _ => ?_, fun _ => ?_, fun _ => ?_, fun _ => ?_, fun _ => ?_, fun _ => ?_, fun _ => ?_, fun _ => ?_, fun _ => ?_, fun _ => ?_, fun _ => ?_, fun _ => ?_, fun _ => ?_, fun _ => ?_, fun _ => ?_, fun _ => hK M hI⟩
    · exact a1 sc (a2 sc (a3 sc (a4 sc (l_field hI hK fun k M' s hh => a1 s (a2 s (a3 s (a4 s hh)))))))
    · exact a1 sc (l_byDefault hI hK fun k M' s hh => a1 s hh)
    · exact l_discard hI hK
    · exact a1 sc (l_isAccepted hI hK fun k M' s hh => a1 s hh)
    · exact a1 sc (l_register hI hK fun k M' s hh => a1 s hh)
    · exact a1 sc (a2 sc (a3 sc ⟨fun e => l_setMode hI hK (Or.inl rfl) fun k M' s hh => a1 s (a2 s (a3 s ⟨fun _ => hh, fun q => absurd e q⟩)), fun e => l_setMode hI hK (Or.inr rfl) fun k M' s hh => a1 s (a2 s (a3 s ⟨fun q => absurd q e, fun _ => hh⟩))⟩))
    · exact a1 sc (a2 sc (a3 sc ⟨fun e => l_delete hI hK fun k M' s hh => a1 s (a2 s (a3 s ⟨fun _ => hh, fun q => absurd e q⟩)), fun e => l_delete hI hK fun k M' s hh => a1 s (a2 s (a3 s ⟨fun q => absurd q e, fun _ => hh⟩))⟩))
    · exact a1 sc (l_versions hI hK fun k M' s hh => a1 s hh)
    · exact a1 sc (a2 sc (l_number hI hK fun k M' s hh => a1 s (a2 s hh)))
    · exact a1 sc (a2 sc (l_isThere hI hK fun k M' s hh => a1 s (a2 s hh)))
    · exact a1 sc (a2 sc (l_length hI hK fun k M' s hh => a1 s (a2 s hh)))
    · exact a1 sc (a2 sc (a3 sc (a4 sc (l_canRead hI hK fun k M' s hh => a1 s (a2 s (a3 s (a4 s hh)))))))
    · exact a1 sc (a2 sc (a3 sc (a4 sc (l_readsAll hI hK fun k M' s hh => a1 s (a2 s (a3 s (a4 s hh)))))))
    · exact a1 sc (l_value hI hK fun k M' s hh => a1 s hh)
    · exact l_clearR hI hK
    · exact a1 sc (a2 sc (l_isRecord hI hK fun k M' s hh => a1 s (a2 s hh)))
    · exact a1 sc (a2 sc (a3 sc (a4 sc (l_read hI hK fun k M' s hh => a1 s (a2 s (a3 s (a4 s hh)))))))
    · exact a1 sc (l_valueAt hI hK fun k M' s hh => a1 s hh)
theorem law_ok {M : zM} {b t L : Nat} {xs : Nat → Int32} (hL : L ≤ 2560) (hb : M b = some (zS L xs)) (ht : M t = some zN) (hn : ∀ q, q ≠ b → q ≠ t → M q = none) (htb : t ≠ b) : w_L_law b M := by
  have h0 : zC (fun y => y = ((12, 0, 0) : nm) ∨ y = (13, 0, 0)) (fun y => if y.1 = 12 then b else t) s00 r00 (fun k => if k = 12 then zS L xs else zN) M := by
    refine ⟨fun y hy => ?_, fun y z hy hz hne e => ?_, fun y hy u hu => ?_, fun y hy => ?_⟩
    · rcases hy with rfl | rfl
      · exact hb
      · exact ht
    · rcases hy with rfl | rfl <;> rcases hz with rfl | rfl
      · exact absurd rfl hne
      · exact absurd e.symm htb
      · exact absurd e htb
      · exact absurd rfl hne
    · rcases hy with rfl | rfl
      · exact (refs_k (by omega) hu).elim
      · exact (refs_k (by omega) hu).elim
    · rcases hy with rfl | rfl <;> exact can_k
  intro q1 hq1
  have h1 := h0.tmp (k := 17) (e := zO 6 [.null, .null, .null, .null, .null, .null]) (by omega) (fun y hy => by rcases hy with rfl | rfl <;> simp) hq1
  have c17 : up (fun y : nm => if y.1 = 12 then b else t) (17, 0, 0) q1 (17, 0, 0) = q1 := up_s _ _ _
  have xi := x5_init h1 (Or.inl rfl) (fun y => Iff.rfl) (ux_s _ _ _) (ux_n _ _ (by omega))
    (P := fun M231 => zNw M231 7 [.int 0, .null, .null, .null, .null, .null, .null, .null, .null, .int 0, .null, .null, .null, .null, .null, .null, .int 0, .null, .null, .null, .null, .null, .null] (fun q233 M234 => w_X6_init q233 M234 (fun M235 => zNl M235 (1 : Int32) 1 (fun q237 M238 => (w_L_law_23 b 513 q1 q233 q237 (0 : Int32) M238)))))
    (fun M2 V2 ad2 σ2 ρ2 ξ2 hB v0 v12 v13 a0 a12 a13 x12 x13 hS hLs h2 => ?_)
  · rw [c17] at xi; exact xi
  intro q2 hq2
  have h3 := h2.tmp (k := 18) (e := zO 7 [.int 0, .null, .null, .null, .null, .null, .null, .null, .null, .int 0, .null, .null, .null, .null, .null, .null, .int 0, .null, .null, .null, .null, .null, .null]) (by omega) (fun y hy => by have := (hB y hy).2.2.2.1; omega) hq2
  have c18 : up ad2 (18, 0, 0) q2 (18, 0, 0) = q2 := up_s _ _ _
  have sz : ∀ k i j, 16 ≤ k → σ2 (k, i, j) = 0 := fun k i j hk => (hS.1 _ (fun e => by cases e; omega) (fun e => by cases e; omega)).trans (s00_0 (fun e => by cases e; omega))
  have yi := x6_init h3 (Or.inl rfl) (fun y hy e => hy.elim id (fun q => by have := (hB y q).2.2.2.1; omega)) (fun y hy => hy.elim (fun e => by rw [e]; simp) (fun q => ⟨(hB y q).2.1, (hB y q).1⟩)) (ux_s _ _ _) (fun k j => sz _ _ _ (by omega)) (fun k => sz _ _ _ (by omega))
    (P := fun M235 => zNl M235 (1 : Int32) 1 (fun q237 M238 => (w_L_law_23 b 513 q1 q2 q237 (0 : Int32) M238)))
    (fun M4 V4 ad4 ξ4 w4 i4 v9 a9 a4 x4 h4 => ?_)
  · rw [c18] at yi; exact yi
  refine ⟨by decide, by decide, fun q3 hq3 => ?_⟩
  have kd : ∀ y, V4 y → y.1 ≠ 11 ∧ Bd 0 (fun _ => 0) σ2 y := fun y hy => by
    rcases w4 y hy with e | ⟨k, hk, e⟩ | ⟨e, e1⟩
    · rw [e]; simp [Bd]
    · rw [e]; simp [Bd]
    · rcases e with e | e
      · rw [e] at e1; exact absurd rfl e1
      · exact (hB y e).2.2
  have h5 := h4.tmp (k := 11) (e := zJ (1 : Int32).toNatClampNeg (fun _ => 0)) (by omega) (fun y hy => (kd y hy).1) hq3
  have in4 : ∀ y, V2 y → V4 y := fun y hy => i4 y (Or.inr hy) (by have := (hB y hy).2.2.2.1; omega)
  have ad5 : ∀ k, k ≤ 13 → k ≠ 11 → V2 (k, 0, 0) → up ad4 (11, 0, 0) q3 (k, 0, 0) = ad2 (k, 0, 0) := fun k hk h11 hv => by
    rw [up_n _ _ (fun e => h11 (by cases e; rfl)), a4 _ (Or.inr hv) (by simp only; omega), up_n _ _ (fun e => by cases e; omega)]
  have N : Nam (fun y => y = ((11, 0, 0) : nm) ∨ V4 y) (up ad4 (11, 0, 0) q3) (ux ξ4 11 (zJ (1 : Int32).toNatClampNeg (fun _ => 0))) b q1 q2 q3 L xs := by
    refine ⟨Or.inr (in4 _ v0), Or.inr v9, Or.inl rfl, Or.inr (in4 _ v12), Or.inr (in4 _ v13), ?_, ?_, up_s _ _ _, ?_, ⟨_, ux_s _ _ _⟩, ?_, ?_⟩
    · rw [ad5 0 (by omega) (by omega) v0, a0, c17]
    · rw [up_n _ _ (fun e => by cases e), a9, c18]
    · rw [ad5 12 (by omega) (by omega) v12, a12, up_n _ _ (fun e => by cases e)]; rfl
    · rw [ux_n _ _ (by omega), x4 12 (by omega), ux_n _ _ (by omega), x12, ux_n _ _ (by omega)]; rfl
    · rw [ux_n _ _ (by omega), x4 13 (by omega), ux_n _ _ (by omega), x13]
  have I : Inv b q1 q2 q3 L xs (zUp M4 q3 (zJ (1 : Int32).toNatClampNeg (fun _ => 0))) := Inv.of h5 N (fun y hy => hy.elim (fun e => by rw [e]; simp [Bd]) (fun q => (kd y q).2)) (All.start hS hLs)
  have := law_loop hL 513 0 _ (by omega) (Nat.zero_le _) I
  rw [nI_0] at this
  exact this
