/-! ===== the pure part: the law's calls that change something ===== -/
variable {V V' : nm → Prop} {ad ad' : nm → Nat} {σ σ' τ τ' X S : nI2} {ρ ρ' π π' : nN2} {ξ ξ' : Nat → zE} {M : zM} {x y w : nm} {n n' c d s i k b x1 x2 x3 L : Nat} {cnt cnt' : Nat → Nat} {xs : Nat → Int32} {K : zM → Prop}
theorem Bd.mono (hz : ∀ c, c ≤ n → zz σ c ≤ zz σ' c) (hc : ∀ s, cnt s ≤ cnt' s) (hn : n ≤ n') (B : Bd n cnt σ y) : Bd n' cnt' σ' y := by
  obtain ⟨b1, b2, b3, b4, b5, b6, b7⟩ := B
  refine ⟨b1, fun e => by have := b2 e; omega, fun e => Nat.lt_of_lt_of_le (b3 e) (hc _), fun e => by have := b4 e; omega, fun e => by have := b5 e; omega, fun e => ?_, b7⟩
  obtain ⟨q1, q2⟩ := b6 e
  exact ⟨by omega, Nat.lt_of_lt_of_le q2 (hz _ q1)⟩
theorem EQs.zz (E : EQs σ' σ) (c : Nat) : zz σ' c = zz σ c := (E.ag (ρ := fun _ => 0) (d := c + 1)).zq (by omega)
theorem EQl.zz (E : EQl σ' σ) (c : Nat) : zz σ' c = zz σ c := (E.ag (ρ := fun _ => 0) (d := c + 1)).zq (by omega)
/-- the constructor of the invariant -/
theorem Inv.of (h : zC V ad σ ρ ξ M) (N : Nam V ad ξ b x1 x2 x3 L xs) (B : ∀ y, V y → Bd n cnt σ y) (A : All n cnt σ ρ) : Inv b x1 x2 x3 L xs M := ⟨V, ad, σ, ρ, ξ, n, cnt, h, N, B, A⟩
theorem EQr.h {s0 : Nat} (E : EQr 2 s0 σ' σ) : EQh σ' σ := fun w hw _ _ => E w (fun q => by omega)
theorem l_readsAll (hI : Inv b x1 x2 x3 L xs M) (hK : ∀ M', Inv b x1 x2 x3 L xs M' → K M') {p q p2 q2 : Int32} {Q : Int32 → zM → Prop} (hQ : ∀ k M', M' b = some (zS L xs) → (zIs M' x2 7 ∧ w_X6_readsAll x2 p q p2 q2 M' (fun v M'' => TlB x2 x3 k v K M'')) → Q k M') : w_L_readsAll x1 p q p2 q2 x3 M Q := by
  obtain ⟨V, ad, σ, ρ, ξ, n, cnt, h, N, B, A⟩ := hI
  obtain ⟨v0, v9, v11, v12, v13, rfl, rfl, rfl, rfl, e11, e12, e13⟩ := id N
  obtain ⟨r, s0, u, r1, r2, r3, r4, r5, RR⟩ := id A.2.2.2
  have D := A.1
  have s2 : ρ (1, 1, 0) < 2 := by omega
  refine ⟨g_is h v0 rfl, k_readsAll h v0 D.wk D.wp D.wq s2 (fun s v t w hv hw hp hq hp2 hq2 h300 σ1 M1 E1 g1 => w_outb g1 N (Bd.u11 B) fun M2 ξ2 h2 N2 f2 => hQ 0 M2 (scr_ok h2 N2) ⟨g_is h2 v9 rfl, m_readsAll h2 v9 (E1.h.rel A.2.1) D.wk D.wp D.wq (fun s' v' t' w' hv' hw' hp' hq' hp2' hq2' _ σ3 M3 E e h3 => ?_) (fun no => no.elim (fun no => absurd hp (no s hv.1)) (fun no => absurd hp2 (no t hw.1))) (fun s' t' hs' ht' hp' hp2' no => ?_) (fun s' v' t' w' hv' hw' hp' hq' hp2' hq2' h3 => ?_)⟩)
    (fun no => ⟨fun _ => hQ 1 M (scr_ok h N) ⟨g_is h v9 rfl, m_readsAll h v9 A.2.1 D.wk D.wp D.wq (fun s' v' t' w' hv' hw' hp' hq' hp2' hq2' => no.elim (fun no => absurd hp' (no s' hv'.1)) (fun no => absurd hp2' (no t' hw'.1))) (fun _ σ2 M2 E e h2 => tb_ex h2 N e (by decide) (hK _ (Inv.z h2 N B A E))) (fun s' t' hs' ht' hp' hp2' => no.elim (fun no => absurd hp' (no s' hs')) (fun no => absurd hp2' (no t' ht'))) (fun s' v' t' w' hv' hw' hp' hq' hp2' hq2' => no.elim (fun no => absurd hp' (no s' hv'.1)) (fun no => absurd hp2' (no t' hw'.1)))⟩, fun q => absurd q (by decide), fun q => absurd q (by decide), Or.inl rfl⟩)
    (fun s t hs ht hp hp2 no => ⟨fun q => absurd q (by decide), fun _ => hQ 2 M (scr_ok h N) ⟨g_is h v9 rfl, m_readsAll h v9 A.2.1 D.wk D.wp D.wq (fun s' v' t' w' hv' hw' hp' hq' hp2' hq2' => ?_) (fun no' => no'.elim (fun no' => absurd hp (no' s hs)) (fun no' => absurd hp2 (no' t ht))) (fun s' t' hs' ht' hp' hp2' _ σ2 M2 E e h2 => tb_ex h2 N e (by decide) (hK _ (Inv.z h2 N B A E))) (fun s' v' t' w' hv' hw' hp' hq' hp2' hq2' => ?_)⟩, fun q => absurd q (by decide), Or.inr (Or.inl rfl)⟩)
    (fun s v t w hv hw hp hq hp2 hq2 h300 => ⟨fun q => absurd q (by decide), fun q => absurd q (by decide), fun _ => hQ 3 M (scr_ok h N) ⟨g_is h v9 rfl, m_readsAll h v9 A.2.1 D.wk D.wp D.wq (fun s' v' t' w' hv' hw' hp' hq' hp2' hq2' h3 => ?_) (fun no => no.elim (fun no => absurd hp (no s hv.1)) (fun no => absurd hp2 (no t hw.1))) (fun s' t' hs' ht' hp' hp2' no => ?_) (fun s' v' t' w' hv' hw' hp' hq' hp2' hq2' _ σ2 M2 E e h2 => tb_ex h2 N e (by decide) (hK _ (Inv.z h2 N B A E)))⟩, Or.inr (Or.inr rfl)⟩)⟩
  · obtain rfl := uS hv.1 hv'.1 hp hp'
    obtain rfl := uV A hv hv' hq hq'
    obtain rfl := uS hw.1 hw'.1 hp2 hp2'
    obtain rfl := uV A hw hw' hq2 hq2'
    exact tb_ok h3 N2 e f2 (hK _ (Inv.of h3 N2 (fun y hy => (B y hy).mono (fun c _ => by rw [E.l.zz, (E1.s (by omega)).zz]; exact Nat.le_refl _) (fun _ => Nat.le_refl _) (Nat.le_refl _)) (A.readsAll E1 E)))
  · obtain rfl := uS hv.1 hs' hp hp'
    obtain rfl := uS hw.1 ht' hp2 hp2'
    exact no.elim (fun no => nV hv hq no) (fun no => nV hw hq2 no)
  · obtain rfl := uS hw.1 hw'.1 hp2 hp2'
    obtain rfl := uV A hw hw' hq2 hq2'
    omega
  · obtain rfl := uS hs hv'.1 hp hp'
    obtain rfl := uS ht hw'.1 hp2 hp2'
    exact no.elim (fun no => nV hv' hq' no) (fun no => nV hw' hq2' no)
  · obtain rfl := uS hs hv'.1 hp hp'
    obtain rfl := uS ht hw'.1 hp2 hp2'
    exact no.elim (fun no => nV hv' hq' no) (fun no => nV hw' hq2' no)
  · obtain rfl := uS hw.1 hw'.1 hp2 hp2'
    obtain rfl := uV A hw hw' hq2 hq2'
    omega
  · obtain rfl := uS hv.1 hs' hp hp'
    obtain rfl := uS hw.1 ht' hp2 hp2'
    exact no.elim (fun no => nV hv hq no) (fun no => nV hw hq2 no)
theorem l_read (hI : Inv b x1 x2 x3 L xs M) (hK : ∀ M', Inv b x1 x2 x3 L xs M' → K M') {p q p2 q2 : Int32} {Q : Int32 → zM → Prop} (hQ : ∀ k M', M' b = some (zS L xs) → (zIs M' x2 7 ∧ w_X6_read x2 p q p2 q2 M' (fun v M'' => Tl x2 x3 k v.toInt64 K M'')) → Q k M') : w_L_read x1 p q p2 q2 x3 M Q := by
  obtain ⟨V, ad, σ, ρ, ξ, n, cnt, h, N, B, A⟩ := hI
  obtain ⟨v0, v9, v11, v12, v13, rfl, rfl, rfl, rfl, e11, e12, e13⟩ := id N
  obtain ⟨r, s0, u, r1, r2, r3, r4, r5, RR⟩ := id A.2.2.2
  have D := A.1
  refine ⟨g_is h v0 rfl, k_read h v0 D.wk D.wp r1 r2 r3 r4 r5 RR.2.1 RR.1 (g := fun j => σ (17, 17, j)) (fun j hj => (RR.2.2.2 j hj).symm) (fun s v t w l hv hw hp hq hp2 hq2 hrc hrd M1 g1 => w_out g1 N (Bd.u11 B) fun M2 ξ2 h2 N2 f2 => hQ 0 M2 (scr_ok h2 N2) ⟨g_is h2 v9 rfl, ?_⟩)
    (fun no => ⟨fun _ => hQ 1 M (scr_ok h N) ⟨g_is h v9 rfl, m_read h v9 A.2.1 D.wk D.wp D.wq D.N0 RR (fun s' v' t' w' l' hv' hw' hp' hq' hp2' hq2' => no.elim (fun no => absurd hp' (no s' hv'.1)) (fun no => absurd hp2' (no t' hw'.1))) (fun _ σ2 M2 E e h2 => tl_ex h2 N e (by decide) (hK _ (Inv.z h2 N B A E))) (fun s' t' hs' ht' hp' hp2' => no.elim (fun no => absurd hp' (no s' hs')) (fun no => absurd hp2' (no t' ht'))) (fun s' v' t' w' hv' hw' hp' hq' hp2' hq2' => no.elim (fun no => absurd hp' (no s' hv'.1)) (fun no => absurd hp2' (no t' hw'.1)))⟩, fun q => absurd q (by decide), fun q => absurd q (by decide), Or.inl rfl⟩)
    (fun s t hs ht hp hp2 no => ⟨fun q => absurd q (by decide), fun _ => hQ 2 M (scr_ok h N) ⟨g_is h v9 rfl, m_read h v9 A.2.1 D.wk D.wp D.wq D.N0 RR (fun s' v' t' w' l' hv' hw' hp' hq' hp2' hq2' => ?_) (fun no' => no'.elim (fun no' => absurd hp (no' s hs)) (fun no' => absurd hp2 (no' t ht))) (fun s' t' hs' ht' hp' hp2' _ σ2 M2 E e h2 => tl_ex h2 N e (by decide) (hK _ (Inv.z h2 N B A E))) (fun s' v' t' w' hv' hw' hp' hq' hp2' hq2' => ?_)⟩, fun q => absurd q (by decide), Or.inr (Or.inl rfl)⟩)
    (fun s v t w hv hw hp hq hp2 hq2 hbad σ1 M1 E1 g1 => ⟨fun q => absurd q (by decide), fun q => absurd q (by decide), fun _ => hQ 3 M1 (scr_ok g1 N) ⟨g_is g1 v9 rfl, m_read g1 v9 (E1.h.rel A.2.1) D.wk D.wp D.wq D.N0 (E1.h.rr RR) (fun s' v' t' w' l' hv' hw' hp' hq' hp2' hq2' hrc hrd => ?_) (fun no => no.elim (fun no => absurd hp (no s hv.1)) (fun no => absurd hp2 (no t hw.1))) (fun s' t' hs' ht' hp' hp2' no => ?_) (fun s' v' t' w' hv' hw' hp' hq' hp2' hq2' _ σ3 M3 E e h3 => ?_)⟩, Or.inr (Or.inr rfl)⟩)⟩
  · -- the record is read
    have q0 : ∀ w : nm, 16 ≤ w.1 → rApp (up σ (4, s0, 0) 0) s0 0 l w = σ w := fun w hw => by
      unfold rApp
      rw [rAdd_n (fun e => by rw [e] at hw; simp at hw) (by omega), up_n _ _ (fun e => by rw [e] at hw; simp at hw)]
    have Eh : EQh (rApp (up σ (4, s0, 0) 0) s0 0 l) σ := fun w hw _ _ => q0 w hw
    have eg : (fun j => rApp (up σ (4, s0, 0) 0) s0 0 l (17, 17, j)) = fun j => σ (17, 17, j) := funext fun j => q0 _ (by simp)
    have l1 := ((D.wk.2.1 s hv.1).2.2 v hv.2.1).2
    have l2 := ((D.wk.2.1 t hw.1).2.2 w hw.2.1).2
    have len := rdF_len D.wk.2.2 D.wp 45 _ _ _ l (show ρ (2, s, v) ≤ n by omega) (show ρ (2, t, w) ≤ n by omega) hrd
    have l20 := (D.wp.lnn (show ρ (2, s, v) ≤ n by omega)).2
    refine m_read h2 v9 (Eh.rel A.2.1) D.wk D.wp D.wq D.N0 (Eh.rr RR) (fun s' v' t' w' l' hv' hw' hp' hq' hp2' hq2' hrc' hrd' σ3 M3 E e h16 h17 h3 => ?_) (fun no => no.elim (fun no => absurd hp (no s hv.1)) (fun no => absurd hp2 (no t hw.1))) (fun s' t' hs' ht' hp' hp2' no => ?_) (fun s' v' t' w' hv' hw' hp' hq' hp2' hq2' hbad => ?_)
    · obtain rfl := uS hv.1 hv'.1 hp hp'
      obtain rfl := uV A hv hv' hq hq'
      obtain rfl := uS hw.1 hw'.1 hp2 hp2'
      obtain rfl := uV A hw hw' hq2 hq2'
      rw [eg, hrd] at hrd'
      obtain rfl := Option.some.inj hrd'
      refine tl_ok h3 N2 e f2 (hK _ (Inv.of h3 N2 (fun y hy => (B y hy).mono (fun c _ => ?_) (fun _ => Nat.le_refl _) (Nat.le_refl _)) (A.read r1 r2 (by omega) E h16 h17)))
      have Es : EQs (rApp (up σ (4, s0, 0) 0) s0 0 l) σ := fun w _ hw => by
        unfold rApp
        rw [rAdd_n (fun e => by rw [e] at hw; simp at hw; omega) (by
          by_cases e : w.1 = 5
          · exact Or.inr (by have := hw (Or.inr e); omega)
          · exact Or.inl e), up_n _ _ (fun e => by rw [e] at hw; simp at hw; omega)]
      rw [E.l.zz, Es.zz]
      exact Nat.le_refl _
    · obtain rfl := uS hv.1 hs' hp hp'
      obtain rfl := uS hw.1 ht' hp2 hp2'
      exact no.elim (fun no => nV hv hq no) (fun no => nV hw hq2 no)
    · obtain rfl := uS hv.1 hv'.1 hp hp'
      obtain rfl := uV A hv hv' hq hq'
      obtain rfl := uS hw.1 hw'.1 hp2 hp2'
      obtain rfl := uV A hw hw' hq2 hq2'
      rw [eg, hrd, hrc] at hbad
      exact hbad.elim (fun q => by cases q) (fun q => by cases q)
  · obtain rfl := uS hs hv'.1 hp hp'
    obtain rfl := uS ht hw'.1 hp2 hp2'
    exact no.elim (fun no => nV hv' hq' no) (fun no => nV hw' hq2' no)
  · obtain rfl := uS hs hv'.1 hp hp'
    obtain rfl := uS ht hw'.1 hp2 hp2'
    exact no.elim (fun no => nV hv' hq' no) (fun no => nV hw' hq2' no)
  · obtain rfl := uS hv.1 hv'.1 hp hp'
    obtain rfl := uV A hv hv' hq hq'
    obtain rfl := uS hw.1 hw'.1 hp2 hp2'
    obtain rfl := uV A hw hw' hq2 hq2'
    have eg : (fun j => σ1 (17, 17, j)) = fun j => σ (17, 17, j) := funext fun j => E1.h.col (by omega) (by omega)
    rw [eg] at hrd
    rw [hrc, hrd] at hbad
    exact hbad.elim (fun q => by cases q) (fun q => by cases q)
  · obtain rfl := uS hv.1 hs' hp hp'
    obtain rfl := uS hw.1 ht' hp2 hp2'
    exact no.elim (fun no => nV hv hq no) (fun no => nV hw hq2 no)
  · have E1' : EQr 2 (ρ (1, 1, 0)) σ1 σ := by rw [r2]; exact E1
    exact tl_ex h3 N e (by decide) (hK _ (Inv.of h3 N (fun y hy => (B y hy).mono (fun c _ => by rw [E.l.zz, (E1.s (by omega)).zz]; exact Nat.le_refl _) (fun _ => Nat.le_refl _) (Nat.le_refl _)) (A.readsAll E1' E)))
theorem l_value (hI : Inv b x1 x2 x3 L xs M) (hK : ∀ M', Inv b x1 x2 x3 L xs M' → K M') {p : Int32} {Q : Int32 → zM → Prop} (hQ : ∀ k M', M' b = some (zS L xs) → (zIs M' x2 7 ∧ w_X6_value x2 p M' (fun v M'' => Tl x2 x3 k v.toInt64 K M'')) → Q k M') : w_L_value x1 p x3 M Q := by
  obtain ⟨V, ad, σ, ρ, ξ, n, cnt, h, N, B, A⟩ := hI
  obtain ⟨v0, v9, v11, v12, v13, rfl, rfl, rfl, rfl, e11, e12, e13⟩ := id N
  obtain ⟨r, s0, u, r1, r2, r3, r4, r5, RR⟩ := id A.2.2.2
  refine ⟨g_is h v0 rfl, k_value h v0 r1 RR.2.1 RR.1 (fun hu M1 g1 => w_out g1 N (Bd.u11 B) fun M2 ξ2 h2 N2 f2 => hQ 0 M2 (scr_ok h2 N2) ⟨g_is h2 v9 rfl, m_value h2 v9 (u := u) ?_ RR.1 (fun _ M3 h3 => ?_) (fun hu' => by omega)⟩) (fun hu => ⟨fun _ => hQ 1 M (scr_ok h N) ⟨g_is h v9 rfl, m_value h v9 (u := u) RR.2.2.1 RR.1 (fun hu' => by omega) (fun _ M3 h3 => ?_)⟩, rfl⟩)⟩
  · exact (up_n _ _ (fun e => by cases e)).trans ((up_n _ _ (fun e => by cases e)).trans RR.2.2.1)
  · refine tl_ok h3 N2 ?_ f2 (hK _ (Inv.of h3 N2 (fun y hy => (B y hy).mono (fun c _ => ?_) (fun _ => Nat.le_refl _) (Nat.le_refl _)) (A.value r1 RR hu)))
    · rw [up_n _ _ (fun e => by cases e), up_n _ _ (fun e => by cases e), up_s]
    · have E1 : EQl (up (up (up (up (up σ (5, r, u) p) (4, r, 0) (nI (u + 1))) (16, 0, 0) 0) (17, 17, u) p) (16, 16, 0) (nI (u + 1))) (up (up σ (5, r, u) p) (4, r, 0) (nI (u + 1))) := (EQl.u (by simp)).trans ((EQl.u (by simp)).trans (EQl.u (by simp)))
      rw [E1.zz, (EQs.u (Or.inl rfl) (by omega)).zz, (EQs.u (Or.inr rfl) (by omega)).zz]
      exact Nat.le_refl _
  · exact tl_ex h3 N (up_s _ _ _) (by decide) (hK _ (Inv.z h3 N B A EQz.up))
theorem l_clearR (hI : Inv b x1 x2 x3 L xs M) (hK : ∀ M', Inv b x1 x2 x3 L xs M' → K M') : zIs M x1 6 ∧ w_X5_clear x1 M (fun v185 M184 => (zIs M184 x2 7 ∧ w_X6_clear x2 M184 (fun v187 M186 => ((v185 = v187 → K M186) ∧ (¬ v185 = v187 → False))))) := by
  obtain ⟨V, ad, σ, ρ, ξ, n, cnt, h, N, B, A⟩ := hI
  obtain ⟨v0, v9, v11, v12, v13, rfl, rfl, rfl, rfl, e11, e12, e13⟩ := id N
  obtain ⟨r, s0, u, r1, r2, r3, r4, r5, RR⟩ := id A.2.2.2
  refine ⟨g_is h v0 rfl, k_clear h v0 r1 fun M1 g1 => ⟨g_is g1 v9 rfl, m_clear g1 v9 fun M2 g2 => ⟨fun _ => hK _ (Inv.of g2 N (fun y hy => (B y hy).mono (fun c _ => ?_) (fun _ => Nat.le_refl _) (Nat.le_refl _)) (A.clear r1)), fun q => q ?_⟩⟩⟩
  · have E1 : EQl (up (up (up σ (4, r, 0) 0) (16, 0, 0) 0) (16, 16, 0) 0) (up σ (4, r, 0) 0) := (EQl.u (by simp)).trans (EQl.u (by simp))
    rw [E1.zz, (EQs.u (Or.inl rfl) (by omega)).zz]
    exact Nat.le_refl _
  · rw [up_n _ _ (fun e => by cases e), RR.2.1, RR.2.2.1]
theorem l_setMode (hI : Inv b x1 x2 x3 L xs M) (hK : ∀ M', Inv b x1 x2 x3 L xs M' → K M') {p md al : Int32} (ha : al = 0 ∨ al = 1) {Q : Int32 → zM → Prop} (hQ : ∀ k M', M' b = some (zS L xs) → (zIs M' x2 7 ∧ w_X6_setMode x2 p md al M' (fun v M'' => Tl x2 x3 k v.toInt64 K M'')) → Q k M') : w_L_setMode x1 p md al x3 M Q := by
  obtain ⟨V, ad, σ, ρ, ξ, n, cnt, h, N, B, A⟩ := hI
  obtain ⟨v0, v9, v11, v12, v13, rfl, rfl, rfl, rfl, e11, e12, e13⟩ := id N
  refine ⟨g_is h v0 rfl, k_setMode h v0 A.1.wk ha (fun s k hs hp hk hm M1 g1 => w_out g1 N (Bd.u11 B) fun M2 ξ2 h2 N2 f2 => hQ 0 M2 (scr_ok h2 N2) ⟨g_is h2 v9 rfl, m_setMode h2 v9 ha (fun s' k' hs' hp' hk' hm' M3 h3 => ?_) (fun no => no.elim (fun no => absurd hp (no s hs)) (fun no => absurd hm (no k hk)))⟩) (fun no => ⟨fun _ => hQ 1 M (scr_ok h N) ⟨g_is h v9 rfl, m_setMode h v9 ha (fun s' k' hs' hp' hk' hm' => no.elim (fun no => absurd hp' (no s' hs')) (fun no => absurd hm' (no k' hk'))) (fun _ M3 h3 => tl_ex h3 N (up_s _ _ _) (by decide) (hK _ (Inv.z h3 N B A EQz.up)))⟩, rfl⟩)⟩
  obtain rfl := uS hs hs' hp hp'
  subst hm
  have e14 : up (up σ (0, s', 0) (nI k)) (1, s', 0) al (17, 14, s') = σ (0, s', 0) := by
    rw [up_n _ _ (fun e => by cases e), up_n _ _ (fun e => by cases e)]
    exact (A.2.1.2.2 s' hs').2.2.2.1
  rw [e14]
  refine tl_ok h3 N2 ?_ f2 (hK _ (Inv.of h3 N2 (fun y hy => (B y hy).mono (fun c _ => ?_) (fun _ => Nat.le_refl _) (Nat.le_refl _)) (A.modes hs hk ha)))
  · rw [up_n _ _ (fun e => by cases e), up_n _ _ (fun e => by cases e), up_s]
  · unfold zz
    rw [up_n _ _ (fun e => by cases e), up_n _ _ (fun e => by cases e), up_n _ _ (fun e => by cases e), up_n _ _ (fun e => by cases e), up_n _ _ (fun e => by cases e)]
    exact Nat.le_refl _
theorem l_delete (hI : Inv b x1 x2 x3 L xs M) (hK : ∀ M', Inv b x1 x2 x3 L xs M' → K M') {p q al : Int32} {Q : Int32 → zM → Prop} (hQ : ∀ k M', M' b = some (zS L xs) → (zIs M' x2 7 ∧ w_X6_delete x2 p q al M' (fun v M'' => Tl x2 x3 k v.toInt64 K M'')) → Q k M') : w_L_delete x1 p q al x3 M Q := by
  obtain ⟨V, ad, σ, ρ, ξ, n, cnt, h, N, B, A⟩ := hI
  obtain ⟨v0, v9, v11, v12, v13, rfl, rfl, rfl, rfl, e11, e12, e13⟩ := id N
  refine ⟨g_is h v0 rfl, k_delete h v0 A.1.wk (fun s v hv hp hq ok M1 g1 => w_out g1 N (Bd.u11 B) fun M2 ξ2 h2 N2 f2 => hQ 0 M2 (scr_ok h2 N2) ⟨g_is h2 v9 rfl, m_delete h2 v9 (EQh.rel (EQh.ul (by omega)) A.2.1) A.1.wk (fun s' v' hv' hp' hq' ok' M3 h3 => ?_) (fun no => absurd hp (no s hv.1)) (fun s' hs' hp' no => ?_) (fun s' v' hv' hp' hq' no => ?_)⟩)
    (fun no => ⟨fun _ => hQ 1 M (scr_ok h N) ⟨g_is h v9 rfl, m_delete h v9 A.2.1 A.1.wk (fun s' v' hv' hp' => absurd hp' (no s' hv'.1)) (fun _ M3 h3 => tl_ex h3 N (up_s _ _ _) (by decide) (hK _ (Inv.z h3 N B A EQz.up))) (fun s' hs' hp' => absurd hp' (no s' hs')) (fun s' v' hv' hp' => absurd hp' (no s' hv'.1))⟩, fun q => absurd q (by decide), fun q => absurd q (by decide), Or.inl rfl⟩)
    (fun s hs hp no => ⟨fun q => absurd q (by decide), fun _ => hQ 2 M (scr_ok h N) ⟨g_is h v9 rfl, m_delete h v9 A.2.1 A.1.wk (fun s' v' hv' hp' hq' => ?_) (fun no' => absurd hp (no' s hs)) (fun s' hs' hp' _ M3 h3 => tl_ex h3 N (up_s _ _ _) (by decide) (hK _ (Inv.z h3 N B A EQz.up))) (fun s' v' hv' hp' hq' => ?_)⟩, fun q => absurd q (by decide), Or.inr (Or.inl rfl)⟩)
    (fun s v hv hp hq bad => ⟨fun q => absurd q (by decide), fun q => absurd q (by decide), fun _ => hQ 3 M (scr_ok h N) ⟨g_is h v9 rfl, m_delete h v9 A.2.1 A.1.wk (fun s' v' hv' hp' hq' ok' => ?_) (fun no => absurd hp (no s hv.1)) (fun s' hs' hp' no => ?_) (fun s' v' hv' hp' hq' _ M3 h3 => tl_ex h3 N (up_s _ _ _) (by decide) (hK _ (Inv.z h3 N B A EQz.up)))⟩, Or.inr (Or.inr rfl)⟩)⟩
  · obtain rfl := uS hv.1 hv'.1 hp hp'
    obtain rfl := uV A hv hv' hq hq'
    refine tl_ok h3 N2 ?_ f2 (hK _ (Inv.of h3 N2 (fun y hy => (B y hy).mono (fun c _ => ?_) (fun _ => Nat.le_refl _) (Nat.le_refl _)) (A.del hv.1 hv.2.1 (dlS_ok al))))
    · rw [up_n _ _ (fun e => by cases e), up_s]
    · unfold zz
      rw [up_n _ _ (fun e => by cases e), up_n _ _ (fun e => by cases e), up_n _ _ (fun e => by cases e)]
      exact Nat.le_refl _
  · obtain rfl := uS hv.1 hs' hp hp'
    exact nV hv hq no
  · obtain rfl := uS hv.1 hv'.1 hp hp'
    obtain rfl := uV A hv hv' hq hq'
    exact absurd ok no
  · obtain rfl := uS hs hv'.1 hp hp'
    exact nV hv' hq' no
  · obtain rfl := uS hs hv'.1 hp hp'
    exact nV hv' hq' no
  · obtain rfl := uS hv.1 hv'.1 hp hp'
    obtain rfl := uV A hv hv' hq hq'
    exact absurd ok' bad
  · obtain rfl := uS hv.1 hs' hp hp'
    exact nV hv hq no
theorem l_byDefault (hI : Inv b x1 x2 x3 L xs M) (hK : ∀ M', Inv b x1 x2 x3 L xs M' → K M') {p : Int32} {Q : Int32 → zM → Prop} (hQ : ∀ k M', M' b = some (zS L xs) → (zIs M' x2 7 ∧ w_X6_byDefault x2 p M' (fun v M'' => Tl x2 x3 k v.toInt64 K M'')) → Q k M') : w_L_byDefault x1 p x3 M Q := by
  obtain ⟨V, ad, σ, ρ, ξ, n, cnt, h, N, B, A⟩ := hI
  obtain ⟨v0, v9, v11, v12, v13, rfl, rfl, rfl, rfl, e11, e12, e13⟩ := id N
  refine ⟨g_is h v0 rfl, k_byDefault h v0 A.1.wk (fun j hj h4 ho M1 g1 => w_out g1 N (Bd.u11 B) fun M2 ξ2 h2 N2 f2 => hQ 0 M2 (scr_ok h2 N2) ⟨g_is h2 v9 rfl, m_byDefault h2 v9 (EQh.rel ((EQh.ul (by omega)).trans (EQh.ul (by omega))) A.2.1) A.1.wk (fun j' hj' _ _ M3 h3 => ?_) (fun no => ?_) (fun j' hj' _ ho' => ?_)⟩)
    (fun no => ⟨fun _ => hQ 1 M (scr_ok h N) ⟨g_is h v9 rfl, m_byDefault h v9 A.2.1 A.1.wk (fun j' hj' h4' => ?_) (fun _ M3 h3 => tl_ex h3 N (up_s _ _ _) (by decide) (hK _ (Inv.z h3 N B A EQz.up))) (fun j' hj' h4' => ?_)⟩, fun q => absurd q (by decide), Or.inl rfl⟩)
    (fun j hj h4 ho => ⟨fun q => absurd q (by decide), fun _ => hQ 2 M (scr_ok h N) ⟨g_is h v9 rfl, m_byDefault h v9 A.2.1 A.1.wk (fun j' hj' _ ho' => ?_) (fun no => ?_) (fun j' hj' _ _ M3 h3 => tl_ex h3 N (up_s _ _ _) (by decide) (hK _ (Inv.z h3 N B A EQz.up)))⟩, Or.inr rfl⟩)⟩
  · obtain rfl : j' = j := by omega
    refine tl_ok h3 N2 ?_ f2 (hK _ (Inv.of h3 N2 (fun y hy => (B y hy).mono (fun c _ => ?_) (fun _ => Nat.le_refl _) (Nat.le_refl _)) (A.byDefault hj h4)))
    · rw [up_n _ _ (fun e => by cases e), up_n _ _ (fun e => by cases e), up_s]
    · unfold zz
      rw [up_n _ _ (fun e => by cases e), up_n _ _ (fun e => by cases e), up_n _ _ (fun e => by cases e), up_n _ _ (fun e => by cases e), up_n _ _ (fun e => by cases e)]
      exact Nat.le_refl _
  · rcases no with e | ⟨j', hj', e⟩
    · omega
    · obtain rfl : j' = j := by omega
      exact absurd e h4
  · obtain rfl : j' = j := by omega
    rw [ho] at ho'; cases ho'
  · rcases no with e | ⟨j, hj, e⟩
    · omega
    · obtain rfl : j' = j := by omega
      exact absurd e h4'
  · rcases no with e | ⟨j, hj, e⟩
    · omega
    · obtain rfl : j' = j := by omega
      exact absurd e h4'
  · obtain rfl : j' = j := by omega
    rw [ho] at ho'; cases ho'
  · rcases no with e | ⟨j', hj', e⟩
    · omega
    · obtain rfl : j' = j := by omega
      exact absurd e h4
/-- the draft's fields' names are forgotten -/
theorem refs_8 (h : refs ρ x y) (h8 : y.1 = 8) : ρ (4, 8 + y.2.1, y.2.2) ≠ 0 := by
  obtain ⟨k, i, j⟩ := x
  match k, h with
  | 0, h => simp only [refs] at h; rcases h with rfl | rfl | rfl | rfl | rfl | rfl <;> simp at h8
  | 1, h => simp only [refs] at h; subst h; simp at h8
  | 2, h => simp only [refs] at h; subst h; simp at h8
  | 3, h =>
    obtain ⟨q, hq, rfl⟩ := h
    simp only at hq h8 ⊢
    unfold el at h8 ⊢
    by_cases e0 : i = 0
    · rw [if_pos e0] at h8; simp at h8
    · rw [if_neg e0] at h8 ⊢
      by_cases e1 : i = 1
      · rw [if_pos e1] at h8; simp at h8
      · rw [if_neg e1] at h8 ⊢
        by_cases e8 : i < 8
        · rw [if_pos e8] at h8; simp at h8
        · rw [if_neg e8]
          have : 8 + (i - 8) = i := by omega
          show ρ (4, 8 + (i - 8), q) ≠ 0
          rw [this]; exact hq
  | 4, h => simp only [refs] at h; subst h; simp at h8
  | 5, h => simp only [refs] at h; rcases h with rfl | rfl <;> simp at h8
  | 6, h => simp only [refs] at h; subst h; simp at h8
  | 7, h => exact h.elim
  | 8, h => obtain ⟨-, h⟩ := h; subst h; simp at h8
  | 9, h => obtain ⟨q, -, rfl⟩ := h; simp at h8
  | 10, h => exact h.elim
  | k + 11, h => exact h.elim
theorem zC.drop (h : zC V ad σ ρ ξ M) (h4 : ∀ j, ρ (4, 8 + n, j) = 0) : zC (fun y => V y ∧ ¬ (y.1 = 8 ∧ y.2.1 = n)) ad σ ρ ξ M :=
  h.less (fun y hy => hy.1) (fun y hy u hu => ⟨h.2.2.1 y hy.1 u hu, fun e => refs_8 hu e.1 (by rw [e.2]; exact h4 _)⟩)
theorem Nam.drop (N : Nam V ad ξ b x1 x2 x3 L xs) : Nam (fun y => V y ∧ ¬ (y.1 = 8 ∧ y.2.1 = n)) ad ξ b x1 x2 x3 L xs := by
  obtain ⟨v0, v9, v11, v12, v13, q⟩ := N
  exact ⟨⟨v0, by simp⟩, ⟨v9, by simp⟩, ⟨v11, by simp⟩, ⟨v12, by simp⟩, ⟨v13, by simp⟩, q⟩
theorem Bd.drop (hz : ∀ c, c < n → zz σ c ≤ zz σ' c) (hc : ∀ s, cnt s ≤ cnt' s) (B : Bd n cnt σ y) (h8 : ¬ (y.1 = 8 ∧ y.2.1 = n)) : Bd n cnt' σ' y := by
  obtain ⟨b1, b2, b3, b4, b5, b6, b7⟩ := B
  refine ⟨b1, b2, fun e => Nat.lt_of_lt_of_le (b3 e) (hc _), b4, b5, fun e => ?_, b7⟩
  obtain ⟨q1, q2⟩ := b6 e
  exact ⟨q1, Nat.lt_of_lt_of_le q2 (hz _ (by omega))⟩
/-- the draft emptied, on both sides -/
theorem Inv.em (h : zC V ad σ' (clr ρ (8 + n) (zz σ n)) ξ M) (N : Nam V ad ξ b x1 x2 x3 L xs) (B : ∀ y, V y → Bd n cnt σ y) (A : All n cnt σ ρ) (E : EQz X (emS σ n)) (e : σ' = up (up X (17, 7, 36) 0) (17, 8, 36) 0) : Inv b x1 x2 x3 L xs M := by
  have A' := A.discard E
  rw [← e] at A'
  refine Inv.of (h.drop (n := n) (em_em A.1).2.1) N.drop (fun y hy => Bd.drop (fun c hc => ?_) (fun _ => Nat.le_refl _) (B y hy.1) hy.2) A'
  have El : EQl σ' (emS σ n) := by
    rw [e]
    exact (EQl.u (by simp)).trans ((EQl.u (by simp)).trans E.l)
  rw [El.zz, (em_ag (ρ := ρ) (d := 0)).zq hc]
  exact Nat.le_refl _
theorem l_discard (hI : Inv b x1 x2 x3 L xs M) (hK : ∀ M', Inv b x1 x2 x3 L xs M' → K M') : zIs M x1 6 ∧ w_X5_discard x1 M (fun v58 M57 => (zIs M57 x2 7 ∧ w_X6_discard x2 M57 (fun v60 M59 => ((v58 = v60 → K M59) ∧ (¬ v58 = v60 → False))))) := by
  obtain ⟨V, ad, σ, ρ, ξ, n, cnt, h, N, B, A⟩ := hI
  obtain ⟨v0, v9, v11, v12, v13, rfl, rfl, rfl, rfl, e11, e12, e13⟩ := id N
  exact ⟨g_is h v0 rfl, k_discard h v0 A.1.wk fun M1 g1 => ⟨g_is g1 v9 rfl, m_discard g1 v9 (em_h.rel A.2.1) fun M2 g2 => ⟨fun _ => hK _ (Inv.em g2 N B A EQz.up rfl), fun q => q rfl⟩⟩⟩
