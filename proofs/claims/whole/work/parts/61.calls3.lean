/-! ===== the pure part: field and register in the law ===== -/
variable {V V' : nm → Prop} {ad ad' : nm → Nat} {σ σ' τ τ' X S : nI2} {ρ ρ' π π' : nN2} {ξ ξ' : Nat → zE} {M : zM} {x y w : nm} {n n' c d s i k b x1 x2 x3 L : Nat} {cnt cnt' : Nat → Nat} {xs : Nat → Int32} {K : zM → Prop}
theorem is2 (h : zC V ad σ ρ ξ M) (N : Nam V ad ξ b x1 x2 x3 L xs) : zIs M x2 7 := by
  obtain ⟨v0, v9, v11, v12, v13, q1, rfl, q2, q3, -, e12, e13⟩ := N
  exact g_is h v9 rfl
theorem Mor.ref {p1 p2 : Int32} {k : Nat} (h : Mor cnt τ π p1 p2 k) (e : p1 = 4) (no : ∀ s v, ¬ RefOK cnt τ p2 s v) {P : Prop} : P := by
  rcases h with ⟨q, -⟩ | ⟨-, s, v, q, -⟩
  · exact absurd e q
  · exact absurd q (no s v)
theorem l_field (hI : Inv b x1 x2 x3 L xs M) (hK : ∀ M', Inv b x1 x2 x3 L xs M' → K M') {p0 p1 p2 p3 : Int32} {Q : Int32 → zM → Prop} (hQ : ∀ k M', M' b = some (zS L xs) → (zIs M' x2 7 ∧ w_X6_field x2 p0 p1 p2 p3 M' (fun v M'' => Tl x2 x3 k v.toInt64 K M'')) → Q k M') : w_L_field x1 p0 p1 p2 p3 x3 M Q := by
  obtain ⟨V, ad, σ, ρ, ξ, n, cnt, h, N, B, A⟩ := hI
  obtain ⟨v0, v9, v11, v12, v13, rfl, rfl, rfl, rfl, e11, e12, e13⟩ := id N
  have D := A.1
  have c6 : ∀ s, s < 6 → cnt s ≤ 6 := fun s hs => (D.2.1 s hs).2.1
  have hno : ¬ V (8, n, zz σ n) := fun hq => by
    have := ((B _ hq).2.2.2.2.2.1 rfl).2
    simp only at this
    omega
  refine ⟨g_is h v0 rfl, k_field h v0 D.wk D.wp hno (fun no => ⟨fun _ => hQ 1 M (scr_ok h N) ⟨g_is h v9 rfl, m_field h v9 A.2.1 D.wk D.wp (fun _ M3 h3 => tl_ex h3 N (up_s _ _ _) (by decide) (hK _ (Inv.z h3 N B A EQz.up))) (fun ok => absurd ok no) (fun k ok => absurd ok no) (fun k ok => absurd ok no)⟩, fun q => absurd q (by decide), fun q => absurd q (by decide), Or.inl rfl⟩)
    (fun ok e4 no => ⟨fun q => absurd q (by decide), fun _ => hQ 2 M (scr_ok h N) ⟨g_is h v9 rfl, m_field h v9 A.2.1 D.wk D.wp (fun no' => absurd ok no') (fun _ _ _ M3 h3 => tl_ex h3 N (up_s _ _ _) (by decide) (hK _ (Inv.z h3 N B A EQz.up))) (fun k _ hm => hm.ref e4 no) (fun k _ hm => hm.ref e4 no)⟩, fun q => absurd q (by decide), Or.inr (Or.inl rfl)⟩)
    (fun k ok hm hf => ⟨fun q => absurd q (by decide), fun q => absurd q (by decide), fun _ => hQ 3 M (scr_ok h N) ⟨g_is h v9 rfl, m_field h v9 A.2.1 D.wk D.wp (fun no' => absurd ok no') (fun _ e4 no => hm.ref e4 no) (fun k _ _ _ M3 h3 => tl_ex h3 N (up_s _ _ _) (by decide) (hK _ (Inv.z h3 N B A EQz.up))) (fun k' _ hm' nf => by
      rw [hm.uni c6 hm'] at nf; exact absurd hf nf)⟩, Or.inr (Or.inr rfl)⟩)
    (fun k x5 g ok hm hfx nf M1 ad1 ρ1 a1 r1 r3 hL g1 => ?_)⟩
  have a1' : ∀ p, p ≠ 3 → p ≠ 8 → ad1 (p, 0, 0) = ad (p, 0, 0) := fun p q1 q2 => a1 _ (fun e => q1 (congrArg Prod.fst e)) (fun e => q2 (congrArg Prod.fst e))
  have N1 : Nam (fun y => y = ((8, n, zz σ n) : nm) ∨ V y) ad1 ξ (ad (12, 0, 0)) (ad (0, 0, 0)) (ad (9, 0, 0)) (ad (11, 0, 0)) L xs := ⟨Or.inr v0, Or.inr v9, Or.inr v11, Or.inr v12, Or.inr v13, a1' 0 (by omega) (by omega), a1' 9 (by omega) (by omega), a1' 11 (by omega) (by omega), a1' 12 (by omega) (by omega), e11, e12, e13⟩
  have u1 : ∀ y, (fun y => y = ((8, n, zz σ n) : nm) ∨ V y) y → y.1 = 11 → y = (11, 0, 0) := fun y hy e => hy.elim (fun q => by rw [q] at e; simp at e) (fun q => Bd.u11 B y q e)
  have Eh : EQh (fK σ n p0 p1 p2 p3 k g) σ := fun w hw _ _ => by
    obtain ⟨a, i, j⟩ := w
    exact fK_n (by simp only at hw; omega) (by simp only at hw; omega) (by simp only at hw; omega)
  refine w_out g1 N1 u1 fun M2 ξ2 h2 N2 f2 => hQ 0 M2 (scr_ok h2 N2) ⟨is2 h2 N2, ?_⟩
  have mf := m_field h2 (Or.inr v9) (Eh.rel A.2.1) D.wk D.wp (p0 := p0) (p1 := p1) (p2 := p2) (p3 := p3) (P := fun v M'' => Tl (ad (9, 0, 0)) (ad (11, 0, 0)) 0 v.toInt64 K M'') (fun no => absurd ok no) (fun _ e4 no => hm.ref e4 no) (fun k' _ hm' hf => by
      rw [hm.uni c6 hm'] at hf; exact absurd hf nf) (fun k' _ hm' _ M3 h3 => ?_)
  · rw [a1' 9 (by omega) (by omega)] at mf
    exact mf
  · rw [hm.uni c6 hm'] at h3
    have A' := A.field ok hfx nf r1 r3 hL
    have zn : zz (fS (fK σ n p0 p1 p2 p3 k g) (zz σ n) (lnn σ n) k p0 p1 p2 p3) n = zz σ n + 1 := by
      rw [fS_l.zz]
      have z5 := (D.2.2.1 n (Nat.le_refl n)).1.1.2
      show ((fK σ n p0 p1 p2 p3 k g) (7, 8 + n, 0)).toNatClampNeg = _
      rw [fK_7, nI_clamp (by omega)]
    refine tl_ok h3 N2 ?_ f2 (hK _ (Inv.of h3 N2 (fun y hy => ?_) A'))
    · simp [fS, up]
    · rcases hy with e | hy
      · rw [e]
        refine ⟨by simp, by simp, by simp, by simp, by simp, fun _ => ⟨Nat.le_refl n, ?_⟩, by simp⟩
        show zz σ n < _
        rw [zn]; omega
      · refine (B y hy).mono (fun c hc => ?_) (fun _ => Nat.le_refl _) (Nat.le_refl _)
        by_cases e : c = n
        · rw [e, zn]; omega
        · rw [fS_l.zz]
          show zz σ c ≤ ((fK σ n p0 p1 p2 p3 k g) (7, 8 + c, 0)).toNatClampNeg
          rw [fK_n (by omega) (by omega) (by omega)]
          exact Nat.le_refl _
theorem l_register (hI : Inv b x1 x2 x3 L xs M) (hK : ∀ M', Inv b x1 x2 x3 L xs M' → K M') {p : Int32} {Q : Int32 → zM → Prop} (hQ : ∀ k M', M' b = some (zS L xs) → (zIs M' x2 7 ∧ w_X6_register x2 p M' (fun v M'' => Tl x2 x3 k v.toInt64 K M'')) → Q k M') : w_L_register x1 p x3 M Q := by
  obtain ⟨V, ad, σ, ρ, ξ, n, cnt, h, N, B, A⟩ := hI
  obtain ⟨v0, v9, v11, v12, v13, rfl, rfl, rfl, rfl, e11, e12, e13⟩ := id N
  have D := A.1
  refine ⟨g_is h v0 rfl, k_register h v0 D.wk v13 e13 B D.T (fun s v hs hp hz el M1 g1 => w_out g1 N (Bd.u11 B) fun M2 ξ2 h2 N2 f2 => hQ 0 M2 (scr_ok h2 N2) ⟨g_is h2 v9 rfl, m_register h2 v9 (em_h.rel A.2.1) D.wk D.wm (em_h.wd A.2.2.1) D.T (fun s' v' hs' hp' _ el' σ3 M3 E e h3 => ?_) (fun no => absurd hp (no s hs)) (fun s' hs' hp' q => ?_) (fun s' i hs' hp' _ el' => ?_) (fun s' hs' hp' _ el' => ?_)⟩)
    (fun no => ⟨fun _ => hQ 1 M (scr_ok h N) ⟨g_is h v9 rfl, m_register h v9 A.2.1 D.wk D.wm A.2.2.1 D.T (fun s' v' hs' hp' => absurd hp' (no s' hs')) (fun _ σ2 M2 E e h2 => tl_ex h2 N e (by decide) (hK _ (Inv.z h2 N B A E))) (fun s' hs' hp' => absurd hp' (no s' hs')) (fun s' i hs' hp' => absurd hp' (no s' hs')) (fun s' hs' hp' => absurd hp' (no s' hs'))⟩, fun q => absurd q (by decide), Or.inl rfl⟩)
    (fun s hs hp bad => ⟨fun q => absurd q (by decide), fun _ => hQ 2 M (scr_ok h N) ⟨g_is h v9 rfl, m_register h v9 A.2.1 D.wk D.wm A.2.2.1 D.T (fun s' v' hs' hp' hz' el' => ?_) (fun no => absurd hp (no s hs)) (fun s' hs' hp' _ σ2 M2 E e h2 => tl_ex h2 N e (by decide) (hK _ (Inv.z h2 N B A E))) (fun s' i hs' hp' hz' el' k6 ac => ?_) (fun s' hs' hp' hz' el' k6 ac => ?_)⟩, Or.inr rfl⟩)
    (fun s i hs hp hz el k6 ac hi ei M1 V1 ad1 ρ1 ξ1 v1 a1 r1 ri hL q1 g1 => ?_) (fun s hs hp hz el k6 ac n36 ei M1 V1 ad1 ρ1 ξ1 v1 a1 r1 r0 ri hL1 hL hZ q1 g1 => ?_)⟩
  · obtain rfl := uS hs hs' hp hp'
    rw [el] at el'
    obtain rfl := Option.some.inj el'
    refine tl_ok h3 N2 ?_ f2 (hK _ (Inv.em h3 N2 B A E rfl))
    rw [up_n _ _ (fun e => by cases e), up_n _ _ (fun e => by cases e)]; exact e
  · obtain rfl := uS hs hs' hp hp'
    rcases q with q | ⟨q, -⟩
    · exact absurd q hz
    · rw [el] at q; cases q
  · obtain rfl := uS hs hs' hp hp'
    rw [el] at el'; cases el'
  · obtain rfl := uS hs hs' hp hp'
    rw [el] at el'; cases el'
  · obtain rfl := uS hs hs' hp hp'
    rcases bad with q | ⟨q, -⟩
    · exact absurd q hz'
    · rw [q] at el'; cases el'
  · obtain rfl := uS hs hs' hp hp'
    rcases bad with q | ⟨-, q | q⟩
    · exact absurd q hz'
    · omega
    · rw [ac] at q; cases q
  · obtain rfl := uS hs hs' hp hp'
    rcases bad with q | ⟨-, q | q⟩
    · exact absurd q hz'
    · omega
    · rw [ac] at q; cases q
  · -- a like schema has a number
    have a1' : ∀ p, p ≠ 3 → p ≠ 4 → p < 14 → ad1 (p, 0, 0) = ad (p, 0, 0) := fun p q1 q2 q3 => a1 _ (fun e => q1 (congrArg Prod.fst e)) (fun e => q2 (congrArg Prod.fst e)) q3
    have vi : ∀ y, V y → V1 y := fun y hy => (v1 y).2 (Or.inr hy)
    have N1 : Nam V1 ad1 ξ1 (ad (12, 0, 0)) (ad (0, 0, 0)) (ad (9, 0, 0)) (ad (11, 0, 0)) L xs := ⟨vi _ v0, vi _ v9, vi _ v11, vi _ v12, vi _ v13, a1' 0 (by omega) (by omega) (by omega), a1' 9 (by omega) (by omega) (by omega), a1' 11 (by omega) (by omega) (by omega), a1' 12 (by omega) (by omega) (by omega), by rw [q1 11 (by omega)]; exact e11, (q1 12 (by omega)).trans e12, (q1 13 (by omega)).trans e13⟩
    have u1 : ∀ y, V1 y → y.1 = 11 → y = (11, 0, 0) := fun y hy e => ((v1 y).1 hy).elim (fun q => by rw [q] at e; simp at e) (fun q => Bd.u11 B y q e)
    have Eh : EQh (vaI (emS σ n) s (cnt s)) σ := va_h.trans em_h
    refine w_out g1 N1 u1 fun M2 ξ2 h2 N2 f2 => hQ 0 M2 (scr_ok h2 N2) ⟨is2 h2 N2, ?_⟩
    have mr := m_register h2 (vi _ v9) (Eh.rel A.2.1) D.wk D.wm (Eh.wd A.2.2.1) D.T (p := p) (P := fun v M'' => Tl (ad (9, 0, 0)) (ad (11, 0, 0)) 0 v.toInt64 K M'') (fun s' v' hs' hp' _ el' => by
        obtain rfl := uS hs hs' hp hp'
        rw [el] at el'; cases el') (fun no => absurd hp (no s hs)) (fun s' hs' hp' q => by
        obtain rfl := uS hs hs' hp hp'
        rcases q with q | ⟨-, q | q⟩
        · exact absurd q hz
        · omega
        · rw [ac] at q; cases q) (fun s' i' hs' hp' _ _ _ _ hi' ei' σ3 M3 E e h3 => ?_) (fun s' hs' hp' _ _ _ _ _ ei' => by rw [ei] at ei'; cases ei')
    · rw [a1' 9 (by omega) (by omega) (by omega)] at mr
      exact mr
    · obtain rfl := uS hs hs' hp hp'
      rw [ei] at ei'
      obtain rfl := Option.some.inj ei'
      have A' := A.like hs k6 hi r1 ri hL E
      have El : EQl (rgS σ3 s' (cnt s') i) (vaI (emS σ n) s' (cnt s')) := rgS_l.trans E.l
      have hd : ∀ j, ρ1 (4, 8 + n, j) = 0 := fun j => by
        rw [r1 _ (fun e => by have := congrArg (fun w : nm => w.2.1) e; simp only at this; omega) (fun e => by cases e) (fun e => by cases e)]
        exact (em_em D).2.1 j
      refine tl_ok h3 N2 (rgS_16.trans e) f2 (hK _ (Inv.of (h3.drop hd) N2.drop (fun y hy => ?_) A'))
      rcases (v1 y).1 hy.1 with q | q
      · rw [q]
        refine ⟨by simp, by simp, fun _ => ?_, by simp, by simp, by simp, by simp⟩
        show cnt s' < uc cnt s' s'
        rw [uc_s]; omega
      · refine Bd.drop (fun c hc => ?_) uc_le (B y q) hy.2
        rw [El.zz]
        show zz σ c ≤ ((vaI (emS σ n) s' (cnt s')) (7, 8 + c, 0)).toNatClampNeg
        rw [vaI_n (fun e => by cases e) (fun e => by cases e) (fun e => by have := congrArg (fun w : nm => w.2.1) e; simp only at this; omega), emS_n (fun e => by cases e) (fun e => by have := congrArg (fun w : nm => w.2.1) e; simp only at this; omega) (fun e => by cases e)]
        exact Nat.le_refl _
  · -- a new number
    have ns4 : ∀ y, nS (n + 1) y → y.1 ≠ 11 ∧ y.1 ≠ 0 ∧ y.1 < 8 := fun y hy => by rcases hy with e | e | e | e | e <;> (rw [e]; simp)
    have a1' : ∀ p, p = 0 ∨ (8 < p ∧ p < 14) → ad1 (p, 0, 0) = ad (p, 0, 0) := fun p q => a1 _ (fun e => by have := ns4 _ e; simp only at this; omega) (fun e => by have := congrArg Prod.fst e; simp only at this; omega) (fun e => by have := congrArg Prod.fst e; simp only at this; omega) (fun e => by have := congrArg Prod.fst e; simp only at this; omega) (by simp only; omega)
    have vi : ∀ y, V y → V1 y := fun y hy => (v1 y).2 (Or.inr (Or.inr hy))
    have N1 : Nam V1 ad1 ξ1 (ad (12, 0, 0)) (ad (0, 0, 0)) (ad (9, 0, 0)) (ad (11, 0, 0)) L xs := ⟨vi _ v0, vi _ v9, vi _ v11, vi _ v12, vi _ v13, a1' 0 (by omega), a1' 9 (by omega), a1' 11 (by omega), a1' 12 (by omega), by rw [q1 11 (by omega)]; exact e11, (q1 12 (by omega)).trans e12, (q1 13 (by omega)).trans e13⟩
    have u1 : ∀ y, V1 y → y.1 = 11 → y = (11, 0, 0) := fun y hy e => by
      rcases (v1 y).1 hy with q | q | q
      · rw [q] at e; simp at e
      · exact absurd e (ns4 y q).1
      · exact Bd.u11 B y q e
    have Eh : EQh (vaI (tkI σ n) s (cnt s)) σ := va_h.trans tk_h
    refine w_out g1 N1 u1 fun M2 ξ2 h2 N2 f2 => hQ 0 M2 (scr_ok h2 N2) ⟨is2 h2 N2, ?_⟩
    have mr := m_register h2 (vi _ v9) (Eh.rel A.2.1) D.wk D.wm (Eh.wd A.2.2.1) D.T (p := p) (P := fun v M'' => Tl (ad (9, 0, 0)) (ad (11, 0, 0)) 0 v.toInt64 K M'') (fun s' v' hs' hp' _ el' => by
        obtain rfl := uS hs hs' hp hp'
        rw [el] at el'; cases el') (fun no => absurd hp (no s hs)) (fun s' hs' hp' q => by
        obtain rfl := uS hs hs' hp hp'
        rcases q with q | ⟨-, q | q⟩
        · exact absurd q hz
        · omega
        · rw [ac] at q; cases q) (fun s' i' hs' hp' _ _ _ _ hi' ei' => by rw [ei] at ei'; cases ei') (fun s' hs' hp' _ _ _ _ _ ei' σ3 M3 E e h3 => ?_)
    · rw [a1' 9 (by omega)] at mr
      exact mr
    · obtain rfl := uS hs hs' hp hp'
      have A' := A.new hs k6 n36 hz r1 r0 ri hL1 hL hZ E
      have El : EQl (rgS (nbI σ3 n) s' (cnt s') n) (vaI (tkI σ n) s' (cnt s')) := rgS_l.trans (nbI_l.trans E.l)
      refine tl_ok h3 N2 ?_ f2 (hK _ (Inv.of h3 N2 (fun y hy => ?_) A'))
      · rw [rgS_16]
        unfold nbI
        rw [up_n _ _ (fun e => by cases e), up_n _ _ (fun e => by cases e), up_n _ _ (fun e => by cases e), cpI_n (Or.inl (by simp))]
        exact e
      · rcases (v1 y).1 hy with q | q | q
        · rw [q]
          refine ⟨by simp, by simp, fun _ => ?_, by simp, by simp, by simp, by simp⟩
          show cnt s' < uc cnt s' s'
          rw [uc_s]; omega
        · rcases q with q | q | q | q | q <;> (rw [q]; simp [Bd])
        · refine (B y q).mono (fun c hc => ?_) uc_le (by omega)
          rw [El.zz]
          show zz σ c ≤ ((vaI (tkI σ n) s' (cnt s')) (7, 8 + c, 0)).toNatClampNeg
          rw [vaI_n (fun e => by cases e) (fun e => by cases e) (fun e => by have := congrArg (fun w : nm => w.2.1) e; simp only at this; omega), tkI_n (by simp) (Or.inr (by simp only; omega)) (Or.inl (by simp))]
          exact Nat.le_refl _
