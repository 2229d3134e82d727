/-! ===== the pure part: the law's calls that only ask ===== -/
variable {V V' : nm → Prop} {ad ad' : nm → Nat} {σ σ' τ τ' X S : nI2} {ρ ρ' π π' : nN2} {ξ ξ' : Nat → zE} {M : zM} {x y w : nm} {n n' c d s i k b x1 x2 x3 L : Nat} {cnt cnt' : Nat → Nat} {xs : Nat → Int32} {K : zM → Prop}
/-- the law's own names -/
def Nam (V : nm → Prop) (ad : nm → Nat) (ξ : Nat → zE) (b x1 x2 x3 L : Nat) (xs : Nat → Int32) : Prop := V (0, 0, 0) ∧ V (9, 0, 0) ∧ V (11, 0, 0) ∧ V (12, 0, 0) ∧ V (13, 0, 0) ∧ ad (0, 0, 0) = x1 ∧ ad (9, 0, 0) = x2 ∧ ad (11, 0, 0) = x3 ∧ ad (12, 0, 0) = b ∧ (∃ f, ξ 11 = zJ 1 f) ∧ ξ 12 = zS L xs ∧ ξ 13 = zN
/-- what holds between two calls of the law -/
def Inv (b x1 x2 x3 L : Nat) (xs : Nat → Int32) (M : zM) : Prop := ∃ V ad σ ρ ξ n cnt, zC V ad σ ρ ξ M ∧ Nam V ad ξ b x1 x2 x3 L xs ∧ (∀ y, V y → Bd n cnt σ y) ∧ All n cnt σ ρ
theorem Bd.u11 (B : ∀ y, V y → Bd n cnt σ y) : ∀ y, V y → y.1 = 11 → y = (11, 0, 0) := fun y hy e => by
  have := (B y hy).2.2.2.2.2.2 (by omega)
  obtain ⟨a, i⟩ := y
  simp only at e this
  rw [e, this]
theorem Bd.l (E : EQl σ' σ) (B : ∀ y, V y → Bd n cnt σ y) : ∀ y, V y → Bd n cnt σ' y := fun y hy => by
  obtain ⟨b1, b2, b3, b4, b5, b6, b7⟩ := B y hy
  refine ⟨b1, b2, b3, b4, b5, fun e => ?_, b7⟩
  have A : Ag (y.2.1 + 1) σ' σ (fun _ => 0) (fun _ => 0) := E.ag
  rw [A.zq (by omega)]
  exact b6 e
/-- the end of a call in the law -/
def Tl (x2 x3 : Nat) (k : Int32) (v : Int64) (K : zM → Prop) (M : zM) : Prop := zIs M x2 7 ∧ w_X6_thrown x2 M (fun v44 M43 => ((v44 = k → ((¬ k = (0 : Int32) → K M43) ∧ (k = (0 : Int32) → zAl M43 x3 (0 : Int32) (fun v45 => (((lg_cmp v45 v) = (0 : Int32) → K M43) ∧ (¬ (lg_cmp v45 v) = (0 : Int32) → False)))))) ∧ (¬ v44 = k → False)))
def TlB (x2 x3 : Nat) (k r : Int32) (K : zM → Prop) (M : zM) : Prop := zIs M x2 7 ∧ w_X6_thrown x2 M (fun v44 M43 => ((v44 = k → ((¬ k = (0 : Int32) → K M43) ∧ (k = (0 : Int32) → zAl M43 x3 (0 : Int32) (fun v45 => ((r = (0 : Int32) → (((lg_cmp v45 (0 : Int64)) = (0 : Int32) → K M43) ∧ (¬ (lg_cmp v45 (0 : Int64)) = (0 : Int32) → False))) ∧ (¬ r = (0 : Int32) → (((lg_cmp v45 (1 : Int64)) = (0 : Int32) → K M43) ∧ (¬ (lg_cmp v45 (1 : Int64)) = (0 : Int32) → False)))))))) ∧ (¬ v44 = k → False)))
theorem lg_same {v : Int64} {A : Prop} (h : A) : ((lg_cmp v v) = (0 : Int32) → A) ∧ (¬ (lg_cmp v v) = (0 : Int32) → False) := ⟨fun _ => h, fun q => q ((lg_cmp_eq v v).2 rfl)⟩
theorem scr_ok (h : zC V ad σ ρ ξ M) (N : Nam V ad ξ b x1 x2 x3 L xs) : M b = some (zS L xs) := by
  obtain ⟨v0, v9, v11, v12, v13, -, -, -, rfl, e11, e12, e13⟩ := N
  rw [h.1 _ v12, cell_k (by omega), e12]
theorem s_as {j : Nat} {x : Int32} (h : M b = some (zS L xs)) (hx : x = nI j) (hj : j < L) (hL : L ≤ 2560) {K : Int32 → Prop} (hK : K (xs j)) : zAs M b x K := by
  subst hx
  refine ⟨L, xs, h, vp_in_nI hj (by omega), ?_⟩
  rw [nI_clamp (by omega)]; exact hK
theorem w_out (h : zC V ad σ ρ ξ M) (N : Nam V ad ξ b x1 x2 x3 L xs) (hu : ∀ y, V y → y.1 = 11 → y = (11, 0, 0)) {v : Int64} {K : zM → Prop} (hK : ∀ M' ξ', zC V ad σ ρ ξ' M' → Nam V ad ξ' b x1 x2 x3 L xs → (∃ f, ξ' 11 = zJ 1 f ∧ f 0 = v) → K M') : zSl M x3 (0 : Int32) v K := by
  obtain ⟨v0, v9, v11, v12, v13, q1, q2, rfl, q3, ⟨f, e11⟩, e12, e13⟩ := N
  have c11 : cell ad σ ρ ξ (11, 0, 0) = zJ 1 f := e11
  refine ⟨1, f, (h.1 _ v11).trans (congrArg some c11), vp_in_nI (n := 0) (by omega) (by omega), hK _ _ (h.X (k := 11) (i := 0) (j := 0) v11 (by omega) (by rw [c11]; exact fun e => by cases e) hu) ⟨v0, v9, v11, v12, v13, q1, q2, rfl, q3, ⟨_, if_pos rfl⟩, (if_neg (by omega)).trans e12, (if_neg (by omega)).trans e13⟩ ⟨_, if_pos rfl, ?_⟩⟩
  exact if_pos rfl
theorem tl_ex (h : zC V ad σ ρ ξ M) (N : Nam V ad ξ b x1 x2 x3 L xs) {k : Int32} (e : σ (16, 0, 0) = k) (hk : ¬ k = 0) (hK : K M) {v : Int64} : Tl x2 x3 k v K M := by
  obtain ⟨v0, v9, v11, v12, v13, q1, rfl, q2, q3, ⟨f, e11⟩, e12, e13⟩ := N
  exact ⟨g_is h v9 rfl, g_i h v9 rfl rfl ⟨fun _ => ⟨fun _ => hK, fun q => absurd q hk⟩, fun q => q e⟩⟩
theorem tb_ex (h : zC V ad σ ρ ξ M) (N : Nam V ad ξ b x1 x2 x3 L xs) {k : Int32} (e : σ (16, 0, 0) = k) (hk : ¬ k = 0) (hK : K M) {r : Int32} : TlB x2 x3 k r K M := by
  obtain ⟨v0, v9, v11, v12, v13, q1, rfl, q2, q3, ⟨f, e11⟩, e12, e13⟩ := N
  exact ⟨g_is h v9 rfl, g_i h v9 rfl rfl ⟨fun _ => ⟨fun _ => hK, fun q => absurd q hk⟩, fun q => q e⟩⟩
theorem out_l (h : zC V ad σ ρ ξ M) (N : Nam V ad ξ b x1 x2 x3 L xs) {v : Int64} (hf : ∃ f, ξ 11 = zJ 1 f ∧ f 0 = v) {K : Int64 → Prop} (hK : K v) : zAl M x3 (0 : Int32) K := by
  obtain ⟨v0, v9, v11, v12, v13, q1, q2, rfl, q3, -, e12, e13⟩ := N
  obtain ⟨f, e11, e⟩ := hf
  refine ⟨1, f, (h.1 _ v11).trans (congrArg some e11), vp_in_nI (n := 0) (by omega) (by omega), ?_⟩
  have : f (0 : Int32).toNatClampNeg = v := e
  rw [this]; exact hK
theorem tl_ok (h : zC V ad σ ρ ξ M) (N : Nam V ad ξ b x1 x2 x3 L xs) (e : σ (16, 0, 0) = 0) {v : Int64} (hf : ∃ f, ξ 11 = zJ 1 f ∧ f 0 = v) (hK : K M) : Tl x2 x3 0 v K M := by
  have o := fun (KK : Int64 → Prop) (hh : KK v) => out_l h N hf (K := KK) hh
  obtain ⟨v0, v9, v11, v12, v13, q1, rfl, q2, q3, -, e12, e13⟩ := N
  exact ⟨g_is h v9 rfl, g_i h v9 rfl rfl ⟨fun _ => ⟨fun q => absurd rfl q, fun _ => o _ (lg_same hK)⟩, fun q => q e⟩⟩
theorem tb_ok (h : zC V ad σ ρ ξ M) (N : Nam V ad ξ b x1 x2 x3 L xs) (e : σ (16, 0, 0) = 0) {t : Bool} (hf : ∃ f, ξ 11 = zJ 1 f ∧ f 0 = (if t then (1 : Int64) else 0)) (hK : K M) : TlB x2 x3 0 (bI t) K M := by
  have o := fun (KK : Int64 → Prop) (hh : KK (if t then (1 : Int64) else 0)) => out_l h N hf (K := KK) hh
  obtain ⟨v0, v9, v11, v12, v13, q1, rfl, q2, q3, -, e12, e13⟩ := N
  refine ⟨g_is h v9 rfl, g_i h v9 rfl rfl ⟨fun _ => ⟨fun q => absurd rfl q, fun _ => o _ ?_⟩, fun q => q e⟩⟩
  cases t
  · exact ⟨fun _ => lg_same hK, fun q => absurd rfl q⟩
  · exact ⟨fun q => absurd q (by decide), fun _ => lg_same hK⟩
theorem Inv.z (h : zC V ad σ' ρ ξ M) (N : Nam V ad ξ b x1 x2 x3 L xs) (B : ∀ y, V y → Bd n cnt σ y) (A : All n cnt σ ρ) (E : EQz σ' σ) : Inv b x1 x2 x3 L xs M := ⟨V, ad, σ', ρ, ξ, n, cnt, h, N, Bd.l E.l B, A.ask E⟩
theorem uS {p : Int32} {s s' : Nat} (hs : s < 6) (hs' : s' < 6) (e : p = nI s) (e' : p = nI s') : s' = s := by
  rw [e] at e'
  exact ((nI_eq (by omega) (by omega)).1 e').symm
theorem uV {q : Int32} {s v v' : Nat} (A : All n cnt σ ρ) (h : IsV cnt σ s v) (h' : IsV cnt σ s v') (e : q = nI v) (e' : q = nI v') : v' = v := by
  have := (A.1.2.1 s h.1).2.1
  have := h.2.1
  have := h'.2.1
  rw [e] at e'
  exact ((nI_eq (by omega) (by omega)).1 e').symm
theorem nV {q : Int32} {s v : Nat} (h : IsV cnt σ s v) (e : q = nI v) (no : NoV cnt σ s q) {P : Prop} : P := absurd (no v e h.2.1) h.2.2
theorem l_versions (hI : Inv b x1 x2 x3 L xs M) (hK : ∀ M', Inv b x1 x2 x3 L xs M' → K M') {p : Int32} {Q : Int32 → zM → Prop} (hQ : ∀ k M', M' b = some (zS L xs) → (zIs M' x2 7 ∧ w_X6_versions x2 p M' (fun v M'' => Tl x2 x3 k v.toInt64 K M'')) → Q k M') : w_L_versions x1 p x3 M Q := by
  obtain ⟨V, ad, σ, ρ, ξ, n, cnt, h, N, B, A⟩ := hI
  obtain ⟨v0, v9, v11, v12, v13, rfl, rfl, rfl, rfl, e11, e12, e13⟩ := id N
  refine ⟨g_is h v0 rfl, k_versions h v0 A.1.wk (fun s hs hp => w_out h N (Bd.u11 B) fun M1 ξ1 h1 N1 f1 => hQ 0 M1 (scr_ok h1 N1) ⟨g_is h1 v9 rfl, m_versions h1 v9 A.2.1 (fun s' hs' hp' σ2 M2 E e h2 => ?_) (fun no => absurd hp (no s hs))⟩) (fun no => ⟨fun _ => hQ 1 M (scr_ok h N) ⟨g_is h v9 rfl, m_versions h v9 A.2.1 (fun s' hs' hp' => absurd hp' (no s' hs')) (fun _ σ2 M2 E e h2 => tl_ex h2 N e (by decide) (hK _ (Inv.z h2 N B A E)))⟩, rfl⟩)⟩
  obtain rfl := uS hs hs' hp hp'
  exact tl_ok h2 N1 e f1 (hK _ (Inv.z h2 N1 B A E))
theorem l_number (hI : Inv b x1 x2 x3 L xs M) (hK : ∀ M', Inv b x1 x2 x3 L xs M' → K M') {p q : Int32} {Q : Int32 → zM → Prop} (hQ : ∀ k M', M' b = some (zS L xs) → (zIs M' x2 7 ∧ w_X6_number x2 p q M' (fun v M'' => Tl x2 x3 k v.toInt64 K M'')) → Q k M') : w_L_number x1 p q x3 M Q := by
  obtain ⟨V, ad, σ, ρ, ξ, n, cnt, h, N, B, A⟩ := hI
  obtain ⟨v0, v9, v11, v12, v13, rfl, rfl, rfl, rfl, e11, e12, e13⟩ := id N
  refine ⟨g_is h v0 rfl, k_number h v0 A.1.wk A.1.rank (fun s v hv hp hq => w_out h N (Bd.u11 B) fun M1 ξ1 h1 N1 f1 => hQ 0 M1 (scr_ok h1 N1) ⟨g_is h1 v9 rfl, m_number h1 v9 A.2.1 A.1.wk (fun s' v' hv' hp' hq' σ2 M2 E e h2 => ?_) (fun no => absurd hp (no s hv.1)) (fun s' hs' hp' no => ?_)⟩) (fun no => ⟨fun _ => hQ 1 M (scr_ok h N) ⟨g_is h v9 rfl, m_number h v9 A.2.1 A.1.wk (fun s' v' hv' hp' => absurd hp' (no s' hv'.1)) (fun _ σ2 M2 E e h2 => tl_ex h2 N e (by decide) (hK _ (Inv.z h2 N B A E))) (fun s' hs' hp' => absurd hp' (no s' hs'))⟩, fun q => absurd q (by decide), Or.inl rfl⟩)
    (fun s hs hp no => ⟨fun q => absurd q (by decide), fun _ => hQ 2 M (scr_ok h N) ⟨g_is h v9 rfl, m_number h v9 A.2.1 A.1.wk (fun s' v' hv' hp' hq' => ?_) (fun no' => absurd hp (no' s hs)) (fun s' hs' hp' _ σ2 M2 E e h2 => tl_ex h2 N e (by decide) (hK _ (Inv.z h2 N B A E)))⟩, Or.inr rfl⟩)⟩
  · obtain rfl := uS hv.1 hv'.1 hp hp'
    obtain rfl := uV A hv hv' hq hq'
    exact tl_ok h2 N1 e f1 (hK _ (Inv.z h2 N1 B A E))
  · obtain rfl := uS hv.1 hs' hp hp'
    exact nV hv hq no
  · obtain rfl := uS hs hv'.1 hp hp'
    exact nV hv' hq' no
theorem l_length (hI : Inv b x1 x2 x3 L xs M) (hK : ∀ M', Inv b x1 x2 x3 L xs M' → K M') {p q : Int32} {Q : Int32 → zM → Prop} (hQ : ∀ k M', M' b = some (zS L xs) → (zIs M' x2 7 ∧ w_X6_length x2 p q M' (fun v M'' => Tl x2 x3 k v.toInt64 K M'')) → Q k M') : w_L_length x1 p q x3 M Q := by
  obtain ⟨V, ad, σ, ρ, ξ, n, cnt, h, N, B, A⟩ := hI
  obtain ⟨v0, v9, v11, v12, v13, rfl, rfl, rfl, rfl, e11, e12, e13⟩ := id N
  refine ⟨g_is h v0 rfl, k_length h v0 A.1.wk A.1.wp (fun s v hv hp hq => w_out h N (Bd.u11 B) fun M1 ξ1 h1 N1 f1 => hQ 0 M1 (scr_ok h1 N1) ⟨g_is h1 v9 rfl, m_length h1 v9 A.2.1 A.1.wk (fun s' v' hv' hp' hq' σ2 M2 E e h2 => ?_) (fun no => absurd hp (no s hv.1)) (fun s' hs' hp' no => ?_)⟩) (fun no => ⟨fun _ => hQ 1 M (scr_ok h N) ⟨g_is h v9 rfl, m_length h v9 A.2.1 A.1.wk (fun s' v' hv' hp' => absurd hp' (no s' hv'.1)) (fun _ σ2 M2 E e h2 => tl_ex h2 N e (by decide) (hK _ (Inv.z h2 N B A E))) (fun s' hs' hp' => absurd hp' (no s' hs'))⟩, fun q => absurd q (by decide), Or.inl rfl⟩)
    (fun s hs hp no => ⟨fun q => absurd q (by decide), fun _ => hQ 2 M (scr_ok h N) ⟨g_is h v9 rfl, m_length h v9 A.2.1 A.1.wk (fun s' v' hv' hp' hq' => ?_) (fun no' => absurd hp (no' s hs)) (fun s' hs' hp' _ σ2 M2 E e h2 => tl_ex h2 N e (by decide) (hK _ (Inv.z h2 N B A E)))⟩, Or.inr rfl⟩)⟩
  · obtain rfl := uS hv.1 hv'.1 hp hp'
    obtain rfl := uV A hv hv' hq hq'
    exact tl_ok h2 N1 e f1 (hK _ (Inv.z h2 N1 B A E))
  · obtain rfl := uS hv.1 hs' hp hp'
    exact nV hv hq no
  · obtain rfl := uS hs hv'.1 hp hp'
    exact nV hv' hq' no
/-- a flag put out as a long -/
theorem w_outb (h : zC V ad σ ρ ξ M) (N : Nam V ad ξ b x1 x2 x3 L xs) (hu : ∀ y, V y → y.1 = 11 → y = (11, 0, 0)) {t : Bool} {K : zM → Prop} (hK : ∀ M' ξ', zC V ad σ ρ ξ' M' → Nam V ad ξ' b x1 x2 x3 L xs → (∃ f, ξ' 11 = zJ 1 f ∧ f 0 = (if t then (1 : Int64) else 0)) → K M') : (bI t = 0 → zSl M x3 (0 : Int32) (0 : Int64) K) ∧ (¬ bI t = 0 → zSl M x3 (0 : Int32) (1 : Int64) K) := by
  cases t
  · exact ⟨fun _ => w_out h N hu hK, fun q => absurd rfl q⟩
  · exact ⟨fun q => absurd q (by decide), fun _ => w_out h N hu hK⟩
theorem l_isThere (hI : Inv b x1 x2 x3 L xs M) (hK : ∀ M', Inv b x1 x2 x3 L xs M' → K M') {p q : Int32} {Q : Int32 → zM → Prop} (hQ : ∀ k M', M' b = some (zS L xs) → (zIs M' x2 7 ∧ w_X6_isThere x2 p q M' (fun v M'' => TlB x2 x3 k v K M'')) → Q k M') : w_L_isThere x1 p q x3 M Q := by
  obtain ⟨V, ad, σ, ρ, ξ, n, cnt, h, N, B, A⟩ := hI
  obtain ⟨v0, v9, v11, v12, v13, rfl, rfl, rfl, rfl, e11, e12, e13⟩ := id N
  refine ⟨g_is h v0 rfl, k_isThere h v0 A.1.wk (fun s v hv hp hq => w_outb h N (Bd.u11 B) fun M1 ξ1 h1 N1 f1 => hQ 0 M1 (scr_ok h1 N1) ⟨g_is h1 v9 rfl, m_isThere h1 v9 A.2.1 A.1.wk (fun s' v' hv' hp' hq' σ2 M2 E e h2 => ?_) (fun no => absurd hp (no s hv.1)) (fun s' hs' hp' no => ?_)⟩) (fun no => ⟨fun _ => hQ 1 M (scr_ok h N) ⟨g_is h v9 rfl, m_isThere h v9 A.2.1 A.1.wk (fun s' v' hv' hp' => absurd hp' (no s' hv'.1)) (fun _ σ2 M2 E e h2 => tb_ex h2 N e (by decide) (hK _ (Inv.z h2 N B A E))) (fun s' hs' hp' => absurd hp' (no s' hs'))⟩, fun q => absurd q (by decide), Or.inl rfl⟩)
    (fun s hs hp no => ⟨fun q => absurd q (by decide), fun _ => hQ 2 M (scr_ok h N) ⟨g_is h v9 rfl, m_isThere h v9 A.2.1 A.1.wk (fun s' v' hv' hp' hq' => ?_) (fun no' => absurd hp (no' s hs)) (fun s' hs' hp' _ σ2 M2 E e h2 => tb_ex h2 N e (by decide) (hK _ (Inv.z h2 N B A E)))⟩, Or.inr rfl⟩)⟩
  · obtain rfl := uS hv.1 hv'.1 hp hp'
    obtain rfl := uV A hv hv' hq hq'
    exact tb_ok h2 N1 e f1 (hK _ (Inv.z h2 N1 B A E))
  · obtain rfl := uS hv.1 hs' hp hp'
    exact nV hv hq no
  · obtain rfl := uS hs hv'.1 hp hp'
    exact nV hv' hq' no
theorem l_isAccepted (hI : Inv b x1 x2 x3 L xs M) (hK : ∀ M', Inv b x1 x2 x3 L xs M' → K M') {p : Int32} {Q : Int32 → zM → Prop} (hQ : ∀ k M', M' b = some (zS L xs) → (zIs M' x2 7 ∧ w_X6_isAccepted x2 p M' (fun v M'' => TlB x2 x3 k v K M'')) → Q k M') : w_L_isAccepted x1 p x3 M Q := by
  obtain ⟨V, ad, σ, ρ, ξ, n, cnt, h, N, B, A⟩ := hI
  obtain ⟨v0, v9, v11, v12, v13, rfl, rfl, rfl, rfl, e11, e12, e13⟩ := id N
  refine ⟨g_is h v0 rfl, k_isAccepted h v0 A.1.wk (fun s hs hp hz => w_outb h N (Bd.u11 B) fun M1 ξ1 h1 N1 f1 => hQ 0 M1 (scr_ok h1 N1) ⟨g_is h1 v9 rfl, m_isAccepted h1 v9 A.2.1 A.1.wk A.1.wm (fun s' hs' hp' _ σ2 M2 E e h2 => ?_) (fun no => absurd hp (no s hs)) (fun s' hs' hp' no => absurd no hz)⟩) (fun no => ⟨fun _ => hQ 1 M (scr_ok h N) ⟨g_is h v9 rfl, m_isAccepted h v9 A.2.1 A.1.wk A.1.wm (fun s' hs' hp' => absurd hp' (no s' hs')) (fun _ σ2 M2 E e h2 => tb_ex h2 N e (by decide) (hK _ (Inv.z h2 N B A E))) (fun s' hs' hp' => absurd hp' (no s' hs'))⟩, fun q => absurd q (by decide), Or.inl rfl⟩)
    (fun s hs hp hz => ⟨fun q => absurd q (by decide), fun _ => hQ 2 M (scr_ok h N) ⟨g_is h v9 rfl, m_isAccepted h v9 A.2.1 A.1.wk A.1.wm (fun s' hs' hp' hz' => absurd hz hz') (fun no' => absurd hp (no' s hs)) (fun s' hs' hp' _ σ2 M2 E e h2 => tb_ex h2 N e (by decide) (hK _ (Inv.z h2 N B A E)))⟩, Or.inr rfl⟩)⟩
  obtain rfl := uS hs hs' hp hp'
  exact tb_ok h2 N1 e f1 (hK _ (Inv.z h2 N1 B A E))
theorem l_isRecord (hI : Inv b x1 x2 x3 L xs M) (hK : ∀ M', Inv b x1 x2 x3 L xs M' → K M') {p q : Int32} {Q : Int32 → zM → Prop} (hQ : ∀ k M', M' b = some (zS L xs) → (zIs M' x2 7 ∧ w_X6_isRecord x2 p q M' (fun v M'' => TlB x2 x3 k v K M'')) → Q k M') : w_L_isRecord x1 p q x3 M Q := by
  obtain ⟨V, ad, σ, ρ, ξ, n, cnt, h, N, B, A⟩ := hI
  obtain ⟨v0, v9, v11, v12, v13, rfl, rfl, rfl, rfl, e11, e12, e13⟩ := id N
  obtain ⟨r, s0, u, r1, r2, r3, r4, r5, RR⟩ := id A.2.2.2
  refine ⟨g_is h v0 rfl, k_isRecord h v0 A.1.wk A.1.wp r1 RR.2.1 RR.1 (fun s v hv hp hq => w_outb h N (Bd.u11 B) fun M1 ξ1 h1 N1 f1 => hQ 0 M1 (scr_ok h1 N1) ⟨g_is h1 v9 rfl, m_isRecord h1 v9 A.2.1 A.1.wk A.1.wp A.1.wq RR (fun s' v' hv' hp' hq' σ2 M2 E e h2 => ?_) (fun no => absurd hp (no s hv.1)) (fun s' hs' hp' no => ?_)⟩) (fun no => ⟨fun _ => hQ 1 M (scr_ok h N) ⟨g_is h v9 rfl, m_isRecord h v9 A.2.1 A.1.wk A.1.wp A.1.wq RR (fun s' v' hv' hp' => absurd hp' (no s' hv'.1)) (fun _ σ2 M2 E e h2 => tb_ex h2 N e (by decide) (hK _ (Inv.z h2 N B A E))) (fun s' hs' hp' => absurd hp' (no s' hs'))⟩, fun q => absurd q (by decide), Or.inl rfl⟩)
    (fun s hs hp no => ⟨fun q => absurd q (by decide), fun _ => hQ 2 M (scr_ok h N) ⟨g_is h v9 rfl, m_isRecord h v9 A.2.1 A.1.wk A.1.wp A.1.wq RR (fun s' v' hv' hp' hq' => ?_) (fun no' => absurd hp (no' s hs)) (fun s' hs' hp' _ σ2 M2 E e h2 => tb_ex h2 N e (by decide) (hK _ (Inv.z h2 N B A E)))⟩, Or.inr rfl⟩)⟩
  · obtain rfl := uS hv.1 hv'.1 hp hp'
    obtain rfl := uV A hv hv' hq hq'
    exact tb_ok h2 N1 e f1 (hK _ (Inv.z h2 N1 B A E))
  · obtain rfl := uS hv.1 hs' hp hp'
    exact nV hv hq no
  · obtain rfl := uS hs hv'.1 hp hp'
    exact nV hv' hq' no
theorem l_valueAt (hI : Inv b x1 x2 x3 L xs M) (hK : ∀ M', Inv b x1 x2 x3 L xs M' → K M') {p : Int32} {Q : Int32 → zM → Prop} (hQ : ∀ k M', M' b = some (zS L xs) → (zIs M' x2 7 ∧ w_X6_valueAt x2 p M' (fun v M'' => Tl x2 x3 k v.toInt64 K M'')) → Q k M') : w_L_valueAt x1 p x3 M Q := by
  obtain ⟨V, ad, σ, ρ, ξ, n, cnt, h, N, B, A⟩ := hI
  obtain ⟨v0, v9, v11, v12, v13, rfl, rfl, rfl, rfl, e11, e12, e13⟩ := id N
  obtain ⟨r, s0, u, r1, r2, r3, r4, r5, RR⟩ := id A.2.2.2
  have u20 := RR.1
  refine ⟨g_is h v0 rfl, k_valueAt h v0 r1 RR.2.1 RR.1 (fun j hj hp => w_out h N (Bd.u11 B) fun M1 ξ1 h1 N1 f1 => hQ 0 M1 (scr_ok h1 N1) ⟨g_is h1 v9 rfl, m_valueAt h1 v9 RR (fun j' hj' hp' σ2 M2 E e h2 => ?_) (fun no => absurd hp (no j hj))⟩) (fun no => ⟨fun _ => hQ 1 M (scr_ok h N) ⟨g_is h v9 rfl, m_valueAt h v9 RR (fun j' hj' hp' => absurd hp' (no j' hj')) (fun _ σ2 M2 E e h2 => tl_ex h2 N e (by decide) (hK _ (Inv.z h2 N B A E)))⟩, rfl⟩)⟩
  have : j' = j := by
    rw [hp] at hp'
    exact ((nI_eq (by omega) (by omega)).1 hp').symm
  subst this
  exact tl_ok h2 N1 e f1 (hK _ (Inv.z h2 N1 B A E))
theorem l_canRead (hI : Inv b x1 x2 x3 L xs M) (hK : ∀ M', Inv b x1 x2 x3 L xs M' → K M') {p q p2 q2 : Int32} {Q : Int32 → zM → Prop} (hQ : ∀ k M', M' b = some (zS L xs) → (zIs M' x2 7 ∧ w_X6_canRead x2 p q p2 q2 M' (fun v M'' => TlB x2 x3 k v K M'')) → Q k M') : w_L_canRead x1 p q p2 q2 x3 M Q := by
  obtain ⟨V, ad, σ, ρ, ξ, n, cnt, h, N, B, A⟩ := hI
  obtain ⟨v0, v9, v11, v12, v13, rfl, rfl, rfl, rfl, e11, e12, e13⟩ := id N
  refine ⟨g_is h v0 rfl, k_canRead h v0 A.1.wk (fun s v t w hv hw hp hq hp2 hq2 => w_outb h N (Bd.u11 B) fun M1 ξ1 h1 N1 f1 => hQ 0 M1 (scr_ok h1 N1) ⟨g_is h1 v9 rfl, m_canRead h1 v9 A.2.1 A.1.wk (fun s' v' t' w' hv' hw' hp' hq' hp2' hq2' σ2 M2 E e h2 => ?_) (fun no => no.elim (fun no => absurd hp (no s hv.1)) (fun no => absurd hp2 (no t hw.1))) (fun s' t' hs' ht' hp' hp2' no => ?_)⟩) (fun no => ⟨fun _ => hQ 1 M (scr_ok h N) ⟨g_is h v9 rfl, m_canRead h v9 A.2.1 A.1.wk (fun s' v' t' w' hv' hw' hp' hq' hp2' hq2' => no.elim (fun no => absurd hp' (no s' hv'.1)) (fun no => absurd hp2' (no t' hw'.1))) (fun _ σ2 M2 E e h2 => tb_ex h2 N e (by decide) (hK _ (Inv.z h2 N B A E))) (fun s' t' hs' ht' hp' hp2' => no.elim (fun no => absurd hp' (no s' hs')) (fun no => absurd hp2' (no t' ht')))⟩, fun q => absurd q (by decide), Or.inl rfl⟩)
    (fun s t hs ht hp hp2 no => ⟨fun q => absurd q (by decide), fun _ => hQ 2 M (scr_ok h N) ⟨g_is h v9 rfl, m_canRead h v9 A.2.1 A.1.wk (fun s' v' t' w' hv' hw' hp' hq' hp2' hq2' => ?_) (fun no' => no'.elim (fun no' => absurd hp (no' s hs)) (fun no' => absurd hp2 (no' t ht))) (fun s' t' hs' ht' hp' hp2' _ σ2 M2 E e h2 => tb_ex h2 N e (by decide) (hK _ (Inv.z h2 N B A E)))⟩, Or.inr rfl⟩)⟩
  · obtain rfl := uS hv.1 hv'.1 hp hp'
    obtain rfl := uV A hv hv' hq hq'
    obtain rfl := uS hw.1 hw'.1 hp2 hp2'
    obtain rfl := uV A hw hw' hq2 hq2'
    exact tb_ok h2 N1 e f1 (hK _ (Inv.z h2 N1 B A E))
  · obtain rfl := uS hv.1 hs' hp hp'
    obtain rfl := uS hw.1 ht' hp2 hp2'
    exact no.elim (fun no => nV hv hq no) (fun no => nV hw hq2 no)
  · obtain rfl := uS hs hv'.1 hp hp'
    obtain rfl := uS ht hw'.1 hp2 hp2'
    exact no.elim (fun no => nV hv' hq' no) (fun no => nV hw' hq2' no)
