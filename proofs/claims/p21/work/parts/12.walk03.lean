set_option maxHeartbeats 4000000 in
set_option maxRecDepth 100000 in
theorem m_X5_canReadSchemaB {X : zX} {l : Launch} (E : zEnv X l) {rc0 : Option Nat → Option Nat → Int32 → zM → (Int32 → zM → Prop) → Prop} (FR LO : Nat) (hF : 12 ≤ FR) (hL : 300 ≤ LO) (hrec : ∀ (p0 : Option Nat) (p1 : Option Nat) (p2 : Int32) (M : zM) (P : Int32 → zM → Prop) {PX : Nat → zM → Prop}, rc0 p0 p1 p2 M P → zCT X l yX5_canReadSchema cX5_canReadSchema 4 (some .boolean) FR LO 0 0 M [va_rf p0, va_rf p1, .int p2] (zPz P) PX) {M : zM} {p0 : Option Nat} {p1 : Option Nat} {p2 : Int32} {P : Int32 → zM → Prop} {PX : Nat → zM → Prop} (hw : w_X5_canReadSchemaB rc0 p0 p1 p2 M P) : zCT X l yX5_canReadSchema cX5_canReadSchema 4 (some .boolean) (FR + 2) (LO + 100) 0 0 M [va_rf p0, va_rf p1, .int p2] (zPz P) PX := by
  refine z_entry E (by decide) ?_
  intro p e s m args below meth c C hr htab I
  have hx := C.1.1
  have hb := C.1.2.1
  obtain ⟨ls, he, hl⟩ := z_enter (m := m) (n := 4) (vs := [va_rf p0, va_rf p1, .int p2]) (l := [(0, va_rf p0), (1, va_rf p1), (2, .int p2)]) (by simp [lg_sl, z_catR, z_catI, z_catF, z_catN]) (by simp [lv_args, z_catR, z_catI, z_catF, z_catN])
  rw [he]
  clear he
  unfold w_X5_canReadSchemaB at hw
  have hb_18 : ∀ (n : Nat) (x3 : Int32) (M : zM) (H : Heap) (locs : List Loc) (ls : Array Slot), zWk X s M H locs → lv_has ls 4 [(0, va_rf p0), (1, va_rf p1), (2, .int p2), (3, .int x3)] → w_X5_canReadSchemaB_18 rc0 p0 p1 p2 P n x3 M → W p l e (zRm (FR + 2) (LO + 100) 0 0) s m args below meth c H locs 0 0 (vx_MQ below (zQc X (zPz P)) (zXc X PX) args s 0 0 (zBase X)) (F0 m 18 ls []) := by
    intro n
    induction n with
    | zero => intro _ M H locs ls I hl hw; exact hw.elim
    | succ n ih =>
      intro x3 M H locs ls I hl hw
      unfold w_X5_canReadSchemaB_18 at hw
      refine lv_iload_n hx hb dX5_canReadSchema_18 rfl (lv_at hl 3 rfl) ?_
      refine z_aloadn C (r := p0) dX5_canReadSchema_19 rfl (lv_at hl 0 rfl) ?_
      obtain ⟨a1, hq1, hq2⟩ := hw
      subst hq1
      have hw := hq2
      clear hq2
      refine W.eq (g2 := F0 m 20 ls [.ref a1, .int x3]) rfl ?_
      have hl2 : lv_has ls 4 [(0, .ref a1), (1, va_rf p1), (2, .int p2), (3, .int x3)] := hl
      refine z_getr C I fl_X5_81 hw dX5_canReadSchema_20 (fun v3 hw => ?_)
      obtain ⟨hrc, hw⟩ := hw
      refine z_callV C I (as := []) (rest := [.int x3]) (m_Jx4a65c_size_8abf5 E hw) kv_X5_84 vc_0 hrc rfl rfl hl2.1 (Nat.le_of_ble_eq_true rfl) ⟨by show _ ≤ FR + 2; omega, by show _ ≤ LO + 100; omega⟩ ⟨Nat.le_of_ble_eq_true rfl, Nat.le_of_ble_eq_true rfl⟩ dX5_canReadSchema_23 (z_prop C htab (Nat.le_of_ble_eq_true rfl) (Nat.le_of_ble_eq_true rfl)) (fun v M4 _ _ I hv => ?_)
      obtain ⟨v5, rfl, hw⟩ := hv
      refine W.eq (g2 := F0 m 26 ls [.int v5, .int x3]) rfl ?_
      refine lv_icmp_ge (tgt := 56) hx hb dX5_canReadSchema_26 (by decide) (fun c => ?_) (fun c => ?_)
      · replace hw := hw.1 c
        refine lv_iconst (v := 1) hx hb dX5_canReadSchema_56 (by decide) ?_
        exact z_zret C I hr (Or.inr rfl) ⟨_, rfl, (Or.inr rfl), hw⟩ (Nat.le_of_ble_eq_true rfl) (Nat.le_of_ble_eq_true rfl) dX5_canReadSchema_57
      · replace hw := hw.2 c
        refine lv_aload_n hx hb dX5_canReadSchema_29 rfl (lv_at hl2 0 rfl) ?_
        refine z_getr C I fl_X5_81 hw dX5_canReadSchema_30 (fun v6 hw => ?_)
        refine lv_iload_n hx hb dX5_canReadSchema_33 rfl (lv_at hl2 3 rfl) ?_
        obtain ⟨hrc, hw⟩ := hw
        refine z_callV C I (as := [.int x3]) (rest := []) (m_Jx4a65c_get_915e3 E hw) kv_X5_242 vc_0 hrc rfl rfl hl2.1 (Nat.le_of_ble_eq_true rfl) ⟨by show _ ≤ FR + 2; omega, by show _ ≤ LO + 100; omega⟩ ⟨Nat.le_of_ble_eq_true rfl, Nat.le_of_ble_eq_true rfl⟩ dX5_canReadSchema_34 (z_prop C htab (Nat.le_of_ble_eq_true rfl) (Nat.le_of_ble_eq_true rfl)) (fun v M7 _ _ I hv => ?_)
        obtain ⟨v8, rfl, hw⟩ := hv
        refine W.eq (g2 := F0 m 37 ls [va_rf v8]) rfl ?_
        refine z_cast C I vc_1 (r := v8) zw373 hw dX5_canReadSchema_37 (fun a9 hw => ?_)
        refine z_aloadn C (r := p1) dX5_canReadSchema_40 rfl (lv_at hl2 1 rfl) ?_
        refine lv_iload_n hx hb dX5_canReadSchema_41 rfl (lv_at hl2 2 rfl) ?_
        obtain ⟨a10, hq1, hq2⟩ := hw
        subst hq1
        have hw := hq2
        clear hq2
        refine W.eq (g2 := F0 m 42 ls [.int p2, .ref a10, .ref a9]) rfl ?_
        have hl11 : lv_has ls 4 [(0, .ref a1), (1, .ref a10), (2, .int p2), (3, .int x3)] := hl2
        refine z_callS C I (as := [.ref a9, .ref a10, .int p2]) (rest := []) (m_X5_canReadField E FR LO hF hL hrec hw) ks_X5_268 rfl rfl hl11.1 (Nat.le_of_ble_eq_true rfl) ⟨by show _ ≤ FR + 2; omega, by show _ ≤ LO + 100; omega⟩ ⟨Nat.le_of_ble_eq_true rfl, Nat.le_of_ble_eq_true rfl⟩ dX5_canReadSchema_42 (z_prop C htab (Nat.le_of_ble_eq_true rfl) (Nat.le_of_ble_eq_true rfl)) (fun v M12 _ _ I hv => ?_)
        obtain ⟨v13, rfl, hv13, hw⟩ := hv
        refine W.eq (g2 := F0 m 45 ls [.int v13]) rfl ?_
        refine lv_if_ne (tgt := 50) hx hb dX5_canReadSchema_45 (by decide) (fun c => ?_) (fun c => ?_)
        · replace hw := hw.1 c
          refine lv_iinc (v := (x3 + 1)) (lv' := [(3, .int (x3 + 1)), (0, .ref a1), (1, .ref a10), (2, .int p2)]) hx hb dX5_canReadSchema_50 hl11 (k := 3) rfl (by rfl) (by decide) rfl (fun ls hl14 => ?_)
          refine lv_goto (tgt := 18) hx hb dX5_canReadSchema_53 (by decide) ?_
          refine W.widen (k := 0) (n := 0) (Nat.le_of_ble_eq_true rfl) (Nat.le_of_ble_eq_true rfl) ?_
          exact ih (x3 + 1) _ _ _ ls I (lv_sub hl14 [1, 2, 3, 0] rfl) hw
        · replace hw := hw.2 c
          refine lv_iconst (v := 0) hx hb dX5_canReadSchema_48 (by decide) ?_
          exact z_zret C I hr (Or.inl rfl) ⟨_, rfl, (Or.inl rfl), hw⟩ (Nat.le_of_ble_eq_true rfl) (Nat.le_of_ble_eq_true rfl) dX5_canReadSchema_49
  refine z_aloadn C (r := p0) dX5_canReadSchema_0 rfl (lv_at hl 0 rfl) ?_
  refine z_ifnull C (r := p0) (tgt := 14) dX5_canReadSchema_1 (by decide) (fun c => ?_) (fun a15 c => ?_)
  · have hq := hw.1 c
    subst c
    have hw := hq
    clear hq
    refine W.eq (g2 := F0 m 14 ls []) rfl ?_
    have hl16 : lv_has ls 4 [(0, va_rf none), (1, va_rf p1), (2, .int p2)] := hl
    refine lv_iconst (v := 0) hx hb dX5_canReadSchema_14 (by decide) ?_
    exact z_zret C I hr (Or.inl rfl) ⟨_, rfl, (Or.inl rfl), hw⟩ (Nat.le_of_ble_eq_true rfl) (Nat.le_of_ble_eq_true rfl) dX5_canReadSchema_15
  · have hq := hw.2 a15 c
    subst c
    have hw := hq
    clear hq
    refine W.eq (g2 := F0 m 4 ls []) rfl ?_
    have hl17 : lv_has ls 4 [(0, .ref a15), (1, va_rf p1), (2, .int p2)] := hl
    refine z_aloadn C (r := p1) dX5_canReadSchema_4 rfl (lv_at hl17 1 rfl) ?_
    refine z_ifnull C (r := p1) (tgt := 14) dX5_canReadSchema_5 (by decide) (fun c => ?_) (fun a18 c => ?_)
    · have hq := hw.1 c
      subst c
      have hw := hq
      clear hq
      refine W.eq (g2 := F0 m 14 ls []) rfl ?_
      have hl19 : lv_has ls 4 [(0, .ref a15), (1, va_rf none), (2, .int p2)] := hl17
      refine lv_iconst (v := 0) hx hb dX5_canReadSchema_14 (by decide) ?_
      exact z_zret C I hr (Or.inl rfl) ⟨_, rfl, (Or.inl rfl), hw⟩ (Nat.le_of_ble_eq_true rfl) (Nat.le_of_ble_eq_true rfl) dX5_canReadSchema_15
    · have hq := hw.2 a18 c
      subst c
      have hw := hq
      clear hq
      refine W.eq (g2 := F0 m 8 ls []) rfl ?_
      have hl20 : lv_has ls 4 [(0, .ref a15), (1, .ref a18), (2, .int p2)] := hl17
      refine lv_iload_n hx hb dX5_canReadSchema_8 rfl (lv_at hl20 2 rfl) ?_
      refine lv_bipush (v := 40) hx hb dX5_canReadSchema_9 (by decide) ?_
      refine lv_icmp_le (tgt := 16) hx hb dX5_canReadSchema_11 (by decide) (fun c => ?_) (fun c => ?_)
      · replace hw := hw.1 c
        refine lv_iconst (v := 0) hx hb dX5_canReadSchema_16 (by decide) ?_
        refine lv_istore_n (lv' := [(3, .int (0 : Int32)), (0, .ref a15), (1, .ref a18), (2, .int p2)]) hx hb dX5_canReadSchema_17 rfl hl20 (by decide) rfl (fun ls hl21 => ?_)
        obtain ⟨nn, hw⟩ := hw
        refine W.widen (k := 0) (n := 0) (Nat.le_of_ble_eq_true rfl) (Nat.le_of_ble_eq_true rfl) ?_
        exact hb_18 nn (0 : Int32) _ _ _ ls I (lv_sub hl21 [1, 2, 3, 0] rfl) hw
      · replace hw := hw.2 c
        refine lv_iconst (v := 0) hx hb dX5_canReadSchema_14 (by decide) ?_
        exact z_zret C I hr (Or.inl rfl) ⟨_, rfl, (Or.inl rfl), hw⟩ (Nat.le_of_ble_eq_true rfl) (Nat.le_of_ble_eq_true rfl) dX5_canReadSchema_15
theorem m_X5_canReadSchemaR {X : zX} {l : Launch} (E : zEnv X l) (d : Nat) : ∀ (p0 : Option Nat) (p1 : Option Nat) (p2 : Int32) (M : zM) (P : Int32 → zM → Prop) {PX : Nat → zM → Prop}, w_X5_canReadSchemaR d p0 p1 p2 M P → zCT X l yX5_canReadSchema cX5_canReadSchema 4 (some .boolean) (2 * d + 12) (100 * d + 300) 0 0 M [va_rf p0, va_rf p1, .int p2] (zPz P) PX := by
  induction d with
  | zero => intro p0 p1 p2 M P PX hw; exact hw.elim
  | succ d ih =>
    intro p0 p1 p2 M P PX hw
    unfold w_X5_canReadSchemaR at hw
    exact m_X5_canReadSchemaB E (2 * d + 12) (100 * d + 300) (by omega) (by omega) ih hw
theorem m_X5_canReadSchema {X : zX} {l : Launch} (E : zEnv X l) {M : zM} {p0 : Option Nat} {p1 : Option Nat} {p2 : Int32} {P : Int32 → zM → Prop} {PX : Nat → zM → Prop} (hw : w_X5_canReadSchema p0 p1 p2 M P) : zCT X l yX5_canReadSchema cX5_canReadSchema 4 (some .boolean) 102 4800 0 0 M [va_rf p0, va_rf p1, .int p2] (zPz P) PX := m_X5_canReadSchemaR E 45 p0 p1 p2 M P hw

set_option maxHeartbeats 4000000 in
set_option maxRecDepth 100000 in
theorem m_X3_agrees {X : zX} {l : Launch} (E : zEnv X l) {M : zM} {o : Nat} {p0 : Nat} {p1 : Nat} {P : Int32 → zM → Prop} {PX : Nat → zM → Prop} (hw : w_X3_agrees o p0 p1 M P) : zCT X l yX3_agrees cX3_agrees 3 (some .boolean) 103 4823 0 0 M [.ref o, .ref p0, .ref p1] (zPz P) PX := by
  refine z_entry E (by decide) ?_
  intro p e s m args below meth c C hr htab I
  have hx := C.1.1
  have hb := C.1.2.1
  obtain ⟨ls, he, hl⟩ := z_enter (m := m) (n := 3) (vs := [.ref o, .ref p0, .ref p1]) (l := [(0, .ref o), (1, .ref p0), (2, .ref p1)]) (Nat.le_of_ble_eq_true rfl) rfl
  rw [he]
  clear he
  unfold w_X3_agrees at hw
  have hb_52 : ∀ (M : zM) (H : Heap) (locs : List Loc) (ls : Array Slot), zWk X s M H locs → lv_has ls 3 [] → w_X3_agrees_52 o p0 p1 P M → W p l e (zRm 103 4823 0 0) s m args below meth c H locs 0 0 (vx_MQ below (zQc X (zPz P)) (zXc X PX) args s 0 0 (zBase X)) (F0 m 52 ls []) := by
    intro M H locs ls I hl hw
    unfold w_X3_agrees_52 at hw
    refine lv_iconst (v := 1) hx hb dX3_agrees_52 (by decide) ?_
    refine lv_goto (tgt := 57) hx hb dX3_agrees_53 (by decide) ?_
    exact z_zret C I hr (Or.inr rfl) ⟨_, rfl, (Or.inr rfl), hw⟩ (Nat.le_of_ble_eq_true rfl) (Nat.le_of_ble_eq_true rfl) dX3_agrees_57
  have hb_43 : ∀ (M : zM) (H : Heap) (locs : List Loc) (ls : Array Slot), zWk X s M H locs → lv_has ls 3 [(1, .ref p0), (2, .ref p1)] → w_X3_agrees_43 o p0 p1 P M → W p l e (zRm 103 4823 0 0) s m args below meth c H locs 0 0 (vx_MQ below (zQc X (zPz P)) (zXc X PX) args s 0 0 (zBase X)) (F0 m 43 ls []) := by
    intro M H locs ls I hl hw
    unfold w_X3_agrees_43 at hw
    refine lv_aload_n hx hb dX3_agrees_43 rfl (lv_at hl 1 rfl) ?_
    refine lv_aload_n hx hb dX3_agrees_44 rfl (lv_at hl 0 rfl) ?_
    refine lv_iconst (v := 0) hx hb dX3_agrees_45 (by decide) ?_
    refine z_callSN C I (as := [.ref p1, .ref p0, .int (0 : Int32)]) (rest := []) (m_X5_canReadSchema E hw) kn_X3_57 rfl rfl hl.1 (Nat.le_of_ble_eq_true rfl) ⟨Nat.le_of_ble_eq_true rfl, Nat.le_of_ble_eq_true rfl⟩ ⟨Nat.le_of_ble_eq_true rfl, Nat.le_of_ble_eq_true rfl⟩ dX3_agrees_46 (fun v M1 _ _ I hv => ?_)
    obtain ⟨v2, rfl, hv2, hw⟩ := hv
    refine W.eq (g2 := F0 m 49 ls [.int v2]) rfl ?_
    refine lv_if_eq (tgt := 56) hx hb dX3_agrees_49 (by decide) (fun c => ?_) (fun c => ?_)
    · replace hw := hw.1 c
      refine lv_iconst (v := 0) hx hb dX3_agrees_56 (by decide) ?_
      exact z_zret C I hr (Or.inl rfl) ⟨_, rfl, (Or.inl rfl), hw⟩ (Nat.le_of_ble_eq_true rfl) (Nat.le_of_ble_eq_true rfl) dX3_agrees_57
    · replace hw := hw.2 c
      refine W.widen (k := 0) (n := 0) (Nat.le_of_ble_eq_true rfl) (Nat.le_of_ble_eq_true rfl) ?_
      exact hb_52 _ _ _ ls I (lv_sub hl [] rfl) hw
  have hb_27 : ∀ (M : zM) (H : Heap) (locs : List Loc) (ls : Array Slot), zWk X s M H locs → lv_has ls 3 [(0, .ref o), (1, .ref p0), (2, .ref p1)] → w_X3_agrees_27 o p0 p1 P M → W p l e (zRm 103 4823 0 0) s m args below meth c H locs 0 0 (vx_MQ below (zQc X (zPz P)) (zXc X PX) args s 0 0 (zBase X)) (F0 m 27 ls []) := by
    intro M H locs ls I hl hw
    unfold w_X3_agrees_27 at hw
    refine lv_aload_n hx hb dX3_agrees_27 rfl (lv_at hl 0 rfl) ?_
    refine z_geti C I fl_X3_54 hw dX3_agrees_28 (fun v3 hw => ?_)
    refine lv_iconst (v := 2) hx hb dX3_agrees_31 (by decide) ?_
    refine lv_icmp_eq (tgt := 43) hx hb dX3_agrees_32 (by decide) (fun c => ?_) (fun c => ?_)
    · replace hw := hw.1 c
      refine W.widen (k := 0) (n := 0) (Nat.le_of_ble_eq_true rfl) (Nat.le_of_ble_eq_true rfl) ?_
      exact hb_43 _ _ _ ls I (lv_sub hl [1, 2] rfl) hw
    · replace hw := hw.2 c
      refine lv_aload_n hx hb dX3_agrees_35 rfl (lv_at hl 0 rfl) ?_
      refine z_geti C I fl_X3_54 hw dX3_agrees_36 (fun v4 hw => ?_)
      refine lv_iconst (v := 3) hx hb dX3_agrees_39 (by decide) ?_
      refine lv_icmp_ne (tgt := 52) hx hb dX3_agrees_40 (by decide) (fun c => ?_) (fun c => ?_)
      · replace hw := hw.1 c
        refine W.widen (k := 0) (n := 0) (Nat.le_of_ble_eq_true rfl) (Nat.le_of_ble_eq_true rfl) ?_
        exact hb_52 _ _ _ ls I (lv_sub hl [] rfl) hw
      · replace hw := hw.2 c
        refine W.widen (k := 0) (n := 0) (Nat.le_of_ble_eq_true rfl) (Nat.le_of_ble_eq_true rfl) ?_
        exact hb_43 _ _ _ ls I (lv_sub hl [1, 2] rfl) hw
  have hb_16 : ∀ (M : zM) (H : Heap) (locs : List Loc) (ls : Array Slot), zWk X s M H locs → lv_has ls 3 [(0, .ref o), (1, .ref p0), (2, .ref p1)] → w_X3_agrees_16 o p0 p1 P M → W p l e (zRm 103 4823 0 0) s m args below meth c H locs 0 0 (vx_MQ below (zQc X (zPz P)) (zXc X PX) args s 0 0 (zBase X)) (F0 m 16 ls []) := by
    intro M H locs ls I hl hw
    unfold w_X3_agrees_16 at hw
    refine lv_aload_n hx hb dX3_agrees_16 rfl (lv_at hl 1 rfl) ?_
    refine lv_aload_n hx hb dX3_agrees_17 rfl (lv_at hl 2 rfl) ?_
    refine lv_iconst (v := 0) hx hb dX3_agrees_18 (by decide) ?_
    refine z_callSN C I (as := [.ref p0, .ref p1, .int (0 : Int32)]) (rest := []) (m_X5_canReadSchema E hw) kn_X3_57 rfl rfl hl.1 (Nat.le_of_ble_eq_true rfl) ⟨Nat.le_of_ble_eq_true rfl, Nat.le_of_ble_eq_true rfl⟩ ⟨Nat.le_of_ble_eq_true rfl, Nat.le_of_ble_eq_true rfl⟩ dX3_agrees_19 (fun v M5 _ _ I hv => ?_)
    obtain ⟨v6, rfl, hv6, hw⟩ := hv
    refine W.eq (g2 := F0 m 22 ls [.int v6]) rfl ?_
    refine lv_if_ne (tgt := 27) hx hb dX3_agrees_22 (by decide) (fun c => ?_) (fun c => ?_)
    · replace hw := hw.1 c
      refine W.widen (k := 0) (n := 0) (Nat.le_of_ble_eq_true rfl) (Nat.le_of_ble_eq_true rfl) ?_
      exact hb_27 _ _ _ ls I (lv_sub hl [0, 1, 2] rfl) hw
    · replace hw := hw.2 c
      refine lv_iconst (v := 0) hx hb dX3_agrees_25 (by decide) ?_
      exact z_zret C I hr (Or.inl rfl) ⟨_, rfl, (Or.inl rfl), hw⟩ (Nat.le_of_ble_eq_true rfl) (Nat.le_of_ble_eq_true rfl) dX3_agrees_26
  refine lv_aload_n hx hb dX3_agrees_0 rfl (lv_at hl 0 rfl) ?_
  refine z_geti C I fl_X3_54 hw dX3_agrees_1 (fun v7 hw => ?_)
  refine lv_iconst (v := 1) hx hb dX3_agrees_4 (by decide) ?_
  refine lv_icmp_eq (tgt := 16) hx hb dX3_agrees_5 (by decide) (fun c => ?_) (fun c => ?_)
  · replace hw := hw.1 c
    refine W.widen (k := 0) (n := 0) (Nat.le_of_ble_eq_true rfl) (Nat.le_of_ble_eq_true rfl) ?_
    exact hb_16 _ _ _ ls I (lv_sub hl [0, 1, 2] rfl) hw
  · replace hw := hw.2 c
    refine lv_aload_n hx hb dX3_agrees_8 rfl (lv_at hl 0 rfl) ?_
    refine z_geti C I fl_X3_54 hw dX3_agrees_9 (fun v8 hw => ?_)
    refine lv_iconst (v := 3) hx hb dX3_agrees_12 (by decide) ?_
    refine lv_icmp_ne (tgt := 27) hx hb dX3_agrees_13 (by decide) (fun c => ?_) (fun c => ?_)
    · replace hw := hw.1 c
      refine W.widen (k := 0) (n := 0) (Nat.le_of_ble_eq_true rfl) (Nat.le_of_ble_eq_true rfl) ?_
      exact hb_27 _ _ _ ls I (lv_sub hl [0, 1, 2] rfl) hw
    · replace hw := hw.2 c
      refine W.widen (k := 0) (n := 0) (Nat.le_of_ble_eq_true rfl) (Nat.le_of_ble_eq_true rfl) ?_
      exact hb_16 _ _ _ ls I (lv_sub hl [0, 1, 2] rfl) hw
set_option maxHeartbeats 4000000 in
set_option maxRecDepth 100000 in
theorem m_X3_accepts {X : zX} {l : Launch} (E : zEnv X l) {M : zM} {o : Nat} {p0 : Nat} {P : Int32 → zM → Prop} {PX : Nat → zM → Prop} (hw : w_X3_accepts o p0 M P) : zCT X l yX3_accepts cX3_accepts 4 (some .boolean) 104 4845 0 0 M [.ref o, .ref p0] (zPz P) PX := by
  refine z_entry E (by decide) ?_
  intro p e s m args below meth c C hr htab I
  have hx := C.1.1
  have hb := C.1.2.1
  obtain ⟨ls, he, hl⟩ := z_enter (m := m) (n := 4) (vs := [.ref o, .ref p0]) (l := [(0, .ref o), (1, .ref p0)]) (Nat.le_of_ble_eq_true rfl) rfl
  rw [he]
  clear he
  unfold w_X3_accepts at hw
  have hb_10 : ∀ (n : Nat) (x2 : Int32) (M : zM) (H : Heap) (locs : List Loc) (ls : Array Slot), zWk X s M H locs → lv_has ls 4 [(0, .ref o), (1, .ref p0), (2, .int x2)] → w_X3_accepts_10 o p0 P n x2 M → W p l e (zRm 104 4845 0 0) s m args below meth c H locs 0 0 (vx_MQ below (zQc X (zPz P)) (zXc X PX) args s 0 0 (zBase X)) (F0 m 10 ls []) := by
    intro n
    induction n with
    | zero => intro _ M H locs ls I hl hw; exact hw.elim
    | succ n ih =>
      intro x2 M H locs ls I hl hw
      unfold w_X3_accepts_10 at hw
      have hb_56 : ∀ (x2 : Int32) (M : zM) (H : Heap) (locs : List Loc) (ls : Array Slot), zWk X s M H locs → lv_has ls 4 [(0, .ref o), (1, .ref p0), (2, .int x2)] → w_X3_accepts_56 o p0 P (w_X3_accepts_10 o p0 P n) x2 M → W p l e (zRm 104 4845 0 0) s m args below meth c H locs 0 0 (vx_MQ below (zQc X (zPz P)) (zXc X PX) args s 0 0 (zBase X)) (F0 m 56 ls []) := by
        intro x2 M H locs ls I hl hw
        unfold w_X3_accepts_56 at hw
        refine lv_iinc (v := (x2 + (-1))) (lv' := [(2, .int (x2 + (-1))), (0, .ref o), (1, .ref p0)]) hx hb dX3_accepts_56 hl (k := 2) rfl (by rfl) (by decide) rfl (fun ls hl1 => ?_)
        refine lv_goto (tgt := 10) hx hb dX3_accepts_59 (by decide) ?_
        refine W.widen (k := 0) (n := 0) (Nat.le_of_ble_eq_true rfl) (Nat.le_of_ble_eq_true rfl) ?_
        exact ih (x2 + (-1)) _ _ _ ls I (lv_sub hl1 [1, 2, 0] rfl) hw
      refine lv_iload_n hx hb dX3_accepts_10 rfl (lv_at hl 2 rfl) ?_
      refine lv_if_lt (tgt := 62) hx hb dX3_accepts_11 (by decide) (fun c => ?_) (fun c => ?_)
      · replace hw := hw.1 c
        refine lv_iconst (v := 1) hx hb dX3_accepts_62 (by decide) ?_
        exact z_zret C I hr (Or.inr rfl) ⟨_, rfl, (Or.inr rfl), hw⟩ (Nat.le_of_ble_eq_true rfl) (Nat.le_of_ble_eq_true rfl) dX3_accepts_63
      · replace hw := hw.2 c
        refine lv_aload_n hx hb dX3_accepts_14 rfl (lv_at hl 0 rfl) ?_
        refine z_getr C I fl_X3_12 hw dX3_accepts_15 (fun v2 hw => ?_)
        refine lv_iload_n hx hb dX3_accepts_18 rfl (lv_at hl 2 rfl) ?_
        obtain ⟨hrc, hw⟩ := hw
        refine z_callV C I (as := [.int x2]) (rest := []) (m_Jx4a65c_get_915e3 E hw) kv_X3_22 vc_0 hrc rfl rfl hl.1 (Nat.le_of_ble_eq_true rfl) ⟨Nat.le_of_ble_eq_true rfl, Nat.le_of_ble_eq_true rfl⟩ ⟨Nat.le_of_ble_eq_true rfl, Nat.le_of_ble_eq_true rfl⟩ dX3_accepts_19 (z_prop C htab (Nat.le_of_ble_eq_true rfl) (Nat.le_of_ble_eq_true rfl)) (fun v M3 _ _ I hv => ?_)
        obtain ⟨v4, rfl, hw⟩ := hv
        refine W.eq (g2 := F0 m 22 ls [va_rf v4]) rfl ?_
        refine z_cast C I vc_5 (r := v4) zw329 hw dX3_accepts_22 (fun a5 hw => ?_)
        refine lv_astore_n (lv' := [(3, .ref a5), (0, .ref o), (1, .ref p0), (2, .int x2)]) hx hb dX3_accepts_25 rfl hl (by decide) rfl (fun ls hl6 => ?_)
        refine lv_aload_n hx hb dX3_accepts_26 rfl (lv_at hl6 0 rfl) ?_
        refine z_geti C I fl_X3_28 hw dX3_accepts_27 (fun v7 hw => ?_)
        refine lv_if_ne (tgt := 56) hx hb dX3_accepts_30 (by decide) (fun c => ?_) (fun c => ?_)
        · replace hw := hw.1 c
          refine W.widen (k := 0) (n := 0) (Nat.le_of_ble_eq_true rfl) (Nat.le_of_ble_eq_true rfl) ?_
          exact hb_56 x2 _ _ _ ls I (lv_sub hl6 [1, 2, 3] rfl) hw
        · replace hw := hw.2 c
          refine lv_aload_n hx hb dX3_accepts_33 rfl (lv_at hl6 1 rfl) ?_
          refine lv_aload_n hx hb dX3_accepts_34 rfl (lv_at hl6 2 rfl) ?_
          refine lv_aload_n hx hb dX3_accepts_35 rfl (lv_at hl6 0 rfl) ?_
          refine z_getr C I fl_X3_32 hw dX3_accepts_36 (fun v8 hw => ?_)
          obtain ⟨hrc, hw⟩ := hw
          refine z_callV C I (as := [.ref p0, .ref v8]) (rest := []) (m_X3_agrees E hw) kv_X3_46 vc_4 hrc rfl rfl hl6.1 (Nat.le_of_ble_eq_true rfl) ⟨Nat.le_of_ble_eq_true rfl, Nat.le_of_ble_eq_true rfl⟩ ⟨Nat.le_of_ble_eq_true rfl, Nat.le_of_ble_eq_true rfl⟩ dX3_accepts_39 (z_prop C htab (Nat.le_of_ble_eq_true rfl) (Nat.le_of_ble_eq_true rfl)) (fun v M9 _ _ I hv => ?_)
          obtain ⟨v10, rfl, hv10, hw⟩ := hv
          refine W.eq (g2 := F0 m 42 ls [.int v10]) rfl ?_
          refine lv_if_ne (tgt := 47) hx hb dX3_accepts_42 (by decide) (fun c => ?_) (fun c => ?_)
          · replace hw := hw.1 c
            refine lv_aload_n hx hb dX3_accepts_47 rfl (lv_at hl6 1 rfl) ?_
            refine z_geti C I fl_X3_50 hw dX3_accepts_48 (fun v11 hw => ?_)
            refine lv_if_ne (tgt := 56) hx hb dX3_accepts_51 (by decide) (fun c => ?_) (fun c => ?_)
            · replace hw := hw.1 c
              refine W.widen (k := 0) (n := 0) (Nat.le_of_ble_eq_true rfl) (Nat.le_of_ble_eq_true rfl) ?_
              exact hb_56 x2 _ _ _ ls I (lv_sub hl6 [1, 2, 3] rfl) hw
            · replace hw := hw.2 c
              refine lv_iconst (v := 1) hx hb dX3_accepts_54 (by decide) ?_
              exact z_zret C I hr (Or.inr rfl) ⟨_, rfl, (Or.inr rfl), hw⟩ (Nat.le_of_ble_eq_true rfl) (Nat.le_of_ble_eq_true rfl) dX3_accepts_55
          · replace hw := hw.2 c
            refine lv_iconst (v := 0) hx hb dX3_accepts_45 (by decide) ?_
            exact z_zret C I hr (Or.inl rfl) ⟨_, rfl, (Or.inl rfl), hw⟩ (Nat.le_of_ble_eq_true rfl) (Nat.le_of_ble_eq_true rfl) dX3_accepts_46
  refine lv_aload_n hx hb dX3_accepts_0 rfl (lv_at hl 0 rfl) ?_
  refine z_getr C I fl_X3_12 hw dX3_accepts_1 (fun v12 hw => ?_)
  obtain ⟨hrc, hw⟩ := hw
  refine z_callV C I (as := []) (rest := []) (m_Jx4a65c_size_8abf5 E hw) kv_X3_18 vc_0 hrc rfl rfl hl.1 (Nat.le_of_ble_eq_true rfl) ⟨Nat.le_of_ble_eq_true rfl, Nat.le_of_ble_eq_true rfl⟩ ⟨Nat.le_of_ble_eq_true rfl, Nat.le_of_ble_eq_true rfl⟩ dX3_accepts_4 (z_prop C htab (Nat.le_of_ble_eq_true rfl) (Nat.le_of_ble_eq_true rfl)) (fun v M13 _ _ I hv => ?_)
  obtain ⟨v14, rfl, hw⟩ := hv
  refine W.eq (g2 := F0 m 7 ls [.int v14]) rfl ?_
  refine lv_iconst (v := 1) hx hb dX3_accepts_7 (by decide) ?_
  refine lv_isub hx hb dX3_accepts_8 ?_
  refine lv_istore_n (lv' := [(2, .int (v14 - (1 : Int32))), (0, .ref o), (1, .ref p0)]) hx hb dX3_accepts_9 rfl hl (by decide) rfl (fun ls hl15 => ?_)
  obtain ⟨nn, hw⟩ := hw
  refine W.widen (k := 0) (n := 0) (Nat.le_of_ble_eq_true rfl) (Nat.le_of_ble_eq_true rfl) ?_
  exact hb_10 nn (v14 - (1 : Int32)) _ _ _ ls I (lv_sub hl15 [1, 2, 0] rfl) hw
set_option maxHeartbeats 4000000 in
set_option maxRecDepth 100000 in
theorem m_X5_isAccepted {X : zX} {l : Launch} (E : zEnv X l) {M : zM} {o : Nat} {p0 : Int32} {P : Int32 → zM → Prop} {PX : Nat → zM → Prop} (hw : w_X5_isAccepted o p0 M P PX) : zCT X l yX5_isAccepted cX5_isAccepted 3 (some .boolean) 105 4868 2 12 M [.ref o, .int p0] (zPz P) PX := by
  refine z_entry E (by decide) ?_
  intro p e s m args below meth c C hr htab I
  have hx := C.1.1
  have hb := C.1.2.1
  obtain ⟨ls, he, hl⟩ := z_enter (m := m) (n := 3) (vs := [.ref o, .int p0]) (l := [(0, .ref o), (1, .int p0)]) (Nat.le_of_ble_eq_true rfl) rfl
  rw [he]
  clear he
  unfold w_X5_isAccepted at hw
  refine lv_aload_n hx hb dX5_isAccepted_0 rfl (lv_at hl 0 rfl) ?_
  refine lv_iload_n hx hb dX5_isAccepted_1 rfl (lv_at hl 1 rfl) ?_
  obtain ⟨hrc, hw⟩ := hw
  refine z_callV C I (as := [.int p0]) (rest := []) (m_X5_demandedSubject E hw) kv_X5_140 vc_6 hrc rfl rfl hl.1 (Nat.le_of_ble_eq_true rfl) ⟨Nat.le_of_ble_eq_true rfl, Nat.le_of_ble_eq_true rfl⟩ ⟨Nat.le_of_ble_eq_true rfl, Nat.le_of_ble_eq_true rfl⟩ dX5_isAccepted_2 (z_prop C htab (Nat.le_of_ble_eq_true rfl) (Nat.le_of_ble_eq_true rfl)) (fun v M1 _ _ I hv => ?_)
  obtain ⟨v2, rfl, hw⟩ := hv
  refine W.eq (g2 := F0 m 5 ls [va_rf v2]) rfl ?_
  refine z_astoren (lv' := [(2, va_rf v2), (0, .ref o), (1, .int p0)]) C (r := v2) dX5_isAccepted_5 rfl hl (by decide) rfl (fun ls hl3 => ?_)
  refine lv_aload_n hx hb dX5_isAccepted_6 rfl (lv_at hl3 1 rfl) ?_
  obtain ⟨hrc, hw⟩ := hw
  refine z_callV C I (as := []) (rest := []) (m_X5_demandDraft E hw) kv_X5_144 vc_6 hrc rfl rfl hl3.1 (Nat.le_of_ble_eq_true rfl) ⟨Nat.le_of_ble_eq_true rfl, Nat.le_of_ble_eq_true rfl⟩ ⟨Nat.le_of_ble_eq_true rfl, Nat.le_of_ble_eq_true rfl⟩ dX5_isAccepted_7 (z_prop C htab (Nat.le_of_ble_eq_true rfl) (Nat.le_of_ble_eq_true rfl)) (fun v M4 _ _ I hv => ?_)
  obtain ⟨rfl, hw⟩ := hv
  refine W.eq (g2 := F0 m 10 ls []) rfl ?_
  refine z_aloadn C (r := v2) dX5_isAccepted_10 rfl (lv_at hl3 0 rfl) ?_
  refine lv_aload_n hx hb dX5_isAccepted_11 rfl (lv_at hl3 1 rfl) ?_
  refine z_getr C I fl_X5_29 hw dX5_isAccepted_12 (fun v5 hw => ?_)
  obtain ⟨a6, hq1, hq2⟩ := hw
  subst hq1
  have hw := hq2
  clear hq2
  refine W.eq (g2 := F0 m 15 ls [.ref v5, .ref a6]) rfl ?_
  have hl7 : lv_has ls 3 [(2, .ref a6), (0, .ref o), (1, .int p0)] := hl3
  obtain ⟨hrc, hw⟩ := hw
  refine z_callV C I (as := [.ref v5]) (rest := []) (m_X3_accepts E hw) kv_X5_147 vc_4 hrc rfl rfl hl7.1 (Nat.le_of_ble_eq_true rfl) ⟨Nat.le_of_ble_eq_true rfl, Nat.le_of_ble_eq_true rfl⟩ ⟨Nat.le_of_ble_eq_true rfl, Nat.le_of_ble_eq_true rfl⟩ dX5_isAccepted_15 (z_prop C htab (Nat.le_of_ble_eq_true rfl) (Nat.le_of_ble_eq_true rfl)) (fun v M8 _ _ I hv => ?_)
  obtain ⟨v9, rfl, hv9, hw⟩ := hv
  refine W.eq (g2 := F0 m 18 ls [.int v9]) rfl ?_
  exact z_zret C I hr hv9 ⟨_, rfl, hv9, hw⟩ (Nat.le_of_ble_eq_true rfl) (Nat.le_of_ble_eq_true rfl) dX5_isAccepted_18
set_option maxHeartbeats 4000000 in
set_option maxRecDepth 100000 in
theorem m_X0_isLike {X : zX} {l : Launch} (E : zEnv X l) {M : zM} {o : Nat} {p0 : Nat} {P : Int32 → zM → Prop} {PX : Nat → zM → Prop} (hw : w_X0_isLike o p0 M P) : zCT X l yX0_isLike cX0_isLike 2 (some .boolean) 0 0 0 0 M [.ref o, .ref p0] (zPz P) PX := by
  refine z_entry E (by decide) ?_
  intro p e s m args below meth c C hr htab I
  have hx := C.1.1
  have hb := C.1.2.1
  obtain ⟨ls, he, hl⟩ := z_enter (m := m) (n := 2) (vs := [.ref o, .ref p0]) (l := [(0, .ref o), (1, .ref p0)]) (Nat.le_of_ble_eq_true rfl) rfl
  rw [he]
  clear he
  unfold w_X0_isLike at hw
  refine lv_aload_n hx hb dX0_isLike_0 rfl (lv_at hl 0 rfl) ?_
  refine z_geti C I fl_X0_9 hw dX0_isLike_1 (fun v1 hw => ?_)
  refine lv_aload_n hx hb dX0_isLike_4 rfl (lv_at hl 1 rfl) ?_
  refine z_geti C I fl_X0_9 hw dX0_isLike_5 (fun v2 hw => ?_)
  refine lv_icmp_ne (tgt := 81) hx hb dX0_isLike_8 (by decide) (fun c => ?_) (fun c => ?_)
  · replace hw := hw.1 c
    refine lv_iconst (v := 0) hx hb dX0_isLike_81 (by decide) ?_
    exact z_zret C I hr (Or.inl rfl) ⟨_, rfl, (Or.inl rfl), hw⟩ (Nat.le_of_ble_eq_true rfl) (Nat.le_of_ble_eq_true rfl) dX0_isLike_82
  · replace hw := hw.2 c
    refine lv_aload_n hx hb dX0_isLike_11 rfl (lv_at hl 0 rfl) ?_
    refine z_geti C I fl_X0_15 hw dX0_isLike_12 (fun v3 hw => ?_)
    refine lv_aload_n hx hb dX0_isLike_15 rfl (lv_at hl 1 rfl) ?_
    refine z_geti C I fl_X0_15 hw dX0_isLike_16 (fun v4 hw => ?_)
    refine lv_icmp_ne (tgt := 81) hx hb dX0_isLike_19 (by decide) (fun c => ?_) (fun c => ?_)
    · replace hw := hw.1 c
      refine lv_iconst (v := 0) hx hb dX0_isLike_81 (by decide) ?_
      exact z_zret C I hr (Or.inl rfl) ⟨_, rfl, (Or.inl rfl), hw⟩ (Nat.le_of_ble_eq_true rfl) (Nat.le_of_ble_eq_true rfl) dX0_isLike_82
    · replace hw := hw.2 c
      refine lv_aload_n hx hb dX0_isLike_22 rfl (lv_at hl 0 rfl) ?_
      refine z_geti C I fl_X0_18 hw dX0_isLike_23 (fun v5 hw => ?_)
      refine lv_aload_n hx hb dX0_isLike_26 rfl (lv_at hl 1 rfl) ?_
      refine z_geti C I fl_X0_18 hw dX0_isLike_27 (fun v6 hw => ?_)
      refine lv_icmp_ne (tgt := 81) hx hb dX0_isLike_30 (by decide) (fun c => ?_) (fun c => ?_)
      · replace hw := hw.1 c
        refine lv_iconst (v := 0) hx hb dX0_isLike_81 (by decide) ?_
        exact z_zret C I hr (Or.inl rfl) ⟨_, rfl, (Or.inl rfl), hw⟩ (Nat.le_of_ble_eq_true rfl) (Nat.le_of_ble_eq_true rfl) dX0_isLike_82
      · replace hw := hw.2 c
        refine lv_aload_n hx hb dX0_isLike_33 rfl (lv_at hl 0 rfl) ?_
        refine z_geti C I fl_X0_21 hw dX0_isLike_34 (fun v7 hw => ?_)
        refine lv_aload_n hx hb dX0_isLike_37 rfl (lv_at hl 1 rfl) ?_
        refine z_geti C I fl_X0_21 hw dX0_isLike_38 (fun v8 hw => ?_)
        refine lv_icmp_ne (tgt := 81) hx hb dX0_isLike_41 (by decide) (fun c => ?_) (fun c => ?_)
        · replace hw := hw.1 c
          refine lv_iconst (v := 0) hx hb dX0_isLike_81 (by decide) ?_
          exact z_zret C I hr (Or.inl rfl) ⟨_, rfl, (Or.inl rfl), hw⟩ (Nat.le_of_ble_eq_true rfl) (Nat.le_of_ble_eq_true rfl) dX0_isLike_82
        · replace hw := hw.2 c
          refine lv_aload_n hx hb dX0_isLike_44 rfl (lv_at hl 0 rfl) ?_
          refine z_geti C I fl_X0_24 hw dX0_isLike_45 (fun v9 hw => ?_)
          refine lv_aload_n hx hb dX0_isLike_48 rfl (lv_at hl 1 rfl) ?_
          refine z_geti C I fl_X0_24 hw dX0_isLike_49 (fun v10 hw => ?_)
          refine lv_icmp_ne (tgt := 81) hx hb dX0_isLike_52 (by decide) (fun c => ?_) (fun c => ?_)
          · replace hw := hw.1 c
            refine lv_iconst (v := 0) hx hb dX0_isLike_81 (by decide) ?_
            exact z_zret C I hr (Or.inl rfl) ⟨_, rfl, (Or.inl rfl), hw⟩ (Nat.le_of_ble_eq_true rfl) (Nat.le_of_ble_eq_true rfl) dX0_isLike_82
          · replace hw := hw.2 c
            refine lv_aload_n hx hb dX0_isLike_55 rfl (lv_at hl 0 rfl) ?_
            refine z_geti C I fl_X0_31 hw dX0_isLike_56 (fun v11 hw => ?_)
            refine lv_aload_n hx hb dX0_isLike_59 rfl (lv_at hl 1 rfl) ?_
            refine z_geti C I fl_X0_31 hw dX0_isLike_60 (fun v12 hw => ?_)
            refine lv_icmp_ne (tgt := 81) hx hb dX0_isLike_63 (by decide) (fun c => ?_) (fun c => ?_)
            · replace hw := hw.1 c
              refine lv_iconst (v := 0) hx hb dX0_isLike_81 (by decide) ?_
              exact z_zret C I hr (Or.inl rfl) ⟨_, rfl, (Or.inl rfl), hw⟩ (Nat.le_of_ble_eq_true rfl) (Nat.le_of_ble_eq_true rfl) dX0_isLike_82
            · replace hw := hw.2 c
              refine lv_aload_n hx hb dX0_isLike_66 rfl (lv_at hl 0 rfl) ?_
              refine z_geti C I fl_X0_35 hw dX0_isLike_67 (fun v13 hw => ?_)
              refine lv_aload_n hx hb dX0_isLike_70 rfl (lv_at hl 1 rfl) ?_
              refine z_geti C I fl_X0_35 hw dX0_isLike_71 (fun v14 hw => ?_)
              refine lv_icmp_ne (tgt := 81) hx hb dX0_isLike_74 (by decide) (fun c => ?_) (fun c => ?_)
              · replace hw := hw.1 c
                refine lv_iconst (v := 0) hx hb dX0_isLike_81 (by decide) ?_
                exact z_zret C I hr (Or.inl rfl) ⟨_, rfl, (Or.inl rfl), hw⟩ (Nat.le_of_ble_eq_true rfl) (Nat.le_of_ble_eq_true rfl) dX0_isLike_82
              · replace hw := hw.2 c
                refine lv_iconst (v := 1) hx hb dX0_isLike_77 (by decide) ?_
                refine lv_goto (tgt := 82) hx hb dX0_isLike_78 (by decide) ?_
                exact z_zret C I hr (Or.inr rfl) ⟨_, rfl, (Or.inr rfl), hw⟩ (Nat.le_of_ble_eq_true rfl) (Nat.le_of_ble_eq_true rfl) dX0_isLike_82
set_option maxHeartbeats 4000000 in
set_option maxRecDepth 100000 in
theorem m_X2_isLike {X : zX} {l : Launch} (E : zEnv X l) {M : zM} {o : Nat} {p0 : Nat} {P : Int32 → zM → Prop} {PX : Nat → zM → Prop} (hw : w_X2_isLike o p0 M P) : zCT X l yX2_isLike cX2_isLike 3 (some .boolean) 3 64 0 0 M [.ref o, .ref p0] (zPz P) PX := by
  refine z_entry E (by decide) ?_
  intro p e s m args below meth c C hr htab I
  have hx := C.1.1
  have hb := C.1.2.1
  obtain ⟨ls, he, hl⟩ := z_enter (m := m) (n := 3) (vs := [.ref o, .ref p0]) (l := [(0, .ref o), (1, .ref p0)]) (Nat.le_of_ble_eq_true rfl) rfl
  rw [he]
  clear he
  unfold w_X2_isLike at hw
  have hb_21 : ∀ (n : Nat) (x2 : Int32) (M : zM) (H : Heap) (locs : List Loc) (ls : Array Slot), zWk X s M H locs → lv_has ls 3 [(0, .ref o), (1, .ref p0), (2, .int x2)] → w_X2_isLike_21 o p0 P n x2 M → W p l e (zRm 3 64 0 0) s m args below meth c H locs 0 0 (vx_MQ below (zQc X (zPz P)) (zXc X PX) args s 0 0 (zBase X)) (F0 m 21 ls []) := by
    intro n
    induction n with
    | zero => intro _ M H locs ls I hl hw; exact hw.elim
    | succ n ih =>
      intro x2 M H locs ls I hl hw
      unfold w_X2_isLike_21 at hw
      refine lv_iload_n hx hb dX2_isLike_21 rfl (lv_at hl 2 rfl) ?_
      refine lv_aload_n hx hb dX2_isLike_22 rfl (lv_at hl 0 rfl) ?_
      refine z_getr C I fl_X2_12 hw dX2_isLike_23 (fun v1 hw => ?_)
      obtain ⟨hrc, hw⟩ := hw
      refine z_callV C I (as := []) (rest := [.int x2]) (m_Jx4a65c_size_8abf5 E hw) kv_X2_66 vc_0 hrc rfl rfl hl.1 (Nat.le_of_ble_eq_true rfl) ⟨Nat.le_of_ble_eq_true rfl, Nat.le_of_ble_eq_true rfl⟩ ⟨Nat.le_of_ble_eq_true rfl, Nat.le_of_ble_eq_true rfl⟩ dX2_isLike_26 (z_prop C htab (Nat.le_of_ble_eq_true rfl) (Nat.le_of_ble_eq_true rfl)) (fun v M2 _ _ I hv => ?_)
      obtain ⟨v3, rfl, hw⟩ := hv
      refine W.eq (g2 := F0 m 29 ls [.int v3, .int x2]) rfl ?_
      refine lv_icmp_ge (tgt := 79) hx hb dX2_isLike_29 (by decide) (fun c => ?_) (fun c => ?_)
      · replace hw := hw.1 c
        refine lv_iconst (v := 1) hx hb dX2_isLike_79 (by decide) ?_
        exact z_zret C I hr (Or.inr rfl) ⟨_, rfl, (Or.inr rfl), hw⟩ (Nat.le_of_ble_eq_true rfl) (Nat.le_of_ble_eq_true rfl) dX2_isLike_80
      · replace hw := hw.2 c
        refine lv_iload_n hx hb dX2_isLike_32 rfl (lv_at hl 2 rfl) ?_
        refine lv_aload_n hx hb dX2_isLike_33 rfl (lv_at hl 1 rfl) ?_
        refine z_getr C I fl_X2_12 hw dX2_isLike_34 (fun v4 hw => ?_)
        obtain ⟨hrc, hw⟩ := hw
        refine z_callV C I (as := []) (rest := [.int x2]) (m_Jx4a65c_size_8abf5 E hw) kv_X2_66 vc_0 hrc rfl rfl hl.1 (Nat.le_of_ble_eq_true rfl) ⟨Nat.le_of_ble_eq_true rfl, Nat.le_of_ble_eq_true rfl⟩ ⟨Nat.le_of_ble_eq_true rfl, Nat.le_of_ble_eq_true rfl⟩ dX2_isLike_37 (z_prop C htab (Nat.le_of_ble_eq_true rfl) (Nat.le_of_ble_eq_true rfl)) (fun v M5 _ _ I hv => ?_)
        obtain ⟨v6, rfl, hw⟩ := hv
        refine W.eq (g2 := F0 m 40 ls [.int v6, .int x2]) rfl ?_
        refine lv_icmp_ge (tgt := 79) hx hb dX2_isLike_40 (by decide) (fun c => ?_) (fun c => ?_)
        · replace hw := hw.1 c
          refine lv_iconst (v := 1) hx hb dX2_isLike_79 (by decide) ?_
          exact z_zret C I hr (Or.inr rfl) ⟨_, rfl, (Or.inr rfl), hw⟩ (Nat.le_of_ble_eq_true rfl) (Nat.le_of_ble_eq_true rfl) dX2_isLike_80
        · replace hw := hw.2 c
          refine lv_aload_n hx hb dX2_isLike_43 rfl (lv_at hl 0 rfl) ?_
          refine z_getr C I fl_X2_12 hw dX2_isLike_44 (fun v7 hw => ?_)
          refine lv_iload_n hx hb dX2_isLike_47 rfl (lv_at hl 2 rfl) ?_
          obtain ⟨hrc, hw⟩ := hw
          refine z_callV C I (as := [.int x2]) (rest := []) (m_Jx4a65c_get_915e3 E hw) kv_X2_68 vc_0 hrc rfl rfl hl.1 (Nat.le_of_ble_eq_true rfl) ⟨Nat.le_of_ble_eq_true rfl, Nat.le_of_ble_eq_true rfl⟩ ⟨Nat.le_of_ble_eq_true rfl, Nat.le_of_ble_eq_true rfl⟩ dX2_isLike_48 (z_prop C htab (Nat.le_of_ble_eq_true rfl) (Nat.le_of_ble_eq_true rfl)) (fun v M8 _ _ I hv => ?_)
          obtain ⟨v9, rfl, hw⟩ := hv
          refine W.eq (g2 := F0 m 51 ls [va_rf v9]) rfl ?_
          refine z_cast C I vc_1 (r := v9) zw356 hw dX2_isLike_51 (fun a10 hw => ?_)
          refine lv_aload_n hx hb dX2_isLike_54 rfl (lv_at hl 1 rfl) ?_
          refine z_getr C I fl_X2_12 hw dX2_isLike_55 (fun v11 hw => ?_)
          refine lv_iload_n hx hb dX2_isLike_58 rfl (lv_at hl 2 rfl) ?_
          obtain ⟨hrc, hw⟩ := hw
          refine z_callV C I (as := [.int x2]) (rest := [.ref a10]) (m_Jx4a65c_get_915e3 E hw) kv_X2_68 vc_0 hrc rfl rfl hl.1 (Nat.le_of_ble_eq_true rfl) ⟨Nat.le_of_ble_eq_true rfl, Nat.le_of_ble_eq_true rfl⟩ ⟨Nat.le_of_ble_eq_true rfl, Nat.le_of_ble_eq_true rfl⟩ dX2_isLike_59 (z_prop C htab (Nat.le_of_ble_eq_true rfl) (Nat.le_of_ble_eq_true rfl)) (fun v M12 _ _ I hv => ?_)
          obtain ⟨v13, rfl, hw⟩ := hv
          refine W.eq (g2 := F0 m 62 ls [va_rf v13, .ref a10]) rfl ?_
          refine z_cast C I vc_1 (r := v13) zw356 hw dX2_isLike_62 (fun a14 hw => ?_)
          obtain ⟨hrc, hw⟩ := hw
          refine z_callV C I (as := [.ref a14]) (rest := []) (m_X0_isLike E hw) kv_X2_85 vc_1 hrc rfl rfl hl.1 (Nat.le_of_ble_eq_true rfl) ⟨Nat.le_of_ble_eq_true rfl, Nat.le_of_ble_eq_true rfl⟩ ⟨Nat.le_of_ble_eq_true rfl, Nat.le_of_ble_eq_true rfl⟩ dX2_isLike_65 (z_prop C htab (Nat.le_of_ble_eq_true rfl) (Nat.le_of_ble_eq_true rfl)) (fun v M15 _ _ I hv => ?_)
          obtain ⟨v16, rfl, hv16, hw⟩ := hv
          refine W.eq (g2 := F0 m 68 ls [.int v16]) rfl ?_
          refine lv_if_ne (tgt := 73) hx hb dX2_isLike_68 (by decide) (fun c => ?_) (fun c => ?_)
          · replace hw := hw.1 c
            refine lv_iinc (v := (x2 + 1)) (lv' := [(2, .int (x2 + 1)), (0, .ref o), (1, .ref p0)]) hx hb dX2_isLike_73 hl (k := 2) rfl (by rfl) (by decide) rfl (fun ls hl17 => ?_)
            refine lv_goto (tgt := 21) hx hb dX2_isLike_76 (by decide) ?_
            refine W.widen (k := 0) (n := 0) (Nat.le_of_ble_eq_true rfl) (Nat.le_of_ble_eq_true rfl) ?_
            exact ih (x2 + 1) _ _ _ ls I (lv_sub hl17 [1, 2, 0] rfl) hw
          · replace hw := hw.2 c
            refine lv_iconst (v := 0) hx hb dX2_isLike_71 (by decide) ?_
            exact z_zret C I hr (Or.inl rfl) ⟨_, rfl, (Or.inl rfl), hw⟩ (Nat.le_of_ble_eq_true rfl) (Nat.le_of_ble_eq_true rfl) dX2_isLike_72
  refine lv_aload_n hx hb dX2_isLike_0 rfl (lv_at hl 0 rfl) ?_
  refine z_getr C I fl_X2_12 hw dX2_isLike_1 (fun v18 hw => ?_)
  obtain ⟨hrc, hw⟩ := hw
  refine z_callV C I (as := []) (rest := []) (m_Jx4a65c_size_8abf5 E hw) kv_X2_66 vc_0 hrc rfl rfl hl.1 (Nat.le_of_ble_eq_true rfl) ⟨Nat.le_of_ble_eq_true rfl, Nat.le_of_ble_eq_true rfl⟩ ⟨Nat.le_of_ble_eq_true rfl, Nat.le_of_ble_eq_true rfl⟩ dX2_isLike_4 (z_prop C htab (Nat.le_of_ble_eq_true rfl) (Nat.le_of_ble_eq_true rfl)) (fun v M19 _ _ I hv => ?_)
  obtain ⟨v20, rfl, hw⟩ := hv
  refine W.eq (g2 := F0 m 7 ls [.int v20]) rfl ?_
  refine lv_aload_n hx hb dX2_isLike_7 rfl (lv_at hl 1 rfl) ?_
  refine z_getr C I fl_X2_12 hw dX2_isLike_8 (fun v21 hw => ?_)
  obtain ⟨hrc, hw⟩ := hw
  refine z_callV C I (as := []) (rest := [.int v20]) (m_Jx4a65c_size_8abf5 E hw) kv_X2_66 vc_0 hrc rfl rfl hl.1 (Nat.le_of_ble_eq_true rfl) ⟨Nat.le_of_ble_eq_true rfl, Nat.le_of_ble_eq_true rfl⟩ ⟨Nat.le_of_ble_eq_true rfl, Nat.le_of_ble_eq_true rfl⟩ dX2_isLike_11 (z_prop C htab (Nat.le_of_ble_eq_true rfl) (Nat.le_of_ble_eq_true rfl)) (fun v M22 _ _ I hv => ?_)
  obtain ⟨v23, rfl, hw⟩ := hv
  refine W.eq (g2 := F0 m 14 ls [.int v23, .int v20]) rfl ?_
  refine lv_icmp_eq (tgt := 19) hx hb dX2_isLike_14 (by decide) (fun c => ?_) (fun c => ?_)
  · replace hw := hw.1 c
    refine lv_iconst (v := 0) hx hb dX2_isLike_19 (by decide) ?_
    refine lv_istore_n (lv' := [(2, .int (0 : Int32)), (0, .ref o), (1, .ref p0)]) hx hb dX2_isLike_20 rfl hl (by decide) rfl (fun ls hl24 => ?_)
    obtain ⟨nn, hw⟩ := hw
    refine W.widen (k := 0) (n := 0) (Nat.le_of_ble_eq_true rfl) (Nat.le_of_ble_eq_true rfl) ?_
    exact hb_21 nn (0 : Int32) _ _ _ ls I (lv_sub hl24 [1, 2, 0] rfl) hw
  · replace hw := hw.2 c
    refine lv_iconst (v := 0) hx hb dX2_isLike_17 (by decide) ?_
    exact z_zret C I hr (Or.inl rfl) ⟨_, rfl, (Or.inl rfl), hw⟩ (Nat.le_of_ble_eq_true rfl) (Nat.le_of_ble_eq_true rfl) dX2_isLike_18
set_option maxHeartbeats 4000000 in
set_option maxRecDepth 100000 in
theorem m_X3_lowestLike {X : zX} {l : Launch} (E : zEnv X l) {M : zM} {o : Nat} {p0 : Nat} {P : Int32 → zM → Prop} {PX : Nat → zM → Prop} (hw : w_X3_lowestLike o p0 M P) : zCT X l yX3_lowestLike cX3_lowestLike 4 (some .int) 4 86 0 0 M [.ref o, .ref p0] (zPi P) PX := by
  refine z_entry E (by decide) ?_
  intro p e s m args below meth c C hr htab I
  have hx := C.1.1
  have hb := C.1.2.1
  obtain ⟨ls, he, hl⟩ := z_enter (m := m) (n := 4) (vs := [.ref o, .ref p0]) (l := [(0, .ref o), (1, .ref p0)]) (Nat.le_of_ble_eq_true rfl) rfl
  rw [he]
  clear he
  unfold w_X3_lowestLike at hw
  have hb_2 : ∀ (n : Nat) (x2 : Int32) (M : zM) (H : Heap) (locs : List Loc) (ls : Array Slot), zWk X s M H locs → lv_has ls 4 [(0, .ref o), (1, .ref p0), (2, .int x2)] → w_X3_lowestLike_2 o p0 P n x2 M → W p l e (zRm 4 86 0 0) s m args below meth c H locs 0 0 (vx_MQ below (zQc X (zPi P)) (zXc X PX) args s 0 0 (zBase X)) (F0 m 2 ls []) := by
    intro n
    induction n with
    | zero => intro _ M H locs ls I hl hw; exact hw.elim
    | succ n ih =>
      intro x2 M H locs ls I hl hw
      unfold w_X3_lowestLike_2 at hw
      have hb_45 : ∀ (x2 : Int32) (M : zM) (H : Heap) (locs : List Loc) (ls : Array Slot), zWk X s M H locs → lv_has ls 4 [(0, .ref o), (1, .ref p0), (2, .int x2)] → w_X3_lowestLike_45 o p0 P (w_X3_lowestLike_2 o p0 P n) x2 M → W p l e (zRm 4 86 0 0) s m args below meth c H locs 0 0 (vx_MQ below (zQc X (zPi P)) (zXc X PX) args s 0 0 (zBase X)) (F0 m 45 ls []) := by
        intro x2 M H locs ls I hl hw
        unfold w_X3_lowestLike_45 at hw
        refine lv_iinc (v := (x2 + 1)) (lv' := [(2, .int (x2 + 1)), (0, .ref o), (1, .ref p0)]) hx hb dX3_lowestLike_45 hl (k := 2) rfl (by rfl) (by decide) rfl (fun ls hl1 => ?_)
        refine lv_goto (tgt := 2) hx hb dX3_lowestLike_48 (by decide) ?_
        refine W.widen (k := 0) (n := 0) (Nat.le_of_ble_eq_true rfl) (Nat.le_of_ble_eq_true rfl) ?_
        exact ih (x2 + 1) _ _ _ ls I (lv_sub hl1 [1, 2, 0] rfl) hw
      refine lv_iload_n hx hb dX3_lowestLike_2 rfl (lv_at hl 2 rfl) ?_
      refine lv_aload_n hx hb dX3_lowestLike_3 rfl (lv_at hl 0 rfl) ?_
      refine z_getr C I fl_X3_12 hw dX3_lowestLike_4 (fun v2 hw => ?_)
      obtain ⟨hrc, hw⟩ := hw
      refine z_callV C I (as := []) (rest := [.int x2]) (m_Jx4a65c_size_8abf5 E hw) kv_X3_18 vc_0 hrc rfl rfl hl.1 (Nat.le_of_ble_eq_true rfl) ⟨Nat.le_of_ble_eq_true rfl, Nat.le_of_ble_eq_true rfl⟩ ⟨Nat.le_of_ble_eq_true rfl, Nat.le_of_ble_eq_true rfl⟩ dX3_lowestLike_7 (z_prop C htab (Nat.le_of_ble_eq_true rfl) (Nat.le_of_ble_eq_true rfl)) (fun v M3 _ _ I hv => ?_)
      obtain ⟨v4, rfl, hw⟩ := hv
      refine W.eq (g2 := F0 m 10 ls [.int v4, .int x2]) rfl ?_
      refine lv_icmp_ge (tgt := 51) hx hb dX3_lowestLike_10 (by decide) (fun c => ?_) (fun c => ?_)
      · replace hw := hw.1 c
        refine lv_iconst (v := -1) hx hb dX3_lowestLike_51 (by decide) ?_
        exact z_iret C I hr ⟨_, rfl, hw⟩ (Nat.le_of_ble_eq_true rfl) (Nat.le_of_ble_eq_true rfl) dX3_lowestLike_52
      · replace hw := hw.2 c
        refine lv_aload_n hx hb dX3_lowestLike_13 rfl (lv_at hl 0 rfl) ?_
        refine z_getr C I fl_X3_12 hw dX3_lowestLike_14 (fun v5 hw => ?_)
        refine lv_iload_n hx hb dX3_lowestLike_17 rfl (lv_at hl 2 rfl) ?_
        obtain ⟨hrc, hw⟩ := hw
        refine z_callV C I (as := [.int x2]) (rest := []) (m_Jx4a65c_get_915e3 E hw) kv_X3_22 vc_0 hrc rfl rfl hl.1 (Nat.le_of_ble_eq_true rfl) ⟨Nat.le_of_ble_eq_true rfl, Nat.le_of_ble_eq_true rfl⟩ ⟨Nat.le_of_ble_eq_true rfl, Nat.le_of_ble_eq_true rfl⟩ dX3_lowestLike_18 (z_prop C htab (Nat.le_of_ble_eq_true rfl) (Nat.le_of_ble_eq_true rfl)) (fun v M6 _ _ I hv => ?_)
        obtain ⟨v7, rfl, hw⟩ := hv
        refine W.eq (g2 := F0 m 21 ls [va_rf v7]) rfl ?_
        refine z_cast C I vc_5 (r := v7) zw329 hw dX3_lowestLike_21 (fun a8 hw => ?_)
        refine lv_astore_n (lv' := [(3, .ref a8), (0, .ref o), (1, .ref p0), (2, .int x2)]) hx hb dX3_lowestLike_24 rfl hl (by decide) rfl (fun ls hl9 => ?_)
        refine lv_aload_n hx hb dX3_lowestLike_25 rfl (lv_at hl9 0 rfl) ?_
        refine z_geti C I fl_X3_28 hw dX3_lowestLike_26 (fun v10 hw => ?_)
        refine lv_if_ne (tgt := 45) hx hb dX3_lowestLike_29 (by decide) (fun c => ?_) (fun c => ?_)
        · replace hw := hw.1 c
          refine W.widen (k := 0) (n := 0) (Nat.le_of_ble_eq_true rfl) (Nat.le_of_ble_eq_true rfl) ?_
          exact hb_45 x2 _ _ _ ls I (lv_sub hl9 [1, 2, 3] rfl) hw
        · replace hw := hw.2 c
          refine lv_aload_n hx hb dX3_lowestLike_32 rfl (lv_at hl9 0 rfl) ?_
          refine z_getr C I fl_X3_32 hw dX3_lowestLike_33 (fun v11 hw => ?_)
          refine lv_aload_n hx hb dX3_lowestLike_36 rfl (lv_at hl9 2 rfl) ?_
          obtain ⟨hrc, hw⟩ := hw
          refine z_callV C I (as := [.ref p0]) (rest := []) (m_X2_isLike E hw) kv_X3_36 vc_3 hrc rfl rfl hl9.1 (Nat.le_of_ble_eq_true rfl) ⟨Nat.le_of_ble_eq_true rfl, Nat.le_of_ble_eq_true rfl⟩ ⟨Nat.le_of_ble_eq_true rfl, Nat.le_of_ble_eq_true rfl⟩ dX3_lowestLike_37 (z_prop C htab (Nat.le_of_ble_eq_true rfl) (Nat.le_of_ble_eq_true rfl)) (fun v M12 _ _ I hv => ?_)
          obtain ⟨v13, rfl, hv13, hw⟩ := hv
          refine W.eq (g2 := F0 m 40 ls [.int v13]) rfl ?_
          refine lv_if_eq (tgt := 45) hx hb dX3_lowestLike_40 (by decide) (fun c => ?_) (fun c => ?_)
          · replace hw := hw.1 c
            refine W.widen (k := 0) (n := 0) (Nat.le_of_ble_eq_true rfl) (Nat.le_of_ble_eq_true rfl) ?_
            exact hb_45 x2 _ _ _ ls I (lv_sub hl9 [1, 2, 3] rfl) hw
          · replace hw := hw.2 c
            refine lv_iload_n hx hb dX3_lowestLike_43 rfl (lv_at hl9 3 rfl) ?_
            exact z_iret C I hr ⟨_, rfl, hw⟩ (Nat.le_of_ble_eq_true rfl) (Nat.le_of_ble_eq_true rfl) dX3_lowestLike_44
  refine lv_iconst (v := 0) hx hb dX3_lowestLike_0 (by decide) ?_
  refine lv_istore_n (lv' := [(2, .int (0 : Int32)), (0, .ref o), (1, .ref p0)]) hx hb dX3_lowestLike_1 rfl hl (by decide) rfl (fun ls hl14 => ?_)
  obtain ⟨nn, hw⟩ := hw
  refine W.widen (k := 0) (n := 0) (Nat.le_of_ble_eq_true rfl) (Nat.le_of_ble_eq_true rfl) ?_
  exact hb_2 nn (0 : Int32) _ _ _ ls I (lv_sub hl14 [1, 2, 0] rfl) hw
set_option maxHeartbeats 4000000 in
set_option maxRecDepth 100000 in
theorem m_X5_takeDraft {X : zX} {l : Launch} (E : zEnv X l) {M : zM} {o : Nat} {P : Option Nat → zM → Prop} {PX : Nat → zM → Prop} (hw : w_X5_takeDraft o M P) : zCT X l yX5_takeDraft cX5_takeDraft 2 (some ((.object "SchemaSubjects$Schema"))) 9 308 5 128 M [.ref o] (zPo P) PX := by
  refine z_entry E (by decide) ?_
  intro p e s m args below meth c C hr htab I
  have hx := C.1.1
  have hb := C.1.2.1
  obtain ⟨ls, he, hl⟩ := z_enter (m := m) (n := 2) (vs := [.ref o]) (l := [(0, .ref o)]) (Nat.le_of_ble_eq_true rfl) rfl
  rw [he]
  clear he
  unfold w_X5_takeDraft at hw
  have hb_2 : ∀ (n : Nat) (x1 : Int32) (M : zM) (H : Heap) (locs : List Loc) (ls : Array Slot), zWk X s M H locs → lv_has ls 2 [(0, .ref o), (1, .int x1)] → w_X5_takeDraft_2 o P n x1 M → W p l e (zRm 9 308 5 128) s m args below meth c H locs 0 0 (vx_MQ below (zQc X (zPo P)) (zXc X PX) args s 5 128 (zBase X)) (F0 m 2 ls []) := by
    intro n
    induction n with
    | zero => intro _ M H locs ls I hl hw; exact hw.elim
    | succ n ih =>
      intro x1 M H locs ls I hl hw
      unfold w_X5_takeDraft_2 at hw
      refine lv_iload_n hx hb dX5_takeDraft_2 rfl (lv_at hl 1 rfl) ?_
      refine lv_aload_n hx hb dX5_takeDraft_3 rfl (lv_at hl 0 rfl) ?_
      refine z_getr C I fl_X5_23 hw dX5_takeDraft_4 (fun v1 hw => ?_)
      obtain ⟨hrc, hw⟩ := hw
      refine z_callV C I (as := []) (rest := [.int x1]) (m_Jx4a65c_size_8abf5 E hw) kv_X5_84 vc_0 hrc rfl rfl hl.1 (Nat.le_of_ble_eq_true rfl) ⟨Nat.le_of_ble_eq_true rfl, Nat.le_of_ble_eq_true rfl⟩ ⟨Nat.le_of_ble_eq_true rfl, Nat.le_of_ble_eq_true rfl⟩ dX5_takeDraft_7 (z_prop C htab (Nat.le_of_ble_eq_true rfl) (Nat.le_of_ble_eq_true rfl)) (fun v M2 _ _ I hv => ?_)
      obtain ⟨v3, rfl, hw⟩ := hv
      refine W.eq (g2 := F0 m 10 ls [.int v3, .int x1]) rfl ?_
      refine lv_icmp_ge (tgt := 59) hx hb dX5_takeDraft_10 (by decide) (fun c => ?_) (fun c => ?_)
      · replace hw := hw.1 c
        refine lv_aload_n hx hb dX5_takeDraft_59 rfl (lv_at hl 0 rfl) ?_
        refine z_getr C I fl_X5_29 hw dX5_takeDraft_60 (fun v4 hw => ?_)
        refine lv_astore_n (lv' := [(1, .ref v4), (0, .ref o)]) hx hb dX5_takeDraft_63 rfl hl (by decide) rfl (fun ls hl5 => ?_)
        refine lv_aload_n hx hb dX5_takeDraft_64 rfl (lv_at hl5 0 rfl) ?_
        refine lv_aload_n hx hb dX5_takeDraft_65 rfl (lv_at hl5 1 rfl) ?_
        refine z_getr C I fl_X5_23 hw dX5_takeDraft_66 (fun v6 hw => ?_)
        obtain ⟨hrc, hw⟩ := hw
        refine z_callV C I (as := []) (rest := [.ref v4]) (m_Jx4a65c_size_8abf5 E hw) kv_X5_84 vc_0 hrc rfl rfl hl5.1 (Nat.le_of_ble_eq_true rfl) ⟨Nat.le_of_ble_eq_true rfl, Nat.le_of_ble_eq_true rfl⟩ ⟨Nat.le_of_ble_eq_true rfl, Nat.le_of_ble_eq_true rfl⟩ dX5_takeDraft_69 (z_prop C htab (Nat.le_of_ble_eq_true rfl) (Nat.le_of_ble_eq_true rfl)) (fun v M7 _ _ I hv => ?_)
        obtain ⟨v8, rfl, hw⟩ := hv
        refine W.eq (g2 := F0 m 72 ls [.int v8, .ref v4]) rfl ?_
        refine z_put C I fl_X5_198 rfl (v := .int v8) rfl rfl hw dX5_takeDraft_72 (fun M9 _ _ I hw => ?_)
        refine lv_aload_n hx hb dX5_takeDraft_75 rfl (lv_at hl5 1 rfl) ?_
        refine z_getr C I fl_X5_23 hw dX5_takeDraft_76 (fun v10 hw => ?_)
        refine lv_aload_n hx hb dX5_takeDraft_79 rfl (lv_at hl5 0 rfl) ?_
        obtain ⟨hrc, hw⟩ := hw
        refine z_callV C I (as := [.ref v4]) (rest := []) (m_Jx4a65c_add_9ea2d E hw) kv_X5_19 vc_0 hrc rfl rfl hl5.1 (Nat.le_of_ble_eq_true rfl) ⟨Nat.le_of_ble_eq_true rfl, Nat.le_of_ble_eq_true rfl⟩ ⟨Nat.le_of_ble_eq_true rfl, Nat.le_of_ble_eq_true rfl⟩ dX5_takeDraft_80 (z_prop C htab (Nat.le_of_ble_eq_true rfl) (Nat.le_of_ble_eq_true rfl)) (fun v M11 _ _ I hv => ?_)
        obtain ⟨v12, rfl, hv12, hw⟩ := hv
        refine W.eq (g2 := F0 m 83 ls [.int v12]) rfl ?_
        refine lv_pop hx hb dX5_takeDraft_83 rfl ?_
        refine lv_aload_n hx hb dX5_takeDraft_84 rfl (lv_at hl5 1 rfl) ?_
        refine z_new C I kn_X5_26 (fs := [.null, .null, .int 0]) zd_3 hw (Nat.le_of_ble_eq_true rfl) (Nat.le_of_ble_eq_true rfl) dX5_takeDraft_85 (fun q13 M14 _ I hw => ?_)
        refine lv_dup hx hb dX5_takeDraft_88 rfl ?_
        refine z_callI C I (as := []) (rest := [.ref q13, .ref o]) (m_X2_init E hw) ki_X5_28 rfl rfl hl5.1 (Nat.le_of_ble_eq_true rfl) ⟨Nat.le_of_ble_eq_true rfl, Nat.le_of_ble_eq_true rfl⟩ ⟨Nat.le_of_ble_eq_true rfl, Nat.le_of_ble_eq_true rfl⟩ dX5_takeDraft_89 (fun M15 _ _ I hw => ?_)
        refine W.eq (g2 := F0 m 92 ls [.ref q13, .ref o]) rfl ?_
        refine z_put C I fl_X5_29 rfl (v := .ref q13) rfl rfl hw dX5_takeDraft_92 (fun M16 _ _ I hw => ?_)
        refine lv_aload_n hx hb dX5_takeDraft_95 rfl (lv_at hl5 0 rfl) ?_
        exact z_aret C I hr (Or.inl ⟨_, rfl⟩) (v := (some v4)) ⟨_, rfl, hw⟩ (Nat.le_of_ble_eq_true rfl) (Nat.le_of_ble_eq_true rfl) dX5_takeDraft_96
      · replace hw := hw.2 c
        refine lv_aload_n hx hb dX5_takeDraft_13 rfl (lv_at hl 0 rfl) ?_
        refine z_getr C I fl_X5_23 hw dX5_takeDraft_14 (fun v17 hw => ?_)
        refine lv_iload_n hx hb dX5_takeDraft_17 rfl (lv_at hl 1 rfl) ?_
        obtain ⟨hrc, hw⟩ := hw
        refine z_callV C I (as := [.int x1]) (rest := []) (m_Jx4a65c_get_915e3 E hw) kv_X5_242 vc_0 hrc rfl rfl hl.1 (Nat.le_of_ble_eq_true rfl) ⟨Nat.le_of_ble_eq_true rfl, Nat.le_of_ble_eq_true rfl⟩ ⟨Nat.le_of_ble_eq_true rfl, Nat.le_of_ble_eq_true rfl⟩ dX5_takeDraft_18 (z_prop C htab (Nat.le_of_ble_eq_true rfl) (Nat.le_of_ble_eq_true rfl)) (fun v M18 _ _ I hv => ?_)
        obtain ⟨v19, rfl, hw⟩ := hv
        refine W.eq (g2 := F0 m 21 ls [va_rf v19]) rfl ?_
        refine z_cast C I vc_3 (r := v19) zw147 hw dX5_takeDraft_21 (fun a20 hw => ?_)
        refine lv_aload_n hx hb dX5_takeDraft_24 rfl (lv_at hl 0 rfl) ?_
        refine z_getr C I fl_X5_29 hw dX5_takeDraft_25 (fun v21 hw => ?_)
        obtain ⟨hrc, hw⟩ := hw
        refine z_callV C I (as := [.ref v21]) (rest := []) (m_X2_isLike E hw) kv_X5_265 vc_3 hrc rfl rfl hl.1 (Nat.le_of_ble_eq_true rfl) ⟨Nat.le_of_ble_eq_true rfl, Nat.le_of_ble_eq_true rfl⟩ ⟨Nat.le_of_ble_eq_true rfl, Nat.le_of_ble_eq_true rfl⟩ dX5_takeDraft_28 (z_prop C htab (Nat.le_of_ble_eq_true rfl) (Nat.le_of_ble_eq_true rfl)) (fun v M22 _ _ I hv => ?_)
        obtain ⟨v23, rfl, hv23, hw⟩ := hv
        refine W.eq (g2 := F0 m 31 ls [.int v23]) rfl ?_
        refine lv_if_eq (tgt := 53) hx hb dX5_takeDraft_31 (by decide) (fun c => ?_) (fun c => ?_)
        · replace hw := hw.1 c
          refine lv_iinc (v := (x1 + 1)) (lv' := [(1, .int (x1 + 1)), (0, .ref o)]) hx hb dX5_takeDraft_53 hl (k := 1) rfl (by rfl) (by decide) rfl (fun ls hl24 => ?_)
          refine lv_goto (tgt := 2) hx hb dX5_takeDraft_56 (by decide) ?_
          refine W.widen (k := 0) (n := 0) (Nat.le_of_ble_eq_true rfl) (Nat.le_of_ble_eq_true rfl) ?_
          exact ih (x1 + 1) _ _ _ ls I (lv_sub hl24 [1, 0] rfl) hw
        · replace hw := hw.2 c
          refine lv_aload_n hx hb dX5_takeDraft_34 rfl (lv_at hl 0 rfl) ?_
          refine z_getr C I fl_X5_29 hw dX5_takeDraft_35 (fun v25 hw => ?_)
          obtain ⟨hrc, hw⟩ := hw
          refine z_callV C I (as := []) (rest := []) (m_X2_empty E hw) kv_X5_137 vc_3 hrc rfl rfl hl.1 (Nat.le_of_ble_eq_true rfl) ⟨Nat.le_of_ble_eq_true rfl, Nat.le_of_ble_eq_true rfl⟩ ⟨Nat.le_of_ble_eq_true rfl, Nat.le_of_ble_eq_true rfl⟩ dX5_takeDraft_38 (z_prop C htab (Nat.le_of_ble_eq_true rfl) (Nat.le_of_ble_eq_true rfl)) (fun v M26 _ _ I hv => ?_)
          obtain ⟨rfl, hw⟩ := hv
          refine W.eq (g2 := F0 m 41 ls []) rfl ?_
          refine lv_aload_n hx hb dX5_takeDraft_41 rfl (lv_at hl 0 rfl) ?_
          refine z_getr C I fl_X5_23 hw dX5_takeDraft_42 (fun v27 hw => ?_)
          refine lv_iload_n hx hb dX5_takeDraft_45 rfl (lv_at hl 1 rfl) ?_
          obtain ⟨hrc, hw⟩ := hw
          refine z_callV C I (as := [.int x1]) (rest := []) (m_Jx4a65c_get_915e3 E hw) kv_X5_242 vc_0 hrc rfl rfl hl.1 (Nat.le_of_ble_eq_true rfl) ⟨Nat.le_of_ble_eq_true rfl, Nat.le_of_ble_eq_true rfl⟩ ⟨Nat.le_of_ble_eq_true rfl, Nat.le_of_ble_eq_true rfl⟩ dX5_takeDraft_46 (z_prop C htab (Nat.le_of_ble_eq_true rfl) (Nat.le_of_ble_eq_true rfl)) (fun v M28 _ _ I hv => ?_)
          obtain ⟨v29, rfl, hw⟩ := hv
          refine W.eq (g2 := F0 m 49 ls [va_rf v29]) rfl ?_
          refine z_cast C I vc_3 (r := v29) zw147 hw dX5_takeDraft_49 (fun a30 hw => ?_)
          exact z_aret C I hr (Or.inl ⟨_, rfl⟩) (v := (some a30)) ⟨_, rfl, hw⟩ (Nat.le_of_ble_eq_true rfl) (Nat.le_of_ble_eq_true rfl) dX5_takeDraft_52
  refine lv_iconst (v := 0) hx hb dX5_takeDraft_0 (by decide) ?_
  refine lv_istore_n (lv' := [(1, .int (0 : Int32)), (0, .ref o)]) hx hb dX5_takeDraft_1 rfl hl (by decide) rfl (fun ls hl31 => ?_)
  obtain ⟨nn, hw⟩ := hw
  refine W.widen (k := 0) (n := 0) (Nat.le_of_ble_eq_true rfl) (Nat.le_of_ble_eq_true rfl) ?_
  exact hb_2 nn (0 : Int32) _ _ _ ls I (lv_sub hl31 [1, 0] rfl) hw
set_option maxHeartbeats 4000000 in
set_option maxRecDepth 100000 in
theorem m_X4_init {X : zX} {l : Launch} (E : zEnv X l) {M : zM} {o : Nat} {p0 : Nat} {P : zM → Prop} {PX : Nat → zM → Prop} (hw : w_X4_init o p0 M P) : zCT X l yX4_init cX4_init 2 none 1 20 0 0 M [.ref o, .ref p0] (zPv P) PX := by
  refine z_entry E (by decide) ?_
  intro p e s m args below meth c C hr htab I
  have hx := C.1.1
  have hb := C.1.2.1
  obtain ⟨ls, he, hl⟩ := z_enter (m := m) (n := 2) (vs := [.ref o, .ref p0]) (l := [(0, .ref o), (1, .ref p0)]) (Nat.le_of_ble_eq_true rfl) rfl
  rw [he]
  clear he
  unfold w_X4_init at hw
  refine lv_aload_n hx hb dX4_init_0 rfl (lv_at hl 0 rfl) ?_
  refine z_objInit C zw541 zw41 zw42 hl.1 (Nat.le_of_ble_eq_true rfl) ⟨Nat.le_of_ble_eq_true rfl, Nat.le_of_ble_eq_true rfl⟩ dX4_init_1 ?_
  refine lv_aload_n hx hb dX4_init_4 rfl (lv_at hl 0 rfl) ?_
  refine lv_aload_n hx hb dX4_init_5 rfl (lv_at hl 1 rfl) ?_
  refine z_putF C I fl_X4_9 rfl rfl rfl (v := .ref p0) rfl rfl hw dX4_init_6 (fun M1 _ _ I hw => ?_)
  refine lv_aload_n hx hb dX4_init_9 rfl (lv_at hl 0 rfl) ?_
  refine lv_iconst (v := 0) hx hb dX4_init_10 (by decide) ?_
  refine z_put C I fl_X4_15 rfl (v := .int (0 : Int32)) rfl rfl hw dX4_init_11 (fun M2 _ _ I hw => ?_)
  exact z_vret C I hr ⟨rfl, hw⟩ (Nat.le_of_ble_eq_true rfl) (Nat.le_of_ble_eq_true rfl) dX4_init_14
set_option maxHeartbeats 4000000 in
set_option maxRecDepth 100000 in
theorem m_X5_register {X : zX} {l : Launch} (E : zEnv X l) {M : zM} {o : Nat} {p0 : Int32} {P : Int32 → zM → Prop} {PX : Nat → zM → Prop} (hw : w_X5_register o p0 M P PX) : zCT X l yX5_register cX5_register 5 (some .int) 105 4868 9 242 M [.ref o, .int p0] (zPi P) PX := by
  refine z_entry E (by decide) ?_
  intro p e s m args below meth c C hr htab I
  have hx := C.1.1
  have hb := C.1.2.1
  obtain ⟨ls, he, hl⟩ := z_enter (m := m) (n := 5) (vs := [.ref o, .int p0]) (l := [(0, .ref o), (1, .int p0)]) (Nat.le_of_ble_eq_true rfl) rfl
  rw [he]
  clear he
  unfold w_X5_register at hw
  have hb_60 : ∀ (M : zM) (H : Heap) (locs : List Loc) (ls : Array Slot), zWk X s M H locs → lv_has ls 5 [] → w_X5_register_60 o p0 P PX M → W p l e (zRm 105 4868 9 242) s m args below meth c H locs 2 12 (vx_MQ below (zQc X (zPi P)) (zXc X PX) args s 9 242 (zBase X)) (F0 m 60 ls []) := by
    intro M H locs ls I hl hw
    unfold w_X5_register_60 at hw
    exact z_throw C htab I 3 kt_X5_91_158 hw hl.1 dX5_register_60 dX5_register_63 dX5_register_64 dX5_register_66 dX5_register_69 ⟨Nat.le_of_ble_eq_true rfl, Nat.le_of_ble_eq_true rfl, Nat.le_of_ble_eq_true rfl, Nat.le_of_ble_eq_true rfl⟩ (Nat.le_of_ble_eq_true rfl) (Nat.le_of_ble_eq_true rfl)
  refine lv_aload_n hx hb dX5_register_0 rfl (lv_at hl 0 rfl) ?_
  refine lv_iload_n hx hb dX5_register_1 rfl (lv_at hl 1 rfl) ?_
  obtain ⟨hrc, hw⟩ := hw
  refine z_callV C I (as := [.int p0]) (rest := []) (m_X5_demandedSubject E hw) kv_X5_140 vc_6 hrc rfl rfl hl.1 (Nat.le_of_ble_eq_true rfl) ⟨Nat.le_of_ble_eq_true rfl, Nat.le_of_ble_eq_true rfl⟩ ⟨Nat.le_of_ble_eq_true rfl, Nat.le_of_ble_eq_true rfl⟩ dX5_register_2 (z_prop C htab (Nat.le_of_ble_eq_true rfl) (Nat.le_of_ble_eq_true rfl)) (fun v M1 _ _ I hv => ?_)
  obtain ⟨v2, rfl, hw⟩ := hv
  refine W.eq (g2 := F0 m 5 ls [va_rf v2]) rfl ?_
  refine z_astoren (lv' := [(2, va_rf v2), (0, .ref o), (1, .int p0)]) C (r := v2) dX5_register_5 rfl hl (by decide) rfl (fun ls hl3 => ?_)
  refine lv_aload_n hx hb dX5_register_6 rfl (lv_at hl3 1 rfl) ?_
  obtain ⟨hrc, hw⟩ := hw
  refine z_callV C I (as := []) (rest := []) (m_X5_demandDraft E hw) kv_X5_144 vc_6 hrc rfl rfl hl3.1 (Nat.le_of_ble_eq_true rfl) ⟨Nat.le_of_ble_eq_true rfl, Nat.le_of_ble_eq_true rfl⟩ ⟨Nat.le_of_ble_eq_true rfl, Nat.le_of_ble_eq_true rfl⟩ dX5_register_7 (z_prop C htab (Nat.le_of_ble_eq_true rfl) (Nat.le_of_ble_eq_true rfl)) (fun v M4 _ _ I hv => ?_)
  obtain ⟨rfl, hw⟩ := hv
  refine W.eq (g2 := F0 m 10 ls []) rfl ?_
  refine z_aloadn C (r := v2) dX5_register_10 rfl (lv_at hl3 0 rfl) ?_
  refine lv_aload_n hx hb dX5_register_11 rfl (lv_at hl3 1 rfl) ?_
  refine z_getr C I fl_X5_29 hw dX5_register_12 (fun v5 hw => ?_)
  obtain ⟨a6, hq1, hq2⟩ := hw
  subst hq1
  have hw := hq2
  clear hq2
  refine W.eq (g2 := F0 m 15 ls [.ref v5, .ref a6]) rfl ?_
  have hl7 : lv_has ls 5 [(2, .ref a6), (0, .ref o), (1, .int p0)] := hl3
  obtain ⟨hrc, hw⟩ := hw
  refine z_callV C I (as := [.ref v5]) (rest := []) (m_X3_lowestLike E hw) kv_X5_151 vc_4 hrc rfl rfl hl7.1 (Nat.le_of_ble_eq_true rfl) ⟨Nat.le_of_ble_eq_true rfl, Nat.le_of_ble_eq_true rfl⟩ ⟨Nat.le_of_ble_eq_true rfl, Nat.le_of_ble_eq_true rfl⟩ dX5_register_15 (z_prop C htab (Nat.le_of_ble_eq_true rfl) (Nat.le_of_ble_eq_true rfl)) (fun v M8 _ _ I hv => ?_)
  obtain ⟨v9, rfl, hw⟩ := hv
  refine W.eq (g2 := F0 m 18 ls [.int v9]) rfl ?_
  refine lv_istore_n (lv' := [(3, .int v9), (2, .ref a6), (0, .ref o), (1, .int p0)]) hx hb dX5_register_18 rfl hl7 (by decide) rfl (fun ls hl10 => ?_)
  refine lv_iload_n hx hb dX5_register_19 rfl (lv_at hl10 0 rfl) ?_
  refine lv_iconst (v := -1) hx hb dX5_register_20 (by decide) ?_
  refine lv_icmp_eq (tgt := 33) hx hb dX5_register_21 (by decide) (fun c => ?_) (fun c => ?_)
  · replace hw := hw.1 c
    refine lv_aload_n hx hb dX5_register_33 rfl (lv_at hl10 1 rfl) ?_
    refine z_getr C I fl_X5_155 hw dX5_register_34 (fun v11 hw => ?_)
    obtain ⟨hrc, hw⟩ := hw
    refine z_callV C I (as := []) (rest := []) (m_Jx4a65c_size_8abf5 E hw) kv_X5_84 vc_0 hrc rfl rfl hl10.1 (Nat.le_of_ble_eq_true rfl) ⟨Nat.le_of_ble_eq_true rfl, Nat.le_of_ble_eq_true rfl⟩ ⟨Nat.le_of_ble_eq_true rfl, Nat.le_of_ble_eq_true rfl⟩ dX5_register_37 (z_prop C htab (Nat.le_of_ble_eq_true rfl) (Nat.le_of_ble_eq_true rfl)) (fun v M12 _ _ I hv => ?_)
    obtain ⟨v13, rfl, hw⟩ := hv
    refine W.eq (g2 := F0 m 40 ls [.int v13]) rfl ?_
    refine lv_istore (lv' := [(4, .int v13), (3, .int v9), (2, .ref a6), (0, .ref o), (1, .int p0)]) hx hb dX5_register_40 hl10 (by decide) rfl (fun ls hl14 => ?_)
    refine lv_iload hx hb dX5_register_42 (lv_at hl14 0 rfl) ?_
    refine lv_bipush (v := 6) hx hb dX5_register_44 (by decide) ?_
    refine lv_icmp_ge (tgt := 60) hx hb dX5_register_46 (by decide) (fun c => ?_) (fun c => ?_)
    · replace hw := hw.1 c
      refine W.widen (k := 2) (n := 12) (Nat.le_of_ble_eq_true rfl) (Nat.le_of_ble_eq_true rfl) ?_
      exact hb_60 _ _ _ ls I (lv_sub hl14 [] rfl) hw
    · replace hw := hw.2 c
      refine lv_aload_n hx hb dX5_register_49 rfl (lv_at hl14 2 rfl) ?_
      refine lv_aload_n hx hb dX5_register_50 rfl (lv_at hl14 3 rfl) ?_
      refine z_getr C I fl_X5_29 hw dX5_register_51 (fun v15 hw => ?_)
      obtain ⟨hrc, hw⟩ := hw
      refine z_callV C I (as := [.ref v15]) (rest := []) (m_X3_accepts E hw) kv_X5_147 vc_4 hrc rfl rfl hl14.1 (Nat.le_of_ble_eq_true rfl) ⟨Nat.le_of_ble_eq_true rfl, Nat.le_of_ble_eq_true rfl⟩ ⟨Nat.le_of_ble_eq_true rfl, Nat.le_of_ble_eq_true rfl⟩ dX5_register_54 (z_prop C htab (Nat.le_of_ble_eq_true rfl) (Nat.le_of_ble_eq_true rfl)) (fun v M16 _ _ I hv => ?_)
      obtain ⟨v17, rfl, hv17, hw⟩ := hv
      refine W.eq (g2 := F0 m 57 ls [.int v17]) rfl ?_
      refine lv_if_ne (tgt := 70) hx hb dX5_register_57 (by decide) (fun c => ?_) (fun c => ?_)
      · replace hw := hw.1 c
        refine lv_aload_n hx hb dX5_register_70 rfl (lv_at hl14 2 rfl) ?_
        refine z_getr C I fl_X5_155 hw dX5_register_71 (fun v18 hw => ?_)
        refine z_new C I kn_X5_160 (fs := [.null, .int 0]) zd_5 hw (Nat.le_of_ble_eq_true rfl) (Nat.le_of_ble_eq_true rfl) dX5_register_74 (fun q19 M20 _ I hw => ?_)
        refine lv_dup hx hb dX5_register_77 rfl ?_
        refine lv_aload_n hx hb dX5_register_78 rfl (lv_at hl14 3 rfl) ?_
        obtain ⟨hrc, hw⟩ := hw
        refine z_callV C I (as := []) (rest := [.ref q19, .ref q19, .ref v18]) (m_X5_takeDraft E hw) kv_X5_162 vc_6 hrc rfl rfl hl14.1 (Nat.le_of_ble_eq_true rfl) ⟨Nat.le_of_ble_eq_true rfl, Nat.le_of_ble_eq_true rfl⟩ ⟨Nat.le_of_ble_eq_true rfl, Nat.le_of_ble_eq_true rfl⟩ dX5_register_79 (z_prop C htab (Nat.le_of_ble_eq_true rfl) (Nat.le_of_ble_eq_true rfl)) (fun v M21 _ _ I hv => ?_)
        obtain ⟨v22, rfl, hw⟩ := hv
        refine W.eq (g2 := F0 m 82 ls [va_rf v22, .ref q19, .ref q19, .ref v18]) rfl ?_
        obtain ⟨a23, hq1, hq2⟩ := hw
        subst hq1
        have hw := hq2
        clear hq2
        refine W.eq (g2 := F0 m 82 ls [.ref a23, .ref q19, .ref q19, .ref v18]) rfl ?_
        have hl24 : lv_has ls 5 [(4, .int v13), (3, .int v9), (2, .ref a6), (0, .ref o), (1, .int p0)] := hl14
        refine z_callI C I (as := [.ref a23]) (rest := [.ref q19, .ref v18]) (m_X4_init E hw) ki_X5_166 rfl rfl hl24.1 (Nat.le_of_ble_eq_true rfl) ⟨Nat.le_of_ble_eq_true rfl, Nat.le_of_ble_eq_true rfl⟩ ⟨Nat.le_of_ble_eq_true rfl, Nat.le_of_ble_eq_true rfl⟩ dX5_register_82 (fun M25 _ _ I hw => ?_)
        refine W.eq (g2 := F0 m 85 ls [.ref q19, .ref v18]) rfl ?_
        obtain ⟨hrc, hw⟩ := hw
        refine z_callV C I (as := [.ref q19]) (rest := []) (m_Jx4a65c_add_9ea2d E hw) kv_X5_19 vc_0 hrc rfl rfl hl24.1 (Nat.le_of_ble_eq_true rfl) ⟨Nat.le_of_ble_eq_true rfl, Nat.le_of_ble_eq_true rfl⟩ ⟨Nat.le_of_ble_eq_true rfl, Nat.le_of_ble_eq_true rfl⟩ dX5_register_85 (z_prop C htab (Nat.le_of_ble_eq_true rfl) (Nat.le_of_ble_eq_true rfl)) (fun v M26 _ _ I hv => ?_)
        obtain ⟨v27, rfl, hv27, hw⟩ := hv
        refine W.eq (g2 := F0 m 88 ls [.int v27]) rfl ?_
        refine lv_pop hx hb dX5_register_88 rfl ?_
        refine lv_iload hx hb dX5_register_89 (lv_at hl24 0 rfl) ?_
        exact z_iret C I hr ⟨_, rfl, hw⟩ (Nat.le_of_ble_eq_true rfl) (Nat.le_of_ble_eq_true rfl) dX5_register_91
      · replace hw := hw.2 c
        refine W.widen (k := 2) (n := 12) (Nat.le_of_ble_eq_true rfl) (Nat.le_of_ble_eq_true rfl) ?_
        exact hb_60 _ _ _ ls I (lv_sub hl14 [] rfl) hw
  · replace hw := hw.2 c
    refine lv_aload_n hx hb dX5_register_24 rfl (lv_at hl10 2 rfl) ?_
    refine z_getr C I fl_X5_29 hw dX5_register_25 (fun v28 hw => ?_)
    obtain ⟨hrc, hw⟩ := hw
    refine z_callV C I (as := []) (rest := []) (m_X2_empty E hw) kv_X5_137 vc_3 hrc rfl rfl hl10.1 (Nat.le_of_ble_eq_true rfl) ⟨Nat.le_of_ble_eq_true rfl, Nat.le_of_ble_eq_true rfl⟩ ⟨Nat.le_of_ble_eq_true rfl, Nat.le_of_ble_eq_true rfl⟩ dX5_register_28 (z_prop C htab (Nat.le_of_ble_eq_true rfl) (Nat.le_of_ble_eq_true rfl)) (fun v M29 _ _ I hv => ?_)
    obtain ⟨rfl, hw⟩ := hv
    refine W.eq (g2 := F0 m 31 ls []) rfl ?_
    refine lv_iload_n hx hb dX5_register_31 rfl (lv_at hl10 0 rfl) ?_
    exact z_iret C I hr ⟨_, rfl, hw⟩ (Nat.le_of_ble_eq_true rfl) (Nat.le_of_ble_eq_true rfl) dX5_register_32
set_option maxHeartbeats 4000000 in
set_option maxRecDepth 100000 in
theorem m_X5_setMode {X : zX} {l : Launch} (E : zEnv X l) {M : zM} {o : Nat} {p0 : Int32} {p1 : Int32} {p2 : Int32} {P : Int32 → zM → Prop} {PX : Nat → zM → Prop} (hw : w_X5_setMode o p0 p1 p2 M P PX) : zCT X l yX5_setMode cX5_setMode 6 (some .int) 7 111 2 12 M [.ref o, .int p0, .int p1, .int p2] (zPi P) PX := by
  refine z_entry E (by decide) ?_
  intro p e s m args below meth c C hr htab I
  have hx := C.1.1
  have hb := C.1.2.1
  obtain ⟨ls, he, hl⟩ := z_enter (m := m) (n := 6) (vs := [.ref o, .int p0, .int p1, .int p2]) (l := [(0, .ref o), (1, .int p0), (2, .int p1), (3, .int p2)]) (Nat.le_of_ble_eq_true rfl) rfl
  rw [he]
  clear he
  unfold w_X5_setMode at hw
  have hb_16 : ∀ (M : zM) (H : Heap) (locs : List Loc) (ls : Array Slot), zWk X s M H locs → lv_has ls 6 [] → w_X5_setMode_16 o p0 p1 p2 P PX M → W p l e (zRm 7 111 2 12) s m args below meth c H locs 1 6 (vx_MQ below (zQc X (zPi P)) (zXc X PX) args s 2 12 (zBase X)) (F0 m 16 ls []) := by
    intro M H locs ls I hl hw
    unfold w_X5_setMode_16 at hw
    exact z_throw C htab I 1 kt_X5_53_169 hw hl.1 dX5_setMode_16 dX5_setMode_19 dX5_setMode_20 dX5_setMode_22 dX5_setMode_25 ⟨Nat.le_of_ble_eq_true rfl, Nat.le_of_ble_eq_true rfl, Nat.le_of_ble_eq_true rfl, Nat.le_of_ble_eq_true rfl⟩ (Nat.le_of_ble_eq_true rfl) (Nat.le_of_ble_eq_true rfl)
  refine lv_aload_n hx hb dX5_setMode_0 rfl (lv_at hl 0 rfl) ?_
  refine lv_iload_n hx hb dX5_setMode_1 rfl (lv_at hl 1 rfl) ?_
  obtain ⟨hrc, hw⟩ := hw
  refine z_callV C I (as := [.int p0]) (rest := []) (m_X5_demandedSubject E hw) kv_X5_140 vc_6 hrc rfl rfl hl.1 (Nat.le_of_ble_eq_true rfl) ⟨Nat.le_of_ble_eq_true rfl, Nat.le_of_ble_eq_true rfl⟩ ⟨Nat.le_of_ble_eq_true rfl, Nat.le_of_ble_eq_true rfl⟩ dX5_setMode_2 (z_prop C htab (Nat.le_of_ble_eq_true rfl) (Nat.le_of_ble_eq_true rfl)) (fun v M1 _ _ I hv => ?_)
  obtain ⟨v2, rfl, hw⟩ := hv
  refine W.eq (g2 := F0 m 5 ls [va_rf v2]) rfl ?_
  refine z_astore (lv' := [(4, va_rf v2), (0, .ref o), (1, .int p0), (2, .int p1), (3, .int p2)]) C (r := v2) dX5_setMode_5 hl (by decide) rfl (fun ls hl3 => ?_)
  refine lv_iload_n hx hb dX5_setMode_7 rfl (lv_at hl3 3 rfl) ?_
  refine lv_if_lt (tgt := 16) hx hb dX5_setMode_8 (by decide) (fun c => ?_) (fun c => ?_)
  · replace hw := hw.1 c
    refine W.widen (k := 1) (n := 6) (Nat.le_of_ble_eq_true rfl) (Nat.le_of_ble_eq_true rfl) ?_
    exact hb_16 _ _ _ ls I (lv_sub hl3 [] rfl) hw
  · replace hw := hw.2 c
    refine lv_iload_n hx hb dX5_setMode_11 rfl (lv_at hl3 3 rfl) ?_
    refine lv_iconst (v := 3) hx hb dX5_setMode_12 (by decide) ?_
    refine lv_icmp_le (tgt := 26) hx hb dX5_setMode_13 (by decide) (fun c => ?_) (fun c => ?_)
    · replace hw := hw.1 c
      refine z_aload C (r := v2) dX5_setMode_26 (lv_at hl3 0 rfl) ?_
      obtain ⟨a4, hq1, hq2⟩ := hw
      subst hq1
      have hw := hq2
      clear hq2
      refine W.eq (g2 := F0 m 28 ls [.ref a4]) rfl ?_
      have hl5 : lv_has ls 6 [(4, .ref a4), (0, .ref o), (1, .int p0), (2, .int p1), (3, .int p2)] := hl3
      refine z_geti C I fl_X5_171 hw dX5_setMode_28 (fun v6 hw => ?_)
      refine lv_istore (lv' := [(5, .int v6), (4, .ref a4), (0, .ref o), (1, .int p0), (2, .int p1), (3, .int p2)]) hx hb dX5_setMode_31 hl5 (by decide) rfl (fun ls hl7 => ?_)
      refine lv_aload hx hb dX5_setMode_33 (lv_at hl7 1 rfl) ?_
      refine lv_iload_n hx hb dX5_setMode_35 rfl (lv_at hl7 4 rfl) ?_
      refine z_put C I fl_X5_171 rfl (v := .int p1) rfl rfl hw dX5_setMode_36 (fun M8 _ _ I hw => ?_)
      refine lv_aload hx hb dX5_setMode_39 (lv_at hl7 1 rfl) ?_
      refine lv_iload_n hx hb dX5_setMode_41 rfl (lv_at hl7 5 rfl) ?_
      obtain ⟨h01, hw⟩ := hw
      refine z_put C I fl_X5_174 rfl (v := .int p2) (z_nz h01) (z_fz h01) hw dX5_setMode_42 (fun M9 _ _ I hw => ?_)
      refine lv_iload hx hb dX5_setMode_45 (lv_at hl7 0 rfl) ?_
      exact z_iret C I hr ⟨_, rfl, hw⟩ (Nat.le_of_ble_eq_true rfl) (Nat.le_of_ble_eq_true rfl) dX5_setMode_47
    · replace hw := hw.2 c
      refine W.widen (k := 1) (n := 6) (Nat.le_of_ble_eq_true rfl) (Nat.le_of_ble_eq_true rfl) ?_
      exact hb_16 _ _ _ ls I (lv_sub hl3 [] rfl) hw
set_option maxHeartbeats 4000000 in
set_option maxRecDepth 100000 in
theorem m_X5_demandedVersion {X : zX} {l : Launch} (E : zEnv X l) {M : zM} {p0 : Nat} {p1 : Int32} {P : Option Nat → zM → Prop} {PX : Nat → zM → Prop} (hw : w_X5_demandedVersion p0 p1 M P PX) : zCT X l yX5_demandedVersion cX5_demandedVersion 3 (some ((.object "SchemaSubjects$Version"))) 6 90 1 6 M [.ref p0, .int p1] (zPo P) PX := by
  refine z_entry E (by decide) ?_
  intro p e s m args below meth c C hr htab I
  have hx := C.1.1
  have hb := C.1.2.1
  obtain ⟨ls, he, hl⟩ := z_enter (m := m) (n := 3) (vs := [.ref p0, .int p1]) (l := [(0, .ref p0), (1, .int p1)]) (Nat.le_of_ble_eq_true rfl) rfl
  rw [he]
  clear he
  unfold w_X5_demandedVersion at hw
  refine lv_aload_n hx hb dX5_demandedVersion_0 rfl (lv_at hl 0 rfl) ?_
  refine lv_iload_n hx hb dX5_demandedVersion_1 rfl (lv_at hl 1 rfl) ?_
  obtain ⟨hrc, hw⟩ := hw
  refine z_callV C I (as := [.int p1]) (rest := []) (m_X3_keptVersion E hw) kv_X5_246 vc_4 hrc rfl rfl hl.1 (Nat.le_of_ble_eq_true rfl) ⟨Nat.le_of_ble_eq_true rfl, Nat.le_of_ble_eq_true rfl⟩ ⟨Nat.le_of_ble_eq_true rfl, Nat.le_of_ble_eq_true rfl⟩ dX5_demandedVersion_2 (z_prop C htab (Nat.le_of_ble_eq_true rfl) (Nat.le_of_ble_eq_true rfl)) (fun v M1 _ _ I hv => ?_)
  obtain ⟨v2, rfl, hw⟩ := hv
  refine W.eq (g2 := F0 m 5 ls [va_rf v2]) rfl ?_
  refine z_astoren (lv' := [(2, va_rf v2), (0, .ref p0), (1, .int p1)]) C (r := v2) dX5_demandedVersion_5 rfl hl (by decide) rfl (fun ls hl3 => ?_)
  refine z_aloadn C (r := v2) dX5_demandedVersion_6 rfl (lv_at hl3 0 rfl) ?_
  refine z_ifnonnull C (r := v2) (tgt := 20) dX5_demandedVersion_7 (by decide) (fun a4 c => ?_) (fun c => ?_)
  · have hq := hw.2 a4 c
    subst c
    have hw := hq
    clear hq
    refine W.eq (g2 := F0 m 20 ls []) rfl ?_
    have hl6 : lv_has ls 3 [(2, .ref a4), (0, .ref p0), (1, .int p1)] := hl3
    refine lv_aload_n hx hb dX5_demandedVersion_20 rfl (lv_at hl6 0 rfl) ?_
    exact z_aret C I hr (Or.inl ⟨_, rfl⟩) (v := (some a4)) ⟨_, rfl, hw⟩ (Nat.le_of_ble_eq_true rfl) (Nat.le_of_ble_eq_true rfl) dX5_demandedVersion_21
  · have hq := hw.1 c
    subst c
    have hw := hq
    clear hq
    refine W.eq (g2 := F0 m 10 ls []) rfl ?_
    have hl5 : lv_has ls 3 [(2, va_rf none), (0, .ref p0), (1, .int p1)] := hl3
    exact z_throw C htab I 2 kt_X5_69_250 hw hl5.1 dX5_demandedVersion_10 dX5_demandedVersion_13 dX5_demandedVersion_14 dX5_demandedVersion_16 dX5_demandedVersion_19 ⟨Nat.le_of_ble_eq_true rfl, Nat.le_of_ble_eq_true rfl, Nat.le_of_ble_eq_true rfl, Nat.le_of_ble_eq_true rfl⟩ (Nat.le_of_ble_eq_true rfl) (Nat.le_of_ble_eq_true rfl)
set_option maxHeartbeats 4000000 in
set_option maxRecDepth 100000 in
theorem m_X2_refersTo {X : zX} {l : Launch} (E : zEnv X l) {M : zM} {o : Nat} {p0 : Int32} {P : Int32 → zM → Prop} {PX : Nat → zM → Prop} (hw : w_X2_refersTo o p0 M P) : zCT X l yX2_refersTo cX2_refersTo 3 (some .boolean) 3 64 0 0 M [.ref o, .int p0] (zPz P) PX := by
  refine z_entry E (by decide) ?_
  intro p e s m args below meth c C hr htab I
  have hx := C.1.1
  have hb := C.1.2.1
  obtain ⟨ls, he, hl⟩ := z_enter (m := m) (n := 3) (vs := [.ref o, .int p0]) (l := [(0, .ref o), (1, .int p0)]) (Nat.le_of_ble_eq_true rfl) rfl
  rw [he]
  clear he
  unfold w_X2_refersTo at hw
  have hb_2 : ∀ (n : Nat) (x2 : Int32) (M : zM) (H : Heap) (locs : List Loc) (ls : Array Slot), zWk X s M H locs → lv_has ls 3 [(0, .ref o), (1, .int p0), (2, .int x2)] → w_X2_refersTo_2 o p0 P n x2 M → W p l e (zRm 3 64 0 0) s m args below meth c H locs 0 0 (vx_MQ below (zQc X (zPz P)) (zXc X PX) args s 0 0 (zBase X)) (F0 m 2 ls []) := by
    intro n
    induction n with
    | zero => intro _ M H locs ls I hl hw; exact hw.elim
    | succ n ih =>
      intro x2 M H locs ls I hl hw
      unfold w_X2_refersTo_2 at hw
      refine lv_iload_n hx hb dX2_refersTo_2 rfl (lv_at hl 2 rfl) ?_
      refine lv_aload_n hx hb dX2_refersTo_3 rfl (lv_at hl 0 rfl) ?_
      refine z_getr C I fl_X2_12 hw dX2_refersTo_4 (fun v1 hw => ?_)
      obtain ⟨hrc, hw⟩ := hw
      refine z_callV C I (as := []) (rest := [.int x2]) (m_Jx4a65c_size_8abf5 E hw) kv_X2_66 vc_0 hrc rfl rfl hl.1 (Nat.le_of_ble_eq_true rfl) ⟨Nat.le_of_ble_eq_true rfl, Nat.le_of_ble_eq_true rfl⟩ ⟨Nat.le_of_ble_eq_true rfl, Nat.le_of_ble_eq_true rfl⟩ dX2_refersTo_7 (z_prop C htab (Nat.le_of_ble_eq_true rfl) (Nat.le_of_ble_eq_true rfl)) (fun v M2 _ _ I hv => ?_)
      obtain ⟨v3, rfl, hw⟩ := hv
      refine W.eq (g2 := F0 m 10 ls [.int v3, .int x2]) rfl ?_
      refine lv_icmp_ge (tgt := 39) hx hb dX2_refersTo_10 (by decide) (fun c => ?_) (fun c => ?_)
      · replace hw := hw.1 c
        refine lv_iconst (v := 0) hx hb dX2_refersTo_39 (by decide) ?_
        exact z_zret C I hr (Or.inl rfl) ⟨_, rfl, (Or.inl rfl), hw⟩ (Nat.le_of_ble_eq_true rfl) (Nat.le_of_ble_eq_true rfl) dX2_refersTo_40
      · replace hw := hw.2 c
        refine lv_aload_n hx hb dX2_refersTo_13 rfl (lv_at hl 0 rfl) ?_
        refine z_getr C I fl_X2_12 hw dX2_refersTo_14 (fun v4 hw => ?_)
        refine lv_iload_n hx hb dX2_refersTo_17 rfl (lv_at hl 2 rfl) ?_
        obtain ⟨hrc, hw⟩ := hw
        refine z_callV C I (as := [.int x2]) (rest := []) (m_Jx4a65c_get_915e3 E hw) kv_X2_68 vc_0 hrc rfl rfl hl.1 (Nat.le_of_ble_eq_true rfl) ⟨Nat.le_of_ble_eq_true rfl, Nat.le_of_ble_eq_true rfl⟩ ⟨Nat.le_of_ble_eq_true rfl, Nat.le_of_ble_eq_true rfl⟩ dX2_refersTo_18 (z_prop C htab (Nat.le_of_ble_eq_true rfl) (Nat.le_of_ble_eq_true rfl)) (fun v M5 _ _ I hv => ?_)
        obtain ⟨v6, rfl, hw⟩ := hv
        refine W.eq (g2 := F0 m 21 ls [va_rf v6]) rfl ?_
        refine z_cast C I vc_1 (r := v6) zw356 hw dX2_refersTo_21 (fun a7 hw => ?_)
        refine z_geti C I fl_X2_82 hw dX2_refersTo_24 (fun v8 hw => ?_)
        refine lv_iload_n hx hb dX2_refersTo_27 rfl (lv_at hl 1 rfl) ?_
        refine lv_icmp_ne (tgt := 33) hx hb dX2_refersTo_28 (by decide) (fun c => ?_) (fun c => ?_)
        · replace hw := hw.1 c
          refine lv_iinc (v := (x2 + 1)) (lv' := [(2, .int (x2 + 1)), (0, .ref o), (1, .int p0)]) hx hb dX2_refersTo_33 hl (k := 2) rfl (by rfl) (by decide) rfl (fun ls hl9 => ?_)
          refine lv_goto (tgt := 2) hx hb dX2_refersTo_36 (by decide) ?_
          refine W.widen (k := 0) (n := 0) (Nat.le_of_ble_eq_true rfl) (Nat.le_of_ble_eq_true rfl) ?_
          exact ih (x2 + 1) _ _ _ ls I (lv_sub hl9 [1, 2, 0] rfl) hw
        · replace hw := hw.2 c
          refine lv_iconst (v := 1) hx hb dX2_refersTo_31 (by decide) ?_
          exact z_zret C I hr (Or.inr rfl) ⟨_, rfl, (Or.inr rfl), hw⟩ (Nat.le_of_ble_eq_true rfl) (Nat.le_of_ble_eq_true rfl) dX2_refersTo_32
  refine lv_iconst (v := 0) hx hb dX2_refersTo_0 (by decide) ?_
  refine lv_istore_n (lv' := [(2, .int (0 : Int32)), (0, .ref o), (1, .int p0)]) hx hb dX2_refersTo_1 rfl hl (by decide) rfl (fun ls hl10 => ?_)
  obtain ⟨nn, hw⟩ := hw
  refine W.widen (k := 0) (n := 0) (Nat.le_of_ble_eq_true rfl) (Nat.le_of_ble_eq_true rfl) ?_
  exact hb_2 nn (0 : Int32) _ _ _ ls I (lv_sub hl10 [1, 2, 0] rfl) hw
