set_option maxHeartbeats 4000000 in
set_option maxRecDepth 100000 in
theorem m_Jxa1e45_init_da8c8 {X : zX} {l : Launch} (E : zEnv X l) {M : zM} {o : Nat} {P : zM → Prop} {PX : Nat → zM → Prop} (hw : w_Jxa1e45_init_da8c8 o M P) : zCT X l yJxa1e45_init_da8c8 cJxa1e45_init_da8c8 1 none 1 20 0 0 M [.ref o] (zPv P) PX := by
  refine z_entry E (by decide) ?_
  intro p e s m args below meth c C hr htab I
  have hx := C.1.1
  have hb := C.1.2.1
  obtain ⟨ls, he, hl⟩ := z_enter (m := m) (n := 1) (vs := [.ref o]) (l := [(0, .ref o)]) (Nat.le_of_ble_eq_true rfl) rfl
  rw [he]
  clear he
  unfold w_Jxa1e45_init_da8c8 at hw
  refine lv_aload_n hx hb dJxa1e45_init_da8c8_0 rfl (lv_at hl 0 rfl) ?_
  refine z_objInit C zw54 zw41 zw42 hl.1 (Nat.le_of_ble_eq_true rfl) ⟨Nat.le_of_ble_eq_true rfl, Nat.le_of_ble_eq_true rfl⟩ dJxa1e45_init_da8c8_1 ?_
  exact z_vret C I hr ⟨rfl, hw⟩ (Nat.le_of_ble_eq_true rfl) (Nat.le_of_ble_eq_true rfl) dJxa1e45_init_da8c8_4
set_option maxHeartbeats 4000000 in
set_option maxRecDepth 100000 in
theorem m_Jxc12de_init_da8c8 {X : zX} {l : Launch} (E : zEnv X l) {M : zM} {o : Nat} {P : zM → Prop} {PX : Nat → zM → Prop} (hw : w_Jxc12de_init_da8c8 o M P) : zCT X l yJxc12de_init_da8c8 cJxc12de_init_da8c8 1 none 2 40 0 0 M [.ref o] (zPv P) PX := by
  refine z_entry E (by decide) ?_
  intro p e s m args below meth c C hr htab I
  have hx := C.1.1
  have hb := C.1.2.1
  obtain ⟨ls, he, hl⟩ := z_enter (m := m) (n := 1) (vs := [.ref o]) (l := [(0, .ref o)]) (Nat.le_of_ble_eq_true rfl) rfl
  rw [he]
  clear he
  unfold w_Jxc12de_init_da8c8 at hw
  refine lv_aload_n hx hb dJxc12de_init_da8c8_0 rfl (lv_at hl 0 rfl) ?_
  refine z_callI C I (as := []) (rest := []) (m_Jxa1e45_init_da8c8 E hw) ki_Jxc12de_1 rfl rfl hl.1 (Nat.le_of_ble_eq_true rfl) ⟨Nat.le_of_ble_eq_true rfl, Nat.le_of_ble_eq_true rfl⟩ ⟨Nat.le_of_ble_eq_true rfl, Nat.le_of_ble_eq_true rfl⟩ dJxc12de_init_da8c8_1 (fun M1 _ _ I hw => ?_)
  refine W.eq (g2 := F0 m 4 ls []) rfl ?_
  refine lv_aload_n hx hb dJxc12de_init_da8c8_4 rfl (lv_at hl 0 rfl) ?_
  refine lv_iconst (v := 0) hx hb dJxc12de_init_da8c8_5 (by decide) ?_
  refine z_put C I fl_Jxc12de_7 rfl (v := .int (0 : Int32)) rfl rfl hw dJxc12de_init_da8c8_6 (fun M2 _ _ I hw => ?_)
  exact z_vret C I hr ⟨rfl, hw⟩ (Nat.le_of_ble_eq_true rfl) (Nat.le_of_ble_eq_true rfl) dJxc12de_init_da8c8_9
set_option maxHeartbeats 4000000 in
set_option maxRecDepth 100000 in
theorem m_Jx4a65c_init_da8c8 {X : zX} {l : Launch} (E : zEnv X l) {M : zM} {o : Nat} {P : zM → Prop} {PX : Nat → zM → Prop} (hw : w_Jx4a65c_init_da8c8 o M P) : zCT X l yJx4a65c_init_da8c8 cJx4a65c_init_da8c8 1 none 3 60 0 0 M [.ref o] (zPv P) PX := by
  refine z_entry E (by decide) ?_
  intro p e s m args below meth c C hr htab I
  have hx := C.1.1
  have hb := C.1.2.1
  obtain ⟨ls, he, hl⟩ := z_enter (m := m) (n := 1) (vs := [.ref o]) (l := [(0, .ref o)]) (Nat.le_of_ble_eq_true rfl) rfl
  rw [he]
  clear he
  unfold w_Jx4a65c_init_da8c8 at hw
  refine lv_aload_n hx hb dJx4a65c_init_da8c8_0 rfl (lv_at hl 0 rfl) ?_
  refine z_callI C I (as := []) (rest := []) (m_Jxc12de_init_da8c8 E hw) ki_Jx4a65c_1 rfl rfl hl.1 (Nat.le_of_ble_eq_true rfl) ⟨Nat.le_of_ble_eq_true rfl, Nat.le_of_ble_eq_true rfl⟩ ⟨Nat.le_of_ble_eq_true rfl, Nat.le_of_ble_eq_true rfl⟩ dJx4a65c_init_da8c8_1 (fun M1 _ _ I hw => ?_)
  refine W.eq (g2 := F0 m 4 ls []) rfl ?_
  refine lv_aload_n hx hb dJx4a65c_init_da8c8_4 rfl (lv_at hl 0 rfl) ?_
  refine z_gets C I zw55 hw dJx4a65c_init_da8c8_5 (fun v2 hw => ?_)
  refine z_put C I fl_Jx4a65c_9 rfl (v := .ref v2) rfl rfl hw dJx4a65c_init_da8c8_8 (fun M3 _ _ I hw => ?_)
  exact z_vret C I hr ⟨rfl, hw⟩ (Nat.le_of_ble_eq_true rfl) (Nat.le_of_ble_eq_true rfl) dJx4a65c_init_da8c8_11
set_option maxHeartbeats 4000000 in
set_option maxRecDepth 100000 in
theorem m_X3_init {X : zX} {l : Launch} (E : zEnv X l) {M : zM} {o : Nat} {P : zM → Prop} {PX : Nat → zM → Prop} (hw : w_X3_init o M P) : zCT X l yX3_init cX3_init 1 none 4 80 1 3 M [.ref o] (zPv P) PX := by
  refine z_entry E (by decide) ?_
  intro p e s m args below meth c C hr htab I
  have hx := C.1.1
  have hb := C.1.2.1
  obtain ⟨ls, he, hl⟩ := z_enter (m := m) (n := 1) (vs := [.ref o]) (l := [(0, .ref o)]) (Nat.le_of_ble_eq_true rfl) rfl
  rw [he]
  clear he
  unfold w_X3_init at hw
  refine lv_aload_n hx hb dX3_init_0 rfl (lv_at hl 0 rfl) ?_
  refine z_objInit C zw74 zw41 zw42 hl.1 (Nat.le_of_ble_eq_true rfl) ⟨Nat.le_of_ble_eq_true rfl, Nat.le_of_ble_eq_true rfl⟩ dX3_init_1 ?_
  refine lv_aload_n hx hb dX3_init_4 rfl (lv_at hl 0 rfl) ?_
  refine z_new C I kn_X3_9 (fs := [.int 0, .null, .int 0]) zd_0 hw (Nat.le_of_ble_eq_true rfl) (Nat.le_of_ble_eq_true rfl) dX3_init_5 (fun q1 M2 _ I hw => ?_)
  refine lv_dup hx hb dX3_init_8 rfl ?_
  refine z_callI C I (as := []) (rest := [.ref q1, .ref o]) (m_Jx4a65c_init_da8c8 E hw) ki_X3_11 rfl rfl hl.1 (Nat.le_of_ble_eq_true rfl) ⟨Nat.le_of_ble_eq_true rfl, Nat.le_of_ble_eq_true rfl⟩ ⟨Nat.le_of_ble_eq_true rfl, Nat.le_of_ble_eq_true rfl⟩ dX3_init_9 (fun M3 _ _ I hw => ?_)
  refine W.eq (g2 := F0 m 12 ls [.ref q1, .ref o]) rfl ?_
  refine z_putF C I fl_X3_12 rfl rfl rfl (v := .ref q1) rfl rfl hw dX3_init_12 (fun M4 _ _ I hw => ?_)
  exact z_vret C I hr ⟨rfl, hw⟩ (Nat.le_of_ble_eq_true rfl) (Nat.le_of_ble_eq_true rfl) dX3_init_15
set_option maxHeartbeats 4000000 in
set_option maxRecDepth 100000 in
theorem m_J8_newLength_cabcc {X : zX} {l : Launch} (E : zEnv X l) {M : zM} {p0 : Int32} {p1 : Int32} {p2 : Int32} {P : Int32 → zM → Prop} {PX : Nat → zM → Prop} (hw : w_J8_newLength_cabcc p0 p1 p2 M P) : zCT X l yJ8_newLength_cabcc cJ8_newLength_cabcc 4 (some .int) 1 60 0 0 M [.int p0, .int p1, .int p2] (zPi P) PX := by
  refine z_entry E (by decide) ?_
  intro p e s m args below meth c C hr htab I
  have hx := C.1.1
  have hb := C.1.2.1
  obtain ⟨ls, he, hl⟩ := z_enter (m := m) (n := 4) (vs := [.int p0, .int p1, .int p2]) (l := [(0, .int p0), (1, .int p1), (2, .int p2)]) (Nat.le_of_ble_eq_true rfl) rfl
  rw [he]
  clear he
  unfold w_J8_newLength_cabcc at hw
  have hb_21 : ∀ (M : zM) (H : Heap) (locs : List Loc) (ls : Array Slot), zWk X s M H locs → lv_has ls 4 [(0, .int p0), (1, .int p1)] → w_J8_newLength_cabcc_21 p0 p1 p2 P M → W p l e (zRm 1 60 0 0) s m args below meth c H locs 0 0 (vx_MQ below (zQc X (zPi P)) (zXc X PX) args s 0 0 (zBase X)) (F0 m 21 ls []) := by
    intro M H locs ls I hl hw
    unfold w_J8_newLength_cabcc_21 at hw
    refine lv_iload_n hx hb dJ8_newLength_cabcc_21 rfl (lv_at hl 0 rfl) ?_
    refine lv_iload_n hx hb dJ8_newLength_cabcc_22 rfl (lv_at hl 1 rfl) ?_
    exact hw.elim
  refine lv_iload_n hx hb dJ8_newLength_cabcc_0 rfl (lv_at hl 0 rfl) ?_
  refine lv_iload_n hx hb dJ8_newLength_cabcc_1 rfl (lv_at hl 1 rfl) ?_
  refine lv_iload_n hx hb dJ8_newLength_cabcc_2 rfl (lv_at hl 2 rfl) ?_
  refine va_mmax hx hb (C.1.2.2.1.trans hl.1.symm) C.1.2.2.2.1 (z_word C.1 zw109) (z_word C.1 zw110) (z_word C.1 zw20) (z_word C.1 zw111) (Nat.le_of_ble_eq_true rfl) (Nat.le_of_ble_eq_true rfl) (Nat.le_of_ble_eq_true rfl) (Nat.le_of_ble_eq_true rfl) dJ8_newLength_cabcc_3 ?_
  refine lv_iadd hx hb dJ8_newLength_cabcc_6 ?_
  refine lv_istore_n (lv' := [(3, .int (p0 + (if p1 < p2 then p2 else p1))), (0, .int p0), (1, .int p1), (2, .int p2)]) hx hb dJ8_newLength_cabcc_7 rfl hl (by decide) rfl (fun ls hl1 => ?_)
  refine lv_iconst (v := 0) hx hb dJ8_newLength_cabcc_8 (by decide) ?_
  refine lv_iload_n hx hb dJ8_newLength_cabcc_9 rfl (lv_at hl1 0 rfl) ?_
  refine lv_icmp_ge (tgt := 21) hx hb dJ8_newLength_cabcc_10 (by decide) (fun c => ?_) (fun c => ?_)
  · replace hw := hw.1 c
    refine W.widen (k := 0) (n := 0) (Nat.le_of_ble_eq_true rfl) (Nat.le_of_ble_eq_true rfl) ?_
    exact hb_21 _ _ _ ls I (lv_sub hl1 [1, 2] rfl) hw
  · replace hw := hw.2 c
    refine lv_iload_n hx hb dJ8_newLength_cabcc_13 rfl (lv_at hl1 0 rfl) ?_
    refine lv_ldc (v := 2147483639) hx hb C.1.2.2.2.1 (z_word C.1 zw112) dJ8_newLength_cabcc_14 ?_
    refine lv_icmp_gt (tgt := 21) hx hb dJ8_newLength_cabcc_16 (by decide) (fun c => ?_) (fun c => ?_)
    · replace hw := hw.1 c
      refine W.widen (k := 0) (n := 0) (Nat.le_of_ble_eq_true rfl) (Nat.le_of_ble_eq_true rfl) ?_
      exact hb_21 _ _ _ ls I (lv_sub hl1 [1, 2] rfl) hw
    · replace hw := hw.2 c
      refine lv_iload_n hx hb dJ8_newLength_cabcc_19 rfl (lv_at hl1 0 rfl) ?_
      exact z_iret C I hr ⟨_, rfl, hw⟩ (Nat.le_of_ble_eq_true rfl) (Nat.le_of_ble_eq_true rfl) dJ8_newLength_cabcc_20
theorem z_upup (M : zM) (a : Nat) (e1 e2 : zE) : zUp (zUp M a e1) a e2 = zUp M a e2 := by
  funext q
  by_cases h : q = a
  · simp [zUp, h]
  · simp [zUp, h]
set_option maxHeartbeats 4000000 in
set_option maxRecDepth 100000 in
theorem m_J7_copyOf_6403c {X : zX} {l : Launch} (E : zEnv X l) {M : zM} {p0 mi : Nat} {p1 : Int32} {P : Option Nat → zM → Prop} {PX : Nat → zM → Prop} (hmi : va_Mi "[Ljava/lang/Object;" mi X.1) (hw : w_J7_copyOf_1904c p0 p1 M P) : zCT X l yJ7_copyOf_6403c cJ7_copyOf_6403c 4 (some (.array (.object "java/lang/Object"))) 2 150 1 100 M [.ref p0, .int p1, .ref mi] (zPo P) PX := by
  refine z_entry E (by decide) ?_
  intro p e s m args below meth c C hr htab I
  have hx := C.1.1
  have hb := C.1.2.1
  obtain ⟨ls, he, hl⟩ := z_enter (m := m) (n := 4) (vs := [.ref p0, .int p1, .ref mi]) (l := [(0, .ref p0), (1, .int p1), (2, .ref mi)]) (Nat.le_of_ble_eq_true rfl) rfl
  rw [he]
  clear he
  obtain ⟨n, f, h1, h2, h3, h4, h5, hw⟩ := hw
  have hmi' : va_Mi "[Ljava/lang/Object;" mi s := va_Mi.moved C.2.2.2.1.alike hmi
  refine lv_aload_n hx hb dJ7_copyOf_6403c_0 rfl (lv_at hl 2 rfl) ?_
  refine va_ldcM hx hb C.1.2.2.2.1 (z_word C.1 zw136) hmi' dJ7_copyOf_6403c_1 ?_
  refine lv_acmp_ne (rx := some mi) (ry := some mi) (tgt := 13) hx hb dJ7_copyOf_6403c_3 (by decide) (fun c => absurd rfl c) (fun _ => ?_)
  refine lv_iload_n hx hb dJ7_copyOf_6403c_6 rfl (lv_at hl 1 rfl) ?_
  refine z_newo C I zw138 (mx := 100) (K := fun q M1 => M1 = zUp M q (zA p1.toNatClampNeg (fun _ => none)) ∧ M q = none) ⟨h2, h4, fun q hq => ⟨rfl, hq⟩⟩ (Nat.le_of_ble_eq_true rfl) (Nat.le_of_ble_eq_true rfl) (Nat.le_of_ble_eq_true rfl) dJ7_copyOf_6403c_7 (fun q M1 _ I hM => ?_)
  obtain ⟨hM1, hq⟩ := hM
  have hne : p0 ≠ q := fun h => by rw [h, hq] at h1; cases h1
  have h0 : M1 p0 = some (zA n f) := by rw [hM1, zUp_ne _ _ hne]; exact h1
  have hqq : M1 q = some (zA p1.toNatClampNeg (fun _ => none)) := by rw [hM1, zUp_same]
  have hel : ∀ j : Nat, j < n → ∀ y : Nat, f j = some y → ∃ ci fs, M1 y = some (zO ci fs) := by
    intro j hj y hy
    obtain ⟨ci, fs, hMy⟩ := h5 j hj y hy
    have hyq : y ≠ q := fun h => by rw [h, hq] at hMy; cases hMy
    exact ⟨ci, fs, by rw [hM1, zUp_ne _ _ hyq]; exact hMy⟩
  refine lv_goto (tgt := 24) hx hb dJ7_copyOf_6403c_10 (by decide) ?_
  refine lv_astore_n (lv' := [(3, .ref q), (0, .ref p0), (1, .int p1), (2, .ref mi)]) hx hb dJ7_copyOf_6403c_24 rfl hl (by decide) rfl (fun ls hl => ?_)
  refine lv_aload_n hx hb dJ7_copyOf_6403c_25 rfl (lv_at hl 1 rfl) ?_
  refine lv_iconst (v := 0) hx hb dJ7_copyOf_6403c_26 (by decide) ?_
  refine lv_aload_n hx hb dJ7_copyOf_6403c_27 rfl (lv_at hl 0 rfl) ?_
  refine lv_iconst (v := 0) hx hb dJ7_copyOf_6403c_28 (by decide) ?_
  refine lv_aload_n hx hb dJ7_copyOf_6403c_29 rfl (lv_at hl 1 rfl) ?_
  refine z_alen C I (K := fun v => v = Int32.ofNat n) ⟨_, n, h0, rfl, rfl⟩ dJ7_copyOf_6403c_30 (fun v hv => ?_)
  subst hv
  refine lv_iload_n hx hb dJ7_copyOf_6403c_31 rfl (lv_at hl 2 rfl) ?_
  obtain ⟨k, hk1, hk2, hk3⟩ : ∃ k, k ≤ 100 ∧ n ≤ k ∧ p1 = nI k := by
    obtain ⟨k, hk, rfl⟩ := nI_of h2
    rw [nI_clamp hk] at h3 h4
    exact ⟨k, h4, h3, rfl⟩
  have hmin : (if p1 < Int32.ofNat n then p1 else Int32.ofNat n) = Int32.ofNat n := by rw [hk3]; exact if_neg (nI_nlt hk2 (by omega))
  refine va_mmin hx hb (C.1.2.2.1.trans hl.1.symm) C.1.2.2.2.1 (z_word C.1 zw139) (z_word C.1 zw140) (z_word C.1 zw20) (z_word C.1 zw141) (Nat.le_of_ble_eq_true rfl) (Nat.le_of_ble_eq_true rfl) (Nat.le_of_ble_eq_true rfl) (Nat.le_of_ble_eq_true rfl) dJ7_copyOf_6403c_32 ?_
  rw [hmin]
  refine W.eq (g2 := F0 m 35 ls [.int (Int32.ofNat n), .int 0, .ref q, .int 0, .ref p0]) rfl ?_
  have hnc : (Int32.ofNat n).toNatClampNeg = n := nI_clamp (by omega)
  refine z_copy C zcast I zw142 zw144 zw143 zw22 hl.1 h0 hqq (nI_pos (by omega)) (Nat.le_of_eq hnc) (by rw [hnc]; exact h3) (by rw [hnc]; exact hel) ⟨Nat.le_of_ble_eq_true rfl, Nat.le_of_ble_eq_true rfl⟩ (Nat.le_of_ble_eq_true rfl) dJ7_copyOf_6403c_35 (fun M3 _ _ I hM3 => ?_)
  refine lv_aload_n hx hb dJ7_copyOf_6403c_38 rfl (lv_at hl 0 rfl) ?_
  have hP : P (some q) M3 := by
    rw [hM3, hM1, z_upup, hnc]
    exact hw q hq
  exact z_aret C I hr (Or.inr ⟨_, rfl⟩) (v := some q) ⟨_, rfl, hP⟩ (Nat.le_of_ble_eq_true rfl) (Nat.le_of_ble_eq_true rfl) dJ7_copyOf_6403c_39
set_option maxHeartbeats 4000000 in
set_option maxRecDepth 100000 in
theorem m_J7_copyOf_1904c {X : zX} {l : Launch} (E : zEnv X l) {M : zM} {p0 : Nat} {p1 : Int32} {P : Option Nat → zM → Prop} {PX : Nat → zM → Prop} (hw : w_J7_copyOf_1904c p0 p1 M P) : zCT X l yJ7_copyOf_1904c cJ7_copyOf_1904c 2 (some (.array (.object "java/lang/Object"))) 4 200 1 100 M [.ref p0, .int p1] (zPo P) PX := by
  refine z_entry E (by decide) ?_
  intro p e s m args below meth c C hr htab I
  have hx := C.1.1
  have hb := C.1.2.1
  obtain ⟨ls, he, hl⟩ := z_enter (m := m) (n := 2) (vs := [.ref p0, .int p1]) (l := [(0, .ref p0), (1, .int p1)]) (Nat.le_of_ble_eq_true rfl) rfl
  rw [he]
  clear he
  obtain ⟨mi, hmi⟩ := E.2.2.2.2.2.1
  have hmi' : va_Mi "[Ljava/lang/Object;" mi s := va_Mi.moved C.2.2.2.1.alike hmi
  have hcell : ∃ cell : Cell, s.heap[p0]? = some cell ∧ cell.vm.isStatics = false ∧ s.vm.findClass "[Ljava/lang/Object;" = some cell.cls := by
    obtain ⟨n, f, h1, -⟩ := id hw
    exact ⟨_, (I.2.2.2.1 p0 _ h1).2, rfl, va_nmO (C.K.2 2 _ rfl).2 (by decide)⟩
  refine lv_aload_n hx hb dJ7_copyOf_1904c_0 rfl (lv_at hl 0 rfl) ?_
  refine lv_iload_n hx hb dJ7_copyOf_1904c_1 rfl (lv_at hl 1 rfl) ?_
  refine lv_aload_n hx hb dJ7_copyOf_1904c_2 rfl (lv_at hl 0 rfl) ?_
  refine va_getC hx hb (C.1.2.2.1.trans hl.1.symm) C.1.2.2.2.1 (z_word C.1 zw119) (z_word C.1 zw690) (z_word C.1 zw689) (z_word C.1 zw120) (z_word C.1 zw132) hmi' hcell (Nat.le_of_ble_eq_true rfl) (Nat.le_of_ble_eq_true rfl) dJ7_copyOf_1904c_3 ?_
  refine z_callS C I (as := [.ref p0, .int p1, .ref mi]) (rest := []) (m_J7_copyOf_6403c E hmi hw) ks_J7_300 rfl rfl hl.1 (Nat.le_of_ble_eq_true rfl) ⟨Nat.le_of_ble_eq_true rfl, Nat.le_of_ble_eq_true rfl⟩ ⟨Nat.le_of_ble_eq_true rfl, Nat.le_of_ble_eq_true rfl⟩ dJ7_copyOf_1904c_6 (z_prop C htab (Nat.le_of_ble_eq_true rfl) (Nat.le_of_ble_eq_true rfl)) (fun v M2 _ _ I hv => ?_)
  obtain ⟨v3, rfl, hw⟩ := hv
  refine W.eq (g2 := F0 m 9 ls [va_rf v3]) rfl ?_
  exact z_aret C I hr (Or.inr ⟨_, rfl⟩) (v := v3) ⟨_, rfl, hw⟩ (Nat.le_of_ble_eq_true rfl) (Nat.le_of_ble_eq_true rfl) dJ7_copyOf_1904c_9

set_option maxHeartbeats 4000000 in
set_option maxRecDepth 100000 in
theorem m_Jx4a65c_grow_92f84 {X : zX} {l : Launch} (E : zEnv X l) {M : zM} {o : Nat} {p0 : Int32} {P : Option Nat → zM → Prop} {PX : Nat → zM → Prop} (hw : w_Jx4a65c_grow_92f84 o p0 M P) : zCT X l yJx4a65c_grow_92f84 cJx4a65c_grow_92f84 4 (some ((.array (.object "java/lang/Object")))) 5 221 1 100 M [.ref o, .int p0] (zPo P) PX := by
  refine z_entry E (by decide) ?_
  intro p e s m args below meth c C hr htab I
  have hx := C.1.1
  have hb := C.1.2.1
  obtain ⟨ls, he, hl⟩ := z_enter (m := m) (n := 4) (vs := [.ref o, .int p0]) (l := [(0, .ref o), (1, .int p0)]) (Nat.le_of_ble_eq_true rfl) rfl
  rw [he]
  clear he
  unfold w_Jx4a65c_grow_92f84 at hw
  have hb_20 : ∀ (x2 : Int32) (M : zM) (H : Heap) (locs : List Loc) (ls : Array Slot), zWk X s M H locs → lv_has ls 4 [(0, .ref o), (1, .int p0), (2, .int x2)] → w_Jx4a65c_grow_92f84_20 o p0 P x2 M → W p l e (zRm 5 221 1 100) s m args below meth c H locs 0 0 (vx_MQ below (zQc X (zPo P)) (zXc X PX) args s 1 100 (zBase X)) (F0 m 20 ls []) := by
    intro x2 M H locs ls I hl hw
    unfold w_Jx4a65c_grow_92f84_20 at hw
    refine lv_iload_n hx hb dJx4a65c_grow_92f84_20 rfl (lv_at hl 2 rfl) ?_
    refine lv_iload_n hx hb dJx4a65c_grow_92f84_21 rfl (lv_at hl 1 rfl) ?_
    refine lv_iload_n hx hb dJx4a65c_grow_92f84_22 rfl (lv_at hl 2 rfl) ?_
    refine lv_isub hx hb dJx4a65c_grow_92f84_23 ?_
    refine lv_iload_n hx hb dJx4a65c_grow_92f84_24 rfl (lv_at hl 2 rfl) ?_
    refine lv_iconst (v := 1) hx hb dJx4a65c_grow_92f84_25 (by decide) ?_
    refine lv_ishr hx hb dJx4a65c_grow_92f84_26 ?_
    refine z_callS C I (as := [.int x2, .int (p0 - x2), .int (x2 >>> ((1 : Int32) &&& 31))]) (rest := []) (m_J8_newLength_cabcc E hw) ks_Jx4a65c_73 rfl rfl hl.1 (Nat.le_of_ble_eq_true rfl) ⟨Nat.le_of_ble_eq_true rfl, Nat.le_of_ble_eq_true rfl⟩ ⟨Nat.le_of_ble_eq_true rfl, Nat.le_of_ble_eq_true rfl⟩ dJx4a65c_grow_92f84_27 (z_prop C htab (Nat.le_of_ble_eq_true rfl) (Nat.le_of_ble_eq_true rfl)) (fun v M1 _ _ I hv => ?_)
    obtain ⟨v2, rfl, hw⟩ := hv
    refine W.eq (g2 := F0 m 30 ls [.int v2]) rfl ?_
    refine lv_istore_n (lv' := [(3, .int v2), (0, .ref o), (1, .int p0), (2, .int x2)]) hx hb dJx4a65c_grow_92f84_30 rfl hl (by decide) rfl (fun ls hl3 => ?_)
    refine lv_aload_n hx hb dJx4a65c_grow_92f84_31 rfl (lv_at hl3 1 rfl) ?_
    refine lv_aload_n hx hb dJx4a65c_grow_92f84_32 rfl (lv_at hl3 1 rfl) ?_
    refine z_getr C I fl_Jx4a65c_9 hw dJx4a65c_grow_92f84_33 (fun v4 hw => ?_)
    refine lv_iload_n hx hb dJx4a65c_grow_92f84_36 rfl (lv_at hl3 0 rfl) ?_
    refine z_callS C I (as := [.ref v4, .int v2]) (rest := [.ref o]) (m_J7_copyOf_1904c E hw) ks_Jx4a65c_66 rfl rfl hl3.1 (Nat.le_of_ble_eq_true rfl) ⟨Nat.le_of_ble_eq_true rfl, Nat.le_of_ble_eq_true rfl⟩ ⟨Nat.le_of_ble_eq_true rfl, Nat.le_of_ble_eq_true rfl⟩ dJx4a65c_grow_92f84_37 (z_prop C htab (Nat.le_of_ble_eq_true rfl) (Nat.le_of_ble_eq_true rfl)) (fun v M5 _ _ I hv => ?_)
    obtain ⟨v6, rfl, hw⟩ := hv
    refine W.eq (g2 := F0 m 40 ls [va_rf v6, .ref o]) rfl ?_
    refine lv_dup_x1 hx hb dJx4a65c_grow_92f84_40 z_catR rfl ?_
    refine z_put C I fl_Jx4a65c_9 rfl (v := va_rf v6) (z_na _) (z_fa _) hw dJx4a65c_grow_92f84_41 (fun M7 _ _ I hw => ?_)
    exact z_aret C I hr (Or.inr ⟨_, rfl⟩) (v := v6) ⟨_, rfl, hw⟩ (Nat.le_of_ble_eq_true rfl) (Nat.le_of_ble_eq_true rfl) dJx4a65c_grow_92f84_44
  refine lv_aload_n hx hb dJx4a65c_grow_92f84_0 rfl (lv_at hl 0 rfl) ?_
  refine z_getr C I fl_Jx4a65c_9 hw dJx4a65c_grow_92f84_1 (fun v8 hw => ?_)
  refine z_alen C I hw dJx4a65c_grow_92f84_4 (fun v9 hw => ?_)
  refine lv_istore_n (lv' := [(2, .int v9), (0, .ref o), (1, .int p0)]) hx hb dJx4a65c_grow_92f84_5 rfl hl (by decide) rfl (fun ls hl10 => ?_)
  refine lv_iload_n hx hb dJx4a65c_grow_92f84_6 rfl (lv_at hl10 0 rfl) ?_
  refine lv_if_gt (tgt := 20) hx hb dJx4a65c_grow_92f84_7 (by decide) (fun c => ?_) (fun c => ?_)
  · replace hw := hw.1 c
    refine W.widen (k := 0) (n := 0) (Nat.le_of_ble_eq_true rfl) (Nat.le_of_ble_eq_true rfl) ?_
    exact hb_20 v9 _ _ _ ls I (lv_sub hl10 [1, 2, 0] rfl) hw
  · replace hw := hw.2 c
    refine lv_aload_n hx hb dJx4a65c_grow_92f84_10 rfl (lv_at hl10 1 rfl) ?_
    refine z_getr C I fl_Jx4a65c_9 hw dJx4a65c_grow_92f84_11 (fun v11 hw => ?_)
    refine z_gets C I zw55 hw dJx4a65c_grow_92f84_14 (fun v12 hw => ?_)
    refine lv_acmp_eq (rx := (some v11)) (ry := (some v12)) (tgt := 45) hx hb dJx4a65c_grow_92f84_17 (by decide) (fun c => ?_) (fun c => ?_)
    · replace hw := hw.1 c
      refine lv_aload_n hx hb dJx4a65c_grow_92f84_45 rfl (lv_at hl10 1 rfl) ?_
      refine lv_bipush (v := 10) hx hb dJx4a65c_grow_92f84_46 (by decide) ?_
      refine lv_iload_n hx hb dJx4a65c_grow_92f84_48 rfl (lv_at hl10 2 rfl) ?_
      refine va_mmax hx hb (C.1.2.2.1.trans hl10.1.symm) C.1.2.2.2.1 (z_word C.1 zw145) (z_word C.1 zw110) (z_word C.1 zw20) (z_word C.1 zw111) (Nat.le_of_ble_eq_true rfl) (Nat.le_of_ble_eq_true rfl) (Nat.le_of_ble_eq_true rfl) (Nat.le_of_ble_eq_true rfl) dJx4a65c_grow_92f84_49 ?_
      refine z_newo C I zw146 (mx := 100) hw (Nat.le_of_ble_eq_true rfl) (Nat.le_of_ble_eq_true rfl) (Nat.le_of_ble_eq_true rfl) dJx4a65c_grow_92f84_52 (fun q13 M14 _ I hw => ?_)
      refine lv_dup_x1 hx hb dJx4a65c_grow_92f84_55 rfl rfl ?_
      refine z_put C I fl_Jx4a65c_9 rfl (v := .ref q13) rfl rfl hw dJx4a65c_grow_92f84_56 (fun M15 _ _ I hw => ?_)
      exact z_aret C I hr (Or.inr ⟨_, rfl⟩) (v := (some q13)) ⟨_, rfl, hw⟩ (Nat.le_of_ble_eq_true rfl) (Nat.le_of_ble_eq_true rfl) dJx4a65c_grow_92f84_59
    · replace hw := hw.2 c
      refine W.widen (k := 0) (n := 0) (Nat.le_of_ble_eq_true rfl) (Nat.le_of_ble_eq_true rfl) ?_
      exact hb_20 v9 _ _ _ ls I (lv_sub hl10 [1, 2, 0] rfl) hw
set_option maxHeartbeats 4000000 in
set_option maxRecDepth 100000 in
theorem m_Jx4a65c_grow_d5877 {X : zX} {l : Launch} (E : zEnv X l) {M : zM} {o : Nat} {P : Option Nat → zM → Prop} {PX : Nat → zM → Prop} (hw : w_Jx4a65c_grow_d5877 o M P) : zCT X l yJx4a65c_grow_d5877 cJx4a65c_grow_d5877 1 (some ((.array (.object "java/lang/Object")))) 6 244 1 100 M [.ref o] (zPo P) PX := by
  refine z_entry E (by decide) ?_
  intro p e s m args below meth c C hr htab I
  have hx := C.1.1
  have hb := C.1.2.1
  obtain ⟨ls, he, hl⟩ := z_enter (m := m) (n := 1) (vs := [.ref o]) (l := [(0, .ref o)]) (Nat.le_of_ble_eq_true rfl) rfl
  rw [he]
  clear he
  unfold w_Jx4a65c_grow_d5877 at hw
  refine lv_aload_n hx hb dJx4a65c_grow_d5877_0 rfl (lv_at hl 0 rfl) ?_
  refine lv_aload_n hx hb dJx4a65c_grow_d5877_1 rfl (lv_at hl 0 rfl) ?_
  refine z_geti C I fl_Jx4a65c_48 hw dJx4a65c_grow_d5877_2 (fun v1 hw => ?_)
  refine lv_iconst (v := 1) hx hb dJx4a65c_grow_d5877_5 (by decide) ?_
  refine lv_iadd hx hb dJx4a65c_grow_d5877_6 ?_
  obtain ⟨hrc, hw⟩ := hw
  refine z_callV C I (as := [.int (v1 + (1 : Int32))]) (rest := []) (m_Jx4a65c_grow_92f84 E hw) kv_Jx4a65c_69 vc_0 hrc rfl rfl hl.1 (Nat.le_of_ble_eq_true rfl) ⟨Nat.le_of_ble_eq_true rfl, Nat.le_of_ble_eq_true rfl⟩ ⟨Nat.le_of_ble_eq_true rfl, Nat.le_of_ble_eq_true rfl⟩ dJx4a65c_grow_d5877_7 (z_prop C htab (Nat.le_of_ble_eq_true rfl) (Nat.le_of_ble_eq_true rfl)) (fun v M2 _ _ I hv => ?_)
  obtain ⟨v3, rfl, hw⟩ := hv
  refine W.eq (g2 := F0 m 10 ls [va_rf v3]) rfl ?_
  exact z_aret C I hr (Or.inr ⟨_, rfl⟩) (v := v3) ⟨_, rfl, hw⟩ (Nat.le_of_ble_eq_true rfl) (Nat.le_of_ble_eq_true rfl) dJx4a65c_grow_d5877_10
set_option maxHeartbeats 4000000 in
set_option maxRecDepth 100000 in
theorem m_Jx4a65c_add_72be8 {X : zX} {l : Launch} (E : zEnv X l) {M : zM} {o : Nat} {p0 : Nat} {p1 : Nat} {p2 : Int32} {P : zM → Prop} {PX : Nat → zM → Prop} (hw : w_Jx4a65c_add_72be8 o p0 p1 p2 M P) : zCT X l yJx4a65c_add_72be8 cJx4a65c_add_72be8 4 none 7 264 1 100 M [.ref o, .ref p0, .ref p1, .int p2] (zPv P) PX := by
  refine z_entry E (by decide) ?_
  intro p e s m args below meth c C hr htab I
  have hx := C.1.1
  have hb := C.1.2.1
  obtain ⟨ls, he, hl⟩ := z_enter (m := m) (n := 4) (vs := [.ref o, .ref p0, .ref p1, .int p2]) (l := [(0, .ref o), (1, .ref p0), (2, .ref p1), (3, .int p2)]) (Nat.le_of_ble_eq_true rfl) rfl
  rw [he]
  clear he
  unfold w_Jx4a65c_add_72be8 at hw
  have hb_11 : ∀ (x2 : Option Nat) (M : zM) (H : Heap) (locs : List Loc) (ls : Array Slot), zWk X s M H locs → lv_has ls 4 [(0, .ref o), (1, .ref p0), (2, va_rf x2), (3, .int p2)] → w_Jx4a65c_add_72be8_11 o p0 p1 p2 P x2 M → W p l e (zRm 7 264 1 100) s m args below meth c H locs 1 100 (vx_MQ below (zQc X (zPv P)) (zXc X PX) args s 1 100 (zBase X)) (F0 m 11 ls []) := by
    intro x2 M H locs ls I hl hw
    unfold w_Jx4a65c_add_72be8_11 at hw
    refine z_aloadn C (r := x2) dJx4a65c_add_72be8_11 rfl (lv_at hl 2 rfl) ?_
    refine lv_iload_n hx hb dJx4a65c_add_72be8_12 rfl (lv_at hl 3 rfl) ?_
    refine lv_aload_n hx hb dJx4a65c_add_72be8_13 rfl (lv_at hl 1 rfl) ?_
    obtain ⟨a1, hq1, hq2⟩ := hw
    subst hq1
    have hw := hq2
    clear hq2
    refine W.eq (g2 := F0 m 14 ls [.ref p0, .int p2, .ref a1]) rfl ?_
    have hl2 : lv_has ls 4 [(0, .ref o), (1, .ref p0), (2, .ref a1), (3, .int p2)] := hl
    refine z_aast C zcast I hw dJx4a65c_add_72be8_14 (fun M3 _ _ I hw => ?_)
    refine lv_aload_n hx hb dJx4a65c_add_72be8_15 rfl (lv_at hl2 0 rfl) ?_
    refine lv_iload_n hx hb dJx4a65c_add_72be8_16 rfl (lv_at hl2 3 rfl) ?_
    refine lv_iconst (v := 1) hx hb dJx4a65c_add_72be8_17 (by decide) ?_
    refine lv_iadd hx hb dJx4a65c_add_72be8_18 ?_
    refine z_put C I fl_Jx4a65c_48 rfl (v := .int (p2 + (1 : Int32))) rfl rfl hw dJx4a65c_add_72be8_19 (fun M4 _ _ I hw => ?_)
    exact z_vret C I hr ⟨rfl, hw⟩ (Nat.le_of_ble_eq_true rfl) (Nat.le_of_ble_eq_true rfl) dJx4a65c_add_72be8_22
  refine lv_iload_n hx hb dJx4a65c_add_72be8_0 rfl (lv_at hl 3 rfl) ?_
  refine lv_aload_n hx hb dJx4a65c_add_72be8_1 rfl (lv_at hl 2 rfl) ?_
  refine z_alen C I hw dJx4a65c_add_72be8_2 (fun v5 hw => ?_)
  refine lv_icmp_ne (tgt := 11) hx hb dJx4a65c_add_72be8_3 (by decide) (fun c => ?_) (fun c => ?_)
  · replace hw := hw.1 c
    refine W.widen (k := 1) (n := 100) (Nat.le_of_ble_eq_true rfl) (Nat.le_of_ble_eq_true rfl) ?_
    exact hb_11 (some p1) _ _ _ ls I (lv_sub hl [0, 1, 2, 3] rfl) hw
  · replace hw := hw.2 c
    refine lv_aload_n hx hb dJx4a65c_add_72be8_6 rfl (lv_at hl 0 rfl) ?_
    obtain ⟨hrc, hw⟩ := hw
    refine z_callV C I (as := []) (rest := []) (m_Jx4a65c_grow_d5877 E hw) kv_Jx4a65c_129 vc_0 hrc rfl rfl hl.1 (Nat.le_of_ble_eq_true rfl) ⟨Nat.le_of_ble_eq_true rfl, Nat.le_of_ble_eq_true rfl⟩ ⟨Nat.le_of_ble_eq_true rfl, Nat.le_of_ble_eq_true rfl⟩ dJx4a65c_add_72be8_7 (z_prop C htab (Nat.le_of_ble_eq_true rfl) (Nat.le_of_ble_eq_true rfl)) (fun v M6 _ _ I hv => ?_)
    obtain ⟨v7, rfl, hw⟩ := hv
    refine W.eq (g2 := F0 m 10 ls [va_rf v7]) rfl ?_
    refine z_astoren (lv' := [(2, va_rf v7), (0, .ref o), (1, .ref p0), (3, .int p2)]) C (r := v7) dJx4a65c_add_72be8_10 rfl hl (by decide) rfl (fun ls hl8 => ?_)
    refine W.widen (k := 1) (n := 100) (Nat.le_of_ble_eq_true rfl) (Nat.le_of_ble_eq_true rfl) ?_
    exact hb_11 v7 _ _ _ ls I (lv_sub hl8 [1, 2, 0, 3] rfl) hw
set_option maxHeartbeats 4000000 in
set_option maxRecDepth 100000 in
theorem m_Jx4a65c_add_9ea2d {X : zX} {l : Launch} (E : zEnv X l) {M : zM} {o : Nat} {p0 : Nat} {P : Int32 → zM → Prop} {PX : Nat → zM → Prop} (hw : w_Jx4a65c_add_9ea2d o p0 M P) : zCT X l yJx4a65c_add_9ea2d cJx4a65c_add_9ea2d 2 (some .boolean) 8 287 1 100 M [.ref o, .ref p0] (zPz P) PX := by
  refine z_entry E (by decide) ?_
  intro p e s m args below meth c C hr htab I
  have hx := C.1.1
  have hb := C.1.2.1
  obtain ⟨ls, he, hl⟩ := z_enter (m := m) (n := 2) (vs := [.ref o, .ref p0]) (l := [(0, .ref o), (1, .ref p0)]) (Nat.le_of_ble_eq_true rfl) rfl
  rw [he]
  clear he
  unfold w_Jx4a65c_add_9ea2d at hw
  refine lv_aload_n hx hb dJx4a65c_add_9ea2d_0 rfl (lv_at hl 0 rfl) ?_
  refine lv_dup hx hb dJx4a65c_add_9ea2d_1 rfl ?_
  refine z_geti C I fl_Jx4a65c_63 hw dJx4a65c_add_9ea2d_2 (fun v1 hw => ?_)
  refine lv_iconst (v := 1) hx hb dJx4a65c_add_9ea2d_5 (by decide) ?_
  refine lv_iadd hx hb dJx4a65c_add_9ea2d_6 ?_
  refine z_put C I fl_Jx4a65c_63 rfl (v := .int (v1 + (1 : Int32))) rfl rfl hw dJx4a65c_add_9ea2d_7 (fun M2 _ _ I hw => ?_)
  refine lv_aload_n hx hb dJx4a65c_add_9ea2d_10 rfl (lv_at hl 0 rfl) ?_
  refine lv_aload_n hx hb dJx4a65c_add_9ea2d_11 rfl (lv_at hl 1 rfl) ?_
  refine lv_aload_n hx hb dJx4a65c_add_9ea2d_12 rfl (lv_at hl 0 rfl) ?_
  refine z_getr C I fl_Jx4a65c_9 hw dJx4a65c_add_9ea2d_13 (fun v3 hw => ?_)
  refine lv_aload_n hx hb dJx4a65c_add_9ea2d_16 rfl (lv_at hl 0 rfl) ?_
  refine z_geti C I fl_Jx4a65c_48 hw dJx4a65c_add_9ea2d_17 (fun v4 hw => ?_)
  obtain ⟨hrc, hw⟩ := hw
  refine z_callV C I (as := [.ref p0, .ref v3, .int v4]) (rest := []) (m_Jx4a65c_add_72be8 E hw) kv_Jx4a65c_131 vc_0 hrc rfl rfl hl.1 (Nat.le_of_ble_eq_true rfl) ⟨Nat.le_of_ble_eq_true rfl, Nat.le_of_ble_eq_true rfl⟩ ⟨Nat.le_of_ble_eq_true rfl, Nat.le_of_ble_eq_true rfl⟩ dJx4a65c_add_9ea2d_20 (z_prop C htab (Nat.le_of_ble_eq_true rfl) (Nat.le_of_ble_eq_true rfl)) (fun v M5 _ _ I hv => ?_)
  obtain ⟨rfl, hw⟩ := hv
  refine W.eq (g2 := F0 m 23 ls []) rfl ?_
  refine lv_iconst (v := 1) hx hb dJx4a65c_add_9ea2d_23 (by decide) ?_
  exact z_zret C I hr (Or.inr rfl) ⟨_, rfl, (Or.inr rfl), hw⟩ (Nat.le_of_ble_eq_true rfl) (Nat.le_of_ble_eq_true rfl) dJx4a65c_add_9ea2d_24
set_option maxHeartbeats 4000000 in
set_option maxRecDepth 100000 in
theorem m_X1_init {X : zX} {l : Launch} (E : zEnv X l) {M : zM} {o : Nat} {P : zM → Prop} {PX : Nat → zM → Prop} (hw : w_X1_init o M P) : zCT X l yX1_init cX1_init 1 none 1 20 1 20 M [.ref o] (zPv P) PX := by
  refine z_entry E (by decide) ?_
  intro p e s m args below meth c C hr htab I
  have hx := C.1.1
  have hb := C.1.2.1
  obtain ⟨ls, he, hl⟩ := z_enter (m := m) (n := 1) (vs := [.ref o]) (l := [(0, .ref o)]) (Nat.le_of_ble_eq_true rfl) rfl
  rw [he]
  clear he
  unfold w_X1_init at hw
  refine lv_aload_n hx hb dX1_init_0 rfl (lv_at hl 0 rfl) ?_
  refine z_objInit C zw160 zw41 zw42 hl.1 (Nat.le_of_ble_eq_true rfl) ⟨Nat.le_of_ble_eq_true rfl, Nat.le_of_ble_eq_true rfl⟩ dX1_init_1 ?_
  refine lv_aload_n hx hb dX1_init_4 rfl (lv_at hl 0 rfl) ?_
  refine lv_bipush (v := 20) hx hb dX1_init_5 (by decide) ?_
  refine z_newi C I zw168 (mx := 20) hw (Nat.le_of_ble_eq_true rfl) (Nat.le_of_ble_eq_true rfl) (Nat.le_of_ble_eq_true rfl) dX1_init_7 (fun q1 M2 _ I hw => ?_)
  refine z_putF C I fl_X1_9 rfl rfl rfl (v := .ref q1) rfl rfl hw dX1_init_9 (fun M3 _ _ I hw => ?_)
  exact z_vret C I hr ⟨rfl, hw⟩ (Nat.le_of_ble_eq_true rfl) (Nat.le_of_ble_eq_true rfl) dX1_init_12
set_option maxHeartbeats 4000000 in
set_option maxRecDepth 100000 in
theorem m_X2_init {X : zX} {l : Launch} (E : zEnv X l) {M : zM} {o : Nat} {P : zM → Prop} {PX : Nat → zM → Prop} (hw : w_X2_init o M P) : zCT X l yX2_init cX2_init 1 none 4 80 3 25 M [.ref o] (zPv P) PX := by
  refine z_entry E (by decide) ?_
  intro p e s m args below meth c C hr htab I
  have hx := C.1.1
  have hb := C.1.2.1
  obtain ⟨ls, he, hl⟩ := z_enter (m := m) (n := 1) (vs := [.ref o]) (l := [(0, .ref o)]) (Nat.le_of_ble_eq_true rfl) rfl
  rw [he]
  clear he
  unfold w_X2_init at hw
  refine lv_aload_n hx hb dX2_init_0 rfl (lv_at hl 0 rfl) ?_
  refine z_objInit C zw152 zw41 zw42 hl.1 (Nat.le_of_ble_eq_true rfl) ⟨Nat.le_of_ble_eq_true rfl, Nat.le_of_ble_eq_true rfl⟩ dX2_init_1 ?_
  refine lv_aload_n hx hb dX2_init_4 rfl (lv_at hl 0 rfl) ?_
  refine z_new C I kn_X2_9 (fs := [.int 0, .null, .int 0]) zd_0 hw (Nat.le_of_ble_eq_true rfl) (Nat.le_of_ble_eq_true rfl) dX2_init_5 (fun q1 M2 _ I hw => ?_)
  refine lv_dup hx hb dX2_init_8 rfl ?_
  refine z_callI C I (as := []) (rest := [.ref q1, .ref o]) (m_Jx4a65c_init_da8c8 E hw) ki_X2_11 rfl rfl hl.1 (Nat.le_of_ble_eq_true rfl) ⟨Nat.le_of_ble_eq_true rfl, Nat.le_of_ble_eq_true rfl⟩ ⟨Nat.le_of_ble_eq_true rfl, Nat.le_of_ble_eq_true rfl⟩ dX2_init_9 (fun M3 _ _ I hw => ?_)
  refine W.eq (g2 := F0 m 12 ls [.ref q1, .ref o]) rfl ?_
  refine z_putF C I fl_X2_12 rfl rfl rfl (v := .ref q1) rfl rfl hw dX2_init_12 (fun M4 _ _ I hw => ?_)
  refine lv_aload_n hx hb dX2_init_15 rfl (lv_at hl 0 rfl) ?_
  refine z_new C I kn_X2_18 (fs := [.null, .int 0]) zd_2 hw (Nat.le_of_ble_eq_true rfl) (Nat.le_of_ble_eq_true rfl) dX2_init_16 (fun q5 M6 _ I hw => ?_)
  refine lv_dup hx hb dX2_init_19 rfl ?_
  refine z_callI C I (as := []) (rest := [.ref q5, .ref o]) (m_X1_init E hw) ki_X2_20 rfl rfl hl.1 (Nat.le_of_ble_eq_true rfl) ⟨Nat.le_of_ble_eq_true rfl, Nat.le_of_ble_eq_true rfl⟩ ⟨Nat.le_of_ble_eq_true rfl, Nat.le_of_ble_eq_true rfl⟩ dX2_init_20 (fun M7 _ _ I hw => ?_)
  refine W.eq (g2 := F0 m 23 ls [.ref q5, .ref o]) rfl ?_
  refine z_putF C I fl_X2_21 rfl rfl rfl (v := .ref q5) rfl rfl hw dX2_init_23 (fun M8 _ _ I hw => ?_)
  refine lv_aload_n hx hb dX2_init_26 rfl (lv_at hl 0 rfl) ?_
  refine lv_iconst (v := -1) hx hb dX2_init_27 (by decide) ?_
  refine z_put C I fl_X2_25 rfl (v := .int (-1 : Int32)) rfl rfl hw dX2_init_28 (fun M9 _ _ I hw => ?_)
  exact z_vret C I hr ⟨rfl, hw⟩ (Nat.le_of_ble_eq_true rfl) (Nat.le_of_ble_eq_true rfl) dX2_init_31
set_option maxHeartbeats 4000000 in
set_option maxRecDepth 100000 in
theorem m_X5_init {X : zX} {l : Launch} (E : zEnv X l) {M : zM} {o : Nat} {P : zM → Prop} {PX : Nat → zM → Prop} (hw : w_X5_init o M P) : zCT X l yX5_init cX5_init 2 none 9 308 33 851 M [.ref o] (zPv P) PX := by
  refine z_entry E (by decide) ?_
  intro p e s m args below meth c C hr htab I
  have hx := C.1.1
  have hb := C.1.2.1
  obtain ⟨ls, he, hl⟩ := z_enter (m := m) (n := 2) (vs := [.ref o]) (l := [(0, .ref o)]) (Nat.le_of_ble_eq_true rfl) rfl
  rw [he]
  clear he
  unfold w_X5_init at hw
  have hb_17 : ∀ (n : Nat), n ≤ 8 → ∀ (x1 : Int32) (M : zM) (H : Heap) (locs : List Loc) (ls : Array Slot), zWk X s M H locs → lv_has ls 2 [(0, .ref o), (1, .int x1)] → w_X5_init_17 o P n x1 M → W p l e (zRm 9 308 33 851) s m args below meth c H locs (1 + (8 - n) * 3) (3 + (8 - n) * 106) (vx_MQ below (zQc X (zPv P)) (zXc X PX) args s 33 851 (zBase X)) (F0 m 17 ls []) := by
    intro n
    induction n with
    | zero => intro _ _ M H locs ls I hl hw; exact hw.elim
    | succ n ih =>
      intro hn x1 M H locs ls I hl hw
      unfold w_X5_init_17 at hw
      refine lv_iload_n hx hb dX5_init_17 rfl (lv_at hl 1 rfl) ?_
      refine lv_bipush (v := 6) hx hb dX5_init_18 (by decide) ?_
      refine lv_icmp_ge (tgt := 44) hx hb dX5_init_20 (by decide) (fun c => ?_) (fun c => ?_)
      · replace hw := hw.1 c
        refine lv_aload_n hx hb dX5_init_44 rfl (lv_at hl 0 rfl) ?_
        refine z_new C I kn_X5_7 (fs := [.int 0, .null, .int 0]) zd_0 hw (by first | omega | (simp only [zRm]; omega)) (by first | omega | (simp only [zRm]; omega)) dX5_init_45 (fun q1 M2 _ I hw => ?_)
        refine lv_dup hx hb dX5_init_48 rfl ?_
        refine z_callI C I (as := []) (rest := [.ref q1, .ref o]) (m_Jx4a65c_init_da8c8 E hw) ki_X5_9 rfl rfl hl.1 (Nat.le_of_ble_eq_true rfl) ⟨Nat.le_of_ble_eq_true rfl, Nat.le_of_ble_eq_true rfl⟩ ⟨(by first | omega | (simp only [zRm]; omega)), (by first | omega | (simp only [zRm]; omega))⟩ dX5_init_49 (fun M3 _ _ I hw => ?_)
        refine W.eq (g2 := F0 m 52 ls [.ref q1, .ref o]) rfl ?_
        refine z_putF C I fl_X5_23 rfl rfl rfl (v := .ref q1) rfl rfl hw dX5_init_52 (fun M4 _ _ I hw => ?_)
        refine lv_aload_n hx hb dX5_init_55 rfl (lv_at hl 0 rfl) ?_
        refine z_new C I kn_X5_26 (fs := [.null, .null, .int 0]) zd_3 hw (by first | omega | (simp only [zRm]; omega)) (by first | omega | (simp only [zRm]; omega)) dX5_init_56 (fun q5 M6 _ I hw => ?_)
        refine lv_dup hx hb dX5_init_59 rfl ?_
        refine z_callI C I (as := []) (rest := [.ref q5, .ref o]) (m_X2_init E hw) ki_X5_28 rfl rfl hl.1 (Nat.le_of_ble_eq_true rfl) ⟨Nat.le_of_ble_eq_true rfl, Nat.le_of_ble_eq_true rfl⟩ ⟨(by first | omega | (simp only [zRm]; omega)), (by first | omega | (simp only [zRm]; omega))⟩ dX5_init_60 (fun M7 _ _ I hw => ?_)
        refine W.eq (g2 := F0 m 63 ls [.ref q5, .ref o]) rfl ?_
        refine z_put C I fl_X5_29 rfl (v := .ref q5) rfl rfl hw dX5_init_63 (fun M8 _ _ I hw => ?_)
        refine lv_aload_n hx hb dX5_init_66 rfl (lv_at hl 0 rfl) ?_
        refine z_new C I kn_X5_33 (fs := [.null, .int 0]) zd_2 hw (by first | omega | (simp only [zRm]; omega)) (by first | omega | (simp only [zRm]; omega)) dX5_init_67 (fun q9 M10 _ I hw => ?_)
        refine lv_dup hx hb dX5_init_70 rfl ?_
        refine z_callI C I (as := []) (rest := [.ref q9, .ref o]) (m_X1_init E hw) ki_X5_35 rfl rfl hl.1 (Nat.le_of_ble_eq_true rfl) ⟨Nat.le_of_ble_eq_true rfl, Nat.le_of_ble_eq_true rfl⟩ ⟨(by first | omega | (simp only [zRm]; omega)), (by first | omega | (simp only [zRm]; omega))⟩ dX5_init_71 (fun M11 _ _ I hw => ?_)
        refine W.eq (g2 := F0 m 74 ls [.ref q9, .ref o]) rfl ?_
        refine z_put C I fl_X5_36 rfl (v := .ref q9) rfl rfl hw dX5_init_74 (fun M12 _ _ I hw => ?_)
        refine lv_aload_n hx hb dX5_init_77 rfl (lv_at hl 0 rfl) ?_
        refine z_new C I kn_X5_33 (fs := [.null, .int 0]) zd_2 hw (by first | omega | (simp only [zRm]; omega)) (by first | omega | (simp only [zRm]; omega)) dX5_init_78 (fun q13 M14 _ I hw => ?_)
        refine lv_dup hx hb dX5_init_81 rfl ?_
        refine z_callI C I (as := []) (rest := [.ref q13, .ref o]) (m_X1_init E hw) ki_X5_35 rfl rfl hl.1 (Nat.le_of_ble_eq_true rfl) ⟨Nat.le_of_ble_eq_true rfl, Nat.le_of_ble_eq_true rfl⟩ ⟨(by first | omega | (simp only [zRm]; omega)), (by first | omega | (simp only [zRm]; omega))⟩ dX5_init_82 (fun M15 _ _ I hw => ?_)
        refine W.eq (g2 := F0 m 85 ls [.ref q13, .ref o]) rfl ?_
        refine z_put C I fl_X5_40 rfl (v := .ref q13) rfl rfl hw dX5_init_85 (fun M16 _ _ I hw => ?_)
        refine lv_aload_n hx hb dX5_init_88 rfl (lv_at hl 0 rfl) ?_
        refine z_new C I kn_X5_33 (fs := [.null, .int 0]) zd_2 hw (by first | omega | (simp only [zRm]; omega)) (by first | omega | (simp only [zRm]; omega)) dX5_init_89 (fun q17 M18 _ I hw => ?_)
        refine lv_dup hx hb dX5_init_92 rfl ?_
        refine z_callI C I (as := []) (rest := [.ref q17, .ref o]) (m_X1_init E hw) ki_X5_35 rfl rfl hl.1 (Nat.le_of_ble_eq_true rfl) ⟨Nat.le_of_ble_eq_true rfl, Nat.le_of_ble_eq_true rfl⟩ ⟨(by first | omega | (simp only [zRm]; omega)), (by first | omega | (simp only [zRm]; omega))⟩ dX5_init_93 (fun M19 _ _ I hw => ?_)
        refine W.eq (g2 := F0 m 96 ls [.ref q17, .ref o]) rfl ?_
        refine z_putF C I fl_X5_43 rfl rfl rfl (v := .ref q17) rfl rfl hw dX5_init_96 (fun M20 _ _ I hw => ?_)
        exact z_vret C I hr ⟨rfl, hw⟩ (by first | omega | (simp only [zRm]; omega)) (by first | omega | (simp only [zRm]; omega)) dX5_init_99
      · replace hw := hw.2 c
        refine lv_aload_n hx hb dX5_init_23 rfl (lv_at hl 0 rfl) ?_
        refine z_getr C I fl_X5_10 hw dX5_init_24 (fun v21 hw => ?_)
        refine z_new C I kn_X5_16 (fs := [.null, .int 0, .int 0]) zd_4 hw (by first | omega | (simp only [zRm]; omega)) (by first | omega | (simp only [zRm]; omega)) dX5_init_27 (fun q22 M23 _ I hw => ?_)
        refine lv_dup hx hb dX5_init_30 rfl ?_
        refine z_callI C I (as := []) (rest := [.ref q22, .ref v21]) (m_X3_init E hw) ki_X5_18 rfl rfl hl.1 (Nat.le_of_ble_eq_true rfl) ⟨Nat.le_of_ble_eq_true rfl, Nat.le_of_ble_eq_true rfl⟩ ⟨(by first | omega | (simp only [zRm]; omega)), (by first | omega | (simp only [zRm]; omega))⟩ dX5_init_31 (fun M24 _ _ I hw => ?_)
        refine W.eq (g2 := F0 m 34 ls [.ref q22, .ref v21]) rfl ?_
        obtain ⟨hrc, hw⟩ := hw
        refine z_callV C I (as := [.ref q22]) (rest := []) (m_Jx4a65c_add_9ea2d E hw) kv_X5_19 vc_0 hrc rfl rfl hl.1 (Nat.le_of_ble_eq_true rfl) ⟨Nat.le_of_ble_eq_true rfl, Nat.le_of_ble_eq_true rfl⟩ ⟨(by first | omega | (simp only [zRm]; omega)), (by first | omega | (simp only [zRm]; omega))⟩ dX5_init_34 (z_prop C htab (by first | omega | (simp only [zRm]; omega)) (by first | omega | (simp only [zRm]; omega))) (fun v M25 _ _ I hv => ?_)
        obtain ⟨v26, rfl, hv26, hw⟩ := hv
        refine W.eq (g2 := F0 m 37 ls [.int v26]) rfl ?_
        refine lv_pop hx hb dX5_init_37 rfl ?_
        refine lv_iinc (v := (x1 + 1)) (lv' := [(1, .int (x1 + 1)), (0, .ref o)]) hx hb dX5_init_38 hl (k := 1) rfl (by rfl) (by decide) rfl (fun ls hl27 => ?_)
        refine lv_goto (tgt := 17) hx hb dX5_init_41 (by decide) ?_
        refine W.widen (k := 1 + (8 - n) * 3) (n := 3 + (8 - n) * 106) (by omega) (by omega) ?_
        exact ih (by omega) (x1 + 1) _ _ _ ls I (lv_sub hl27 [1, 0] rfl) hw
  refine lv_aload_n hx hb dX5_init_0 rfl (lv_at hl 0 rfl) ?_
  refine z_objInit C zw40 zw41 zw42 hl.1 (Nat.le_of_ble_eq_true rfl) ⟨Nat.le_of_ble_eq_true rfl, Nat.le_of_ble_eq_true rfl⟩ dX5_init_1 ?_
  refine lv_aload_n hx hb dX5_init_4 rfl (lv_at hl 0 rfl) ?_
  refine z_new C I kn_X5_7 (fs := [.int 0, .null, .int 0]) zd_0 hw (Nat.le_of_ble_eq_true rfl) (Nat.le_of_ble_eq_true rfl) dX5_init_5 (fun q28 M29 _ I hw => ?_)
  refine lv_dup hx hb dX5_init_8 rfl ?_
  refine z_callI C I (as := []) (rest := [.ref q28, .ref o]) (m_Jx4a65c_init_da8c8 E hw) ki_X5_9 rfl rfl hl.1 (Nat.le_of_ble_eq_true rfl) ⟨Nat.le_of_ble_eq_true rfl, Nat.le_of_ble_eq_true rfl⟩ ⟨Nat.le_of_ble_eq_true rfl, Nat.le_of_ble_eq_true rfl⟩ dX5_init_9 (fun M30 _ _ I hw => ?_)
  refine W.eq (g2 := F0 m 12 ls [.ref q28, .ref o]) rfl ?_
  refine z_putF C I fl_X5_10 rfl rfl rfl (v := .ref q28) rfl rfl hw dX5_init_12 (fun M31 _ _ I hw => ?_)
  refine lv_iconst (v := 0) hx hb dX5_init_15 (by decide) ?_
  refine lv_istore_n (lv' := [(1, .int (0 : Int32)), (0, .ref o)]) hx hb dX5_init_16 rfl hl (by decide) rfl (fun ls hl32 => ?_)
  refine W.widen (k := 1 + (8 - 8) * 3) (n := 3 + (8 - 8) * 106) (Nat.le_of_ble_eq_true rfl) (Nat.le_of_ble_eq_true rfl) ?_
  exact hb_17 8 (Nat.le_refl _) (0 : Int32) _ _ _ ls I (lv_sub hl32 [1, 0] rfl) hw
set_option maxHeartbeats 4000000 in
set_option maxRecDepth 100000 in
theorem m_X5_isName {X : zX} {l : Launch} (E : zEnv X l) {M : zM} {p0 : Int32} {P : Int32 → zM → Prop} {PX : Nat → zM → Prop} (hw : w_X5_isName p0 M P) : zCT X l yX5_isName cX5_isName 1 (some .boolean) 0 0 0 0 M [.int p0] (zPz P) PX := by
  refine z_entry E (by decide) ?_
  intro p e s m args below meth c C hr htab I
  have hx := C.1.1
  have hb := C.1.2.1
  obtain ⟨ls, he, hl⟩ := z_enter (m := m) (n := 1) (vs := [.int p0]) (l := [(0, .int p0)]) (Nat.le_of_ble_eq_true rfl) rfl
  rw [he]
  clear he
  unfold w_X5_isName at hw
  refine lv_iload_n hx hb dX5_isName_0 rfl (lv_at hl 0 rfl) ?_
  refine lv_if_lt (tgt := 14) hx hb dX5_isName_1 (by decide) (fun c => ?_) (fun c => ?_)
  · replace hw := hw.1 c
    refine lv_iconst (v := 0) hx hb dX5_isName_14 (by decide) ?_
    exact z_zret C I hr (Or.inl rfl) ⟨_, rfl, (Or.inl rfl), hw⟩ (Nat.le_of_ble_eq_true rfl) (Nat.le_of_ble_eq_true rfl) dX5_isName_15
  · replace hw := hw.2 c
    refine lv_iload_n hx hb dX5_isName_4 rfl (lv_at hl 0 rfl) ?_
    refine lv_bipush (v := 10) hx hb dX5_isName_5 (by decide) ?_
    refine lv_icmp_ge (tgt := 14) hx hb dX5_isName_7 (by decide) (fun c => ?_) (fun c => ?_)
    · replace hw := hw.1 c
      refine lv_iconst (v := 0) hx hb dX5_isName_14 (by decide) ?_
      exact z_zret C I hr (Or.inl rfl) ⟨_, rfl, (Or.inl rfl), hw⟩ (Nat.le_of_ble_eq_true rfl) (Nat.le_of_ble_eq_true rfl) dX5_isName_15
    · replace hw := hw.2 c
      refine lv_iconst (v := 1) hx hb dX5_isName_10 (by decide) ?_
      refine lv_goto (tgt := 15) hx hb dX5_isName_11 (by decide) ?_
      exact z_zret C I hr (Or.inr rfl) ⟨_, rfl, (Or.inr rfl), hw⟩ (Nat.le_of_ble_eq_true rfl) (Nat.le_of_ble_eq_true rfl) dX5_isName_15
set_option maxHeartbeats 4000000 in
set_option maxRecDepth 100000 in
theorem m_X5_isType {X : zX} {l : Launch} (E : zEnv X l) {M : zM} {p0 : Int32} {P : Int32 → zM → Prop} {PX : Nat → zM → Prop} (hw : w_X5_isType p0 M P) : zCT X l yX5_isType cX5_isType 1 (some .boolean) 0 0 0 0 M [.int p0] (zPz P) PX := by
  refine z_entry E (by decide) ?_
  intro p e s m args below meth c C hr htab I
  have hx := C.1.1
  have hb := C.1.2.1
  obtain ⟨ls, he, hl⟩ := z_enter (m := m) (n := 1) (vs := [.int p0]) (l := [(0, .int p0)]) (Nat.le_of_ble_eq_true rfl) rfl
  rw [he]
  clear he
  unfold w_X5_isType at hw
  refine lv_iload_n hx hb dX5_isType_0 rfl (lv_at hl 0 rfl) ?_
  refine lv_if_lt (tgt := 13) hx hb dX5_isType_1 (by decide) (fun c => ?_) (fun c => ?_)
  · replace hw := hw.1 c
    refine lv_iconst (v := 0) hx hb dX5_isType_13 (by decide) ?_
    exact z_zret C I hr (Or.inl rfl) ⟨_, rfl, (Or.inl rfl), hw⟩ (Nat.le_of_ble_eq_true rfl) (Nat.le_of_ble_eq_true rfl) dX5_isType_14
  · replace hw := hw.2 c
    refine lv_iload_n hx hb dX5_isType_4 rfl (lv_at hl 0 rfl) ?_
    refine lv_iconst (v := 4) hx hb dX5_isType_5 (by decide) ?_
    refine lv_icmp_gt (tgt := 13) hx hb dX5_isType_6 (by decide) (fun c => ?_) (fun c => ?_)
    · replace hw := hw.1 c
      refine lv_iconst (v := 0) hx hb dX5_isType_13 (by decide) ?_
      exact z_zret C I hr (Or.inl rfl) ⟨_, rfl, (Or.inl rfl), hw⟩ (Nat.le_of_ble_eq_true rfl) (Nat.le_of_ble_eq_true rfl) dX5_isType_14
    · replace hw := hw.2 c
      refine lv_iconst (v := 1) hx hb dX5_isType_9 (by decide) ?_
      refine lv_goto (tgt := 14) hx hb dX5_isType_10 (by decide) ?_
      exact z_zret C I hr (Or.inr rfl) ⟨_, rfl, (Or.inr rfl), hw⟩ (Nat.le_of_ble_eq_true rfl) (Nat.le_of_ble_eq_true rfl) dX5_isType_14
set_option maxHeartbeats 4000000 in
set_option maxRecDepth 100000 in
theorem m_X5_isSize {X : zX} {l : Launch} (E : zEnv X l) {M : zM} {p0 : Int32} {P : Int32 → zM → Prop} {PX : Nat → zM → Prop} (hw : w_X5_isSize p0 M P) : zCT X l yX5_isSize cX5_isSize 1 (some .boolean) 0 0 0 0 M [.int p0] (zPz P) PX := by
  refine z_entry E (by decide) ?_
  intro p e s m args below meth c C hr htab I
  have hx := C.1.1
  have hb := C.1.2.1
  obtain ⟨ls, he, hl⟩ := z_enter (m := m) (n := 1) (vs := [.int p0]) (l := [(0, .int p0)]) (Nat.le_of_ble_eq_true rfl) rfl
  rw [he]
  clear he
  unfold w_X5_isSize at hw
  refine lv_iload_n hx hb dX5_isSize_0 rfl (lv_at hl 0 rfl) ?_
  refine lv_iconst (v := 1) hx hb dX5_isSize_1 (by decide) ?_
  refine lv_icmp_lt (tgt := 14) hx hb dX5_isSize_2 (by decide) (fun c => ?_) (fun c => ?_)
  · replace hw := hw.1 c
    refine lv_iconst (v := 0) hx hb dX5_isSize_14 (by decide) ?_
    exact z_zret C I hr (Or.inl rfl) ⟨_, rfl, (Or.inl rfl), hw⟩ (Nat.le_of_ble_eq_true rfl) (Nat.le_of_ble_eq_true rfl) dX5_isSize_15
  · replace hw := hw.2 c
    refine lv_iload_n hx hb dX5_isSize_5 rfl (lv_at hl 0 rfl) ?_
    refine lv_iconst (v := 4) hx hb dX5_isSize_6 (by decide) ?_
    refine lv_icmp_gt (tgt := 14) hx hb dX5_isSize_7 (by decide) (fun c => ?_) (fun c => ?_)
    · replace hw := hw.1 c
      refine lv_iconst (v := 0) hx hb dX5_isSize_14 (by decide) ?_
      exact z_zret C I hr (Or.inl rfl) ⟨_, rfl, (Or.inl rfl), hw⟩ (Nat.le_of_ble_eq_true rfl) (Nat.le_of_ble_eq_true rfl) dX5_isSize_15
    · replace hw := hw.2 c
      refine lv_iconst (v := 1) hx hb dX5_isSize_10 (by decide) ?_
      refine lv_goto (tgt := 15) hx hb dX5_isSize_11 (by decide) ?_
      exact z_zret C I hr (Or.inr rfl) ⟨_, rfl, (Or.inr rfl), hw⟩ (Nat.le_of_ble_eq_true rfl) (Nat.le_of_ble_eq_true rfl) dX5_isSize_15
set_option maxHeartbeats 4000000 in
set_option maxRecDepth 100000 in
theorem m_Jx4a65c_size_8abf5 {X : zX} {l : Launch} (E : zEnv X l) {M : zM} {o : Nat} {P : Int32 → zM → Prop} {PX : Nat → zM → Prop} (hw : w_Jx4a65c_size_8abf5 o M P) : zCT X l yJx4a65c_size_8abf5 cJx4a65c_size_8abf5 1 (some .int) 0 0 0 0 M [.ref o] (zPi P) PX := by
  refine z_entry E (by decide) ?_
  intro p e s m args below meth c C hr htab I
  have hx := C.1.1
  have hb := C.1.2.1
  obtain ⟨ls, he, hl⟩ := z_enter (m := m) (n := 1) (vs := [.ref o]) (l := [(0, .ref o)]) (Nat.le_of_ble_eq_true rfl) rfl
  rw [he]
  clear he
  unfold w_Jx4a65c_size_8abf5 at hw
  refine lv_aload_n hx hb dJx4a65c_size_8abf5_0 rfl (lv_at hl 0 rfl) ?_
  refine z_geti C I fl_Jx4a65c_48 hw dJx4a65c_size_8abf5_1 (fun v1 hw => ?_)
  exact z_iret C I hr ⟨_, rfl, hw⟩ (Nat.le_of_ble_eq_true rfl) (Nat.le_of_ble_eq_true rfl) dJx4a65c_size_8abf5_4
set_option maxHeartbeats 4000000 in
set_option maxRecDepth 100000 in
theorem m_J3_checkIndex_8e157 {X : zX} {l : Launch} (E : zEnv X l) {M : zM} {p0 : Int32} {p1 : Int32} {p2 : Option Nat} {P : Int32 → zM → Prop} {PX : Nat → zM → Prop} (hw : w_J3_checkIndex_8e157 p0 p1 p2 M P) : zCT X l yJ3_checkIndex_8e157 cJ3_checkIndex_8e157 3 (some .int) 0 0 0 0 M [.int p0, .int p1, va_rf p2] (zPi P) PX := by
  refine z_entry E (by decide) ?_
  intro p e s m args below meth c C hr htab I
  have hx := C.1.1
  have hb := C.1.2.1
  obtain ⟨ls, he, hl⟩ := z_enter (m := m) (n := 3) (vs := [.int p0, .int p1, va_rf p2]) (l := [(0, .int p0), (1, .int p1), (2, va_rf p2)]) (by simp [lg_sl, z_catR, z_catI, z_catF, z_catN]) (by simp [lv_args, z_catR, z_catI, z_catF, z_catN])
  rw [he]
  clear he
  unfold w_J3_checkIndex_8e157 at hw
  have hb_9 : ∀ (M : zM) (H : Heap) (locs : List Loc) (ls : Array Slot), zWk X s M H locs → lv_has ls 3 [(0, .int p0), (1, .int p1), (2, va_rf p2)] → w_J3_checkIndex_8e157_9 p0 p1 p2 P M → W p l e (zRm 0 0 0 0) s m args below meth c H locs 0 0 (vx_MQ below (zQc X (zPi P)) (zXc X PX) args s 0 0 (zBase X)) (F0 m 9 ls []) := by
    intro M H locs ls I hl hw
    unfold w_J3_checkIndex_8e157_9 at hw
    refine z_aloadn C (r := p2) dJ3_checkIndex_8e157_9 rfl (lv_at hl 2 rfl) ?_
    refine lv_iload_n hx hb dJ3_checkIndex_8e157_10 rfl (lv_at hl 0 rfl) ?_
    refine lv_iload_n hx hb dJ3_checkIndex_8e157_11 rfl (lv_at hl 1 rfl) ?_
    exact hw.elim
  refine lv_iload_n hx hb dJ3_checkIndex_8e157_0 rfl (lv_at hl 0 rfl) ?_
  refine lv_if_lt (tgt := 9) hx hb dJ3_checkIndex_8e157_1 (by decide) (fun c => ?_) (fun c => ?_)
  · replace hw := hw.1 c
    refine W.widen (k := 0) (n := 0) (Nat.le_of_ble_eq_true rfl) (Nat.le_of_ble_eq_true rfl) ?_
    exact hb_9 _ _ _ ls I (lv_sub hl [0, 1, 2] rfl) hw
  · replace hw := hw.2 c
    refine lv_iload_n hx hb dJ3_checkIndex_8e157_4 rfl (lv_at hl 0 rfl) ?_
    refine lv_iload_n hx hb dJ3_checkIndex_8e157_5 rfl (lv_at hl 1 rfl) ?_
    refine lv_icmp_lt (tgt := 16) hx hb dJ3_checkIndex_8e157_6 (by decide) (fun c => ?_) (fun c => ?_)
    · replace hw := hw.1 c
      refine lv_iload_n hx hb dJ3_checkIndex_8e157_16 rfl (lv_at hl 0 rfl) ?_
      exact z_iret C I hr ⟨_, rfl, hw⟩ (Nat.le_of_ble_eq_true rfl) (Nat.le_of_ble_eq_true rfl) dJ3_checkIndex_8e157_17
    · replace hw := hw.2 c
      refine W.widen (k := 0) (n := 0) (Nat.le_of_ble_eq_true rfl) (Nat.le_of_ble_eq_true rfl) ?_
      exact hb_9 _ _ _ ls I (lv_sub hl [0, 1, 2] rfl) hw
set_option maxHeartbeats 4000000 in
set_option maxRecDepth 100000 in
theorem m_J15_checkIndex_7cf53 {X : zX} {l : Launch} (E : zEnv X l) {M : zM} {p0 : Int32} {p1 : Int32} {P : Int32 → zM → Prop} {PX : Nat → zM → Prop} (hw : w_J15_checkIndex_7cf53 p0 p1 M P) : zCT X l yJ15_checkIndex_7cf53 cJ15_checkIndex_7cf53 2 (some .int) 1 22 0 0 M [.int p0, .int p1] (zPi P) PX := by
  refine z_entry E (by decide) ?_
  intro p e s m args below meth c C hr htab I
  have hx := C.1.1
  have hb := C.1.2.1
  obtain ⟨ls, he, hl⟩ := z_enter (m := m) (n := 2) (vs := [.int p0, .int p1]) (l := [(0, .int p0), (1, .int p1)]) (Nat.le_of_ble_eq_true rfl) rfl
  rw [he]
  clear he
  unfold w_J15_checkIndex_7cf53 at hw
  refine lv_iload_n hx hb dJ15_checkIndex_7cf53_0 rfl (lv_at hl 0 rfl) ?_
  refine lv_iload_n hx hb dJ15_checkIndex_7cf53_1 rfl (lv_at hl 1 rfl) ?_
  refine lv_null hx hb dJ15_checkIndex_7cf53_2 ?_
  refine z_callS C I (as := [.int p0, .int p1, .null]) (rest := []) (m_J3_checkIndex_8e157 E hw) ks_J15_105 rfl rfl hl.1 (Nat.le_of_ble_eq_true rfl) ⟨Nat.le_of_ble_eq_true rfl, Nat.le_of_ble_eq_true rfl⟩ ⟨Nat.le_of_ble_eq_true rfl, Nat.le_of_ble_eq_true rfl⟩ dJ15_checkIndex_7cf53_3 (z_prop C htab (Nat.le_of_ble_eq_true rfl) (Nat.le_of_ble_eq_true rfl)) (fun v M1 _ _ I hv => ?_)
  obtain ⟨v2, rfl, hw⟩ := hv
  refine W.eq (g2 := F0 m 6 ls [.int v2]) rfl ?_
  exact z_iret C I hr ⟨_, rfl, hw⟩ (Nat.le_of_ble_eq_true rfl) (Nat.le_of_ble_eq_true rfl) dJ15_checkIndex_7cf53_6
set_option maxHeartbeats 4000000 in
set_option maxRecDepth 100000 in
theorem m_Jx4a65c_elementData_915e3 {X : zX} {l : Launch} (E : zEnv X l) {M : zM} {o : Nat} {p0 : Int32} {P : Option Nat → zM → Prop} {PX : Nat → zM → Prop} (hw : w_Jx4a65c_elementData_915e3 o p0 M P) : zCT X l yJx4a65c_elementData_915e3 cJx4a65c_elementData_915e3 2 (some ((.object "java/lang/Object"))) 0 0 0 0 M [.ref o, .int p0] (zPo P) PX := by
  refine z_entry E (by decide) ?_
  intro p e s m args below meth c C hr htab I
  have hx := C.1.1
  have hb := C.1.2.1
  obtain ⟨ls, he, hl⟩ := z_enter (m := m) (n := 2) (vs := [.ref o, .int p0]) (l := [(0, .ref o), (1, .int p0)]) (Nat.le_of_ble_eq_true rfl) rfl
  rw [he]
  clear he
  unfold w_Jx4a65c_elementData_915e3 at hw
  refine lv_aload_n hx hb dJx4a65c_elementData_915e3_0 rfl (lv_at hl 0 rfl) ?_
  refine z_getr C I fl_Jx4a65c_9 hw dJx4a65c_elementData_915e3_1 (fun v1 hw => ?_)
  refine lv_iload_n hx hb dJx4a65c_elementData_915e3_4 rfl (lv_at hl 1 rfl) ?_
  refine z_aald C I hw dJx4a65c_elementData_915e3_5 (fun v2 hw => ?_)
  exact z_aret C I hr (Or.inl ⟨_, rfl⟩) (v := v2) ⟨_, rfl, hw⟩ (Nat.le_of_ble_eq_true rfl) (Nat.le_of_ble_eq_true rfl) dJx4a65c_elementData_915e3_6
set_option maxHeartbeats 4000000 in
set_option maxRecDepth 100000 in
theorem m_Jx4a65c_get_915e3 {X : zX} {l : Launch} (E : zEnv X l) {M : zM} {o : Nat} {p0 : Int32} {P : Option Nat → zM → Prop} {PX : Nat → zM → Prop} (hw : w_Jx4a65c_get_915e3 o p0 M P) : zCT X l yJx4a65c_get_915e3 cJx4a65c_get_915e3 2 (some ((.object "java/lang/Object"))) 2 43 0 0 M [.ref o, .int p0] (zPo P) PX := by
  refine z_entry E (by decide) ?_
  intro p e s m args below meth c C hr htab I
  have hx := C.1.1
  have hb := C.1.2.1
  obtain ⟨ls, he, hl⟩ := z_enter (m := m) (n := 2) (vs := [.ref o, .int p0]) (l := [(0, .ref o), (1, .int p0)]) (Nat.le_of_ble_eq_true rfl) rfl
  rw [he]
  clear he
  unfold w_Jx4a65c_get_915e3 at hw
  refine lv_iload_n hx hb dJx4a65c_get_915e3_0 rfl (lv_at hl 1 rfl) ?_
  refine lv_aload_n hx hb dJx4a65c_get_915e3_1 rfl (lv_at hl 0 rfl) ?_
  refine z_geti C I fl_Jx4a65c_48 hw dJx4a65c_get_915e3_2 (fun v1 hw => ?_)
  refine z_callS C I (as := [.int p0, .int v1]) (rest := []) (m_J15_checkIndex_7cf53 E hw) ks_Jx4a65c_118 rfl rfl hl.1 (Nat.le_of_ble_eq_true rfl) ⟨Nat.le_of_ble_eq_true rfl, Nat.le_of_ble_eq_true rfl⟩ ⟨Nat.le_of_ble_eq_true rfl, Nat.le_of_ble_eq_true rfl⟩ dJx4a65c_get_915e3_5 (z_prop C htab (Nat.le_of_ble_eq_true rfl) (Nat.le_of_ble_eq_true rfl)) (fun v M2 _ _ I hv => ?_)
  obtain ⟨v3, rfl, hw⟩ := hv
  refine W.eq (g2 := F0 m 8 ls [.int v3]) rfl ?_
  refine lv_pop hx hb dJx4a65c_get_915e3_8 rfl ?_
  refine lv_aload_n hx hb dJx4a65c_get_915e3_9 rfl (lv_at hl 0 rfl) ?_
  refine lv_iload_n hx hb dJx4a65c_get_915e3_10 rfl (lv_at hl 1 rfl) ?_
  obtain ⟨hrc, hw⟩ := hw
  refine z_callV C I (as := [.int p0]) (rest := []) (m_Jx4a65c_elementData_915e3 E hw) kv_Jx4a65c_123 vc_0 hrc rfl rfl hl.1 (Nat.le_of_ble_eq_true rfl) ⟨Nat.le_of_ble_eq_true rfl, Nat.le_of_ble_eq_true rfl⟩ ⟨Nat.le_of_ble_eq_true rfl, Nat.le_of_ble_eq_true rfl⟩ dJx4a65c_get_915e3_11 (z_prop C htab (Nat.le_of_ble_eq_true rfl) (Nat.le_of_ble_eq_true rfl)) (fun v M4 _ _ I hv => ?_)
  obtain ⟨v5, rfl, hw⟩ := hv
  refine W.eq (g2 := F0 m 14 ls [va_rf v5]) rfl ?_
  exact z_aret C I hr (Or.inl ⟨_, rfl⟩) (v := v5) ⟨_, rfl, hw⟩ (Nat.le_of_ble_eq_true rfl) (Nat.le_of_ble_eq_true rfl) dJx4a65c_get_915e3_14
set_option maxHeartbeats 4000000 in
set_option maxRecDepth 100000 in
theorem m_X3_keptVersion {X : zX} {l : Launch} (E : zEnv X l) {M : zM} {o : Nat} {p0 : Int32} {P : Option Nat → zM → Prop} {PX : Nat → zM → Prop} (hw : w_X3_keptVersion o p0 M P) : zCT X l yX3_keptVersion cX3_keptVersion 3 (some ((.object "SchemaSubjects$Version"))) 3 64 0 0 M [.ref o, .int p0] (zPo P) PX := by
  refine z_entry E (by decide) ?_
  intro p e s m args below meth c C hr htab I
  have hx := C.1.1
  have hb := C.1.2.1
  obtain ⟨ls, he, hl⟩ := z_enter (m := m) (n := 3) (vs := [.ref o, .int p0]) (l := [(0, .ref o), (1, .int p0)]) (Nat.le_of_ble_eq_true rfl) rfl
  rw [he]
  clear he
  unfold w_X3_keptVersion at hw
  refine lv_iload_n hx hb dX3_keptVersion_0 rfl (lv_at hl 1 rfl) ?_
  refine lv_if_lt (tgt := 15) hx hb dX3_keptVersion_1 (by decide) (fun c => ?_) (fun c => ?_)
  · replace hw := hw.1 c
    refine lv_null hx hb dX3_keptVersion_15 ?_
    exact z_aret C I hr (Or.inl ⟨_, rfl⟩) (v := none) ⟨_, rfl, hw⟩ (Nat.le_of_ble_eq_true rfl) (Nat.le_of_ble_eq_true rfl) dX3_keptVersion_16
  · replace hw := hw.2 c
    refine lv_iload_n hx hb dX3_keptVersion_4 rfl (lv_at hl 1 rfl) ?_
    refine lv_aload_n hx hb dX3_keptVersion_5 rfl (lv_at hl 0 rfl) ?_
    refine z_getr C I fl_X3_12 hw dX3_keptVersion_6 (fun v1 hw => ?_)
    obtain ⟨hrc, hw⟩ := hw
    refine z_callV C I (as := []) (rest := [.int p0]) (m_Jx4a65c_size_8abf5 E hw) kv_X3_18 vc_0 hrc rfl rfl hl.1 (Nat.le_of_ble_eq_true rfl) ⟨Nat.le_of_ble_eq_true rfl, Nat.le_of_ble_eq_true rfl⟩ ⟨Nat.le_of_ble_eq_true rfl, Nat.le_of_ble_eq_true rfl⟩ dX3_keptVersion_9 (z_prop C htab (Nat.le_of_ble_eq_true rfl) (Nat.le_of_ble_eq_true rfl)) (fun v M2 _ _ I hv => ?_)
    obtain ⟨v3, rfl, hw⟩ := hv
    refine W.eq (g2 := F0 m 12 ls [.int v3, .int p0]) rfl ?_
    refine lv_icmp_lt (tgt := 17) hx hb dX3_keptVersion_12 (by decide) (fun c => ?_) (fun c => ?_)
    · replace hw := hw.1 c
      refine lv_aload_n hx hb dX3_keptVersion_17 rfl (lv_at hl 0 rfl) ?_
      refine z_getr C I fl_X3_12 hw dX3_keptVersion_18 (fun v4 hw => ?_)
      refine lv_iload_n hx hb dX3_keptVersion_21 rfl (lv_at hl 1 rfl) ?_
      obtain ⟨hrc, hw⟩ := hw
      refine z_callV C I (as := [.int p0]) (rest := []) (m_Jx4a65c_get_915e3 E hw) kv_X3_22 vc_0 hrc rfl rfl hl.1 (Nat.le_of_ble_eq_true rfl) ⟨Nat.le_of_ble_eq_true rfl, Nat.le_of_ble_eq_true rfl⟩ ⟨Nat.le_of_ble_eq_true rfl, Nat.le_of_ble_eq_true rfl⟩ dX3_keptVersion_22 (z_prop C htab (Nat.le_of_ble_eq_true rfl) (Nat.le_of_ble_eq_true rfl)) (fun v M5 _ _ I hv => ?_)
      obtain ⟨v6, rfl, hw⟩ := hv
      refine W.eq (g2 := F0 m 25 ls [va_rf v6]) rfl ?_
      refine z_cast C I vc_5 (r := v6) zw329 hw dX3_keptVersion_25 (fun a7 hw => ?_)
      refine lv_astore_n (lv' := [(2, .ref a7), (0, .ref o), (1, .int p0)]) hx hb dX3_keptVersion_28 rfl hl (by decide) rfl (fun ls hl8 => ?_)
      refine lv_aload_n hx hb dX3_keptVersion_29 rfl (lv_at hl8 0 rfl) ?_
      refine z_geti C I fl_X3_28 hw dX3_keptVersion_30 (fun v9 hw => ?_)
      refine lv_iconst (v := 2) hx hb dX3_keptVersion_33 (by decide) ?_
      refine lv_icmp_ne (tgt := 41) hx hb dX3_keptVersion_34 (by decide) (fun c => ?_) (fun c => ?_)
      · replace hw := hw.1 c
        refine lv_aload_n hx hb dX3_keptVersion_41 rfl (lv_at hl8 0 rfl) ?_
        exact z_aret C I hr (Or.inl ⟨_, rfl⟩) (v := (some a7)) ⟨_, rfl, hw⟩ (Nat.le_of_ble_eq_true rfl) (Nat.le_of_ble_eq_true rfl) dX3_keptVersion_42
      · replace hw := hw.2 c
        refine lv_null hx hb dX3_keptVersion_37 ?_
        refine lv_goto (tgt := 42) hx hb dX3_keptVersion_38 (by decide) ?_
        exact z_aret C I hr (Or.inl ⟨_, rfl⟩) (v := none) ⟨_, rfl, hw⟩ (Nat.le_of_ble_eq_true rfl) (Nat.le_of_ble_eq_true rfl) dX3_keptVersion_42
    · replace hw := hw.2 c
      refine lv_null hx hb dX3_keptVersion_15 ?_
      exact z_aret C I hr (Or.inl ⟨_, rfl⟩) (v := none) ⟨_, rfl, hw⟩ (Nat.le_of_ble_eq_true rfl) (Nat.le_of_ble_eq_true rfl) dX3_keptVersion_16
set_option maxHeartbeats 4000000 in
set_option maxRecDepth 100000 in
theorem m_X5_referable {X : zX} {l : Launch} (E : zEnv X l) {M : zM} {o : Nat} {p0 : Int32} {P : Option Nat → zM → Prop} {PX : Nat → zM → Prop} (hw : w_X5_referable o p0 M P) : zCT X l yX5_referable cX5_referable 3 (some ((.object "SchemaSubjects$Schema"))) 4 86 0 0 M [.ref o, .int p0] (zPo P) PX := by
  refine z_entry E (by decide) ?_
  intro p e s m args below meth c C hr htab I
  have hx := C.1.1
  have hb := C.1.2.1
  obtain ⟨ls, he, hl⟩ := z_enter (m := m) (n := 3) (vs := [.ref o, .int p0]) (l := [(0, .ref o), (1, .int p0)]) (Nat.le_of_ble_eq_true rfl) rfl
  rw [he]
  clear he
  unfold w_X5_referable at hw
  have hb_53 : ∀ (M : zM) (H : Heap) (locs : List Loc) (ls : Array Slot), zWk X s M H locs → lv_has ls 3 [] → w_X5_referable_53 o p0 P M → W p l e (zRm 4 86 0 0) s m args below meth c H locs 0 0 (vx_MQ below (zQc X (zPo P)) (zXc X PX) args s 0 0 (zBase X)) (F0 m 53 ls []) := by
    intro M H locs ls I hl hw
    unfold w_X5_referable_53 at hw
    refine lv_null hx hb dX5_referable_53 ?_
    refine lv_goto (tgt := 61) hx hb dX5_referable_54 (by decide) ?_
    exact z_aret C I hr (Or.inl ⟨_, rfl⟩) (v := none) ⟨_, rfl, hw⟩ (Nat.le_of_ble_eq_true rfl) (Nat.le_of_ble_eq_true rfl) dX5_referable_61
  refine lv_iload_n hx hb dX5_referable_0 rfl (lv_at hl 1 rfl) ?_
  refine lv_if_lt (tgt := 18) hx hb dX5_referable_1 (by decide) (fun c => ?_) (fun c => ?_)
  · replace hw := hw.1 c
    refine lv_null hx hb dX5_referable_18 ?_
    exact z_aret C I hr (Or.inl ⟨_, rfl⟩) (v := none) ⟨_, rfl, hw⟩ (Nat.le_of_ble_eq_true rfl) (Nat.le_of_ble_eq_true rfl) dX5_referable_19
  · replace hw := hw.2 c
    refine lv_iload_n hx hb dX5_referable_4 rfl (lv_at hl 1 rfl) ?_
    refine lv_bipush (v := 10) hx hb dX5_referable_5 (by decide) ?_
    refine lv_idiv hx hb dX5_referable_7 (by decide) ?_
    refine lv_aload_n hx hb dX5_referable_8 rfl (lv_at hl 0 rfl) ?_
    refine z_getr C I fl_X5_10 hw dX5_referable_9 (fun v1 hw => ?_)
    obtain ⟨hrc, hw⟩ := hw
    refine z_callV C I (as := []) (rest := [.int (p0 / (10 : Int32))]) (m_Jx4a65c_size_8abf5 E hw) kv_X5_84 vc_0 hrc rfl rfl hl.1 (Nat.le_of_ble_eq_true rfl) ⟨Nat.le_of_ble_eq_true rfl, Nat.le_of_ble_eq_true rfl⟩ ⟨Nat.le_of_ble_eq_true rfl, Nat.le_of_ble_eq_true rfl⟩ dX5_referable_12 (z_prop C htab (Nat.le_of_ble_eq_true rfl) (Nat.le_of_ble_eq_true rfl)) (fun v M2 _ _ I hv => ?_)
    obtain ⟨v3, rfl, hw⟩ := hv
    refine W.eq (g2 := F0 m 15 ls [.int v3, .int (p0 / (10 : Int32))]) rfl ?_
    refine lv_icmp_lt (tgt := 20) hx hb dX5_referable_15 (by decide) (fun c => ?_) (fun c => ?_)
    · replace hw := hw.1 c
      refine lv_aload_n hx hb dX5_referable_20 rfl (lv_at hl 0 rfl) ?_
      refine z_getr C I fl_X5_10 hw dX5_referable_21 (fun v4 hw => ?_)
      refine lv_iload_n hx hb dX5_referable_24 rfl (lv_at hl 1 rfl) ?_
      refine lv_bipush (v := 10) hx hb dX5_referable_25 (by decide) ?_
      refine lv_idiv hx hb dX5_referable_27 (by decide) ?_
      obtain ⟨hrc, hw⟩ := hw
      refine z_callV C I (as := [.int (p0 / (10 : Int32))]) (rest := []) (m_Jx4a65c_get_915e3 E hw) kv_X5_242 vc_0 hrc rfl rfl hl.1 (Nat.le_of_ble_eq_true rfl) ⟨Nat.le_of_ble_eq_true rfl, Nat.le_of_ble_eq_true rfl⟩ ⟨Nat.le_of_ble_eq_true rfl, Nat.le_of_ble_eq_true rfl⟩ dX5_referable_28 (z_prop C htab (Nat.le_of_ble_eq_true rfl) (Nat.le_of_ble_eq_true rfl)) (fun v M5 _ _ I hv => ?_)
      obtain ⟨v6, rfl, hw⟩ := hv
      refine W.eq (g2 := F0 m 31 ls [va_rf v6]) rfl ?_
      refine z_cast C I vc_4 (r := v6) zw69 hw dX5_referable_31 (fun a7 hw => ?_)
      refine lv_iload_n hx hb dX5_referable_34 rfl (lv_at hl 1 rfl) ?_
      refine lv_bipush (v := 10) hx hb dX5_referable_35 (by decide) ?_
      refine lv_irem hx hb dX5_referable_37 (by decide) ?_
      obtain ⟨hrc, hw⟩ := hw
      refine z_callV C I (as := [.int (p0 - p0 / (10 : Int32) * (10 : Int32))]) (rest := []) (m_X3_keptVersion E hw) kv_X5_246 vc_4 hrc rfl rfl hl.1 (Nat.le_of_ble_eq_true rfl) ⟨Nat.le_of_ble_eq_true rfl, Nat.le_of_ble_eq_true rfl⟩ ⟨Nat.le_of_ble_eq_true rfl, Nat.le_of_ble_eq_true rfl⟩ dX5_referable_38 (z_prop C htab (Nat.le_of_ble_eq_true rfl) (Nat.le_of_ble_eq_true rfl)) (fun v M8 _ _ I hv => ?_)
      obtain ⟨v9, rfl, hw⟩ := hv
      refine W.eq (g2 := F0 m 41 ls [va_rf v9]) rfl ?_
      refine z_astoren (lv' := [(2, va_rf v9), (0, .ref o), (1, .int p0)]) C (r := v9) dX5_referable_41 rfl hl (by decide) rfl (fun ls hl10 => ?_)
      refine z_aloadn C (r := v9) dX5_referable_42 rfl (lv_at hl10 0 rfl) ?_
      refine z_ifnull C (r := v9) (tgt := 53) dX5_referable_43 (by decide) (fun c => ?_) (fun a11 c => ?_)
      · have hq := hw.1 c
        subst c
        have hw := hq
        clear hq
        refine W.eq (g2 := F0 m 53 ls []) rfl ?_
        have hl12 : lv_has ls 3 [(2, va_rf none), (0, .ref o), (1, .int p0)] := hl10
        refine W.widen (k := 0) (n := 0) (Nat.le_of_ble_eq_true rfl) (Nat.le_of_ble_eq_true rfl) ?_
        exact hb_53 _ _ _ ls I (lv_sub hl12 [] rfl) hw
      · have hq := hw.2 a11 c
        subst c
        have hw := hq
        clear hq
        refine W.eq (g2 := F0 m 46 ls []) rfl ?_
        have hl13 : lv_has ls 3 [(2, .ref a11), (0, .ref o), (1, .int p0)] := hl10
        refine lv_aload_n hx hb dX5_referable_46 rfl (lv_at hl13 0 rfl) ?_
        refine z_geti C I fl_X5_181 hw dX5_referable_47 (fun v14 hw => ?_)
        refine lv_if_eq (tgt := 57) hx hb dX5_referable_50 (by decide) (fun c => ?_) (fun c => ?_)
        · replace hw := hw.1 c
          refine lv_aload_n hx hb dX5_referable_57 rfl (lv_at hl13 0 rfl) ?_
          refine z_getr C I fl_X5_252 hw dX5_referable_58 (fun v15 hw => ?_)
          exact z_aret C I hr (Or.inl ⟨_, rfl⟩) (v := (some v15)) ⟨_, rfl, hw⟩ (Nat.le_of_ble_eq_true rfl) (Nat.le_of_ble_eq_true rfl) dX5_referable_61
        · replace hw := hw.2 c
          refine W.widen (k := 0) (n := 0) (Nat.le_of_ble_eq_true rfl) (Nat.le_of_ble_eq_true rfl) ?_
          exact hb_53 _ _ _ ls I (lv_sub hl13 [] rfl) hw
    · replace hw := hw.2 c
      refine lv_null hx hb dX5_referable_18 ?_
      exact z_aret C I hr (Or.inl ⟨_, rfl⟩) (v := none) ⟨_, rfl, hw⟩ (Nat.le_of_ble_eq_true rfl) (Nat.le_of_ble_eq_true rfl) dX5_referable_19
set_option maxHeartbeats 4000000 in
set_option maxRecDepth 100000 in
theorem m_X1_count {X : zX} {l : Launch} (E : zEnv X l) {M : zM} {o : Nat} {P : Int32 → zM → Prop} {PX : Nat → zM → Prop} (hw : w_X1_count o M P) : zCT X l yX1_count cX1_count 1 (some .int) 0 0 0 0 M [.ref o] (zPi P) PX := by
  refine z_entry E (by decide) ?_
  intro p e s m args below meth c C hr htab I
  have hx := C.1.1
  have hb := C.1.2.1
  obtain ⟨ls, he, hl⟩ := z_enter (m := m) (n := 1) (vs := [.ref o]) (l := [(0, .ref o)]) (Nat.le_of_ble_eq_true rfl) rfl
  rw [he]
  clear he
  unfold w_X1_count at hw
  refine lv_aload_n hx hb dX1_count_0 rfl (lv_at hl 0 rfl) ?_
  refine z_geti C I fl_X1_15 hw dX1_count_1 (fun v1 hw => ?_)
  exact z_iret C I hr ⟨_, rfl, hw⟩ (Nat.le_of_ble_eq_true rfl) (Nat.le_of_ble_eq_true rfl) dX1_count_4
set_option maxHeartbeats 4000000 in
set_option maxRecDepth 100000 in
theorem m_X2_named {X : zX} {l : Launch} (E : zEnv X l) {M : zM} {o : Nat} {p0 : Int32} {P : Option Nat → zM → Prop} {PX : Nat → zM → Prop} (hw : w_X2_named o p0 M P) : zCT X l yX2_named cX2_named 3 (some ((.object "SchemaSubjects$Field"))) 3 64 0 0 M [.ref o, .int p0] (zPo P) PX := by
  refine z_entry E (by decide) ?_
  intro p e s m args below meth c C hr htab I
  have hx := C.1.1
  have hb := C.1.2.1
  obtain ⟨ls, he, hl⟩ := z_enter (m := m) (n := 3) (vs := [.ref o, .int p0]) (l := [(0, .ref o), (1, .int p0)]) (Nat.le_of_ble_eq_true rfl) rfl
  rw [he]
  clear he
  unfold w_X2_named at hw
  have hb_2 : ∀ (n : Nat) (x2 : Int32) (M : zM) (H : Heap) (locs : List Loc) (ls : Array Slot), zWk X s M H locs → lv_has ls 3 [(0, .ref o), (1, .int p0), (2, .int x2)] → w_X2_named_2 o p0 P n x2 M → W p l e (zRm 3 64 0 0) s m args below meth c H locs 0 0 (vx_MQ below (zQc X (zPo P)) (zXc X PX) args s 0 0 (zBase X)) (F0 m 2 ls []) := by
    intro n
    induction n with
    | zero => intro _ M H locs ls I hl hw; exact hw.elim
    | succ n ih =>
      intro x2 M H locs ls I hl hw
      unfold w_X2_named_2 at hw
      refine lv_iload_n hx hb dX2_named_2 rfl (lv_at hl 2 rfl) ?_
      refine lv_aload_n hx hb dX2_named_3 rfl (lv_at hl 0 rfl) ?_
      refine z_getr C I fl_X2_12 hw dX2_named_4 (fun v1 hw => ?_)
      obtain ⟨hrc, hw⟩ := hw
      refine z_callV C I (as := []) (rest := [.int x2]) (m_Jx4a65c_size_8abf5 E hw) kv_X2_66 vc_0 hrc rfl rfl hl.1 (Nat.le_of_ble_eq_true rfl) ⟨Nat.le_of_ble_eq_true rfl, Nat.le_of_ble_eq_true rfl⟩ ⟨Nat.le_of_ble_eq_true rfl, Nat.le_of_ble_eq_true rfl⟩ dX2_named_7 (z_prop C htab (Nat.le_of_ble_eq_true rfl) (Nat.le_of_ble_eq_true rfl)) (fun v M2 _ _ I hv => ?_)
      obtain ⟨v3, rfl, hw⟩ := hv
      refine W.eq (g2 := F0 m 10 ls [.int v3, .int x2]) rfl ?_
      refine lv_icmp_ge (tgt := 49) hx hb dX2_named_10 (by decide) (fun c => ?_) (fun c => ?_)
      · replace hw := hw.1 c
        refine lv_null hx hb dX2_named_49 ?_
        exact z_aret C I hr (Or.inl ⟨_, rfl⟩) (v := none) ⟨_, rfl, hw⟩ (Nat.le_of_ble_eq_true rfl) (Nat.le_of_ble_eq_true rfl) dX2_named_50
      · replace hw := hw.2 c
        refine lv_aload_n hx hb dX2_named_13 rfl (lv_at hl 0 rfl) ?_
        refine z_getr C I fl_X2_12 hw dX2_named_14 (fun v4 hw => ?_)
        refine lv_iload_n hx hb dX2_named_17 rfl (lv_at hl 2 rfl) ?_
        obtain ⟨hrc, hw⟩ := hw
        refine z_callV C I (as := [.int x2]) (rest := []) (m_Jx4a65c_get_915e3 E hw) kv_X2_68 vc_0 hrc rfl rfl hl.1 (Nat.le_of_ble_eq_true rfl) ⟨Nat.le_of_ble_eq_true rfl, Nat.le_of_ble_eq_true rfl⟩ ⟨Nat.le_of_ble_eq_true rfl, Nat.le_of_ble_eq_true rfl⟩ dX2_named_18 (z_prop C htab (Nat.le_of_ble_eq_true rfl) (Nat.le_of_ble_eq_true rfl)) (fun v M5 _ _ I hv => ?_)
        obtain ⟨v6, rfl, hw⟩ := hv
        refine W.eq (g2 := F0 m 21 ls [va_rf v6]) rfl ?_
        refine z_cast C I vc_1 (r := v6) zw356 hw dX2_named_21 (fun a7 hw => ?_)
        refine z_geti C I fl_X2_72 hw dX2_named_24 (fun v8 hw => ?_)
        refine lv_iload_n hx hb dX2_named_27 rfl (lv_at hl 1 rfl) ?_
        refine lv_icmp_ne (tgt := 43) hx hb dX2_named_28 (by decide) (fun c => ?_) (fun c => ?_)
        · replace hw := hw.1 c
          refine lv_iinc (v := (x2 + 1)) (lv' := [(2, .int (x2 + 1)), (0, .ref o), (1, .int p0)]) hx hb dX2_named_43 hl (k := 2) rfl (by rfl) (by decide) rfl (fun ls hl9 => ?_)
          refine lv_goto (tgt := 2) hx hb dX2_named_46 (by decide) ?_
          refine W.widen (k := 0) (n := 0) (Nat.le_of_ble_eq_true rfl) (Nat.le_of_ble_eq_true rfl) ?_
          exact ih (x2 + 1) _ _ _ ls I (lv_sub hl9 [1, 2, 0] rfl) hw
        · replace hw := hw.2 c
          refine lv_aload_n hx hb dX2_named_31 rfl (lv_at hl 0 rfl) ?_
          refine z_getr C I fl_X2_12 hw dX2_named_32 (fun v10 hw => ?_)
          refine lv_iload_n hx hb dX2_named_35 rfl (lv_at hl 2 rfl) ?_
          obtain ⟨hrc, hw⟩ := hw
          refine z_callV C I (as := [.int x2]) (rest := []) (m_Jx4a65c_get_915e3 E hw) kv_X2_68 vc_0 hrc rfl rfl hl.1 (Nat.le_of_ble_eq_true rfl) ⟨Nat.le_of_ble_eq_true rfl, Nat.le_of_ble_eq_true rfl⟩ ⟨Nat.le_of_ble_eq_true rfl, Nat.le_of_ble_eq_true rfl⟩ dX2_named_36 (z_prop C htab (Nat.le_of_ble_eq_true rfl) (Nat.le_of_ble_eq_true rfl)) (fun v M11 _ _ I hv => ?_)
          obtain ⟨v12, rfl, hw⟩ := hv
          refine W.eq (g2 := F0 m 39 ls [va_rf v12]) rfl ?_
          refine z_cast C I vc_1 (r := v12) zw356 hw dX2_named_39 (fun a13 hw => ?_)
          exact z_aret C I hr (Or.inl ⟨_, rfl⟩) (v := (some a13)) ⟨_, rfl, hw⟩ (Nat.le_of_ble_eq_true rfl) (Nat.le_of_ble_eq_true rfl) dX2_named_42
  refine lv_iconst (v := 0) hx hb dX2_named_0 (by decide) ?_
  refine lv_istore_n (lv' := [(2, .int (0 : Int32)), (0, .ref o), (1, .int p0)]) hx hb dX2_named_1 rfl hl (by decide) rfl (fun ls hl14 => ?_)
  obtain ⟨nn, hw⟩ := hw
  refine W.widen (k := 0) (n := 0) (Nat.le_of_ble_eq_true rfl) (Nat.le_of_ble_eq_true rfl) ?_
  exact hb_2 nn (0 : Int32) _ _ _ ls I (lv_sub hl14 [1, 2, 0] rfl) hw
set_option maxHeartbeats 4000000 in
set_option maxRecDepth 100000 in
theorem m_X5_sizeOf {X : zX} {l : Launch} (E : zEnv X l) {M : zM} {p0 : Int32} {p1 : Int32} {P : Int32 → zM → Prop} {PX : Nat → zM → Prop} (hw : w_X5_sizeOf p0 p1 M P) : zCT X l yX5_sizeOf cX5_sizeOf 2 (some .int) 0 0 0 0 M [.int p0, .int p1] (zPi P) PX := by
  refine z_entry E (by decide) ?_
  intro p e s m args below meth c C hr htab I
  have hx := C.1.1
  have hb := C.1.2.1
  obtain ⟨ls, he, hl⟩ := z_enter (m := m) (n := 2) (vs := [.int p0, .int p1]) (l := [(0, .int p0), (1, .int p1)]) (Nat.le_of_ble_eq_true rfl) rfl
  rw [he]
  clear he
  unfold w_X5_sizeOf at hw
  refine lv_iload_n hx hb dX5_sizeOf_0 rfl (lv_at hl 0 rfl) ?_
  refine lv_iconst (v := 2) hx hb dX5_sizeOf_1 (by decide) ?_
  refine lv_icmp_ne (tgt := 7) hx hb dX5_sizeOf_2 (by decide) (fun c => ?_) (fun c => ?_)
  · replace hw := hw.1 c
    refine lv_iload_n hx hb dX5_sizeOf_7 rfl (lv_at hl 0 rfl) ?_
    refine lv_iconst (v := 3) hx hb dX5_sizeOf_8 (by decide) ?_
    refine lv_icmp_ne (tgt := 16) hx hb dX5_sizeOf_9 (by decide) (fun c => ?_) (fun c => ?_)
    · replace hw := hw.1 c
      refine lv_iconst (v := 0) hx hb dX5_sizeOf_16 (by decide) ?_
      exact z_iret C I hr ⟨_, rfl, hw⟩ (Nat.le_of_ble_eq_true rfl) (Nat.le_of_ble_eq_true rfl) dX5_sizeOf_17
    · replace hw := hw.2 c
      refine lv_iload_n hx hb dX5_sizeOf_12 rfl (lv_at hl 1 rfl) ?_
      refine lv_goto (tgt := 17) hx hb dX5_sizeOf_13 (by decide) ?_
      exact z_iret C I hr ⟨_, rfl, hw⟩ (Nat.le_of_ble_eq_true rfl) (Nat.le_of_ble_eq_true rfl) dX5_sizeOf_17
  · replace hw := hw.2 c
    refine lv_iconst (v := 2) hx hb dX5_sizeOf_5 (by decide) ?_
    exact z_iret C I hr ⟨_, rfl, hw⟩ (Nat.le_of_ble_eq_true rfl) (Nat.le_of_ble_eq_true rfl) dX5_sizeOf_6
set_option maxHeartbeats 4000000 in
set_option maxRecDepth 100000 in
theorem m_X0_init {X : zX} {l : Launch} (E : zEnv X l) {M : zM} {o : Nat} {p0 : Int32} {p1 : Int32} {p2 : Int32} {p3 : Int32} {p4 : Int32} {p5 : Option Nat} {P : zM → Prop} {PX : Nat → zM → Prop} (hw : w_X0_init o p0 p1 p2 p3 p4 p5 M P) : zCT X l yX0_init cX0_init 7 none 1 20 0 0 M [.ref o, .int p0, .int p1, .int p2, .int p3, .int p4, va_rf p5] (zPv P) PX := by
  refine z_entry E (by decide) ?_
  intro p e s m args below meth c C hr htab I
  have hx := C.1.1
  have hb := C.1.2.1
  obtain ⟨ls, he, hl⟩ := z_enter (m := m) (n := 7) (vs := [.ref o, .int p0, .int p1, .int p2, .int p3, .int p4, va_rf p5]) (l := [(0, .ref o), (1, .int p0), (2, .int p1), (3, .int p2), (4, .int p3), (5, .int p4), (6, va_rf p5)]) (by simp [lg_sl, z_catR, z_catI, z_catF, z_catN]) (by simp [lv_args, z_catR, z_catI, z_catF, z_catN])
  rw [he]
  clear he
  unfold w_X0_init at hw
  refine lv_aload_n hx hb dX0_init_0 rfl (lv_at hl 0 rfl) ?_
  refine z_objInit C zw381 zw41 zw42 hl.1 (Nat.le_of_ble_eq_true rfl) ⟨Nat.le_of_ble_eq_true rfl, Nat.le_of_ble_eq_true rfl⟩ dX0_init_1 ?_
  refine lv_aload_n hx hb dX0_init_4 rfl (lv_at hl 0 rfl) ?_
  refine lv_iload_n hx hb dX0_init_5 rfl (lv_at hl 1 rfl) ?_
  refine z_putF C I fl_X0_9 rfl rfl rfl (v := .int p0) rfl rfl hw dX0_init_6 (fun M1 _ _ I hw => ?_)
  refine lv_aload_n hx hb dX0_init_9 rfl (lv_at hl 0 rfl) ?_
  refine lv_iload_n hx hb dX0_init_10 rfl (lv_at hl 2 rfl) ?_
  refine z_putF C I fl_X0_15 rfl rfl rfl (v := .int p1) rfl rfl hw dX0_init_11 (fun M2 _ _ I hw => ?_)
  refine lv_aload_n hx hb dX0_init_14 rfl (lv_at hl 0 rfl) ?_
  refine lv_iload_n hx hb dX0_init_15 rfl (lv_at hl 3 rfl) ?_
  refine z_putF C I fl_X0_18 rfl rfl rfl (v := .int p2) rfl rfl hw dX0_init_16 (fun M3 _ _ I hw => ?_)
  refine lv_aload_n hx hb dX0_init_19 rfl (lv_at hl 0 rfl) ?_
  refine lv_iload hx hb dX0_init_20 (lv_at hl 4 rfl) ?_
  refine z_putF C I fl_X0_21 rfl rfl rfl (v := .int p3) rfl rfl hw dX0_init_22 (fun M4 _ _ I hw => ?_)
  refine lv_aload_n hx hb dX0_init_25 rfl (lv_at hl 0 rfl) ?_
  refine lv_iload hx hb dX0_init_26 (lv_at hl 5 rfl) ?_
  refine z_putF C I fl_X0_24 rfl rfl rfl (v := .int p4) rfl rfl hw dX0_init_28 (fun M5 _ _ I hw => ?_)
  refine lv_aload_n hx hb dX0_init_31 rfl (lv_at hl 0 rfl) ?_
  refine z_aload C (r := p5) dX0_init_32 (lv_at hl 6 rfl) ?_
  refine z_putF C I fl_X0_27 rfl rfl rfl (v := va_rf p5) (z_no _) (z_fo _) hw dX0_init_34 (fun M6 _ _ I hw => ?_)
  exact z_vret C I hr ⟨rfl, hw⟩ (Nat.le_of_ble_eq_true rfl) (Nat.le_of_ble_eq_true rfl) dX0_init_37
