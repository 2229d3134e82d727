set_option maxHeartbeats 4000000 in
set_option maxRecDepth 100000 in
theorem m_X1_add {X : zX} {l : Launch} (E : zEnv X l) {M : zM} {o : Nat} {p0 : Int32} {P : zM → Prop} {PX : Nat → zM → Prop} (hw : w_X1_add o p0 M P) : zCT X l yX1_add cX1_add 2 none 0 0 0 0 M [.ref o, .int p0] (zPv P) PX := by
  refine z_entry E (by decide) ?_
  intro p e s m args below meth c C hr htab I
  have hx := C.1.1
  have hb := C.1.2.1
  obtain ⟨ls, he, hl⟩ := z_enter (m := m) (n := 2) (vs := [.ref o, .int p0]) (l := [(0, .ref o), (1, .int p0)]) (Nat.le_of_ble_eq_true rfl) rfl
  rw [he]
  clear he
  unfold w_X1_add at hw
  refine lv_aload_n hx hb dX1_add_0 rfl (lv_at hl 0 rfl) ?_
  refine z_geti C I fl_X1_15 hw dX1_add_1 (fun v1 hw => ?_)
  refine lv_if_lt (tgt := 39) hx hb dX1_add_4 (by decide) (fun c => ?_) (fun c => ?_)
  · replace hw := hw.1 c
    exact z_vret C I hr ⟨rfl, hw⟩ (Nat.le_of_ble_eq_true rfl) (Nat.le_of_ble_eq_true rfl) dX1_add_39
  · replace hw := hw.2 c
    refine lv_aload_n hx hb dX1_add_7 rfl (lv_at hl 0 rfl) ?_
    refine z_geti C I fl_X1_15 hw dX1_add_8 (fun v2 hw => ?_)
    refine lv_aload_n hx hb dX1_add_11 rfl (lv_at hl 0 rfl) ?_
    refine z_getr C I fl_X1_9 hw dX1_add_12 (fun v3 hw => ?_)
    refine z_alen C I hw dX1_add_15 (fun v4 hw => ?_)
    refine lv_icmp_ge (tgt := 39) hx hb dX1_add_16 (by decide) (fun c => ?_) (fun c => ?_)
    · replace hw := hw.1 c
      exact z_vret C I hr ⟨rfl, hw⟩ (Nat.le_of_ble_eq_true rfl) (Nat.le_of_ble_eq_true rfl) dX1_add_39
    · replace hw := hw.2 c
      refine lv_aload_n hx hb dX1_add_19 rfl (lv_at hl 0 rfl) ?_
      refine z_getr C I fl_X1_9 hw dX1_add_20 (fun v5 hw => ?_)
      refine lv_aload_n hx hb dX1_add_23 rfl (lv_at hl 0 rfl) ?_
      refine z_geti C I fl_X1_15 hw dX1_add_24 (fun v6 hw => ?_)
      refine lv_iload_n hx hb dX1_add_27 rfl (lv_at hl 1 rfl) ?_
      refine z_iast C I hw dX1_add_28 (fun M7 _ _ I hw => ?_)
      refine lv_aload_n hx hb dX1_add_29 rfl (lv_at hl 0 rfl) ?_
      refine lv_dup hx hb dX1_add_30 rfl ?_
      refine z_geti C I fl_X1_15 hw dX1_add_31 (fun v8 hw => ?_)
      refine lv_iconst (v := 1) hx hb dX1_add_34 (by decide) ?_
      refine lv_iadd hx hb dX1_add_35 ?_
      refine z_put C I fl_X1_15 rfl (v := .int (v8 + (1 : Int32))) rfl rfl hw dX1_add_36 (fun M9 _ _ I hw => ?_)
      exact z_vret C I hr ⟨rfl, hw⟩ (Nat.le_of_ble_eq_true rfl) (Nat.le_of_ble_eq_true rfl) dX1_add_39
set_option maxHeartbeats 4000000 in
set_option maxRecDepth 100000 in
theorem m_X1_at {X : zX} {l : Launch} (E : zEnv X l) {M : zM} {o : Nat} {p0 : Int32} {P : Int32 → zM → Prop} {PX : Nat → zM → Prop} (hw : w_X1_at o p0 M P) : zCT X l yX1_at cX1_at 2 (some .int) 0 0 0 0 M [.ref o, .int p0] (zPi P) PX := by
  refine z_entry E (by decide) ?_
  intro p e s m args below meth c C hr htab I
  have hx := C.1.1
  have hb := C.1.2.1
  obtain ⟨ls, he, hl⟩ := z_enter (m := m) (n := 2) (vs := [.ref o, .int p0]) (l := [(0, .ref o), (1, .int p0)]) (Nat.le_of_ble_eq_true rfl) rfl
  rw [he]
  clear he
  unfold w_X1_at at hw
  have hb_21 : ∀ (M : zM) (H : Heap) (locs : List Loc) (ls : Array Slot), zWk X s M H locs → lv_has ls 2 [] → w_X1_at_21 o p0 P M → W p l e (zRm 0 0 0 0) s m args below meth c H locs 0 0 (vx_MQ below (zQc X (zPi P)) (zXc X PX) args s 0 0 (zBase X)) (F0 m 21 ls []) := by
    intro M H locs ls I hl hw
    unfold w_X1_at_21 at hw
    refine lv_iconst (v := 0) hx hb dX1_at_21 (by decide) ?_
    refine lv_goto (tgt := 31) hx hb dX1_at_22 (by decide) ?_
    exact z_iret C I hr ⟨_, rfl, hw⟩ (Nat.le_of_ble_eq_true rfl) (Nat.le_of_ble_eq_true rfl) dX1_at_31
  refine lv_iload_n hx hb dX1_at_0 rfl (lv_at hl 1 rfl) ?_
  refine lv_if_lt (tgt := 21) hx hb dX1_at_1 (by decide) (fun c => ?_) (fun c => ?_)
  · replace hw := hw.1 c
    refine W.widen (k := 0) (n := 0) (Nat.le_of_ble_eq_true rfl) (Nat.le_of_ble_eq_true rfl) ?_
    exact hb_21 _ _ _ ls I (lv_sub hl [] rfl) hw
  · replace hw := hw.2 c
    refine lv_iload_n hx hb dX1_at_4 rfl (lv_at hl 1 rfl) ?_
    refine lv_aload_n hx hb dX1_at_5 rfl (lv_at hl 0 rfl) ?_
    refine z_geti C I fl_X1_15 hw dX1_at_6 (fun v1 hw => ?_)
    refine lv_icmp_ge (tgt := 21) hx hb dX1_at_9 (by decide) (fun c => ?_) (fun c => ?_)
    · replace hw := hw.1 c
      refine W.widen (k := 0) (n := 0) (Nat.le_of_ble_eq_true rfl) (Nat.le_of_ble_eq_true rfl) ?_
      exact hb_21 _ _ _ ls I (lv_sub hl [] rfl) hw
    · replace hw := hw.2 c
      refine lv_iload_n hx hb dX1_at_12 rfl (lv_at hl 1 rfl) ?_
      refine lv_aload_n hx hb dX1_at_13 rfl (lv_at hl 0 rfl) ?_
      refine z_getr C I fl_X1_9 hw dX1_at_14 (fun v2 hw => ?_)
      refine z_alen C I hw dX1_at_17 (fun v3 hw => ?_)
      refine lv_icmp_lt (tgt := 25) hx hb dX1_at_18 (by decide) (fun c => ?_) (fun c => ?_)
      · replace hw := hw.1 c
        refine lv_aload_n hx hb dX1_at_25 rfl (lv_at hl 0 rfl) ?_
        refine z_getr C I fl_X1_9 hw dX1_at_26 (fun v4 hw => ?_)
        refine lv_iload_n hx hb dX1_at_29 rfl (lv_at hl 1 rfl) ?_
        refine z_iald C I hw dX1_at_30 (fun v5 hw => ?_)
        exact z_iret C I hr ⟨_, rfl, hw⟩ (Nat.le_of_ble_eq_true rfl) (Nat.le_of_ble_eq_true rfl) dX1_at_31
      · replace hw := hw.2 c
        refine W.widen (k := 0) (n := 0) (Nat.le_of_ble_eq_true rfl) (Nat.le_of_ble_eq_true rfl) ?_
        exact hb_21 _ _ _ ls I (lv_sub hl [] rfl) hw
set_option maxHeartbeats 4000000 in
set_option maxRecDepth 100000 in
theorem m_X1_addAll {X : zX} {l : Launch} (E : zEnv X l) {M : zM} {o : Nat} {p0 : Nat} {P : zM → Prop} {PX : Nat → zM → Prop} (hw : w_X1_addAll o p0 M P) : zCT X l yX1_addAll cX1_addAll 3 none 1 21 0 0 M [.ref o, .ref p0] (zPv P) PX := by
  refine z_entry E (by decide) ?_
  intro p e s m args below meth c C hr htab I
  have hx := C.1.1
  have hb := C.1.2.1
  obtain ⟨ls, he, hl⟩ := z_enter (m := m) (n := 3) (vs := [.ref o, .ref p0]) (l := [(0, .ref o), (1, .ref p0)]) (Nat.le_of_ble_eq_true rfl) rfl
  rw [he]
  clear he
  unfold w_X1_addAll at hw
  have hb_2 : ∀ (n : Nat) (x2 : Int32) (M : zM) (H : Heap) (locs : List Loc) (ls : Array Slot), zWk X s M H locs → lv_has ls 3 [(0, .ref o), (1, .ref p0), (2, .int x2)] → w_X1_addAll_2 o p0 P n x2 M → W p l e (zRm 1 21 0 0) s m args below meth c H locs 0 0 (vx_MQ below (zQc X (zPv P)) (zXc X PX) args s 0 0 (zBase X)) (F0 m 2 ls []) := by
    intro n
    induction n with
    | zero => intro _ M H locs ls I hl hw; exact hw.elim
    | succ n ih =>
      intro x2 M H locs ls I hl hw
      unfold w_X1_addAll_2 at hw
      refine lv_iload_n hx hb dX1_addAll_2 rfl (lv_at hl 2 rfl) ?_
      refine lv_aload_n hx hb dX1_addAll_3 rfl (lv_at hl 1 rfl) ?_
      obtain ⟨hrc, hw⟩ := hw
      refine z_callV C I (as := []) (rest := [.int x2]) (m_X1_count E hw) kv_X1_19 vc_2 hrc rfl rfl hl.1 (Nat.le_of_ble_eq_true rfl) ⟨Nat.le_of_ble_eq_true rfl, Nat.le_of_ble_eq_true rfl⟩ ⟨Nat.le_of_ble_eq_true rfl, Nat.le_of_ble_eq_true rfl⟩ dX1_addAll_4 (z_prop C htab (Nat.le_of_ble_eq_true rfl) (Nat.le_of_ble_eq_true rfl)) (fun v M1 _ _ I hv => ?_)
      obtain ⟨v2, rfl, hw⟩ := hv
      refine W.eq (g2 := F0 m 7 ls [.int v2, .int x2]) rfl ?_
      refine lv_icmp_ge (tgt := 25) hx hb dX1_addAll_7 (by decide) (fun c => ?_) (fun c => ?_)
      · replace hw := hw.1 c
        exact z_vret C I hr ⟨rfl, hw⟩ (Nat.le_of_ble_eq_true rfl) (Nat.le_of_ble_eq_true rfl) dX1_addAll_25
      · replace hw := hw.2 c
        refine lv_aload_n hx hb dX1_addAll_10 rfl (lv_at hl 0 rfl) ?_
        refine lv_aload_n hx hb dX1_addAll_11 rfl (lv_at hl 1 rfl) ?_
        refine lv_iload_n hx hb dX1_addAll_12 rfl (lv_at hl 2 rfl) ?_
        obtain ⟨hrc, hw⟩ := hw
        refine z_callV C I (as := [.int x2]) (rest := [.ref o]) (m_X1_at E hw) kv_X1_23 vc_2 hrc rfl rfl hl.1 (Nat.le_of_ble_eq_true rfl) ⟨Nat.le_of_ble_eq_true rfl, Nat.le_of_ble_eq_true rfl⟩ ⟨Nat.le_of_ble_eq_true rfl, Nat.le_of_ble_eq_true rfl⟩ dX1_addAll_13 (z_prop C htab (Nat.le_of_ble_eq_true rfl) (Nat.le_of_ble_eq_true rfl)) (fun v M3 _ _ I hv => ?_)
        obtain ⟨v4, rfl, hw⟩ := hv
        refine W.eq (g2 := F0 m 16 ls [.int v4, .ref o]) rfl ?_
        obtain ⟨hrc, hw⟩ := hw
        refine z_callV C I (as := [.int v4]) (rest := []) (m_X1_add E hw) kv_X1_27 vc_2 hrc rfl rfl hl.1 (Nat.le_of_ble_eq_true rfl) ⟨Nat.le_of_ble_eq_true rfl, Nat.le_of_ble_eq_true rfl⟩ ⟨Nat.le_of_ble_eq_true rfl, Nat.le_of_ble_eq_true rfl⟩ dX1_addAll_16 (z_prop C htab (Nat.le_of_ble_eq_true rfl) (Nat.le_of_ble_eq_true rfl)) (fun v M5 _ _ I hv => ?_)
        obtain ⟨rfl, hw⟩ := hv
        refine W.eq (g2 := F0 m 19 ls []) rfl ?_
        refine lv_iinc (v := (x2 + 1)) (lv' := [(2, .int (x2 + 1)), (0, .ref o), (1, .ref p0)]) hx hb dX1_addAll_19 hl (k := 2) rfl (by rfl) (by decide) rfl (fun ls hl6 => ?_)
        refine lv_goto (tgt := 2) hx hb dX1_addAll_22 (by decide) ?_
        refine W.widen (k := 0) (n := 0) (Nat.le_of_ble_eq_true rfl) (Nat.le_of_ble_eq_true rfl) ?_
        exact ih (x2 + 1) _ _ _ ls I (lv_sub hl6 [1, 2, 0] rfl) hw
  refine lv_iconst (v := 0) hx hb dX1_addAll_0 (by decide) ?_
  refine lv_istore_n (lv' := [(2, .int (0 : Int32)), (0, .ref o), (1, .ref p0)]) hx hb dX1_addAll_1 rfl hl (by decide) rfl (fun ls hl7 => ?_)
  obtain ⟨nn, hw⟩ := hw
  refine W.widen (k := 0) (n := 0) (Nat.le_of_ble_eq_true rfl) (Nat.le_of_ble_eq_true rfl) ?_
  exact hb_2 nn (0 : Int32) _ _ _ ls I (lv_sub hl7 [1, 2, 0] rfl) hw
set_option maxHeartbeats 4000000 in
set_option maxRecDepth 100000 in
theorem m_X2_append {X : zX} {l : Launch} (E : zEnv X l) {M : zM} {o : Nat} {p0 : Nat} {P : zM → Prop} {PX : Nat → zM → Prop} (hw : w_X2_append o p0 M P) : zCT X l yX2_append cX2_append 2 none 9 308 1 100 M [.ref o, .ref p0] (zPv P) PX := by
  refine z_entry E (by decide) ?_
  intro p e s m args below meth c C hr htab I
  have hx := C.1.1
  have hb := C.1.2.1
  obtain ⟨ls, he, hl⟩ := z_enter (m := m) (n := 2) (vs := [.ref o, .ref p0]) (l := [(0, .ref o), (1, .ref p0)]) (Nat.le_of_ble_eq_true rfl) rfl
  rw [he]
  clear he
  unfold w_X2_append at hw
  refine lv_aload_n hx hb dX2_append_0 rfl (lv_at hl 1 rfl) ?_
  refine lv_aload_n hx hb dX2_append_1 rfl (lv_at hl 0 rfl) ?_
  refine z_getr C I fl_X2_21 hw dX2_append_2 (fun v1 hw => ?_)
  obtain ⟨hrc, hw⟩ := hw
  refine z_callV C I (as := []) (rest := [.ref p0]) (m_X1_count E hw) kv_X2_29 vc_2 hrc rfl rfl hl.1 (Nat.le_of_ble_eq_true rfl) ⟨Nat.le_of_ble_eq_true rfl, Nat.le_of_ble_eq_true rfl⟩ ⟨Nat.le_of_ble_eq_true rfl, Nat.le_of_ble_eq_true rfl⟩ dX2_append_5 (z_prop C htab (Nat.le_of_ble_eq_true rfl) (Nat.le_of_ble_eq_true rfl)) (fun v M2 _ _ I hv => ?_)
  obtain ⟨v3, rfl, hw⟩ := hv
  refine W.eq (g2 := F0 m 8 ls [.int v3, .ref p0]) rfl ?_
  refine z_put C I fl_X2_33 rfl (v := .int v3) rfl rfl hw dX2_append_8 (fun M4 _ _ I hw => ?_)
  refine lv_aload_n hx hb dX2_append_11 rfl (lv_at hl 0 rfl) ?_
  refine z_getr C I fl_X2_12 hw dX2_append_12 (fun v5 hw => ?_)
  refine lv_aload_n hx hb dX2_append_15 rfl (lv_at hl 1 rfl) ?_
  obtain ⟨hrc, hw⟩ := hw
  refine z_callV C I (as := [.ref p0]) (rest := []) (m_Jx4a65c_add_9ea2d E hw) kv_X2_38 vc_0 hrc rfl rfl hl.1 (Nat.le_of_ble_eq_true rfl) ⟨Nat.le_of_ble_eq_true rfl, Nat.le_of_ble_eq_true rfl⟩ ⟨Nat.le_of_ble_eq_true rfl, Nat.le_of_ble_eq_true rfl⟩ dX2_append_16 (z_prop C htab (Nat.le_of_ble_eq_true rfl) (Nat.le_of_ble_eq_true rfl)) (fun v M6 _ _ I hv => ?_)
  obtain ⟨v7, rfl, hv7, hw⟩ := hv
  refine W.eq (g2 := F0 m 19 ls [.int v7]) rfl ?_
  refine lv_pop hx hb dX2_append_19 rfl ?_
  refine lv_aload_n hx hb dX2_append_20 rfl (lv_at hl 1 rfl) ?_
  refine z_geto C I fl_X2_42 hw dX2_append_21 (fun v8 hw => ?_)
  refine z_ifnonnull C (r := v8) (tgt := 41) dX2_append_24 (by decide) (fun a9 c => ?_) (fun c => ?_)
  · have hq := hw.2 a9 c
    subst c
    have hw := hq
    clear hq
    refine W.eq (g2 := F0 m 41 ls []) rfl ?_
    have hl11 : lv_has ls 2 [(0, .ref o), (1, .ref p0)] := hl
    refine lv_aload_n hx hb dX2_append_41 rfl (lv_at hl11 0 rfl) ?_
    refine z_getr C I fl_X2_21 hw dX2_append_42 (fun v15 hw => ?_)
    refine lv_aload_n hx hb dX2_append_45 rfl (lv_at hl11 1 rfl) ?_
    refine z_geto C I fl_X2_42 hw dX2_append_46 (fun v16 hw => ?_)
    obtain ⟨a17, hq1, hq2⟩ := hw
    subst hq1
    have hw := hq2
    clear hq2
    refine W.eq (g2 := F0 m 49 ls [.ref a17, .ref v15]) rfl ?_
    have hl18 : lv_has ls 2 [(0, .ref o), (1, .ref p0)] := hl11
    refine z_getr C I fl_X2_21 hw dX2_append_49 (fun v19 hw => ?_)
    obtain ⟨hrc, hw⟩ := hw
    refine z_callV C I (as := [.ref v19]) (rest := []) (m_X1_addAll E hw) kv_X2_52 vc_2 hrc rfl rfl hl18.1 (Nat.le_of_ble_eq_true rfl) ⟨Nat.le_of_ble_eq_true rfl, Nat.le_of_ble_eq_true rfl⟩ ⟨Nat.le_of_ble_eq_true rfl, Nat.le_of_ble_eq_true rfl⟩ dX2_append_52 (z_prop C htab (Nat.le_of_ble_eq_true rfl) (Nat.le_of_ble_eq_true rfl)) (fun v M20 _ _ I hv => ?_)
    obtain ⟨rfl, hw⟩ := hv
    refine W.eq (g2 := F0 m 55 ls []) rfl ?_
    exact z_vret C I hr ⟨rfl, hw⟩ (Nat.le_of_ble_eq_true rfl) (Nat.le_of_ble_eq_true rfl) dX2_append_55
  · have hq := hw.1 c
    subst c
    have hw := hq
    clear hq
    refine W.eq (g2 := F0 m 27 ls []) rfl ?_
    have hl10 : lv_has ls 2 [(0, .ref o), (1, .ref p0)] := hl
    refine lv_aload_n hx hb dX2_append_27 rfl (lv_at hl10 0 rfl) ?_
    refine z_getr C I fl_X2_21 hw dX2_append_28 (fun v12 hw => ?_)
    refine lv_aload_n hx hb dX2_append_31 rfl (lv_at hl10 1 rfl) ?_
    refine z_geti C I fl_X2_46 hw dX2_append_32 (fun v13 hw => ?_)
    obtain ⟨hrc, hw⟩ := hw
    refine z_callV C I (as := [.int v13]) (rest := []) (m_X1_add E hw) kv_X2_49 vc_2 hrc rfl rfl hl10.1 (Nat.le_of_ble_eq_true rfl) ⟨Nat.le_of_ble_eq_true rfl, Nat.le_of_ble_eq_true rfl⟩ ⟨Nat.le_of_ble_eq_true rfl, Nat.le_of_ble_eq_true rfl⟩ dX2_append_35 (z_prop C htab (Nat.le_of_ble_eq_true rfl) (Nat.le_of_ble_eq_true rfl)) (fun v M14 _ _ I hv => ?_)
    obtain ⟨rfl, hw⟩ := hv
    refine W.eq (g2 := F0 m 38 ls []) rfl ?_
    refine lv_goto (tgt := 55) hx hb dX2_append_38 (by decide) ?_
    exact z_vret C I hr ⟨rfl, hw⟩ (Nat.le_of_ble_eq_true rfl) (Nat.le_of_ble_eq_true rfl) dX2_append_55
set_option maxHeartbeats 4000000 in
set_option maxRecDepth 100000 in
theorem m_X5_field {X : zX} {l : Launch} (E : zEnv X l) {M : zM} {o : Nat} {p0 : Int32} {p1 : Int32} {p2 : Int32} {p3 : Int32} {P : Int32 → zM → Prop} {PX : Nat → zM → Prop} (hw : w_X5_field o p0 p1 p2 p3 M P PX) : zCT X l yX5_field cX5_field 8 (some .int) 10 329 2 109 M [.ref o, .int p0, .int p1, .int p2, .int p3] (zPi P) PX := by
  refine z_entry E (by decide) ?_
  intro p e s m args below meth c C hr htab I
  have hx := C.1.1
  have hb := C.1.2.1
  obtain ⟨ls, he, hl⟩ := z_enter (m := m) (n := 8) (vs := [.ref o, .int p0, .int p1, .int p2, .int p3]) (l := [(0, .ref o), (1, .int p0), (2, .int p1), (3, .int p2), (4, .int p3)]) (Nat.le_of_ble_eq_true rfl) rfl
  rw [he]
  clear he
  unfold w_X5_field at hw
  have hb_34 : ∀ (M : zM) (H : Heap) (locs : List Loc) (ls : Array Slot), zWk X s M H locs → lv_has ls 8 [] → w_X5_field_34 o p0 p1 p2 p3 P PX M → W p l e (zRm 10 329 2 109) s m args below meth c H locs 0 0 (vx_MQ below (zQc X (zPi P)) (zXc X PX) args s 2 109 (zBase X)) (F0 m 34 ls []) := by
    intro M H locs ls I hl hw
    unfold w_X5_field_34 at hw
    exact z_throw C htab I 1 kt_X5_53_55 hw hl.1 dX5_field_34 dX5_field_37 dX5_field_38 dX5_field_40 dX5_field_43 ⟨Nat.le_of_ble_eq_true rfl, Nat.le_of_ble_eq_true rfl, Nat.le_of_ble_eq_true rfl, Nat.le_of_ble_eq_true rfl⟩ (Nat.le_of_ble_eq_true rfl) (Nat.le_of_ble_eq_true rfl)
  have hb_164 : ∀ (M : zM) (H : Heap) (locs : List Loc) (ls : Array Slot), zWk X s M H locs → lv_has ls 8 [] → w_X5_field_164 o p0 p1 p2 p3 P PX M → W p l e (zRm 10 329 2 109) s m args below meth c H locs 0 0 (vx_MQ below (zQc X (zPi P)) (zXc X PX) args s 2 109 (zBase X)) (F0 m 164 ls []) := by
    intro M H locs ls I hl hw
    unfold w_X5_field_164 at hw
    exact z_throw C htab I 3 kt_X5_91_93 hw hl.1 dX5_field_164 dX5_field_167 dX5_field_168 dX5_field_170 dX5_field_173 ⟨Nat.le_of_ble_eq_true rfl, Nat.le_of_ble_eq_true rfl, Nat.le_of_ble_eq_true rfl, Nat.le_of_ble_eq_true rfl⟩ (Nat.le_of_ble_eq_true rfl) (Nat.le_of_ble_eq_true rfl)
  have hb_184 : ∀ (x5 : Option Nat) (y0 : Int32) (M : zM) (H : Heap) (locs : List Loc) (ls : Array Slot), zWk X s M H locs → lv_has ls 8 [(0, .ref o), (1, .int p0), (2, .int p1), (3, .int p2), (4, .int p3), (5, va_rf x5)] → w_X5_field_184 o p0 p1 p2 p3 P PX x5 y0 M → W p l e (zRm 10 329 2 109) s m args below meth c H locs 0 0 (vx_MQ below (zQc X (zPi P)) (zXc X PX) args s 2 109 (zBase X)) (F0 m 184 ls [.int y0]) := by
    intro x5 y0 M H locs ls I hl hw
    unfold w_X5_field_184 at hw
    refine lv_istore (lv' := [(7, .int y0), (0, .ref o), (1, .int p0), (2, .int p1), (3, .int p2), (4, .int p3), (5, va_rf x5)]) hx hb dX5_field_184 hl (by decide) rfl (fun ls hl1 => ?_)
    refine lv_aload_n hx hb dX5_field_186 rfl (lv_at hl1 1 rfl) ?_
    refine z_getr C I fl_X5_29 hw dX5_field_187 (fun v2 hw => ?_)
    refine z_new C I kn_X5_96 (fs := [.int 0, .int 0, .int 0, .int 0, .int 0, .null, .int 0, .int 0, .int 0]) zd_1 hw (Nat.le_of_ble_eq_true rfl) (Nat.le_of_ble_eq_true rfl) dX5_field_190 (fun q3 M4 _ I hw => ?_)
    refine lv_dup hx hb dX5_field_193 rfl ?_
    refine lv_iload_n hx hb dX5_field_194 rfl (lv_at hl1 2 rfl) ?_
    refine lv_iload_n hx hb dX5_field_195 rfl (lv_at hl1 3 rfl) ?_
    refine lv_iload_n hx hb dX5_field_196 rfl (lv_at hl1 3 rfl) ?_
    refine lv_iload_n hx hb dX5_field_197 rfl (lv_at hl1 4 rfl) ?_
    refine z_callS C I (as := [.int p1, .int p2]) (rest := [.int p1, .int p0, .ref q3, .ref q3, .ref v2]) (m_X5_sizeOf E hw) ks_X5_98 rfl rfl hl1.1 (Nat.le_of_ble_eq_true rfl) ⟨Nat.le_of_ble_eq_true rfl, Nat.le_of_ble_eq_true rfl⟩ ⟨Nat.le_of_ble_eq_true rfl, Nat.le_of_ble_eq_true rfl⟩ dX5_field_198 (z_prop C htab (Nat.le_of_ble_eq_true rfl) (Nat.le_of_ble_eq_true rfl)) (fun v M5 _ _ I hv => ?_)
    obtain ⟨v6, rfl, hw⟩ := hv
    refine W.eq (g2 := F0 m 201 ls [.int v6, .int p1, .int p0, .ref q3, .ref q3, .ref v2]) rfl ?_
    refine lv_iload hx hb dX5_field_201 (lv_at hl1 5 rfl) ?_
    refine lv_iload hx hb dX5_field_203 (lv_at hl1 0 rfl) ?_
    refine z_aload C (r := x5) dX5_field_205 (lv_at hl1 6 rfl) ?_
    refine z_callI C I (as := [.int p0, .int p1, .int v6, .int p3, .int y0, va_rf x5]) (rest := [.ref q3, .ref v2]) (m_X0_init E hw) ki_X5_102 rfl rfl hl1.1 (Nat.le_of_ble_eq_true rfl) ⟨Nat.le_of_ble_eq_true rfl, Nat.le_of_ble_eq_true rfl⟩ ⟨Nat.le_of_ble_eq_true rfl, Nat.le_of_ble_eq_true rfl⟩ dX5_field_207 (fun M7 _ _ I hw => ?_)
    refine W.eq (g2 := F0 m 210 ls [.ref q3, .ref v2]) rfl ?_
    obtain ⟨hrc, hw⟩ := hw
    refine z_callV C I (as := [.ref q3]) (rest := []) (m_X2_append E hw) kv_X5_105 vc_3 hrc rfl rfl hl1.1 (Nat.le_of_ble_eq_true rfl) ⟨Nat.le_of_ble_eq_true rfl, Nat.le_of_ble_eq_true rfl⟩ ⟨Nat.le_of_ble_eq_true rfl, Nat.le_of_ble_eq_true rfl⟩ dX5_field_210 (z_prop C htab (Nat.le_of_ble_eq_true rfl) (Nat.le_of_ble_eq_true rfl)) (fun v M8 _ _ I hv => ?_)
    obtain ⟨rfl, hw⟩ := hv
    refine W.eq (g2 := F0 m 213 ls []) rfl ?_
    refine lv_aload_n hx hb dX5_field_213 rfl (lv_at hl1 1 rfl) ?_
    refine z_getr C I fl_X5_29 hw dX5_field_214 (fun v9 hw => ?_)
    refine z_getr C I fl_X5_81 hw dX5_field_217 (fun v10 hw => ?_)
    obtain ⟨hrc, hw⟩ := hw
    refine z_callV C I (as := []) (rest := []) (m_Jx4a65c_size_8abf5 E hw) kv_X5_84 vc_0 hrc rfl rfl hl1.1 (Nat.le_of_ble_eq_true rfl) ⟨Nat.le_of_ble_eq_true rfl, Nat.le_of_ble_eq_true rfl⟩ ⟨Nat.le_of_ble_eq_true rfl, Nat.le_of_ble_eq_true rfl⟩ dX5_field_220 (z_prop C htab (Nat.le_of_ble_eq_true rfl) (Nat.le_of_ble_eq_true rfl)) (fun v M11 _ _ I hv => ?_)
    obtain ⟨v12, rfl, hw⟩ := hv
    refine W.eq (g2 := F0 m 223 ls [.int v12]) rfl ?_
    exact z_iret C I hr ⟨_, rfl, hw⟩ (Nat.le_of_ble_eq_true rfl) (Nat.le_of_ble_eq_true rfl) dX5_field_223
  have hb_119 : ∀ (x5 : Option Nat) (y0 : Int32) (M : zM) (H : Heap) (locs : List Loc) (ls : Array Slot), zWk X s M H locs → lv_has ls 8 [(0, .ref o), (1, .int p0), (2, .int p1), (3, .int p2), (4, .int p3), (5, va_rf x5)] → w_X5_field_119 o p0 p1 p2 p3 P PX x5 y0 M → W p l e (zRm 10 329 2 109) s m args below meth c H locs 0 0 (vx_MQ below (zQc X (zPi P)) (zXc X PX) args s 2 109 (zBase X)) (F0 m 119 ls [.int y0]) := by
    intro x5 y0 M H locs ls I hl hw
    unfold w_X5_field_119 at hw
    refine lv_istore (lv' := [(6, .int y0), (0, .ref o), (1, .int p0), (2, .int p1), (3, .int p2), (4, .int p3), (5, va_rf x5)]) hx hb dX5_field_119 hl (by decide) (by simp [z_catR]) (fun ls hl13 => ?_)
    refine lv_aload_n hx hb dX5_field_121 rfl (lv_at hl13 1 rfl) ?_
    refine z_getr C I fl_X5_29 hw dX5_field_122 (fun v14 hw => ?_)
    refine z_getr C I fl_X5_81 hw dX5_field_125 (fun v15 hw => ?_)
    obtain ⟨hrc, hw⟩ := hw
    refine z_callV C I (as := []) (rest := []) (m_Jx4a65c_size_8abf5 E hw) kv_X5_84 vc_0 hrc rfl rfl hl13.1 (Nat.le_of_ble_eq_true rfl) ⟨Nat.le_of_ble_eq_true rfl, Nat.le_of_ble_eq_true rfl⟩ ⟨Nat.le_of_ble_eq_true rfl, Nat.le_of_ble_eq_true rfl⟩ dX5_field_128 (z_prop C htab (Nat.le_of_ble_eq_true rfl) (Nat.le_of_ble_eq_true rfl)) (fun v M16 _ _ I hv => ?_)
    obtain ⟨v17, rfl, hw⟩ := hv
    refine W.eq (g2 := F0 m 131 ls [.int v17]) rfl ?_
    refine lv_iconst (v := 5) hx hb dX5_field_131 (by decide) ?_
    refine lv_icmp_ge (tgt := 164) hx hb dX5_field_132 (by decide) (fun c => ?_) (fun c => ?_)
    · replace hw := hw.1 c
      refine W.widen (k := 0) (n := 0) (Nat.le_of_ble_eq_true rfl) (Nat.le_of_ble_eq_true rfl) ?_
      exact hb_164 _ _ _ ls I (lv_sub hl13 [] rfl) hw
    · replace hw := hw.2 c
      refine lv_aload_n hx hb dX5_field_135 rfl (lv_at hl13 1 rfl) ?_
      refine z_getr C I fl_X5_29 hw dX5_field_136 (fun v18 hw => ?_)
      refine lv_iload_n hx hb dX5_field_139 rfl (lv_at hl13 2 rfl) ?_
      obtain ⟨hrc, hw⟩ := hw
      refine z_callV C I (as := [.int p0]) (rest := []) (m_X2_named E hw) kv_X5_87 vc_3 hrc rfl rfl hl13.1 (Nat.le_of_ble_eq_true rfl) ⟨Nat.le_of_ble_eq_true rfl, Nat.le_of_ble_eq_true rfl⟩ ⟨Nat.le_of_ble_eq_true rfl, Nat.le_of_ble_eq_true rfl⟩ dX5_field_140 (z_prop C htab (Nat.le_of_ble_eq_true rfl) (Nat.le_of_ble_eq_true rfl)) (fun v M19 _ _ I hv => ?_)
      obtain ⟨v20, rfl, hw⟩ := hv
      refine W.eq (g2 := F0 m 143 ls [va_rf v20]) rfl ?_
      refine z_ifnonnull C (r := v20) (tgt := 164) dX5_field_143 (by decide) (fun a21 c => ?_) (fun c => ?_)
      · have hq := hw.2 a21 c
        subst c
        have hw := hq
        clear hq
        refine W.eq (g2 := F0 m 164 ls []) rfl ?_
        have hl23 : lv_has ls 8 [(6, .int y0), (0, .ref o), (1, .int p0), (2, .int p1), (3, .int p2), (4, .int p3), (5, va_rf x5)] := hl13
        refine W.widen (k := 0) (n := 0) (Nat.le_of_ble_eq_true rfl) (Nat.le_of_ble_eq_true rfl) ?_
        exact hb_164 _ _ _ ls I (lv_sub hl23 [] rfl) hw
      · have hq := hw.1 c
        subst c
        have hw := hq
        clear hq
        refine W.eq (g2 := F0 m 146 ls []) rfl ?_
        have hl22 : lv_has ls 8 [(6, .int y0), (0, .ref o), (1, .int p0), (2, .int p1), (3, .int p2), (4, .int p3), (5, va_rf x5)] := hl13
        refine lv_aload_n hx hb dX5_field_146 rfl (lv_at hl22 1 rfl) ?_
        refine z_getr C I fl_X5_29 hw dX5_field_147 (fun v24 hw => ?_)
        refine z_getr C I fl_X5_74 hw dX5_field_150 (fun v25 hw => ?_)
        obtain ⟨hrc, hw⟩ := hw
        refine z_callV C I (as := []) (rest := []) (m_X1_count E hw) kv_X5_77 vc_2 hrc rfl rfl hl22.1 (Nat.le_of_ble_eq_true rfl) ⟨Nat.le_of_ble_eq_true rfl, Nat.le_of_ble_eq_true rfl⟩ ⟨Nat.le_of_ble_eq_true rfl, Nat.le_of_ble_eq_true rfl⟩ dX5_field_153 (z_prop C htab (Nat.le_of_ble_eq_true rfl) (Nat.le_of_ble_eq_true rfl)) (fun v M26 _ _ I hv => ?_)
        obtain ⟨v27, rfl, hw⟩ := hv
        refine W.eq (g2 := F0 m 156 ls [.int v27]) rfl ?_
        refine lv_iload hx hb dX5_field_156 (lv_at hl22 0 rfl) ?_
        refine lv_iadd hx hb dX5_field_158 ?_
        refine lv_bipush (v := 20) hx hb dX5_field_159 (by decide) ?_
        refine lv_icmp_le (tgt := 174) hx hb dX5_field_161 (by decide) (fun c => ?_) (fun c => ?_)
        · replace hw := hw.1 c
          refine lv_iload_n hx hb dX5_field_174 rfl (lv_at hl22 3 rfl) ?_
          refine lv_iconst (v := 4) hx hb dX5_field_175 (by decide) ?_
          refine lv_icmp_ne (tgt := 183) hx hb dX5_field_176 (by decide) (fun c => ?_) (fun c => ?_)
          · replace hw := hw.1 c
            refine lv_iconst (v := -1) hx hb dX5_field_183 (by decide) ?_
            refine W.widen (k := 0) (n := 0) (Nat.le_of_ble_eq_true rfl) (Nat.le_of_ble_eq_true rfl) ?_
            exact hb_184 x5 (-1 : Int32) _ _ _ ls I (lv_sub hl22 [1, 2, 3, 4, 5, 6] rfl) hw
          · replace hw := hw.2 c
            refine lv_iload_n hx hb dX5_field_179 rfl (lv_at hl22 4 rfl) ?_
            refine lv_goto (tgt := 184) hx hb dX5_field_180 (by decide) ?_
            refine W.widen (k := 0) (n := 0) (Nat.le_of_ble_eq_true rfl) (Nat.le_of_ble_eq_true rfl) ?_
            exact hb_184 x5 p2 _ _ _ ls I (lv_sub hl22 [1, 2, 3, 4, 5, 6] rfl) hw
        · replace hw := hw.2 c
          refine W.widen (k := 0) (n := 0) (Nat.le_of_ble_eq_true rfl) (Nat.le_of_ble_eq_true rfl) ?_
          exact hb_164 _ _ _ ls I (lv_sub hl22 [] rfl) hw
  have hb_102 : ∀ (x5 : Option Nat) (M : zM) (H : Heap) (locs : List Loc) (ls : Array Slot), zWk X s M H locs → lv_has ls 8 [(0, .ref o), (1, .int p0), (2, .int p1), (3, .int p2), (4, .int p3), (5, va_rf x5)] → w_X5_field_102 o p0 p1 p2 p3 P PX x5 M → W p l e (zRm 10 329 2 109) s m args below meth c H locs 0 0 (vx_MQ below (zQc X (zPi P)) (zXc X PX) args s 2 109 (zBase X)) (F0 m 102 ls []) := by
    intro x5 M H locs ls I hl hw
    unfold w_X5_field_102 at hw
    refine z_aload C (r := x5) dX5_field_102 (lv_at hl 5 rfl) ?_
    refine z_ifnonnull C (r := x5) (tgt := 111) dX5_field_104 (by decide) (fun a28 c => ?_) (fun c => ?_)
    · have hq := hw.2 a28 c
      subst c
      have hw := hq
      clear hq
      refine W.eq (g2 := F0 m 111 ls []) rfl ?_
      have hl30 : lv_has ls 8 [(0, .ref o), (1, .int p0), (2, .int p1), (3, .int p2), (4, .int p3), (5, .ref a28)] := hl
      refine lv_aload hx hb dX5_field_111 (lv_at hl30 5 rfl) ?_
      refine z_getr C I fl_X5_74 hw dX5_field_113 (fun v31 hw => ?_)
      obtain ⟨hrc, hw⟩ := hw
      refine z_callV C I (as := []) (rest := []) (m_X1_count E hw) kv_X5_77 vc_2 hrc rfl rfl hl30.1 (Nat.le_of_ble_eq_true rfl) ⟨Nat.le_of_ble_eq_true rfl, Nat.le_of_ble_eq_true rfl⟩ ⟨Nat.le_of_ble_eq_true rfl, Nat.le_of_ble_eq_true rfl⟩ dX5_field_116 (z_prop C htab (Nat.le_of_ble_eq_true rfl) (Nat.le_of_ble_eq_true rfl)) (fun v M32 _ _ I hv => ?_)
      obtain ⟨v33, rfl, hw⟩ := hv
      refine W.eq (g2 := F0 m 119 ls [.int v33]) rfl ?_
      refine W.widen (k := 0) (n := 0) (Nat.le_of_ble_eq_true rfl) (Nat.le_of_ble_eq_true rfl) ?_
      exact hb_119 (some a28) v33 _ _ _ ls I (lv_sub hl30 [0, 1, 2, 3, 4, 5] rfl) hw
    · have hq := hw.1 c
      subst c
      have hw := hq
      clear hq
      refine W.eq (g2 := F0 m 107 ls []) rfl ?_
      have hl29 : lv_has ls 8 [(0, .ref o), (1, .int p0), (2, .int p1), (3, .int p2), (4, .int p3), (5, va_rf none)] := hl
      refine lv_iconst (v := 1) hx hb dX5_field_107 (by decide) ?_
      refine lv_goto (tgt := 119) hx hb dX5_field_108 (by decide) ?_
      refine W.widen (k := 0) (n := 0) (Nat.le_of_ble_eq_true rfl) (Nat.le_of_ble_eq_true rfl) ?_
      exact hb_119 none (1 : Int32) _ _ _ ls I (lv_sub hl29 [0, 1, 2, 3, 4, 5] rfl) hw
  have hb_80 : ∀ (y0 : Option Nat) (M : zM) (H : Heap) (locs : List Loc) (ls : Array Slot), zWk X s M H locs → lv_has ls 8 [(0, .ref o), (1, .int p0), (2, .int p1), (3, .int p2), (4, .int p3)] → w_X5_field_80 o p0 p1 p2 p3 P PX y0 M → W p l e (zRm 10 329 2 109) s m args below meth c H locs 0 0 (vx_MQ below (zQc X (zPi P)) (zXc X PX) args s 2 109 (zBase X)) (F0 m 80 ls [va_rf y0]) := by
    intro y0 M H locs ls I hl hw
    unfold w_X5_field_80 at hw
    refine z_astore (lv' := [(5, va_rf y0), (0, .ref o), (1, .int p0), (2, .int p1), (3, .int p2), (4, .int p3)]) C (r := y0) dX5_field_80 hl (by decide) rfl (fun ls hl34 => ?_)
    refine lv_iload_n hx hb dX5_field_82 rfl (lv_at hl34 3 rfl) ?_
    refine lv_iconst (v := 4) hx hb dX5_field_83 (by decide) ?_
    refine lv_icmp_ne (tgt := 102) hx hb dX5_field_84 (by decide) (fun c => ?_) (fun c => ?_)
    · replace hw := hw.1 c
      refine W.widen (k := 0) (n := 0) (Nat.le_of_ble_eq_true rfl) (Nat.le_of_ble_eq_true rfl) ?_
      exact hb_102 y0 _ _ _ ls I (lv_sub hl34 [1, 2, 3, 4, 5, 0] rfl) hw
    · replace hw := hw.2 c
      refine z_aload C (r := y0) dX5_field_87 (lv_at hl34 0 rfl) ?_
      refine z_ifnonnull C (r := y0) (tgt := 102) dX5_field_89 (by decide) (fun a35 c => ?_) (fun c => ?_)
      · have hq := hw.2 a35 c
        subst c
        have hw := hq
        clear hq
        refine W.eq (g2 := F0 m 102 ls []) rfl ?_
        have hl37 : lv_has ls 8 [(5, .ref a35), (0, .ref o), (1, .int p0), (2, .int p1), (3, .int p2), (4, .int p3)] := hl34
        refine W.widen (k := 0) (n := 0) (Nat.le_of_ble_eq_true rfl) (Nat.le_of_ble_eq_true rfl) ?_
        exact hb_102 (some a35) _ _ _ ls I (lv_sub hl37 [1, 2, 3, 4, 5, 0] rfl) hw
      · have hq := hw.1 c
        subst c
        have hw := hq
        clear hq
        refine W.eq (g2 := F0 m 92 ls []) rfl ?_
        have hl36 : lv_has ls 8 [(5, va_rf none), (0, .ref o), (1, .int p0), (2, .int p1), (3, .int p2), (4, .int p3)] := hl34
        exact z_throw C htab I 2 kt_X5_69_71 hw hl36.1 dX5_field_92 dX5_field_95 dX5_field_96 dX5_field_98 dX5_field_101 ⟨Nat.le_of_ble_eq_true rfl, Nat.le_of_ble_eq_true rfl, Nat.le_of_ble_eq_true rfl, Nat.le_of_ble_eq_true rfl⟩ (Nat.le_of_ble_eq_true rfl) (Nat.le_of_ble_eq_true rfl)
  have hb_66 : ∀ (M : zM) (H : Heap) (locs : List Loc) (ls : Array Slot), zWk X s M H locs → lv_has ls 8 [(0, .ref o), (1, .int p0), (2, .int p1), (3, .int p2), (4, .int p3)] → w_X5_field_66 o p0 p1 p2 p3 P PX M → W p l e (zRm 10 329 2 109) s m args below meth c H locs 0 0 (vx_MQ below (zQc X (zPi P)) (zXc X PX) args s 2 109 (zBase X)) (F0 m 66 ls []) := by
    intro M H locs ls I hl hw
    unfold w_X5_field_66 at hw
    refine lv_iload_n hx hb dX5_field_66 rfl (lv_at hl 2 rfl) ?_
    refine lv_iconst (v := 4) hx hb dX5_field_67 (by decide) ?_
    refine lv_icmp_ne (tgt := 79) hx hb dX5_field_68 (by decide) (fun c => ?_) (fun c => ?_)
    · replace hw := hw.1 c
      refine lv_null hx hb dX5_field_79 ?_
      refine W.widen (k := 0) (n := 0) (Nat.le_of_ble_eq_true rfl) (Nat.le_of_ble_eq_true rfl) ?_
      exact hb_80 none _ _ _ ls I (lv_sub hl [0, 1, 2, 3, 4] rfl) hw
    · replace hw := hw.2 c
      refine lv_aload_n hx hb dX5_field_71 rfl (lv_at hl 0 rfl) ?_
      refine lv_iload_n hx hb dX5_field_72 rfl (lv_at hl 3 rfl) ?_
      obtain ⟨hrc, hw⟩ := hw
      refine z_callV C I (as := [.int p2]) (rest := []) (m_X5_referable E hw) kv_X5_65 vc_6 hrc rfl rfl hl.1 (Nat.le_of_ble_eq_true rfl) ⟨Nat.le_of_ble_eq_true rfl, Nat.le_of_ble_eq_true rfl⟩ ⟨Nat.le_of_ble_eq_true rfl, Nat.le_of_ble_eq_true rfl⟩ dX5_field_73 (z_prop C htab (Nat.le_of_ble_eq_true rfl) (Nat.le_of_ble_eq_true rfl)) (fun v M38 _ _ I hv => ?_)
      obtain ⟨v39, rfl, hw⟩ := hv
      refine W.eq (g2 := F0 m 76 ls [va_rf v39]) rfl ?_
      refine lv_goto (tgt := 80) hx hb dX5_field_76 (by decide) ?_
      refine W.widen (k := 0) (n := 0) (Nat.le_of_ble_eq_true rfl) (Nat.le_of_ble_eq_true rfl) ?_
      exact hb_80 v39 _ _ _ ls I (lv_sub hl [0, 1, 2, 3, 4] rfl) hw
  have hb_44 : ∀ (M : zM) (H : Heap) (locs : List Loc) (ls : Array Slot), zWk X s M H locs → lv_has ls 8 [(0, .ref o), (1, .int p0), (2, .int p1), (3, .int p2), (4, .int p3)] → w_X5_field_44 o p0 p1 p2 p3 P PX M → W p l e (zRm 10 329 2 109) s m args below meth c H locs 0 0 (vx_MQ below (zQc X (zPi P)) (zXc X PX) args s 2 109 (zBase X)) (F0 m 44 ls []) := by
    intro M H locs ls I hl hw
    unfold w_X5_field_44 at hw
    refine lv_iload_n hx hb dX5_field_44 rfl (lv_at hl 2 rfl) ?_
    refine lv_iconst (v := 3) hx hb dX5_field_45 (by decide) ?_
    refine lv_icmp_ne (tgt := 66) hx hb dX5_field_46 (by decide) (fun c => ?_) (fun c => ?_)
    · replace hw := hw.1 c
      refine W.widen (k := 0) (n := 0) (Nat.le_of_ble_eq_true rfl) (Nat.le_of_ble_eq_true rfl) ?_
      exact hb_66 _ _ _ ls I (lv_sub hl [0, 1, 2, 3, 4] rfl) hw
    · replace hw := hw.2 c
      refine lv_iload_n hx hb dX5_field_49 rfl (lv_at hl 3 rfl) ?_
      refine z_callS C I (as := [.int p2]) (rest := []) (m_X5_isSize E hw) ks_X5_60 rfl rfl hl.1 (Nat.le_of_ble_eq_true rfl) ⟨Nat.le_of_ble_eq_true rfl, Nat.le_of_ble_eq_true rfl⟩ ⟨Nat.le_of_ble_eq_true rfl, Nat.le_of_ble_eq_true rfl⟩ dX5_field_50 (z_prop C htab (Nat.le_of_ble_eq_true rfl) (Nat.le_of_ble_eq_true rfl)) (fun v M40 _ _ I hv => ?_)
      obtain ⟨v41, rfl, hv41, hw⟩ := hv
      refine W.eq (g2 := F0 m 53 ls [.int v41]) rfl ?_
      refine lv_if_ne (tgt := 66) hx hb dX5_field_53 (by decide) (fun c => ?_) (fun c => ?_)
      · replace hw := hw.1 c
        refine W.widen (k := 0) (n := 0) (Nat.le_of_ble_eq_true rfl) (Nat.le_of_ble_eq_true rfl) ?_
        exact hb_66 _ _ _ ls I (lv_sub hl [0, 1, 2, 3, 4] rfl) hw
      · replace hw := hw.2 c
        exact z_throw C htab I 1 kt_X5_53_63 hw hl.1 dX5_field_56 dX5_field_59 dX5_field_60 dX5_field_62 dX5_field_65 ⟨Nat.le_of_ble_eq_true rfl, Nat.le_of_ble_eq_true rfl, Nat.le_of_ble_eq_true rfl, Nat.le_of_ble_eq_true rfl⟩ (Nat.le_of_ble_eq_true rfl) (Nat.le_of_ble_eq_true rfl)
  refine lv_iload_n hx hb dX5_field_0 rfl (lv_at hl 1 rfl) ?_
  refine z_callS C I (as := [.int p0]) (rest := []) (m_X5_isName E hw) ks_X5_46 rfl rfl hl.1 (Nat.le_of_ble_eq_true rfl) ⟨Nat.le_of_ble_eq_true rfl, Nat.le_of_ble_eq_true rfl⟩ ⟨Nat.le_of_ble_eq_true rfl, Nat.le_of_ble_eq_true rfl⟩ dX5_field_1 (z_prop C htab (Nat.le_of_ble_eq_true rfl) (Nat.le_of_ble_eq_true rfl)) (fun v M42 _ _ I hv => ?_)
  obtain ⟨v43, rfl, hv43, hw⟩ := hv
  refine W.eq (g2 := F0 m 4 ls [.int v43]) rfl ?_
  refine lv_if_eq (tgt := 34) hx hb dX5_field_4 (by decide) (fun c => ?_) (fun c => ?_)
  · replace hw := hw.1 c
    refine W.widen (k := 0) (n := 0) (Nat.le_of_ble_eq_true rfl) (Nat.le_of_ble_eq_true rfl) ?_
    exact hb_34 _ _ _ ls I (lv_sub hl [] rfl) hw
  · replace hw := hw.2 c
    refine lv_iload_n hx hb dX5_field_7 rfl (lv_at hl 2 rfl) ?_
    refine z_callS C I (as := [.int p1]) (rest := []) (m_X5_isType E hw) ks_X5_50 rfl rfl hl.1 (Nat.le_of_ble_eq_true rfl) ⟨Nat.le_of_ble_eq_true rfl, Nat.le_of_ble_eq_true rfl⟩ ⟨Nat.le_of_ble_eq_true rfl, Nat.le_of_ble_eq_true rfl⟩ dX5_field_8 (z_prop C htab (Nat.le_of_ble_eq_true rfl) (Nat.le_of_ble_eq_true rfl)) (fun v M44 _ _ I hv => ?_)
    obtain ⟨v45, rfl, hv45, hw⟩ := hv
    refine W.eq (g2 := F0 m 11 ls [.int v45]) rfl ?_
    refine lv_if_eq (tgt := 34) hx hb dX5_field_11 (by decide) (fun c => ?_) (fun c => ?_)
    · replace hw := hw.1 c
      refine W.widen (k := 0) (n := 0) (Nat.le_of_ble_eq_true rfl) (Nat.le_of_ble_eq_true rfl) ?_
      exact hb_34 _ _ _ ls I (lv_sub hl [] rfl) hw
    · replace hw := hw.2 c
      refine lv_iload hx hb dX5_field_14 (lv_at hl 4 rfl) ?_
      refine lv_iload_n hx hb dX5_field_16 rfl (lv_at hl 1 rfl) ?_
      refine lv_icmp_eq (tgt := 34) hx hb dX5_field_17 (by decide) (fun c => ?_) (fun c => ?_)
      · replace hw := hw.1 c
        refine W.widen (k := 0) (n := 0) (Nat.le_of_ble_eq_true rfl) (Nat.le_of_ble_eq_true rfl) ?_
        exact hb_34 _ _ _ ls I (lv_sub hl [] rfl) hw
      · replace hw := hw.2 c
        refine lv_iload hx hb dX5_field_20 (lv_at hl 4 rfl) ?_
        refine lv_iconst (v := -1) hx hb dX5_field_22 (by decide) ?_
        refine lv_icmp_eq (tgt := 44) hx hb dX5_field_23 (by decide) (fun c => ?_) (fun c => ?_)
        · replace hw := hw.1 c
          refine W.widen (k := 0) (n := 0) (Nat.le_of_ble_eq_true rfl) (Nat.le_of_ble_eq_true rfl) ?_
          exact hb_44 _ _ _ ls I (lv_sub hl [0, 1, 2, 3, 4] rfl) hw
        · replace hw := hw.2 c
          refine lv_iload hx hb dX5_field_26 (lv_at hl 4 rfl) ?_
          refine z_callS C I (as := [.int p3]) (rest := []) (m_X5_isName E hw) ks_X5_46 rfl rfl hl.1 (Nat.le_of_ble_eq_true rfl) ⟨Nat.le_of_ble_eq_true rfl, Nat.le_of_ble_eq_true rfl⟩ ⟨Nat.le_of_ble_eq_true rfl, Nat.le_of_ble_eq_true rfl⟩ dX5_field_28 (z_prop C htab (Nat.le_of_ble_eq_true rfl) (Nat.le_of_ble_eq_true rfl)) (fun v M46 _ _ I hv => ?_)
          obtain ⟨v47, rfl, hv47, hw⟩ := hv
          refine W.eq (g2 := F0 m 31 ls [.int v47]) rfl ?_
          refine lv_if_ne (tgt := 44) hx hb dX5_field_31 (by decide) (fun c => ?_) (fun c => ?_)
          · replace hw := hw.1 c
            refine W.widen (k := 0) (n := 0) (Nat.le_of_ble_eq_true rfl) (Nat.le_of_ble_eq_true rfl) ?_
            exact hb_44 _ _ _ ls I (lv_sub hl [0, 1, 2, 3, 4] rfl) hw
          · replace hw := hw.2 c
            refine W.widen (k := 0) (n := 0) (Nat.le_of_ble_eq_true rfl) (Nat.le_of_ble_eq_true rfl) ?_
            exact hb_34 _ _ _ ls I (lv_sub hl [] rfl) hw
set_option maxHeartbeats 4000000 in
set_option maxRecDepth 100000 in
theorem m_Jx4a65c_isEmpty_aae02 {X : zX} {l : Launch} (E : zEnv X l) {M : zM} {o : Nat} {P : Int32 → zM → Prop} {PX : Nat → zM → Prop} (hw : w_Jx4a65c_isEmpty_aae02 o M P) : zCT X l yJx4a65c_isEmpty_aae02 cJx4a65c_isEmpty_aae02 1 (some .boolean) 0 0 0 0 M [.ref o] (zPz P) PX := by
  refine z_entry E (by decide) ?_
  intro p e s m args below meth c C hr htab I
  have hx := C.1.1
  have hb := C.1.2.1
  obtain ⟨ls, he, hl⟩ := z_enter (m := m) (n := 1) (vs := [.ref o]) (l := [(0, .ref o)]) (Nat.le_of_ble_eq_true rfl) rfl
  rw [he]
  clear he
  unfold w_Jx4a65c_isEmpty_aae02 at hw
  refine lv_aload_n hx hb dJx4a65c_isEmpty_aae02_0 rfl (lv_at hl 0 rfl) ?_
  refine z_geti C I fl_Jx4a65c_48 hw dJx4a65c_isEmpty_aae02_1 (fun v1 hw => ?_)
  refine lv_if_ne (tgt := 11) hx hb dJx4a65c_isEmpty_aae02_4 (by decide) (fun c => ?_) (fun c => ?_)
  · replace hw := hw.1 c
    refine lv_iconst (v := 0) hx hb dJx4a65c_isEmpty_aae02_11 (by decide) ?_
    exact z_zret C I hr (Or.inl rfl) ⟨_, rfl, (Or.inl rfl), hw⟩ (Nat.le_of_ble_eq_true rfl) (Nat.le_of_ble_eq_true rfl) dJx4a65c_isEmpty_aae02_12
  · replace hw := hw.2 c
    refine lv_iconst (v := 1) hx hb dJx4a65c_isEmpty_aae02_7 (by decide) ?_
    refine lv_goto (tgt := 12) hx hb dJx4a65c_isEmpty_aae02_8 (by decide) ?_
    exact z_zret C I hr (Or.inr rfl) ⟨_, rfl, (Or.inr rfl), hw⟩ (Nat.le_of_ble_eq_true rfl) (Nat.le_of_ble_eq_true rfl) dJx4a65c_isEmpty_aae02_12
set_option maxHeartbeats 4000000 in
set_option maxRecDepth 100000 in
theorem m_X2_last {X : zX} {l : Launch} (E : zEnv X l) {M : zM} {o : Nat} {P : Option Nat → zM → Prop} {PX : Nat → zM → Prop} (hw : w_X2_last o M P) : zCT X l yX2_last cX2_last 1 (some ((.object "SchemaSubjects$Field"))) 3 64 0 0 M [.ref o] (zPo P) PX := by
  refine z_entry E (by decide) ?_
  intro p e s m args below meth c C hr htab I
  have hx := C.1.1
  have hb := C.1.2.1
  obtain ⟨ls, he, hl⟩ := z_enter (m := m) (n := 1) (vs := [.ref o]) (l := [(0, .ref o)]) (Nat.le_of_ble_eq_true rfl) rfl
  rw [he]
  clear he
  unfold w_X2_last at hw
  refine lv_aload_n hx hb dX2_last_0 rfl (lv_at hl 0 rfl) ?_
  refine z_getr C I fl_X2_12 hw dX2_last_1 (fun v1 hw => ?_)
  obtain ⟨hrc, hw⟩ := hw
  refine z_callV C I (as := []) (rest := []) (m_Jx4a65c_isEmpty_aae02 E hw) kv_X2_62 vc_0 hrc rfl rfl hl.1 (Nat.le_of_ble_eq_true rfl) ⟨Nat.le_of_ble_eq_true rfl, Nat.le_of_ble_eq_true rfl⟩ ⟨Nat.le_of_ble_eq_true rfl, Nat.le_of_ble_eq_true rfl⟩ dX2_last_4 (z_prop C htab (Nat.le_of_ble_eq_true rfl) (Nat.le_of_ble_eq_true rfl)) (fun v M2 _ _ I hv => ?_)
  obtain ⟨v3, rfl, hv3, hw⟩ := hv
  refine W.eq (g2 := F0 m 7 ls [.int v3]) rfl ?_
  refine lv_if_eq (tgt := 14) hx hb dX2_last_7 (by decide) (fun c => ?_) (fun c => ?_)
  · replace hw := hw.1 c
    refine lv_aload_n hx hb dX2_last_14 rfl (lv_at hl 0 rfl) ?_
    refine z_getr C I fl_X2_12 hw dX2_last_15 (fun v4 hw => ?_)
    refine lv_aload_n hx hb dX2_last_18 rfl (lv_at hl 0 rfl) ?_
    refine z_getr C I fl_X2_12 hw dX2_last_19 (fun v5 hw => ?_)
    obtain ⟨hrc, hw⟩ := hw
    refine z_callV C I (as := []) (rest := [.ref v4]) (m_Jx4a65c_size_8abf5 E hw) kv_X2_66 vc_0 hrc rfl rfl hl.1 (Nat.le_of_ble_eq_true rfl) ⟨Nat.le_of_ble_eq_true rfl, Nat.le_of_ble_eq_true rfl⟩ ⟨Nat.le_of_ble_eq_true rfl, Nat.le_of_ble_eq_true rfl⟩ dX2_last_22 (z_prop C htab (Nat.le_of_ble_eq_true rfl) (Nat.le_of_ble_eq_true rfl)) (fun v M6 _ _ I hv => ?_)
    obtain ⟨v7, rfl, hw⟩ := hv
    refine W.eq (g2 := F0 m 25 ls [.int v7, .ref v4]) rfl ?_
    refine lv_iconst (v := 1) hx hb dX2_last_25 (by decide) ?_
    refine lv_isub hx hb dX2_last_26 ?_
    obtain ⟨hrc, hw⟩ := hw
    refine z_callV C I (as := [.int (v7 - (1 : Int32))]) (rest := []) (m_Jx4a65c_get_915e3 E hw) kv_X2_68 vc_0 hrc rfl rfl hl.1 (Nat.le_of_ble_eq_true rfl) ⟨Nat.le_of_ble_eq_true rfl, Nat.le_of_ble_eq_true rfl⟩ ⟨Nat.le_of_ble_eq_true rfl, Nat.le_of_ble_eq_true rfl⟩ dX2_last_27 (z_prop C htab (Nat.le_of_ble_eq_true rfl) (Nat.le_of_ble_eq_true rfl)) (fun v M8 _ _ I hv => ?_)
    obtain ⟨v9, rfl, hw⟩ := hv
    refine W.eq (g2 := F0 m 30 ls [va_rf v9]) rfl ?_
    refine z_cast C I vc_1 (r := v9) zw356 hw dX2_last_30 (fun a10 hw => ?_)
    exact z_aret C I hr (Or.inl ⟨_, rfl⟩) (v := (some a10)) ⟨_, rfl, hw⟩ (Nat.le_of_ble_eq_true rfl) (Nat.le_of_ble_eq_true rfl) dX2_last_33
  · replace hw := hw.2 c
    refine lv_null hx hb dX2_last_10 ?_
    refine lv_goto (tgt := 33) hx hb dX2_last_11 (by decide) ?_
    exact z_aret C I hr (Or.inl ⟨_, rfl⟩) (v := none) ⟨_, rfl, hw⟩ (Nat.le_of_ble_eq_true rfl) (Nat.le_of_ble_eq_true rfl) dX2_last_33
set_option maxHeartbeats 4000000 in
set_option maxRecDepth 100000 in
theorem m_X5_isOfSize {X : zX} {l : Launch} (E : zEnv X l) {M : zM} {p0 : Int32} {p1 : Int32} {P : Int32 → zM → Prop} {PX : Nat → zM → Prop} (hw : w_X5_isOfSize p0 p1 M P) : zCT X l yX5_isOfSize cX5_isOfSize 2 (some .boolean) 0 0 0 0 M [.int p0, .int p1] (zPz P) PX := by
  refine z_entry E (by decide) ?_
  intro p e s m args below meth c C hr htab I
  have hx := C.1.1
  have hb := C.1.2.1
  obtain ⟨ls, he, hl⟩ := z_enter (m := m) (n := 2) (vs := [.int p0, .int p1]) (l := [(0, .int p0), (1, .int p1)]) (Nat.le_of_ble_eq_true rfl) rfl
  rw [he]
  clear he
  unfold w_X5_isOfSize at hw
  have hb_13 : ∀ (M : zM) (H : Heap) (locs : List Loc) (ls : Array Slot), zWk X s M H locs → lv_has ls 2 [] → w_X5_isOfSize_13 p0 p1 P M → W p l e (zRm 0 0 0 0) s m args below meth c H locs 0 0 (vx_MQ below (zQc X (zPz P)) (zXc X PX) args s 0 0 (zBase X)) (F0 m 13 ls []) := by
    intro M H locs ls I hl hw
    unfold w_X5_isOfSize_13 at hw
    refine lv_iconst (v := 1) hx hb dX5_isOfSize_13 (by decide) ?_
    refine lv_goto (tgt := 18) hx hb dX5_isOfSize_14 (by decide) ?_
    exact z_zret C I hr (Or.inr rfl) ⟨_, rfl, (Or.inr rfl), hw⟩ (Nat.le_of_ble_eq_true rfl) (Nat.le_of_ble_eq_true rfl) dX5_isOfSize_18
  refine lv_iload_n hx hb dX5_isOfSize_0 rfl (lv_at hl 1 rfl) ?_
  refine lv_if_eq (tgt := 13) hx hb dX5_isOfSize_1 (by decide) (fun c => ?_) (fun c => ?_)
  · replace hw := hw.1 c
    refine W.widen (k := 0) (n := 0) (Nat.le_of_ble_eq_true rfl) (Nat.le_of_ble_eq_true rfl) ?_
    exact hb_13 _ _ _ ls I (lv_sub hl [] rfl) hw
  · replace hw := hw.2 c
    refine lv_iload_n hx hb dX5_isOfSize_4 rfl (lv_at hl 0 rfl) ?_
    refine lv_if_lt (tgt := 17) hx hb dX5_isOfSize_5 (by decide) (fun c => ?_) (fun c => ?_)
    · replace hw := hw.1 c
      refine lv_iconst (v := 0) hx hb dX5_isOfSize_17 (by decide) ?_
      exact z_zret C I hr (Or.inl rfl) ⟨_, rfl, (Or.inl rfl), hw⟩ (Nat.le_of_ble_eq_true rfl) (Nat.le_of_ble_eq_true rfl) dX5_isOfSize_18
    · replace hw := hw.2 c
      refine lv_iload_n hx hb dX5_isOfSize_8 rfl (lv_at hl 0 rfl) ?_
      refine lv_iload_n hx hb dX5_isOfSize_9 rfl (lv_at hl 1 rfl) ?_
      refine lv_icmp_ge (tgt := 17) hx hb dX5_isOfSize_10 (by decide) (fun c => ?_) (fun c => ?_)
      · replace hw := hw.1 c
        refine lv_iconst (v := 0) hx hb dX5_isOfSize_17 (by decide) ?_
        exact z_zret C I hr (Or.inl rfl) ⟨_, rfl, (Or.inl rfl), hw⟩ (Nat.le_of_ble_eq_true rfl) (Nat.le_of_ble_eq_true rfl) dX5_isOfSize_18
      · replace hw := hw.2 c
        refine W.widen (k := 0) (n := 0) (Nat.le_of_ble_eq_true rfl) (Nat.le_of_ble_eq_true rfl) ?_
        exact hb_13 _ _ _ ls I (lv_sub hl [] rfl) hw
set_option maxHeartbeats 4000000 in
set_option maxRecDepth 100000 in
theorem m_X5_byDefault {X : zX} {l : Launch} (E : zEnv X l) {M : zM} {o : Nat} {p0 : Int32} {P : Int32 → zM → Prop} {PX : Nat → zM → Prop} (hw : w_X5_byDefault o p0 M P PX) : zCT X l yX5_byDefault cX5_byDefault 3 (some .int) 6 90 1 6 M [.ref o, .int p0] (zPi P) PX := by
  refine z_entry E (by decide) ?_
  intro p e s m args below meth c C hr htab I
  have hx := C.1.1
  have hb := C.1.2.1
  obtain ⟨ls, he, hl⟩ := z_enter (m := m) (n := 3) (vs := [.ref o, .int p0]) (l := [(0, .ref o), (1, .int p0)]) (Nat.le_of_ble_eq_true rfl) rfl
  rw [he]
  clear he
  unfold w_X5_byDefault at hw
  have hb_20 : ∀ (M : zM) (H : Heap) (locs : List Loc) (ls : Array Slot), zWk X s M H locs → lv_has ls 3 [] → w_X5_byDefault_20 o p0 P PX M → W p l e (zRm 6 90 1 6) s m args below meth c H locs 0 0 (vx_MQ below (zQc X (zPi P)) (zXc X PX) args s 1 6 (zBase X)) (F0 m 20 ls []) := by
    intro M H locs ls I hl hw
    unfold w_X5_byDefault_20 at hw
    exact z_throw C htab I 3 kt_X5_91_117 hw hl.1 dX5_byDefault_20 dX5_byDefault_23 dX5_byDefault_24 dX5_byDefault_26 dX5_byDefault_29 ⟨Nat.le_of_ble_eq_true rfl, Nat.le_of_ble_eq_true rfl, Nat.le_of_ble_eq_true rfl, Nat.le_of_ble_eq_true rfl⟩ (Nat.le_of_ble_eq_true rfl) (Nat.le_of_ble_eq_true rfl)
  refine lv_aload_n hx hb dX5_byDefault_0 rfl (lv_at hl 0 rfl) ?_
  refine z_getr C I fl_X5_29 hw dX5_byDefault_1 (fun v1 hw => ?_)
  obtain ⟨hrc, hw⟩ := hw
  refine z_callV C I (as := []) (rest := []) (m_X2_last E hw) kv_X5_109 vc_3 hrc rfl rfl hl.1 (Nat.le_of_ble_eq_true rfl) ⟨Nat.le_of_ble_eq_true rfl, Nat.le_of_ble_eq_true rfl⟩ ⟨Nat.le_of_ble_eq_true rfl, Nat.le_of_ble_eq_true rfl⟩ dX5_byDefault_4 (z_prop C htab (Nat.le_of_ble_eq_true rfl) (Nat.le_of_ble_eq_true rfl)) (fun v M2 _ _ I hv => ?_)
  obtain ⟨v3, rfl, hw⟩ := hv
  refine W.eq (g2 := F0 m 7 ls [va_rf v3]) rfl ?_
  refine z_astoren (lv' := [(2, va_rf v3), (0, .ref o), (1, .int p0)]) C (r := v3) dX5_byDefault_7 rfl hl (by decide) rfl (fun ls hl4 => ?_)
  refine z_aloadn C (r := v3) dX5_byDefault_8 rfl (lv_at hl4 0 rfl) ?_
  refine z_ifnull C (r := v3) (tgt := 20) dX5_byDefault_9 (by decide) (fun c => ?_) (fun a5 c => ?_)
  · have hq := hw.1 c
    subst c
    have hw := hq
    clear hq
    refine W.eq (g2 := F0 m 20 ls []) rfl ?_
    have hl6 : lv_has ls 3 [(2, va_rf none), (0, .ref o), (1, .int p0)] := hl4
    refine W.widen (k := 0) (n := 0) (Nat.le_of_ble_eq_true rfl) (Nat.le_of_ble_eq_true rfl) ?_
    exact hb_20 _ _ _ ls I (lv_sub hl6 [] rfl) hw
  · have hq := hw.2 a5 c
    subst c
    have hw := hq
    clear hq
    refine W.eq (g2 := F0 m 12 ls []) rfl ?_
    have hl7 : lv_has ls 3 [(2, .ref a5), (0, .ref o), (1, .int p0)] := hl4
    refine lv_aload_n hx hb dX5_byDefault_12 rfl (lv_at hl7 0 rfl) ?_
    refine z_geti C I fl_X5_113 hw dX5_byDefault_13 (fun v8 hw => ?_)
    refine lv_iconst (v := 4) hx hb dX5_byDefault_16 (by decide) ?_
    refine lv_icmp_ne (tgt := 30) hx hb dX5_byDefault_17 (by decide) (fun c => ?_) (fun c => ?_)
    · replace hw := hw.1 c
      refine lv_iload_n hx hb dX5_byDefault_30 rfl (lv_at hl7 2 rfl) ?_
      refine lv_aload_n hx hb dX5_byDefault_31 rfl (lv_at hl7 0 rfl) ?_
      refine z_geti C I fl_X5_119 hw dX5_byDefault_32 (fun v9 hw => ?_)
      refine z_callS C I (as := [.int p0, .int v9]) (rest := []) (m_X5_isOfSize E hw) ks_X5_121 rfl rfl hl7.1 (Nat.le_of_ble_eq_true rfl) ⟨Nat.le_of_ble_eq_true rfl, Nat.le_of_ble_eq_true rfl⟩ ⟨Nat.le_of_ble_eq_true rfl, Nat.le_of_ble_eq_true rfl⟩ dX5_byDefault_35 (z_prop C htab (Nat.le_of_ble_eq_true rfl) (Nat.le_of_ble_eq_true rfl)) (fun v M10 _ _ I hv => ?_)
      obtain ⟨v11, rfl, hv11, hw⟩ := hv
      refine W.eq (g2 := F0 m 38 ls [.int v11]) rfl ?_
      refine lv_if_ne (tgt := 51) hx hb dX5_byDefault_38 (by decide) (fun c => ?_) (fun c => ?_)
      · replace hw := hw.1 c
        refine lv_aload_n hx hb dX5_byDefault_51 rfl (lv_at hl7 0 rfl) ?_
        refine lv_iconst (v := 1) hx hb dX5_byDefault_52 (by decide) ?_
        refine z_put C I fl_X5_127 rfl (v := .int (1 : Int32)) (z_nz (Or.inr rfl)) (z_fz (Or.inr rfl)) hw dX5_byDefault_53 (fun M12 _ _ I hw => ?_)
        refine lv_aload_n hx hb dX5_byDefault_56 rfl (lv_at hl7 0 rfl) ?_
        refine lv_iload_n hx hb dX5_byDefault_57 rfl (lv_at hl7 2 rfl) ?_
        refine z_put C I fl_X5_131 rfl (v := .int p0) rfl rfl hw dX5_byDefault_58 (fun M13 _ _ I hw => ?_)
        refine lv_aload_n hx hb dX5_byDefault_61 rfl (lv_at hl7 0 rfl) ?_
        refine z_geti C I fl_X5_134 hw dX5_byDefault_62 (fun v14 hw => ?_)
        exact z_iret C I hr ⟨_, rfl, hw⟩ (Nat.le_of_ble_eq_true rfl) (Nat.le_of_ble_eq_true rfl) dX5_byDefault_65
      · replace hw := hw.2 c
        exact z_throw C htab I 1 kt_X5_53_125 hw hl7.1 dX5_byDefault_41 dX5_byDefault_44 dX5_byDefault_45 dX5_byDefault_47 dX5_byDefault_50 ⟨Nat.le_of_ble_eq_true rfl, Nat.le_of_ble_eq_true rfl, Nat.le_of_ble_eq_true rfl, Nat.le_of_ble_eq_true rfl⟩ (Nat.le_of_ble_eq_true rfl) (Nat.le_of_ble_eq_true rfl)
    · replace hw := hw.2 c
      refine W.widen (k := 0) (n := 0) (Nat.le_of_ble_eq_true rfl) (Nat.le_of_ble_eq_true rfl) ?_
      exact hb_20 _ _ _ ls I (lv_sub hl7 [] rfl) hw
set_option maxHeartbeats 4000000 in
set_option maxRecDepth 100000 in
theorem m_Jx4a65c_clear_da8c8 {X : zX} {l : Launch} (E : zEnv X l) {M : zM} {o : Nat} {P : zM → Prop} {PX : Nat → zM → Prop} (hw : w_Jx4a65c_clear_da8c8 o M P) : zCT X l yJx4a65c_clear_da8c8 cJx4a65c_clear_da8c8 4 none 0 0 0 0 M [.ref o] (zPv P) PX := by
  refine z_entry E (by decide) ?_
  intro p e s m args below meth c C hr htab I
  have hx := C.1.1
  have hb := C.1.2.1
  obtain ⟨ls, he, hl⟩ := z_enter (m := m) (n := 4) (vs := [.ref o]) (l := [(0, .ref o)]) (Nat.le_of_ble_eq_true rfl) rfl
  rw [he]
  clear he
  unfold w_Jx4a65c_clear_da8c8 at hw
  have hb_27 : ∀ (n : Nat) (x1 : Nat) (x2 : Int32) (x3 : Int32) (M : zM) (H : Heap) (locs : List Loc) (ls : Array Slot), zWk X s M H locs → lv_has ls 4 [(1, .ref x1), (2, .int x2), (3, .int x3)] → w_Jx4a65c_clear_da8c8_27 o P n x1 x2 x3 M → W p l e (zRm 0 0 0 0) s m args below meth c H locs 0 0 (vx_MQ below (zQc X (zPv P)) (zXc X PX) args s 0 0 (zBase X)) (F0 m 27 ls []) := by
    intro n
    induction n with
    | zero => intro _ _ _ M H locs ls I hl hw; exact hw.elim
    | succ n ih =>
      intro x1 x2 x3 M H locs ls I hl hw
      unfold w_Jx4a65c_clear_da8c8_27 at hw
      refine lv_iload_n hx hb dJx4a65c_clear_da8c8_27 rfl (lv_at hl 2 rfl) ?_
      refine lv_iload_n hx hb dJx4a65c_clear_da8c8_28 rfl (lv_at hl 1 rfl) ?_
      refine lv_icmp_ge (tgt := 42) hx hb dJx4a65c_clear_da8c8_29 (by decide) (fun c => ?_) (fun c => ?_)
      · replace hw := hw.1 c
        exact z_vret C I hr ⟨rfl, hw⟩ (Nat.le_of_ble_eq_true rfl) (Nat.le_of_ble_eq_true rfl) dJx4a65c_clear_da8c8_42
      · replace hw := hw.2 c
        refine lv_aload_n hx hb dJx4a65c_clear_da8c8_32 rfl (lv_at hl 0 rfl) ?_
        refine lv_iload_n hx hb dJx4a65c_clear_da8c8_33 rfl (lv_at hl 2 rfl) ?_
        refine lv_null hx hb dJx4a65c_clear_da8c8_34 ?_
        refine z_aastN C I hw dJx4a65c_clear_da8c8_35 (fun M1 _ _ I hw => ?_)
        refine lv_iinc (v := (x3 + 1)) (lv' := [(3, .int (x3 + 1)), (1, .ref x1), (2, .int x2)]) hx hb dJx4a65c_clear_da8c8_36 hl (k := 2) rfl (by rfl) (by decide) rfl (fun ls hl2 => ?_)
        refine lv_goto (tgt := 27) hx hb dJx4a65c_clear_da8c8_39 (by decide) ?_
        refine W.widen (k := 0) (n := 0) (Nat.le_of_ble_eq_true rfl) (Nat.le_of_ble_eq_true rfl) ?_
        exact ih x1 x2 (x3 + 1) _ _ _ ls I (lv_sub hl2 [1, 2, 0] rfl) hw
  refine lv_aload_n hx hb dJx4a65c_clear_da8c8_0 rfl (lv_at hl 0 rfl) ?_
  refine lv_dup hx hb dJx4a65c_clear_da8c8_1 rfl ?_
  refine z_geti C I fl_Jx4a65c_63 hw dJx4a65c_clear_da8c8_2 (fun v3 hw => ?_)
  refine lv_iconst (v := 1) hx hb dJx4a65c_clear_da8c8_5 (by decide) ?_
  refine lv_iadd hx hb dJx4a65c_clear_da8c8_6 ?_
  refine z_put C I fl_Jx4a65c_63 rfl (v := .int (v3 + (1 : Int32))) rfl rfl hw dJx4a65c_clear_da8c8_7 (fun M4 _ _ I hw => ?_)
  refine lv_aload_n hx hb dJx4a65c_clear_da8c8_10 rfl (lv_at hl 0 rfl) ?_
  refine z_getr C I fl_Jx4a65c_9 hw dJx4a65c_clear_da8c8_11 (fun v5 hw => ?_)
  refine lv_astore_n (lv' := [(1, .ref v5), (0, .ref o)]) hx hb dJx4a65c_clear_da8c8_14 rfl hl (by decide) rfl (fun ls hl6 => ?_)
  refine lv_aload_n hx hb dJx4a65c_clear_da8c8_15 rfl (lv_at hl6 1 rfl) ?_
  refine z_geti C I fl_Jx4a65c_48 hw dJx4a65c_clear_da8c8_16 (fun v7 hw => ?_)
  refine lv_istore_n (lv' := [(2, .int v7), (1, .ref v5), (0, .ref o)]) hx hb dJx4a65c_clear_da8c8_19 rfl hl6 (by decide) rfl (fun ls hl8 => ?_)
  refine lv_aload_n hx hb dJx4a65c_clear_da8c8_20 rfl (lv_at hl8 2 rfl) ?_
  refine lv_iconst (v := 0) hx hb dJx4a65c_clear_da8c8_21 (by decide) ?_
  refine lv_dup_x1 hx hb dJx4a65c_clear_da8c8_22 rfl rfl ?_
  refine z_put C I fl_Jx4a65c_48 rfl (v := .int (0 : Int32)) rfl rfl hw dJx4a65c_clear_da8c8_23 (fun M9 _ _ I hw => ?_)
  refine lv_istore_n (lv' := [(3, .int (0 : Int32)), (2, .int v7), (1, .ref v5), (0, .ref o)]) hx hb dJx4a65c_clear_da8c8_26 rfl hl8 (by decide) rfl (fun ls hl10 => ?_)
  obtain ⟨nn, hw⟩ := hw
  refine W.widen (k := 0) (n := 0) (Nat.le_of_ble_eq_true rfl) (Nat.le_of_ble_eq_true rfl) ?_
  exact hb_27 nn v5 v7 (0 : Int32) _ _ _ ls I (lv_sub hl10 [2, 1, 0] rfl) hw
set_option maxHeartbeats 4000000 in
set_option maxRecDepth 100000 in
theorem m_X1_empty {X : zX} {l : Launch} (E : zEnv X l) {M : zM} {o : Nat} {P : zM → Prop} {PX : Nat → zM → Prop} (hw : w_X1_empty o M P) : zCT X l yX1_empty cX1_empty 1 none 0 0 0 0 M [.ref o] (zPv P) PX := by
  refine z_entry E (by decide) ?_
  intro p e s m args below meth c C hr htab I
  have hx := C.1.1
  have hb := C.1.2.1
  obtain ⟨ls, he, hl⟩ := z_enter (m := m) (n := 1) (vs := [.ref o]) (l := [(0, .ref o)]) (Nat.le_of_ble_eq_true rfl) rfl
  rw [he]
  clear he
  unfold w_X1_empty at hw
  refine lv_aload_n hx hb dX1_empty_0 rfl (lv_at hl 0 rfl) ?_
  refine lv_iconst (v := 0) hx hb dX1_empty_1 (by decide) ?_
  refine z_put C I fl_X1_15 rfl (v := .int (0 : Int32)) rfl rfl hw dX1_empty_2 (fun M1 _ _ I hw => ?_)
  exact z_vret C I hr ⟨rfl, hw⟩ (Nat.le_of_ble_eq_true rfl) (Nat.le_of_ble_eq_true rfl) dX1_empty_5
set_option maxHeartbeats 4000000 in
set_option maxRecDepth 100000 in
theorem m_X2_empty {X : zX} {l : Launch} (E : zEnv X l) {M : zM} {o : Nat} {P : zM → Prop} {PX : Nat → zM → Prop} (hw : w_X2_empty o M P) : zCT X l yX2_empty cX2_empty 1 none 1 23 0 0 M [.ref o] (zPv P) PX := by
  refine z_entry E (by decide) ?_
  intro p e s m args below meth c C hr htab I
  have hx := C.1.1
  have hb := C.1.2.1
  obtain ⟨ls, he, hl⟩ := z_enter (m := m) (n := 1) (vs := [.ref o]) (l := [(0, .ref o)]) (Nat.le_of_ble_eq_true rfl) rfl
  rw [he]
  clear he
  unfold w_X2_empty at hw
  refine lv_aload_n hx hb dX2_empty_0 rfl (lv_at hl 0 rfl) ?_
  refine z_getr C I fl_X2_12 hw dX2_empty_1 (fun v1 hw => ?_)
  obtain ⟨hrc, hw⟩ := hw
  refine z_callV C I (as := []) (rest := []) (m_Jx4a65c_clear_da8c8 E hw) kv_X2_56 vc_0 hrc rfl rfl hl.1 (Nat.le_of_ble_eq_true rfl) ⟨Nat.le_of_ble_eq_true rfl, Nat.le_of_ble_eq_true rfl⟩ ⟨Nat.le_of_ble_eq_true rfl, Nat.le_of_ble_eq_true rfl⟩ dX2_empty_4 (z_prop C htab (Nat.le_of_ble_eq_true rfl) (Nat.le_of_ble_eq_true rfl)) (fun v M2 _ _ I hv => ?_)
  obtain ⟨rfl, hw⟩ := hv
  refine W.eq (g2 := F0 m 7 ls []) rfl ?_
  refine lv_aload_n hx hb dX2_empty_7 rfl (lv_at hl 0 rfl) ?_
  refine z_getr C I fl_X2_21 hw dX2_empty_8 (fun v3 hw => ?_)
  obtain ⟨hrc, hw⟩ := hw
  refine z_callV C I (as := []) (rest := []) (m_X1_empty E hw) kv_X2_59 vc_2 hrc rfl rfl hl.1 (Nat.le_of_ble_eq_true rfl) ⟨Nat.le_of_ble_eq_true rfl, Nat.le_of_ble_eq_true rfl⟩ ⟨Nat.le_of_ble_eq_true rfl, Nat.le_of_ble_eq_true rfl⟩ dX2_empty_11 (z_prop C htab (Nat.le_of_ble_eq_true rfl) (Nat.le_of_ble_eq_true rfl)) (fun v M4 _ _ I hv => ?_)
  obtain ⟨rfl, hw⟩ := hv
  refine W.eq (g2 := F0 m 14 ls []) rfl ?_
  exact z_vret C I hr ⟨rfl, hw⟩ (Nat.le_of_ble_eq_true rfl) (Nat.le_of_ble_eq_true rfl) dX2_empty_14
set_option maxHeartbeats 4000000 in
set_option maxRecDepth 100000 in
theorem m_X5_discard {X : zX} {l : Launch} (E : zEnv X l) {M : zM} {o : Nat} {P : Int32 → zM → Prop} {PX : Nat → zM → Prop} (hw : w_X5_discard o M P) : zCT X l yX5_discard cX5_discard 2 (some .int) 2 43 0 0 M [.ref o] (zPi P) PX := by
  refine z_entry E (by decide) ?_
  intro p e s m args below meth c C hr htab I
  have hx := C.1.1
  have hb := C.1.2.1
  obtain ⟨ls, he, hl⟩ := z_enter (m := m) (n := 2) (vs := [.ref o]) (l := [(0, .ref o)]) (Nat.le_of_ble_eq_true rfl) rfl
  rw [he]
  clear he
  unfold w_X5_discard at hw
  refine lv_aload_n hx hb dX5_discard_0 rfl (lv_at hl 0 rfl) ?_
  refine z_getr C I fl_X5_29 hw dX5_discard_1 (fun v1 hw => ?_)
  refine z_getr C I fl_X5_81 hw dX5_discard_4 (fun v2 hw => ?_)
  obtain ⟨hrc, hw⟩ := hw
  refine z_callV C I (as := []) (rest := []) (m_Jx4a65c_size_8abf5 E hw) kv_X5_84 vc_0 hrc rfl rfl hl.1 (Nat.le_of_ble_eq_true rfl) ⟨Nat.le_of_ble_eq_true rfl, Nat.le_of_ble_eq_true rfl⟩ ⟨Nat.le_of_ble_eq_true rfl, Nat.le_of_ble_eq_true rfl⟩ dX5_discard_7 (z_prop C htab (Nat.le_of_ble_eq_true rfl) (Nat.le_of_ble_eq_true rfl)) (fun v M3 _ _ I hv => ?_)
  obtain ⟨v4, rfl, hw⟩ := hv
  refine W.eq (g2 := F0 m 10 ls [.int v4]) rfl ?_
  refine lv_istore_n (lv' := [(1, .int v4), (0, .ref o)]) hx hb dX5_discard_10 rfl hl (by decide) rfl (fun ls hl5 => ?_)
  refine lv_aload_n hx hb dX5_discard_11 rfl (lv_at hl5 1 rfl) ?_
  refine z_getr C I fl_X5_29 hw dX5_discard_12 (fun v6 hw => ?_)
  obtain ⟨hrc, hw⟩ := hw
  refine z_callV C I (as := []) (rest := []) (m_X2_empty E hw) kv_X5_137 vc_3 hrc rfl rfl hl5.1 (Nat.le_of_ble_eq_true rfl) ⟨Nat.le_of_ble_eq_true rfl, Nat.le_of_ble_eq_true rfl⟩ ⟨Nat.le_of_ble_eq_true rfl, Nat.le_of_ble_eq_true rfl⟩ dX5_discard_15 (z_prop C htab (Nat.le_of_ble_eq_true rfl) (Nat.le_of_ble_eq_true rfl)) (fun v M7 _ _ I hv => ?_)
  obtain ⟨rfl, hw⟩ := hv
  refine W.eq (g2 := F0 m 18 ls []) rfl ?_
  refine lv_iload_n hx hb dX5_discard_18 rfl (lv_at hl5 0 rfl) ?_
  exact z_iret C I hr ⟨_, rfl, hw⟩ (Nat.le_of_ble_eq_true rfl) (Nat.le_of_ble_eq_true rfl) dX5_discard_19
set_option maxHeartbeats 4000000 in
set_option maxRecDepth 100000 in
theorem m_X5_demandedSubject {X : zX} {l : Launch} (E : zEnv X l) {M : zM} {o : Nat} {p0 : Int32} {P : Option Nat → zM → Prop} {PX : Nat → zM → Prop} (hw : w_X5_demandedSubject o p0 M P PX) : zCT X l yX5_demandedSubject cX5_demandedSubject 2 (some ((.object "SchemaSubjects$Subject"))) 6 90 1 6 M [.ref o, .int p0] (zPo P) PX := by
  refine z_entry E (by decide) ?_
  intro p e s m args below meth c C hr htab I
  have hx := C.1.1
  have hb := C.1.2.1
  obtain ⟨ls, he, hl⟩ := z_enter (m := m) (n := 2) (vs := [.ref o, .int p0]) (l := [(0, .ref o), (1, .int p0)]) (Nat.le_of_ble_eq_true rfl) rfl
  rw [he]
  clear he
  unfold w_X5_demandedSubject at hw
  have hb_15 : ∀ (M : zM) (H : Heap) (locs : List Loc) (ls : Array Slot), zWk X s M H locs → lv_has ls 2 [] → w_X5_demandedSubject_15 o p0 P PX M → W p l e (zRm 6 90 1 6) s m args below meth c H locs 0 0 (vx_MQ below (zQc X (zPo P)) (zXc X PX) args s 1 6 (zBase X)) (F0 m 15 ls []) := by
    intro M H locs ls I hl hw
    unfold w_X5_demandedSubject_15 at hw
    exact z_throw C htab I 1 kt_X5_53_240 hw hl.1 dX5_demandedSubject_15 dX5_demandedSubject_18 dX5_demandedSubject_19 dX5_demandedSubject_21 dX5_demandedSubject_24 ⟨Nat.le_of_ble_eq_true rfl, Nat.le_of_ble_eq_true rfl, Nat.le_of_ble_eq_true rfl, Nat.le_of_ble_eq_true rfl⟩ (Nat.le_of_ble_eq_true rfl) (Nat.le_of_ble_eq_true rfl)
  refine lv_iload_n hx hb dX5_demandedSubject_0 rfl (lv_at hl 1 rfl) ?_
  refine lv_if_lt (tgt := 15) hx hb dX5_demandedSubject_1 (by decide) (fun c => ?_) (fun c => ?_)
  · replace hw := hw.1 c
    refine W.widen (k := 0) (n := 0) (Nat.le_of_ble_eq_true rfl) (Nat.le_of_ble_eq_true rfl) ?_
    exact hb_15 _ _ _ ls I (lv_sub hl [] rfl) hw
  · replace hw := hw.2 c
    refine lv_iload_n hx hb dX5_demandedSubject_4 rfl (lv_at hl 1 rfl) ?_
    refine lv_aload_n hx hb dX5_demandedSubject_5 rfl (lv_at hl 0 rfl) ?_
    refine z_getr C I fl_X5_10 hw dX5_demandedSubject_6 (fun v1 hw => ?_)
    obtain ⟨hrc, hw⟩ := hw
    refine z_callV C I (as := []) (rest := [.int p0]) (m_Jx4a65c_size_8abf5 E hw) kv_X5_84 vc_0 hrc rfl rfl hl.1 (Nat.le_of_ble_eq_true rfl) ⟨Nat.le_of_ble_eq_true rfl, Nat.le_of_ble_eq_true rfl⟩ ⟨Nat.le_of_ble_eq_true rfl, Nat.le_of_ble_eq_true rfl⟩ dX5_demandedSubject_9 (z_prop C htab (Nat.le_of_ble_eq_true rfl) (Nat.le_of_ble_eq_true rfl)) (fun v M2 _ _ I hv => ?_)
    obtain ⟨v3, rfl, hw⟩ := hv
    refine W.eq (g2 := F0 m 12 ls [.int v3, .int p0]) rfl ?_
    refine lv_icmp_lt (tgt := 25) hx hb dX5_demandedSubject_12 (by decide) (fun c => ?_) (fun c => ?_)
    · replace hw := hw.1 c
      refine lv_aload_n hx hb dX5_demandedSubject_25 rfl (lv_at hl 0 rfl) ?_
      refine z_getr C I fl_X5_10 hw dX5_demandedSubject_26 (fun v4 hw => ?_)
      refine lv_iload_n hx hb dX5_demandedSubject_29 rfl (lv_at hl 1 rfl) ?_
      obtain ⟨hrc, hw⟩ := hw
      refine z_callV C I (as := [.int p0]) (rest := []) (m_Jx4a65c_get_915e3 E hw) kv_X5_242 vc_0 hrc rfl rfl hl.1 (Nat.le_of_ble_eq_true rfl) ⟨Nat.le_of_ble_eq_true rfl, Nat.le_of_ble_eq_true rfl⟩ ⟨Nat.le_of_ble_eq_true rfl, Nat.le_of_ble_eq_true rfl⟩ dX5_demandedSubject_30 (z_prop C htab (Nat.le_of_ble_eq_true rfl) (Nat.le_of_ble_eq_true rfl)) (fun v M5 _ _ I hv => ?_)
      obtain ⟨v6, rfl, hw⟩ := hv
      refine W.eq (g2 := F0 m 33 ls [va_rf v6]) rfl ?_
      refine z_cast C I vc_4 (r := v6) zw69 hw dX5_demandedSubject_33 (fun a7 hw => ?_)
      exact z_aret C I hr (Or.inl ⟨_, rfl⟩) (v := (some a7)) ⟨_, rfl, hw⟩ (Nat.le_of_ble_eq_true rfl) (Nat.le_of_ble_eq_true rfl) dX5_demandedSubject_36
    · replace hw := hw.2 c
      refine W.widen (k := 0) (n := 0) (Nat.le_of_ble_eq_true rfl) (Nat.le_of_ble_eq_true rfl) ?_
      exact hb_15 _ _ _ ls I (lv_sub hl [] rfl) hw
set_option maxHeartbeats 4000000 in
set_option maxRecDepth 100000 in
theorem m_X5_demandDraft {X : zX} {l : Launch} (E : zEnv X l) {M : zM} {o : Nat} {P : zM → Prop} {PX : Nat → zM → Prop} (hw : w_X5_demandDraft o M P PX) : zCT X l yX5_demandDraft cX5_demandDraft 1 none 6 90 1 6 M [.ref o] (zPv P) PX := by
  refine z_entry E (by decide) ?_
  intro p e s m args below meth c C hr htab I
  have hx := C.1.1
  have hb := C.1.2.1
  obtain ⟨ls, he, hl⟩ := z_enter (m := m) (n := 1) (vs := [.ref o]) (l := [(0, .ref o)]) (Nat.le_of_ble_eq_true rfl) rfl
  rw [he]
  clear he
  unfold w_X5_demandDraft at hw
  refine lv_aload_n hx hb dX5_demandDraft_0 rfl (lv_at hl 0 rfl) ?_
  refine z_getr C I fl_X5_29 hw dX5_demandDraft_1 (fun v1 hw => ?_)
  refine z_getr C I fl_X5_81 hw dX5_demandDraft_4 (fun v2 hw => ?_)
  obtain ⟨hrc, hw⟩ := hw
  refine z_callV C I (as := []) (rest := []) (m_Jx4a65c_isEmpty_aae02 E hw) kv_X5_255 vc_0 hrc rfl rfl hl.1 (Nat.le_of_ble_eq_true rfl) ⟨Nat.le_of_ble_eq_true rfl, Nat.le_of_ble_eq_true rfl⟩ ⟨Nat.le_of_ble_eq_true rfl, Nat.le_of_ble_eq_true rfl⟩ dX5_demandDraft_7 (z_prop C htab (Nat.le_of_ble_eq_true rfl) (Nat.le_of_ble_eq_true rfl)) (fun v M3 _ _ I hv => ?_)
  obtain ⟨v4, rfl, hv4, hw⟩ := hv
  refine W.eq (g2 := F0 m 10 ls [.int v4]) rfl ?_
  refine lv_if_eq (tgt := 24) hx hb dX5_demandDraft_10 (by decide) (fun c => ?_) (fun c => ?_)
  · replace hw := hw.1 c
    exact z_vret C I hr ⟨rfl, hw⟩ (Nat.le_of_ble_eq_true rfl) (Nat.le_of_ble_eq_true rfl) dX5_demandDraft_24
  · replace hw := hw.2 c
    exact z_throwW C htab I 3 kt_X5_91_259 hw hl.1 dX5_demandDraft_13 dX5_demandDraft_16 dX5_demandDraft_17 dX5_demandDraft_20 dX5_demandDraft_23 ⟨Nat.le_of_ble_eq_true rfl, Nat.le_of_ble_eq_true rfl, Nat.le_of_ble_eq_true rfl, Nat.le_of_ble_eq_true rfl⟩ (Nat.le_of_ble_eq_true rfl) (Nat.le_of_ble_eq_true rfl)
set_option maxHeartbeats 4000000 in
set_option maxRecDepth 100000 in
theorem m_X2_sourceOf {X : zX} {l : Launch} (E : zEnv X l) {M : zM} {o : Nat} {p0 : Nat} {P : Option Nat → zM → Prop} {PX : Nat → zM → Prop} (hw : w_X2_sourceOf o p0 M P) : zCT X l yX2_sourceOf cX2_sourceOf 3 (some ((.object "SchemaSubjects$Field"))) 4 86 0 0 M [.ref o, .ref p0] (zPo P) PX := by
  refine z_entry E (by decide) ?_
  intro p e s m args below meth c C hr htab I
  have hx := C.1.1
  have hb := C.1.2.1
  obtain ⟨ls, he, hl⟩ := z_enter (m := m) (n := 3) (vs := [.ref o, .ref p0]) (l := [(0, .ref o), (1, .ref p0)]) (Nat.le_of_ble_eq_true rfl) rfl
  rw [he]
  clear he
  unfold w_X2_sourceOf at hw
  refine lv_aload_n hx hb dX2_sourceOf_0 rfl (lv_at hl 0 rfl) ?_
  refine lv_aload_n hx hb dX2_sourceOf_1 rfl (lv_at hl 1 rfl) ?_
  refine z_geti C I fl_X2_72 hw dX2_sourceOf_2 (fun v1 hw => ?_)
  obtain ⟨hrc, hw⟩ := hw
  refine z_callV C I (as := [.int v1]) (rest := []) (m_X2_named E hw) kv_X2_75 vc_3 hrc rfl rfl hl.1 (Nat.le_of_ble_eq_true rfl) ⟨Nat.le_of_ble_eq_true rfl, Nat.le_of_ble_eq_true rfl⟩ ⟨Nat.le_of_ble_eq_true rfl, Nat.le_of_ble_eq_true rfl⟩ dX2_sourceOf_5 (z_prop C htab (Nat.le_of_ble_eq_true rfl) (Nat.le_of_ble_eq_true rfl)) (fun v M2 _ _ I hv => ?_)
  obtain ⟨v3, rfl, hw⟩ := hv
  refine W.eq (g2 := F0 m 8 ls [va_rf v3]) rfl ?_
  refine z_astoren (lv' := [(2, va_rf v3), (0, .ref o), (1, .ref p0)]) C (r := v3) dX2_sourceOf_8 rfl hl (by decide) rfl (fun ls hl4 => ?_)
  refine z_aloadn C (r := v3) dX2_sourceOf_9 rfl (lv_at hl4 0 rfl) ?_
  refine z_ifnull C (r := v3) (tgt := 17) dX2_sourceOf_10 (by decide) (fun c => ?_) (fun a5 c => ?_)
  · have hq := hw.1 c
    subst c
    have hw := hq
    clear hq
    refine W.eq (g2 := F0 m 17 ls []) rfl ?_
    have hl6 : lv_has ls 3 [(2, va_rf none), (0, .ref o), (1, .ref p0)] := hl4
    refine lv_aload_n hx hb dX2_sourceOf_17 rfl (lv_at hl6 1 rfl) ?_
    refine lv_aload_n hx hb dX2_sourceOf_18 rfl (lv_at hl6 2 rfl) ?_
    refine z_geti C I fl_X2_79 hw dX2_sourceOf_19 (fun v8 hw => ?_)
    obtain ⟨hrc, hw⟩ := hw
    refine z_callV C I (as := [.int v8]) (rest := []) (m_X2_named E hw) kv_X2_75 vc_3 hrc rfl rfl hl6.1 (Nat.le_of_ble_eq_true rfl) ⟨Nat.le_of_ble_eq_true rfl, Nat.le_of_ble_eq_true rfl⟩ ⟨Nat.le_of_ble_eq_true rfl, Nat.le_of_ble_eq_true rfl⟩ dX2_sourceOf_22 (z_prop C htab (Nat.le_of_ble_eq_true rfl) (Nat.le_of_ble_eq_true rfl)) (fun v M9 _ _ I hv => ?_)
    obtain ⟨v10, rfl, hw⟩ := hv
    refine W.eq (g2 := F0 m 25 ls [va_rf v10]) rfl ?_
    exact z_aret C I hr (Or.inl ⟨_, rfl⟩) (v := v10) ⟨_, rfl, hw⟩ (Nat.le_of_ble_eq_true rfl) (Nat.le_of_ble_eq_true rfl) dX2_sourceOf_25
  · have hq := hw.2 a5 c
    subst c
    have hw := hq
    clear hq
    refine W.eq (g2 := F0 m 13 ls []) rfl ?_
    have hl7 : lv_has ls 3 [(2, .ref a5), (0, .ref o), (1, .ref p0)] := hl4
    refine lv_aload_n hx hb dX2_sourceOf_13 rfl (lv_at hl7 0 rfl) ?_
    refine lv_goto (tgt := 25) hx hb dX2_sourceOf_14 (by decide) ?_
    exact z_aret C I hr (Or.inl ⟨_, rfl⟩) (v := (some a5)) ⟨_, rfl, hw⟩ (Nat.le_of_ble_eq_true rfl) (Nat.le_of_ble_eq_true rfl) dX2_sourceOf_25
set_option maxHeartbeats 4000000 in
set_option maxRecDepth 100000 in
theorem m_X0_isReadFromType {X : zX} {l : Launch} (E : zEnv X l) {M : zM} {o : Nat} {p0 : Int32} {P : Int32 → zM → Prop} {PX : Nat → zM → Prop} (hw : w_X0_isReadFromType o p0 M P) : zCT X l yX0_isReadFromType cX0_isReadFromType 2 (some .boolean) 0 0 0 0 M [.ref o, .int p0] (zPz P) PX := by
  refine z_entry E (by decide) ?_
  intro p e s m args below meth c C hr htab I
  have hx := C.1.1
  have hb := C.1.2.1
  obtain ⟨ls, he, hl⟩ := z_enter (m := m) (n := 2) (vs := [.ref o, .int p0]) (l := [(0, .ref o), (1, .int p0)]) (Nat.le_of_ble_eq_true rfl) rfl
  rw [he]
  clear he
  unfold w_X0_isReadFromType at hw
  have hb_20 : ∀ (M : zM) (H : Heap) (locs : List Loc) (ls : Array Slot), zWk X s M H locs → lv_has ls 2 [] → w_X0_isReadFromType_20 o p0 P M → W p l e (zRm 0 0 0 0) s m args below meth c H locs 0 0 (vx_MQ below (zQc X (zPz P)) (zXc X PX) args s 0 0 (zBase X)) (F0 m 20 ls []) := by
    intro M H locs ls I hl hw
    unfold w_X0_isReadFromType_20 at hw
    refine lv_iconst (v := 1) hx hb dX0_isReadFromType_20 (by decide) ?_
    refine lv_goto (tgt := 25) hx hb dX0_isReadFromType_21 (by decide) ?_
    exact z_zret C I hr (Or.inr rfl) ⟨_, rfl, (Or.inr rfl), hw⟩ (Nat.le_of_ble_eq_true rfl) (Nat.le_of_ble_eq_true rfl) dX0_isReadFromType_25
  refine lv_aload_n hx hb dX0_isReadFromType_0 rfl (lv_at hl 0 rfl) ?_
  refine z_geti C I fl_X0_15 hw dX0_isReadFromType_1 (fun v1 hw => ?_)
  refine lv_iload_n hx hb dX0_isReadFromType_4 rfl (lv_at hl 1 rfl) ?_
  refine lv_icmp_eq (tgt := 20) hx hb dX0_isReadFromType_5 (by decide) (fun c => ?_) (fun c => ?_)
  · replace hw := hw.1 c
    refine W.widen (k := 0) (n := 0) (Nat.le_of_ble_eq_true rfl) (Nat.le_of_ble_eq_true rfl) ?_
    exact hb_20 _ _ _ ls I (lv_sub hl [] rfl) hw
  · replace hw := hw.2 c
    refine lv_aload_n hx hb dX0_isReadFromType_8 rfl (lv_at hl 0 rfl) ?_
    refine z_geti C I fl_X0_15 hw dX0_isReadFromType_9 (fun v2 hw => ?_)
    refine lv_iconst (v := 1) hx hb dX0_isReadFromType_12 (by decide) ?_
    refine lv_icmp_ne (tgt := 24) hx hb dX0_isReadFromType_13 (by decide) (fun c => ?_) (fun c => ?_)
    · replace hw := hw.1 c
      refine lv_iconst (v := 0) hx hb dX0_isReadFromType_24 (by decide) ?_
      exact z_zret C I hr (Or.inl rfl) ⟨_, rfl, (Or.inl rfl), hw⟩ (Nat.le_of_ble_eq_true rfl) (Nat.le_of_ble_eq_true rfl) dX0_isReadFromType_25
    · replace hw := hw.2 c
      refine lv_iload_n hx hb dX0_isReadFromType_16 rfl (lv_at hl 1 rfl) ?_
      refine lv_if_ne (tgt := 24) hx hb dX0_isReadFromType_17 (by decide) (fun c => ?_) (fun c => ?_)
      · replace hw := hw.1 c
        refine lv_iconst (v := 0) hx hb dX0_isReadFromType_24 (by decide) ?_
        exact z_zret C I hr (Or.inl rfl) ⟨_, rfl, (Or.inl rfl), hw⟩ (Nat.le_of_ble_eq_true rfl) (Nat.le_of_ble_eq_true rfl) dX0_isReadFromType_25
      · replace hw := hw.2 c
        refine W.widen (k := 0) (n := 0) (Nat.le_of_ble_eq_true rfl) (Nat.le_of_ble_eq_true rfl) ?_
        exact hb_20 _ _ _ ls I (lv_sub hl [] rfl) hw
set_option maxHeartbeats 4000000 in
set_option maxRecDepth 100000 in
theorem m_X5_canReadField {X : zX} {l : Launch} (E : zEnv X l) {rc0 : Option Nat → Option Nat → Int32 → zM → (Int32 → zM → Prop) → Prop} (FR LO : Nat) (hF : 12 ≤ FR) (hL : 300 ≤ LO) (hrec : ∀ (p0 : Option Nat) (p1 : Option Nat) (p2 : Int32) (M : zM) (P : Int32 → zM → Prop) {PX : Nat → zM → Prop}, rc0 p0 p1 p2 M P → zCT X l yX5_canReadSchema cX5_canReadSchema 4 (some .boolean) FR LO 0 0 M [va_rf p0, va_rf p1, .int p2] (zPz P) PX) {M : zM} {p0 : Nat} {p1 : Nat} {p2 : Int32} {P : Int32 → zM → Prop} {PX : Nat → zM → Prop} (hw : w_X5_canReadField rc0 p0 p1 p2 M P) : zCT X l yX5_canReadField cX5_canReadField 4 (some .boolean) (FR + 1) (LO + 40) 0 0 M [.ref p0, .ref p1, .int p2] (zPz P) PX := by
  refine z_entry E (by decide) ?_
  intro p e s m args below meth c C hr htab I
  have hx := C.1.1
  have hb := C.1.2.1
  obtain ⟨ls, he, hl⟩ := z_enter (m := m) (n := 4) (vs := [.ref p0, .ref p1, .int p2]) (l := [(0, .ref p0), (1, .ref p1), (2, .int p2)]) (Nat.le_of_ble_eq_true rfl) rfl
  rw [he]
  clear he
  unfold w_X5_canReadField at hw
  have hb_85 : ∀ (M : zM) (H : Heap) (locs : List Loc) (ls : Array Slot), zWk X s M H locs → lv_has ls 4 [] → w_X5_canReadField_85 rc0 p0 p1 p2 P M → W p l e (zRm (FR + 1) (LO + 40) 0 0) s m args below meth c H locs 0 0 (vx_MQ below (zQc X (zPz P)) (zXc X PX) args s 0 0 (zBase X)) (F0 m 85 ls []) := by
    intro M H locs ls I hl hw
    unfold w_X5_canReadField_85 at hw
    refine lv_iconst (v := 1) hx hb dX5_canReadField_85 (by decide) ?_
    refine lv_goto (tgt := 90) hx hb dX5_canReadField_86 (by decide) ?_
    exact z_zret C I hr (Or.inr rfl) ⟨_, rfl, (Or.inr rfl), hw⟩ (Nat.le_of_ble_eq_true rfl) (Nat.le_of_ble_eq_true rfl) dX5_canReadField_90
  have hb_54 : ∀ (M : zM) (H : Heap) (locs : List Loc) (ls : Array Slot), zWk X s M H locs → lv_has ls 4 [] → w_X5_canReadField_54 rc0 p0 p1 p2 P M → W p l e (zRm (FR + 1) (LO + 40) 0 0) s m args below meth c H locs 0 0 (vx_MQ below (zQc X (zPz P)) (zXc X PX) args s 0 0 (zBase X)) (F0 m 54 ls []) := by
    intro M H locs ls I hl hw
    unfold w_X5_canReadField_54 at hw
    refine lv_iconst (v := 1) hx hb dX5_canReadField_54 (by decide) ?_
    refine lv_goto (tgt := 59) hx hb dX5_canReadField_55 (by decide) ?_
    exact z_zret C I hr (Or.inr rfl) ⟨_, rfl, (Or.inr rfl), hw⟩ (Nat.le_of_ble_eq_true rfl) (Nat.le_of_ble_eq_true rfl) dX5_canReadField_59
  refine lv_aload_n hx hb dX5_canReadField_0 rfl (lv_at hl 1 rfl) ?_
  refine lv_aload_n hx hb dX5_canReadField_1 rfl (lv_at hl 0 rfl) ?_
  obtain ⟨hrc, hw⟩ := hw
  refine z_callV C I (as := [.ref p0]) (rest := []) (m_X2_sourceOf E hw) kv_X5_272 vc_3 hrc rfl rfl hl.1 (Nat.le_of_ble_eq_true rfl) ⟨by show _ ≤ FR + 1; omega, by show _ ≤ LO + 40; omega⟩ ⟨Nat.le_of_ble_eq_true rfl, Nat.le_of_ble_eq_true rfl⟩ dX5_canReadField_2 (z_prop C htab (Nat.le_of_ble_eq_true rfl) (Nat.le_of_ble_eq_true rfl)) (fun v M1 _ _ I hv => ?_)
  obtain ⟨v2, rfl, hw⟩ := hv
  refine W.eq (g2 := F0 m 5 ls [va_rf v2]) rfl ?_
  refine z_astoren (lv' := [(3, va_rf v2), (0, .ref p0), (1, .ref p1), (2, .int p2)]) C (r := v2) dX5_canReadField_5 rfl hl (by decide) rfl (fun ls hl3 => ?_)
  refine z_aloadn C (r := v2) dX5_canReadField_6 rfl (lv_at hl3 0 rfl) ?_
  refine z_ifnonnull C (r := v2) (tgt := 15) dX5_canReadField_7 (by decide) (fun a4 c => ?_) (fun c => ?_)
  · have hq := hw.2 a4 c
    subst c
    have hw := hq
    clear hq
    refine W.eq (g2 := F0 m 15 ls []) rfl ?_
    have hl6 : lv_has ls 4 [(3, .ref a4), (0, .ref p0), (1, .ref p1), (2, .int p2)] := hl3
    refine lv_aload_n hx hb dX5_canReadField_15 rfl (lv_at hl6 1 rfl) ?_
    refine lv_aload_n hx hb dX5_canReadField_16 rfl (lv_at hl6 0 rfl) ?_
    refine z_geti C I fl_X5_113 hw dX5_canReadField_17 (fun v8 hw => ?_)
    obtain ⟨hrc, hw⟩ := hw
    refine z_callV C I (as := [.int v8]) (rest := []) (m_X0_isReadFromType E hw) kv_X5_276 vc_1 hrc rfl rfl hl6.1 (Nat.le_of_ble_eq_true rfl) ⟨by show _ ≤ FR + 1; omega, by show _ ≤ LO + 40; omega⟩ ⟨Nat.le_of_ble_eq_true rfl, Nat.le_of_ble_eq_true rfl⟩ dX5_canReadField_20 (z_prop C htab (Nat.le_of_ble_eq_true rfl) (Nat.le_of_ble_eq_true rfl)) (fun v M9 _ _ I hv => ?_)
    obtain ⟨v10, rfl, hv10, hw⟩ := hv
    refine W.eq (g2 := F0 m 23 ls [.int v10]) rfl ?_
    refine lv_if_ne (tgt := 28) hx hb dX5_canReadField_23 (by decide) (fun c => ?_) (fun c => ?_)
    · replace hw := hw.1 c
      refine lv_aload_n hx hb dX5_canReadField_28 rfl (lv_at hl6 1 rfl) ?_
      refine z_geti C I fl_X5_113 hw dX5_canReadField_29 (fun v11 hw => ?_)
      refine lv_iconst (v := 3) hx hb dX5_canReadField_32 (by decide) ?_
      refine lv_icmp_ne (tgt := 60) hx hb dX5_canReadField_33 (by decide) (fun c => ?_) (fun c => ?_)
      · replace hw := hw.1 c
        refine lv_aload_n hx hb dX5_canReadField_60 rfl (lv_at hl6 1 rfl) ?_
        refine z_geti C I fl_X5_113 hw dX5_canReadField_61 (fun v12 hw => ?_)
        refine lv_iconst (v := 4) hx hb dX5_canReadField_64 (by decide) ?_
        refine lv_icmp_ne (tgt := 85) hx hb dX5_canReadField_65 (by decide) (fun c => ?_) (fun c => ?_)
        · replace hw := hw.1 c
          refine W.widen (k := 0) (n := 0) (Nat.le_of_ble_eq_true rfl) (Nat.le_of_ble_eq_true rfl) ?_
          exact hb_85 _ _ _ ls I (lv_sub hl6 [] rfl) hw
        · replace hw := hw.2 c
          refine lv_aload_n hx hb dX5_canReadField_68 rfl (lv_at hl6 1 rfl) ?_
          refine z_geto C I fl_X5_279 hw dX5_canReadField_69 (fun v13 hw => ?_)
          refine lv_aload_n hx hb dX5_canReadField_72 rfl (lv_at hl6 0 rfl) ?_
          refine z_geto C I fl_X5_279 hw dX5_canReadField_73 (fun v14 hw => ?_)
          refine lv_iload_n hx hb dX5_canReadField_76 rfl (lv_at hl6 3 rfl) ?_
          refine lv_iconst (v := 1) hx hb dX5_canReadField_77 (by decide) ?_
          refine lv_iadd hx hb dX5_canReadField_78 ?_
          refine z_callS C I (as := [va_rf v13, va_rf v14, .int (p2 + (1 : Int32))]) (rest := []) (hrec _ _ _ _ _ hw) ks_X5_205 rfl rfl hl6.1 (Nat.le_of_ble_eq_true rfl) ⟨by show _ ≤ FR + 1; omega, by show _ ≤ LO + 40; omega⟩ ⟨Nat.le_of_ble_eq_true rfl, Nat.le_of_ble_eq_true rfl⟩ dX5_canReadField_79 (z_prop C htab (Nat.le_of_ble_eq_true rfl) (Nat.le_of_ble_eq_true rfl)) (fun v M15 _ _ I hv => ?_)
          obtain ⟨v16, rfl, hv16, hw⟩ := hv
          refine W.eq (g2 := F0 m 82 ls [.int v16]) rfl ?_
          refine lv_if_eq (tgt := 89) hx hb dX5_canReadField_82 (by decide) (fun c => ?_) (fun c => ?_)
          · replace hw := hw.1 c
            refine lv_iconst (v := 0) hx hb dX5_canReadField_89 (by decide) ?_
            exact z_zret C I hr (Or.inl rfl) ⟨_, rfl, (Or.inl rfl), hw⟩ (Nat.le_of_ble_eq_true rfl) (Nat.le_of_ble_eq_true rfl) dX5_canReadField_90
          · replace hw := hw.2 c
            refine W.widen (k := 0) (n := 0) (Nat.le_of_ble_eq_true rfl) (Nat.le_of_ble_eq_true rfl) ?_
            exact hb_85 _ _ _ ls I (lv_sub hl6 [] rfl) hw
      · replace hw := hw.2 c
        refine lv_aload_n hx hb dX5_canReadField_36 rfl (lv_at hl6 1 rfl) ?_
        refine z_geti C I fl_X5_119 hw dX5_canReadField_37 (fun v17 hw => ?_)
        refine lv_aload_n hx hb dX5_canReadField_40 rfl (lv_at hl6 0 rfl) ?_
        refine z_geti C I fl_X5_119 hw dX5_canReadField_41 (fun v18 hw => ?_)
        refine lv_icmp_ge (tgt := 54) hx hb dX5_canReadField_44 (by decide) (fun c => ?_) (fun c => ?_)
        · replace hw := hw.1 c
          refine W.widen (k := 0) (n := 0) (Nat.le_of_ble_eq_true rfl) (Nat.le_of_ble_eq_true rfl) ?_
          exact hb_54 _ _ _ ls I (lv_sub hl6 [] rfl) hw
        · replace hw := hw.2 c
          refine lv_aload_n hx hb dX5_canReadField_47 rfl (lv_at hl6 1 rfl) ?_
          refine z_geti C I fl_X5_127 hw dX5_canReadField_48 (fun v19 hw => ?_)
          refine lv_if_eq (tgt := 58) hx hb dX5_canReadField_51 (by decide) (fun c => ?_) (fun c => ?_)
          · replace hw := hw.1 c
            refine lv_iconst (v := 0) hx hb dX5_canReadField_58 (by decide) ?_
            exact z_zret C I hr (Or.inl rfl) ⟨_, rfl, (Or.inl rfl), hw⟩ (Nat.le_of_ble_eq_true rfl) (Nat.le_of_ble_eq_true rfl) dX5_canReadField_59
          · replace hw := hw.2 c
            refine W.widen (k := 0) (n := 0) (Nat.le_of_ble_eq_true rfl) (Nat.le_of_ble_eq_true rfl) ?_
            exact hb_54 _ _ _ ls I (lv_sub hl6 [] rfl) hw
    · replace hw := hw.2 c
      refine lv_iconst (v := 0) hx hb dX5_canReadField_26 (by decide) ?_
      exact z_zret C I hr (Or.inl rfl) ⟨_, rfl, (Or.inl rfl), hw⟩ (Nat.le_of_ble_eq_true rfl) (Nat.le_of_ble_eq_true rfl) dX5_canReadField_27
  · have hq := hw.1 c
    subst c
    have hw := hq
    clear hq
    refine W.eq (g2 := F0 m 10 ls []) rfl ?_
    have hl5 : lv_has ls 4 [(3, va_rf none), (0, .ref p0), (1, .ref p1), (2, .int p2)] := hl3
    refine lv_aload_n hx hb dX5_canReadField_10 rfl (lv_at hl5 1 rfl) ?_
    refine z_geti C I fl_X5_127 hw dX5_canReadField_11 (fun v7 hw => ?_)
    obtain ⟨h01, hw⟩ := hw
    exact z_zret C I hr h01 ⟨_, rfl, h01, hw⟩ (Nat.le_of_ble_eq_true rfl) (Nat.le_of_ble_eq_true rfl) dX5_canReadField_14
