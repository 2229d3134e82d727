set_option maxHeartbeats 4000000 in
set_option maxRecDepth 100000 in
theorem m_X6_field {X : zX} {l : Launch} (E : zEnv X l) {M : zM} {o : Nat} {p0 : Int32} {p1 : Int32} {p2 : Int32} {p3 : Int32} {P : Int32 → zM → Prop} {PX : Nat → zM → Prop} (hw : w_X6_field o p0 p1 p2 p3 M P) : zCT X l yX6_field cX6_field 6 (some .int) 4 92 0 0 M [.ref o, .int p0, .int p1, .int p2, .int p3] (zPi P) PX := by
  refine z_entry E (by decide) ?_
  intro p e s m args below meth c C hr htab I
  have hx := C.1.1
  have hb := C.1.2.1
  obtain ⟨ls, he, hl⟩ := z_enter (m := m) (n := 6) (vs := [.ref o, .int p0, .int p1, .int p2, .int p3]) (l := [(0, .ref o), (1, .int p0), (2, .int p1), (3, .int p2), (4, .int p3)]) (Nat.le_of_ble_eq_true rfl) rfl
  rw [he]
  clear he
  unfold w_X6_field at hw
  have hb_116 : ∀ (y0 : Int32) (y1 : Int32) (y2 : Int32) (y3 : Nat) (M : zM) (H : Heap) (locs : List Loc) (ls : Array Slot), zWk X s M H locs → lv_has ls 6 [(0, .ref o)] → w_X6_field_116 o p0 p1 p2 p3 P y0 y1 y2 y3 M → W p l e (zRm 4 92 0 0) s m args below meth c H locs 0 0 (vx_MQ below (zQc X (zPi P)) (zXc X PX) args s 0 0 (zBase X)) (F0 m 116 ls [.int y0, .int y1, .int y2, .ref y3]) := by
    intro y0 y1 y2 y3 M H locs ls I hl hw
    unfold w_X6_field_116 at hw
    refine lv_iadd hx hb dX6_field_116 ?_
    refine z_iast C I hw dX6_field_117 (fun M1 _ _ I hw => ?_)
    refine lv_aload_n hx hb dX6_field_118 rfl (lv_at hl 0 rfl) ?_
    refine z_getr C I fl_X6_29 hw dX6_field_119 (fun v2 hw => ?_)
    refine lv_bipush (v := 36) hx hb dX6_field_122 (by decide) ?_
    refine lv_dup2_11 hx hb dX6_field_124 rfl rfl ?_
    refine z_iald C I hw dX6_field_125 (fun v3 hw => ?_)
    refine lv_iconst (v := 1) hx hb dX6_field_126 (by decide) ?_
    refine lv_iadd hx hb dX6_field_127 ?_
    refine z_iast C I hw dX6_field_128 (fun M4 _ _ I hw => ?_)
    refine lv_aload_n hx hb dX6_field_129 rfl (lv_at hl 0 rfl) ?_
    refine z_getr C I fl_X6_29 hw dX6_field_130 (fun v5 hw => ?_)
    refine lv_bipush (v := 36) hx hb dX6_field_133 (by decide) ?_
    refine z_iald C I hw dX6_field_135 (fun v6 hw => ?_)
    exact z_iret C I hr ⟨_, rfl, hw⟩ (Nat.le_of_ble_eq_true rfl) (Nat.le_of_ble_eq_true rfl) dX6_field_136
  have hb_63 : ∀ (x5 : Int32) (y0 : Int32) (y1 : Int32) (y2 : Nat) (M : zM) (H : Heap) (locs : List Loc) (ls : Array Slot), zWk X s M H locs → lv_has ls 6 [(0, .ref o), (2, .int p1), (3, .int p2), (4, .int p3), (5, .int x5)] → w_X6_field_63 o p0 p1 p2 p3 P x5 y0 y1 y2 M → W p l e (zRm 4 92 0 0) s m args below meth c H locs 0 0 (vx_MQ below (zQc X (zPi P)) (zXc X PX) args s 0 0 (zBase X)) (F0 m 63 ls [.int y0, .int y1, .ref y2]) := by
    intro x5 y0 y1 y2 M H locs ls I hl hw
    unfold w_X6_field_63 at hw
    refine z_iast C I hw dX6_field_63 (fun M7 _ _ I hw => ?_)
    refine lv_aload_n hx hb dX6_field_64 rfl (lv_at hl 0 rfl) ?_
    refine z_getr C I fl_X6_19 hw dX6_field_65 (fun v8 hw => ?_)
    refine lv_iload hx hb dX6_field_68 (lv_at hl 4 rfl) ?_
    refine lv_iload hx hb dX6_field_70 (lv_at hl 3 rfl) ?_
    refine z_iast C I hw dX6_field_72 (fun M9 _ _ I hw => ?_)
    refine lv_aload_n hx hb dX6_field_73 rfl (lv_at hl 0 rfl) ?_
    refine z_getr C I fl_X6_22 hw dX6_field_74 (fun v10 hw => ?_)
    refine lv_iload hx hb dX6_field_77 (lv_at hl 4 rfl) ?_
    refine lv_iconst (v := 0) hx hb dX6_field_79 (by decide) ?_
    refine z_zast C I hw dX6_field_80 (fun M11 _ _ I hw => ?_)
    refine lv_aload_n hx hb dX6_field_81 rfl (lv_at hl 0 rfl) ?_
    refine z_getr C I fl_X6_26 hw dX6_field_82 (fun v12 hw => ?_)
    refine lv_iload hx hb dX6_field_85 (lv_at hl 4 rfl) ?_
    refine lv_iconst (v := 0) hx hb dX6_field_87 (by decide) ?_
    refine z_iast C I hw dX6_field_88 (fun M13 _ _ I hw => ?_)
    refine lv_aload_n hx hb dX6_field_89 rfl (lv_at hl 0 rfl) ?_
    refine z_getr C I fl_X6_32 hw dX6_field_90 (fun v14 hw => ?_)
    refine lv_bipush (v := 36) hx hb dX6_field_93 (by decide) ?_
    refine lv_dup2_11 hx hb dX6_field_95 rfl rfl ?_
    refine z_iald C I hw dX6_field_96 (fun v15 hw => ?_)
    refine lv_iload_n hx hb dX6_field_97 rfl (lv_at hl 1 rfl) ?_
    refine lv_iconst (v := 4) hx hb dX6_field_98 (by decide) ?_
    refine lv_icmp_ne (tgt := 115) hx hb dX6_field_99 (by decide) (fun c => ?_) (fun c => ?_)
    · replace hw := hw.1 c
      refine lv_iconst (v := 1) hx hb dX6_field_115 (by decide) ?_
      refine W.widen (k := 0) (n := 0) (Nat.le_of_ble_eq_true rfl) (Nat.le_of_ble_eq_true rfl) ?_
      exact hb_116 (1 : Int32) v15 (36 : Int32) v14 _ _ _ ls I (lv_sub hl [0] rfl) hw
    · replace hw := hw.2 c
      refine lv_aload_n hx hb dX6_field_102 rfl (lv_at hl 0 rfl) ?_
      refine z_getr C I fl_X6_32 hw dX6_field_103 (fun v16 hw => ?_)
      refine lv_aload_n hx hb dX6_field_106 rfl (lv_at hl 0 rfl) ?_
      refine lv_iload_n hx hb dX6_field_107 rfl (lv_at hl 2 rfl) ?_
      obtain ⟨hrc, hw⟩ := hw
      refine z_callV C I (as := [.int p2]) (rest := [.ref v16, .int v15, .int (36 : Int32), .ref v14]) (m_X6_schemaOf E hw) kv_X6_90 vc_7 hrc rfl rfl hl.1 (Nat.le_of_ble_eq_true rfl) ⟨Nat.le_of_ble_eq_true rfl, Nat.le_of_ble_eq_true rfl⟩ ⟨Nat.le_of_ble_eq_true rfl, Nat.le_of_ble_eq_true rfl⟩ dX6_field_108 (z_prop C htab (Nat.le_of_ble_eq_true rfl) (Nat.le_of_ble_eq_true rfl)) (fun v M17 _ _ I hv => ?_)
      obtain ⟨v18, rfl, hw⟩ := hv
      refine W.eq (g2 := F0 m 111 ls [.int v18, .ref v16, .int v15, .int (36 : Int32), .ref v14]) rfl ?_
      refine z_iald C I hw dX6_field_111 (fun v19 hw => ?_)
      refine lv_goto (tgt := 116) hx hb dX6_field_112 (by decide) ?_
      refine W.widen (k := 0) (n := 0) (Nat.le_of_ble_eq_true rfl) (Nat.le_of_ble_eq_true rfl) ?_
      exact hb_116 v19 v15 (36 : Int32) v14 _ _ _ ls I (lv_sub hl [0] rfl) hw
  refine lv_aload_n hx hb dX6_field_0 rfl (lv_at hl 0 rfl) ?_
  refine lv_aload_n hx hb dX6_field_1 rfl (lv_at hl 0 rfl) ?_
  refine lv_iload_n hx hb dX6_field_2 rfl (lv_at hl 1 rfl) ?_
  refine lv_iload_n hx hb dX6_field_3 rfl (lv_at hl 2 rfl) ?_
  refine lv_iload_n hx hb dX6_field_4 rfl (lv_at hl 3 rfl) ?_
  refine lv_iload hx hb dX6_field_5 (lv_at hl 4 rfl) ?_
  obtain ⟨hrc, hw⟩ := hw
  refine z_callV C I (as := [.int p0, .int p1, .int p2, .int p3]) (rest := [.ref o]) (m_X6_errorOfField E hw) kv_X6_98 vc_7 hrc rfl rfl hl.1 (Nat.le_of_ble_eq_true rfl) ⟨Nat.le_of_ble_eq_true rfl, Nat.le_of_ble_eq_true rfl⟩ ⟨Nat.le_of_ble_eq_true rfl, Nat.le_of_ble_eq_true rfl⟩ dX6_field_7 (z_prop C htab (Nat.le_of_ble_eq_true rfl) (Nat.le_of_ble_eq_true rfl)) (fun v M20 _ _ I hv => ?_)
  obtain ⟨v21, rfl, hw⟩ := hv
  refine W.eq (g2 := F0 m 10 ls [.int v21, .ref o]) rfl ?_
  obtain ⟨hrc, hw⟩ := hw
  refine z_callV C I (as := [.int v21]) (rest := []) (m_X6_holds E hw) kv_X6_102 vc_7 hrc rfl rfl hl.1 (Nat.le_of_ble_eq_true rfl) ⟨Nat.le_of_ble_eq_true rfl, Nat.le_of_ble_eq_true rfl⟩ ⟨Nat.le_of_ble_eq_true rfl, Nat.le_of_ble_eq_true rfl⟩ dX6_field_10 (z_prop C htab (Nat.le_of_ble_eq_true rfl) (Nat.le_of_ble_eq_true rfl)) (fun v M22 _ _ I hv => ?_)
  obtain ⟨v23, rfl, hv23, hw⟩ := hv
  refine W.eq (g2 := F0 m 13 ls [.int v23]) rfl ?_
  refine lv_if_ne (tgt := 18) hx hb dX6_field_13 (by decide) (fun c => ?_) (fun c => ?_)
  · replace hw := hw.1 c
    refine lv_sipush (v := 180) hx hb dX6_field_18 (by decide) ?_
    refine lv_aload_n hx hb dX6_field_21 rfl (lv_at hl 0 rfl) ?_
    refine z_getr C I fl_X6_29 hw dX6_field_22 (fun v24 hw => ?_)
    refine lv_bipush (v := 36) hx hb dX6_field_25 (by decide) ?_
    refine z_iald C I hw dX6_field_27 (fun v25 hw => ?_)
    refine lv_iadd hx hb dX6_field_28 ?_
    refine lv_istore (lv' := [(5, .int ((180 : Int32) + v25)), (0, .ref o), (1, .int p0), (2, .int p1), (3, .int p2), (4, .int p3)]) hx hb dX6_field_29 hl (by decide) rfl (fun ls hl26 => ?_)
    refine lv_aload_n hx hb dX6_field_31 rfl (lv_at hl26 1 rfl) ?_
    refine z_getr C I fl_X6_7 hw dX6_field_32 (fun v27 hw => ?_)
    refine lv_iload hx hb dX6_field_35 (lv_at hl26 0 rfl) ?_
    refine lv_iload_n hx hb dX6_field_37 rfl (lv_at hl26 2 rfl) ?_
    refine z_iast C I hw dX6_field_38 (fun M28 _ _ I hw => ?_)
    refine lv_aload_n hx hb dX6_field_39 rfl (lv_at hl26 1 rfl) ?_
    refine z_getr C I fl_X6_13 hw dX6_field_40 (fun v29 hw => ?_)
    refine lv_iload hx hb dX6_field_43 (lv_at hl26 0 rfl) ?_
    refine lv_iload_n hx hb dX6_field_45 rfl (lv_at hl26 3 rfl) ?_
    refine z_iast C I hw dX6_field_46 (fun M30 _ _ I hw => ?_)
    refine lv_aload_n hx hb dX6_field_47 rfl (lv_at hl26 1 rfl) ?_
    refine z_getr C I fl_X6_16 hw dX6_field_48 (fun v31 hw => ?_)
    refine lv_iload hx hb dX6_field_51 (lv_at hl26 0 rfl) ?_
    refine lv_iload_n hx hb dX6_field_53 rfl (lv_at hl26 3 rfl) ?_
    refine lv_iconst (v := 2) hx hb dX6_field_54 (by decide) ?_
    refine lv_icmp_le (tgt := 62) hx hb dX6_field_55 (by decide) (fun c => ?_) (fun c => ?_)
    · replace hw := hw.1 c
      refine lv_iconst (v := 0) hx hb dX6_field_62 (by decide) ?_
      refine W.widen (k := 0) (n := 0) (Nat.le_of_ble_eq_true rfl) (Nat.le_of_ble_eq_true rfl) ?_
      exact hb_63 ((180 : Int32) + v25) (0 : Int32) ((180 : Int32) + v25) v31 _ _ _ ls I (lv_sub hl26 [1, 3, 4, 5, 0] rfl) hw
    · replace hw := hw.2 c
      refine lv_iload_n hx hb dX6_field_58 rfl (lv_at hl26 4 rfl) ?_
      refine lv_goto (tgt := 63) hx hb dX6_field_59 (by decide) ?_
      refine W.widen (k := 0) (n := 0) (Nat.le_of_ble_eq_true rfl) (Nat.le_of_ble_eq_true rfl) ?_
      exact hb_63 ((180 : Int32) + v25) p2 ((180 : Int32) + v25) v31 _ _ _ ls I (lv_sub hl26 [1, 3, 4, 5, 0] rfl) hw
  · replace hw := hw.2 c
    refine lv_iconst (v := 0) hx hb dX6_field_16 (by decide) ?_
    exact z_iret C I hr ⟨_, rfl, hw⟩ (Nat.le_of_ble_eq_true rfl) (Nat.le_of_ble_eq_true rfl) dX6_field_17
set_option maxHeartbeats 4000000 in
set_option maxRecDepth 100000 in
theorem m_X6_isValue {X : zX} {l : Launch} (E : zEnv X l) {M : zM} {o : Nat} {p0 : Int32} {p1 : Int32} {P : Int32 → zM → Prop} {PX : Nat → zM → Prop} (hw : w_X6_isValue o p0 p1 M P) : zCT X l yX6_isValue cX6_isValue 4 (some .boolean) 1 22 0 0 M [.ref o, .int p0, .int p1] (zPz P) PX := by
  refine z_entry E (by decide) ?_
  intro p e s m args below meth c C hr htab I
  have hx := C.1.1
  have hb := C.1.2.1
  obtain ⟨ls, he, hl⟩ := z_enter (m := m) (n := 4) (vs := [.ref o, .int p0, .int p1]) (l := [(0, .ref o), (1, .int p0), (2, .int p1)]) (Nat.le_of_ble_eq_true rfl) rfl
  rw [he]
  clear he
  unfold w_X6_isValue at hw
  have hb_37 : ∀ (M : zM) (H : Heap) (locs : List Loc) (ls : Array Slot), zWk X s M H locs → lv_has ls 4 [] → w_X6_isValue_37 o p0 p1 P M → W p l e (zRm 1 22 0 0) s m args below meth c H locs 0 0 (vx_MQ below (zQc X (zPz P)) (zXc X PX) args s 0 0 (zBase X)) (F0 m 37 ls []) := by
    intro M H locs ls I hl hw
    unfold w_X6_isValue_37 at hw
    refine lv_iconst (v := 1) hx hb dX6_isValue_37 (by decide) ?_
    refine lv_goto (tgt := 42) hx hb dX6_isValue_38 (by decide) ?_
    exact z_zret C I hr (Or.inr rfl) ⟨_, rfl, (Or.inr rfl), hw⟩ (Nat.le_of_ble_eq_true rfl) (Nat.le_of_ble_eq_true rfl) dX6_isValue_42
  have hb_31 : ∀ (y0 : Int32) (y1 : Int32) (y2 : Int32) (M : zM) (H : Heap) (locs : List Loc) (ls : Array Slot), zWk X s M H locs → lv_has ls 4 [] → w_X6_isValue_31 o p0 p1 P y0 y1 y2 M → W p l e (zRm 1 22 0 0) s m args below meth c H locs 0 0 (vx_MQ below (zQc X (zPz P)) (zXc X PX) args s 0 0 (zBase X)) (F0 m 31 ls [.int y0, .int y1, .int y2]) := by
    intro y0 y1 y2 M H locs ls I hl hw
    unfold w_X6_isValue_31 at hw
    refine z_callS C I (as := [.int y2, .int y1, .int y0]) (rest := []) (m_X6_in E hw) ks_X6_75 rfl rfl hl.1 (Nat.le_of_ble_eq_true rfl) ⟨Nat.le_of_ble_eq_true rfl, Nat.le_of_ble_eq_true rfl⟩ ⟨Nat.le_of_ble_eq_true rfl, Nat.le_of_ble_eq_true rfl⟩ dX6_isValue_31 (z_prop C htab (Nat.le_of_ble_eq_true rfl) (Nat.le_of_ble_eq_true rfl)) (fun v M1 _ _ I hv => ?_)
    obtain ⟨v2, rfl, hv2, hw⟩ := hv
    refine W.eq (g2 := F0 m 34 ls [.int v2]) rfl ?_
    refine lv_if_eq (tgt := 41) hx hb dX6_isValue_34 (by decide) (fun c => ?_) (fun c => ?_)
    · replace hw := hw.1 c
      refine lv_iconst (v := 0) hx hb dX6_isValue_41 (by decide) ?_
      exact z_zret C I hr (Or.inl rfl) ⟨_, rfl, (Or.inl rfl), hw⟩ (Nat.le_of_ble_eq_true rfl) (Nat.le_of_ble_eq_true rfl) dX6_isValue_42
    · replace hw := hw.2 c
      refine W.widen (k := 0) (n := 0) (Nat.le_of_ble_eq_true rfl) (Nat.le_of_ble_eq_true rfl) ?_
      exact hb_37 _ _ _ ls I (lv_sub hl [] rfl) hw
  refine lv_aload_n hx hb dX6_isValue_0 rfl (lv_at hl 0 rfl) ?_
  refine z_getr C I fl_X6_13 hw dX6_isValue_1 (fun v3 hw => ?_)
  refine lv_iload_n hx hb dX6_isValue_4 rfl (lv_at hl 1 rfl) ?_
  refine z_iald C I hw dX6_isValue_5 (fun v4 hw => ?_)
  refine lv_istore_n (lv' := [(3, .int v4), (0, .ref o), (1, .int p0), (2, .int p1)]) hx hb dX6_isValue_6 rfl hl (by decide) rfl (fun ls hl5 => ?_)
  refine lv_iload_n hx hb dX6_isValue_7 rfl (lv_at hl5 0 rfl) ?_
  refine lv_iconst (v := 2) hx hb dX6_isValue_8 (by decide) ?_
  refine lv_icmp_lt (tgt := 37) hx hb dX6_isValue_9 (by decide) (fun c => ?_) (fun c => ?_)
  · replace hw := hw.1 c
    refine W.widen (k := 0) (n := 0) (Nat.le_of_ble_eq_true rfl) (Nat.le_of_ble_eq_true rfl) ?_
    exact hb_37 _ _ _ ls I (lv_sub hl5 [] rfl) hw
  · replace hw := hw.2 c
    refine lv_iload_n hx hb dX6_isValue_12 rfl (lv_at hl5 3 rfl) ?_
    refine lv_iconst (v := 0) hx hb dX6_isValue_13 (by decide) ?_
    refine lv_iload_n hx hb dX6_isValue_14 rfl (lv_at hl5 0 rfl) ?_
    refine lv_iconst (v := 2) hx hb dX6_isValue_15 (by decide) ?_
    refine lv_icmp_ne (tgt := 23) hx hb dX6_isValue_16 (by decide) (fun c => ?_) (fun c => ?_)
    · replace hw := hw.1 c
      refine lv_aload_n hx hb dX6_isValue_23 rfl (lv_at hl5 1 rfl) ?_
      refine z_getr C I fl_X6_16 hw dX6_isValue_24 (fun v6 hw => ?_)
      refine lv_iload_n hx hb dX6_isValue_27 rfl (lv_at hl5 2 rfl) ?_
      refine z_iald C I hw dX6_isValue_28 (fun v7 hw => ?_)
      refine lv_iconst (v := 1) hx hb dX6_isValue_29 (by decide) ?_
      refine lv_isub hx hb dX6_isValue_30 ?_
      refine W.widen (k := 0) (n := 0) (Nat.le_of_ble_eq_true rfl) (Nat.le_of_ble_eq_true rfl) ?_
      exact hb_31 (v7 - (1 : Int32)) (0 : Int32) p1 _ _ _ ls I (lv_sub hl5 [] rfl) hw
    · replace hw := hw.2 c
      refine lv_iconst (v := 1) hx hb dX6_isValue_19 (by decide) ?_
      refine lv_goto (tgt := 31) hx hb dX6_isValue_20 (by decide) ?_
      refine W.widen (k := 0) (n := 0) (Nat.le_of_ble_eq_true rfl) (Nat.le_of_ble_eq_true rfl) ?_
      exact hb_31 (1 : Int32) (0 : Int32) p1 _ _ _ ls I (lv_sub hl5 [] rfl) hw
set_option maxHeartbeats 4000000 in
set_option maxRecDepth 100000 in
theorem m_X6_byDefault {X : zX} {l : Launch} (E : zEnv X l) {M : zM} {o : Nat} {p0 : Int32} {P : Int32 → zM → Prop} {PX : Nat → zM → Prop} (hw : w_X6_byDefault o p0 M P) : zCT X l yX6_byDefault cX6_byDefault 3 (some .int) 2 45 0 0 M [.ref o, .int p0] (zPi P) PX := by
  refine z_entry E (by decide) ?_
  intro p e s m args below meth c C hr htab I
  have hx := C.1.1
  have hb := C.1.2.1
  obtain ⟨ls, he, hl⟩ := z_enter (m := m) (n := 3) (vs := [.ref o, .int p0]) (l := [(0, .ref o), (1, .int p0)]) (Nat.le_of_ble_eq_true rfl) rfl
  rw [he]
  clear he
  unfold w_X6_byDefault at hw
  have hb_53 : ∀ (x2 : Int32) (y0 : Int32) (y1 : Nat) (M : zM) (H : Heap) (locs : List Loc) (ls : Array Slot), zWk X s M H locs → lv_has ls 3 [(0, .ref o), (1, .int p0), (2, .int x2)] → w_X6_byDefault_53 o p0 P x2 y0 y1 M → W p l e (zRm 2 45 0 0) s m args below meth c H locs 0 0 (vx_MQ below (zQc X (zPi P)) (zXc X PX) args s 0 0 (zBase X)) (F0 m 53 ls [.int y0, .ref y1]) := by
    intro x2 y0 y1 M H locs ls I hl hw
    unfold w_X6_byDefault_53 at hw
    obtain ⟨hrc, hw⟩ := hw
    refine z_callV C I (as := [.int y0]) (rest := []) (m_X6_holds E hw) kv_X6_102 vc_7 hrc rfl rfl hl.1 (Nat.le_of_ble_eq_true rfl) ⟨Nat.le_of_ble_eq_true rfl, Nat.le_of_ble_eq_true rfl⟩ ⟨Nat.le_of_ble_eq_true rfl, Nat.le_of_ble_eq_true rfl⟩ dX6_byDefault_53 (z_prop C htab (Nat.le_of_ble_eq_true rfl) (Nat.le_of_ble_eq_true rfl)) (fun v M1 _ _ I hv => ?_)
    obtain ⟨v2, rfl, hv2, hw⟩ := hv
    refine W.eq (g2 := F0 m 56 ls [.int v2]) rfl ?_
    refine lv_if_ne (tgt := 61) hx hb dX6_byDefault_56 (by decide) (fun c => ?_) (fun c => ?_)
    · replace hw := hw.1 c
      refine lv_aload_n hx hb dX6_byDefault_61 rfl (lv_at hl 0 rfl) ?_
      refine z_getr C I fl_X6_22 hw dX6_byDefault_62 (fun v3 hw => ?_)
      refine lv_iload_n hx hb dX6_byDefault_65 rfl (lv_at hl 2 rfl) ?_
      refine lv_iconst (v := 1) hx hb dX6_byDefault_66 (by decide) ?_
      refine z_zast C I hw dX6_byDefault_67 (fun M4 _ _ I hw => ?_)
      refine lv_aload_n hx hb dX6_byDefault_68 rfl (lv_at hl 0 rfl) ?_
      refine z_getr C I fl_X6_26 hw dX6_byDefault_69 (fun v5 hw => ?_)
      refine lv_iload_n hx hb dX6_byDefault_72 rfl (lv_at hl 2 rfl) ?_
      refine lv_iload_n hx hb dX6_byDefault_73 rfl (lv_at hl 1 rfl) ?_
      refine z_iast C I hw dX6_byDefault_74 (fun M6 _ _ I hw => ?_)
      refine lv_aload_n hx hb dX6_byDefault_75 rfl (lv_at hl 0 rfl) ?_
      refine z_getr C I fl_X6_7 hw dX6_byDefault_76 (fun v7 hw => ?_)
      refine lv_iload_n hx hb dX6_byDefault_79 rfl (lv_at hl 2 rfl) ?_
      refine z_iald C I hw dX6_byDefault_80 (fun v8 hw => ?_)
      exact z_iret C I hr ⟨_, rfl, hw⟩ (Nat.le_of_ble_eq_true rfl) (Nat.le_of_ble_eq_true rfl) dX6_byDefault_81
    · replace hw := hw.2 c
      refine lv_iconst (v := 0) hx hb dX6_byDefault_59 (by decide) ?_
      exact z_iret C I hr ⟨_, rfl, hw⟩ (Nat.le_of_ble_eq_true rfl) (Nat.le_of_ble_eq_true rfl) dX6_byDefault_60
  have hb_35 : ∀ (x2 : Int32) (y0 : Nat) (M : zM) (H : Heap) (locs : List Loc) (ls : Array Slot), zWk X s M H locs → lv_has ls 3 [(0, .ref o), (1, .int p0), (2, .int x2)] → w_X6_byDefault_35 o p0 P x2 y0 M → W p l e (zRm 2 45 0 0) s m args below meth c H locs 0 0 (vx_MQ below (zQc X (zPi P)) (zXc X PX) args s 0 0 (zBase X)) (F0 m 35 ls [.ref y0]) := by
    intro x2 y0 M H locs ls I hl hw
    unfold w_X6_byDefault_35 at hw
    refine lv_iconst (v := 1) hx hb dX6_byDefault_35 (by decide) ?_
    refine lv_goto (tgt := 53) hx hb dX6_byDefault_36 (by decide) ?_
    refine W.widen (k := 0) (n := 0) (Nat.le_of_ble_eq_true rfl) (Nat.le_of_ble_eq_true rfl) ?_
    exact hb_53 x2 (1 : Int32) y0 _ _ _ ls I (lv_sub hl [0, 1, 2] rfl) hw
  refine lv_sipush (v := 180) hx hb dX6_byDefault_0 (by decide) ?_
  refine lv_aload_n hx hb dX6_byDefault_3 rfl (lv_at hl 0 rfl) ?_
  refine z_getr C I fl_X6_29 hw dX6_byDefault_4 (fun v9 hw => ?_)
  refine lv_bipush (v := 36) hx hb dX6_byDefault_7 (by decide) ?_
  refine z_iald C I hw dX6_byDefault_9 (fun v10 hw => ?_)
  refine lv_iadd hx hb dX6_byDefault_10 ?_
  refine lv_iconst (v := 1) hx hb dX6_byDefault_11 (by decide) ?_
  refine lv_isub hx hb dX6_byDefault_12 ?_
  refine lv_istore_n (lv' := [(2, .int (((180 : Int32) + v10) - (1 : Int32))), (0, .ref o), (1, .int p0)]) hx hb dX6_byDefault_13 rfl hl (by decide) rfl (fun ls hl11 => ?_)
  refine lv_aload_n hx hb dX6_byDefault_14 rfl (lv_at hl11 1 rfl) ?_
  refine lv_aload_n hx hb dX6_byDefault_15 rfl (lv_at hl11 1 rfl) ?_
  refine z_getr C I fl_X6_29 hw dX6_byDefault_16 (fun v12 hw => ?_)
  refine lv_bipush (v := 36) hx hb dX6_byDefault_19 (by decide) ?_
  refine z_iald C I hw dX6_byDefault_21 (fun v13 hw => ?_)
  refine lv_if_eq (tgt := 35) hx hb dX6_byDefault_22 (by decide) (fun c => ?_) (fun c => ?_)
  · replace hw := hw.1 c
    refine W.widen (k := 0) (n := 0) (Nat.le_of_ble_eq_true rfl) (Nat.le_of_ble_eq_true rfl) ?_
    exact hb_35 (((180 : Int32) + v10) - (1 : Int32)) o _ _ _ ls I (lv_sub hl11 [1, 2, 0] rfl) hw
  · replace hw := hw.2 c
    refine lv_aload_n hx hb dX6_byDefault_25 rfl (lv_at hl11 1 rfl) ?_
    refine z_getr C I fl_X6_13 hw dX6_byDefault_26 (fun v14 hw => ?_)
    refine lv_iload_n hx hb dX6_byDefault_29 rfl (lv_at hl11 0 rfl) ?_
    refine z_iald C I hw dX6_byDefault_30 (fun v15 hw => ?_)
    refine lv_iconst (v := 4) hx hb dX6_byDefault_31 (by decide) ?_
    refine lv_icmp_ne (tgt := 39) hx hb dX6_byDefault_32 (by decide) (fun c => ?_) (fun c => ?_)
    · replace hw := hw.1 c
      refine lv_aload_n hx hb dX6_byDefault_39 rfl (lv_at hl11 1 rfl) ?_
      refine lv_iload_n hx hb dX6_byDefault_40 rfl (lv_at hl11 0 rfl) ?_
      refine lv_iload_n hx hb dX6_byDefault_41 rfl (lv_at hl11 2 rfl) ?_
      obtain ⟨hrc, hw⟩ := hw
      refine z_callV C I (as := [.int (((180 : Int32) + v10) - (1 : Int32)), .int p0]) (rest := [.ref o]) (m_X6_isValue E hw) kv_X6_106 vc_7 hrc rfl rfl hl11.1 (Nat.le_of_ble_eq_true rfl) ⟨Nat.le_of_ble_eq_true rfl, Nat.le_of_ble_eq_true rfl⟩ ⟨Nat.le_of_ble_eq_true rfl, Nat.le_of_ble_eq_true rfl⟩ dX6_byDefault_42 (z_prop C htab (Nat.le_of_ble_eq_true rfl) (Nat.le_of_ble_eq_true rfl)) (fun v M16 _ _ I hv => ?_)
      obtain ⟨v17, rfl, hv17, hw⟩ := hv
      refine W.eq (g2 := F0 m 45 ls [.int v17, .ref o]) rfl ?_
      refine lv_if_eq (tgt := 52) hx hb dX6_byDefault_45 (by decide) (fun c => ?_) (fun c => ?_)
      · replace hw := hw.1 c
        refine lv_iconst (v := 2) hx hb dX6_byDefault_52 (by decide) ?_
        refine W.widen (k := 0) (n := 0) (Nat.le_of_ble_eq_true rfl) (Nat.le_of_ble_eq_true rfl) ?_
        exact hb_53 (((180 : Int32) + v10) - (1 : Int32)) (2 : Int32) o _ _ _ ls I (lv_sub hl11 [1, 2, 0] rfl) hw
      · replace hw := hw.2 c
        refine lv_iconst (v := 0) hx hb dX6_byDefault_48 (by decide) ?_
        refine lv_goto (tgt := 53) hx hb dX6_byDefault_49 (by decide) ?_
        refine W.widen (k := 0) (n := 0) (Nat.le_of_ble_eq_true rfl) (Nat.le_of_ble_eq_true rfl) ?_
        exact hb_53 (((180 : Int32) + v10) - (1 : Int32)) (0 : Int32) o _ _ _ ls I (lv_sub hl11 [1, 2, 0] rfl) hw
    · replace hw := hw.2 c
      refine W.widen (k := 0) (n := 0) (Nat.le_of_ble_eq_true rfl) (Nat.le_of_ble_eq_true rfl) ?_
      exact hb_35 (((180 : Int32) + v10) - (1 : Int32)) o _ _ _ ls I (lv_sub hl11 [1, 2, 0] rfl) hw
set_option maxHeartbeats 4000000 in
set_option maxRecDepth 100000 in
theorem m_X6_empties {X : zX} {l : Launch} (E : zEnv X l) {M : zM} {o : Nat} {P : zM → Prop} {PX : Nat → zM → Prop} (hw : w_X6_empties o M P) : zCT X l yX6_empties cX6_empties 1 none 0 0 0 0 M [.ref o] (zPv P) PX := by
  refine z_entry E (by decide) ?_
  intro p e s m args below meth c C hr htab I
  have hx := C.1.1
  have hb := C.1.2.1
  obtain ⟨ls, he, hl⟩ := z_enter (m := m) (n := 1) (vs := [.ref o]) (l := [(0, .ref o)]) (Nat.le_of_ble_eq_true rfl) rfl
  rw [he]
  clear he
  unfold w_X6_empties at hw
  refine lv_aload_n hx hb dX6_empties_0 rfl (lv_at hl 0 rfl) ?_
  refine z_getr C I fl_X6_29 hw dX6_empties_1 (fun v1 hw => ?_)
  refine lv_bipush (v := 36) hx hb dX6_empties_4 (by decide) ?_
  refine lv_iconst (v := 0) hx hb dX6_empties_6 (by decide) ?_
  refine z_iast C I hw dX6_empties_7 (fun M2 _ _ I hw => ?_)
  refine lv_aload_n hx hb dX6_empties_8 rfl (lv_at hl 0 rfl) ?_
  refine z_getr C I fl_X6_32 hw dX6_empties_9 (fun v3 hw => ?_)
  refine lv_bipush (v := 36) hx hb dX6_empties_12 (by decide) ?_
  refine lv_iconst (v := 0) hx hb dX6_empties_14 (by decide) ?_
  refine z_iast C I hw dX6_empties_15 (fun M4 _ _ I hw => ?_)
  exact z_vret C I hr ⟨rfl, hw⟩ (Nat.le_of_ble_eq_true rfl) (Nat.le_of_ble_eq_true rfl) dX6_empties_16
set_option maxHeartbeats 4000000 in
set_option maxRecDepth 100000 in
theorem m_X6_discard {X : zX} {l : Launch} (E : zEnv X l) {M : zM} {o : Nat} {P : Int32 → zM → Prop} {PX : Nat → zM → Prop} (hw : w_X6_discard o M P) : zCT X l yX6_discard cX6_discard 2 (some .int) 1 20 0 0 M [.ref o] (zPi P) PX := by
  refine z_entry E (by decide) ?_
  intro p e s m args below meth c C hr htab I
  have hx := C.1.1
  have hb := C.1.2.1
  obtain ⟨ls, he, hl⟩ := z_enter (m := m) (n := 2) (vs := [.ref o]) (l := [(0, .ref o)]) (Nat.le_of_ble_eq_true rfl) rfl
  rw [he]
  clear he
  unfold w_X6_discard at hw
  refine lv_aload_n hx hb dX6_discard_0 rfl (lv_at hl 0 rfl) ?_
  refine lv_iconst (v := 0) hx hb dX6_discard_1 (by decide) ?_
  refine z_put C I fl_X6_71 rfl (v := .int (0 : Int32)) rfl rfl hw dX6_discard_2 (fun M1 _ _ I hw => ?_)
  refine lv_aload_n hx hb dX6_discard_5 rfl (lv_at hl 0 rfl) ?_
  refine z_getr C I fl_X6_29 hw dX6_discard_6 (fun v2 hw => ?_)
  refine lv_bipush (v := 36) hx hb dX6_discard_9 (by decide) ?_
  refine z_iald C I hw dX6_discard_11 (fun v3 hw => ?_)
  refine lv_istore_n (lv' := [(1, .int v3), (0, .ref o)]) hx hb dX6_discard_12 rfl hl (by decide) rfl (fun ls hl4 => ?_)
  refine lv_aload_n hx hb dX6_discard_13 rfl (lv_at hl4 1 rfl) ?_
  obtain ⟨hrc, hw⟩ := hw
  refine z_callV C I (as := []) (rest := []) (m_X6_empties E hw) kv_X6_109 vc_7 hrc rfl rfl hl4.1 (Nat.le_of_ble_eq_true rfl) ⟨Nat.le_of_ble_eq_true rfl, Nat.le_of_ble_eq_true rfl⟩ ⟨Nat.le_of_ble_eq_true rfl, Nat.le_of_ble_eq_true rfl⟩ dX6_discard_14 (z_prop C htab (Nat.le_of_ble_eq_true rfl) (Nat.le_of_ble_eq_true rfl)) (fun v M5 _ _ I hv => ?_)
  obtain ⟨rfl, hw⟩ := hv
  refine W.eq (g2 := F0 m 17 ls []) rfl ?_
  refine lv_iload_n hx hb dX6_discard_17 rfl (lv_at hl4 0 rfl) ?_
  exact z_iret C I hr ⟨_, rfl, hw⟩ (Nat.le_of_ble_eq_true rfl) (Nat.le_of_ble_eq_true rfl) dX6_discard_18
set_option maxHeartbeats 4000000 in
set_option maxRecDepth 100000 in
theorem m_X6_isLike {X : zX} {l : Launch} (E : zEnv X l) {M : zM} {o : Nat} {p0 : Int32} {P : Int32 → zM → Prop} {PX : Nat → zM → Prop} (hw : w_X6_isLike o p0 M P) : zCT X l yX6_isLike cX6_isLike 6 (some .boolean) 0 0 0 0 M [.ref o, .int p0] (zPz P) PX := by
  refine z_entry E (by decide) ?_
  intro p e s m args below meth c C hr htab I
  have hx := C.1.1
  have hb := C.1.2.1
  obtain ⟨ls, he, hl⟩ := z_enter (m := m) (n := 6) (vs := [.ref o, .int p0]) (l := [(0, .ref o), (1, .int p0)]) (Nat.le_of_ble_eq_true rfl) rfl
  rw [he]
  clear he
  unfold w_X6_isLike at hw
  have hb_20 : ∀ (n : Nat) (x2 : Int32) (M : zM) (H : Heap) (locs : List Loc) (ls : Array Slot), zWk X s M H locs → lv_has ls 6 [(0, .ref o), (1, .int p0), (2, .int x2)] → w_X6_isLike_20 o p0 P n x2 M → W p l e (zRm 0 0 0 0) s m args below meth c H locs 0 0 (vx_MQ below (zQc X (zPz P)) (zXc X PX) args s 0 0 (zBase X)) (F0 m 20 ls []) := by
    intro n
    induction n with
    | zero => intro _ M H locs ls I hl hw; exact hw.elim
    | succ n ih =>
      intro x2 M H locs ls I hl hw
      unfold w_X6_isLike_20 at hw
      have hb_112 : ∀ (x2 : Int32) (x3 : Int32) (x4 : Int32) (y0 : Int32) (M : zM) (H : Heap) (locs : List Loc) (ls : Array Slot), zWk X s M H locs → lv_has ls 6 [(0, .ref o), (1, .int p0), (2, .int x2), (3, .int x3), (4, .int x4)] → w_X6_isLike_112 o p0 P (w_X6_isLike_20 o p0 P n) x2 x3 x4 y0 M → W p l e (zRm 0 0 0 0) s m args below meth c H locs 0 0 (vx_MQ below (zQc X (zPz P)) (zXc X PX) args s 0 0 (zBase X)) (F0 m 112 ls [.int y0]) := by
        intro x2 x3 x4 y0 M H locs ls I hl hw
        unfold w_X6_isLike_112 at hw
        refine lv_istore (lv' := [(5, .int y0), (0, .ref o), (1, .int p0), (2, .int x2), (3, .int x3), (4, .int x4)]) hx hb dX6_isLike_112 hl (by decide) rfl (fun ls hl1 => ?_)
        refine lv_iload hx hb dX6_isLike_114 (lv_at hl1 0 rfl) ?_
        refine lv_if_eq (tgt := 151) hx hb dX6_isLike_116 (by decide) (fun c => ?_) (fun c => ?_)
        · replace hw := hw.1 c
          refine lv_iconst (v := 0) hx hb dX6_isLike_151 (by decide) ?_
          exact z_zret C I hr (Or.inl rfl) ⟨_, rfl, (Or.inl rfl), hw⟩ (Nat.le_of_ble_eq_true rfl) (Nat.le_of_ble_eq_true rfl) dX6_isLike_152
        · replace hw := hw.2 c
          refine lv_aload_n hx hb dX6_isLike_119 rfl (lv_at hl1 1 rfl) ?_
          refine z_getr C I fl_X6_22 hw dX6_isLike_120 (fun v2 hw => ?_)
          refine lv_iload_n hx hb dX6_isLike_123 rfl (lv_at hl1 4 rfl) ?_
          refine z_zald C I hw dX6_isLike_124 (fun v3 hw => ?_)
          refine lv_aload_n hx hb dX6_isLike_125 rfl (lv_at hl1 1 rfl) ?_
          refine z_getr C I fl_X6_22 hw dX6_isLike_126 (fun v4 hw => ?_)
          refine lv_iload hx hb dX6_isLike_129 (lv_at hl1 5 rfl) ?_
          refine z_zald C I hw dX6_isLike_131 (fun v5 hw => ?_)
          refine lv_icmp_ne (tgt := 151) hx hb dX6_isLike_132 (by decide) (fun c => ?_) (fun c => ?_)
          · replace hw := hw.1 c
            refine lv_iconst (v := 0) hx hb dX6_isLike_151 (by decide) ?_
            exact z_zret C I hr (Or.inl rfl) ⟨_, rfl, (Or.inl rfl), hw⟩ (Nat.le_of_ble_eq_true rfl) (Nat.le_of_ble_eq_true rfl) dX6_isLike_152
          · replace hw := hw.2 c
            refine lv_aload_n hx hb dX6_isLike_135 rfl (lv_at hl1 1 rfl) ?_
            refine z_getr C I fl_X6_26 hw dX6_isLike_136 (fun v6 hw => ?_)
            refine lv_iload_n hx hb dX6_isLike_139 rfl (lv_at hl1 4 rfl) ?_
            refine z_iald C I hw dX6_isLike_140 (fun v7 hw => ?_)
            refine lv_aload_n hx hb dX6_isLike_141 rfl (lv_at hl1 1 rfl) ?_
            refine z_getr C I fl_X6_26 hw dX6_isLike_142 (fun v8 hw => ?_)
            refine lv_iload hx hb dX6_isLike_145 (lv_at hl1 5 rfl) ?_
            refine z_iald C I hw dX6_isLike_147 (fun v9 hw => ?_)
            refine lv_icmp_eq (tgt := 153) hx hb dX6_isLike_148 (by decide) (fun c => ?_) (fun c => ?_)
            · replace hw := hw.1 c
              refine lv_iinc (v := (x2 + 1)) (lv' := [(2, .int (x2 + 1)), (5, .int y0), (0, .ref o), (1, .int p0), (3, .int x3), (4, .int x4)]) hx hb dX6_isLike_153 hl1 (k := 3) rfl (by rfl) (by decide) rfl (fun ls hl10 => ?_)
              refine lv_goto (tgt := 20) hx hb dX6_isLike_156 (by decide) ?_
              refine W.widen (k := 0) (n := 0) (Nat.le_of_ble_eq_true rfl) (Nat.le_of_ble_eq_true rfl) ?_
              exact ih (x2 + 1) _ _ _ ls I (lv_sub hl10 [2, 3, 0] rfl) hw
            · replace hw := hw.2 c
              refine lv_iconst (v := 0) hx hb dX6_isLike_151 (by decide) ?_
              exact z_zret C I hr (Or.inl rfl) ⟨_, rfl, (Or.inl rfl), hw⟩ (Nat.le_of_ble_eq_true rfl) (Nat.le_of_ble_eq_true rfl) dX6_isLike_152
      have hb_111 : ∀ (x2 : Int32) (x3 : Int32) (x4 : Int32) (M : zM) (H : Heap) (locs : List Loc) (ls : Array Slot), zWk X s M H locs → lv_has ls 6 [(0, .ref o), (1, .int p0), (2, .int x2), (3, .int x3), (4, .int x4)] → w_X6_isLike_111 o p0 P (w_X6_isLike_20 o p0 P n) x2 x3 x4 M → W p l e (zRm 0 0 0 0) s m args below meth c H locs 0 0 (vx_MQ below (zQc X (zPz P)) (zXc X PX) args s 0 0 (zBase X)) (F0 m 111 ls []) := by
        intro x2 x3 x4 M H locs ls I hl hw
        unfold w_X6_isLike_111 at hw
        refine lv_iconst (v := 0) hx hb dX6_isLike_111 (by decide) ?_
        refine W.widen (k := 0) (n := 0) (Nat.le_of_ble_eq_true rfl) (Nat.le_of_ble_eq_true rfl) ?_
        exact hb_112 x2 x3 x4 (0 : Int32) _ _ _ ls I (lv_sub hl [0, 1, 2, 3, 4] rfl) hw
      refine lv_iload_n hx hb dX6_isLike_20 rfl (lv_at hl 2 rfl) ?_
      refine lv_aload_n hx hb dX6_isLike_21 rfl (lv_at hl 0 rfl) ?_
      refine z_getr C I fl_X6_29 hw dX6_isLike_22 (fun v11 hw => ?_)
      refine lv_iload_n hx hb dX6_isLike_25 rfl (lv_at hl 1 rfl) ?_
      refine z_iald C I hw dX6_isLike_26 (fun v12 hw => ?_)
      refine lv_icmp_ge (tgt := 159) hx hb dX6_isLike_27 (by decide) (fun c => ?_) (fun c => ?_)
      · replace hw := hw.1 c
        refine lv_iconst (v := 1) hx hb dX6_isLike_159 (by decide) ?_
        exact z_zret C I hr (Or.inr rfl) ⟨_, rfl, (Or.inr rfl), hw⟩ (Nat.le_of_ble_eq_true rfl) (Nat.le_of_ble_eq_true rfl) dX6_isLike_160
      · replace hw := hw.2 c
        refine lv_iconst (v := 5) hx hb dX6_isLike_30 (by decide) ?_
        refine lv_iload_n hx hb dX6_isLike_31 rfl (lv_at hl 1 rfl) ?_
        refine lv_imul hx hb dX6_isLike_32 ?_
        refine lv_iload_n hx hb dX6_isLike_33 rfl (lv_at hl 2 rfl) ?_
        refine lv_iadd hx hb dX6_isLike_34 ?_
        refine lv_istore_n (lv' := [(3, .int (((5 : Int32) * p0) + x2)), (0, .ref o), (1, .int p0), (2, .int x2)]) hx hb dX6_isLike_35 rfl hl (by decide) rfl (fun ls hl13 => ?_)
        refine lv_sipush (v := 180) hx hb dX6_isLike_36 (by decide) ?_
        refine lv_iload_n hx hb dX6_isLike_39 rfl (lv_at hl13 3 rfl) ?_
        refine lv_iadd hx hb dX6_isLike_40 ?_
        refine lv_istore (lv' := [(4, .int ((180 : Int32) + x2)), (3, .int (((5 : Int32) * p0) + x2)), (0, .ref o), (1, .int p0), (2, .int x2)]) hx hb dX6_isLike_41 hl13 (by decide) rfl (fun ls hl14 => ?_)
        refine lv_aload_n hx hb dX6_isLike_43 rfl (lv_at hl14 2 rfl) ?_
        refine z_getr C I fl_X6_7 hw dX6_isLike_44 (fun v15 hw => ?_)
        refine lv_iload_n hx hb dX6_isLike_47 rfl (lv_at hl14 1 rfl) ?_
        refine z_iald C I hw dX6_isLike_48 (fun v16 hw => ?_)
        refine lv_aload_n hx hb dX6_isLike_49 rfl (lv_at hl14 2 rfl) ?_
        refine z_getr C I fl_X6_7 hw dX6_isLike_50 (fun v17 hw => ?_)
        refine lv_iload hx hb dX6_isLike_53 (lv_at hl14 0 rfl) ?_
        refine z_iald C I hw dX6_isLike_55 (fun v18 hw => ?_)
        refine lv_icmp_ne (tgt := 111) hx hb dX6_isLike_56 (by decide) (fun c => ?_) (fun c => ?_)
        · replace hw := hw.1 c
          refine W.widen (k := 0) (n := 0) (Nat.le_of_ble_eq_true rfl) (Nat.le_of_ble_eq_true rfl) ?_
          exact hb_111 x2 (((5 : Int32) * p0) + x2) ((180 : Int32) + x2) _ _ _ ls I (lv_sub hl14 [2, 3, 4, 1, 0] rfl) hw
        · replace hw := hw.2 c
          refine lv_aload_n hx hb dX6_isLike_59 rfl (lv_at hl14 2 rfl) ?_
          refine z_getr C I fl_X6_13 hw dX6_isLike_60 (fun v19 hw => ?_)
          refine lv_iload_n hx hb dX6_isLike_63 rfl (lv_at hl14 1 rfl) ?_
          refine z_iald C I hw dX6_isLike_64 (fun v20 hw => ?_)
          refine lv_aload_n hx hb dX6_isLike_65 rfl (lv_at hl14 2 rfl) ?_
          refine z_getr C I fl_X6_13 hw dX6_isLike_66 (fun v21 hw => ?_)
          refine lv_iload hx hb dX6_isLike_69 (lv_at hl14 0 rfl) ?_
          refine z_iald C I hw dX6_isLike_71 (fun v22 hw => ?_)
          refine lv_icmp_ne (tgt := 111) hx hb dX6_isLike_72 (by decide) (fun c => ?_) (fun c => ?_)
          · replace hw := hw.1 c
            refine W.widen (k := 0) (n := 0) (Nat.le_of_ble_eq_true rfl) (Nat.le_of_ble_eq_true rfl) ?_
            exact hb_111 x2 (((5 : Int32) * p0) + x2) ((180 : Int32) + x2) _ _ _ ls I (lv_sub hl14 [2, 3, 4, 1, 0] rfl) hw
          · replace hw := hw.2 c
            refine lv_aload_n hx hb dX6_isLike_75 rfl (lv_at hl14 2 rfl) ?_
            refine z_getr C I fl_X6_16 hw dX6_isLike_76 (fun v23 hw => ?_)
            refine lv_iload_n hx hb dX6_isLike_79 rfl (lv_at hl14 1 rfl) ?_
            refine z_iald C I hw dX6_isLike_80 (fun v24 hw => ?_)
            refine lv_aload_n hx hb dX6_isLike_81 rfl (lv_at hl14 2 rfl) ?_
            refine z_getr C I fl_X6_16 hw dX6_isLike_82 (fun v25 hw => ?_)
            refine lv_iload hx hb dX6_isLike_85 (lv_at hl14 0 rfl) ?_
            refine z_iald C I hw dX6_isLike_87 (fun v26 hw => ?_)
            refine lv_icmp_ne (tgt := 111) hx hb dX6_isLike_88 (by decide) (fun c => ?_) (fun c => ?_)
            · replace hw := hw.1 c
              refine W.widen (k := 0) (n := 0) (Nat.le_of_ble_eq_true rfl) (Nat.le_of_ble_eq_true rfl) ?_
              exact hb_111 x2 (((5 : Int32) * p0) + x2) ((180 : Int32) + x2) _ _ _ ls I (lv_sub hl14 [2, 3, 4, 1, 0] rfl) hw
            · replace hw := hw.2 c
              refine lv_aload_n hx hb dX6_isLike_91 rfl (lv_at hl14 2 rfl) ?_
              refine z_getr C I fl_X6_19 hw dX6_isLike_92 (fun v27 hw => ?_)
              refine lv_iload_n hx hb dX6_isLike_95 rfl (lv_at hl14 1 rfl) ?_
              refine z_iald C I hw dX6_isLike_96 (fun v28 hw => ?_)
              refine lv_aload_n hx hb dX6_isLike_97 rfl (lv_at hl14 2 rfl) ?_
              refine z_getr C I fl_X6_19 hw dX6_isLike_98 (fun v29 hw => ?_)
              refine lv_iload hx hb dX6_isLike_101 (lv_at hl14 0 rfl) ?_
              refine z_iald C I hw dX6_isLike_103 (fun v30 hw => ?_)
              refine lv_icmp_ne (tgt := 111) hx hb dX6_isLike_104 (by decide) (fun c => ?_) (fun c => ?_)
              · replace hw := hw.1 c
                refine W.widen (k := 0) (n := 0) (Nat.le_of_ble_eq_true rfl) (Nat.le_of_ble_eq_true rfl) ?_
                exact hb_111 x2 (((5 : Int32) * p0) + x2) ((180 : Int32) + x2) _ _ _ ls I (lv_sub hl14 [2, 3, 4, 1, 0] rfl) hw
              · replace hw := hw.2 c
                refine lv_iconst (v := 1) hx hb dX6_isLike_107 (by decide) ?_
                refine lv_goto (tgt := 112) hx hb dX6_isLike_108 (by decide) ?_
                refine W.widen (k := 0) (n := 0) (Nat.le_of_ble_eq_true rfl) (Nat.le_of_ble_eq_true rfl) ?_
                exact hb_112 x2 (((5 : Int32) * p0) + x2) ((180 : Int32) + x2) (1 : Int32) _ _ _ ls I (lv_sub hl14 [2, 3, 4, 1, 0] rfl) hw
  refine lv_aload_n hx hb dX6_isLike_0 rfl (lv_at hl 0 rfl) ?_
  refine z_getr C I fl_X6_29 hw dX6_isLike_1 (fun v31 hw => ?_)
  refine lv_iload_n hx hb dX6_isLike_4 rfl (lv_at hl 1 rfl) ?_
  refine z_iald C I hw dX6_isLike_5 (fun v32 hw => ?_)
  refine lv_aload_n hx hb dX6_isLike_6 rfl (lv_at hl 0 rfl) ?_
  refine z_getr C I fl_X6_29 hw dX6_isLike_7 (fun v33 hw => ?_)
  refine lv_bipush (v := 36) hx hb dX6_isLike_10 (by decide) ?_
  refine z_iald C I hw dX6_isLike_12 (fun v34 hw => ?_)
  refine lv_icmp_eq (tgt := 18) hx hb dX6_isLike_13 (by decide) (fun c => ?_) (fun c => ?_)
  · replace hw := hw.1 c
    refine lv_iconst (v := 0) hx hb dX6_isLike_18 (by decide) ?_
    refine lv_istore_n (lv' := [(2, .int (0 : Int32)), (0, .ref o), (1, .int p0)]) hx hb dX6_isLike_19 rfl hl (by decide) rfl (fun ls hl35 => ?_)
    obtain ⟨nn, hw⟩ := hw
    refine W.widen (k := 0) (n := 0) (Nat.le_of_ble_eq_true rfl) (Nat.le_of_ble_eq_true rfl) ?_
    exact hb_20 nn (0 : Int32) _ _ _ ls I (lv_sub hl35 [1, 2, 0] rfl) hw
  · replace hw := hw.2 c
    refine lv_iconst (v := 0) hx hb dX6_isLike_16 (by decide) ?_
    exact z_zret C I hr (Or.inl rfl) ⟨_, rfl, (Or.inl rfl), hw⟩ (Nat.le_of_ble_eq_true rfl) (Nat.le_of_ble_eq_true rfl) dX6_isLike_17
set_option maxHeartbeats 4000000 in
set_option maxRecDepth 100000 in
theorem m_X6_source {X : zX} {l : Launch} (E : zEnv X l) {M : zM} {o : Nat} {p0 : Int32} {p1 : Int32} {P : Int32 → zM → Prop} {PX : Nat → zM → Prop} (hw : w_X6_source o p0 p1 M P) : zCT X l yX6_source cX6_source 4 (some .int) 1 23 0 0 M [.ref o, .int p0, .int p1] (zPi P) PX := by
  refine z_entry E (by decide) ?_
  intro p e s m args below meth c C hr htab I
  have hx := C.1.1
  have hb := C.1.2.1
  obtain ⟨ls, he, hl⟩ := z_enter (m := m) (n := 4) (vs := [.ref o, .int p0, .int p1]) (l := [(0, .ref o), (1, .int p0), (2, .int p1)]) (Nat.le_of_ble_eq_true rfl) rfl
  rw [he]
  clear he
  unfold w_X6_source at hw
  refine lv_aload_n hx hb dX6_source_0 rfl (lv_at hl 0 rfl) ?_
  refine lv_iload_n hx hb dX6_source_1 rfl (lv_at hl 2 rfl) ?_
  refine lv_aload_n hx hb dX6_source_2 rfl (lv_at hl 0 rfl) ?_
  refine z_getr C I fl_X6_7 hw dX6_source_3 (fun v1 hw => ?_)
  refine lv_iload_n hx hb dX6_source_6 rfl (lv_at hl 1 rfl) ?_
  refine z_iald C I hw dX6_source_7 (fun v2 hw => ?_)
  obtain ⟨hrc, hw⟩ := hw
  refine z_callV C I (as := [.int p1, .int v2]) (rest := []) (m_X6_named E hw) kv_X6_94 vc_7 hrc rfl rfl hl.1 (Nat.le_of_ble_eq_true rfl) ⟨Nat.le_of_ble_eq_true rfl, Nat.le_of_ble_eq_true rfl⟩ ⟨Nat.le_of_ble_eq_true rfl, Nat.le_of_ble_eq_true rfl⟩ dX6_source_8 (z_prop C htab (Nat.le_of_ble_eq_true rfl) (Nat.le_of_ble_eq_true rfl)) (fun v M3 _ _ I hv => ?_)
  obtain ⟨v4, rfl, hw⟩ := hv
  refine W.eq (g2 := F0 m 11 ls [.int v4]) rfl ?_
  refine lv_istore_n (lv' := [(3, .int v4), (0, .ref o), (1, .int p0), (2, .int p1)]) hx hb dX6_source_11 rfl hl (by decide) rfl (fun ls hl5 => ?_)
  refine lv_iload_n hx hb dX6_source_12 rfl (lv_at hl5 0 rfl) ?_
  refine lv_iconst (v := -1) hx hb dX6_source_13 (by decide) ?_
  refine lv_icmp_eq (tgt := 21) hx hb dX6_source_14 (by decide) (fun c => ?_) (fun c => ?_)
  · replace hw := hw.1 c
    refine lv_aload_n hx hb dX6_source_21 rfl (lv_at hl5 1 rfl) ?_
    refine z_getr C I fl_X6_19 hw dX6_source_22 (fun v6 hw => ?_)
    refine lv_iload_n hx hb dX6_source_25 rfl (lv_at hl5 2 rfl) ?_
    refine z_iald C I hw dX6_source_26 (fun v7 hw => ?_)
    refine lv_iconst (v := -1) hx hb dX6_source_27 (by decide) ?_
    refine lv_icmp_ne (tgt := 35) hx hb dX6_source_28 (by decide) (fun c => ?_) (fun c => ?_)
    · replace hw := hw.1 c
      refine lv_aload_n hx hb dX6_source_35 rfl (lv_at hl5 1 rfl) ?_
      refine lv_iload_n hx hb dX6_source_36 rfl (lv_at hl5 3 rfl) ?_
      refine lv_aload_n hx hb dX6_source_37 rfl (lv_at hl5 1 rfl) ?_
      refine z_getr C I fl_X6_19 hw dX6_source_38 (fun v8 hw => ?_)
      refine lv_iload_n hx hb dX6_source_41 rfl (lv_at hl5 2 rfl) ?_
      refine z_iald C I hw dX6_source_42 (fun v9 hw => ?_)
      obtain ⟨hrc, hw⟩ := hw
      refine z_callV C I (as := [.int p1, .int v9]) (rest := []) (m_X6_named E hw) kv_X6_94 vc_7 hrc rfl rfl hl5.1 (Nat.le_of_ble_eq_true rfl) ⟨Nat.le_of_ble_eq_true rfl, Nat.le_of_ble_eq_true rfl⟩ ⟨Nat.le_of_ble_eq_true rfl, Nat.le_of_ble_eq_true rfl⟩ dX6_source_43 (z_prop C htab (Nat.le_of_ble_eq_true rfl) (Nat.le_of_ble_eq_true rfl)) (fun v M10 _ _ I hv => ?_)
      obtain ⟨v11, rfl, hw⟩ := hv
      refine W.eq (g2 := F0 m 46 ls [.int v11]) rfl ?_
      exact z_iret C I hr ⟨_, rfl, hw⟩ (Nat.le_of_ble_eq_true rfl) (Nat.le_of_ble_eq_true rfl) dX6_source_46
    · replace hw := hw.2 c
      refine lv_iconst (v := -1) hx hb dX6_source_31 (by decide) ?_
      refine lv_goto (tgt := 46) hx hb dX6_source_32 (by decide) ?_
      exact z_iret C I hr ⟨_, rfl, hw⟩ (Nat.le_of_ble_eq_true rfl) (Nat.le_of_ble_eq_true rfl) dX6_source_46
  · replace hw := hw.2 c
    refine lv_iload_n hx hb dX6_source_17 rfl (lv_at hl5 0 rfl) ?_
    refine lv_goto (tgt := 46) hx hb dX6_source_18 (by decide) ?_
    exact z_iret C I hr ⟨_, rfl, hw⟩ (Nat.le_of_ble_eq_true rfl) (Nat.le_of_ble_eq_true rfl) dX6_source_46
set_option maxHeartbeats 4000000 in
set_option maxRecDepth 100000 in
theorem m_X6_isRead {X : zX} {l : Launch} (E : zEnv X l) {M : zM} {o : Nat} {p0 : Int32} {p1 : Int32} {P : Int32 → zM → Prop} {PX : Nat → zM → Prop} (hw : w_X6_isRead o p0 p1 M P) : zCT X l yX6_isRead cX6_isRead 5 (some .boolean) 1 21 0 0 M [.ref o, .int p0, .int p1] (zPz P) PX := by
  refine z_entry E (by decide) ?_
  intro p e s m args below meth c C hr htab I
  have hx := C.1.1
  have hb := C.1.2.1
  obtain ⟨ls, he, hl⟩ := z_enter (m := m) (n := 5) (vs := [.ref o, .int p0, .int p1]) (l := [(0, .ref o), (1, .int p0), (2, .int p1)]) (Nat.le_of_ble_eq_true rfl) rfl
  rw [he]
  clear he
  unfold w_X6_isRead at hw
  have hb_117 : ∀ (M : zM) (H : Heap) (locs : List Loc) (ls : Array Slot), zWk X s M H locs → lv_has ls 5 [] → w_X6_isRead_117 o p0 p1 P M → W p l e (zRm 1 21 0 0) s m args below meth c H locs 0 0 (vx_MQ below (zQc X (zPz P)) (zXc X PX) args s 0 0 (zBase X)) (F0 m 117 ls []) := by
    intro M H locs ls I hl hw
    unfold w_X6_isRead_117 at hw
    refine lv_iconst (v := 1) hx hb dX6_isRead_117 (by decide) ?_
    refine lv_goto (tgt := 122) hx hb dX6_isRead_118 (by decide) ?_
    exact z_zret C I hr (Or.inr rfl) ⟨_, rfl, (Or.inr rfl), hw⟩ (Nat.le_of_ble_eq_true rfl) (Nat.le_of_ble_eq_true rfl) dX6_isRead_122
  have hb_81 : ∀ (x3 : Int32) (y0 : Int32) (M : zM) (H : Heap) (locs : List Loc) (ls : Array Slot), zWk X s M H locs → lv_has ls 5 [(0, .ref o), (1, .int p0), (2, .int p1), (3, .int x3)] → w_X6_isRead_81 o p0 p1 P x3 y0 M → W p l e (zRm 1 21 0 0) s m args below meth c H locs 0 0 (vx_MQ below (zQc X (zPz P)) (zXc X PX) args s 0 0 (zBase X)) (F0 m 81 ls [.int y0]) := by
    intro x3 y0 M H locs ls I hl hw
    unfold w_X6_isRead_81 at hw
    refine lv_istore (lv' := [(4, .int y0), (0, .ref o), (1, .int p0), (2, .int p1), (3, .int x3)]) hx hb dX6_isRead_81 hl (by decide) rfl (fun ls hl1 => ?_)
    refine lv_iload hx hb dX6_isRead_83 (lv_at hl1 0 rfl) ?_
    refine lv_if_eq (tgt := 121) hx hb dX6_isRead_85 (by decide) (fun c => ?_) (fun c => ?_)
    · replace hw := hw.1 c
      refine lv_iconst (v := 0) hx hb dX6_isRead_121 (by decide) ?_
      exact z_zret C I hr (Or.inl rfl) ⟨_, rfl, (Or.inl rfl), hw⟩ (Nat.le_of_ble_eq_true rfl) (Nat.le_of_ble_eq_true rfl) dX6_isRead_122
    · replace hw := hw.2 c
      refine lv_iload_n hx hb dX6_isRead_88 rfl (lv_at hl1 4 rfl) ?_
      refine lv_iconst (v := 3) hx hb dX6_isRead_89 (by decide) ?_
      refine lv_icmp_ne (tgt := 117) hx hb dX6_isRead_90 (by decide) (fun c => ?_) (fun c => ?_)
      · replace hw := hw.1 c
        refine W.widen (k := 0) (n := 0) (Nat.le_of_ble_eq_true rfl) (Nat.le_of_ble_eq_true rfl) ?_
        exact hb_117 _ _ _ ls I (lv_sub hl1 [] rfl) hw
      · replace hw := hw.2 c
        refine lv_aload_n hx hb dX6_isRead_93 rfl (lv_at hl1 1 rfl) ?_
        refine z_getr C I fl_X6_16 hw dX6_isRead_94 (fun v2 hw => ?_)
        refine lv_iload_n hx hb dX6_isRead_97 rfl (lv_at hl1 2 rfl) ?_
        refine z_iald C I hw dX6_isRead_98 (fun v3 hw => ?_)
        refine lv_aload_n hx hb dX6_isRead_99 rfl (lv_at hl1 1 rfl) ?_
        refine z_getr C I fl_X6_16 hw dX6_isRead_100 (fun v4 hw => ?_)
        refine lv_iload_n hx hb dX6_isRead_103 rfl (lv_at hl1 3 rfl) ?_
        refine z_iald C I hw dX6_isRead_104 (fun v5 hw => ?_)
        refine lv_icmp_ge (tgt := 117) hx hb dX6_isRead_105 (by decide) (fun c => ?_) (fun c => ?_)
        · replace hw := hw.1 c
          refine W.widen (k := 0) (n := 0) (Nat.le_of_ble_eq_true rfl) (Nat.le_of_ble_eq_true rfl) ?_
          exact hb_117 _ _ _ ls I (lv_sub hl1 [] rfl) hw
        · replace hw := hw.2 c
          refine lv_aload_n hx hb dX6_isRead_108 rfl (lv_at hl1 1 rfl) ?_
          refine z_getr C I fl_X6_22 hw dX6_isRead_109 (fun v6 hw => ?_)
          refine lv_iload_n hx hb dX6_isRead_112 rfl (lv_at hl1 2 rfl) ?_
          refine z_zald C I hw dX6_isRead_113 (fun v7 hw => ?_)
          refine lv_if_eq (tgt := 121) hx hb dX6_isRead_114 (by decide) (fun c => ?_) (fun c => ?_)
          · replace hw := hw.1 c
            refine lv_iconst (v := 0) hx hb dX6_isRead_121 (by decide) ?_
            exact z_zret C I hr (Or.inl rfl) ⟨_, rfl, (Or.inl rfl), hw⟩ (Nat.le_of_ble_eq_true rfl) (Nat.le_of_ble_eq_true rfl) dX6_isRead_122
          · replace hw := hw.2 c
            refine W.widen (k := 0) (n := 0) (Nat.le_of_ble_eq_true rfl) (Nat.le_of_ble_eq_true rfl) ?_
            exact hb_117 _ _ _ ls I (lv_sub hl1 [] rfl) hw
  have hb_76 : ∀ (x3 : Int32) (M : zM) (H : Heap) (locs : List Loc) (ls : Array Slot), zWk X s M H locs → lv_has ls 5 [(0, .ref o), (1, .int p0), (2, .int p1), (3, .int x3)] → w_X6_isRead_76 o p0 p1 P x3 M → W p l e (zRm 1 21 0 0) s m args below meth c H locs 0 0 (vx_MQ below (zQc X (zPz P)) (zXc X PX) args s 0 0 (zBase X)) (F0 m 76 ls []) := by
    intro x3 M H locs ls I hl hw
    unfold w_X6_isRead_76 at hw
    refine lv_iconst (v := 1) hx hb dX6_isRead_76 (by decide) ?_
    refine lv_goto (tgt := 81) hx hb dX6_isRead_77 (by decide) ?_
    refine W.widen (k := 0) (n := 0) (Nat.le_of_ble_eq_true rfl) (Nat.le_of_ble_eq_true rfl) ?_
    exact hb_81 x3 (1 : Int32) _ _ _ ls I (lv_sub hl [0, 1, 2, 3] rfl) hw
  have hb_80 : ∀ (x3 : Int32) (M : zM) (H : Heap) (locs : List Loc) (ls : Array Slot), zWk X s M H locs → lv_has ls 5 [(0, .ref o), (1, .int p0), (2, .int p1), (3, .int x3)] → w_X6_isRead_80 o p0 p1 P x3 M → W p l e (zRm 1 21 0 0) s m args below meth c H locs 0 0 (vx_MQ below (zQc X (zPz P)) (zXc X PX) args s 0 0 (zBase X)) (F0 m 80 ls []) := by
    intro x3 M H locs ls I hl hw
    unfold w_X6_isRead_80 at hw
    refine lv_iconst (v := 0) hx hb dX6_isRead_80 (by decide) ?_
    refine W.widen (k := 0) (n := 0) (Nat.le_of_ble_eq_true rfl) (Nat.le_of_ble_eq_true rfl) ?_
    exact hb_81 x3 (0 : Int32) _ _ _ ls I (lv_sub hl [0, 1, 2, 3] rfl) hw
  have hb_52 : ∀ (x3 : Int32) (M : zM) (H : Heap) (locs : List Loc) (ls : Array Slot), zWk X s M H locs → lv_has ls 5 [(0, .ref o), (1, .int p0), (2, .int p1), (3, .int x3)] → w_X6_isRead_52 o p0 p1 P x3 M → W p l e (zRm 1 21 0 0) s m args below meth c H locs 0 0 (vx_MQ below (zQc X (zPz P)) (zXc X PX) args s 0 0 (zBase X)) (F0 m 52 ls []) := by
    intro x3 M H locs ls I hl hw
    unfold w_X6_isRead_52 at hw
    refine lv_iload_n hx hb dX6_isRead_52 rfl (lv_at hl 3 rfl) ?_
    refine lv_aload_n hx hb dX6_isRead_53 rfl (lv_at hl 0 rfl) ?_
    refine z_getr C I fl_X6_13 hw dX6_isRead_54 (fun v8 hw => ?_)
    refine lv_iload_n hx hb dX6_isRead_57 rfl (lv_at hl 2 rfl) ?_
    refine z_iald C I hw dX6_isRead_58 (fun v9 hw => ?_)
    refine lv_icmp_eq (tgt := 76) hx hb dX6_isRead_59 (by decide) (fun c => ?_) (fun c => ?_)
    · replace hw := hw.1 c
      refine W.widen (k := 0) (n := 0) (Nat.le_of_ble_eq_true rfl) (Nat.le_of_ble_eq_true rfl) ?_
      exact hb_76 x3 _ _ _ ls I (lv_sub hl [0, 1, 2, 3] rfl) hw
    · replace hw := hw.2 c
      refine lv_iload_n hx hb dX6_isRead_62 rfl (lv_at hl 3 rfl) ?_
      refine lv_iconst (v := 1) hx hb dX6_isRead_63 (by decide) ?_
      refine lv_icmp_ne (tgt := 80) hx hb dX6_isRead_64 (by decide) (fun c => ?_) (fun c => ?_)
      · replace hw := hw.1 c
        refine W.widen (k := 0) (n := 0) (Nat.le_of_ble_eq_true rfl) (Nat.le_of_ble_eq_true rfl) ?_
        exact hb_80 x3 _ _ _ ls I (lv_sub hl [0, 1, 2, 3] rfl) hw
      · replace hw := hw.2 c
        refine lv_aload_n hx hb dX6_isRead_67 rfl (lv_at hl 0 rfl) ?_
        refine z_getr C I fl_X6_13 hw dX6_isRead_68 (fun v10 hw => ?_)
        refine lv_iload_n hx hb dX6_isRead_71 rfl (lv_at hl 2 rfl) ?_
        refine z_iald C I hw dX6_isRead_72 (fun v11 hw => ?_)
        refine lv_if_ne (tgt := 80) hx hb dX6_isRead_73 (by decide) (fun c => ?_) (fun c => ?_)
        · replace hw := hw.1 c
          refine W.widen (k := 0) (n := 0) (Nat.le_of_ble_eq_true rfl) (Nat.le_of_ble_eq_true rfl) ?_
          exact hb_80 x3 _ _ _ ls I (lv_sub hl [0, 1, 2, 3] rfl) hw
        · replace hw := hw.2 c
          refine W.widen (k := 0) (n := 0) (Nat.le_of_ble_eq_true rfl) (Nat.le_of_ble_eq_true rfl) ?_
          exact hb_76 x3 _ _ _ ls I (lv_sub hl [0, 1, 2, 3] rfl) hw
  refine lv_aload_n hx hb dX6_isRead_0 rfl (lv_at hl 0 rfl) ?_
  refine z_getr C I fl_X6_13 hw dX6_isRead_1 (fun v12 hw => ?_)
  refine lv_iload_n hx hb dX6_isRead_4 rfl (lv_at hl 1 rfl) ?_
  refine z_iald C I hw dX6_isRead_5 (fun v13 hw => ?_)
  refine lv_istore_n (lv' := [(3, .int v13), (0, .ref o), (1, .int p0), (2, .int p1)]) hx hb dX6_isRead_6 rfl hl (by decide) rfl (fun ls hl14 => ?_)
  refine lv_iload_n hx hb dX6_isRead_7 rfl (lv_at hl14 0 rfl) ?_
  refine lv_iconst (v := 4) hx hb dX6_isRead_8 (by decide) ?_
  refine lv_icmp_ne (tgt := 52) hx hb dX6_isRead_9 (by decide) (fun c => ?_) (fun c => ?_)
  · replace hw := hw.1 c
    refine W.widen (k := 0) (n := 0) (Nat.le_of_ble_eq_true rfl) (Nat.le_of_ble_eq_true rfl) ?_
    exact hb_52 v13 _ _ _ ls I (lv_sub hl14 [1, 2, 3, 0] rfl) hw
  · replace hw := hw.2 c
    refine lv_aload_n hx hb dX6_isRead_12 rfl (lv_at hl14 1 rfl) ?_
    refine z_getr C I fl_X6_13 hw dX6_isRead_13 (fun v15 hw => ?_)
    refine lv_iload_n hx hb dX6_isRead_16 rfl (lv_at hl14 3 rfl) ?_
    refine z_iald C I hw dX6_isRead_17 (fun v16 hw => ?_)
    refine lv_iconst (v := 4) hx hb dX6_isRead_18 (by decide) ?_
    refine lv_icmp_ne (tgt := 52) hx hb dX6_isRead_19 (by decide) (fun c => ?_) (fun c => ?_)
    · replace hw := hw.1 c
      refine W.widen (k := 0) (n := 0) (Nat.le_of_ble_eq_true rfl) (Nat.le_of_ble_eq_true rfl) ?_
      exact hb_52 v13 _ _ _ ls I (lv_sub hl14 [1, 2, 3, 0] rfl) hw
    · replace hw := hw.2 c
      refine lv_aload_n hx hb dX6_isRead_22 rfl (lv_at hl14 1 rfl) ?_
      refine z_getr C I fl_X6_35 hw dX6_isRead_23 (fun v17 hw => ?_)
      refine lv_bipush (v := 37) hx hb dX6_isRead_26 (by decide) ?_
      refine lv_aload_n hx hb dX6_isRead_28 rfl (lv_at hl14 1 rfl) ?_
      refine lv_aload_n hx hb dX6_isRead_29 rfl (lv_at hl14 1 rfl) ?_
      refine z_getr C I fl_X6_16 hw dX6_isRead_30 (fun v18 hw => ?_)
      refine lv_iload_n hx hb dX6_isRead_33 rfl (lv_at hl14 2 rfl) ?_
      refine z_iald C I hw dX6_isRead_34 (fun v19 hw => ?_)
      obtain ⟨hrc, hw⟩ := hw
      refine z_callV C I (as := [.int v19]) (rest := [.int (37 : Int32), .ref v17]) (m_X6_schemaOf E hw) kv_X6_90 vc_7 hrc rfl rfl hl14.1 (Nat.le_of_ble_eq_true rfl) ⟨Nat.le_of_ble_eq_true rfl, Nat.le_of_ble_eq_true rfl⟩ ⟨Nat.le_of_ble_eq_true rfl, Nat.le_of_ble_eq_true rfl⟩ dX6_isRead_35 (z_prop C htab (Nat.le_of_ble_eq_true rfl) (Nat.le_of_ble_eq_true rfl)) (fun v M20 _ _ I hv => ?_)
      obtain ⟨v21, rfl, hw⟩ := hv
      refine W.eq (g2 := F0 m 38 ls [.int v21, .int (37 : Int32), .ref v17]) rfl ?_
      refine lv_imul hx hb dX6_isRead_38 ?_
      refine lv_aload_n hx hb dX6_isRead_39 rfl (lv_at hl14 1 rfl) ?_
      refine lv_aload_n hx hb dX6_isRead_40 rfl (lv_at hl14 1 rfl) ?_
      refine z_getr C I fl_X6_16 hw dX6_isRead_41 (fun v22 hw => ?_)
      refine lv_iload_n hx hb dX6_isRead_44 rfl (lv_at hl14 3 rfl) ?_
      refine z_iald C I hw dX6_isRead_45 (fun v23 hw => ?_)
      obtain ⟨hrc, hw⟩ := hw
      refine z_callV C I (as := [.int v23]) (rest := [.int ((37 : Int32) * v21), .ref v17]) (m_X6_schemaOf E hw) kv_X6_90 vc_7 hrc rfl rfl hl14.1 (Nat.le_of_ble_eq_true rfl) ⟨Nat.le_of_ble_eq_true rfl, Nat.le_of_ble_eq_true rfl⟩ ⟨Nat.le_of_ble_eq_true rfl, Nat.le_of_ble_eq_true rfl⟩ dX6_isRead_46 (z_prop C htab (Nat.le_of_ble_eq_true rfl) (Nat.le_of_ble_eq_true rfl)) (fun v M24 _ _ I hv => ?_)
      obtain ⟨v25, rfl, hw⟩ := hv
      refine W.eq (g2 := F0 m 49 ls [.int v25, .int ((37 : Int32) * v21), .ref v17]) rfl ?_
      refine lv_iadd hx hb dX6_isRead_49 ?_
      refine z_zald C I hw dX6_isRead_50 (fun v26 hw => ?_)
      obtain ⟨h01, hw⟩ := hw
      exact z_zret C I hr h01 ⟨_, rfl, h01, hw⟩ (Nat.le_of_ble_eq_true rfl) (Nat.le_of_ble_eq_true rfl) dX6_isRead_51
set_option maxHeartbeats 4000000 in
set_option maxRecDepth 100000 in
theorem m_X6_canReadNow {X : zX} {l : Launch} (E : zEnv X l) {M : zM} {o : Nat} {p0 : Int32} {p1 : Int32} {P : Int32 → zM → Prop} {PX : Nat → zM → Prop} (hw : w_X6_canReadNow o p0 p1 M P) : zCT X l yX6_canReadNow cX6_canReadNow 6 (some .boolean) 2 46 0 0 M [.ref o, .int p0, .int p1] (zPz P) PX := by
  refine z_entry E (by decide) ?_
  intro p e s m args below meth c C hr htab I
  have hx := C.1.1
  have hb := C.1.2.1
  obtain ⟨ls, he, hl⟩ := z_enter (m := m) (n := 6) (vs := [.ref o, .int p0, .int p1]) (l := [(0, .ref o), (1, .int p0), (2, .int p1)]) (Nat.le_of_ble_eq_true rfl) rfl
  rw [he]
  clear he
  unfold w_X6_canReadNow at hw
  have hb_2 : ∀ (n : Nat) (x3 : Int32) (M : zM) (H : Heap) (locs : List Loc) (ls : Array Slot), zWk X s M H locs → lv_has ls 6 [(0, .ref o), (1, .int p0), (2, .int p1), (3, .int x3)] → w_X6_canReadNow_2 o p0 p1 P n x3 M → W p l e (zRm 2 46 0 0) s m args below meth c H locs 0 0 (vx_MQ below (zQc X (zPz P)) (zXc X PX) args s 0 0 (zBase X)) (F0 m 2 ls []) := by
    intro n
    induction n with
    | zero => intro _ M H locs ls I hl hw; exact hw.elim
    | succ n ih =>
      intro x3 M H locs ls I hl hw
      unfold w_X6_canReadNow_2 at hw
      have hb_64 : ∀ (x3 : Int32) (M : zM) (H : Heap) (locs : List Loc) (ls : Array Slot), zWk X s M H locs → lv_has ls 6 [(0, .ref o), (1, .int p0), (2, .int p1), (3, .int x3)] → w_X6_canReadNow_64 o p0 p1 P (w_X6_canReadNow_2 o p0 p1 P n) x3 M → W p l e (zRm 2 46 0 0) s m args below meth c H locs 0 0 (vx_MQ below (zQc X (zPz P)) (zXc X PX) args s 0 0 (zBase X)) (F0 m 64 ls []) := by
        intro x3 M H locs ls I hl hw
        unfold w_X6_canReadNow_64 at hw
        refine lv_iinc (v := (x3 + 1)) (lv' := [(3, .int (x3 + 1)), (0, .ref o), (1, .int p0), (2, .int p1)]) hx hb dX6_canReadNow_64 hl (k := 3) rfl (by rfl) (by decide) rfl (fun ls hl1 => ?_)
        refine lv_goto (tgt := 2) hx hb dX6_canReadNow_67 (by decide) ?_
        refine W.widen (k := 0) (n := 0) (Nat.le_of_ble_eq_true rfl) (Nat.le_of_ble_eq_true rfl) ?_
        exact ih (x3 + 1) _ _ _ ls I (lv_sub hl1 [1, 2, 3, 0] rfl) hw
      refine lv_iload_n hx hb dX6_canReadNow_2 rfl (lv_at hl 3 rfl) ?_
      refine lv_aload_n hx hb dX6_canReadNow_3 rfl (lv_at hl 0 rfl) ?_
      refine z_getr C I fl_X6_29 hw dX6_canReadNow_4 (fun v2 hw => ?_)
      refine lv_iload_n hx hb dX6_canReadNow_7 rfl (lv_at hl 1 rfl) ?_
      refine z_iald C I hw dX6_canReadNow_8 (fun v3 hw => ?_)
      refine lv_icmp_ge (tgt := 70) hx hb dX6_canReadNow_9 (by decide) (fun c => ?_) (fun c => ?_)
      · replace hw := hw.1 c
        refine lv_iconst (v := 1) hx hb dX6_canReadNow_70 (by decide) ?_
        exact z_zret C I hr (Or.inr rfl) ⟨_, rfl, (Or.inr rfl), hw⟩ (Nat.le_of_ble_eq_true rfl) (Nat.le_of_ble_eq_true rfl) dX6_canReadNow_71
      · replace hw := hw.2 c
        refine lv_iconst (v := 5) hx hb dX6_canReadNow_12 (by decide) ?_
        refine lv_iload_n hx hb dX6_canReadNow_13 rfl (lv_at hl 1 rfl) ?_
        refine lv_imul hx hb dX6_canReadNow_14 ?_
        refine lv_iload_n hx hb dX6_canReadNow_15 rfl (lv_at hl 3 rfl) ?_
        refine lv_iadd hx hb dX6_canReadNow_16 ?_
        refine lv_istore (lv' := [(4, .int (((5 : Int32) * p0) + x3)), (0, .ref o), (1, .int p0), (2, .int p1), (3, .int x3)]) hx hb dX6_canReadNow_17 hl (by decide) rfl (fun ls hl4 => ?_)
        refine lv_aload_n hx hb dX6_canReadNow_19 rfl (lv_at hl4 1 rfl) ?_
        refine lv_iload hx hb dX6_canReadNow_20 (lv_at hl4 0 rfl) ?_
        refine lv_iload_n hx hb dX6_canReadNow_22 rfl (lv_at hl4 3 rfl) ?_
        obtain ⟨hrc, hw⟩ := hw
        refine z_callV C I (as := [.int (((5 : Int32) * p0) + x3), .int p1]) (rest := []) (m_X6_source E hw) kv_X6_112 vc_7 hrc rfl rfl hl4.1 (Nat.le_of_ble_eq_true rfl) ⟨Nat.le_of_ble_eq_true rfl, Nat.le_of_ble_eq_true rfl⟩ ⟨Nat.le_of_ble_eq_true rfl, Nat.le_of_ble_eq_true rfl⟩ dX6_canReadNow_23 (z_prop C htab (Nat.le_of_ble_eq_true rfl) (Nat.le_of_ble_eq_true rfl)) (fun v M5 _ _ I hv => ?_)
        obtain ⟨v6, rfl, hw⟩ := hv
        refine W.eq (g2 := F0 m 26 ls [.int v6]) rfl ?_
        refine lv_istore (lv' := [(5, .int v6), (4, .int (((5 : Int32) * p0) + x3)), (0, .ref o), (1, .int p0), (2, .int p1), (3, .int x3)]) hx hb dX6_canReadNow_26 hl4 (by decide) rfl (fun ls hl7 => ?_)
        refine lv_iload hx hb dX6_canReadNow_28 (lv_at hl7 0 rfl) ?_
        refine lv_iconst (v := -1) hx hb dX6_canReadNow_30 (by decide) ?_
        refine lv_icmp_ne (tgt := 47) hx hb dX6_canReadNow_31 (by decide) (fun c => ?_) (fun c => ?_)
        · replace hw := hw.1 c
          refine lv_aload_n hx hb dX6_canReadNow_47 rfl (lv_at hl7 2 rfl) ?_
          refine lv_iload hx hb dX6_canReadNow_48 (lv_at hl7 1 rfl) ?_
          refine lv_iconst (v := 5) hx hb dX6_canReadNow_50 (by decide) ?_
          refine lv_iload_n hx hb dX6_canReadNow_51 rfl (lv_at hl7 4 rfl) ?_
          refine lv_imul hx hb dX6_canReadNow_52 ?_
          refine lv_iload hx hb dX6_canReadNow_53 (lv_at hl7 0 rfl) ?_
          refine lv_iadd hx hb dX6_canReadNow_55 ?_
          obtain ⟨hrc, hw⟩ := hw
          refine z_callV C I (as := [.int (((5 : Int32) * p0) + x3), .int (((5 : Int32) * p1) + v6)]) (rest := []) (m_X6_isRead E hw) kv_X6_115 vc_7 hrc rfl rfl hl7.1 (Nat.le_of_ble_eq_true rfl) ⟨Nat.le_of_ble_eq_true rfl, Nat.le_of_ble_eq_true rfl⟩ ⟨Nat.le_of_ble_eq_true rfl, Nat.le_of_ble_eq_true rfl⟩ dX6_canReadNow_56 (z_prop C htab (Nat.le_of_ble_eq_true rfl) (Nat.le_of_ble_eq_true rfl)) (fun v M8 _ _ I hv => ?_)
          obtain ⟨v9, rfl, hv9, hw⟩ := hv
          refine W.eq (g2 := F0 m 59 ls [.int v9]) rfl ?_
          refine lv_if_ne (tgt := 64) hx hb dX6_canReadNow_59 (by decide) (fun c => ?_) (fun c => ?_)
          · replace hw := hw.1 c
            refine W.widen (k := 0) (n := 0) (Nat.le_of_ble_eq_true rfl) (Nat.le_of_ble_eq_true rfl) ?_
            exact hb_64 x3 _ _ _ ls I (lv_sub hl7 [2, 3, 4, 5] rfl) hw
          · replace hw := hw.2 c
            refine lv_iconst (v := 0) hx hb dX6_canReadNow_62 (by decide) ?_
            exact z_zret C I hr (Or.inl rfl) ⟨_, rfl, (Or.inl rfl), hw⟩ (Nat.le_of_ble_eq_true rfl) (Nat.le_of_ble_eq_true rfl) dX6_canReadNow_63
        · replace hw := hw.2 c
          refine lv_aload_n hx hb dX6_canReadNow_34 rfl (lv_at hl7 2 rfl) ?_
          refine z_getr C I fl_X6_22 hw dX6_canReadNow_35 (fun v10 hw => ?_)
          refine lv_iload hx hb dX6_canReadNow_38 (lv_at hl7 1 rfl) ?_
          refine z_zald C I hw dX6_canReadNow_40 (fun v11 hw => ?_)
          refine lv_if_ne (tgt := 64) hx hb dX6_canReadNow_41 (by decide) (fun c => ?_) (fun c => ?_)
          · replace hw := hw.1 c
            refine W.widen (k := 0) (n := 0) (Nat.le_of_ble_eq_true rfl) (Nat.le_of_ble_eq_true rfl) ?_
            exact hb_64 x3 _ _ _ ls I (lv_sub hl7 [2, 3, 4, 5] rfl) hw
          · replace hw := hw.2 c
            refine lv_goto (tgt := 62) hx hb dX6_canReadNow_44 (by decide) ?_
            refine lv_iconst (v := 0) hx hb dX6_canReadNow_62 (by decide) ?_
            exact z_zret C I hr (Or.inl rfl) ⟨_, rfl, (Or.inl rfl), hw⟩ (Nat.le_of_ble_eq_true rfl) (Nat.le_of_ble_eq_true rfl) dX6_canReadNow_63
  refine lv_iconst (v := 0) hx hb dX6_canReadNow_0 (by decide) ?_
  refine lv_istore_n (lv' := [(3, .int (0 : Int32)), (0, .ref o), (1, .int p0), (2, .int p1)]) hx hb dX6_canReadNow_1 rfl hl (by decide) rfl (fun ls hl12 => ?_)
  obtain ⟨nn, hw⟩ := hw
  refine W.widen (k := 0) (n := 0) (Nat.le_of_ble_eq_true rfl) (Nat.le_of_ble_eq_true rfl) ?_
  exact hb_2 nn (0 : Int32) _ _ _ ls I (lv_sub hl12 [1, 2, 3, 0] rfl) hw
set_option maxHeartbeats 4000000 in
set_option maxRecDepth 100000 in
theorem m_X6_tells {X : zX} {l : Launch} (E : zEnv X l) {M : zM} {o : Nat} {P : zM → Prop} {PX : Nat → zM → Prop} (hw : w_X6_tells o M P) : zCT X l yX6_tells cX6_tells 5 none 3 71 0 0 M [.ref o] (zPv P) PX := by
  refine z_entry E (by decide) ?_
  intro p e s m args below meth c C hr htab I
  have hx := C.1.1
  have hb := C.1.2.1
  obtain ⟨ls, he, hl⟩ := z_enter (m := m) (n := 5) (vs := [.ref o]) (l := [(0, .ref o)]) (Nat.le_of_ble_eq_true rfl) rfl
  rw [he]
  clear he
  unfold w_X6_tells at hw
  have hb_2 : ∀ (n : Nat) (x1 : Int32) (M : zM) (H : Heap) (locs : List Loc) (ls : Array Slot), zWk X s M H locs → lv_has ls 5 [(0, .ref o), (1, .int x1)] → w_X6_tells_2 o P n x1 M → W p l e (zRm 3 71 0 0) s m args below meth c H locs 0 0 (vx_MQ below (zQc X (zPv P)) (zXc X PX) args s 0 0 (zBase X)) (F0 m 2 ls []) := by
    intro n
    induction n with
    | zero => intro _ M H locs ls I hl hw; exact hw.elim
    | succ n ih =>
      intro x1 M H locs ls I hl hw
      unfold w_X6_tells_2 at hw
      have hb_78 : ∀ (x1 : Int32) (y0 : Int32) (y1 : Int32) (y2 : Nat) (M : zM) (H : Heap) (locs : List Loc) (ls : Array Slot), zWk X s M H locs → lv_has ls 5 [(0, .ref o), (1, .int x1)] → w_X6_tells_78 o P (w_X6_tells_2 o P n) x1 y0 y1 y2 M → W p l e (zRm 3 71 0 0) s m args below meth c H locs 0 0 (vx_MQ below (zQc X (zPv P)) (zXc X PX) args s 0 0 (zBase X)) (F0 m 78 ls [.int y0, .int y1, .ref y2]) := by
        intro x1 y0 y1 y2 M H locs ls I hl hw
        unfold w_X6_tells_78 at hw
        refine z_zast C I hw dX6_tells_78 (fun M1 _ _ I hw => ?_)
        refine lv_iinc (v := (x1 + 1)) (lv' := [(1, .int (x1 + 1)), (0, .ref o)]) hx hb dX6_tells_79 hl (k := 1) rfl (by rfl) (by decide) rfl (fun ls hl2 => ?_)
        refine lv_goto (tgt := 2) hx hb dX6_tells_82 (by decide) ?_
        refine W.widen (k := 0) (n := 0) (Nat.le_of_ble_eq_true rfl) (Nat.le_of_ble_eq_true rfl) ?_
        exact ih (x1 + 1) _ _ _ ls I (lv_sub hl2 [1, 0] rfl) hw
      have hb_77 : ∀ (x1 : Int32) (y0 : Int32) (y1 : Nat) (M : zM) (H : Heap) (locs : List Loc) (ls : Array Slot), zWk X s M H locs → lv_has ls 5 [(0, .ref o), (1, .int x1)] → w_X6_tells_77 o P (w_X6_tells_2 o P n) x1 y0 y1 M → W p l e (zRm 3 71 0 0) s m args below meth c H locs 0 0 (vx_MQ below (zQc X (zPv P)) (zXc X PX) args s 0 0 (zBase X)) (F0 m 77 ls [.int y0, .ref y1]) := by
        intro x1 y0 y1 M H locs ls I hl hw
        unfold w_X6_tells_77 at hw
        refine lv_iconst (v := 0) hx hb dX6_tells_77 (by decide) ?_
        refine W.widen (k := 0) (n := 0) (Nat.le_of_ble_eq_true rfl) (Nat.le_of_ble_eq_true rfl) ?_
        exact hb_78 x1 (0 : Int32) y0 y1 _ _ _ ls I (lv_sub hl [0, 1] rfl) hw
      have hb_52 : ∀ (x1 : Int32) (x2 : Int32) (x3 : Int32) (y0 : Int32) (M : zM) (H : Heap) (locs : List Loc) (ls : Array Slot), zWk X s M H locs → lv_has ls 5 [(0, .ref o), (1, .int x1), (2, .int x2), (3, .int x3)] → w_X6_tells_52 o P (w_X6_tells_2 o P n) x1 x2 x3 y0 M → W p l e (zRm 3 71 0 0) s m args below meth c H locs 0 0 (vx_MQ below (zQc X (zPv P)) (zXc X PX) args s 0 0 (zBase X)) (F0 m 52 ls [.int y0]) := by
        intro x1 x2 x3 y0 M H locs ls I hl hw
        unfold w_X6_tells_52 at hw
        refine lv_istore (lv' := [(4, .int y0), (0, .ref o), (1, .int x1), (2, .int x2), (3, .int x3)]) hx hb dX6_tells_52 hl (by decide) rfl (fun ls hl3 => ?_)
        refine lv_aload_n hx hb dX6_tells_54 rfl (lv_at hl3 1 rfl) ?_
        refine z_getr C I fl_X6_35 hw dX6_tells_55 (fun v4 hw => ?_)
        refine lv_iload_n hx hb dX6_tells_58 rfl (lv_at hl3 2 rfl) ?_
        refine lv_iload hx hb dX6_tells_59 (lv_at hl3 0 rfl) ?_
        refine lv_if_eq (tgt := 77) hx hb dX6_tells_61 (by decide) (fun c => ?_) (fun c => ?_)
        · replace hw := hw.1 c
          refine W.widen (k := 0) (n := 0) (Nat.le_of_ble_eq_true rfl) (Nat.le_of_ble_eq_true rfl) ?_
          exact hb_77 x1 x1 v4 _ _ _ ls I (lv_sub hl3 [1, 2] rfl) hw
        · replace hw := hw.2 c
          refine lv_aload_n hx hb dX6_tells_64 rfl (lv_at hl3 1 rfl) ?_
          refine lv_iload_n hx hb dX6_tells_65 rfl (lv_at hl3 3 rfl) ?_
          refine lv_iload_n hx hb dX6_tells_66 rfl (lv_at hl3 4 rfl) ?_
          obtain ⟨hrc, hw⟩ := hw
          refine z_callV C I (as := [.int x2, .int x3]) (rest := [.int x1, .ref v4]) (m_X6_canReadNow E hw) kv_X6_121 vc_7 hrc rfl rfl hl3.1 (Nat.le_of_ble_eq_true rfl) ⟨Nat.le_of_ble_eq_true rfl, Nat.le_of_ble_eq_true rfl⟩ ⟨Nat.le_of_ble_eq_true rfl, Nat.le_of_ble_eq_true rfl⟩ dX6_tells_67 (z_prop C htab (Nat.le_of_ble_eq_true rfl) (Nat.le_of_ble_eq_true rfl)) (fun v M5 _ _ I hv => ?_)
          obtain ⟨v6, rfl, hv6, hw⟩ := hv
          refine W.eq (g2 := F0 m 70 ls [.int v6, .int x1, .ref v4]) rfl ?_
          refine lv_if_eq (tgt := 77) hx hb dX6_tells_70 (by decide) (fun c => ?_) (fun c => ?_)
          · replace hw := hw.1 c
            refine W.widen (k := 0) (n := 0) (Nat.le_of_ble_eq_true rfl) (Nat.le_of_ble_eq_true rfl) ?_
            exact hb_77 x1 x1 v4 _ _ _ ls I (lv_sub hl3 [1, 2] rfl) hw
          · replace hw := hw.2 c
            refine lv_iconst (v := 1) hx hb dX6_tells_73 (by decide) ?_
            refine lv_goto (tgt := 78) hx hb dX6_tells_74 (by decide) ?_
            refine W.widen (k := 0) (n := 0) (Nat.le_of_ble_eq_true rfl) (Nat.le_of_ble_eq_true rfl) ?_
            exact hb_78 x1 (1 : Int32) x1 v4 _ _ _ ls I (lv_sub hl3 [1, 2] rfl) hw
      have hb_47 : ∀ (x1 : Int32) (x2 : Int32) (x3 : Int32) (M : zM) (H : Heap) (locs : List Loc) (ls : Array Slot), zWk X s M H locs → lv_has ls 5 [(0, .ref o), (1, .int x1), (2, .int x2), (3, .int x3)] → w_X6_tells_47 o P (w_X6_tells_2 o P n) x1 x2 x3 M → W p l e (zRm 3 71 0 0) s m args below meth c H locs 0 0 (vx_MQ below (zQc X (zPv P)) (zXc X PX) args s 0 0 (zBase X)) (F0 m 47 ls []) := by
        intro x1 x2 x3 M H locs ls I hl hw
        unfold w_X6_tells_47 at hw
        refine lv_iconst (v := 1) hx hb dX6_tells_47 (by decide) ?_
        refine lv_goto (tgt := 52) hx hb dX6_tells_48 (by decide) ?_
        refine W.widen (k := 0) (n := 0) (Nat.le_of_ble_eq_true rfl) (Nat.le_of_ble_eq_true rfl) ?_
        exact hb_52 x1 x2 x3 (1 : Int32) _ _ _ ls I (lv_sub hl [0, 1, 2, 3] rfl) hw
      have hb_51 : ∀ (x1 : Int32) (x2 : Int32) (x3 : Int32) (M : zM) (H : Heap) (locs : List Loc) (ls : Array Slot), zWk X s M H locs → lv_has ls 5 [(0, .ref o), (1, .int x1), (2, .int x2), (3, .int x3)] → w_X6_tells_51 o P (w_X6_tells_2 o P n) x1 x2 x3 M → W p l e (zRm 3 71 0 0) s m args below meth c H locs 0 0 (vx_MQ below (zQc X (zPv P)) (zXc X PX) args s 0 0 (zBase X)) (F0 m 51 ls []) := by
        intro x1 x2 x3 M H locs ls I hl hw
        unfold w_X6_tells_51 at hw
        refine lv_iconst (v := 0) hx hb dX6_tells_51 (by decide) ?_
        refine W.widen (k := 0) (n := 0) (Nat.le_of_ble_eq_true rfl) (Nat.le_of_ble_eq_true rfl) ?_
        exact hb_52 x1 x2 x3 (0 : Int32) _ _ _ ls I (lv_sub hl [0, 1, 2, 3] rfl) hw
      have hb_33 : ∀ (x1 : Int32) (x2 : Int32) (x3 : Int32) (M : zM) (H : Heap) (locs : List Loc) (ls : Array Slot), zWk X s M H locs → lv_has ls 5 [(0, .ref o), (1, .int x1), (2, .int x2), (3, .int x3)] → w_X6_tells_33 o P (w_X6_tells_2 o P n) x1 x2 x3 M → W p l e (zRm 3 71 0 0) s m args below meth c H locs 0 0 (vx_MQ below (zQc X (zPv P)) (zXc X PX) args s 0 0 (zBase X)) (F0 m 33 ls []) := by
        intro x1 x2 x3 M H locs ls I hl hw
        unfold w_X6_tells_33 at hw
        refine lv_iload_n hx hb dX6_tells_33 rfl (lv_at hl 3 rfl) ?_
        refine lv_aload_n hx hb dX6_tells_34 rfl (lv_at hl 0 rfl) ?_
        refine z_geti C I fl_X6_118 hw dX6_tells_35 (fun v7 hw => ?_)
        refine lv_icmp_lt (tgt := 47) hx hb dX6_tells_38 (by decide) (fun c => ?_) (fun c => ?_)
        · replace hw := hw.1 c
          refine W.widen (k := 0) (n := 0) (Nat.le_of_ble_eq_true rfl) (Nat.le_of_ble_eq_true rfl) ?_
          exact hb_47 x1 x2 x3 _ _ _ ls I (lv_sub hl [0, 1, 2, 3] rfl) hw
        · replace hw := hw.2 c
          refine lv_iload_n hx hb dX6_tells_41 rfl (lv_at hl 3 rfl) ?_
          refine lv_bipush (v := 36) hx hb dX6_tells_42 (by decide) ?_
          refine lv_icmp_ne (tgt := 51) hx hb dX6_tells_44 (by decide) (fun c => ?_) (fun c => ?_)
          · replace hw := hw.1 c
            refine W.widen (k := 0) (n := 0) (Nat.le_of_ble_eq_true rfl) (Nat.le_of_ble_eq_true rfl) ?_
            exact hb_51 x1 x2 x3 _ _ _ ls I (lv_sub hl [0, 1, 2, 3] rfl) hw
          · replace hw := hw.2 c
            refine W.widen (k := 0) (n := 0) (Nat.le_of_ble_eq_true rfl) (Nat.le_of_ble_eq_true rfl) ?_
            exact hb_47 x1 x2 x3 _ _ _ ls I (lv_sub hl [0, 1, 2, 3] rfl) hw
      refine lv_iload_n hx hb dX6_tells_2 rfl (lv_at hl 1 rfl) ?_
      refine lv_sipush (v := 1369) hx hb dX6_tells_3 (by decide) ?_
      refine lv_icmp_ge (tgt := 85) hx hb dX6_tells_6 (by decide) (fun c => ?_) (fun c => ?_)
      · replace hw := hw.1 c
        exact z_vret C I hr ⟨rfl, hw⟩ (Nat.le_of_ble_eq_true rfl) (Nat.le_of_ble_eq_true rfl) dX6_tells_85
      · replace hw := hw.2 c
        refine lv_iload_n hx hb dX6_tells_9 rfl (lv_at hl 1 rfl) ?_
        refine lv_bipush (v := 37) hx hb dX6_tells_10 (by decide) ?_
        refine lv_idiv hx hb dX6_tells_12 (by decide) ?_
        refine lv_istore_n (lv' := [(2, .int (x1 / (37 : Int32))), (0, .ref o), (1, .int x1)]) hx hb dX6_tells_13 rfl hl (by decide) rfl (fun ls hl8 => ?_)
        refine lv_iload_n hx hb dX6_tells_14 rfl (lv_at hl8 2 rfl) ?_
        refine lv_bipush (v := 37) hx hb dX6_tells_15 (by decide) ?_
        refine lv_irem hx hb dX6_tells_17 (by decide) ?_
        refine lv_istore_n (lv' := [(3, .int (x1 - x1 / (37 : Int32) * (37 : Int32))), (2, .int (x1 / (37 : Int32))), (0, .ref o), (1, .int x1)]) hx hb dX6_tells_18 rfl hl8 (by decide) rfl (fun ls hl9 => ?_)
        refine lv_iload_n hx hb dX6_tells_19 rfl (lv_at hl9 1 rfl) ?_
        refine lv_aload_n hx hb dX6_tells_20 rfl (lv_at hl9 2 rfl) ?_
        refine z_geti C I fl_X6_118 hw dX6_tells_21 (fun v10 hw => ?_)
        refine lv_icmp_lt (tgt := 33) hx hb dX6_tells_24 (by decide) (fun c => ?_) (fun c => ?_)
        · replace hw := hw.1 c
          refine W.widen (k := 0) (n := 0) (Nat.le_of_ble_eq_true rfl) (Nat.le_of_ble_eq_true rfl) ?_
          exact hb_33 x1 (x1 / (37 : Int32)) (x1 - x1 / (37 : Int32) * (37 : Int32)) _ _ _ ls I (lv_sub hl9 [2, 3, 1, 0] rfl) hw
        · replace hw := hw.2 c
          refine lv_iload_n hx hb dX6_tells_27 rfl (lv_at hl9 1 rfl) ?_
          refine lv_bipush (v := 36) hx hb dX6_tells_28 (by decide) ?_
          refine lv_icmp_ne (tgt := 51) hx hb dX6_tells_30 (by decide) (fun c => ?_) (fun c => ?_)
          · replace hw := hw.1 c
            refine W.widen (k := 0) (n := 0) (Nat.le_of_ble_eq_true rfl) (Nat.le_of_ble_eq_true rfl) ?_
            exact hb_51 x1 (x1 / (37 : Int32)) (x1 - x1 / (37 : Int32) * (37 : Int32)) _ _ _ ls I (lv_sub hl9 [2, 3, 1, 0] rfl) hw
          · replace hw := hw.2 c
            refine W.widen (k := 0) (n := 0) (Nat.le_of_ble_eq_true rfl) (Nat.le_of_ble_eq_true rfl) ?_
            exact hb_33 x1 (x1 / (37 : Int32)) (x1 - x1 / (37 : Int32) * (37 : Int32)) _ _ _ ls I (lv_sub hl9 [2, 3, 1, 0] rfl) hw
  refine lv_iconst (v := 0) hx hb dX6_tells_0 (by decide) ?_
  refine lv_istore_n (lv' := [(1, .int (0 : Int32)), (0, .ref o)]) hx hb dX6_tells_1 rfl hl (by decide) rfl (fun ls hl11 => ?_)
  obtain ⟨nn, hw⟩ := hw
  refine W.widen (k := 0) (n := 0) (Nat.le_of_ble_eq_true rfl) (Nat.le_of_ble_eq_true rfl) ?_
  exact hb_2 nn (0 : Int32) _ _ _ ls I (lv_sub hl11 [1, 0] rfl) hw
