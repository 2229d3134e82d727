set_option maxHeartbeats 4000000 in
set_option maxRecDepth 100000 in
theorem m_L_field {X : zX} {l : Launch} (E : zEnv X l) (EN : zNcs X) {M : zM} {p0 : Nat} {p1 : Int32} {p2 : Int32} {p3 : Int32} {p4 : Int32} {p5 : Nat} {P : Int32 → zM → Prop} {PX : Nat → zM → Prop} (hw : w_L_field p0 p1 p2 p3 p4 p5 M P) : zCTw X l yL_field cL_field 7 (some .int) [(0, 14, 17, 13), (0, 14, 21, 15), (0, 14, 25, 17)] 11 356 2 109 M [.ref p0, .int p1, .int p2, .int p3, .int p4, .ref p5] (zPi P) PX := by
  refine z_entryW E (by decide) zw264 ?_
  intro p e s m args below meth c C hr htab I
  have hx := C.1.1
  have hb := C.1.2.1
  obtain ⟨ls, he, hl⟩ := z_enter (m := m) (n := 7) (vs := [.ref p0, .int p1, .int p2, .int p3, .int p4, .ref p5]) (l := [(0, .ref p0), (1, .int p1), (2, .int p2), (3, .int p3), (4, .int p4), (5, .ref p5)]) (Nat.le_of_ble_eq_true rfl) rfl
  rw [he]
  clear he
  unfold w_L_field at hw
  refine lv_aload hx hb dL_field_0 (lv_at hl 5 rfl) ?_
  refine lv_iconst (v := 0) hx hb dL_field_2 (by decide) ?_
  refine lv_aload_n hx hb dL_field_3 rfl (lv_at hl 0 rfl) ?_
  refine lv_iload_n hx hb dL_field_4 rfl (lv_at hl 1 rfl) ?_
  refine lv_iload_n hx hb dL_field_5 rfl (lv_at hl 2 rfl) ?_
  refine lv_iload_n hx hb dL_field_6 rfl (lv_at hl 3 rfl) ?_
  refine lv_iload hx hb dL_field_7 (lv_at hl 4 rfl) ?_
  obtain ⟨hrc, hw⟩ := hw
  refine z_callV C I (as := [.int p1, .int p2, .int p3, .int p4]) (rest := [.int (0 : Int32), .ref p5]) (m_X5_field E hw) kv_L_7 vc_6 hrc rfl rfl hl.1 (Nat.le_of_ble_eq_true rfl) ⟨Nat.le_of_ble_eq_true rfl, Nat.le_of_ble_eq_true rfl⟩ ⟨Nat.le_of_ble_eq_true rfl, Nat.le_of_ble_eq_true rfl⟩ dL_field_9 (fun k2 M3 _ _ ce q9 I hw hce hcv hcl => ?_) (fun v M1 _ _ I hv => ?_)
  rotate_left
  · obtain ⟨v7, rfl, hw⟩ := hv
    refine W.eq (g2 := F0 m 12 ls [.int v7, .int (0 : Int32), .ref p5]) rfl ?_
    refine lv_i2l hx hb dL_field_12 rfl ?_
    refine z_last C I hw dL_field_13 (fun M8 _ _ I hw => ?_)
    refine lv_goto (tgt := 29) hx hb dL_field_14 (by decide) ?_
    refine lv_iconst (v := 0) hx hb dL_field_29 (by decide) ?_
    exact z_iret C I hr ⟨_, rfl, hw⟩ (Nat.le_of_ble_eq_true rfl) (Nat.le_of_ble_eq_true rfl) dL_field_30
  · rcases hw.2.2.2 with rfl | rfl | rfl
    · have hw := hw.1 rfl
      refine z_catch C EN htab 1 (by decide) [] (0, 14, 17, 13) [(0, 14, 21, 15), (0, 14, 25, 17)] rfl (fun _ hz => absurd hz List.not_mem_nil) (by decide) (by decide) zw265 zw280 hce hcv hcl ?_
      refine lv_astore (lv' := [(6, .ref q9), (0, .ref p0), (1, .int p1), (2, .int p2), (3, .int p3), (4, .int p4), (5, .ref p5)]) hx hb dL_field_17 hl (by decide) rfl (fun ls hl4 => ?_)
      refine lv_iconst (v := 1) hx hb dL_field_19 (by decide) ?_
      exact z_iret C I hr ⟨_, rfl, hw⟩ (Nat.le_of_ble_eq_true rfl) (Nat.le_of_ble_eq_true rfl) dL_field_20
    · have hw := hw.2.1 rfl
      refine z_catch C EN htab 2 (by decide) [(0, 14, 17, 13)] (0, 14, 21, 15) [(0, 14, 25, 17)] rfl (by intro z hz; simp only [List.mem_cons, List.not_mem_nil, or_false] at hz; rcases hz with rfl <;> first | exact ⟨by decide, 1, by decide, by decide, zw265⟩) (by decide) (by decide) zw266 zw377 hce hcv hcl ?_
      refine lv_astore (lv' := [(6, .ref q9), (0, .ref p0), (1, .int p1), (2, .int p2), (3, .int p3), (4, .int p4), (5, .ref p5)]) hx hb dL_field_21 hl (by decide) rfl (fun ls hl5 => ?_)
      refine lv_iconst (v := 2) hx hb dL_field_23 (by decide) ?_
      exact z_iret C I hr ⟨_, rfl, hw⟩ (Nat.le_of_ble_eq_true rfl) (Nat.le_of_ble_eq_true rfl) dL_field_24
    · have hw := hw.2.2.1 rfl
      refine z_catch C EN htab 3 (by decide) [(0, 14, 17, 13), (0, 14, 21, 15)] (0, 14, 25, 17) [] rfl (by intro z hz; simp only [List.mem_cons, List.not_mem_nil, or_false] at hz; rcases hz with rfl | rfl <;> first | exact ⟨by decide, 1, by decide, by decide, zw265⟩ | exact ⟨by decide, 2, by decide, by decide, zw266⟩) (by decide) (by decide) zw267 zw400 hce hcv hcl ?_
      refine lv_astore (lv' := [(6, .ref q9), (0, .ref p0), (1, .int p1), (2, .int p2), (3, .int p3), (4, .int p4), (5, .ref p5)]) hx hb dL_field_25 hl (by decide) rfl (fun ls hl6 => ?_)
      refine lv_iconst (v := 3) hx hb dL_field_27 (by decide) ?_
      exact z_iret C I hr ⟨_, rfl, hw⟩ (Nat.le_of_ble_eq_true rfl) (Nat.le_of_ble_eq_true rfl) dL_field_28
set_option maxHeartbeats 4000000 in
set_option maxRecDepth 100000 in
theorem m_L_byDefault {X : zX} {l : Launch} (E : zEnv X l) (EN : zNcs X) {M : zM} {p0 : Nat} {p1 : Int32} {p2 : Nat} {P : Int32 → zM → Prop} {PX : Nat → zM → Prop} (hw : w_L_byDefault p0 p1 p2 M P) : zCTw X l yL_byDefault cL_byDefault 4 (some .int) [(0, 9, 12, 17), (0, 9, 15, 13)] 7 112 1 6 M [.ref p0, .int p1, .ref p2] (zPi P) PX := by
  refine z_entryW E (by decide) zw485 ?_
  intro p e s m args below meth c C hr htab I
  have hx := C.1.1
  have hb := C.1.2.1
  obtain ⟨ls, he, hl⟩ := z_enter (m := m) (n := 4) (vs := [.ref p0, .int p1, .ref p2]) (l := [(0, .ref p0), (1, .int p1), (2, .ref p2)]) (Nat.le_of_ble_eq_true rfl) rfl
  rw [he]
  clear he
  unfold w_L_byDefault at hw
  refine lv_aload_n hx hb dL_byDefault_0 rfl (lv_at hl 2 rfl) ?_
  refine lv_iconst (v := 0) hx hb dL_byDefault_1 (by decide) ?_
  refine lv_aload_n hx hb dL_byDefault_2 rfl (lv_at hl 0 rfl) ?_
  refine lv_iload_n hx hb dL_byDefault_3 rfl (lv_at hl 1 rfl) ?_
  obtain ⟨hrc, hw⟩ := hw
  refine z_callV C I (as := [.int p1]) (rest := [.int (0 : Int32), .ref p2]) (m_X5_byDefault E hw) kv_L_19 vc_6 hrc rfl rfl hl.1 (Nat.le_of_ble_eq_true rfl) ⟨Nat.le_of_ble_eq_true rfl, Nat.le_of_ble_eq_true rfl⟩ ⟨Nat.le_of_ble_eq_true rfl, Nat.le_of_ble_eq_true rfl⟩ dL_byDefault_4 (fun k2 M3 _ _ ce q9 I hw hce hcv hcl => ?_) (fun v M1 _ _ I hv => ?_)
  rotate_left
  · obtain ⟨v6, rfl, hw⟩ := hv
    refine W.eq (g2 := F0 m 7 ls [.int v6, .int (0 : Int32), .ref p2]) rfl ?_
    refine lv_i2l hx hb dL_byDefault_7 rfl ?_
    refine z_last C I hw dL_byDefault_8 (fun M7 _ _ I hw => ?_)
    refine lv_goto (tgt := 18) hx hb dL_byDefault_9 (by decide) ?_
    refine lv_iconst (v := 0) hx hb dL_byDefault_18 (by decide) ?_
    exact z_iret C I hr ⟨_, rfl, hw⟩ (Nat.le_of_ble_eq_true rfl) (Nat.le_of_ble_eq_true rfl) dL_byDefault_19
  · rcases hw.2.2 with rfl | rfl
    · have hw := hw.1 rfl
      refine z_catch C EN htab 3 (by decide) [] (0, 9, 12, 17) [(0, 9, 15, 13)] rfl (fun _ hz => absurd hz List.not_mem_nil) (by decide) (by decide) zw267 zw400 hce hcv hcl ?_
      refine lv_astore_n (lv' := [(3, .ref q9), (0, .ref p0), (1, .int p1), (2, .ref p2)]) hx hb dL_byDefault_12 rfl hl (by decide) rfl (fun ls hl4 => ?_)
      refine lv_iconst (v := 1) hx hb dL_byDefault_13 (by decide) ?_
      exact z_iret C I hr ⟨_, rfl, hw⟩ (Nat.le_of_ble_eq_true rfl) (Nat.le_of_ble_eq_true rfl) dL_byDefault_14
    · have hw := hw.2.1 rfl
      refine z_catch C EN htab 1 (by decide) [(0, 9, 12, 17)] (0, 9, 15, 13) [] rfl (by intro z hz; simp only [List.mem_cons, List.not_mem_nil, or_false] at hz; rcases hz with rfl <;> first | exact ⟨by decide, 3, by decide, by decide, zw267⟩) (by decide) (by decide) zw265 zw280 hce hcv hcl ?_
      refine lv_astore_n (lv' := [(3, .ref q9), (0, .ref p0), (1, .int p1), (2, .ref p2)]) hx hb dL_byDefault_15 rfl hl (by decide) rfl (fun ls hl5 => ?_)
      refine lv_iconst (v := 2) hx hb dL_byDefault_16 (by decide) ?_
      exact z_iret C I hr ⟨_, rfl, hw⟩ (Nat.le_of_ble_eq_true rfl) (Nat.le_of_ble_eq_true rfl) dL_byDefault_17
set_option maxHeartbeats 4000000 in
set_option maxRecDepth 100000 in
theorem m_L_isAccepted {X : zX} {l : Launch} (E : zEnv X l) (EN : zNcs X) {M : zM} {p0 : Nat} {p1 : Int32} {p2 : Nat} {P : Int32 → zM → Prop} {PX : Nat → zM → Prop} (hw : w_L_isAccepted p0 p1 p2 M P) : zCTw X l yL_isAccepted cL_isAccepted 4 (some .int) [(0, 16, 19, 13), (0, 16, 22, 17)] 106 4890 2 12 M [.ref p0, .int p1, .ref p2] (zPi P) PX := by
  refine z_entryW E (by decide) zw505 ?_
  intro p e s m args below meth c C hr htab I
  have hx := C.1.1
  have hb := C.1.2.1
  obtain ⟨ls, he, hl⟩ := z_enter (m := m) (n := 4) (vs := [.ref p0, .int p1, .ref p2]) (l := [(0, .ref p0), (1, .int p1), (2, .ref p2)]) (Nat.le_of_ble_eq_true rfl) rfl
  rw [he]
  clear he
  unfold w_L_isAccepted at hw
  have hb_15 : ∀ (y0 : Int64) (y1 : Int32) (y2 : Nat) (M : zM) (H : Heap) (locs : List Loc) (ls : Array Slot), zWk X s M H locs → lv_has ls 4 [] → w_L_isAccepted_15 p0 p1 p2 P y0 y1 y2 M → W p l e (zRm 106 4890 2 12) s m args below meth c H locs 2 12 (vx_MQ below (zQc X (zPi P)) (zXc X PX) args s 2 12 (zBase X)) (F0 m 15 ls [.long y0, .int y1, .ref y2]) := by
    intro y0 y1 y2 M H locs ls I hl hw
    unfold w_L_isAccepted_15 at hw
    refine z_last C I hw dL_isAccepted_15 (fun M1 _ _ I hw => ?_)
    refine lv_goto (tgt := 25) hx hb dL_isAccepted_16 (by decide) ?_
    refine lv_iconst (v := 0) hx hb dL_isAccepted_25 (by decide) ?_
    exact z_iret C I hr ⟨_, rfl, hw⟩ (Nat.le_of_ble_eq_true rfl) (Nat.le_of_ble_eq_true rfl) dL_isAccepted_26
  refine lv_aload_n hx hb dL_isAccepted_0 rfl (lv_at hl 2 rfl) ?_
  refine lv_iconst (v := 0) hx hb dL_isAccepted_1 (by decide) ?_
  refine lv_aload_n hx hb dL_isAccepted_2 rfl (lv_at hl 0 rfl) ?_
  refine lv_iload_n hx hb dL_isAccepted_3 rfl (lv_at hl 1 rfl) ?_
  obtain ⟨hrc, hw⟩ := hw
  refine z_callV C I (as := [.int p1]) (rest := [.int (0 : Int32), .ref p2]) (m_X5_isAccepted E hw) kv_L_23 vc_6 hrc rfl rfl hl.1 (Nat.le_of_ble_eq_true rfl) ⟨Nat.le_of_ble_eq_true rfl, Nat.le_of_ble_eq_true rfl⟩ ⟨Nat.le_of_ble_eq_true rfl, Nat.le_of_ble_eq_true rfl⟩ dL_isAccepted_4 (fun k3 M4 _ _ ce q9 I hw hce hcv hcl => ?_) (fun v M2 _ _ I hv => ?_)
  rotate_left
  · obtain ⟨v7, rfl, hv7, hw⟩ := hv
    refine W.eq (g2 := F0 m 7 ls [.int v7, .int (0 : Int32), .ref p2]) rfl ?_
    refine lv_if_eq (tgt := 14) hx hb dL_isAccepted_7 (by decide) (fun c => ?_) (fun c => ?_)
    · replace hw := hw.1 c
      refine lv_lconst (v := 0) hx hb dL_isAccepted_14 (by decide) ?_
      refine W.widen (k := 2) (n := 12) (Nat.le_of_ble_eq_true rfl) (Nat.le_of_ble_eq_true rfl) ?_
      exact hb_15 (0 : Int64) (0 : Int32) p2 _ _ _ ls I (lv_sub hl [] rfl) hw
    · replace hw := hw.2 c
      refine lv_lconst (v := 1) hx hb dL_isAccepted_10 (by decide) ?_
      refine lv_goto (tgt := 15) hx hb dL_isAccepted_11 (by decide) ?_
      refine W.widen (k := 2) (n := 12) (Nat.le_of_ble_eq_true rfl) (Nat.le_of_ble_eq_true rfl) ?_
      exact hb_15 (1 : Int64) (0 : Int32) p2 _ _ _ ls I (lv_sub hl [] rfl) hw
  · rcases hw.2.2 with rfl | rfl
    · have hw := hw.1 rfl
      refine z_catch C EN htab 1 (by decide) [] (0, 16, 19, 13) [(0, 16, 22, 17)] rfl (fun _ hz => absurd hz List.not_mem_nil) (by decide) (by decide) zw265 zw280 hce hcv hcl ?_
      refine lv_astore_n (lv' := [(3, .ref q9), (0, .ref p0), (1, .int p1), (2, .ref p2)]) hx hb dL_isAccepted_19 rfl hl (by decide) rfl (fun ls hl5 => ?_)
      refine lv_iconst (v := 1) hx hb dL_isAccepted_20 (by decide) ?_
      exact z_iret C I hr ⟨_, rfl, hw⟩ (Nat.le_of_ble_eq_true rfl) (Nat.le_of_ble_eq_true rfl) dL_isAccepted_21
    · have hw := hw.2.1 rfl
      refine z_catch C EN htab 3 (by decide) [(0, 16, 19, 13)] (0, 16, 22, 17) [] rfl (by intro z hz; simp only [List.mem_cons, List.not_mem_nil, or_false] at hz; rcases hz with rfl <;> first | exact ⟨by decide, 1, by decide, by decide, zw265⟩) (by decide) (by decide) zw267 zw400 hce hcv hcl ?_
      refine lv_astore_n (lv' := [(3, .ref q9), (0, .ref p0), (1, .int p1), (2, .ref p2)]) hx hb dL_isAccepted_22 rfl hl (by decide) rfl (fun ls hl6 => ?_)
      refine lv_iconst (v := 2) hx hb dL_isAccepted_23 (by decide) ?_
      exact z_iret C I hr ⟨_, rfl, hw⟩ (Nat.le_of_ble_eq_true rfl) (Nat.le_of_ble_eq_true rfl) dL_isAccepted_24
set_option maxHeartbeats 4000000 in
set_option maxRecDepth 100000 in
theorem m_L_register {X : zX} {l : Launch} (E : zEnv X l) (EN : zNcs X) {M : zM} {p0 : Nat} {p1 : Int32} {p2 : Nat} {P : Int32 → zM → Prop} {PX : Nat → zM → Prop} (hw : w_L_register p0 p1 p2 M P) : zCTw X l yL_register cL_register 4 (some .int) [(0, 9, 12, 13), (0, 9, 15, 17)] 106 4892 9 242 M [.ref p0, .int p1, .ref p2] (zPi P) PX := by
  refine z_entryW E (by decide) zw547 ?_
  intro p e s m args below meth c C hr htab I
  have hx := C.1.1
  have hb := C.1.2.1
  obtain ⟨ls, he, hl⟩ := z_enter (m := m) (n := 4) (vs := [.ref p0, .int p1, .ref p2]) (l := [(0, .ref p0), (1, .int p1), (2, .ref p2)]) (Nat.le_of_ble_eq_true rfl) rfl
  rw [he]
  clear he
  unfold w_L_register at hw
  refine lv_aload_n hx hb dL_register_0 rfl (lv_at hl 2 rfl) ?_
  refine lv_iconst (v := 0) hx hb dL_register_1 (by decide) ?_
  refine lv_aload_n hx hb dL_register_2 rfl (lv_at hl 0 rfl) ?_
  refine lv_iload_n hx hb dL_register_3 rfl (lv_at hl 1 rfl) ?_
  obtain ⟨hrc, hw⟩ := hw
  refine z_callV C I (as := [.int p1]) (rest := [.int (0 : Int32), .ref p2]) (m_X5_register E hw) kv_L_27 vc_6 hrc rfl rfl hl.1 (Nat.le_of_ble_eq_true rfl) ⟨Nat.le_of_ble_eq_true rfl, Nat.le_of_ble_eq_true rfl⟩ ⟨Nat.le_of_ble_eq_true rfl, Nat.le_of_ble_eq_true rfl⟩ dL_register_4 (fun k2 M3 _ _ ce q9 I hw hce hcv hcl => ?_) (fun v M1 _ _ I hv => ?_)
  rotate_left
  · obtain ⟨v6, rfl, hw⟩ := hv
    refine W.eq (g2 := F0 m 7 ls [.int v6, .int (0 : Int32), .ref p2]) rfl ?_
    refine lv_i2l hx hb dL_register_7 rfl ?_
    refine z_last C I hw dL_register_8 (fun M7 _ _ I hw => ?_)
    refine lv_goto (tgt := 18) hx hb dL_register_9 (by decide) ?_
    refine lv_iconst (v := 0) hx hb dL_register_18 (by decide) ?_
    exact z_iret C I hr ⟨_, rfl, hw⟩ (Nat.le_of_ble_eq_true rfl) (Nat.le_of_ble_eq_true rfl) dL_register_19
  · rcases hw.2.2 with rfl | rfl
    · have hw := hw.1 rfl
      refine z_catch C EN htab 1 (by decide) [] (0, 9, 12, 13) [(0, 9, 15, 17)] rfl (fun _ hz => absurd hz List.not_mem_nil) (by decide) (by decide) zw265 zw280 hce hcv hcl ?_
      refine lv_astore_n (lv' := [(3, .ref q9), (0, .ref p0), (1, .int p1), (2, .ref p2)]) hx hb dL_register_12 rfl hl (by decide) rfl (fun ls hl4 => ?_)
      refine lv_iconst (v := 1) hx hb dL_register_13 (by decide) ?_
      exact z_iret C I hr ⟨_, rfl, hw⟩ (Nat.le_of_ble_eq_true rfl) (Nat.le_of_ble_eq_true rfl) dL_register_14
    · have hw := hw.2.1 rfl
      refine z_catch C EN htab 3 (by decide) [(0, 9, 12, 13)] (0, 9, 15, 17) [] rfl (by intro z hz; simp only [List.mem_cons, List.not_mem_nil, or_false] at hz; rcases hz with rfl <;> first | exact ⟨by decide, 1, by decide, by decide, zw265⟩) (by decide) (by decide) zw267 zw400 hce hcv hcl ?_
      refine lv_astore_n (lv' := [(3, .ref q9), (0, .ref p0), (1, .int p1), (2, .ref p2)]) hx hb dL_register_15 rfl hl (by decide) rfl (fun ls hl5 => ?_)
      refine lv_iconst (v := 2) hx hb dL_register_16 (by decide) ?_
      exact z_iret C I hr ⟨_, rfl, hw⟩ (Nat.le_of_ble_eq_true rfl) (Nat.le_of_ble_eq_true rfl) dL_register_17
set_option maxHeartbeats 4000000 in
set_option maxRecDepth 100000 in
theorem m_L_setMode {X : zX} {l : Launch} (E : zEnv X l) (EN : zNcs X) {M : zM} {p0 : Nat} {p1 : Int32} {p2 : Int32} {p3 : Int32} {p4 : Nat} {P : Int32 → zM → Prop} {PX : Nat → zM → Prop} (hw : w_L_setMode p0 p1 p2 p3 p4 M P) : zCTw X l yL_setMode cL_setMode 6 (some .int) [(0, 12, 15, 13)] 8 136 2 12 M [.ref p0, .int p1, .int p2, .int p3, .ref p4] (zPi P) PX := by
  refine z_entryW E (by decide) zw589 ?_
  intro p e s m args below meth c C hr htab I
  have hx := C.1.1
  have hb := C.1.2.1
  obtain ⟨ls, he, hl⟩ := z_enter (m := m) (n := 6) (vs := [.ref p0, .int p1, .int p2, .int p3, .ref p4]) (l := [(0, .ref p0), (1, .int p1), (2, .int p2), (3, .int p3), (4, .ref p4)]) (Nat.le_of_ble_eq_true rfl) rfl
  rw [he]
  clear he
  unfold w_L_setMode at hw
  refine lv_aload hx hb dL_setMode_0 (lv_at hl 4 rfl) ?_
  refine lv_iconst (v := 0) hx hb dL_setMode_2 (by decide) ?_
  refine lv_aload_n hx hb dL_setMode_3 rfl (lv_at hl 0 rfl) ?_
  refine lv_iload_n hx hb dL_setMode_4 rfl (lv_at hl 1 rfl) ?_
  refine lv_iload_n hx hb dL_setMode_5 rfl (lv_at hl 2 rfl) ?_
  refine lv_iload_n hx hb dL_setMode_6 rfl (lv_at hl 3 rfl) ?_
  obtain ⟨hrc, hw⟩ := hw
  refine z_callV C I (as := [.int p1, .int p2, .int p3]) (rest := [.int (0 : Int32), .ref p4]) (m_X5_setMode E hw) kv_L_30 vc_6 hrc rfl rfl hl.1 (Nat.le_of_ble_eq_true rfl) ⟨Nat.le_of_ble_eq_true rfl, Nat.le_of_ble_eq_true rfl⟩ ⟨Nat.le_of_ble_eq_true rfl, Nat.le_of_ble_eq_true rfl⟩ dL_setMode_7 (fun k2 M3 _ _ ce q9 I hw hce hcv hcl => ?_) (fun v M1 _ _ I hv => ?_)
  rotate_left
  · obtain ⟨v5, rfl, hw⟩ := hv
    refine W.eq (g2 := F0 m 10 ls [.int v5, .int (0 : Int32), .ref p4]) rfl ?_
    refine lv_i2l hx hb dL_setMode_10 rfl ?_
    refine z_last C I hw dL_setMode_11 (fun M6 _ _ I hw => ?_)
    refine lv_goto (tgt := 19) hx hb dL_setMode_12 (by decide) ?_
    refine lv_iconst (v := 0) hx hb dL_setMode_19 (by decide) ?_
    exact z_iret C I hr ⟨_, rfl, hw⟩ (Nat.le_of_ble_eq_true rfl) (Nat.le_of_ble_eq_true rfl) dL_setMode_20
  · rcases hw.2 with rfl
    · have hw := hw.1 rfl
      refine z_catch C EN htab 1 (by decide) [] (0, 12, 15, 13) [] rfl (fun _ hz => absurd hz List.not_mem_nil) (by decide) (by decide) zw265 zw280 hce hcv hcl ?_
      refine lv_astore (lv' := [(5, .ref q9), (0, .ref p0), (1, .int p1), (2, .int p2), (3, .int p3), (4, .ref p4)]) hx hb dL_setMode_15 hl (by decide) rfl (fun ls hl4 => ?_)
      refine lv_iconst (v := 1) hx hb dL_setMode_17 (by decide) ?_
      exact z_iret C I hr ⟨_, rfl, hw⟩ (Nat.le_of_ble_eq_true rfl) (Nat.le_of_ble_eq_true rfl) dL_setMode_18
set_option maxHeartbeats 4000000 in
set_option maxRecDepth 100000 in
theorem m_L_delete {X : zX} {l : Launch} (E : zEnv X l) (EN : zNcs X) {M : zM} {p0 : Nat} {p1 : Int32} {p2 : Int32} {p3 : Int32} {p4 : Nat} {P : Int32 → zM → Prop} {PX : Nat → zM → Prop} (hw : w_L_delete p0 p1 p2 p3 p4 M P) : zCTw X l yL_delete cL_delete 6 (some .int) [(0, 12, 15, 13), (0, 12, 19, 15), (0, 12, 23, 17)] 8 156 3 18 M [.ref p0, .int p1, .int p2, .int p3, .ref p4] (zPi P) PX := by
  refine z_entryW E (by decide) zw597 ?_
  intro p e s m args below meth c C hr htab I
  have hx := C.1.1
  have hb := C.1.2.1
  obtain ⟨ls, he, hl⟩ := z_enter (m := m) (n := 6) (vs := [.ref p0, .int p1, .int p2, .int p3, .ref p4]) (l := [(0, .ref p0), (1, .int p1), (2, .int p2), (3, .int p3), (4, .ref p4)]) (Nat.le_of_ble_eq_true rfl) rfl
  rw [he]
  clear he
  unfold w_L_delete at hw
  refine lv_aload hx hb dL_delete_0 (lv_at hl 4 rfl) ?_
  refine lv_iconst (v := 0) hx hb dL_delete_2 (by decide) ?_
  refine lv_aload_n hx hb dL_delete_3 rfl (lv_at hl 0 rfl) ?_
  refine lv_iload_n hx hb dL_delete_4 rfl (lv_at hl 1 rfl) ?_
  refine lv_iload_n hx hb dL_delete_5 rfl (lv_at hl 2 rfl) ?_
  refine lv_iload_n hx hb dL_delete_6 rfl (lv_at hl 3 rfl) ?_
  obtain ⟨hrc, hw⟩ := hw
  refine z_callV C I (as := [.int p1, .int p2, .int p3]) (rest := [.int (0 : Int32), .ref p4]) (m_X5_delete E hw) kv_L_34 vc_6 hrc rfl rfl hl.1 (Nat.le_of_ble_eq_true rfl) ⟨Nat.le_of_ble_eq_true rfl, Nat.le_of_ble_eq_true rfl⟩ ⟨Nat.le_of_ble_eq_true rfl, Nat.le_of_ble_eq_true rfl⟩ dL_delete_7 (fun k2 M3 _ _ ce q9 I hw hce hcv hcl => ?_) (fun v M1 _ _ I hv => ?_)
  rotate_left
  · obtain ⟨v7, rfl, hw⟩ := hv
    refine W.eq (g2 := F0 m 10 ls [.int v7, .int (0 : Int32), .ref p4]) rfl ?_
    refine lv_i2l hx hb dL_delete_10 rfl ?_
    refine z_last C I hw dL_delete_11 (fun M8 _ _ I hw => ?_)
    refine lv_goto (tgt := 27) hx hb dL_delete_12 (by decide) ?_
    refine lv_iconst (v := 0) hx hb dL_delete_27 (by decide) ?_
    exact z_iret C I hr ⟨_, rfl, hw⟩ (Nat.le_of_ble_eq_true rfl) (Nat.le_of_ble_eq_true rfl) dL_delete_28
  · rcases hw.2.2.2 with rfl | rfl | rfl
    · have hw := hw.1 rfl
      refine z_catch C EN htab 1 (by decide) [] (0, 12, 15, 13) [(0, 12, 19, 15), (0, 12, 23, 17)] rfl (fun _ hz => absurd hz List.not_mem_nil) (by decide) (by decide) zw265 zw280 hce hcv hcl ?_
      refine lv_astore (lv' := [(5, .ref q9), (0, .ref p0), (1, .int p1), (2, .int p2), (3, .int p3), (4, .ref p4)]) hx hb dL_delete_15 hl (by decide) rfl (fun ls hl4 => ?_)
      refine lv_iconst (v := 1) hx hb dL_delete_17 (by decide) ?_
      exact z_iret C I hr ⟨_, rfl, hw⟩ (Nat.le_of_ble_eq_true rfl) (Nat.le_of_ble_eq_true rfl) dL_delete_18
    · have hw := hw.2.1 rfl
      refine z_catch C EN htab 2 (by decide) [(0, 12, 15, 13)] (0, 12, 19, 15) [(0, 12, 23, 17)] rfl (by intro z hz; simp only [List.mem_cons, List.not_mem_nil, or_false] at hz; rcases hz with rfl <;> first | exact ⟨by decide, 1, by decide, by decide, zw265⟩) (by decide) (by decide) zw266 zw377 hce hcv hcl ?_
      refine lv_astore (lv' := [(5, .ref q9), (0, .ref p0), (1, .int p1), (2, .int p2), (3, .int p3), (4, .ref p4)]) hx hb dL_delete_19 hl (by decide) rfl (fun ls hl5 => ?_)
      refine lv_iconst (v := 2) hx hb dL_delete_21 (by decide) ?_
      exact z_iret C I hr ⟨_, rfl, hw⟩ (Nat.le_of_ble_eq_true rfl) (Nat.le_of_ble_eq_true rfl) dL_delete_22
    · have hw := hw.2.2.1 rfl
      refine z_catch C EN htab 3 (by decide) [(0, 12, 15, 13), (0, 12, 19, 15)] (0, 12, 23, 17) [] rfl (by intro z hz; simp only [List.mem_cons, List.not_mem_nil, or_false] at hz; rcases hz with rfl | rfl <;> first | exact ⟨by decide, 1, by decide, by decide, zw265⟩ | exact ⟨by decide, 2, by decide, by decide, zw266⟩) (by decide) (by decide) zw267 zw400 hce hcv hcl ?_
      refine lv_astore (lv' := [(5, .ref q9), (0, .ref p0), (1, .int p1), (2, .int p2), (3, .int p3), (4, .ref p4)]) hx hb dL_delete_23 hl (by decide) rfl (fun ls hl6 => ?_)
      refine lv_iconst (v := 3) hx hb dL_delete_25 (by decide) ?_
      exact z_iret C I hr ⟨_, rfl, hw⟩ (Nat.le_of_ble_eq_true rfl) (Nat.le_of_ble_eq_true rfl) dL_delete_26
set_option maxHeartbeats 4000000 in
set_option maxRecDepth 100000 in
theorem m_L_versions {X : zX} {l : Launch} (E : zEnv X l) (EN : zNcs X) {M : zM} {p0 : Nat} {p1 : Int32} {p2 : Nat} {P : Int32 → zM → Prop} {PX : Nat → zM → Prop} (hw : w_L_versions p0 p1 p2 M P) : zCTw X l yL_versions cL_versions 4 (some .int) [(0, 9, 12, 13)] 8 132 1 6 M [.ref p0, .int p1, .ref p2] (zPi P) PX := by
  refine z_entryW E (by decide) zw627 ?_
  intro p e s m args below meth c C hr htab I
  have hx := C.1.1
  have hb := C.1.2.1
  obtain ⟨ls, he, hl⟩ := z_enter (m := m) (n := 4) (vs := [.ref p0, .int p1, .ref p2]) (l := [(0, .ref p0), (1, .int p1), (2, .ref p2)]) (Nat.le_of_ble_eq_true rfl) rfl
  rw [he]
  clear he
  unfold w_L_versions at hw
  refine lv_aload_n hx hb dL_versions_0 rfl (lv_at hl 2 rfl) ?_
  refine lv_iconst (v := 0) hx hb dL_versions_1 (by decide) ?_
  refine lv_aload_n hx hb dL_versions_2 rfl (lv_at hl 0 rfl) ?_
  refine lv_iload_n hx hb dL_versions_3 rfl (lv_at hl 1 rfl) ?_
  obtain ⟨hrc, hw⟩ := hw
  refine z_callV C I (as := [.int p1]) (rest := [.int (0 : Int32), .ref p2]) (m_X5_versions E hw) kv_L_37 vc_6 hrc rfl rfl hl.1 (Nat.le_of_ble_eq_true rfl) ⟨Nat.le_of_ble_eq_true rfl, Nat.le_of_ble_eq_true rfl⟩ ⟨Nat.le_of_ble_eq_true rfl, Nat.le_of_ble_eq_true rfl⟩ dL_versions_4 (fun k2 M3 _ _ ce q9 I hw hce hcv hcl => ?_) (fun v M1 _ _ I hv => ?_)
  rotate_left
  · obtain ⟨v5, rfl, hw⟩ := hv
    refine W.eq (g2 := F0 m 7 ls [.int v5, .int (0 : Int32), .ref p2]) rfl ?_
    refine lv_i2l hx hb dL_versions_7 rfl ?_
    refine z_last C I hw dL_versions_8 (fun M6 _ _ I hw => ?_)
    refine lv_goto (tgt := 15) hx hb dL_versions_9 (by decide) ?_
    refine lv_iconst (v := 0) hx hb dL_versions_15 (by decide) ?_
    exact z_iret C I hr ⟨_, rfl, hw⟩ (Nat.le_of_ble_eq_true rfl) (Nat.le_of_ble_eq_true rfl) dL_versions_16
  · rcases hw.2 with rfl
    · have hw := hw.1 rfl
      refine z_catch C EN htab 1 (by decide) [] (0, 9, 12, 13) [] rfl (fun _ hz => absurd hz List.not_mem_nil) (by decide) (by decide) zw265 zw280 hce hcv hcl ?_
      refine lv_astore_n (lv' := [(3, .ref q9), (0, .ref p0), (1, .int p1), (2, .ref p2)]) hx hb dL_versions_12 rfl hl (by decide) rfl (fun ls hl4 => ?_)
      refine lv_iconst (v := 1) hx hb dL_versions_13 (by decide) ?_
      exact z_iret C I hr ⟨_, rfl, hw⟩ (Nat.le_of_ble_eq_true rfl) (Nat.le_of_ble_eq_true rfl) dL_versions_14
set_option maxHeartbeats 4000000 in
set_option maxRecDepth 100000 in
theorem m_L_number {X : zX} {l : Launch} (E : zEnv X l) (EN : zNcs X) {M : zM} {p0 : Nat} {p1 : Int32} {p2 : Int32} {p3 : Nat} {P : Int32 → zM → Prop} {PX : Nat → zM → Prop} (hw : w_L_number p0 p1 p2 p3 M P) : zCTw X l yL_number cL_number 5 (some .int) [(0, 10, 13, 13), (0, 10, 17, 15)] 9 156 2 12 M [.ref p0, .int p1, .int p2, .ref p3] (zPi P) PX := by
  refine z_entryW E (by decide) zw634 ?_
  intro p e s m args below meth c C hr htab I
  have hx := C.1.1
  have hb := C.1.2.1
  obtain ⟨ls, he, hl⟩ := z_enter (m := m) (n := 5) (vs := [.ref p0, .int p1, .int p2, .ref p3]) (l := [(0, .ref p0), (1, .int p1), (2, .int p2), (3, .ref p3)]) (Nat.le_of_ble_eq_true rfl) rfl
  rw [he]
  clear he
  unfold w_L_number at hw
  refine lv_aload_n hx hb dL_number_0 rfl (lv_at hl 3 rfl) ?_
  refine lv_iconst (v := 0) hx hb dL_number_1 (by decide) ?_
  refine lv_aload_n hx hb dL_number_2 rfl (lv_at hl 0 rfl) ?_
  refine lv_iload_n hx hb dL_number_3 rfl (lv_at hl 1 rfl) ?_
  refine lv_iload_n hx hb dL_number_4 rfl (lv_at hl 2 rfl) ?_
  obtain ⟨hrc, hw⟩ := hw
  refine z_callV C I (as := [.int p1, .int p2]) (rest := [.int (0 : Int32), .ref p3]) (m_X5_number E hw) kv_L_40 vc_6 hrc rfl rfl hl.1 (Nat.le_of_ble_eq_true rfl) ⟨Nat.le_of_ble_eq_true rfl, Nat.le_of_ble_eq_true rfl⟩ ⟨Nat.le_of_ble_eq_true rfl, Nat.le_of_ble_eq_true rfl⟩ dL_number_5 (fun k2 M3 _ _ ce q9 I hw hce hcv hcl => ?_) (fun v M1 _ _ I hv => ?_)
  rotate_left
  · obtain ⟨v6, rfl, hw⟩ := hv
    refine W.eq (g2 := F0 m 8 ls [.int v6, .int (0 : Int32), .ref p3]) rfl ?_
    refine lv_i2l hx hb dL_number_8 rfl ?_
    refine z_last C I hw dL_number_9 (fun M7 _ _ I hw => ?_)
    refine lv_goto (tgt := 21) hx hb dL_number_10 (by decide) ?_
    refine lv_iconst (v := 0) hx hb dL_number_21 (by decide) ?_
    exact z_iret C I hr ⟨_, rfl, hw⟩ (Nat.le_of_ble_eq_true rfl) (Nat.le_of_ble_eq_true rfl) dL_number_22
  · rcases hw.2.2 with rfl | rfl
    · have hw := hw.1 rfl
      refine z_catch C EN htab 1 (by decide) [] (0, 10, 13, 13) [(0, 10, 17, 15)] rfl (fun _ hz => absurd hz List.not_mem_nil) (by decide) (by decide) zw265 zw280 hce hcv hcl ?_
      refine lv_astore (lv' := [(4, .ref q9), (0, .ref p0), (1, .int p1), (2, .int p2), (3, .ref p3)]) hx hb dL_number_13 hl (by decide) rfl (fun ls hl4 => ?_)
      refine lv_iconst (v := 1) hx hb dL_number_15 (by decide) ?_
      exact z_iret C I hr ⟨_, rfl, hw⟩ (Nat.le_of_ble_eq_true rfl) (Nat.le_of_ble_eq_true rfl) dL_number_16
    · have hw := hw.2.1 rfl
      refine z_catch C EN htab 2 (by decide) [(0, 10, 13, 13)] (0, 10, 17, 15) [] rfl (by intro z hz; simp only [List.mem_cons, List.not_mem_nil, or_false] at hz; rcases hz with rfl <;> first | exact ⟨by decide, 1, by decide, by decide, zw265⟩) (by decide) (by decide) zw266 zw377 hce hcv hcl ?_
      refine lv_astore (lv' := [(4, .ref q9), (0, .ref p0), (1, .int p1), (2, .int p2), (3, .ref p3)]) hx hb dL_number_17 hl (by decide) rfl (fun ls hl5 => ?_)
      refine lv_iconst (v := 2) hx hb dL_number_19 (by decide) ?_
      exact z_iret C I hr ⟨_, rfl, hw⟩ (Nat.le_of_ble_eq_true rfl) (Nat.le_of_ble_eq_true rfl) dL_number_20
set_option maxHeartbeats 4000000 in
set_option maxRecDepth 100000 in
theorem m_L_isThere {X : zX} {l : Launch} (E : zEnv X l) (EN : zNcs X) {M : zM} {p0 : Nat} {p1 : Int32} {p2 : Int32} {p3 : Nat} {P : Int32 → zM → Prop} {PX : Nat → zM → Prop} (hw : w_L_isThere p0 p1 p2 p3 M P) : zCTw X l yL_isThere cL_isThere 5 (some .int) [(0, 17, 20, 13), (0, 17, 24, 15)] 8 134 2 12 M [.ref p0, .int p1, .int p2, .ref p3] (zPi P) PX := by
  refine z_entryW E (by decide) zw645 ?_
  intro p e s m args below meth c C hr htab I
  have hx := C.1.1
  have hb := C.1.2.1
  obtain ⟨ls, he, hl⟩ := z_enter (m := m) (n := 5) (vs := [.ref p0, .int p1, .int p2, .ref p3]) (l := [(0, .ref p0), (1, .int p1), (2, .int p2), (3, .ref p3)]) (Nat.le_of_ble_eq_true rfl) rfl
  rw [he]
  clear he
  unfold w_L_isThere at hw
  have hb_16 : ∀ (y0 : Int64) (y1 : Int32) (y2 : Nat) (M : zM) (H : Heap) (locs : List Loc) (ls : Array Slot), zWk X s M H locs → lv_has ls 5 [] → w_L_isThere_16 p0 p1 p2 p3 P y0 y1 y2 M → W p l e (zRm 8 134 2 12) s m args below meth c H locs 2 12 (vx_MQ below (zQc X (zPi P)) (zXc X PX) args s 2 12 (zBase X)) (F0 m 16 ls [.long y0, .int y1, .ref y2]) := by
    intro y0 y1 y2 M H locs ls I hl hw
    unfold w_L_isThere_16 at hw
    refine z_last C I hw dL_isThere_16 (fun M1 _ _ I hw => ?_)
    refine lv_goto (tgt := 28) hx hb dL_isThere_17 (by decide) ?_
    refine lv_iconst (v := 0) hx hb dL_isThere_28 (by decide) ?_
    exact z_iret C I hr ⟨_, rfl, hw⟩ (Nat.le_of_ble_eq_true rfl) (Nat.le_of_ble_eq_true rfl) dL_isThere_29
  refine lv_aload_n hx hb dL_isThere_0 rfl (lv_at hl 3 rfl) ?_
  refine lv_iconst (v := 0) hx hb dL_isThere_1 (by decide) ?_
  refine lv_aload_n hx hb dL_isThere_2 rfl (lv_at hl 0 rfl) ?_
  refine lv_iload_n hx hb dL_isThere_3 rfl (lv_at hl 1 rfl) ?_
  refine lv_iload_n hx hb dL_isThere_4 rfl (lv_at hl 2 rfl) ?_
  obtain ⟨hrc, hw⟩ := hw
  refine z_callV C I (as := [.int p1, .int p2]) (rest := [.int (0 : Int32), .ref p3]) (m_X5_isThere E hw) kv_L_44 vc_6 hrc rfl rfl hl.1 (Nat.le_of_ble_eq_true rfl) ⟨Nat.le_of_ble_eq_true rfl, Nat.le_of_ble_eq_true rfl⟩ ⟨Nat.le_of_ble_eq_true rfl, Nat.le_of_ble_eq_true rfl⟩ dL_isThere_5 (fun k3 M4 _ _ ce q9 I hw hce hcv hcl => ?_) (fun v M2 _ _ I hv => ?_)
  rotate_left
  · obtain ⟨v7, rfl, hv7, hw⟩ := hv
    refine W.eq (g2 := F0 m 8 ls [.int v7, .int (0 : Int32), .ref p3]) rfl ?_
    refine lv_if_eq (tgt := 15) hx hb dL_isThere_8 (by decide) (fun c => ?_) (fun c => ?_)
    · replace hw := hw.1 c
      refine lv_lconst (v := 0) hx hb dL_isThere_15 (by decide) ?_
      refine W.widen (k := 2) (n := 12) (Nat.le_of_ble_eq_true rfl) (Nat.le_of_ble_eq_true rfl) ?_
      exact hb_16 (0 : Int64) (0 : Int32) p3 _ _ _ ls I (lv_sub hl [] rfl) hw
    · replace hw := hw.2 c
      refine lv_lconst (v := 1) hx hb dL_isThere_11 (by decide) ?_
      refine lv_goto (tgt := 16) hx hb dL_isThere_12 (by decide) ?_
      refine W.widen (k := 2) (n := 12) (Nat.le_of_ble_eq_true rfl) (Nat.le_of_ble_eq_true rfl) ?_
      exact hb_16 (1 : Int64) (0 : Int32) p3 _ _ _ ls I (lv_sub hl [] rfl) hw
  · rcases hw.2.2 with rfl | rfl
    · have hw := hw.1 rfl
      refine z_catch C EN htab 1 (by decide) [] (0, 17, 20, 13) [(0, 17, 24, 15)] rfl (fun _ hz => absurd hz List.not_mem_nil) (by decide) (by decide) zw265 zw280 hce hcv hcl ?_
      refine lv_astore (lv' := [(4, .ref q9), (0, .ref p0), (1, .int p1), (2, .int p2), (3, .ref p3)]) hx hb dL_isThere_20 hl (by decide) rfl (fun ls hl5 => ?_)
      refine lv_iconst (v := 1) hx hb dL_isThere_22 (by decide) ?_
      exact z_iret C I hr ⟨_, rfl, hw⟩ (Nat.le_of_ble_eq_true rfl) (Nat.le_of_ble_eq_true rfl) dL_isThere_23
    · have hw := hw.2.1 rfl
      refine z_catch C EN htab 2 (by decide) [(0, 17, 20, 13)] (0, 17, 24, 15) [] rfl (by intro z hz; simp only [List.mem_cons, List.not_mem_nil, or_false] at hz; rcases hz with rfl <;> first | exact ⟨by decide, 1, by decide, by decide, zw265⟩) (by decide) (by decide) zw266 zw377 hce hcv hcl ?_
      refine lv_astore (lv' := [(4, .ref q9), (0, .ref p0), (1, .int p1), (2, .int p2), (3, .ref p3)]) hx hb dL_isThere_24 hl (by decide) rfl (fun ls hl6 => ?_)
      refine lv_iconst (v := 2) hx hb dL_isThere_26 (by decide) ?_
      exact z_iret C I hr ⟨_, rfl, hw⟩ (Nat.le_of_ble_eq_true rfl) (Nat.le_of_ble_eq_true rfl) dL_isThere_27
set_option maxHeartbeats 4000000 in
set_option maxRecDepth 100000 in
theorem m_L_length {X : zX} {l : Launch} (E : zEnv X l) (EN : zNcs X) {M : zM} {p0 : Nat} {p1 : Int32} {p2 : Int32} {p3 : Nat} {P : Int32 → zM → Prop} {PX : Nat → zM → Prop} (hw : w_L_length p0 p1 p2 p3 M P) : zCTw X l yL_length cL_length 5 (some .int) [(0, 10, 13, 13), (0, 10, 17, 15)] 9 156 2 12 M [.ref p0, .int p1, .int p2, .ref p3] (zPi P) PX := by
  refine z_entryW E (by decide) zw652 ?_
  intro p e s m args below meth c C hr htab I
  have hx := C.1.1
  have hb := C.1.2.1
  obtain ⟨ls, he, hl⟩ := z_enter (m := m) (n := 5) (vs := [.ref p0, .int p1, .int p2, .ref p3]) (l := [(0, .ref p0), (1, .int p1), (2, .int p2), (3, .ref p3)]) (Nat.le_of_ble_eq_true rfl) rfl
  rw [he]
  clear he
  unfold w_L_length at hw
  refine lv_aload_n hx hb dL_length_0 rfl (lv_at hl 3 rfl) ?_
  refine lv_iconst (v := 0) hx hb dL_length_1 (by decide) ?_
  refine lv_aload_n hx hb dL_length_2 rfl (lv_at hl 0 rfl) ?_
  refine lv_iload_n hx hb dL_length_3 rfl (lv_at hl 1 rfl) ?_
  refine lv_iload_n hx hb dL_length_4 rfl (lv_at hl 2 rfl) ?_
  obtain ⟨hrc, hw⟩ := hw
  refine z_callV C I (as := [.int p1, .int p2]) (rest := [.int (0 : Int32), .ref p3]) (m_X5_length E hw) kv_L_48 vc_6 hrc rfl rfl hl.1 (Nat.le_of_ble_eq_true rfl) ⟨Nat.le_of_ble_eq_true rfl, Nat.le_of_ble_eq_true rfl⟩ ⟨Nat.le_of_ble_eq_true rfl, Nat.le_of_ble_eq_true rfl⟩ dL_length_5 (fun k2 M3 _ _ ce q9 I hw hce hcv hcl => ?_) (fun v M1 _ _ I hv => ?_)
  rotate_left
  · obtain ⟨v6, rfl, hw⟩ := hv
    refine W.eq (g2 := F0 m 8 ls [.int v6, .int (0 : Int32), .ref p3]) rfl ?_
    refine lv_i2l hx hb dL_length_8 rfl ?_
    refine z_last C I hw dL_length_9 (fun M7 _ _ I hw => ?_)
    refine lv_goto (tgt := 21) hx hb dL_length_10 (by decide) ?_
    refine lv_iconst (v := 0) hx hb dL_length_21 (by decide) ?_
    exact z_iret C I hr ⟨_, rfl, hw⟩ (Nat.le_of_ble_eq_true rfl) (Nat.le_of_ble_eq_true rfl) dL_length_22
  · rcases hw.2.2 with rfl | rfl
    · have hw := hw.1 rfl
      refine z_catch C EN htab 1 (by decide) [] (0, 10, 13, 13) [(0, 10, 17, 15)] rfl (fun _ hz => absurd hz List.not_mem_nil) (by decide) (by decide) zw265 zw280 hce hcv hcl ?_
      refine lv_astore (lv' := [(4, .ref q9), (0, .ref p0), (1, .int p1), (2, .int p2), (3, .ref p3)]) hx hb dL_length_13 hl (by decide) rfl (fun ls hl4 => ?_)
      refine lv_iconst (v := 1) hx hb dL_length_15 (by decide) ?_
      exact z_iret C I hr ⟨_, rfl, hw⟩ (Nat.le_of_ble_eq_true rfl) (Nat.le_of_ble_eq_true rfl) dL_length_16
    · have hw := hw.2.1 rfl
      refine z_catch C EN htab 2 (by decide) [(0, 10, 13, 13)] (0, 10, 17, 15) [] rfl (by intro z hz; simp only [List.mem_cons, List.not_mem_nil, or_false] at hz; rcases hz with rfl <;> first | exact ⟨by decide, 1, by decide, by decide, zw265⟩) (by decide) (by decide) zw266 zw377 hce hcv hcl ?_
      refine lv_astore (lv' := [(4, .ref q9), (0, .ref p0), (1, .int p1), (2, .int p2), (3, .ref p3)]) hx hb dL_length_17 hl (by decide) rfl (fun ls hl5 => ?_)
      refine lv_iconst (v := 2) hx hb dL_length_19 (by decide) ?_
      exact z_iret C I hr ⟨_, rfl, hw⟩ (Nat.le_of_ble_eq_true rfl) (Nat.le_of_ble_eq_true rfl) dL_length_20
set_option maxHeartbeats 4000000 in
set_option maxRecDepth 100000 in
theorem m_L_canRead {X : zX} {l : Launch} (E : zEnv X l) (EN : zNcs X) {M : zM} {p0 : Nat} {p1 : Int32} {p2 : Int32} {p3 : Int32} {p4 : Int32} {p5 : Nat} {P : Int32 → zM → Prop} {PX : Nat → zM → Prop} (hw : w_L_canRead p0 p1 p2 p3 p4 p5 M P) : zCTw X l yL_canRead cL_canRead 7 (some .int) [(0, 21, 24, 13), (0, 21, 28, 15)] 104 4849 6 36 M [.ref p0, .int p1, .int p2, .int p3, .int p4, .ref p5] (zPi P) PX := by
  refine z_entryW E (by decide) zw659 ?_
  intro p e s m args below meth c C hr htab I
  have hx := C.1.1
  have hb := C.1.2.1
  obtain ⟨ls, he, hl⟩ := z_enter (m := m) (n := 7) (vs := [.ref p0, .int p1, .int p2, .int p3, .int p4, .ref p5]) (l := [(0, .ref p0), (1, .int p1), (2, .int p2), (3, .int p3), (4, .int p4), (5, .ref p5)]) (Nat.le_of_ble_eq_true rfl) rfl
  rw [he]
  clear he
  unfold w_L_canRead at hw
  have hb_20 : ∀ (y0 : Int64) (y1 : Int32) (y2 : Nat) (M : zM) (H : Heap) (locs : List Loc) (ls : Array Slot), zWk X s M H locs → lv_has ls 7 [] → w_L_canRead_20 p0 p1 p2 p3 p4 p5 P y0 y1 y2 M → W p l e (zRm 104 4849 6 36) s m args below meth c H locs 6 36 (vx_MQ below (zQc X (zPi P)) (zXc X PX) args s 6 36 (zBase X)) (F0 m 20 ls [.long y0, .int y1, .ref y2]) := by
    intro y0 y1 y2 M H locs ls I hl hw
    unfold w_L_canRead_20 at hw
    refine z_last C I hw dL_canRead_20 (fun M1 _ _ I hw => ?_)
    refine lv_goto (tgt := 32) hx hb dL_canRead_21 (by decide) ?_
    refine lv_iconst (v := 0) hx hb dL_canRead_32 (by decide) ?_
    exact z_iret C I hr ⟨_, rfl, hw⟩ (Nat.le_of_ble_eq_true rfl) (Nat.le_of_ble_eq_true rfl) dL_canRead_33
  refine lv_aload hx hb dL_canRead_0 (lv_at hl 5 rfl) ?_
  refine lv_iconst (v := 0) hx hb dL_canRead_2 (by decide) ?_
  refine lv_aload_n hx hb dL_canRead_3 rfl (lv_at hl 0 rfl) ?_
  refine lv_iload_n hx hb dL_canRead_4 rfl (lv_at hl 1 rfl) ?_
  refine lv_iload_n hx hb dL_canRead_5 rfl (lv_at hl 2 rfl) ?_
  refine lv_iload_n hx hb dL_canRead_6 rfl (lv_at hl 3 rfl) ?_
  refine lv_iload hx hb dL_canRead_7 (lv_at hl 4 rfl) ?_
  obtain ⟨hrc, hw⟩ := hw
  refine z_callV C I (as := [.int p1, .int p2, .int p3, .int p4]) (rest := [.int (0 : Int32), .ref p5]) (m_X5_canRead E hw) kv_L_51 vc_6 hrc rfl rfl hl.1 (Nat.le_of_ble_eq_true rfl) ⟨Nat.le_of_ble_eq_true rfl, Nat.le_of_ble_eq_true rfl⟩ ⟨Nat.le_of_ble_eq_true rfl, Nat.le_of_ble_eq_true rfl⟩ dL_canRead_9 (fun k3 M4 _ _ ce q9 I hw hce hcv hcl => ?_) (fun v M2 _ _ I hv => ?_)
  rotate_left
  · obtain ⟨v7, rfl, hv7, hw⟩ := hv
    refine W.eq (g2 := F0 m 12 ls [.int v7, .int (0 : Int32), .ref p5]) rfl ?_
    refine lv_if_eq (tgt := 19) hx hb dL_canRead_12 (by decide) (fun c => ?_) (fun c => ?_)
    · replace hw := hw.1 c
      refine lv_lconst (v := 0) hx hb dL_canRead_19 (by decide) ?_
      refine W.widen (k := 6) (n := 36) (Nat.le_of_ble_eq_true rfl) (Nat.le_of_ble_eq_true rfl) ?_
      exact hb_20 (0 : Int64) (0 : Int32) p5 _ _ _ ls I (lv_sub hl [] rfl) hw
    · replace hw := hw.2 c
      refine lv_lconst (v := 1) hx hb dL_canRead_15 (by decide) ?_
      refine lv_goto (tgt := 20) hx hb dL_canRead_16 (by decide) ?_
      refine W.widen (k := 6) (n := 36) (Nat.le_of_ble_eq_true rfl) (Nat.le_of_ble_eq_true rfl) ?_
      exact hb_20 (1 : Int64) (0 : Int32) p5 _ _ _ ls I (lv_sub hl [] rfl) hw
  · rcases hw.2.2 with rfl | rfl
    · have hw := hw.1 rfl
      refine z_catch C EN htab 1 (by decide) [] (0, 21, 24, 13) [(0, 21, 28, 15)] rfl (fun _ hz => absurd hz List.not_mem_nil) (by decide) (by decide) zw265 zw280 hce hcv hcl ?_
      refine lv_astore (lv' := [(6, .ref q9), (0, .ref p0), (1, .int p1), (2, .int p2), (3, .int p3), (4, .int p4), (5, .ref p5)]) hx hb dL_canRead_24 hl (by decide) rfl (fun ls hl5 => ?_)
      refine lv_iconst (v := 1) hx hb dL_canRead_26 (by decide) ?_
      exact z_iret C I hr ⟨_, rfl, hw⟩ (Nat.le_of_ble_eq_true rfl) (Nat.le_of_ble_eq_true rfl) dL_canRead_27
    · have hw := hw.2.1 rfl
      refine z_catch C EN htab 2 (by decide) [(0, 21, 24, 13)] (0, 21, 28, 15) [] rfl (by intro z hz; simp only [List.mem_cons, List.not_mem_nil, or_false] at hz; rcases hz with rfl <;> first | exact ⟨by decide, 1, by decide, by decide, zw265⟩) (by decide) (by decide) zw266 zw377 hce hcv hcl ?_
      refine lv_astore (lv' := [(6, .ref q9), (0, .ref p0), (1, .int p1), (2, .int p2), (3, .int p3), (4, .int p4), (5, .ref p5)]) hx hb dL_canRead_28 hl (by decide) rfl (fun ls hl6 => ?_)
      refine lv_iconst (v := 2) hx hb dL_canRead_30 (by decide) ?_
      exact z_iret C I hr ⟨_, rfl, hw⟩ (Nat.le_of_ble_eq_true rfl) (Nat.le_of_ble_eq_true rfl) dL_canRead_31
set_option maxHeartbeats 4000000 in
set_option maxRecDepth 100000 in
theorem m_L_readsAll {X : zX} {l : Launch} (E : zEnv X l) (EN : zNcs X) {M : zM} {p0 : Nat} {p1 : Int32} {p2 : Int32} {p3 : Int32} {p4 : Int32} {p5 : Nat} {P : Int32 → zM → Prop} {PX : Nat → zM → Prop} (hw : w_L_readsAll p0 p1 p2 p3 p4 p5 M P) : zCTw X l yL_readsAll cL_readsAll 7 (some .int) [(0, 21, 24, 13), (0, 21, 28, 15), (0, 21, 32, 17)] 104 4854 7 42 M [.ref p0, .int p1, .int p2, .int p3, .int p4, .ref p5] (zPi P) PX := by
  refine z_entryW E (by decide) zw670 ?_
  intro p e s m args below meth c C hr htab I
  have hx := C.1.1
  have hb := C.1.2.1
  obtain ⟨ls, he, hl⟩ := z_enter (m := m) (n := 7) (vs := [.ref p0, .int p1, .int p2, .int p3, .int p4, .ref p5]) (l := [(0, .ref p0), (1, .int p1), (2, .int p2), (3, .int p3), (4, .int p4), (5, .ref p5)]) (Nat.le_of_ble_eq_true rfl) rfl
  rw [he]
  clear he
  unfold w_L_readsAll at hw
  have hb_20 : ∀ (y0 : Int64) (y1 : Int32) (y2 : Nat) (M : zM) (H : Heap) (locs : List Loc) (ls : Array Slot), zWk X s M H locs → lv_has ls 7 [] → w_L_readsAll_20 p0 p1 p2 p3 p4 p5 P y0 y1 y2 M → W p l e (zRm 104 4854 7 42) s m args below meth c H locs 7 42 (vx_MQ below (zQc X (zPi P)) (zXc X PX) args s 7 42 (zBase X)) (F0 m 20 ls [.long y0, .int y1, .ref y2]) := by
    intro y0 y1 y2 M H locs ls I hl hw
    unfold w_L_readsAll_20 at hw
    refine z_last C I hw dL_readsAll_20 (fun M1 _ _ I hw => ?_)
    refine lv_goto (tgt := 36) hx hb dL_readsAll_21 (by decide) ?_
    refine lv_iconst (v := 0) hx hb dL_readsAll_36 (by decide) ?_
    exact z_iret C I hr ⟨_, rfl, hw⟩ (Nat.le_of_ble_eq_true rfl) (Nat.le_of_ble_eq_true rfl) dL_readsAll_37
  refine lv_aload hx hb dL_readsAll_0 (lv_at hl 5 rfl) ?_
  refine lv_iconst (v := 0) hx hb dL_readsAll_2 (by decide) ?_
  refine lv_aload_n hx hb dL_readsAll_3 rfl (lv_at hl 0 rfl) ?_
  refine lv_iload_n hx hb dL_readsAll_4 rfl (lv_at hl 1 rfl) ?_
  refine lv_iload_n hx hb dL_readsAll_5 rfl (lv_at hl 2 rfl) ?_
  refine lv_iload_n hx hb dL_readsAll_6 rfl (lv_at hl 3 rfl) ?_
  refine lv_iload hx hb dL_readsAll_7 (lv_at hl 4 rfl) ?_
  obtain ⟨hrc, hw⟩ := hw
  refine z_callV C I (as := [.int p1, .int p2, .int p3, .int p4]) (rest := [.int (0 : Int32), .ref p5]) (m_X5_readsAll E hw) kv_L_55 vc_6 hrc rfl rfl hl.1 (Nat.le_of_ble_eq_true rfl) ⟨Nat.le_of_ble_eq_true rfl, Nat.le_of_ble_eq_true rfl⟩ ⟨Nat.le_of_ble_eq_true rfl, Nat.le_of_ble_eq_true rfl⟩ dL_readsAll_9 (fun k3 M4 _ _ ce q9 I hw hce hcv hcl => ?_) (fun v M2 _ _ I hv => ?_)
  rotate_left
  · obtain ⟨v8, rfl, hv8, hw⟩ := hv
    refine W.eq (g2 := F0 m 12 ls [.int v8, .int (0 : Int32), .ref p5]) rfl ?_
    refine lv_if_eq (tgt := 19) hx hb dL_readsAll_12 (by decide) (fun c => ?_) (fun c => ?_)
    · replace hw := hw.1 c
      refine lv_lconst (v := 0) hx hb dL_readsAll_19 (by decide) ?_
      refine W.widen (k := 7) (n := 42) (Nat.le_of_ble_eq_true rfl) (Nat.le_of_ble_eq_true rfl) ?_
      exact hb_20 (0 : Int64) (0 : Int32) p5 _ _ _ ls I (lv_sub hl [] rfl) hw
    · replace hw := hw.2 c
      refine lv_lconst (v := 1) hx hb dL_readsAll_15 (by decide) ?_
      refine lv_goto (tgt := 20) hx hb dL_readsAll_16 (by decide) ?_
      refine W.widen (k := 7) (n := 42) (Nat.le_of_ble_eq_true rfl) (Nat.le_of_ble_eq_true rfl) ?_
      exact hb_20 (1 : Int64) (0 : Int32) p5 _ _ _ ls I (lv_sub hl [] rfl) hw
  · rcases hw.2.2.2 with rfl | rfl | rfl
    · have hw := hw.1 rfl
      refine z_catch C EN htab 1 (by decide) [] (0, 21, 24, 13) [(0, 21, 28, 15), (0, 21, 32, 17)] rfl (fun _ hz => absurd hz List.not_mem_nil) (by decide) (by decide) zw265 zw280 hce hcv hcl ?_
      refine lv_astore (lv' := [(6, .ref q9), (0, .ref p0), (1, .int p1), (2, .int p2), (3, .int p3), (4, .int p4), (5, .ref p5)]) hx hb dL_readsAll_24 hl (by decide) rfl (fun ls hl5 => ?_)
      refine lv_iconst (v := 1) hx hb dL_readsAll_26 (by decide) ?_
      exact z_iret C I hr ⟨_, rfl, hw⟩ (Nat.le_of_ble_eq_true rfl) (Nat.le_of_ble_eq_true rfl) dL_readsAll_27
    · have hw := hw.2.1 rfl
      refine z_catch C EN htab 2 (by decide) [(0, 21, 24, 13)] (0, 21, 28, 15) [(0, 21, 32, 17)] rfl (by intro z hz; simp only [List.mem_cons, List.not_mem_nil, or_false] at hz; rcases hz with rfl <;> first | exact ⟨by decide, 1, by decide, by decide, zw265⟩) (by decide) (by decide) zw266 zw377 hce hcv hcl ?_
      refine lv_astore (lv' := [(6, .ref q9), (0, .ref p0), (1, .int p1), (2, .int p2), (3, .int p3), (4, .int p4), (5, .ref p5)]) hx hb dL_readsAll_28 hl (by decide) rfl (fun ls hl6 => ?_)
      refine lv_iconst (v := 2) hx hb dL_readsAll_30 (by decide) ?_
      exact z_iret C I hr ⟨_, rfl, hw⟩ (Nat.le_of_ble_eq_true rfl) (Nat.le_of_ble_eq_true rfl) dL_readsAll_31
    · have hw := hw.2.2.1 rfl
      refine z_catch C EN htab 3 (by decide) [(0, 21, 24, 13), (0, 21, 28, 15)] (0, 21, 32, 17) [] rfl (by intro z hz; simp only [List.mem_cons, List.not_mem_nil, or_false] at hz; rcases hz with rfl | rfl <;> first | exact ⟨by decide, 1, by decide, by decide, zw265⟩ | exact ⟨by decide, 2, by decide, by decide, zw266⟩) (by decide) (by decide) zw267 zw400 hce hcv hcl ?_
      refine lv_astore (lv' := [(6, .ref q9), (0, .ref p0), (1, .int p1), (2, .int p2), (3, .int p3), (4, .int p4), (5, .ref p5)]) hx hb dL_readsAll_32 hl (by decide) rfl (fun ls hl7 => ?_)
      refine lv_iconst (v := 3) hx hb dL_readsAll_34 (by decide) ?_
      exact z_iret C I hr ⟨_, rfl, hw⟩ (Nat.le_of_ble_eq_true rfl) (Nat.le_of_ble_eq_true rfl) dL_readsAll_35
set_option maxHeartbeats 4000000 in
set_option maxRecDepth 100000 in
theorem m_L_value {X : zX} {l : Launch} (E : zEnv X l) (EN : zNcs X) {M : zM} {p0 : Nat} {p1 : Int32} {p2 : Nat} {P : Int32 → zM → Prop} {PX : Nat → zM → Prop} (hw : w_L_value p0 p1 p2 M P) : zCTw X l yL_value cL_value 4 (some .int) [(0, 9, 12, 17)] 7 111 1 6 M [.ref p0, .int p1, .ref p2] (zPi P) PX := by
  refine z_entryW E (by decide) zw695 ?_
  intro p e s m args below meth c C hr htab I
  have hx := C.1.1
  have hb := C.1.2.1
  obtain ⟨ls, he, hl⟩ := z_enter (m := m) (n := 4) (vs := [.ref p0, .int p1, .ref p2]) (l := [(0, .ref p0), (1, .int p1), (2, .ref p2)]) (Nat.le_of_ble_eq_true rfl) rfl
  rw [he]
  clear he
  unfold w_L_value at hw
  refine lv_aload_n hx hb dL_value_0 rfl (lv_at hl 2 rfl) ?_
  refine lv_iconst (v := 0) hx hb dL_value_1 (by decide) ?_
  refine lv_aload_n hx hb dL_value_2 rfl (lv_at hl 0 rfl) ?_
  refine lv_iload_n hx hb dL_value_3 rfl (lv_at hl 1 rfl) ?_
  obtain ⟨hrc, hw⟩ := hw
  refine z_callV C I (as := [.int p1]) (rest := [.int (0 : Int32), .ref p2]) (m_X5_value E hw) kv_L_58 vc_6 hrc rfl rfl hl.1 (Nat.le_of_ble_eq_true rfl) ⟨Nat.le_of_ble_eq_true rfl, Nat.le_of_ble_eq_true rfl⟩ ⟨Nat.le_of_ble_eq_true rfl, Nat.le_of_ble_eq_true rfl⟩ dL_value_4 (fun k2 M3 _ _ ce q9 I hw hce hcv hcl => ?_) (fun v M1 _ _ I hv => ?_)
  rotate_left
  · obtain ⟨v5, rfl, hw⟩ := hv
    refine W.eq (g2 := F0 m 7 ls [.int v5, .int (0 : Int32), .ref p2]) rfl ?_
    refine lv_i2l hx hb dL_value_7 rfl ?_
    refine z_last C I hw dL_value_8 (fun M6 _ _ I hw => ?_)
    refine lv_goto (tgt := 15) hx hb dL_value_9 (by decide) ?_
    refine lv_iconst (v := 0) hx hb dL_value_15 (by decide) ?_
    exact z_iret C I hr ⟨_, rfl, hw⟩ (Nat.le_of_ble_eq_true rfl) (Nat.le_of_ble_eq_true rfl) dL_value_16
  · rcases hw.2 with rfl
    · have hw := hw.1 rfl
      refine z_catch C EN htab 3 (by decide) [] (0, 9, 12, 17) [] rfl (fun _ hz => absurd hz List.not_mem_nil) (by decide) (by decide) zw267 zw400 hce hcv hcl ?_
      refine lv_astore_n (lv' := [(3, .ref q9), (0, .ref p0), (1, .int p1), (2, .ref p2)]) hx hb dL_value_12 rfl hl (by decide) rfl (fun ls hl4 => ?_)
      refine lv_iconst (v := 1) hx hb dL_value_13 (by decide) ?_
      exact z_iret C I hr ⟨_, rfl, hw⟩ (Nat.le_of_ble_eq_true rfl) (Nat.le_of_ble_eq_true rfl) dL_value_14
set_option maxHeartbeats 4000000 in
set_option maxRecDepth 100000 in
theorem m_L_isRecord {X : zX} {l : Launch} (E : zEnv X l) (EN : zNcs X) {M : zM} {p0 : Nat} {p1 : Int32} {p2 : Int32} {p3 : Nat} {P : Int32 → zM → Prop} {PX : Nat → zM → Prop} (hw : w_L_isRecord p0 p1 p2 p3 M P) : zCTw X l yL_isRecord cL_isRecord 5 (some .int) [(0, 17, 20, 13), (0, 17, 24, 15)] 9 156 2 12 M [.ref p0, .int p1, .int p2, .ref p3] (zPi P) PX := by
  refine z_entryW E (by decide) zw703 ?_
  intro p e s m args below meth c C hr htab I
  have hx := C.1.1
  have hb := C.1.2.1
  obtain ⟨ls, he, hl⟩ := z_enter (m := m) (n := 5) (vs := [.ref p0, .int p1, .int p2, .ref p3]) (l := [(0, .ref p0), (1, .int p1), (2, .int p2), (3, .ref p3)]) (Nat.le_of_ble_eq_true rfl) rfl
  rw [he]
  clear he
  unfold w_L_isRecord at hw
  have hb_16 : ∀ (y0 : Int64) (y1 : Int32) (y2 : Nat) (M : zM) (H : Heap) (locs : List Loc) (ls : Array Slot), zWk X s M H locs → lv_has ls 5 [] → w_L_isRecord_16 p0 p1 p2 p3 P y0 y1 y2 M → W p l e (zRm 9 156 2 12) s m args below meth c H locs 2 12 (vx_MQ below (zQc X (zPi P)) (zXc X PX) args s 2 12 (zBase X)) (F0 m 16 ls [.long y0, .int y1, .ref y2]) := by
    intro y0 y1 y2 M H locs ls I hl hw
    unfold w_L_isRecord_16 at hw
    refine z_last C I hw dL_isRecord_16 (fun M1 _ _ I hw => ?_)
    refine lv_goto (tgt := 28) hx hb dL_isRecord_17 (by decide) ?_
    refine lv_iconst (v := 0) hx hb dL_isRecord_28 (by decide) ?_
    exact z_iret C I hr ⟨_, rfl, hw⟩ (Nat.le_of_ble_eq_true rfl) (Nat.le_of_ble_eq_true rfl) dL_isRecord_29
  refine lv_aload_n hx hb dL_isRecord_0 rfl (lv_at hl 3 rfl) ?_
  refine lv_iconst (v := 0) hx hb dL_isRecord_1 (by decide) ?_
  refine lv_aload_n hx hb dL_isRecord_2 rfl (lv_at hl 0 rfl) ?_
  refine lv_iload_n hx hb dL_isRecord_3 rfl (lv_at hl 1 rfl) ?_
  refine lv_iload_n hx hb dL_isRecord_4 rfl (lv_at hl 2 rfl) ?_
  obtain ⟨hrc, hw⟩ := hw
  refine z_callV C I (as := [.int p1, .int p2]) (rest := [.int (0 : Int32), .ref p3]) (m_X5_isRecord E hw) kv_L_61 vc_6 hrc rfl rfl hl.1 (Nat.le_of_ble_eq_true rfl) ⟨Nat.le_of_ble_eq_true rfl, Nat.le_of_ble_eq_true rfl⟩ ⟨Nat.le_of_ble_eq_true rfl, Nat.le_of_ble_eq_true rfl⟩ dL_isRecord_5 (fun k3 M4 _ _ ce q9 I hw hce hcv hcl => ?_) (fun v M2 _ _ I hv => ?_)
  rotate_left
  · obtain ⟨v7, rfl, hv7, hw⟩ := hv
    refine W.eq (g2 := F0 m 8 ls [.int v7, .int (0 : Int32), .ref p3]) rfl ?_
    refine lv_if_eq (tgt := 15) hx hb dL_isRecord_8 (by decide) (fun c => ?_) (fun c => ?_)
    · replace hw := hw.1 c
      refine lv_lconst (v := 0) hx hb dL_isRecord_15 (by decide) ?_
      refine W.widen (k := 2) (n := 12) (Nat.le_of_ble_eq_true rfl) (Nat.le_of_ble_eq_true rfl) ?_
      exact hb_16 (0 : Int64) (0 : Int32) p3 _ _ _ ls I (lv_sub hl [] rfl) hw
    · replace hw := hw.2 c
      refine lv_lconst (v := 1) hx hb dL_isRecord_11 (by decide) ?_
      refine lv_goto (tgt := 16) hx hb dL_isRecord_12 (by decide) ?_
      refine W.widen (k := 2) (n := 12) (Nat.le_of_ble_eq_true rfl) (Nat.le_of_ble_eq_true rfl) ?_
      exact hb_16 (1 : Int64) (0 : Int32) p3 _ _ _ ls I (lv_sub hl [] rfl) hw
  · rcases hw.2.2 with rfl | rfl
    · have hw := hw.1 rfl
      refine z_catch C EN htab 1 (by decide) [] (0, 17, 20, 13) [(0, 17, 24, 15)] rfl (fun _ hz => absurd hz List.not_mem_nil) (by decide) (by decide) zw265 zw280 hce hcv hcl ?_
      refine lv_astore (lv' := [(4, .ref q9), (0, .ref p0), (1, .int p1), (2, .int p2), (3, .ref p3)]) hx hb dL_isRecord_20 hl (by decide) rfl (fun ls hl5 => ?_)
      refine lv_iconst (v := 1) hx hb dL_isRecord_22 (by decide) ?_
      exact z_iret C I hr ⟨_, rfl, hw⟩ (Nat.le_of_ble_eq_true rfl) (Nat.le_of_ble_eq_true rfl) dL_isRecord_23
    · have hw := hw.2.1 rfl
      refine z_catch C EN htab 2 (by decide) [(0, 17, 20, 13)] (0, 17, 24, 15) [] rfl (by intro z hz; simp only [List.mem_cons, List.not_mem_nil, or_false] at hz; rcases hz with rfl <;> first | exact ⟨by decide, 1, by decide, by decide, zw265⟩) (by decide) (by decide) zw266 zw377 hce hcv hcl ?_
      refine lv_astore (lv' := [(4, .ref q9), (0, .ref p0), (1, .int p1), (2, .int p2), (3, .ref p3)]) hx hb dL_isRecord_24 hl (by decide) rfl (fun ls hl6 => ?_)
      refine lv_iconst (v := 2) hx hb dL_isRecord_26 (by decide) ?_
      exact z_iret C I hr ⟨_, rfl, hw⟩ (Nat.le_of_ble_eq_true rfl) (Nat.le_of_ble_eq_true rfl) dL_isRecord_27
set_option maxHeartbeats 4000000 in
set_option maxRecDepth 100000 in
theorem m_L_read {X : zX} {l : Launch} (E : zEnv X l) (EN : zNcs X) {M : zM} {p0 : Nat} {p1 : Int32} {p2 : Int32} {p3 : Int32} {p4 : Int32} {p5 : Nat} {P : Int32 → zM → Prop} {PX : Nat → zM → Prop} (hw : w_L_read p0 p1 p2 p3 p4 p5 M P) : zCTw X l yL_read cL_read 7 (some .int) [(0, 14, 17, 13), (0, 14, 21, 15), (0, 14, 25, 17)] 104 4853 7 42 M [.ref p0, .int p1, .int p2, .int p3, .int p4, .ref p5] (zPi P) PX := by
  refine z_entryW E (by decide) zw714 ?_
  intro p e s m args below meth c C hr htab I
  have hx := C.1.1
  have hb := C.1.2.1
  obtain ⟨ls, he, hl⟩ := z_enter (m := m) (n := 7) (vs := [.ref p0, .int p1, .int p2, .int p3, .int p4, .ref p5]) (l := [(0, .ref p0), (1, .int p1), (2, .int p2), (3, .int p3), (4, .int p4), (5, .ref p5)]) (Nat.le_of_ble_eq_true rfl) rfl
  rw [he]
  clear he
  unfold w_L_read at hw
  refine lv_aload hx hb dL_read_0 (lv_at hl 5 rfl) ?_
  refine lv_iconst (v := 0) hx hb dL_read_2 (by decide) ?_
  refine lv_aload_n hx hb dL_read_3 rfl (lv_at hl 0 rfl) ?_
  refine lv_iload_n hx hb dL_read_4 rfl (lv_at hl 1 rfl) ?_
  refine lv_iload_n hx hb dL_read_5 rfl (lv_at hl 2 rfl) ?_
  refine lv_iload_n hx hb dL_read_6 rfl (lv_at hl 3 rfl) ?_
  refine lv_iload hx hb dL_read_7 (lv_at hl 4 rfl) ?_
  obtain ⟨hrc, hw⟩ := hw
  refine z_callV C I (as := [.int p1, .int p2, .int p3, .int p4]) (rest := [.int (0 : Int32), .ref p5]) (m_X5_read E hw) kv_L_64 vc_6 hrc rfl rfl hl.1 (Nat.le_of_ble_eq_true rfl) ⟨Nat.le_of_ble_eq_true rfl, Nat.le_of_ble_eq_true rfl⟩ ⟨Nat.le_of_ble_eq_true rfl, Nat.le_of_ble_eq_true rfl⟩ dL_read_9 (fun k2 M3 _ _ ce q9 I hw hce hcv hcl => ?_) (fun v M1 _ _ I hv => ?_)
  rotate_left
  · obtain ⟨v7, rfl, hw⟩ := hv
    refine W.eq (g2 := F0 m 12 ls [.int v7, .int (0 : Int32), .ref p5]) rfl ?_
    refine lv_i2l hx hb dL_read_12 rfl ?_
    refine z_last C I hw dL_read_13 (fun M8 _ _ I hw => ?_)
    refine lv_goto (tgt := 29) hx hb dL_read_14 (by decide) ?_
    refine lv_iconst (v := 0) hx hb dL_read_29 (by decide) ?_
    exact z_iret C I hr ⟨_, rfl, hw⟩ (Nat.le_of_ble_eq_true rfl) (Nat.le_of_ble_eq_true rfl) dL_read_30
  · rcases hw.2.2.2 with rfl | rfl | rfl
    · have hw := hw.1 rfl
      refine z_catch C EN htab 1 (by decide) [] (0, 14, 17, 13) [(0, 14, 21, 15), (0, 14, 25, 17)] rfl (fun _ hz => absurd hz List.not_mem_nil) (by decide) (by decide) zw265 zw280 hce hcv hcl ?_
      refine lv_astore (lv' := [(6, .ref q9), (0, .ref p0), (1, .int p1), (2, .int p2), (3, .int p3), (4, .int p4), (5, .ref p5)]) hx hb dL_read_17 hl (by decide) rfl (fun ls hl4 => ?_)
      refine lv_iconst (v := 1) hx hb dL_read_19 (by decide) ?_
      exact z_iret C I hr ⟨_, rfl, hw⟩ (Nat.le_of_ble_eq_true rfl) (Nat.le_of_ble_eq_true rfl) dL_read_20
    · have hw := hw.2.1 rfl
      refine z_catch C EN htab 2 (by decide) [(0, 14, 17, 13)] (0, 14, 21, 15) [(0, 14, 25, 17)] rfl (by intro z hz; simp only [List.mem_cons, List.not_mem_nil, or_false] at hz; rcases hz with rfl <;> first | exact ⟨by decide, 1, by decide, by decide, zw265⟩) (by decide) (by decide) zw266 zw377 hce hcv hcl ?_
      refine lv_astore (lv' := [(6, .ref q9), (0, .ref p0), (1, .int p1), (2, .int p2), (3, .int p3), (4, .int p4), (5, .ref p5)]) hx hb dL_read_21 hl (by decide) rfl (fun ls hl5 => ?_)
      refine lv_iconst (v := 2) hx hb dL_read_23 (by decide) ?_
      exact z_iret C I hr ⟨_, rfl, hw⟩ (Nat.le_of_ble_eq_true rfl) (Nat.le_of_ble_eq_true rfl) dL_read_24
    · have hw := hw.2.2.1 rfl
      refine z_catch C EN htab 3 (by decide) [(0, 14, 17, 13), (0, 14, 21, 15)] (0, 14, 25, 17) [] rfl (by intro z hz; simp only [List.mem_cons, List.not_mem_nil, or_false] at hz; rcases hz with rfl | rfl <;> first | exact ⟨by decide, 1, by decide, by decide, zw265⟩ | exact ⟨by decide, 2, by decide, by decide, zw266⟩) (by decide) (by decide) zw267 zw400 hce hcv hcl ?_
      refine lv_astore (lv' := [(6, .ref q9), (0, .ref p0), (1, .int p1), (2, .int p2), (3, .int p3), (4, .int p4), (5, .ref p5)]) hx hb dL_read_25 hl (by decide) rfl (fun ls hl6 => ?_)
      refine lv_iconst (v := 3) hx hb dL_read_27 (by decide) ?_
      exact z_iret C I hr ⟨_, rfl, hw⟩ (Nat.le_of_ble_eq_true rfl) (Nat.le_of_ble_eq_true rfl) dL_read_28
set_option maxHeartbeats 4000000 in
set_option maxRecDepth 100000 in
theorem m_L_valueAt {X : zX} {l : Launch} (E : zEnv X l) (EN : zNcs X) {M : zM} {p0 : Nat} {p1 : Int32} {p2 : Nat} {P : Int32 → zM → Prop} {PX : Nat → zM → Prop} (hw : w_L_valueAt p0 p1 p2 M P) : zCTw X l yL_valueAt cL_valueAt 4 (some .int) [(0, 9, 12, 15)] 7 111 1 6 M [.ref p0, .int p1, .ref p2] (zPi P) PX := by
  refine z_entryW E (by decide) zw722 ?_
  intro p e s m args below meth c C hr htab I
  have hx := C.1.1
  have hb := C.1.2.1
  obtain ⟨ls, he, hl⟩ := z_enter (m := m) (n := 4) (vs := [.ref p0, .int p1, .ref p2]) (l := [(0, .ref p0), (1, .int p1), (2, .ref p2)]) (Nat.le_of_ble_eq_true rfl) rfl
  rw [he]
  clear he
  unfold w_L_valueAt at hw
  refine lv_aload_n hx hb dL_valueAt_0 rfl (lv_at hl 2 rfl) ?_
  refine lv_iconst (v := 0) hx hb dL_valueAt_1 (by decide) ?_
  refine lv_aload_n hx hb dL_valueAt_2 rfl (lv_at hl 0 rfl) ?_
  refine lv_iload_n hx hb dL_valueAt_3 rfl (lv_at hl 1 rfl) ?_
  obtain ⟨hrc, hw⟩ := hw
  refine z_callV C I (as := [.int p1]) (rest := [.int (0 : Int32), .ref p2]) (m_X5_valueAt E hw) kv_L_67 vc_6 hrc rfl rfl hl.1 (Nat.le_of_ble_eq_true rfl) ⟨Nat.le_of_ble_eq_true rfl, Nat.le_of_ble_eq_true rfl⟩ ⟨Nat.le_of_ble_eq_true rfl, Nat.le_of_ble_eq_true rfl⟩ dL_valueAt_4 (fun k2 M3 _ _ ce q9 I hw hce hcv hcl => ?_) (fun v M1 _ _ I hv => ?_)
  rotate_left
  · obtain ⟨v5, rfl, hw⟩ := hv
    refine W.eq (g2 := F0 m 7 ls [.int v5, .int (0 : Int32), .ref p2]) rfl ?_
    refine lv_i2l hx hb dL_valueAt_7 rfl ?_
    refine z_last C I hw dL_valueAt_8 (fun M6 _ _ I hw => ?_)
    refine lv_goto (tgt := 15) hx hb dL_valueAt_9 (by decide) ?_
    refine lv_iconst (v := 0) hx hb dL_valueAt_15 (by decide) ?_
    exact z_iret C I hr ⟨_, rfl, hw⟩ (Nat.le_of_ble_eq_true rfl) (Nat.le_of_ble_eq_true rfl) dL_valueAt_16
  · rcases hw.2 with rfl
    · have hw := hw.1 rfl
      refine z_catch C EN htab 2 (by decide) [] (0, 9, 12, 15) [] rfl (fun _ hz => absurd hz List.not_mem_nil) (by decide) (by decide) zw266 zw377 hce hcv hcl ?_
      refine lv_astore_n (lv' := [(3, .ref q9), (0, .ref p0), (1, .int p1), (2, .ref p2)]) hx hb dL_valueAt_12 rfl hl (by decide) rfl (fun ls hl4 => ?_)
      refine lv_iconst (v := 1) hx hb dL_valueAt_13 (by decide) ?_
      exact z_iret C I hr ⟨_, rfl, hw⟩ (Nat.le_of_ble_eq_true rfl) (Nat.le_of_ble_eq_true rfl) dL_valueAt_14
