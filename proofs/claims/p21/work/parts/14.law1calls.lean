set_option maxHeartbeats 4000000 in
set_option maxRecDepth 100000 in
theorem m_L_cell {X : zX} {l : Launch} (E : zEnv X l) (EN : zNcs X) {M : zM} {p0 : Nat} {p1 : Int32} {P : Int32 → zM → Prop} {PX : Nat → zM → Prop} (hw : w_L_cell p0 p1 M P) : zCT X l yL_cell cL_cell 2 (some .int) 0 0 0 0 M [.ref p0, .int p1] (zPi P) PX := by
  refine z_entry E (by decide) ?_
  intro p e s m args below meth c C hr htab I
  have hx := C.1.1
  have hb := C.1.2.1
  obtain ⟨ls, he, hl⟩ := z_enter (m := m) (n := 2) (vs := [.ref p0, .int p1]) (l := [(0, .ref p0), (1, .int p1)]) (Nat.le_of_ble_eq_true rfl) rfl
  rw [he]
  clear he
  unfold w_L_cell at hw
  refine lv_iload_n hx hb dL_cell_0 rfl (lv_at hl 1 rfl) ?_
  refine lv_aload_n hx hb dL_cell_1 rfl (lv_at hl 0 rfl) ?_
  refine z_alen C I hw dL_cell_2 (fun v1 hw => ?_)
  refine lv_icmp_ge (tgt := 12) hx hb dL_cell_3 (by decide) (fun c => ?_) (fun c => ?_)
  · replace hw := hw.1 c
    refine lv_sipush (v := 7919) hx hb dL_cell_12 (by decide) ?_
    refine lv_iload_n hx hb dL_cell_15 rfl (lv_at hl 1 rfl) ?_
    refine lv_sipush (v := 643) hx hb dL_cell_16 (by decide) ?_
    refine lv_iadd hx hb dL_cell_19 ?_
    refine lv_imul hx hb dL_cell_20 ?_
    refine lv_iload_n hx hb dL_cell_21 rfl (lv_at hl 1 rfl) ?_
    refine lv_sipush (v := 2999) hx hb dL_cell_22 (by decide) ?_
    refine lv_iadd hx hb dL_cell_25 ?_
    refine lv_imul hx hb dL_cell_26 ?_
    exact z_iret C I hr ⟨_, rfl, hw⟩ (Nat.le_of_ble_eq_true rfl) (Nat.le_of_ble_eq_true rfl) dL_cell_27
  · replace hw := hw.2 c
    refine lv_aload_n hx hb dL_cell_6 rfl (lv_at hl 0 rfl) ?_
    refine lv_iload_n hx hb dL_cell_7 rfl (lv_at hl 1 rfl) ?_
    refine z_sald C I hw dL_cell_8 (fun v2 hw => ?_)
    refine lv_goto (tgt := 27) hx hb dL_cell_9 (by decide) ?_
    exact z_iret C I hr ⟨_, rfl, hw⟩ (Nat.le_of_ble_eq_true rfl) (Nat.le_of_ble_eq_true rfl) dL_cell_27
set_option maxHeartbeats 4000000 in
set_option maxRecDepth 100000 in
theorem m_L_low {X : zX} {l : Launch} (E : zEnv X l) (EN : zNcs X) {M : zM} {p0 : Int32} {p1 : Int32} {P : Int32 → zM → Prop} {PX : Nat → zM → Prop} (hw : w_L_low p0 p1 M P) : zCT X l yL_low cL_low 2 (some .int) 0 0 0 0 M [.int p0, .int p1] (zPi P) PX := by
  refine z_entry E (by decide) ?_
  intro p e s m args below meth c C hr htab I
  have hx := C.1.1
  have hb := C.1.2.1
  obtain ⟨ls, he, hl⟩ := z_enter (m := m) (n := 2) (vs := [.int p0, .int p1]) (l := [(0, .int p0), (1, .int p1)]) (Nat.le_of_ble_eq_true rfl) rfl
  rw [he]
  clear he
  unfold w_L_low at hw
  refine lv_iload_n hx hb dL_low_0 rfl (lv_at hl 0 rfl) ?_
  refine lv_ldc (v := 2147483647) hx hb C.1.2.2.2.1 (z_word C.1 zw209) dL_low_1 ?_
  refine lv_iand hx hb dL_low_3 ?_
  refine lv_iload_n hx hb dL_low_4 rfl (lv_at hl 1 rfl) ?_
  obtain ⟨hne, hw⟩ := hw
  refine lv_irem hx hb dL_low_5 hne ?_
  exact z_iret C I hr ⟨_, rfl, hw⟩ (Nat.le_of_ble_eq_true rfl) (Nat.le_of_ble_eq_true rfl) dL_low_6
set_option maxHeartbeats 4000000 in
set_option maxRecDepth 100000 in
theorem m_L_field {X : zX} {l : Launch} (E : zEnv X l) (EN : zNcs X) {M : zM} {p0 : Nat} {p1 : Int32} {p2 : Int32} {p3 : Int32} {p4 : Int32} {P : Int32 → zM → Prop} {PX : Nat → zM → Prop} (hw : w_L_field p0 p1 p2 p3 p4 M P) : zCTw X l yL_field cL_field 6 (some .int) [(0, 9, 10, 14), (0, 9, 15, 17), (0, 9, 20, 19)] 11 356 2 109 M [.ref p0, .int p1, .int p2, .int p3, .int p4] (zPi P) PX := by
  refine z_entryW E (by decide) zw215 ?_
  intro p e s m args below meth c C hr htab I
  have hx := C.1.1
  have hb := C.1.2.1
  obtain ⟨ls, he, hl⟩ := z_enter (m := m) (n := 6) (vs := [.ref p0, .int p1, .int p2, .int p3, .int p4]) (l := [(0, .ref p0), (1, .int p1), (2, .int p2), (3, .int p3), (4, .int p4)]) (Nat.le_of_ble_eq_true rfl) rfl
  rw [he]
  clear he
  unfold w_L_field at hw
  refine lv_aload_n hx hb dL_field_0 rfl (lv_at hl 0 rfl) ?_
  refine lv_iload_n hx hb dL_field_1 rfl (lv_at hl 1 rfl) ?_
  refine lv_iload_n hx hb dL_field_2 rfl (lv_at hl 2 rfl) ?_
  refine lv_iload_n hx hb dL_field_3 rfl (lv_at hl 3 rfl) ?_
  refine lv_iload hx hb dL_field_4 (lv_at hl 4 rfl) ?_
  obtain ⟨hrc, hw⟩ := hw
  refine z_callV C I (as := [.int p1, .int p2, .int p3, .int p4]) (rest := []) (m_X5_field E hw) kv_L_8 vc_6 hrc rfl rfl hl.1 (Nat.le_of_ble_eq_true rfl) ⟨Nat.le_of_ble_eq_true rfl, Nat.le_of_ble_eq_true rfl⟩ ⟨Nat.le_of_ble_eq_true rfl, Nat.le_of_ble_eq_true rfl⟩ dL_field_6 (fun k2 M3 _ _ ce q9 I hw hce hcv hcl => ?_) (fun v M1 _ _ I hv => ?_)
  rotate_left
  · obtain ⟨v7, rfl, hw⟩ := hv
    refine W.eq (g2 := F0 m 9 ls [.int v7]) rfl ?_
    exact z_iret C I hr ⟨_, rfl, hw⟩ (Nat.le_of_ble_eq_true rfl) (Nat.le_of_ble_eq_true rfl) dL_field_9
  · rcases hw.2.2.2 with rfl | rfl | rfl
    · have hw := hw.1 rfl
      refine z_catch C EN htab 1 (by decide) [] (0, 9, 10, 14) [(0, 9, 15, 17), (0, 9, 20, 19)] rfl (fun _ hz => absurd hz List.not_mem_nil) (by decide) (by decide) zw216 zw231 hce hcv hcl ?_
      refine lv_astore (lv' := [(5, .ref q9), (0, .ref p0), (1, .int p1), (2, .int p2), (3, .int p3), (4, .int p4)]) hx hb dL_field_10 hl (by decide) rfl (fun ls hl4 => ?_)
      refine lv_ldc (v := -99999) hx hb C.1.2.2.2.1 (z_word C.1 zw442) dL_field_12 ?_
      exact z_iret C I hr ⟨_, rfl, hw⟩ (Nat.le_of_ble_eq_true rfl) (Nat.le_of_ble_eq_true rfl) dL_field_14
    · have hw := hw.2.1 rfl
      refine z_catch C EN htab 2 (by decide) [(0, 9, 10, 14)] (0, 9, 15, 17) [(0, 9, 20, 19)] rfl (by intro z hz; simp only [List.mem_cons, List.not_mem_nil, or_false] at hz; rcases hz with rfl <;> first | exact ⟨by decide, 1, by decide, by decide, zw216⟩) (by decide) (by decide) zw217 zw332 hce hcv hcl ?_
      refine lv_astore (lv' := [(5, .ref q9), (0, .ref p0), (1, .int p1), (2, .int p2), (3, .int p3), (4, .int p4)]) hx hb dL_field_15 hl (by decide) rfl (fun ls hl5 => ?_)
      refine lv_ldc (v := -99999) hx hb C.1.2.2.2.1 (z_word C.1 zw442) dL_field_17 ?_
      exact z_iret C I hr ⟨_, rfl, hw⟩ (Nat.le_of_ble_eq_true rfl) (Nat.le_of_ble_eq_true rfl) dL_field_19
    · have hw := hw.2.2.1 rfl
      refine z_catch C EN htab 3 (by decide) [(0, 9, 10, 14), (0, 9, 15, 17)] (0, 9, 20, 19) [] rfl (by intro z hz; simp only [List.mem_cons, List.not_mem_nil, or_false] at hz; rcases hz with rfl | rfl <;> first | exact ⟨by decide, 1, by decide, by decide, zw216⟩ | exact ⟨by decide, 2, by decide, by decide, zw217⟩) (by decide) (by decide) zw218 zw359 hce hcv hcl ?_
      refine lv_astore (lv' := [(5, .ref q9), (0, .ref p0), (1, .int p1), (2, .int p2), (3, .int p3), (4, .int p4)]) hx hb dL_field_20 hl (by decide) rfl (fun ls hl6 => ?_)
      refine lv_ldc (v := -99999) hx hb C.1.2.2.2.1 (z_word C.1 zw442) dL_field_22 ?_
      exact z_iret C I hr ⟨_, rfl, hw⟩ (Nat.le_of_ble_eq_true rfl) (Nat.le_of_ble_eq_true rfl) dL_field_24
set_option maxHeartbeats 4000000 in
set_option maxRecDepth 100000 in
theorem m_L_does {X : zX} {l : Launch} (E : zEnv X l) (EN : zNcs X) {M : zM} {p0 : Nat} {p1 : Int32} {p2 : Int32} {p3 : Int32} {P : Int32 → zM → Prop} {PX : Nat → zM → Prop} (hw : w_L_does p0 p1 p2 p3 M P) : zCTw X l yL_does cL_does 5 (some .int) [(0, 168, 169, 14), (0, 168, 174, 17), (0, 168, 179, 19)] 106 4892 9 242 M [.ref p0, .int p1, .int p2, .int p3] (zPi P) PX := by
  refine z_entryW E (by decide) zw445 ?_
  intro p e s m args below meth c C hr htab I
  have hx := C.1.1
  have hb := C.1.2.1
  obtain ⟨ls, he, hl⟩ := z_enter (m := m) (n := 5) (vs := [.ref p0, .int p1, .int p2, .int p3]) (l := [(0, .ref p0), (1, .int p1), (2, .int p2), (3, .int p3)]) (Nat.le_of_ble_eq_true rfl) rfl
  rw [he]
  clear he
  unfold w_L_does at hw
  have hb_90 : ∀ (y0 : Int32) (y1 : Int32) (y2 : Int32) (y3 : Nat) (M : zM) (H : Heap) (locs : List Loc) (ls : Array Slot), zWk X s M H locs → lv_has ls 5 [] → w_L_does_90 p0 p1 p2 p3 P y0 y1 y2 y3 M → W p l e (zRm 106 4892 9 242) s m args below meth c H locs 0 0 (vx_MQ below (zQc X (zPi P)) (zXc X PX) args s 9 242 (zBase X)) (F0 m 90 ls [.int y0, .int y1, .int y2, .ref y3]) := by
    intro y0 y1 y2 y3 M H locs ls I hl hw
    unfold w_L_does_90 at hw
    obtain ⟨hrc, hw⟩ := hw
    refine z_callV C I (as := [.int y2, .int y1, .int y0]) (rest := []) (m_X5_delete E hw) kv_L_36 vc_6 hrc rfl rfl hl.1 (Nat.le_of_ble_eq_true rfl) ⟨Nat.le_of_ble_eq_true rfl, Nat.le_of_ble_eq_true rfl⟩ ⟨Nat.le_of_ble_eq_true rfl, Nat.le_of_ble_eq_true rfl⟩ dL_does_90 (fun k2 M3 _ _ ce q9 I hw hce hcv hcl => ?_) (fun v M1 _ _ I hv => ?_)
    rotate_left
    · obtain ⟨v7, rfl, hw⟩ := hv
      refine W.eq (g2 := F0 m 93 ls [.int v7]) rfl ?_
      refine lv_goto (tgt := 168) hx hb dL_does_93 (by decide) ?_
      exact z_iret C I hr ⟨_, rfl, hw⟩ (Nat.le_of_ble_eq_true rfl) (Nat.le_of_ble_eq_true rfl) dL_does_168
    · rcases hw.2.2.2 with rfl | rfl | rfl
      · have hw := hw.1 rfl
        refine z_catch C EN htab 1 (by decide) [] (0, 168, 169, 14) [(0, 168, 174, 17), (0, 168, 179, 19)] rfl (fun _ hz => absurd hz List.not_mem_nil) (by decide) (by decide) zw216 zw231 hce hcv hcl ?_
        refine lv_astore (lv' := [(4, .ref q9)]) hx hb dL_does_169 hl (by decide) rfl (fun ls hl4 => ?_)
        refine lv_ldc (v := -99999) hx hb C.1.2.2.2.1 (z_word C.1 zw442) dL_does_171 ?_
        exact z_iret C I hr ⟨_, rfl, hw⟩ (Nat.le_of_ble_eq_true rfl) (Nat.le_of_ble_eq_true rfl) dL_does_173
      · have hw := hw.2.1 rfl
        refine z_catch C EN htab 2 (by decide) [(0, 168, 169, 14)] (0, 168, 174, 17) [(0, 168, 179, 19)] rfl (by intro z hz; simp only [List.mem_cons, List.not_mem_nil, or_false] at hz; rcases hz with rfl <;> first | exact ⟨by decide, 1, by decide, by decide, zw216⟩) (by decide) (by decide) zw217 zw332 hce hcv hcl ?_
        refine lv_astore (lv' := [(4, .ref q9)]) hx hb dL_does_174 hl (by decide) rfl (fun ls hl5 => ?_)
        refine lv_ldc (v := -99999) hx hb C.1.2.2.2.1 (z_word C.1 zw442) dL_does_176 ?_
        exact z_iret C I hr ⟨_, rfl, hw⟩ (Nat.le_of_ble_eq_true rfl) (Nat.le_of_ble_eq_true rfl) dL_does_178
      · have hw := hw.2.2.1 rfl
        refine z_catch C EN htab 3 (by decide) [(0, 168, 169, 14), (0, 168, 174, 17)] (0, 168, 179, 19) [] rfl (by intro z hz; simp only [List.mem_cons, List.not_mem_nil, or_false] at hz; rcases hz with rfl | rfl <;> first | exact ⟨by decide, 1, by decide, by decide, zw216⟩ | exact ⟨by decide, 2, by decide, by decide, zw217⟩) (by decide) (by decide) zw218 zw359 hce hcv hcl ?_
        refine lv_astore (lv' := [(4, .ref q9)]) hx hb dL_does_179 hl (by decide) rfl (fun ls hl6 => ?_)
        refine lv_ldc (v := -99999) hx hb C.1.2.2.2.1 (z_word C.1 zw442) dL_does_181 ?_
        exact z_iret C I hr ⟨_, rfl, hw⟩ (Nat.le_of_ble_eq_true rfl) (Nat.le_of_ble_eq_true rfl) dL_does_183
  have hb_64 : ∀ (y0 : Int32) (y1 : Int32) (y2 : Int32) (y3 : Nat) (M : zM) (H : Heap) (locs : List Loc) (ls : Array Slot), zWk X s M H locs → lv_has ls 5 [] → w_L_does_64 p0 p1 p2 p3 P y0 y1 y2 y3 M → W p l e (zRm 106 4892 9 242) s m args below meth c H locs 0 0 (vx_MQ below (zQc X (zPi P)) (zXc X PX) args s 9 242 (zBase X)) (F0 m 64 ls [.int y0, .int y1, .int y2, .ref y3]) := by
    intro y0 y1 y2 y3 M H locs ls I hl hw
    unfold w_L_does_64 at hw
    obtain ⟨hrc, hw⟩ := hw
    refine z_callV C I (as := [.int y2, .int y1, .int y0]) (rest := []) (m_X5_setMode E hw) kv_L_32 vc_6 hrc rfl rfl hl.1 (Nat.le_of_ble_eq_true rfl) ⟨Nat.le_of_ble_eq_true rfl, Nat.le_of_ble_eq_true rfl⟩ ⟨Nat.le_of_ble_eq_true rfl, Nat.le_of_ble_eq_true rfl⟩ dL_does_64 (fun k9 M10 _ _ ce q9 I hw hce hcv hcl => ?_) (fun v M8 _ _ I hv => ?_)
    rotate_left
    · obtain ⟨v14, rfl, hw⟩ := hv
      refine W.eq (g2 := F0 m 67 ls [.int v14]) rfl ?_
      refine lv_goto (tgt := 168) hx hb dL_does_67 (by decide) ?_
      exact z_iret C I hr ⟨_, rfl, hw⟩ (Nat.le_of_ble_eq_true rfl) (Nat.le_of_ble_eq_true rfl) dL_does_168
    · rcases hw.2.2.2 with rfl | rfl | rfl
      · have hw := hw.1 rfl
        refine z_catch C EN htab 1 (by decide) [] (0, 168, 169, 14) [(0, 168, 174, 17), (0, 168, 179, 19)] rfl (fun _ hz => absurd hz List.not_mem_nil) (by decide) (by decide) zw216 zw231 hce hcv hcl ?_
        refine lv_astore (lv' := [(4, .ref q9)]) hx hb dL_does_169 hl (by decide) rfl (fun ls hl11 => ?_)
        refine lv_ldc (v := -99999) hx hb C.1.2.2.2.1 (z_word C.1 zw442) dL_does_171 ?_
        exact z_iret C I hr ⟨_, rfl, hw⟩ (Nat.le_of_ble_eq_true rfl) (Nat.le_of_ble_eq_true rfl) dL_does_173
      · have hw := hw.2.1 rfl
        refine z_catch C EN htab 2 (by decide) [(0, 168, 169, 14)] (0, 168, 174, 17) [(0, 168, 179, 19)] rfl (by intro z hz; simp only [List.mem_cons, List.not_mem_nil, or_false] at hz; rcases hz with rfl <;> first | exact ⟨by decide, 1, by decide, by decide, zw216⟩) (by decide) (by decide) zw217 zw332 hce hcv hcl ?_
        refine lv_astore (lv' := [(4, .ref q9)]) hx hb dL_does_174 hl (by decide) rfl (fun ls hl12 => ?_)
        refine lv_ldc (v := -99999) hx hb C.1.2.2.2.1 (z_word C.1 zw442) dL_does_176 ?_
        exact z_iret C I hr ⟨_, rfl, hw⟩ (Nat.le_of_ble_eq_true rfl) (Nat.le_of_ble_eq_true rfl) dL_does_178
      · have hw := hw.2.2.1 rfl
        refine z_catch C EN htab 3 (by decide) [(0, 168, 169, 14), (0, 168, 174, 17)] (0, 168, 179, 19) [] rfl (by intro z hz; simp only [List.mem_cons, List.not_mem_nil, or_false] at hz; rcases hz with rfl | rfl <;> first | exact ⟨by decide, 1, by decide, by decide, zw216⟩ | exact ⟨by decide, 2, by decide, by decide, zw217⟩) (by decide) (by decide) zw218 zw359 hce hcv hcl ?_
        refine lv_astore (lv' := [(4, .ref q9)]) hx hb dL_does_179 hl (by decide) rfl (fun ls hl13 => ?_)
        refine lv_ldc (v := -99999) hx hb C.1.2.2.2.1 (z_word C.1 zw442) dL_does_181 ?_
        exact z_iret C I hr ⟨_, rfl, hw⟩ (Nat.le_of_ble_eq_true rfl) (Nat.le_of_ble_eq_true rfl) dL_does_183
  refine lv_iload_n hx hb dL_does_0 rfl (lv_at hl 1 rfl) ?_
  refine lv_if_ne (tgt := 12) hx hb dL_does_1 (by decide) (fun c => ?_) (fun c => ?_)
  · replace hw := hw.1 c
    refine lv_iload_n hx hb dL_does_12 rfl (lv_at hl 1 rfl) ?_
    refine lv_iconst (v := 1) hx hb dL_does_13 (by decide) ?_
    refine lv_icmp_ne (tgt := 33) hx hb dL_does_14 (by decide) (fun c => ?_) (fun c => ?_)
    · replace hw := hw.1 c
      refine lv_iload_n hx hb dL_does_33 rfl (lv_at hl 1 rfl) ?_
      refine lv_iconst (v := 2) hx hb dL_does_34 (by decide) ?_
      refine lv_icmp_ne (tgt := 46) hx hb dL_does_35 (by decide) (fun c => ?_) (fun c => ?_)
      · replace hw := hw.1 c
        refine lv_iload_n hx hb dL_does_46 rfl (lv_at hl 1 rfl) ?_
        refine lv_iconst (v := 5) hx hb dL_does_47 (by decide) ?_
        refine lv_icmp_ge (tgt := 70) hx hb dL_does_48 (by decide) (fun c => ?_) (fun c => ?_)
        · replace hw := hw.1 c
          refine lv_iload_n hx hb dL_does_70 rfl (lv_at hl 1 rfl) ?_
          refine lv_bipush (v := 7) hx hb dL_does_71 (by decide) ?_
          refine lv_icmp_ge (tgt := 96) hx hb dL_does_73 (by decide) (fun c => ?_) (fun c => ?_)
          · replace hw := hw.1 c
            refine lv_iload_n hx hb dL_does_96 rfl (lv_at hl 1 rfl) ?_
            refine lv_bipush (v := 7) hx hb dL_does_97 (by decide) ?_
            refine lv_icmp_ne (tgt := 111) hx hb dL_does_99 (by decide) (fun c => ?_) (fun c => ?_)
            · replace hw := hw.1 c
              refine lv_iload_n hx hb dL_does_111 rfl (lv_at hl 1 rfl) ?_
              refine lv_bipush (v := 8) hx hb dL_does_112 (by decide) ?_
              refine lv_icmp_ne (tgt := 126) hx hb dL_does_114 (by decide) (fun c => ?_) (fun c => ?_)
              · replace hw := hw.1 c
                refine lv_iload_n hx hb dL_does_126 rfl (lv_at hl 1 rfl) ?_
                refine lv_bipush (v := 9) hx hb dL_does_127 (by decide) ?_
                refine lv_icmp_ne (tgt := 140) hx hb dL_does_129 (by decide) (fun c => ?_) (fun c => ?_)
                · replace hw := hw.1 c
                  refine lv_iload_n hx hb dL_does_140 rfl (lv_at hl 1 rfl) ?_
                  refine lv_bipush (v := 10) hx hb dL_does_141 (by decide) ?_
                  refine lv_icmp_ne (tgt := 163) hx hb dL_does_143 (by decide) (fun c => ?_) (fun c => ?_)
                  · replace hw := hw.1 c
                    refine lv_aload_n hx hb dL_does_163 rfl (lv_at hl 0 rfl) ?_
                    refine lv_iload_n hx hb dL_does_164 rfl (lv_at hl 2 rfl) ?_
                    obtain ⟨hrc, hw⟩ := hw
                    refine z_callV C I (as := [.int p2]) (rest := []) (m_X5_valueAt E hw) kv_L_53 vc_6 hrc rfl rfl hl.1 (Nat.le_of_ble_eq_true rfl) ⟨Nat.le_of_ble_eq_true rfl, Nat.le_of_ble_eq_true rfl⟩ ⟨Nat.le_of_ble_eq_true rfl, Nat.le_of_ble_eq_true rfl⟩ dL_does_165 (fun k16 M17 _ _ ce q9 I hw hce hcv hcl => ?_) (fun v M15 _ _ I hv => ?_)
                    rotate_left
                    · obtain ⟨v21, rfl, hw⟩ := hv
                      refine W.eq (g2 := F0 m 168 ls [.int v21]) rfl ?_
                      exact z_iret C I hr ⟨_, rfl, hw⟩ (Nat.le_of_ble_eq_true rfl) (Nat.le_of_ble_eq_true rfl) dL_does_168
                    · rcases hw.2.2.2 with rfl | rfl | rfl
                      · have hw := hw.1 rfl
                        refine z_catch C EN htab 1 (by decide) [] (0, 168, 169, 14) [(0, 168, 174, 17), (0, 168, 179, 19)] rfl (fun _ hz => absurd hz List.not_mem_nil) (by decide) (by decide) zw216 zw231 hce hcv hcl ?_
                        refine lv_astore (lv' := [(4, .ref q9), (0, .ref p0), (1, .int p1), (2, .int p2), (3, .int p3)]) hx hb dL_does_169 hl (by decide) rfl (fun ls hl18 => ?_)
                        refine lv_ldc (v := -99999) hx hb C.1.2.2.2.1 (z_word C.1 zw442) dL_does_171 ?_
                        exact z_iret C I hr ⟨_, rfl, hw⟩ (Nat.le_of_ble_eq_true rfl) (Nat.le_of_ble_eq_true rfl) dL_does_173
                      · have hw := hw.2.1 rfl
                        refine z_catch C EN htab 2 (by decide) [(0, 168, 169, 14)] (0, 168, 174, 17) [(0, 168, 179, 19)] rfl (by intro z hz; simp only [List.mem_cons, List.not_mem_nil, or_false] at hz; rcases hz with rfl <;> first | exact ⟨by decide, 1, by decide, by decide, zw216⟩) (by decide) (by decide) zw217 zw332 hce hcv hcl ?_
                        refine lv_astore (lv' := [(4, .ref q9), (0, .ref p0), (1, .int p1), (2, .int p2), (3, .int p3)]) hx hb dL_does_174 hl (by decide) rfl (fun ls hl19 => ?_)
                        refine lv_ldc (v := -99999) hx hb C.1.2.2.2.1 (z_word C.1 zw442) dL_does_176 ?_
                        exact z_iret C I hr ⟨_, rfl, hw⟩ (Nat.le_of_ble_eq_true rfl) (Nat.le_of_ble_eq_true rfl) dL_does_178
                      · have hw := hw.2.2.1 rfl
                        refine z_catch C EN htab 3 (by decide) [(0, 168, 169, 14), (0, 168, 174, 17)] (0, 168, 179, 19) [] rfl (by intro z hz; simp only [List.mem_cons, List.not_mem_nil, or_false] at hz; rcases hz with rfl | rfl <;> first | exact ⟨by decide, 1, by decide, by decide, zw216⟩ | exact ⟨by decide, 2, by decide, by decide, zw217⟩) (by decide) (by decide) zw218 zw359 hce hcv hcl ?_
                        refine lv_astore (lv' := [(4, .ref q9), (0, .ref p0), (1, .int p1), (2, .int p2), (3, .int p3)]) hx hb dL_does_179 hl (by decide) rfl (fun ls hl20 => ?_)
                        refine lv_ldc (v := -99999) hx hb C.1.2.2.2.1 (z_word C.1 zw442) dL_does_181 ?_
                        exact z_iret C I hr ⟨_, rfl, hw⟩ (Nat.le_of_ble_eq_true rfl) (Nat.le_of_ble_eq_true rfl) dL_does_183
                  · replace hw := hw.2 c
                    refine lv_aload_n hx hb dL_does_146 rfl (lv_at hl 0 rfl) ?_
                    refine lv_iload_n hx hb dL_does_147 rfl (lv_at hl 2 rfl) ?_
                    refine lv_iload_n hx hb dL_does_148 rfl (lv_at hl 3 rfl) ?_
                    obtain ⟨hrc, hw⟩ := hw
                    refine z_callV C I (as := [.int p2, .int p3]) (rest := []) (m_X5_isRecord E hw) kv_L_49 vc_6 hrc rfl rfl hl.1 (Nat.le_of_ble_eq_true rfl) ⟨Nat.le_of_ble_eq_true rfl, Nat.le_of_ble_eq_true rfl⟩ ⟨Nat.le_of_ble_eq_true rfl, Nat.le_of_ble_eq_true rfl⟩ dL_does_149 (fun k23 M24 _ _ ce q9 I hw hce hcv hcl => ?_) (fun v M22 _ _ I hv => ?_)
                    rotate_left
                    · obtain ⟨v28, rfl, hv28, hw⟩ := hv
                      refine W.eq (g2 := F0 m 152 ls [.int v28]) rfl ?_
                      refine lv_if_eq (tgt := 159) hx hb dL_does_152 (by decide) (fun c => ?_) (fun c => ?_)
                      · replace hw := hw.1 c
                        refine lv_iconst (v := 0) hx hb dL_does_159 (by decide) ?_
                        refine lv_goto (tgt := 168) hx hb dL_does_160 (by decide) ?_
                        exact z_iret C I hr ⟨_, rfl, hw⟩ (Nat.le_of_ble_eq_true rfl) (Nat.le_of_ble_eq_true rfl) dL_does_168
                      · replace hw := hw.2 c
                        refine lv_iconst (v := 1) hx hb dL_does_155 (by decide) ?_
                        refine lv_goto (tgt := 168) hx hb dL_does_156 (by decide) ?_
                        exact z_iret C I hr ⟨_, rfl, hw⟩ (Nat.le_of_ble_eq_true rfl) (Nat.le_of_ble_eq_true rfl) dL_does_168
                    · rcases hw.2.2.2 with rfl | rfl | rfl
                      · have hw := hw.1 rfl
                        refine z_catch C EN htab 1 (by decide) [] (0, 168, 169, 14) [(0, 168, 174, 17), (0, 168, 179, 19)] rfl (fun _ hz => absurd hz List.not_mem_nil) (by decide) (by decide) zw216 zw231 hce hcv hcl ?_
                        refine lv_astore (lv' := [(4, .ref q9), (0, .ref p0), (1, .int p1), (2, .int p2), (3, .int p3)]) hx hb dL_does_169 hl (by decide) rfl (fun ls hl25 => ?_)
                        refine lv_ldc (v := -99999) hx hb C.1.2.2.2.1 (z_word C.1 zw442) dL_does_171 ?_
                        exact z_iret C I hr ⟨_, rfl, hw⟩ (Nat.le_of_ble_eq_true rfl) (Nat.le_of_ble_eq_true rfl) dL_does_173
                      · have hw := hw.2.1 rfl
                        refine z_catch C EN htab 2 (by decide) [(0, 168, 169, 14)] (0, 168, 174, 17) [(0, 168, 179, 19)] rfl (by intro z hz; simp only [List.mem_cons, List.not_mem_nil, or_false] at hz; rcases hz with rfl <;> first | exact ⟨by decide, 1, by decide, by decide, zw216⟩) (by decide) (by decide) zw217 zw332 hce hcv hcl ?_
                        refine lv_astore (lv' := [(4, .ref q9), (0, .ref p0), (1, .int p1), (2, .int p2), (3, .int p3)]) hx hb dL_does_174 hl (by decide) rfl (fun ls hl26 => ?_)
                        refine lv_ldc (v := -99999) hx hb C.1.2.2.2.1 (z_word C.1 zw442) dL_does_176 ?_
                        exact z_iret C I hr ⟨_, rfl, hw⟩ (Nat.le_of_ble_eq_true rfl) (Nat.le_of_ble_eq_true rfl) dL_does_178
                      · have hw := hw.2.2.1 rfl
                        refine z_catch C EN htab 3 (by decide) [(0, 168, 169, 14), (0, 168, 174, 17)] (0, 168, 179, 19) [] rfl (by intro z hz; simp only [List.mem_cons, List.not_mem_nil, or_false] at hz; rcases hz with rfl | rfl <;> first | exact ⟨by decide, 1, by decide, by decide, zw216⟩ | exact ⟨by decide, 2, by decide, by decide, zw217⟩) (by decide) (by decide) zw218 zw359 hce hcv hcl ?_
                        refine lv_astore (lv' := [(4, .ref q9), (0, .ref p0), (1, .int p1), (2, .int p2), (3, .int p3)]) hx hb dL_does_179 hl (by decide) rfl (fun ls hl27 => ?_)
                        refine lv_ldc (v := -99999) hx hb C.1.2.2.2.1 (z_word C.1 zw442) dL_does_181 ?_
                        exact z_iret C I hr ⟨_, rfl, hw⟩ (Nat.le_of_ble_eq_true rfl) (Nat.le_of_ble_eq_true rfl) dL_does_183
                · replace hw := hw.2 c
                  refine lv_aload_n hx hb dL_does_132 rfl (lv_at hl 0 rfl) ?_
                  refine lv_iload_n hx hb dL_does_133 rfl (lv_at hl 2 rfl) ?_
                  obtain ⟨hrc, hw⟩ := hw
                  refine z_callV C I (as := [.int p2]) (rest := []) (m_X5_value E hw) kv_L_46 vc_6 hrc rfl rfl hl.1 (Nat.le_of_ble_eq_true rfl) ⟨Nat.le_of_ble_eq_true rfl, Nat.le_of_ble_eq_true rfl⟩ ⟨Nat.le_of_ble_eq_true rfl, Nat.le_of_ble_eq_true rfl⟩ dL_does_134 (fun k30 M31 _ _ ce q9 I hw hce hcv hcl => ?_) (fun v M29 _ _ I hv => ?_)
                  rotate_left
                  · obtain ⟨v35, rfl, hw⟩ := hv
                    refine W.eq (g2 := F0 m 137 ls [.int v35]) rfl ?_
                    refine lv_goto (tgt := 168) hx hb dL_does_137 (by decide) ?_
                    exact z_iret C I hr ⟨_, rfl, hw⟩ (Nat.le_of_ble_eq_true rfl) (Nat.le_of_ble_eq_true rfl) dL_does_168
                  · rcases hw.2.2.2 with rfl | rfl | rfl
                    · have hw := hw.1 rfl
                      refine z_catch C EN htab 1 (by decide) [] (0, 168, 169, 14) [(0, 168, 174, 17), (0, 168, 179, 19)] rfl (fun _ hz => absurd hz List.not_mem_nil) (by decide) (by decide) zw216 zw231 hce hcv hcl ?_
                      refine lv_astore (lv' := [(4, .ref q9), (0, .ref p0), (1, .int p1), (2, .int p2), (3, .int p3)]) hx hb dL_does_169 hl (by decide) rfl (fun ls hl32 => ?_)
                      refine lv_ldc (v := -99999) hx hb C.1.2.2.2.1 (z_word C.1 zw442) dL_does_171 ?_
                      exact z_iret C I hr ⟨_, rfl, hw⟩ (Nat.le_of_ble_eq_true rfl) (Nat.le_of_ble_eq_true rfl) dL_does_173
                    · have hw := hw.2.1 rfl
                      refine z_catch C EN htab 2 (by decide) [(0, 168, 169, 14)] (0, 168, 174, 17) [(0, 168, 179, 19)] rfl (by intro z hz; simp only [List.mem_cons, List.not_mem_nil, or_false] at hz; rcases hz with rfl <;> first | exact ⟨by decide, 1, by decide, by decide, zw216⟩) (by decide) (by decide) zw217 zw332 hce hcv hcl ?_
                      refine lv_astore (lv' := [(4, .ref q9), (0, .ref p0), (1, .int p1), (2, .int p2), (3, .int p3)]) hx hb dL_does_174 hl (by decide) rfl (fun ls hl33 => ?_)
                      refine lv_ldc (v := -99999) hx hb C.1.2.2.2.1 (z_word C.1 zw442) dL_does_176 ?_
                      exact z_iret C I hr ⟨_, rfl, hw⟩ (Nat.le_of_ble_eq_true rfl) (Nat.le_of_ble_eq_true rfl) dL_does_178
                    · have hw := hw.2.2.1 rfl
                      refine z_catch C EN htab 3 (by decide) [(0, 168, 169, 14), (0, 168, 174, 17)] (0, 168, 179, 19) [] rfl (by intro z hz; simp only [List.mem_cons, List.not_mem_nil, or_false] at hz; rcases hz with rfl | rfl <;> first | exact ⟨by decide, 1, by decide, by decide, zw216⟩ | exact ⟨by decide, 2, by decide, by decide, zw217⟩) (by decide) (by decide) zw218 zw359 hce hcv hcl ?_
                      refine lv_astore (lv' := [(4, .ref q9), (0, .ref p0), (1, .int p1), (2, .int p2), (3, .int p3)]) hx hb dL_does_179 hl (by decide) rfl (fun ls hl34 => ?_)
                      refine lv_ldc (v := -99999) hx hb C.1.2.2.2.1 (z_word C.1 zw442) dL_does_181 ?_
                      exact z_iret C I hr ⟨_, rfl, hw⟩ (Nat.le_of_ble_eq_true rfl) (Nat.le_of_ble_eq_true rfl) dL_does_183
              · replace hw := hw.2 c
                refine lv_aload_n hx hb dL_does_117 rfl (lv_at hl 0 rfl) ?_
                refine lv_iload_n hx hb dL_does_118 rfl (lv_at hl 2 rfl) ?_
                refine lv_iload_n hx hb dL_does_119 rfl (lv_at hl 3 rfl) ?_
                obtain ⟨hrc, hw⟩ := hw
                refine z_callV C I (as := [.int p2, .int p3]) (rest := []) (m_X5_length E hw) kv_L_43 vc_6 hrc rfl rfl hl.1 (Nat.le_of_ble_eq_true rfl) ⟨Nat.le_of_ble_eq_true rfl, Nat.le_of_ble_eq_true rfl⟩ ⟨Nat.le_of_ble_eq_true rfl, Nat.le_of_ble_eq_true rfl⟩ dL_does_120 (fun k37 M38 _ _ ce q9 I hw hce hcv hcl => ?_) (fun v M36 _ _ I hv => ?_)
                rotate_left
                · obtain ⟨v42, rfl, hw⟩ := hv
                  refine W.eq (g2 := F0 m 123 ls [.int v42]) rfl ?_
                  refine lv_goto (tgt := 168) hx hb dL_does_123 (by decide) ?_
                  exact z_iret C I hr ⟨_, rfl, hw⟩ (Nat.le_of_ble_eq_true rfl) (Nat.le_of_ble_eq_true rfl) dL_does_168
                · rcases hw.2.2.2 with rfl | rfl | rfl
                  · have hw := hw.1 rfl
                    refine z_catch C EN htab 1 (by decide) [] (0, 168, 169, 14) [(0, 168, 174, 17), (0, 168, 179, 19)] rfl (fun _ hz => absurd hz List.not_mem_nil) (by decide) (by decide) zw216 zw231 hce hcv hcl ?_
                    refine lv_astore (lv' := [(4, .ref q9), (0, .ref p0), (1, .int p1), (2, .int p2), (3, .int p3)]) hx hb dL_does_169 hl (by decide) rfl (fun ls hl39 => ?_)
                    refine lv_ldc (v := -99999) hx hb C.1.2.2.2.1 (z_word C.1 zw442) dL_does_171 ?_
                    exact z_iret C I hr ⟨_, rfl, hw⟩ (Nat.le_of_ble_eq_true rfl) (Nat.le_of_ble_eq_true rfl) dL_does_173
                  · have hw := hw.2.1 rfl
                    refine z_catch C EN htab 2 (by decide) [(0, 168, 169, 14)] (0, 168, 174, 17) [(0, 168, 179, 19)] rfl (by intro z hz; simp only [List.mem_cons, List.not_mem_nil, or_false] at hz; rcases hz with rfl <;> first | exact ⟨by decide, 1, by decide, by decide, zw216⟩) (by decide) (by decide) zw217 zw332 hce hcv hcl ?_
                    refine lv_astore (lv' := [(4, .ref q9), (0, .ref p0), (1, .int p1), (2, .int p2), (3, .int p3)]) hx hb dL_does_174 hl (by decide) rfl (fun ls hl40 => ?_)
                    refine lv_ldc (v := -99999) hx hb C.1.2.2.2.1 (z_word C.1 zw442) dL_does_176 ?_
                    exact z_iret C I hr ⟨_, rfl, hw⟩ (Nat.le_of_ble_eq_true rfl) (Nat.le_of_ble_eq_true rfl) dL_does_178
                  · have hw := hw.2.2.1 rfl
                    refine z_catch C EN htab 3 (by decide) [(0, 168, 169, 14), (0, 168, 174, 17)] (0, 168, 179, 19) [] rfl (by intro z hz; simp only [List.mem_cons, List.not_mem_nil, or_false] at hz; rcases hz with rfl | rfl <;> first | exact ⟨by decide, 1, by decide, by decide, zw216⟩ | exact ⟨by decide, 2, by decide, by decide, zw217⟩) (by decide) (by decide) zw218 zw359 hce hcv hcl ?_
                    refine lv_astore (lv' := [(4, .ref q9), (0, .ref p0), (1, .int p1), (2, .int p2), (3, .int p3)]) hx hb dL_does_179 hl (by decide) rfl (fun ls hl41 => ?_)
                    refine lv_ldc (v := -99999) hx hb C.1.2.2.2.1 (z_word C.1 zw442) dL_does_181 ?_
                    exact z_iret C I hr ⟨_, rfl, hw⟩ (Nat.le_of_ble_eq_true rfl) (Nat.le_of_ble_eq_true rfl) dL_does_183
            · replace hw := hw.2 c
              refine lv_aload_n hx hb dL_does_102 rfl (lv_at hl 0 rfl) ?_
              refine lv_iload_n hx hb dL_does_103 rfl (lv_at hl 2 rfl) ?_
              refine lv_iload_n hx hb dL_does_104 rfl (lv_at hl 3 rfl) ?_
              obtain ⟨hrc, hw⟩ := hw
              refine z_callV C I (as := [.int p2, .int p3]) (rest := []) (m_X5_number E hw) kv_L_39 vc_6 hrc rfl rfl hl.1 (Nat.le_of_ble_eq_true rfl) ⟨Nat.le_of_ble_eq_true rfl, Nat.le_of_ble_eq_true rfl⟩ ⟨Nat.le_of_ble_eq_true rfl, Nat.le_of_ble_eq_true rfl⟩ dL_does_105 (fun k44 M45 _ _ ce q9 I hw hce hcv hcl => ?_) (fun v M43 _ _ I hv => ?_)
              rotate_left
              · obtain ⟨v49, rfl, hw⟩ := hv
                refine W.eq (g2 := F0 m 108 ls [.int v49]) rfl ?_
                refine lv_goto (tgt := 168) hx hb dL_does_108 (by decide) ?_
                exact z_iret C I hr ⟨_, rfl, hw⟩ (Nat.le_of_ble_eq_true rfl) (Nat.le_of_ble_eq_true rfl) dL_does_168
              · rcases hw.2.2.2 with rfl | rfl | rfl
                · have hw := hw.1 rfl
                  refine z_catch C EN htab 1 (by decide) [] (0, 168, 169, 14) [(0, 168, 174, 17), (0, 168, 179, 19)] rfl (fun _ hz => absurd hz List.not_mem_nil) (by decide) (by decide) zw216 zw231 hce hcv hcl ?_
                  refine lv_astore (lv' := [(4, .ref q9), (0, .ref p0), (1, .int p1), (2, .int p2), (3, .int p3)]) hx hb dL_does_169 hl (by decide) rfl (fun ls hl46 => ?_)
                  refine lv_ldc (v := -99999) hx hb C.1.2.2.2.1 (z_word C.1 zw442) dL_does_171 ?_
                  exact z_iret C I hr ⟨_, rfl, hw⟩ (Nat.le_of_ble_eq_true rfl) (Nat.le_of_ble_eq_true rfl) dL_does_173
                · have hw := hw.2.1 rfl
                  refine z_catch C EN htab 2 (by decide) [(0, 168, 169, 14)] (0, 168, 174, 17) [(0, 168, 179, 19)] rfl (by intro z hz; simp only [List.mem_cons, List.not_mem_nil, or_false] at hz; rcases hz with rfl <;> first | exact ⟨by decide, 1, by decide, by decide, zw216⟩) (by decide) (by decide) zw217 zw332 hce hcv hcl ?_
                  refine lv_astore (lv' := [(4, .ref q9), (0, .ref p0), (1, .int p1), (2, .int p2), (3, .int p3)]) hx hb dL_does_174 hl (by decide) rfl (fun ls hl47 => ?_)
                  refine lv_ldc (v := -99999) hx hb C.1.2.2.2.1 (z_word C.1 zw442) dL_does_176 ?_
                  exact z_iret C I hr ⟨_, rfl, hw⟩ (Nat.le_of_ble_eq_true rfl) (Nat.le_of_ble_eq_true rfl) dL_does_178
                · have hw := hw.2.2.1 rfl
                  refine z_catch C EN htab 3 (by decide) [(0, 168, 169, 14), (0, 168, 174, 17)] (0, 168, 179, 19) [] rfl (by intro z hz; simp only [List.mem_cons, List.not_mem_nil, or_false] at hz; rcases hz with rfl | rfl <;> first | exact ⟨by decide, 1, by decide, by decide, zw216⟩ | exact ⟨by decide, 2, by decide, by decide, zw217⟩) (by decide) (by decide) zw218 zw359 hce hcv hcl ?_
                  refine lv_astore (lv' := [(4, .ref q9), (0, .ref p0), (1, .int p1), (2, .int p2), (3, .int p3)]) hx hb dL_does_179 hl (by decide) rfl (fun ls hl48 => ?_)
                  refine lv_ldc (v := -99999) hx hb C.1.2.2.2.1 (z_word C.1 zw442) dL_does_181 ?_
                  exact z_iret C I hr ⟨_, rfl, hw⟩ (Nat.le_of_ble_eq_true rfl) (Nat.le_of_ble_eq_true rfl) dL_does_183
          · replace hw := hw.2 c
            refine lv_aload_n hx hb dL_does_76 rfl (lv_at hl 0 rfl) ?_
            refine lv_iload_n hx hb dL_does_77 rfl (lv_at hl 2 rfl) ?_
            refine lv_iload_n hx hb dL_does_78 rfl (lv_at hl 3 rfl) ?_
            refine lv_iload_n hx hb dL_does_79 rfl (lv_at hl 1 rfl) ?_
            refine lv_bipush (v := 6) hx hb dL_does_80 (by decide) ?_
            refine lv_icmp_ne (tgt := 89) hx hb dL_does_82 (by decide) (fun c => ?_) (fun c => ?_)
            · replace hw := hw.1 c
              refine lv_iconst (v := 0) hx hb dL_does_89 (by decide) ?_
              refine W.widen (k := 0) (n := 0) (Nat.le_of_ble_eq_true rfl) (Nat.le_of_ble_eq_true rfl) ?_
              exact hb_90 (0 : Int32) p3 p2 p0 _ _ _ ls I (lv_sub hl [] rfl) hw
            · replace hw := hw.2 c
              refine lv_iconst (v := 1) hx hb dL_does_85 (by decide) ?_
              refine lv_goto (tgt := 90) hx hb dL_does_86 (by decide) ?_
              refine W.widen (k := 0) (n := 0) (Nat.le_of_ble_eq_true rfl) (Nat.le_of_ble_eq_true rfl) ?_
              exact hb_90 (1 : Int32) p3 p2 p0 _ _ _ ls I (lv_sub hl [] rfl) hw
        · replace hw := hw.2 c
          refine lv_aload_n hx hb dL_does_51 rfl (lv_at hl 0 rfl) ?_
          refine lv_iload_n hx hb dL_does_52 rfl (lv_at hl 2 rfl) ?_
          refine lv_iload_n hx hb dL_does_53 rfl (lv_at hl 3 rfl) ?_
          refine lv_iload_n hx hb dL_does_54 rfl (lv_at hl 1 rfl) ?_
          refine lv_iconst (v := 4) hx hb dL_does_55 (by decide) ?_
          refine lv_icmp_ne (tgt := 63) hx hb dL_does_56 (by decide) (fun c => ?_) (fun c => ?_)
          · replace hw := hw.1 c
            refine lv_iconst (v := 0) hx hb dL_does_63 (by decide) ?_
            refine W.widen (k := 0) (n := 0) (Nat.le_of_ble_eq_true rfl) (Nat.le_of_ble_eq_true rfl) ?_
            exact hb_64 (0 : Int32) p3 p2 p0 _ _ _ ls I (lv_sub hl [] rfl) hw
          · replace hw := hw.2 c
            refine lv_iconst (v := 1) hx hb dL_does_59 (by decide) ?_
            refine lv_goto (tgt := 64) hx hb dL_does_60 (by decide) ?_
            refine W.widen (k := 0) (n := 0) (Nat.le_of_ble_eq_true rfl) (Nat.le_of_ble_eq_true rfl) ?_
            exact hb_64 (1 : Int32) p3 p2 p0 _ _ _ ls I (lv_sub hl [] rfl) hw
      · replace hw := hw.2 c
        refine lv_aload_n hx hb dL_does_38 rfl (lv_at hl 0 rfl) ?_
        refine lv_iload_n hx hb dL_does_39 rfl (lv_at hl 2 rfl) ?_
        obtain ⟨hrc, hw⟩ := hw
        refine z_callV C I (as := [.int p2]) (rest := []) (m_X5_register E hw) kv_L_29 vc_6 hrc rfl rfl hl.1 (Nat.le_of_ble_eq_true rfl) ⟨Nat.le_of_ble_eq_true rfl, Nat.le_of_ble_eq_true rfl⟩ ⟨Nat.le_of_ble_eq_true rfl, Nat.le_of_ble_eq_true rfl⟩ dL_does_40 (fun k51 M52 _ _ ce q9 I hw hce hcv hcl => ?_) (fun v M50 _ _ I hv => ?_)
        rotate_left
        · obtain ⟨v56, rfl, hw⟩ := hv
          refine W.eq (g2 := F0 m 43 ls [.int v56]) rfl ?_
          refine lv_goto (tgt := 168) hx hb dL_does_43 (by decide) ?_
          exact z_iret C I hr ⟨_, rfl, hw⟩ (Nat.le_of_ble_eq_true rfl) (Nat.le_of_ble_eq_true rfl) dL_does_168
        · rcases hw.2.2.2 with rfl | rfl | rfl
          · have hw := hw.1 rfl
            refine z_catch C EN htab 1 (by decide) [] (0, 168, 169, 14) [(0, 168, 174, 17), (0, 168, 179, 19)] rfl (fun _ hz => absurd hz List.not_mem_nil) (by decide) (by decide) zw216 zw231 hce hcv hcl ?_
            refine lv_astore (lv' := [(4, .ref q9), (0, .ref p0), (1, .int p1), (2, .int p2), (3, .int p3)]) hx hb dL_does_169 hl (by decide) rfl (fun ls hl53 => ?_)
            refine lv_ldc (v := -99999) hx hb C.1.2.2.2.1 (z_word C.1 zw442) dL_does_171 ?_
            exact z_iret C I hr ⟨_, rfl, hw⟩ (Nat.le_of_ble_eq_true rfl) (Nat.le_of_ble_eq_true rfl) dL_does_173
          · have hw := hw.2.1 rfl
            refine z_catch C EN htab 2 (by decide) [(0, 168, 169, 14)] (0, 168, 174, 17) [(0, 168, 179, 19)] rfl (by intro z hz; simp only [List.mem_cons, List.not_mem_nil, or_false] at hz; rcases hz with rfl <;> first | exact ⟨by decide, 1, by decide, by decide, zw216⟩) (by decide) (by decide) zw217 zw332 hce hcv hcl ?_
            refine lv_astore (lv' := [(4, .ref q9), (0, .ref p0), (1, .int p1), (2, .int p2), (3, .int p3)]) hx hb dL_does_174 hl (by decide) rfl (fun ls hl54 => ?_)
            refine lv_ldc (v := -99999) hx hb C.1.2.2.2.1 (z_word C.1 zw442) dL_does_176 ?_
            exact z_iret C I hr ⟨_, rfl, hw⟩ (Nat.le_of_ble_eq_true rfl) (Nat.le_of_ble_eq_true rfl) dL_does_178
          · have hw := hw.2.2.1 rfl
            refine z_catch C EN htab 3 (by decide) [(0, 168, 169, 14), (0, 168, 174, 17)] (0, 168, 179, 19) [] rfl (by intro z hz; simp only [List.mem_cons, List.not_mem_nil, or_false] at hz; rcases hz with rfl | rfl <;> first | exact ⟨by decide, 1, by decide, by decide, zw216⟩ | exact ⟨by decide, 2, by decide, by decide, zw217⟩) (by decide) (by decide) zw218 zw359 hce hcv hcl ?_
            refine lv_astore (lv' := [(4, .ref q9), (0, .ref p0), (1, .int p1), (2, .int p2), (3, .int p3)]) hx hb dL_does_179 hl (by decide) rfl (fun ls hl55 => ?_)
            refine lv_ldc (v := -99999) hx hb C.1.2.2.2.1 (z_word C.1 zw442) dL_does_181 ?_
            exact z_iret C I hr ⟨_, rfl, hw⟩ (Nat.le_of_ble_eq_true rfl) (Nat.le_of_ble_eq_true rfl) dL_does_183
    · replace hw := hw.2 c
      refine lv_aload_n hx hb dL_does_17 rfl (lv_at hl 0 rfl) ?_
      refine lv_iload_n hx hb dL_does_18 rfl (lv_at hl 2 rfl) ?_
      obtain ⟨hrc, hw⟩ := hw
      refine z_callV C I (as := [.int p2]) (rest := []) (m_X5_isAccepted E hw) kv_L_25 vc_6 hrc rfl rfl hl.1 (Nat.le_of_ble_eq_true rfl) ⟨Nat.le_of_ble_eq_true rfl, Nat.le_of_ble_eq_true rfl⟩ ⟨Nat.le_of_ble_eq_true rfl, Nat.le_of_ble_eq_true rfl⟩ dL_does_19 (fun k58 M59 _ _ ce q9 I hw hce hcv hcl => ?_) (fun v M57 _ _ I hv => ?_)
      rotate_left
      · obtain ⟨v63, rfl, hv63, hw⟩ := hv
        refine W.eq (g2 := F0 m 22 ls [.int v63]) rfl ?_
        refine lv_if_eq (tgt := 29) hx hb dL_does_22 (by decide) (fun c => ?_) (fun c => ?_)
        · replace hw := hw.1 c
          refine lv_iconst (v := 0) hx hb dL_does_29 (by decide) ?_
          refine lv_goto (tgt := 168) hx hb dL_does_30 (by decide) ?_
          exact z_iret C I hr ⟨_, rfl, hw⟩ (Nat.le_of_ble_eq_true rfl) (Nat.le_of_ble_eq_true rfl) dL_does_168
        · replace hw := hw.2 c
          refine lv_iconst (v := 1) hx hb dL_does_25 (by decide) ?_
          refine lv_goto (tgt := 168) hx hb dL_does_26 (by decide) ?_
          exact z_iret C I hr ⟨_, rfl, hw⟩ (Nat.le_of_ble_eq_true rfl) (Nat.le_of_ble_eq_true rfl) dL_does_168
      · rcases hw.2.2.2 with rfl | rfl | rfl
        · have hw := hw.1 rfl
          refine z_catch C EN htab 1 (by decide) [] (0, 168, 169, 14) [(0, 168, 174, 17), (0, 168, 179, 19)] rfl (fun _ hz => absurd hz List.not_mem_nil) (by decide) (by decide) zw216 zw231 hce hcv hcl ?_
          refine lv_astore (lv' := [(4, .ref q9), (0, .ref p0), (1, .int p1), (2, .int p2), (3, .int p3)]) hx hb dL_does_169 hl (by decide) rfl (fun ls hl60 => ?_)
          refine lv_ldc (v := -99999) hx hb C.1.2.2.2.1 (z_word C.1 zw442) dL_does_171 ?_
          exact z_iret C I hr ⟨_, rfl, hw⟩ (Nat.le_of_ble_eq_true rfl) (Nat.le_of_ble_eq_true rfl) dL_does_173
        · have hw := hw.2.1 rfl
          refine z_catch C EN htab 2 (by decide) [(0, 168, 169, 14)] (0, 168, 174, 17) [(0, 168, 179, 19)] rfl (by intro z hz; simp only [List.mem_cons, List.not_mem_nil, or_false] at hz; rcases hz with rfl <;> first | exact ⟨by decide, 1, by decide, by decide, zw216⟩) (by decide) (by decide) zw217 zw332 hce hcv hcl ?_
          refine lv_astore (lv' := [(4, .ref q9), (0, .ref p0), (1, .int p1), (2, .int p2), (3, .int p3)]) hx hb dL_does_174 hl (by decide) rfl (fun ls hl61 => ?_)
          refine lv_ldc (v := -99999) hx hb C.1.2.2.2.1 (z_word C.1 zw442) dL_does_176 ?_
          exact z_iret C I hr ⟨_, rfl, hw⟩ (Nat.le_of_ble_eq_true rfl) (Nat.le_of_ble_eq_true rfl) dL_does_178
        · have hw := hw.2.2.1 rfl
          refine z_catch C EN htab 3 (by decide) [(0, 168, 169, 14), (0, 168, 174, 17)] (0, 168, 179, 19) [] rfl (by intro z hz; simp only [List.mem_cons, List.not_mem_nil, or_false] at hz; rcases hz with rfl | rfl <;> first | exact ⟨by decide, 1, by decide, by decide, zw216⟩ | exact ⟨by decide, 2, by decide, by decide, zw217⟩) (by decide) (by decide) zw218 zw359 hce hcv hcl ?_
          refine lv_astore (lv' := [(4, .ref q9), (0, .ref p0), (1, .int p1), (2, .int p2), (3, .int p3)]) hx hb dL_does_179 hl (by decide) rfl (fun ls hl62 => ?_)
          refine lv_ldc (v := -99999) hx hb C.1.2.2.2.1 (z_word C.1 zw442) dL_does_181 ?_
          exact z_iret C I hr ⟨_, rfl, hw⟩ (Nat.le_of_ble_eq_true rfl) (Nat.le_of_ble_eq_true rfl) dL_does_183
  · replace hw := hw.2 c
    refine lv_aload_n hx hb dL_does_4 rfl (lv_at hl 0 rfl) ?_
    refine lv_iload_n hx hb dL_does_5 rfl (lv_at hl 2 rfl) ?_
    obtain ⟨hrc, hw⟩ := hw
    refine z_callV C I (as := [.int p2]) (rest := []) (m_X5_byDefault E hw) kv_L_21 vc_6 hrc rfl rfl hl.1 (Nat.le_of_ble_eq_true rfl) ⟨Nat.le_of_ble_eq_true rfl, Nat.le_of_ble_eq_true rfl⟩ ⟨Nat.le_of_ble_eq_true rfl, Nat.le_of_ble_eq_true rfl⟩ dL_does_6 (fun k65 M66 _ _ ce q9 I hw hce hcv hcl => ?_) (fun v M64 _ _ I hv => ?_)
    rotate_left
    · obtain ⟨v70, rfl, hw⟩ := hv
      refine W.eq (g2 := F0 m 9 ls [.int v70]) rfl ?_
      refine lv_goto (tgt := 168) hx hb dL_does_9 (by decide) ?_
      exact z_iret C I hr ⟨_, rfl, hw⟩ (Nat.le_of_ble_eq_true rfl) (Nat.le_of_ble_eq_true rfl) dL_does_168
    · rcases hw.2.2.2 with rfl | rfl | rfl
      · have hw := hw.1 rfl
        refine z_catch C EN htab 1 (by decide) [] (0, 168, 169, 14) [(0, 168, 174, 17), (0, 168, 179, 19)] rfl (fun _ hz => absurd hz List.not_mem_nil) (by decide) (by decide) zw216 zw231 hce hcv hcl ?_
        refine lv_astore (lv' := [(4, .ref q9), (0, .ref p0), (1, .int p1), (2, .int p2), (3, .int p3)]) hx hb dL_does_169 hl (by decide) rfl (fun ls hl67 => ?_)
        refine lv_ldc (v := -99999) hx hb C.1.2.2.2.1 (z_word C.1 zw442) dL_does_171 ?_
        exact z_iret C I hr ⟨_, rfl, hw⟩ (Nat.le_of_ble_eq_true rfl) (Nat.le_of_ble_eq_true rfl) dL_does_173
      · have hw := hw.2.1 rfl
        refine z_catch C EN htab 2 (by decide) [(0, 168, 169, 14)] (0, 168, 174, 17) [(0, 168, 179, 19)] rfl (by intro z hz; simp only [List.mem_cons, List.not_mem_nil, or_false] at hz; rcases hz with rfl <;> first | exact ⟨by decide, 1, by decide, by decide, zw216⟩) (by decide) (by decide) zw217 zw332 hce hcv hcl ?_
        refine lv_astore (lv' := [(4, .ref q9), (0, .ref p0), (1, .int p1), (2, .int p2), (3, .int p3)]) hx hb dL_does_174 hl (by decide) rfl (fun ls hl68 => ?_)
        refine lv_ldc (v := -99999) hx hb C.1.2.2.2.1 (z_word C.1 zw442) dL_does_176 ?_
        exact z_iret C I hr ⟨_, rfl, hw⟩ (Nat.le_of_ble_eq_true rfl) (Nat.le_of_ble_eq_true rfl) dL_does_178
      · have hw := hw.2.2.1 rfl
        refine z_catch C EN htab 3 (by decide) [(0, 168, 169, 14), (0, 168, 174, 17)] (0, 168, 179, 19) [] rfl (by intro z hz; simp only [List.mem_cons, List.not_mem_nil, or_false] at hz; rcases hz with rfl | rfl <;> first | exact ⟨by decide, 1, by decide, by decide, zw216⟩ | exact ⟨by decide, 2, by decide, by decide, zw217⟩) (by decide) (by decide) zw218 zw359 hce hcv hcl ?_
        refine lv_astore (lv' := [(4, .ref q9), (0, .ref p0), (1, .int p1), (2, .int p2), (3, .int p3)]) hx hb dL_does_179 hl (by decide) rfl (fun ls hl69 => ?_)
        refine lv_ldc (v := -99999) hx hb C.1.2.2.2.1 (z_word C.1 zw442) dL_does_181 ?_
        exact z_iret C I hr ⟨_, rfl, hw⟩ (Nat.le_of_ble_eq_true rfl) (Nat.le_of_ble_eq_true rfl) dL_does_183
set_option maxHeartbeats 4000000 in
set_option maxRecDepth 100000 in
theorem m_L_does_1 {X : zX} {l : Launch} (E : zEnv X l) (EN : zNcs X) {M : zM} {p0 : Nat} {p2 : Int32} {p3 : Int32} {P : Int32 → zM → Prop} {PX : Nat → zM → Prop} (hw : w_L_does_1 p0 p2 p3 M P) : zCTw X l yL_does cL_does 5 (some .int) [(0, 168, 169, 14), (0, 168, 174, 17), (0, 168, 179, 19)] 106 4890 2 12 M [.ref p0, .int (1 : Int32), .int p2, .int p3] (zPi P) PX := by
  refine z_entryW E (by decide) zw445 ?_
  intro p e s m args below meth c C hr htab I
  have hx := C.1.1
  have hb := C.1.2.1
  obtain ⟨ls, he, hl⟩ := z_enter (m := m) (n := 5) (vs := [.ref p0, .int (1 : Int32), .int p2, .int p3]) (l := [(0, .ref p0), (1, .int (1 : Int32)), (2, .int p2), (3, .int p3)]) (Nat.le_of_ble_eq_true rfl) rfl
  rw [he]
  clear he
  unfold w_L_does_1 at hw
  refine lv_iload_n hx hb dL_does_0 rfl (lv_at hl 1 rfl) ?_
  refine lv_if_ne (tgt := 12) hx hb dL_does_1 (by decide) (fun _ => ?_) (fun c => absurd c (by decide))
  refine lv_iload_n hx hb dL_does_12 rfl (lv_at hl 1 rfl) ?_
  refine lv_iconst (v := 1) hx hb dL_does_13 (by decide) ?_
  refine lv_icmp_ne (tgt := 33) hx hb dL_does_14 (by decide) (fun c => absurd c (by decide)) (fun _ => ?_)
  refine lv_aload_n hx hb dL_does_17 rfl (lv_at hl 0 rfl) ?_
  refine lv_iload_n hx hb dL_does_18 rfl (lv_at hl 2 rfl) ?_
  obtain ⟨hrc, hw⟩ := hw
  refine z_callV C I (as := [.int p2]) (rest := []) (m_X5_isAccepted E hw) kv_L_25 vc_6 hrc rfl rfl hl.1 (Nat.le_of_ble_eq_true rfl) ⟨Nat.le_of_ble_eq_true rfl, Nat.le_of_ble_eq_true rfl⟩ ⟨Nat.le_of_ble_eq_true rfl, Nat.le_of_ble_eq_true rfl⟩ dL_does_19 (fun k2 M3 _ _ ce q9 I hw hce hcv hcl => ?_) (fun v M1 _ _ I hv => ?_)
  rotate_left
  · obtain ⟨v7, rfl, hv7, hw⟩ := hv
    refine W.eq (g2 := F0 m 22 ls [.int v7]) rfl ?_
    refine lv_if_eq (tgt := 29) hx hb dL_does_22 (by decide) (fun c => ?_) (fun c => ?_)
    · replace hw := hw.1 c
      refine lv_iconst (v := 0) hx hb dL_does_29 (by decide) ?_
      refine lv_goto (tgt := 168) hx hb dL_does_30 (by decide) ?_
      exact z_iret C I hr ⟨_, rfl, hw⟩ (Nat.le_of_ble_eq_true rfl) (Nat.le_of_ble_eq_true rfl) dL_does_168
    · replace hw := hw.2 c
      refine lv_iconst (v := 1) hx hb dL_does_25 (by decide) ?_
      refine lv_goto (tgt := 168) hx hb dL_does_26 (by decide) ?_
      exact z_iret C I hr ⟨_, rfl, hw⟩ (Nat.le_of_ble_eq_true rfl) (Nat.le_of_ble_eq_true rfl) dL_does_168
  · rcases hw.2.2.2 with rfl | rfl | rfl
    · have hw := hw.1 rfl
      refine z_catch C EN htab 1 (by decide) [] (0, 168, 169, 14) [(0, 168, 174, 17), (0, 168, 179, 19)] rfl (fun _ hz => absurd hz List.not_mem_nil) (by decide) (by decide) zw216 zw231 hce hcv hcl ?_
      refine lv_astore (lv' := [(4, .ref q9), (0, .ref p0), (1, .int (1 : Int32)), (2, .int p2), (3, .int p3)]) hx hb dL_does_169 hl (by decide) rfl (fun ls hl4 => ?_)
      refine lv_ldc (v := -99999) hx hb C.1.2.2.2.1 (z_word C.1 zw442) dL_does_171 ?_
      exact z_iret C I hr ⟨_, rfl, hw⟩ (Nat.le_of_ble_eq_true rfl) (Nat.le_of_ble_eq_true rfl) dL_does_173
    · have hw := hw.2.1 rfl
      refine z_catch C EN htab 2 (by decide) [(0, 168, 169, 14)] (0, 168, 174, 17) [(0, 168, 179, 19)] rfl (by intro z hz; simp only [List.mem_cons, List.not_mem_nil, or_false] at hz; rcases hz with rfl <;> first | exact ⟨by decide, 1, by decide, by decide, zw216⟩) (by decide) (by decide) zw217 zw332 hce hcv hcl ?_
      refine lv_astore (lv' := [(4, .ref q9), (0, .ref p0), (1, .int (1 : Int32)), (2, .int p2), (3, .int p3)]) hx hb dL_does_174 hl (by decide) rfl (fun ls hl5 => ?_)
      refine lv_ldc (v := -99999) hx hb C.1.2.2.2.1 (z_word C.1 zw442) dL_does_176 ?_
      exact z_iret C I hr ⟨_, rfl, hw⟩ (Nat.le_of_ble_eq_true rfl) (Nat.le_of_ble_eq_true rfl) dL_does_178
    · have hw := hw.2.2.1 rfl
      refine z_catch C EN htab 3 (by decide) [(0, 168, 169, 14), (0, 168, 174, 17)] (0, 168, 179, 19) [] rfl (by intro z hz; simp only [List.mem_cons, List.not_mem_nil, or_false] at hz; rcases hz with rfl | rfl <;> first | exact ⟨by decide, 1, by decide, by decide, zw216⟩ | exact ⟨by decide, 2, by decide, by decide, zw217⟩) (by decide) (by decide) zw218 zw359 hce hcv hcl ?_
      refine lv_astore (lv' := [(4, .ref q9), (0, .ref p0), (1, .int (1 : Int32)), (2, .int p2), (3, .int p3)]) hx hb dL_does_179 hl (by decide) rfl (fun ls hl6 => ?_)
      refine lv_ldc (v := -99999) hx hb C.1.2.2.2.1 (z_word C.1 zw442) dL_does_181 ?_
      exact z_iret C I hr ⟨_, rfl, hw⟩ (Nat.le_of_ble_eq_true rfl) (Nat.le_of_ble_eq_true rfl) dL_does_183
set_option maxHeartbeats 4000000 in
set_option maxRecDepth 100000 in
theorem m_L_does_7 {X : zX} {l : Launch} (E : zEnv X l) (EN : zNcs X) {M : zM} {p0 : Nat} {p2 : Int32} {p3 : Int32} {P : Int32 → zM → Prop} {PX : Nat → zM → Prop} (hw : w_L_does_7 p0 p2 p3 M P) : zCTw X l yL_does cL_does 5 (some .int) [(0, 168, 169, 14), (0, 168, 174, 17), (0, 168, 179, 19)] 9 156 2 12 M [.ref p0, .int (7 : Int32), .int p2, .int p3] (zPi P) PX := by
  refine z_entryW E (by decide) zw445 ?_
  intro p e s m args below meth c C hr htab I
  have hx := C.1.1
  have hb := C.1.2.1
  obtain ⟨ls, he, hl⟩ := z_enter (m := m) (n := 5) (vs := [.ref p0, .int (7 : Int32), .int p2, .int p3]) (l := [(0, .ref p0), (1, .int (7 : Int32)), (2, .int p2), (3, .int p3)]) (Nat.le_of_ble_eq_true rfl) rfl
  rw [he]
  clear he
  unfold w_L_does_7 at hw
  refine lv_iload_n hx hb dL_does_0 rfl (lv_at hl 1 rfl) ?_
  refine lv_if_ne (tgt := 12) hx hb dL_does_1 (by decide) (fun _ => ?_) (fun c => absurd c (by decide))
  refine lv_iload_n hx hb dL_does_12 rfl (lv_at hl 1 rfl) ?_
  refine lv_iconst (v := 1) hx hb dL_does_13 (by decide) ?_
  refine lv_icmp_ne (tgt := 33) hx hb dL_does_14 (by decide) (fun _ => ?_) (fun c => absurd c (by decide))
  refine lv_iload_n hx hb dL_does_33 rfl (lv_at hl 1 rfl) ?_
  refine lv_iconst (v := 2) hx hb dL_does_34 (by decide) ?_
  refine lv_icmp_ne (tgt := 46) hx hb dL_does_35 (by decide) (fun _ => ?_) (fun c => absurd c (by decide))
  refine lv_iload_n hx hb dL_does_46 rfl (lv_at hl 1 rfl) ?_
  refine lv_iconst (v := 5) hx hb dL_does_47 (by decide) ?_
  refine lv_icmp_ge (tgt := 70) hx hb dL_does_48 (by decide) (fun _ => ?_) (fun c => absurd c (by decide))
  refine lv_iload_n hx hb dL_does_70 rfl (lv_at hl 1 rfl) ?_
  refine lv_bipush (v := 7) hx hb dL_does_71 (by decide) ?_
  refine lv_icmp_ge (tgt := 96) hx hb dL_does_73 (by decide) (fun _ => ?_) (fun c => absurd c (by decide))
  refine lv_iload_n hx hb dL_does_96 rfl (lv_at hl 1 rfl) ?_
  refine lv_bipush (v := 7) hx hb dL_does_97 (by decide) ?_
  refine lv_icmp_ne (tgt := 111) hx hb dL_does_99 (by decide) (fun c => absurd c (by decide)) (fun _ => ?_)
  refine lv_aload_n hx hb dL_does_102 rfl (lv_at hl 0 rfl) ?_
  refine lv_iload_n hx hb dL_does_103 rfl (lv_at hl 2 rfl) ?_
  refine lv_iload_n hx hb dL_does_104 rfl (lv_at hl 3 rfl) ?_
  obtain ⟨hrc, hw⟩ := hw
  refine z_callV C I (as := [.int p2, .int p3]) (rest := []) (m_X5_number E hw) kv_L_39 vc_6 hrc rfl rfl hl.1 (Nat.le_of_ble_eq_true rfl) ⟨Nat.le_of_ble_eq_true rfl, Nat.le_of_ble_eq_true rfl⟩ ⟨Nat.le_of_ble_eq_true rfl, Nat.le_of_ble_eq_true rfl⟩ dL_does_105 (fun k2 M3 _ _ ce q9 I hw hce hcv hcl => ?_) (fun v M1 _ _ I hv => ?_)
  rotate_left
  · obtain ⟨v7, rfl, hw⟩ := hv
    refine W.eq (g2 := F0 m 108 ls [.int v7]) rfl ?_
    refine lv_goto (tgt := 168) hx hb dL_does_108 (by decide) ?_
    exact z_iret C I hr ⟨_, rfl, hw⟩ (Nat.le_of_ble_eq_true rfl) (Nat.le_of_ble_eq_true rfl) dL_does_168
  · rcases hw.2.2.2 with rfl | rfl | rfl
    · have hw := hw.1 rfl
      refine z_catch C EN htab 1 (by decide) [] (0, 168, 169, 14) [(0, 168, 174, 17), (0, 168, 179, 19)] rfl (fun _ hz => absurd hz List.not_mem_nil) (by decide) (by decide) zw216 zw231 hce hcv hcl ?_
      refine lv_astore (lv' := [(4, .ref q9), (0, .ref p0), (1, .int (7 : Int32)), (2, .int p2), (3, .int p3)]) hx hb dL_does_169 hl (by decide) rfl (fun ls hl4 => ?_)
      refine lv_ldc (v := -99999) hx hb C.1.2.2.2.1 (z_word C.1 zw442) dL_does_171 ?_
      exact z_iret C I hr ⟨_, rfl, hw⟩ (Nat.le_of_ble_eq_true rfl) (Nat.le_of_ble_eq_true rfl) dL_does_173
    · have hw := hw.2.1 rfl
      refine z_catch C EN htab 2 (by decide) [(0, 168, 169, 14)] (0, 168, 174, 17) [(0, 168, 179, 19)] rfl (by intro z hz; simp only [List.mem_cons, List.not_mem_nil, or_false] at hz; rcases hz with rfl <;> first | exact ⟨by decide, 1, by decide, by decide, zw216⟩) (by decide) (by decide) zw217 zw332 hce hcv hcl ?_
      refine lv_astore (lv' := [(4, .ref q9), (0, .ref p0), (1, .int (7 : Int32)), (2, .int p2), (3, .int p3)]) hx hb dL_does_174 hl (by decide) rfl (fun ls hl5 => ?_)
      refine lv_ldc (v := -99999) hx hb C.1.2.2.2.1 (z_word C.1 zw442) dL_does_176 ?_
      exact z_iret C I hr ⟨_, rfl, hw⟩ (Nat.le_of_ble_eq_true rfl) (Nat.le_of_ble_eq_true rfl) dL_does_178
    · have hw := hw.2.2.1 rfl
      refine z_catch C EN htab 3 (by decide) [(0, 168, 169, 14), (0, 168, 174, 17)] (0, 168, 179, 19) [] rfl (by intro z hz; simp only [List.mem_cons, List.not_mem_nil, or_false] at hz; rcases hz with rfl | rfl <;> first | exact ⟨by decide, 1, by decide, by decide, zw216⟩ | exact ⟨by decide, 2, by decide, by decide, zw217⟩) (by decide) (by decide) zw218 zw359 hce hcv hcl ?_
      refine lv_astore (lv' := [(4, .ref q9), (0, .ref p0), (1, .int (7 : Int32)), (2, .int p2), (3, .int p3)]) hx hb dL_does_179 hl (by decide) rfl (fun ls hl6 => ?_)
      refine lv_ldc (v := -99999) hx hb C.1.2.2.2.1 (z_word C.1 zw442) dL_does_181 ?_
      exact z_iret C I hr ⟨_, rfl, hw⟩ (Nat.le_of_ble_eq_true rfl) (Nat.le_of_ble_eq_true rfl) dL_does_183
set_option maxHeartbeats 4000000 in
set_option maxRecDepth 100000 in
theorem m_L_does_8 {X : zX} {l : Launch} (E : zEnv X l) (EN : zNcs X) {M : zM} {p0 : Nat} {p2 : Int32} {p3 : Int32} {P : Int32 → zM → Prop} {PX : Nat → zM → Prop} (hw : w_L_does_8 p0 p2 p3 M P) : zCTw X l yL_does cL_does 5 (some .int) [(0, 168, 169, 14), (0, 168, 174, 17), (0, 168, 179, 19)] 9 156 2 12 M [.ref p0, .int (8 : Int32), .int p2, .int p3] (zPi P) PX := by
  refine z_entryW E (by decide) zw445 ?_
  intro p e s m args below meth c C hr htab I
  have hx := C.1.1
  have hb := C.1.2.1
  obtain ⟨ls, he, hl⟩ := z_enter (m := m) (n := 5) (vs := [.ref p0, .int (8 : Int32), .int p2, .int p3]) (l := [(0, .ref p0), (1, .int (8 : Int32)), (2, .int p2), (3, .int p3)]) (Nat.le_of_ble_eq_true rfl) rfl
  rw [he]
  clear he
  unfold w_L_does_8 at hw
  refine lv_iload_n hx hb dL_does_0 rfl (lv_at hl 1 rfl) ?_
  refine lv_if_ne (tgt := 12) hx hb dL_does_1 (by decide) (fun _ => ?_) (fun c => absurd c (by decide))
  refine lv_iload_n hx hb dL_does_12 rfl (lv_at hl 1 rfl) ?_
  refine lv_iconst (v := 1) hx hb dL_does_13 (by decide) ?_
  refine lv_icmp_ne (tgt := 33) hx hb dL_does_14 (by decide) (fun _ => ?_) (fun c => absurd c (by decide))
  refine lv_iload_n hx hb dL_does_33 rfl (lv_at hl 1 rfl) ?_
  refine lv_iconst (v := 2) hx hb dL_does_34 (by decide) ?_
  refine lv_icmp_ne (tgt := 46) hx hb dL_does_35 (by decide) (fun _ => ?_) (fun c => absurd c (by decide))
  refine lv_iload_n hx hb dL_does_46 rfl (lv_at hl 1 rfl) ?_
  refine lv_iconst (v := 5) hx hb dL_does_47 (by decide) ?_
  refine lv_icmp_ge (tgt := 70) hx hb dL_does_48 (by decide) (fun _ => ?_) (fun c => absurd c (by decide))
  refine lv_iload_n hx hb dL_does_70 rfl (lv_at hl 1 rfl) ?_
  refine lv_bipush (v := 7) hx hb dL_does_71 (by decide) ?_
  refine lv_icmp_ge (tgt := 96) hx hb dL_does_73 (by decide) (fun _ => ?_) (fun c => absurd c (by decide))
  refine lv_iload_n hx hb dL_does_96 rfl (lv_at hl 1 rfl) ?_
  refine lv_bipush (v := 7) hx hb dL_does_97 (by decide) ?_
  refine lv_icmp_ne (tgt := 111) hx hb dL_does_99 (by decide) (fun _ => ?_) (fun c => absurd c (by decide))
  refine lv_iload_n hx hb dL_does_111 rfl (lv_at hl 1 rfl) ?_
  refine lv_bipush (v := 8) hx hb dL_does_112 (by decide) ?_
  refine lv_icmp_ne (tgt := 126) hx hb dL_does_114 (by decide) (fun c => absurd c (by decide)) (fun _ => ?_)
  refine lv_aload_n hx hb dL_does_117 rfl (lv_at hl 0 rfl) ?_
  refine lv_iload_n hx hb dL_does_118 rfl (lv_at hl 2 rfl) ?_
  refine lv_iload_n hx hb dL_does_119 rfl (lv_at hl 3 rfl) ?_
  obtain ⟨hrc, hw⟩ := hw
  refine z_callV C I (as := [.int p2, .int p3]) (rest := []) (m_X5_length E hw) kv_L_43 vc_6 hrc rfl rfl hl.1 (Nat.le_of_ble_eq_true rfl) ⟨Nat.le_of_ble_eq_true rfl, Nat.le_of_ble_eq_true rfl⟩ ⟨Nat.le_of_ble_eq_true rfl, Nat.le_of_ble_eq_true rfl⟩ dL_does_120 (fun k2 M3 _ _ ce q9 I hw hce hcv hcl => ?_) (fun v M1 _ _ I hv => ?_)
  rotate_left
  · obtain ⟨v7, rfl, hw⟩ := hv
    refine W.eq (g2 := F0 m 123 ls [.int v7]) rfl ?_
    refine lv_goto (tgt := 168) hx hb dL_does_123 (by decide) ?_
    exact z_iret C I hr ⟨_, rfl, hw⟩ (Nat.le_of_ble_eq_true rfl) (Nat.le_of_ble_eq_true rfl) dL_does_168
  · rcases hw.2.2.2 with rfl | rfl | rfl
    · have hw := hw.1 rfl
      refine z_catch C EN htab 1 (by decide) [] (0, 168, 169, 14) [(0, 168, 174, 17), (0, 168, 179, 19)] rfl (fun _ hz => absurd hz List.not_mem_nil) (by decide) (by decide) zw216 zw231 hce hcv hcl ?_
      refine lv_astore (lv' := [(4, .ref q9), (0, .ref p0), (1, .int (8 : Int32)), (2, .int p2), (3, .int p3)]) hx hb dL_does_169 hl (by decide) rfl (fun ls hl4 => ?_)
      refine lv_ldc (v := -99999) hx hb C.1.2.2.2.1 (z_word C.1 zw442) dL_does_171 ?_
      exact z_iret C I hr ⟨_, rfl, hw⟩ (Nat.le_of_ble_eq_true rfl) (Nat.le_of_ble_eq_true rfl) dL_does_173
    · have hw := hw.2.1 rfl
      refine z_catch C EN htab 2 (by decide) [(0, 168, 169, 14)] (0, 168, 174, 17) [(0, 168, 179, 19)] rfl (by intro z hz; simp only [List.mem_cons, List.not_mem_nil, or_false] at hz; rcases hz with rfl <;> first | exact ⟨by decide, 1, by decide, by decide, zw216⟩) (by decide) (by decide) zw217 zw332 hce hcv hcl ?_
      refine lv_astore (lv' := [(4, .ref q9), (0, .ref p0), (1, .int (8 : Int32)), (2, .int p2), (3, .int p3)]) hx hb dL_does_174 hl (by decide) rfl (fun ls hl5 => ?_)
      refine lv_ldc (v := -99999) hx hb C.1.2.2.2.1 (z_word C.1 zw442) dL_does_176 ?_
      exact z_iret C I hr ⟨_, rfl, hw⟩ (Nat.le_of_ble_eq_true rfl) (Nat.le_of_ble_eq_true rfl) dL_does_178
    · have hw := hw.2.2.1 rfl
      refine z_catch C EN htab 3 (by decide) [(0, 168, 169, 14), (0, 168, 174, 17)] (0, 168, 179, 19) [] rfl (by intro z hz; simp only [List.mem_cons, List.not_mem_nil, or_false] at hz; rcases hz with rfl | rfl <;> first | exact ⟨by decide, 1, by decide, by decide, zw216⟩ | exact ⟨by decide, 2, by decide, by decide, zw217⟩) (by decide) (by decide) zw218 zw359 hce hcv hcl ?_
      refine lv_astore (lv' := [(4, .ref q9), (0, .ref p0), (1, .int (8 : Int32)), (2, .int p2), (3, .int p3)]) hx hb dL_does_179 hl (by decide) rfl (fun ls hl6 => ?_)
      refine lv_ldc (v := -99999) hx hb C.1.2.2.2.1 (z_word C.1 zw442) dL_does_181 ?_
      exact z_iret C I hr ⟨_, rfl, hw⟩ (Nat.le_of_ble_eq_true rfl) (Nat.le_of_ble_eq_true rfl) dL_does_183
set_option maxHeartbeats 4000000 in
set_option maxRecDepth 100000 in
theorem m_L_does_10 {X : zX} {l : Launch} (E : zEnv X l) (EN : zNcs X) {M : zM} {p0 : Nat} {p2 : Int32} {p3 : Int32} {P : Int32 → zM → Prop} {PX : Nat → zM → Prop} (hw : w_L_does_10 p0 p2 p3 M P) : zCTw X l yL_does cL_does 5 (some .int) [(0, 168, 169, 14), (0, 168, 174, 17), (0, 168, 179, 19)] 9 156 2 12 M [.ref p0, .int (10 : Int32), .int p2, .int p3] (zPi P) PX := by
  refine z_entryW E (by decide) zw445 ?_
  intro p e s m args below meth c C hr htab I
  have hx := C.1.1
  have hb := C.1.2.1
  obtain ⟨ls, he, hl⟩ := z_enter (m := m) (n := 5) (vs := [.ref p0, .int (10 : Int32), .int p2, .int p3]) (l := [(0, .ref p0), (1, .int (10 : Int32)), (2, .int p2), (3, .int p3)]) (Nat.le_of_ble_eq_true rfl) rfl
  rw [he]
  clear he
  unfold w_L_does_10 at hw
  refine lv_iload_n hx hb dL_does_0 rfl (lv_at hl 1 rfl) ?_
  refine lv_if_ne (tgt := 12) hx hb dL_does_1 (by decide) (fun _ => ?_) (fun c => absurd c (by decide))
  refine lv_iload_n hx hb dL_does_12 rfl (lv_at hl 1 rfl) ?_
  refine lv_iconst (v := 1) hx hb dL_does_13 (by decide) ?_
  refine lv_icmp_ne (tgt := 33) hx hb dL_does_14 (by decide) (fun _ => ?_) (fun c => absurd c (by decide))
  refine lv_iload_n hx hb dL_does_33 rfl (lv_at hl 1 rfl) ?_
  refine lv_iconst (v := 2) hx hb dL_does_34 (by decide) ?_
  refine lv_icmp_ne (tgt := 46) hx hb dL_does_35 (by decide) (fun _ => ?_) (fun c => absurd c (by decide))
  refine lv_iload_n hx hb dL_does_46 rfl (lv_at hl 1 rfl) ?_
  refine lv_iconst (v := 5) hx hb dL_does_47 (by decide) ?_
  refine lv_icmp_ge (tgt := 70) hx hb dL_does_48 (by decide) (fun _ => ?_) (fun c => absurd c (by decide))
  refine lv_iload_n hx hb dL_does_70 rfl (lv_at hl 1 rfl) ?_
  refine lv_bipush (v := 7) hx hb dL_does_71 (by decide) ?_
  refine lv_icmp_ge (tgt := 96) hx hb dL_does_73 (by decide) (fun _ => ?_) (fun c => absurd c (by decide))
  refine lv_iload_n hx hb dL_does_96 rfl (lv_at hl 1 rfl) ?_
  refine lv_bipush (v := 7) hx hb dL_does_97 (by decide) ?_
  refine lv_icmp_ne (tgt := 111) hx hb dL_does_99 (by decide) (fun _ => ?_) (fun c => absurd c (by decide))
  refine lv_iload_n hx hb dL_does_111 rfl (lv_at hl 1 rfl) ?_
  refine lv_bipush (v := 8) hx hb dL_does_112 (by decide) ?_
  refine lv_icmp_ne (tgt := 126) hx hb dL_does_114 (by decide) (fun _ => ?_) (fun c => absurd c (by decide))
  refine lv_iload_n hx hb dL_does_126 rfl (lv_at hl 1 rfl) ?_
  refine lv_bipush (v := 9) hx hb dL_does_127 (by decide) ?_
  refine lv_icmp_ne (tgt := 140) hx hb dL_does_129 (by decide) (fun _ => ?_) (fun c => absurd c (by decide))
  refine lv_iload_n hx hb dL_does_140 rfl (lv_at hl 1 rfl) ?_
  refine lv_bipush (v := 10) hx hb dL_does_141 (by decide) ?_
  refine lv_icmp_ne (tgt := 163) hx hb dL_does_143 (by decide) (fun c => absurd c (by decide)) (fun _ => ?_)
  refine lv_aload_n hx hb dL_does_146 rfl (lv_at hl 0 rfl) ?_
  refine lv_iload_n hx hb dL_does_147 rfl (lv_at hl 2 rfl) ?_
  refine lv_iload_n hx hb dL_does_148 rfl (lv_at hl 3 rfl) ?_
  obtain ⟨hrc, hw⟩ := hw
  refine z_callV C I (as := [.int p2, .int p3]) (rest := []) (m_X5_isRecord E hw) kv_L_49 vc_6 hrc rfl rfl hl.1 (Nat.le_of_ble_eq_true rfl) ⟨Nat.le_of_ble_eq_true rfl, Nat.le_of_ble_eq_true rfl⟩ ⟨Nat.le_of_ble_eq_true rfl, Nat.le_of_ble_eq_true rfl⟩ dL_does_149 (fun k2 M3 _ _ ce q9 I hw hce hcv hcl => ?_) (fun v M1 _ _ I hv => ?_)
  rotate_left
  · obtain ⟨v7, rfl, hv7, hw⟩ := hv
    refine W.eq (g2 := F0 m 152 ls [.int v7]) rfl ?_
    refine lv_if_eq (tgt := 159) hx hb dL_does_152 (by decide) (fun c => ?_) (fun c => ?_)
    · replace hw := hw.1 c
      refine lv_iconst (v := 0) hx hb dL_does_159 (by decide) ?_
      refine lv_goto (tgt := 168) hx hb dL_does_160 (by decide) ?_
      exact z_iret C I hr ⟨_, rfl, hw⟩ (Nat.le_of_ble_eq_true rfl) (Nat.le_of_ble_eq_true rfl) dL_does_168
    · replace hw := hw.2 c
      refine lv_iconst (v := 1) hx hb dL_does_155 (by decide) ?_
      refine lv_goto (tgt := 168) hx hb dL_does_156 (by decide) ?_
      exact z_iret C I hr ⟨_, rfl, hw⟩ (Nat.le_of_ble_eq_true rfl) (Nat.le_of_ble_eq_true rfl) dL_does_168
  · rcases hw.2.2.2 with rfl | rfl | rfl
    · have hw := hw.1 rfl
      refine z_catch C EN htab 1 (by decide) [] (0, 168, 169, 14) [(0, 168, 174, 17), (0, 168, 179, 19)] rfl (fun _ hz => absurd hz List.not_mem_nil) (by decide) (by decide) zw216 zw231 hce hcv hcl ?_
      refine lv_astore (lv' := [(4, .ref q9), (0, .ref p0), (1, .int (10 : Int32)), (2, .int p2), (3, .int p3)]) hx hb dL_does_169 hl (by decide) rfl (fun ls hl4 => ?_)
      refine lv_ldc (v := -99999) hx hb C.1.2.2.2.1 (z_word C.1 zw442) dL_does_171 ?_
      exact z_iret C I hr ⟨_, rfl, hw⟩ (Nat.le_of_ble_eq_true rfl) (Nat.le_of_ble_eq_true rfl) dL_does_173
    · have hw := hw.2.1 rfl
      refine z_catch C EN htab 2 (by decide) [(0, 168, 169, 14)] (0, 168, 174, 17) [(0, 168, 179, 19)] rfl (by intro z hz; simp only [List.mem_cons, List.not_mem_nil, or_false] at hz; rcases hz with rfl <;> first | exact ⟨by decide, 1, by decide, by decide, zw216⟩) (by decide) (by decide) zw217 zw332 hce hcv hcl ?_
      refine lv_astore (lv' := [(4, .ref q9), (0, .ref p0), (1, .int (10 : Int32)), (2, .int p2), (3, .int p3)]) hx hb dL_does_174 hl (by decide) rfl (fun ls hl5 => ?_)
      refine lv_ldc (v := -99999) hx hb C.1.2.2.2.1 (z_word C.1 zw442) dL_does_176 ?_
      exact z_iret C I hr ⟨_, rfl, hw⟩ (Nat.le_of_ble_eq_true rfl) (Nat.le_of_ble_eq_true rfl) dL_does_178
    · have hw := hw.2.2.1 rfl
      refine z_catch C EN htab 3 (by decide) [(0, 168, 169, 14), (0, 168, 174, 17)] (0, 168, 179, 19) [] rfl (by intro z hz; simp only [List.mem_cons, List.not_mem_nil, or_false] at hz; rcases hz with rfl | rfl <;> first | exact ⟨by decide, 1, by decide, by decide, zw216⟩ | exact ⟨by decide, 2, by decide, by decide, zw217⟩) (by decide) (by decide) zw218 zw359 hce hcv hcl ?_
      refine lv_astore (lv' := [(4, .ref q9), (0, .ref p0), (1, .int (10 : Int32)), (2, .int p2), (3, .int p3)]) hx hb dL_does_179 hl (by decide) rfl (fun ls hl6 => ?_)
      refine lv_ldc (v := -99999) hx hb C.1.2.2.2.1 (z_word C.1 zw442) dL_does_181 ?_
      exact z_iret C I hr ⟨_, rfl, hw⟩ (Nat.le_of_ble_eq_true rfl) (Nat.le_of_ble_eq_true rfl) dL_does_183
set_option maxHeartbeats 4000000 in
set_option maxRecDepth 100000 in
theorem m_L_does_11 {X : zX} {l : Launch} (E : zEnv X l) (EN : zNcs X) {M : zM} {p0 : Nat} {p2 : Int32} {p3 : Int32} {P : Int32 → zM → Prop} {PX : Nat → zM → Prop} (hw : w_L_does_11 p0 p2 p3 M P) : zCTw X l yL_does cL_does 5 (some .int) [(0, 168, 169, 14), (0, 168, 174, 17), (0, 168, 179, 19)] 7 111 1 6 M [.ref p0, .int (11 : Int32), .int p2, .int p3] (zPi P) PX := by
  refine z_entryW E (by decide) zw445 ?_
  intro p e s m args below meth c C hr htab I
  have hx := C.1.1
  have hb := C.1.2.1
  obtain ⟨ls, he, hl⟩ := z_enter (m := m) (n := 5) (vs := [.ref p0, .int (11 : Int32), .int p2, .int p3]) (l := [(0, .ref p0), (1, .int (11 : Int32)), (2, .int p2), (3, .int p3)]) (Nat.le_of_ble_eq_true rfl) rfl
  rw [he]
  clear he
  unfold w_L_does_11 at hw
  refine lv_iload_n hx hb dL_does_0 rfl (lv_at hl 1 rfl) ?_
  refine lv_if_ne (tgt := 12) hx hb dL_does_1 (by decide) (fun _ => ?_) (fun c => absurd c (by decide))
  refine lv_iload_n hx hb dL_does_12 rfl (lv_at hl 1 rfl) ?_
  refine lv_iconst (v := 1) hx hb dL_does_13 (by decide) ?_
  refine lv_icmp_ne (tgt := 33) hx hb dL_does_14 (by decide) (fun _ => ?_) (fun c => absurd c (by decide))
  refine lv_iload_n hx hb dL_does_33 rfl (lv_at hl 1 rfl) ?_
  refine lv_iconst (v := 2) hx hb dL_does_34 (by decide) ?_
  refine lv_icmp_ne (tgt := 46) hx hb dL_does_35 (by decide) (fun _ => ?_) (fun c => absurd c (by decide))
  refine lv_iload_n hx hb dL_does_46 rfl (lv_at hl 1 rfl) ?_
  refine lv_iconst (v := 5) hx hb dL_does_47 (by decide) ?_
  refine lv_icmp_ge (tgt := 70) hx hb dL_does_48 (by decide) (fun _ => ?_) (fun c => absurd c (by decide))
  refine lv_iload_n hx hb dL_does_70 rfl (lv_at hl 1 rfl) ?_
  refine lv_bipush (v := 7) hx hb dL_does_71 (by decide) ?_
  refine lv_icmp_ge (tgt := 96) hx hb dL_does_73 (by decide) (fun _ => ?_) (fun c => absurd c (by decide))
  refine lv_iload_n hx hb dL_does_96 rfl (lv_at hl 1 rfl) ?_
  refine lv_bipush (v := 7) hx hb dL_does_97 (by decide) ?_
  refine lv_icmp_ne (tgt := 111) hx hb dL_does_99 (by decide) (fun _ => ?_) (fun c => absurd c (by decide))
  refine lv_iload_n hx hb dL_does_111 rfl (lv_at hl 1 rfl) ?_
  refine lv_bipush (v := 8) hx hb dL_does_112 (by decide) ?_
  refine lv_icmp_ne (tgt := 126) hx hb dL_does_114 (by decide) (fun _ => ?_) (fun c => absurd c (by decide))
  refine lv_iload_n hx hb dL_does_126 rfl (lv_at hl 1 rfl) ?_
  refine lv_bipush (v := 9) hx hb dL_does_127 (by decide) ?_
  refine lv_icmp_ne (tgt := 140) hx hb dL_does_129 (by decide) (fun _ => ?_) (fun c => absurd c (by decide))
  refine lv_iload_n hx hb dL_does_140 rfl (lv_at hl 1 rfl) ?_
  refine lv_bipush (v := 10) hx hb dL_does_141 (by decide) ?_
  refine lv_icmp_ne (tgt := 163) hx hb dL_does_143 (by decide) (fun _ => ?_) (fun c => absurd c (by decide))
  refine lv_aload_n hx hb dL_does_163 rfl (lv_at hl 0 rfl) ?_
  refine lv_iload_n hx hb dL_does_164 rfl (lv_at hl 2 rfl) ?_
  obtain ⟨hrc, hw⟩ := hw
  refine z_callV C I (as := [.int p2]) (rest := []) (m_X5_valueAt E hw) kv_L_53 vc_6 hrc rfl rfl hl.1 (Nat.le_of_ble_eq_true rfl) ⟨Nat.le_of_ble_eq_true rfl, Nat.le_of_ble_eq_true rfl⟩ ⟨Nat.le_of_ble_eq_true rfl, Nat.le_of_ble_eq_true rfl⟩ dL_does_165 (fun k2 M3 _ _ ce q9 I hw hce hcv hcl => ?_) (fun v M1 _ _ I hv => ?_)
  rotate_left
  · obtain ⟨v7, rfl, hw⟩ := hv
    refine W.eq (g2 := F0 m 168 ls [.int v7]) rfl ?_
    exact z_iret C I hr ⟨_, rfl, hw⟩ (Nat.le_of_ble_eq_true rfl) (Nat.le_of_ble_eq_true rfl) dL_does_168
  · rcases hw.2.2.2 with rfl | rfl | rfl
    · have hw := hw.1 rfl
      refine z_catch C EN htab 1 (by decide) [] (0, 168, 169, 14) [(0, 168, 174, 17), (0, 168, 179, 19)] rfl (fun _ hz => absurd hz List.not_mem_nil) (by decide) (by decide) zw216 zw231 hce hcv hcl ?_
      refine lv_astore (lv' := [(4, .ref q9), (0, .ref p0), (1, .int (11 : Int32)), (2, .int p2), (3, .int p3)]) hx hb dL_does_169 hl (by decide) rfl (fun ls hl4 => ?_)
      refine lv_ldc (v := -99999) hx hb C.1.2.2.2.1 (z_word C.1 zw442) dL_does_171 ?_
      exact z_iret C I hr ⟨_, rfl, hw⟩ (Nat.le_of_ble_eq_true rfl) (Nat.le_of_ble_eq_true rfl) dL_does_173
    · have hw := hw.2.1 rfl
      refine z_catch C EN htab 2 (by decide) [(0, 168, 169, 14)] (0, 168, 174, 17) [(0, 168, 179, 19)] rfl (by intro z hz; simp only [List.mem_cons, List.not_mem_nil, or_false] at hz; rcases hz with rfl <;> first | exact ⟨by decide, 1, by decide, by decide, zw216⟩) (by decide) (by decide) zw217 zw332 hce hcv hcl ?_
      refine lv_astore (lv' := [(4, .ref q9), (0, .ref p0), (1, .int (11 : Int32)), (2, .int p2), (3, .int p3)]) hx hb dL_does_174 hl (by decide) rfl (fun ls hl5 => ?_)
      refine lv_ldc (v := -99999) hx hb C.1.2.2.2.1 (z_word C.1 zw442) dL_does_176 ?_
      exact z_iret C I hr ⟨_, rfl, hw⟩ (Nat.le_of_ble_eq_true rfl) (Nat.le_of_ble_eq_true rfl) dL_does_178
    · have hw := hw.2.2.1 rfl
      refine z_catch C EN htab 3 (by decide) [(0, 168, 169, 14), (0, 168, 174, 17)] (0, 168, 179, 19) [] rfl (by intro z hz; simp only [List.mem_cons, List.not_mem_nil, or_false] at hz; rcases hz with rfl | rfl <;> first | exact ⟨by decide, 1, by decide, by decide, zw216⟩ | exact ⟨by decide, 2, by decide, by decide, zw217⟩) (by decide) (by decide) zw218 zw359 hce hcv hcl ?_
      refine lv_astore (lv' := [(4, .ref q9), (0, .ref p0), (1, .int (11 : Int32)), (2, .int p2), (3, .int p3)]) hx hb dL_does_179 hl (by decide) rfl (fun ls hl6 => ?_)
      refine lv_ldc (v := -99999) hx hb C.1.2.2.2.1 (z_word C.1 zw442) dL_does_181 ?_
      exact z_iret C I hr ⟨_, rfl, hw⟩ (Nat.le_of_ble_eq_true rfl) (Nat.le_of_ble_eq_true rfl) dL_does_183
set_option maxHeartbeats 4000000 in
set_option maxRecDepth 100000 in
theorem m_L_reads {X : zX} {l : Launch} (E : zEnv X l) (EN : zNcs X) {M : zM} {p0 : Nat} {p1 : Int32} {p2 : Int32} {p3 : Int32} {P : Int32 → zM → Prop} {PX : Nat → zM → Prop} (hw : w_L_reads p0 p1 p2 p3 M P) : zCTw X l yL_reads cL_reads 5 (some .int) [(0, 91, 92, 14), (0, 91, 97, 17), (0, 91, 102, 19)] 104 4854 7 42 M [.ref p0, .int p1, .int p2, .int p3] (zPi P) PX := by
  refine z_entryW E (by decide) zw628 ?_
  intro p e s m args below meth c C hr htab I
  have hx := C.1.1
  have hb := C.1.2.1
  obtain ⟨ls, he, hl⟩ := z_enter (m := m) (n := 5) (vs := [.ref p0, .int p1, .int p2, .int p3]) (l := [(0, .ref p0), (1, .int p1), (2, .int p2), (3, .int p3)]) (Nat.le_of_ble_eq_true rfl) rfl
  rw [he]
  clear he
  unfold w_L_reads at hw
  refine lv_iload_n hx hb dL_reads_0 rfl (lv_at hl 1 rfl) ?_
  refine lv_if_ne (tgt := 35) hx hb dL_reads_1 (by decide) (fun c => ?_) (fun c => ?_)
  · replace hw := hw.1 c
    refine lv_iload_n hx hb dL_reads_35 rfl (lv_at hl 1 rfl) ?_
    refine lv_iconst (v := 1) hx hb dL_reads_36 (by decide) ?_
    refine lv_icmp_ne (tgt := 71) hx hb dL_reads_37 (by decide) (fun c => ?_) (fun c => ?_)
    · replace hw := hw.1 c
      refine lv_aload_n hx hb dL_reads_71 rfl (lv_at hl 0 rfl) ?_
      refine lv_iload_n hx hb dL_reads_72 rfl (lv_at hl 2 rfl) ?_
      refine lv_bipush (v := 6) hx hb dL_reads_73 (by decide) ?_
      refine lv_idiv hx hb dL_reads_75 (by decide) ?_
      refine lv_iload_n hx hb dL_reads_76 rfl (lv_at hl 2 rfl) ?_
      refine lv_bipush (v := 6) hx hb dL_reads_77 (by decide) ?_
      refine lv_irem hx hb dL_reads_79 (by decide) ?_
      refine lv_iload_n hx hb dL_reads_80 rfl (lv_at hl 3 rfl) ?_
      refine lv_bipush (v := 6) hx hb dL_reads_81 (by decide) ?_
      refine lv_idiv hx hb dL_reads_83 (by decide) ?_
      refine lv_iload_n hx hb dL_reads_84 rfl (lv_at hl 3 rfl) ?_
      refine lv_bipush (v := 6) hx hb dL_reads_85 (by decide) ?_
      refine lv_irem hx hb dL_reads_87 (by decide) ?_
      obtain ⟨hrc, hw⟩ := hw
      refine z_callV C I (as := [.int (p2 / (6 : Int32)), .int (p2 - p2 / (6 : Int32) * (6 : Int32)), .int (p3 / (6 : Int32)), .int (p3 - p3 / (6 : Int32) * (6 : Int32))]) (rest := []) (m_X5_read E hw) kv_L_63 vc_6 hrc rfl rfl hl.1 (Nat.le_of_ble_eq_true rfl) ⟨Nat.le_of_ble_eq_true rfl, Nat.le_of_ble_eq_true rfl⟩ ⟨Nat.le_of_ble_eq_true rfl, Nat.le_of_ble_eq_true rfl⟩ dL_reads_88 (fun k2 M3 _ _ ce q9 I hw hce hcv hcl => ?_) (fun v M1 _ _ I hv => ?_)
      rotate_left
      · obtain ⟨v7, rfl, hw⟩ := hv
        refine W.eq (g2 := F0 m 91 ls [.int v7]) rfl ?_
        exact z_iret C I hr ⟨_, rfl, hw⟩ (Nat.le_of_ble_eq_true rfl) (Nat.le_of_ble_eq_true rfl) dL_reads_91
      · rcases hw.2.2.2 with rfl | rfl | rfl
        · have hw := hw.1 rfl
          refine z_catch C EN htab 1 (by decide) [] (0, 91, 92, 14) [(0, 91, 97, 17), (0, 91, 102, 19)] rfl (fun _ hz => absurd hz List.not_mem_nil) (by decide) (by decide) zw216 zw231 hce hcv hcl ?_
          refine lv_astore (lv' := [(4, .ref q9), (0, .ref p0), (1, .int p1), (2, .int p2), (3, .int p3)]) hx hb dL_reads_92 hl (by decide) rfl (fun ls hl4 => ?_)
          refine lv_ldc (v := -99999) hx hb C.1.2.2.2.1 (z_word C.1 zw442) dL_reads_94 ?_
          exact z_iret C I hr ⟨_, rfl, hw⟩ (Nat.le_of_ble_eq_true rfl) (Nat.le_of_ble_eq_true rfl) dL_reads_96
        · have hw := hw.2.1 rfl
          refine z_catch C EN htab 2 (by decide) [(0, 91, 92, 14)] (0, 91, 97, 17) [(0, 91, 102, 19)] rfl (by intro z hz; simp only [List.mem_cons, List.not_mem_nil, or_false] at hz; rcases hz with rfl <;> first | exact ⟨by decide, 1, by decide, by decide, zw216⟩) (by decide) (by decide) zw217 zw332 hce hcv hcl ?_
          refine lv_astore (lv' := [(4, .ref q9), (0, .ref p0), (1, .int p1), (2, .int p2), (3, .int p3)]) hx hb dL_reads_97 hl (by decide) rfl (fun ls hl5 => ?_)
          refine lv_ldc (v := -99999) hx hb C.1.2.2.2.1 (z_word C.1 zw442) dL_reads_99 ?_
          exact z_iret C I hr ⟨_, rfl, hw⟩ (Nat.le_of_ble_eq_true rfl) (Nat.le_of_ble_eq_true rfl) dL_reads_101
        · have hw := hw.2.2.1 rfl
          refine z_catch C EN htab 3 (by decide) [(0, 91, 92, 14), (0, 91, 97, 17)] (0, 91, 102, 19) [] rfl (by intro z hz; simp only [List.mem_cons, List.not_mem_nil, or_false] at hz; rcases hz with rfl | rfl <;> first | exact ⟨by decide, 1, by decide, by decide, zw216⟩ | exact ⟨by decide, 2, by decide, by decide, zw217⟩) (by decide) (by decide) zw218 zw359 hce hcv hcl ?_
          refine lv_astore (lv' := [(4, .ref q9), (0, .ref p0), (1, .int p1), (2, .int p2), (3, .int p3)]) hx hb dL_reads_102 hl (by decide) rfl (fun ls hl6 => ?_)
          refine lv_ldc (v := -99999) hx hb C.1.2.2.2.1 (z_word C.1 zw442) dL_reads_104 ?_
          exact z_iret C I hr ⟨_, rfl, hw⟩ (Nat.le_of_ble_eq_true rfl) (Nat.le_of_ble_eq_true rfl) dL_reads_106
    · replace hw := hw.2 c
      refine lv_aload_n hx hb dL_reads_40 rfl (lv_at hl 0 rfl) ?_
      refine lv_iload_n hx hb dL_reads_41 rfl (lv_at hl 2 rfl) ?_
      refine lv_bipush (v := 6) hx hb dL_reads_42 (by decide) ?_
      refine lv_idiv hx hb dL_reads_44 (by decide) ?_
      refine lv_iload_n hx hb dL_reads_45 rfl (lv_at hl 2 rfl) ?_
      refine lv_bipush (v := 6) hx hb dL_reads_46 (by decide) ?_
      refine lv_irem hx hb dL_reads_48 (by decide) ?_
      refine lv_iload_n hx hb dL_reads_49 rfl (lv_at hl 3 rfl) ?_
      refine lv_bipush (v := 6) hx hb dL_reads_50 (by decide) ?_
      refine lv_idiv hx hb dL_reads_52 (by decide) ?_
      refine lv_iload_n hx hb dL_reads_53 rfl (lv_at hl 3 rfl) ?_
      refine lv_bipush (v := 6) hx hb dL_reads_54 (by decide) ?_
      refine lv_irem hx hb dL_reads_56 (by decide) ?_
      obtain ⟨hrc, hw⟩ := hw
      refine z_callV C I (as := [.int (p2 / (6 : Int32)), .int (p2 - p2 / (6 : Int32) * (6 : Int32)), .int (p3 / (6 : Int32)), .int (p3 - p3 / (6 : Int32) * (6 : Int32))]) (rest := []) (m_X5_readsAll E hw) kv_L_60 vc_6 hrc rfl rfl hl.1 (Nat.le_of_ble_eq_true rfl) ⟨Nat.le_of_ble_eq_true rfl, Nat.le_of_ble_eq_true rfl⟩ ⟨Nat.le_of_ble_eq_true rfl, Nat.le_of_ble_eq_true rfl⟩ dL_reads_57 (fun k9 M10 _ _ ce q9 I hw hce hcv hcl => ?_) (fun v M8 _ _ I hv => ?_)
      rotate_left
      · obtain ⟨v14, rfl, hv14, hw⟩ := hv
        refine W.eq (g2 := F0 m 60 ls [.int v14]) rfl ?_
        refine lv_if_eq (tgt := 67) hx hb dL_reads_60 (by decide) (fun c => ?_) (fun c => ?_)
        · replace hw := hw.1 c
          refine lv_iconst (v := 0) hx hb dL_reads_67 (by decide) ?_
          refine lv_goto (tgt := 91) hx hb dL_reads_68 (by decide) ?_
          exact z_iret C I hr ⟨_, rfl, hw⟩ (Nat.le_of_ble_eq_true rfl) (Nat.le_of_ble_eq_true rfl) dL_reads_91
        · replace hw := hw.2 c
          refine lv_iconst (v := 1) hx hb dL_reads_63 (by decide) ?_
          refine lv_goto (tgt := 91) hx hb dL_reads_64 (by decide) ?_
          exact z_iret C I hr ⟨_, rfl, hw⟩ (Nat.le_of_ble_eq_true rfl) (Nat.le_of_ble_eq_true rfl) dL_reads_91
      · rcases hw.2.2.2 with rfl | rfl | rfl
        · have hw := hw.1 rfl
          refine z_catch C EN htab 1 (by decide) [] (0, 91, 92, 14) [(0, 91, 97, 17), (0, 91, 102, 19)] rfl (fun _ hz => absurd hz List.not_mem_nil) (by decide) (by decide) zw216 zw231 hce hcv hcl ?_
          refine lv_astore (lv' := [(4, .ref q9), (0, .ref p0), (1, .int p1), (2, .int p2), (3, .int p3)]) hx hb dL_reads_92 hl (by decide) rfl (fun ls hl11 => ?_)
          refine lv_ldc (v := -99999) hx hb C.1.2.2.2.1 (z_word C.1 zw442) dL_reads_94 ?_
          exact z_iret C I hr ⟨_, rfl, hw⟩ (Nat.le_of_ble_eq_true rfl) (Nat.le_of_ble_eq_true rfl) dL_reads_96
        · have hw := hw.2.1 rfl
          refine z_catch C EN htab 2 (by decide) [(0, 91, 92, 14)] (0, 91, 97, 17) [(0, 91, 102, 19)] rfl (by intro z hz; simp only [List.mem_cons, List.not_mem_nil, or_false] at hz; rcases hz with rfl <;> first | exact ⟨by decide, 1, by decide, by decide, zw216⟩) (by decide) (by decide) zw217 zw332 hce hcv hcl ?_
          refine lv_astore (lv' := [(4, .ref q9), (0, .ref p0), (1, .int p1), (2, .int p2), (3, .int p3)]) hx hb dL_reads_97 hl (by decide) rfl (fun ls hl12 => ?_)
          refine lv_ldc (v := -99999) hx hb C.1.2.2.2.1 (z_word C.1 zw442) dL_reads_99 ?_
          exact z_iret C I hr ⟨_, rfl, hw⟩ (Nat.le_of_ble_eq_true rfl) (Nat.le_of_ble_eq_true rfl) dL_reads_101
        · have hw := hw.2.2.1 rfl
          refine z_catch C EN htab 3 (by decide) [(0, 91, 92, 14), (0, 91, 97, 17)] (0, 91, 102, 19) [] rfl (by intro z hz; simp only [List.mem_cons, List.not_mem_nil, or_false] at hz; rcases hz with rfl | rfl <;> first | exact ⟨by decide, 1, by decide, by decide, zw216⟩ | exact ⟨by decide, 2, by decide, by decide, zw217⟩) (by decide) (by decide) zw218 zw359 hce hcv hcl ?_
          refine lv_astore (lv' := [(4, .ref q9), (0, .ref p0), (1, .int p1), (2, .int p2), (3, .int p3)]) hx hb dL_reads_102 hl (by decide) rfl (fun ls hl13 => ?_)
          refine lv_ldc (v := -99999) hx hb C.1.2.2.2.1 (z_word C.1 zw442) dL_reads_104 ?_
          exact z_iret C I hr ⟨_, rfl, hw⟩ (Nat.le_of_ble_eq_true rfl) (Nat.le_of_ble_eq_true rfl) dL_reads_106
  · replace hw := hw.2 c
    refine lv_aload_n hx hb dL_reads_4 rfl (lv_at hl 0 rfl) ?_
    refine lv_iload_n hx hb dL_reads_5 rfl (lv_at hl 2 rfl) ?_
    refine lv_bipush (v := 6) hx hb dL_reads_6 (by decide) ?_
    refine lv_idiv hx hb dL_reads_8 (by decide) ?_
    refine lv_iload_n hx hb dL_reads_9 rfl (lv_at hl 2 rfl) ?_
    refine lv_bipush (v := 6) hx hb dL_reads_10 (by decide) ?_
    refine lv_irem hx hb dL_reads_12 (by decide) ?_
    refine lv_iload_n hx hb dL_reads_13 rfl (lv_at hl 3 rfl) ?_
    refine lv_bipush (v := 6) hx hb dL_reads_14 (by decide) ?_
    refine lv_idiv hx hb dL_reads_16 (by decide) ?_
    refine lv_iload_n hx hb dL_reads_17 rfl (lv_at hl 3 rfl) ?_
    refine lv_bipush (v := 6) hx hb dL_reads_18 (by decide) ?_
    refine lv_irem hx hb dL_reads_20 (by decide) ?_
    obtain ⟨hrc, hw⟩ := hw
    refine z_callV C I (as := [.int (p2 / (6 : Int32)), .int (p2 - p2 / (6 : Int32) * (6 : Int32)), .int (p3 / (6 : Int32)), .int (p3 - p3 / (6 : Int32) * (6 : Int32))]) (rest := []) (m_X5_canRead E hw) kv_L_56 vc_6 hrc rfl rfl hl.1 (Nat.le_of_ble_eq_true rfl) ⟨Nat.le_of_ble_eq_true rfl, Nat.le_of_ble_eq_true rfl⟩ ⟨Nat.le_of_ble_eq_true rfl, Nat.le_of_ble_eq_true rfl⟩ dL_reads_21 (fun k16 M17 _ _ ce q9 I hw hce hcv hcl => ?_) (fun v M15 _ _ I hv => ?_)
    rotate_left
    · obtain ⟨v21, rfl, hv21, hw⟩ := hv
      refine W.eq (g2 := F0 m 24 ls [.int v21]) rfl ?_
      refine lv_if_eq (tgt := 31) hx hb dL_reads_24 (by decide) (fun c => ?_) (fun c => ?_)
      · replace hw := hw.1 c
        refine lv_iconst (v := 0) hx hb dL_reads_31 (by decide) ?_
        refine lv_goto (tgt := 91) hx hb dL_reads_32 (by decide) ?_
        exact z_iret C I hr ⟨_, rfl, hw⟩ (Nat.le_of_ble_eq_true rfl) (Nat.le_of_ble_eq_true rfl) dL_reads_91
      · replace hw := hw.2 c
        refine lv_iconst (v := 1) hx hb dL_reads_27 (by decide) ?_
        refine lv_goto (tgt := 91) hx hb dL_reads_28 (by decide) ?_
        exact z_iret C I hr ⟨_, rfl, hw⟩ (Nat.le_of_ble_eq_true rfl) (Nat.le_of_ble_eq_true rfl) dL_reads_91
    · rcases hw.2.2.2 with rfl | rfl | rfl
      · have hw := hw.1 rfl
        refine z_catch C EN htab 1 (by decide) [] (0, 91, 92, 14) [(0, 91, 97, 17), (0, 91, 102, 19)] rfl (fun _ hz => absurd hz List.not_mem_nil) (by decide) (by decide) zw216 zw231 hce hcv hcl ?_
        refine lv_astore (lv' := [(4, .ref q9), (0, .ref p0), (1, .int p1), (2, .int p2), (3, .int p3)]) hx hb dL_reads_92 hl (by decide) rfl (fun ls hl18 => ?_)
        refine lv_ldc (v := -99999) hx hb C.1.2.2.2.1 (z_word C.1 zw442) dL_reads_94 ?_
        exact z_iret C I hr ⟨_, rfl, hw⟩ (Nat.le_of_ble_eq_true rfl) (Nat.le_of_ble_eq_true rfl) dL_reads_96
      · have hw := hw.2.1 rfl
        refine z_catch C EN htab 2 (by decide) [(0, 91, 92, 14)] (0, 91, 97, 17) [(0, 91, 102, 19)] rfl (by intro z hz; simp only [List.mem_cons, List.not_mem_nil, or_false] at hz; rcases hz with rfl <;> first | exact ⟨by decide, 1, by decide, by decide, zw216⟩) (by decide) (by decide) zw217 zw332 hce hcv hcl ?_
        refine lv_astore (lv' := [(4, .ref q9), (0, .ref p0), (1, .int p1), (2, .int p2), (3, .int p3)]) hx hb dL_reads_97 hl (by decide) rfl (fun ls hl19 => ?_)
        refine lv_ldc (v := -99999) hx hb C.1.2.2.2.1 (z_word C.1 zw442) dL_reads_99 ?_
        exact z_iret C I hr ⟨_, rfl, hw⟩ (Nat.le_of_ble_eq_true rfl) (Nat.le_of_ble_eq_true rfl) dL_reads_101
      · have hw := hw.2.2.1 rfl
        refine z_catch C EN htab 3 (by decide) [(0, 91, 92, 14), (0, 91, 97, 17)] (0, 91, 102, 19) [] rfl (by intro z hz; simp only [List.mem_cons, List.not_mem_nil, or_false] at hz; rcases hz with rfl | rfl <;> first | exact ⟨by decide, 1, by decide, by decide, zw216⟩ | exact ⟨by decide, 2, by decide, by decide, zw217⟩) (by decide) (by decide) zw218 zw359 hce hcv hcl ?_
        refine lv_astore (lv' := [(4, .ref q9), (0, .ref p0), (1, .int p1), (2, .int p2), (3, .int p3)]) hx hb dL_reads_102 hl (by decide) rfl (fun ls hl20 => ?_)
        refine lv_ldc (v := -99999) hx hb C.1.2.2.2.1 (z_word C.1 zw442) dL_reads_104 ?_
        exact z_iret C I hr ⟨_, rfl, hw⟩ (Nat.le_of_ble_eq_true rfl) (Nat.le_of_ble_eq_true rfl) dL_reads_106
set_option maxHeartbeats 4000000 in
set_option maxRecDepth 100000 in
theorem m_L_reads_0 {X : zX} {l : Launch} (E : zEnv X l) (EN : zNcs X) {M : zM} {p0 : Nat} {p2 : Int32} {p3 : Int32} {P : Int32 → zM → Prop} {PX : Nat → zM → Prop} (hw : w_L_reads_0 p0 p2 p3 M P) : zCTw X l yL_reads cL_reads 5 (some .int) [(0, 91, 92, 14), (0, 91, 97, 17), (0, 91, 102, 19)] 104 4849 6 36 M [.ref p0, .int (0 : Int32), .int p2, .int p3] (zPi P) PX := by
  refine z_entryW E (by decide) zw628 ?_
  intro p e s m args below meth c C hr htab I
  have hx := C.1.1
  have hb := C.1.2.1
  obtain ⟨ls, he, hl⟩ := z_enter (m := m) (n := 5) (vs := [.ref p0, .int (0 : Int32), .int p2, .int p3]) (l := [(0, .ref p0), (1, .int (0 : Int32)), (2, .int p2), (3, .int p3)]) (Nat.le_of_ble_eq_true rfl) rfl
  rw [he]
  clear he
  unfold w_L_reads_0 at hw
  refine lv_iload_n hx hb dL_reads_0 rfl (lv_at hl 1 rfl) ?_
  refine lv_if_ne (tgt := 35) hx hb dL_reads_1 (by decide) (fun c => absurd c (by decide)) (fun _ => ?_)
  refine lv_aload_n hx hb dL_reads_4 rfl (lv_at hl 0 rfl) ?_
  refine lv_iload_n hx hb dL_reads_5 rfl (lv_at hl 2 rfl) ?_
  refine lv_bipush (v := 6) hx hb dL_reads_6 (by decide) ?_
  refine lv_idiv hx hb dL_reads_8 (by decide) ?_
  refine lv_iload_n hx hb dL_reads_9 rfl (lv_at hl 2 rfl) ?_
  refine lv_bipush (v := 6) hx hb dL_reads_10 (by decide) ?_
  refine lv_irem hx hb dL_reads_12 (by decide) ?_
  refine lv_iload_n hx hb dL_reads_13 rfl (lv_at hl 3 rfl) ?_
  refine lv_bipush (v := 6) hx hb dL_reads_14 (by decide) ?_
  refine lv_idiv hx hb dL_reads_16 (by decide) ?_
  refine lv_iload_n hx hb dL_reads_17 rfl (lv_at hl 3 rfl) ?_
  refine lv_bipush (v := 6) hx hb dL_reads_18 (by decide) ?_
  refine lv_irem hx hb dL_reads_20 (by decide) ?_
  obtain ⟨hrc, hw⟩ := hw
  refine z_callV C I (as := [.int (p2 / (6 : Int32)), .int (p2 - p2 / (6 : Int32) * (6 : Int32)), .int (p3 / (6 : Int32)), .int (p3 - p3 / (6 : Int32) * (6 : Int32))]) (rest := []) (m_X5_canRead E hw) kv_L_56 vc_6 hrc rfl rfl hl.1 (Nat.le_of_ble_eq_true rfl) ⟨Nat.le_of_ble_eq_true rfl, Nat.le_of_ble_eq_true rfl⟩ ⟨Nat.le_of_ble_eq_true rfl, Nat.le_of_ble_eq_true rfl⟩ dL_reads_21 (fun k2 M3 _ _ ce q9 I hw hce hcv hcl => ?_) (fun v M1 _ _ I hv => ?_)
  rotate_left
  · obtain ⟨v7, rfl, hv7, hw⟩ := hv
    refine W.eq (g2 := F0 m 24 ls [.int v7]) rfl ?_
    refine lv_if_eq (tgt := 31) hx hb dL_reads_24 (by decide) (fun c => ?_) (fun c => ?_)
    · replace hw := hw.1 c
      refine lv_iconst (v := 0) hx hb dL_reads_31 (by decide) ?_
      refine lv_goto (tgt := 91) hx hb dL_reads_32 (by decide) ?_
      exact z_iret C I hr ⟨_, rfl, hw⟩ (Nat.le_of_ble_eq_true rfl) (Nat.le_of_ble_eq_true rfl) dL_reads_91
    · replace hw := hw.2 c
      refine lv_iconst (v := 1) hx hb dL_reads_27 (by decide) ?_
      refine lv_goto (tgt := 91) hx hb dL_reads_28 (by decide) ?_
      exact z_iret C I hr ⟨_, rfl, hw⟩ (Nat.le_of_ble_eq_true rfl) (Nat.le_of_ble_eq_true rfl) dL_reads_91
  · rcases hw.2.2.2 with rfl | rfl | rfl
    · have hw := hw.1 rfl
      refine z_catch C EN htab 1 (by decide) [] (0, 91, 92, 14) [(0, 91, 97, 17), (0, 91, 102, 19)] rfl (fun _ hz => absurd hz List.not_mem_nil) (by decide) (by decide) zw216 zw231 hce hcv hcl ?_
      refine lv_astore (lv' := [(4, .ref q9), (0, .ref p0), (1, .int (0 : Int32)), (2, .int p2), (3, .int p3)]) hx hb dL_reads_92 hl (by decide) rfl (fun ls hl4 => ?_)
      refine lv_ldc (v := -99999) hx hb C.1.2.2.2.1 (z_word C.1 zw442) dL_reads_94 ?_
      exact z_iret C I hr ⟨_, rfl, hw⟩ (Nat.le_of_ble_eq_true rfl) (Nat.le_of_ble_eq_true rfl) dL_reads_96
    · have hw := hw.2.1 rfl
      refine z_catch C EN htab 2 (by decide) [(0, 91, 92, 14)] (0, 91, 97, 17) [(0, 91, 102, 19)] rfl (by intro z hz; simp only [List.mem_cons, List.not_mem_nil, or_false] at hz; rcases hz with rfl <;> first | exact ⟨by decide, 1, by decide, by decide, zw216⟩) (by decide) (by decide) zw217 zw332 hce hcv hcl ?_
      refine lv_astore (lv' := [(4, .ref q9), (0, .ref p0), (1, .int (0 : Int32)), (2, .int p2), (3, .int p3)]) hx hb dL_reads_97 hl (by decide) rfl (fun ls hl5 => ?_)
      refine lv_ldc (v := -99999) hx hb C.1.2.2.2.1 (z_word C.1 zw442) dL_reads_99 ?_
      exact z_iret C I hr ⟨_, rfl, hw⟩ (Nat.le_of_ble_eq_true rfl) (Nat.le_of_ble_eq_true rfl) dL_reads_101
    · have hw := hw.2.2.1 rfl
      refine z_catch C EN htab 3 (by decide) [(0, 91, 92, 14), (0, 91, 97, 17)] (0, 91, 102, 19) [] rfl (by intro z hz; simp only [List.mem_cons, List.not_mem_nil, or_false] at hz; rcases hz with rfl | rfl <;> first | exact ⟨by decide, 1, by decide, by decide, zw216⟩ | exact ⟨by decide, 2, by decide, by decide, zw217⟩) (by decide) (by decide) zw218 zw359 hce hcv hcl ?_
      refine lv_astore (lv' := [(4, .ref q9), (0, .ref p0), (1, .int (0 : Int32)), (2, .int p2), (3, .int p3)]) hx hb dL_reads_102 hl (by decide) rfl (fun ls hl6 => ?_)
      refine lv_ldc (v := -99999) hx hb C.1.2.2.2.1 (z_word C.1 zw442) dL_reads_104 ?_
      exact z_iret C I hr ⟨_, rfl, hw⟩ (Nat.le_of_ble_eq_true rfl) (Nat.le_of_ble_eq_true rfl) dL_reads_106
set_option maxHeartbeats 4000000 in
set_option maxRecDepth 100000 in
theorem m_L_reads_1 {X : zX} {l : Launch} (E : zEnv X l) (EN : zNcs X) {M : zM} {p0 : Nat} {p2 : Int32} {p3 : Int32} {P : Int32 → zM → Prop} {PX : Nat → zM → Prop} (hw : w_L_reads_1 p0 p2 p3 M P) : zCTw X l yL_reads cL_reads 5 (some .int) [(0, 91, 92, 14), (0, 91, 97, 17), (0, 91, 102, 19)] 104 4854 7 42 M [.ref p0, .int (1 : Int32), .int p2, .int p3] (zPi P) PX := by
  refine z_entryW E (by decide) zw628 ?_
  intro p e s m args below meth c C hr htab I
  have hx := C.1.1
  have hb := C.1.2.1
  obtain ⟨ls, he, hl⟩ := z_enter (m := m) (n := 5) (vs := [.ref p0, .int (1 : Int32), .int p2, .int p3]) (l := [(0, .ref p0), (1, .int (1 : Int32)), (2, .int p2), (3, .int p3)]) (Nat.le_of_ble_eq_true rfl) rfl
  rw [he]
  clear he
  unfold w_L_reads_1 at hw
  refine lv_iload_n hx hb dL_reads_0 rfl (lv_at hl 1 rfl) ?_
  refine lv_if_ne (tgt := 35) hx hb dL_reads_1 (by decide) (fun _ => ?_) (fun c => absurd c (by decide))
  refine lv_iload_n hx hb dL_reads_35 rfl (lv_at hl 1 rfl) ?_
  refine lv_iconst (v := 1) hx hb dL_reads_36 (by decide) ?_
  refine lv_icmp_ne (tgt := 71) hx hb dL_reads_37 (by decide) (fun c => absurd c (by decide)) (fun _ => ?_)
  refine lv_aload_n hx hb dL_reads_40 rfl (lv_at hl 0 rfl) ?_
  refine lv_iload_n hx hb dL_reads_41 rfl (lv_at hl 2 rfl) ?_
  refine lv_bipush (v := 6) hx hb dL_reads_42 (by decide) ?_
  refine lv_idiv hx hb dL_reads_44 (by decide) ?_
  refine lv_iload_n hx hb dL_reads_45 rfl (lv_at hl 2 rfl) ?_
  refine lv_bipush (v := 6) hx hb dL_reads_46 (by decide) ?_
  refine lv_irem hx hb dL_reads_48 (by decide) ?_
  refine lv_iload_n hx hb dL_reads_49 rfl (lv_at hl 3 rfl) ?_
  refine lv_bipush (v := 6) hx hb dL_reads_50 (by decide) ?_
  refine lv_idiv hx hb dL_reads_52 (by decide) ?_
  refine lv_iload_n hx hb dL_reads_53 rfl (lv_at hl 3 rfl) ?_
  refine lv_bipush (v := 6) hx hb dL_reads_54 (by decide) ?_
  refine lv_irem hx hb dL_reads_56 (by decide) ?_
  obtain ⟨hrc, hw⟩ := hw
  refine z_callV C I (as := [.int (p2 / (6 : Int32)), .int (p2 - p2 / (6 : Int32) * (6 : Int32)), .int (p3 / (6 : Int32)), .int (p3 - p3 / (6 : Int32) * (6 : Int32))]) (rest := []) (m_X5_readsAll E hw) kv_L_60 vc_6 hrc rfl rfl hl.1 (Nat.le_of_ble_eq_true rfl) ⟨Nat.le_of_ble_eq_true rfl, Nat.le_of_ble_eq_true rfl⟩ ⟨Nat.le_of_ble_eq_true rfl, Nat.le_of_ble_eq_true rfl⟩ dL_reads_57 (fun k2 M3 _ _ ce q9 I hw hce hcv hcl => ?_) (fun v M1 _ _ I hv => ?_)
  rotate_left
  · obtain ⟨v7, rfl, hv7, hw⟩ := hv
    refine W.eq (g2 := F0 m 60 ls [.int v7]) rfl ?_
    refine lv_if_eq (tgt := 67) hx hb dL_reads_60 (by decide) (fun c => ?_) (fun c => ?_)
    · replace hw := hw.1 c
      refine lv_iconst (v := 0) hx hb dL_reads_67 (by decide) ?_
      refine lv_goto (tgt := 91) hx hb dL_reads_68 (by decide) ?_
      exact z_iret C I hr ⟨_, rfl, hw⟩ (Nat.le_of_ble_eq_true rfl) (Nat.le_of_ble_eq_true rfl) dL_reads_91
    · replace hw := hw.2 c
      refine lv_iconst (v := 1) hx hb dL_reads_63 (by decide) ?_
      refine lv_goto (tgt := 91) hx hb dL_reads_64 (by decide) ?_
      exact z_iret C I hr ⟨_, rfl, hw⟩ (Nat.le_of_ble_eq_true rfl) (Nat.le_of_ble_eq_true rfl) dL_reads_91
  · rcases hw.2.2.2 with rfl | rfl | rfl
    · have hw := hw.1 rfl
      refine z_catch C EN htab 1 (by decide) [] (0, 91, 92, 14) [(0, 91, 97, 17), (0, 91, 102, 19)] rfl (fun _ hz => absurd hz List.not_mem_nil) (by decide) (by decide) zw216 zw231 hce hcv hcl ?_
      refine lv_astore (lv' := [(4, .ref q9), (0, .ref p0), (1, .int (1 : Int32)), (2, .int p2), (3, .int p3)]) hx hb dL_reads_92 hl (by decide) rfl (fun ls hl4 => ?_)
      refine lv_ldc (v := -99999) hx hb C.1.2.2.2.1 (z_word C.1 zw442) dL_reads_94 ?_
      exact z_iret C I hr ⟨_, rfl, hw⟩ (Nat.le_of_ble_eq_true rfl) (Nat.le_of_ble_eq_true rfl) dL_reads_96
    · have hw := hw.2.1 rfl
      refine z_catch C EN htab 2 (by decide) [(0, 91, 92, 14)] (0, 91, 97, 17) [(0, 91, 102, 19)] rfl (by intro z hz; simp only [List.mem_cons, List.not_mem_nil, or_false] at hz; rcases hz with rfl <;> first | exact ⟨by decide, 1, by decide, by decide, zw216⟩) (by decide) (by decide) zw217 zw332 hce hcv hcl ?_
      refine lv_astore (lv' := [(4, .ref q9), (0, .ref p0), (1, .int (1 : Int32)), (2, .int p2), (3, .int p3)]) hx hb dL_reads_97 hl (by decide) rfl (fun ls hl5 => ?_)
      refine lv_ldc (v := -99999) hx hb C.1.2.2.2.1 (z_word C.1 zw442) dL_reads_99 ?_
      exact z_iret C I hr ⟨_, rfl, hw⟩ (Nat.le_of_ble_eq_true rfl) (Nat.le_of_ble_eq_true rfl) dL_reads_101
    · have hw := hw.2.2.1 rfl
      refine z_catch C EN htab 3 (by decide) [(0, 91, 92, 14), (0, 91, 97, 17)] (0, 91, 102, 19) [] rfl (by intro z hz; simp only [List.mem_cons, List.not_mem_nil, or_false] at hz; rcases hz with rfl | rfl <;> first | exact ⟨by decide, 1, by decide, by decide, zw216⟩ | exact ⟨by decide, 2, by decide, by decide, zw217⟩) (by decide) (by decide) zw218 zw359 hce hcv hcl ?_
      refine lv_astore (lv' := [(4, .ref q9), (0, .ref p0), (1, .int (1 : Int32)), (2, .int p2), (3, .int p3)]) hx hb dL_reads_102 hl (by decide) rfl (fun ls hl6 => ?_)
      refine lv_ldc (v := -99999) hx hb C.1.2.2.2.1 (z_word C.1 zw442) dL_reads_104 ?_
      exact z_iret C I hr ⟨_, rfl, hw⟩ (Nat.le_of_ble_eq_true rfl) (Nat.le_of_ble_eq_true rfl) dL_reads_106
set_option maxHeartbeats 4000000 in
set_option maxRecDepth 100000 in
theorem m_L_reads_2 {X : zX} {l : Launch} (E : zEnv X l) (EN : zNcs X) {M : zM} {p0 : Nat} {p2 : Int32} {p3 : Int32} {P : Int32 → zM → Prop} {PX : Nat → zM → Prop} (hw : w_L_reads_2 p0 p2 p3 M P) : zCTw X l yL_reads cL_reads 5 (some .int) [(0, 91, 92, 14), (0, 91, 97, 17), (0, 91, 102, 19)] 104 4853 7 42 M [.ref p0, .int (2 : Int32), .int p2, .int p3] (zPi P) PX := by
  refine z_entryW E (by decide) zw628 ?_
  intro p e s m args below meth c C hr htab I
  have hx := C.1.1
  have hb := C.1.2.1
  obtain ⟨ls, he, hl⟩ := z_enter (m := m) (n := 5) (vs := [.ref p0, .int (2 : Int32), .int p2, .int p3]) (l := [(0, .ref p0), (1, .int (2 : Int32)), (2, .int p2), (3, .int p3)]) (Nat.le_of_ble_eq_true rfl) rfl
  rw [he]
  clear he
  unfold w_L_reads_2 at hw
  refine lv_iload_n hx hb dL_reads_0 rfl (lv_at hl 1 rfl) ?_
  refine lv_if_ne (tgt := 35) hx hb dL_reads_1 (by decide) (fun _ => ?_) (fun c => absurd c (by decide))
  refine lv_iload_n hx hb dL_reads_35 rfl (lv_at hl 1 rfl) ?_
  refine lv_iconst (v := 1) hx hb dL_reads_36 (by decide) ?_
  refine lv_icmp_ne (tgt := 71) hx hb dL_reads_37 (by decide) (fun _ => ?_) (fun c => absurd c (by decide))
  refine lv_aload_n hx hb dL_reads_71 rfl (lv_at hl 0 rfl) ?_
  refine lv_iload_n hx hb dL_reads_72 rfl (lv_at hl 2 rfl) ?_
  refine lv_bipush (v := 6) hx hb dL_reads_73 (by decide) ?_
  refine lv_idiv hx hb dL_reads_75 (by decide) ?_
  refine lv_iload_n hx hb dL_reads_76 rfl (lv_at hl 2 rfl) ?_
  refine lv_bipush (v := 6) hx hb dL_reads_77 (by decide) ?_
  refine lv_irem hx hb dL_reads_79 (by decide) ?_
  refine lv_iload_n hx hb dL_reads_80 rfl (lv_at hl 3 rfl) ?_
  refine lv_bipush (v := 6) hx hb dL_reads_81 (by decide) ?_
  refine lv_idiv hx hb dL_reads_83 (by decide) ?_
  refine lv_iload_n hx hb dL_reads_84 rfl (lv_at hl 3 rfl) ?_
  refine lv_bipush (v := 6) hx hb dL_reads_85 (by decide) ?_
  refine lv_irem hx hb dL_reads_87 (by decide) ?_
  obtain ⟨hrc, hw⟩ := hw
  refine z_callV C I (as := [.int (p2 / (6 : Int32)), .int (p2 - p2 / (6 : Int32) * (6 : Int32)), .int (p3 / (6 : Int32)), .int (p3 - p3 / (6 : Int32) * (6 : Int32))]) (rest := []) (m_X5_read E hw) kv_L_63 vc_6 hrc rfl rfl hl.1 (Nat.le_of_ble_eq_true rfl) ⟨Nat.le_of_ble_eq_true rfl, Nat.le_of_ble_eq_true rfl⟩ ⟨Nat.le_of_ble_eq_true rfl, Nat.le_of_ble_eq_true rfl⟩ dL_reads_88 (fun k2 M3 _ _ ce q9 I hw hce hcv hcl => ?_) (fun v M1 _ _ I hv => ?_)
  rotate_left
  · obtain ⟨v7, rfl, hw⟩ := hv
    refine W.eq (g2 := F0 m 91 ls [.int v7]) rfl ?_
    exact z_iret C I hr ⟨_, rfl, hw⟩ (Nat.le_of_ble_eq_true rfl) (Nat.le_of_ble_eq_true rfl) dL_reads_91
  · rcases hw.2.2.2 with rfl | rfl | rfl
    · have hw := hw.1 rfl
      refine z_catch C EN htab 1 (by decide) [] (0, 91, 92, 14) [(0, 91, 97, 17), (0, 91, 102, 19)] rfl (fun _ hz => absurd hz List.not_mem_nil) (by decide) (by decide) zw216 zw231 hce hcv hcl ?_
      refine lv_astore (lv' := [(4, .ref q9), (0, .ref p0), (1, .int (2 : Int32)), (2, .int p2), (3, .int p3)]) hx hb dL_reads_92 hl (by decide) rfl (fun ls hl4 => ?_)
      refine lv_ldc (v := -99999) hx hb C.1.2.2.2.1 (z_word C.1 zw442) dL_reads_94 ?_
      exact z_iret C I hr ⟨_, rfl, hw⟩ (Nat.le_of_ble_eq_true rfl) (Nat.le_of_ble_eq_true rfl) dL_reads_96
    · have hw := hw.2.1 rfl
      refine z_catch C EN htab 2 (by decide) [(0, 91, 92, 14)] (0, 91, 97, 17) [(0, 91, 102, 19)] rfl (by intro z hz; simp only [List.mem_cons, List.not_mem_nil, or_false] at hz; rcases hz with rfl <;> first | exact ⟨by decide, 1, by decide, by decide, zw216⟩) (by decide) (by decide) zw217 zw332 hce hcv hcl ?_
      refine lv_astore (lv' := [(4, .ref q9), (0, .ref p0), (1, .int (2 : Int32)), (2, .int p2), (3, .int p3)]) hx hb dL_reads_97 hl (by decide) rfl (fun ls hl5 => ?_)
      refine lv_ldc (v := -99999) hx hb C.1.2.2.2.1 (z_word C.1 zw442) dL_reads_99 ?_
      exact z_iret C I hr ⟨_, rfl, hw⟩ (Nat.le_of_ble_eq_true rfl) (Nat.le_of_ble_eq_true rfl) dL_reads_101
    · have hw := hw.2.2.1 rfl
      refine z_catch C EN htab 3 (by decide) [(0, 91, 92, 14), (0, 91, 97, 17)] (0, 91, 102, 19) [] rfl (by intro z hz; simp only [List.mem_cons, List.not_mem_nil, or_false] at hz; rcases hz with rfl | rfl <;> first | exact ⟨by decide, 1, by decide, by decide, zw216⟩ | exact ⟨by decide, 2, by decide, by decide, zw217⟩) (by decide) (by decide) zw218 zw359 hce hcv hcl ?_
      refine lv_astore (lv' := [(4, .ref q9), (0, .ref p0), (1, .int (2 : Int32)), (2, .int p2), (3, .int p3)]) hx hb dL_reads_102 hl (by decide) rfl (fun ls hl6 => ?_)
      refine lv_ldc (v := -99999) hx hb C.1.2.2.2.1 (z_word C.1 zw442) dL_reads_104 ?_
      exact z_iret C I hr ⟨_, rfl, hw⟩ (Nat.le_of_ble_eq_true rfl) (Nat.le_of_ble_eq_true rfl) dL_reads_106
