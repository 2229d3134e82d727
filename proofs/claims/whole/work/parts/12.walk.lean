set_option maxHeartbeats 4000000 in
set_option maxRecDepth 100000 in
theorem m_X1_count {X : zX} {l : Launch} (E : zEnv X l) {M : zM} {o : Nat} {P : Int32 → zM → Prop} {PX : Nat → zM → Prop} (hw : w_X1_count o M P) : zCT X l yX1_count cX1_count 1 (some .int) 0 0 0 0 M [.ref o] (zPi P) PX := by
  refine z_entry E (by decide) ?_
  intro p e s m args below meth c C hr htab I
  have hx := C.1.1
  have hb := C.1.2.1
  obtain ⟨ls, he, hl⟩ := z_enter (m := m) (n := 1) (vs := [.ref o]) (l := [(0, .ref o)]) (Nat.le_of_ble_eq_true rfl) rfl
  rw [he]
  clear he
  unfold w_X1_count at hw
  refine lv_aload_n hx hb dX1_count_0 rfl (lv_at hl 0 rfl) ?_
  refine z_geti C I fl_X1_15 hw dX1_count_1 (fun v1 hw => ?_)
  exact z_iret C I hr ⟨_, rfl, hw⟩ (Nat.le_of_ble_eq_true rfl) (Nat.le_of_ble_eq_true rfl) dX1_count_4
set_option maxHeartbeats 4000000 in
set_option maxRecDepth 100000 in
theorem m_X1_add {X : zX} {l : Launch} (E : zEnv X l) {M : zM} {o : Nat} {p0 : Int32} {P : zM → Prop} {PX : Nat → zM → Prop} (hw : w_X1_add o p0 M P) : zCT X l yX1_add cX1_add 2 none 0 0 0 0 M [.ref o, .int p0] (zPv P) PX := by
  refine z_entry E (by decide) ?_
  intro p e s m args below meth c C hr htab I
  have hx := C.1.1
  have hb := C.1.2.1
  obtain ⟨ls, he, hl⟩ := z_enter (m := m) (n := 2) (vs := [.ref o, .int p0]) (l := [(0, .ref o), (1, .int p0)]) (Nat.le_of_ble_eq_true rfl) rfl
  rw [he]
  clear he
  unfold w_X1_add at hw
  refine lv_aload_n hx hb dX1_add_0 rfl (lv_at hl 0 rfl) ?_
  refine z_geti C I fl_X1_15 hw dX1_add_1 (fun v1 hw => ?_)
  refine lv_if_lt (tgt := 39) hx hb dX1_add_4 (by decide) (fun c => ?_) (fun c => ?_)
  · have hw := hw.1 c
    exact z_vret C I hr ⟨rfl, hw⟩ (Nat.le_of_ble_eq_true rfl) (Nat.le_of_ble_eq_true rfl) dX1_add_39
  · have hw := hw.2 c
    refine lv_aload_n hx hb dX1_add_7 rfl (lv_at hl 0 rfl) ?_
    refine z_geti C I fl_X1_15 hw dX1_add_8 (fun v2 hw => ?_)
    refine lv_aload_n hx hb dX1_add_11 rfl (lv_at hl 0 rfl) ?_
    refine z_getr C I fl_X1_9 hw dX1_add_12 (fun v3 hw => ?_)
    refine z_alen C I hw dX1_add_15 (fun v4 hw => ?_)
    refine lv_icmp_ge (tgt := 39) hx hb dX1_add_16 (by decide) (fun c => ?_) (fun c => ?_)
    · have hw := hw.1 c
      exact z_vret C I hr ⟨rfl, hw⟩ (Nat.le_of_ble_eq_true rfl) (Nat.le_of_ble_eq_true rfl) dX1_add_39
    · have hw := hw.2 c
      refine lv_aload_n hx hb dX1_add_19 rfl (lv_at hl 0 rfl) ?_
      refine z_getr C I fl_X1_9 hw dX1_add_20 (fun v5 hw => ?_)
      refine lv_aload_n hx hb dX1_add_23 rfl (lv_at hl 0 rfl) ?_
      refine z_geti C I fl_X1_15 hw dX1_add_24 (fun v6 hw => ?_)
      refine lv_iload_n hx hb dX1_add_27 rfl (lv_at hl 1 rfl) ?_
      refine z_iast C I hw dX1_add_28 (fun M7 _ _ I hw => ?_)
      refine lv_aload_n hx hb dX1_add_29 rfl (lv_at hl 0 rfl) ?_
      refine lv_dup hx hb dX1_add_30 rfl ?_
      refine z_geti C I fl_X1_15 hw dX1_add_31 (fun v8 hw => ?_)
      refine lv_iconst (v := 1) hx hb dX1_add_34 (by decide) ?_
      refine lv_iadd hx hb dX1_add_35 ?_
      refine z_put C I fl_X1_15 rfl (v := .int (v8 + (1 : Int32))) rfl rfl hw dX1_add_36 (fun M9 _ _ I hw => ?_)
      exact z_vret C I hr ⟨rfl, hw⟩ (Nat.le_of_ble_eq_true rfl) (Nat.le_of_ble_eq_true rfl) dX1_add_39
set_option maxHeartbeats 4000000 in
set_option maxRecDepth 100000 in
theorem m_X1_at {X : zX} {l : Launch} (E : zEnv X l) {M : zM} {o : Nat} {p0 : Int32} {P : Int32 → zM → Prop} {PX : Nat → zM → Prop} (hw : w_X1_at o p0 M P) : zCT X l yX1_at cX1_at 2 (some .int) 0 0 0 0 M [.ref o, .int p0] (zPi P) PX := by
  refine z_entry E (by decide) ?_
  intro p e s m args below meth c C hr htab I
  have hx := C.1.1
  have hb := C.1.2.1
  obtain ⟨ls, he, hl⟩ := z_enter (m := m) (n := 2) (vs := [.ref o, .int p0]) (l := [(0, .ref o), (1, .int p0)]) (Nat.le_of_ble_eq_true rfl) rfl
  rw [he]
  clear he
  unfold w_X1_at at hw
  have hb_21 : ∀ (M : zM) (H : Heap) (locs : List Loc) (ls : Array Slot), zWk X s M H locs → lv_has ls 2 [] → w_X1_at_21 o p0 P M → W p l e (zRm 0 0 0 0) s m args below meth c H locs 0 0 (vx_MQ below (zQc X (zPi P)) (zXc X PX) args s 0 0 (zBase X)) (F0 m 21 ls []) := by
    intro M H locs ls I hl hw
    unfold w_X1_at_21 at hw
    refine lv_iconst (v := 0) hx hb dX1_at_21 (by decide) ?_
    refine lv_goto (tgt := 31) hx hb dX1_at_22 (by decide) ?_
    exact z_iret C I hr ⟨_, rfl, hw⟩ (Nat.le_of_ble_eq_true rfl) (Nat.le_of_ble_eq_true rfl) dX1_at_31
  refine lv_iload_n hx hb dX1_at_0 rfl (lv_at hl 1 rfl) ?_
  refine lv_if_lt (tgt := 21) hx hb dX1_at_1 (by decide) (fun c => ?_) (fun c => ?_)
  · have hw := hw.1 c
    refine W.widen (k := 0) (n := 0) (Nat.le_of_ble_eq_true rfl) (Nat.le_of_ble_eq_true rfl) ?_
    exact hb_21 _ _ _ ls I (lv_sub hl [] rfl) hw
  · have hw := hw.2 c
    refine lv_iload_n hx hb dX1_at_4 rfl (lv_at hl 1 rfl) ?_
    refine lv_aload_n hx hb dX1_at_5 rfl (lv_at hl 0 rfl) ?_
    refine z_geti C I fl_X1_15 hw dX1_at_6 (fun v1 hw => ?_)
    refine lv_icmp_ge (tgt := 21) hx hb dX1_at_9 (by decide) (fun c => ?_) (fun c => ?_)
    · have hw := hw.1 c
      refine W.widen (k := 0) (n := 0) (Nat.le_of_ble_eq_true rfl) (Nat.le_of_ble_eq_true rfl) ?_
      exact hb_21 _ _ _ ls I (lv_sub hl [] rfl) hw
    · have hw := hw.2 c
      refine lv_iload_n hx hb dX1_at_12 rfl (lv_at hl 1 rfl) ?_
      refine lv_aload_n hx hb dX1_at_13 rfl (lv_at hl 0 rfl) ?_
      refine z_getr C I fl_X1_9 hw dX1_at_14 (fun v2 hw => ?_)
      refine z_alen C I hw dX1_at_17 (fun v3 hw => ?_)
      refine lv_icmp_lt (tgt := 25) hx hb dX1_at_18 (by decide) (fun c => ?_) (fun c => ?_)
      · have hw := hw.1 c
        refine lv_aload_n hx hb dX1_at_25 rfl (lv_at hl 0 rfl) ?_
        refine z_getr C I fl_X1_9 hw dX1_at_26 (fun v4 hw => ?_)
        refine lv_iload_n hx hb dX1_at_29 rfl (lv_at hl 1 rfl) ?_
        refine z_iald C I hw dX1_at_30 (fun v5 hw => ?_)
        exact z_iret C I hr ⟨_, rfl, hw⟩ (Nat.le_of_ble_eq_true rfl) (Nat.le_of_ble_eq_true rfl) dX1_at_31
      · have hw := hw.2 c
        refine W.widen (k := 0) (n := 0) (Nat.le_of_ble_eq_true rfl) (Nat.le_of_ble_eq_true rfl) ?_
        exact hb_21 _ _ _ ls I (lv_sub hl [] rfl) hw
set_option maxHeartbeats 4000000 in
set_option maxRecDepth 100000 in
theorem m_X1_addAll {X : zX} {l : Launch} (E : zEnv X l) {M : zM} {o : Nat} {p0 : Nat} {P : zM → Prop} {PX : Nat → zM → Prop} (hw : w_X1_addAll o p0 M P) : zCT X l yX1_addAll cX1_addAll 3 none 1 21 0 0 M [.ref o, .ref p0] (zPv P) PX := by
  refine z_entry E (by decide) ?_
  intro p e s m args below meth c C hr htab I
  have hx := C.1.1
  have hb := C.1.2.1
  obtain ⟨ls, he, hl⟩ := z_enter (m := m) (n := 3) (vs := [.ref o, .ref p0]) (l := [(0, .ref o), (1, .ref p0)]) (Nat.le_of_ble_eq_true rfl) rfl
  rw [he]
  clear he
  unfold w_X1_addAll at hw
  have hb_2 : ∀ (n : Nat) (x2 : Int32) (M : zM) (H : Heap) (locs : List Loc) (ls : Array Slot), zWk X s M H locs → lv_has ls 3 [(0, .ref o), (1, .ref p0), (2, .int x2)] → w_X1_addAll_2 o p0 P n x2 M → W p l e (zRm 1 21 0 0) s m args below meth c H locs 0 0 (vx_MQ below (zQc X (zPv P)) (zXc X PX) args s 0 0 (zBase X)) (F0 m 2 ls []) := by
    intro n
    induction n with
    | zero => intro _ M H locs ls I hl hw; exact hw.elim
    | succ n ih =>
      intro x2 M H locs ls I hl hw
      unfold w_X1_addAll_2 at hw
      refine lv_iload_n hx hb dX1_addAll_2 rfl (lv_at hl 2 rfl) ?_
      refine lv_aload_n hx hb dX1_addAll_3 rfl (lv_at hl 1 rfl) ?_
      obtain ⟨hrc, hw⟩ := hw
      refine z_callV C I (as := []) (rest := [.int x2]) (m_X1_count E hw) kv_X1_19 vc_2 hrc rfl rfl hl.1 (Nat.le_of_ble_eq_true rfl) ⟨Nat.le_of_ble_eq_true rfl, Nat.le_of_ble_eq_true rfl⟩ ⟨Nat.le_of_ble_eq_true rfl, Nat.le_of_ble_eq_true rfl⟩ dX1_addAll_4 (z_prop C htab (Nat.le_of_ble_eq_true rfl) (Nat.le_of_ble_eq_true rfl)) (fun v M1 _ _ I hv => ?_)
      obtain ⟨v2, rfl, hw⟩ := hv
      refine W.eq (g2 := F0 m 7 ls [.int v2, .int x2]) rfl ?_
      refine lv_icmp_ge (tgt := 25) hx hb dX1_addAll_7 (by decide) (fun c => ?_) (fun c => ?_)
      · have hw := hw.1 c
        exact z_vret C I hr ⟨rfl, hw⟩ (Nat.le_of_ble_eq_true rfl) (Nat.le_of_ble_eq_true rfl) dX1_addAll_25
      · have hw := hw.2 c
        refine lv_aload_n hx hb dX1_addAll_10 rfl (lv_at hl 0 rfl) ?_
        refine lv_aload_n hx hb dX1_addAll_11 rfl (lv_at hl 1 rfl) ?_
        refine lv_iload_n hx hb dX1_addAll_12 rfl (lv_at hl 2 rfl) ?_
        obtain ⟨hrc, hw⟩ := hw
        refine z_callV C I (as := [.int x2]) (rest := [.ref o]) (m_X1_at E hw) kv_X1_23 vc_2 hrc rfl rfl hl.1 (Nat.le_of_ble_eq_true rfl) ⟨Nat.le_of_ble_eq_true rfl, Nat.le_of_ble_eq_true rfl⟩ ⟨Nat.le_of_ble_eq_true rfl, Nat.le_of_ble_eq_true rfl⟩ dX1_addAll_13 (z_prop C htab (Nat.le_of_ble_eq_true rfl) (Nat.le_of_ble_eq_true rfl)) (fun v M3 _ _ I hv => ?_)
        obtain ⟨v4, rfl, hw⟩ := hv
        refine W.eq (g2 := F0 m 16 ls [.int v4, .ref o]) rfl ?_
        obtain ⟨hrc, hw⟩ := hw
        refine z_callV C I (as := [.int v4]) (rest := []) (m_X1_add E hw) kv_X1_27 vc_2 hrc rfl rfl hl.1 (Nat.le_of_ble_eq_true rfl) ⟨Nat.le_of_ble_eq_true rfl, Nat.le_of_ble_eq_true rfl⟩ ⟨Nat.le_of_ble_eq_true rfl, Nat.le_of_ble_eq_true rfl⟩ dX1_addAll_16 (z_prop C htab (Nat.le_of_ble_eq_true rfl) (Nat.le_of_ble_eq_true rfl)) (fun v M5 _ _ I hv => ?_)
        obtain ⟨rfl, hw⟩ := hv
        refine W.eq (g2 := F0 m 19 ls []) rfl ?_
        refine lv_iinc (v := (x2 + 1)) (lv' := [(2, .int (x2 + 1)), (0, .ref o), (1, .ref p0)]) hx hb dX1_addAll_19 hl (k := 2) rfl (by rfl) (by decide) rfl (fun ls hl => ?_)
        refine lv_goto (tgt := 2) hx hb dX1_addAll_22 (by decide) ?_
        refine W.widen (k := 0) (n := 0) (Nat.le_of_ble_eq_true rfl) (Nat.le_of_ble_eq_true rfl) ?_
        exact ih (x2 + 1) _ _ _ ls I (lv_sub hl [1, 2, 0] rfl) hw
  refine lv_iconst (v := 0) hx hb dX1_addAll_0 (by decide) ?_
  refine lv_istore_n (lv' := [(2, .int (0 : Int32)), (0, .ref o), (1, .ref p0)]) hx hb dX1_addAll_1 rfl hl (by decide) rfl (fun ls hl => ?_)
  obtain ⟨nn, hw⟩ := hw
  refine W.widen (k := 0) (n := 0) (Nat.le_of_ble_eq_true rfl) (Nat.le_of_ble_eq_true rfl) ?_
  exact hb_2 nn (0 : Int32) _ _ _ ls I (lv_sub hl [1, 2, 0] rfl) hw
set_option maxHeartbeats 4000000 in
set_option maxRecDepth 100000 in
theorem m_X1_empty {X : zX} {l : Launch} (E : zEnv X l) {M : zM} {o : Nat} {P : zM → Prop} {PX : Nat → zM → Prop} (hw : w_X1_empty o M P) : zCT X l yX1_empty cX1_empty 1 none 0 0 0 0 M [.ref o] (zPv P) PX := by
  refine z_entry E (by decide) ?_
  intro p e s m args below meth c C hr htab I
  have hx := C.1.1
  have hb := C.1.2.1
  obtain ⟨ls, he, hl⟩ := z_enter (m := m) (n := 1) (vs := [.ref o]) (l := [(0, .ref o)]) (Nat.le_of_ble_eq_true rfl) rfl
  rw [he]
  clear he
  unfold w_X1_empty at hw
  refine lv_aload_n hx hb dX1_empty_0 rfl (lv_at hl 0 rfl) ?_
  refine lv_iconst (v := 0) hx hb dX1_empty_1 (by decide) ?_
  refine z_put C I fl_X1_15 rfl (v := .int (0 : Int32)) rfl rfl hw dX1_empty_2 (fun M1 _ _ I hw => ?_)
  exact z_vret C I hr ⟨rfl, hw⟩ (Nat.le_of_ble_eq_true rfl) (Nat.le_of_ble_eq_true rfl) dX1_empty_5
set_option maxHeartbeats 4000000 in
set_option maxRecDepth 100000 in
theorem m_X6_thrown {X : zX} {l : Launch} (E : zEnv X l) {M : zM} {o : Nat} {P : Int32 → zM → Prop} {PX : Nat → zM → Prop} (hw : w_X6_thrown o M P) : zCT X l yX6_thrown cX6_thrown 1 (some .int) 0 0 0 0 M [.ref o] (zPi P) PX := by
  refine z_entry E (by decide) ?_
  intro p e s m args below meth c C hr htab I
  have hx := C.1.1
  have hb := C.1.2.1
  obtain ⟨ls, he, hl⟩ := z_enter (m := m) (n := 1) (vs := [.ref o]) (l := [(0, .ref o)]) (Nat.le_of_ble_eq_true rfl) rfl
  rw [he]
  clear he
  unfold w_X6_thrown at hw
  refine lv_aload_n hx hb dX6_thrown_0 rfl (lv_at hl 0 rfl) ?_
  refine z_geti C I fl_X6_71 hw dX6_thrown_1 (fun v1 hw => ?_)
  exact z_iret C I hr ⟨_, rfl, hw⟩ (Nat.le_of_ble_eq_true rfl) (Nat.le_of_ble_eq_true rfl) dX6_thrown_4
set_option maxHeartbeats 4000000 in
set_option maxRecDepth 100000 in
theorem m_X6_holds {X : zX} {l : Launch} (E : zEnv X l) {M : zM} {o : Nat} {p0 : Int32} {P : Int32 → zM → Prop} {PX : Nat → zM → Prop} (hw : w_X6_holds o p0 M P) : zCT X l yX6_holds cX6_holds 2 (some .boolean) 0 0 0 0 M [.ref o, .int p0] (zPz P) PX := by
  refine z_entry E (by decide) ?_
  intro p e s m args below meth c C hr htab I
  have hx := C.1.1
  have hb := C.1.2.1
  obtain ⟨ls, he, hl⟩ := z_enter (m := m) (n := 2) (vs := [.ref o, .int p0]) (l := [(0, .ref o), (1, .int p0)]) (Nat.le_of_ble_eq_true rfl) rfl
  rw [he]
  clear he
  unfold w_X6_holds at hw
  refine lv_aload_n hx hb dX6_holds_0 rfl (lv_at hl 0 rfl) ?_
  refine lv_iload_n hx hb dX6_holds_1 rfl (lv_at hl 1 rfl) ?_
  refine z_put C I fl_X6_71 rfl (v := .int p0) rfl rfl hw dX6_holds_2 (fun M1 _ _ I hw => ?_)
  refine lv_iload_n hx hb dX6_holds_5 rfl (lv_at hl 1 rfl) ?_
  refine lv_if_ne (tgt := 13) hx hb dX6_holds_6 (by decide) (fun c => ?_) (fun c => ?_)
  · have hw := hw.1 c
    refine lv_iconst (v := 0) hx hb dX6_holds_13 (by decide) ?_
    exact z_zret C I hr (Or.inl rfl) ⟨_, rfl, (Or.inl rfl), hw⟩ (Nat.le_of_ble_eq_true rfl) (Nat.le_of_ble_eq_true rfl) dX6_holds_14
  · have hw := hw.2 c
    refine lv_iconst (v := 1) hx hb dX6_holds_9 (by decide) ?_
    refine lv_goto (tgt := 14) hx hb dX6_holds_10 (by decide) ?_
    exact z_zret C I hr (Or.inr rfl) ⟨_, rfl, (Or.inr rfl), hw⟩ (Nat.le_of_ble_eq_true rfl) (Nat.le_of_ble_eq_true rfl) dX6_holds_14
set_option maxHeartbeats 4000000 in
set_option maxRecDepth 100000 in
theorem m_X6_in {X : zX} {l : Launch} (E : zEnv X l) {M : zM} {p0 : Int32} {p1 : Int32} {p2 : Int32} {P : Int32 → zM → Prop} {PX : Nat → zM → Prop} (hw : w_X6_in p0 p1 p2 M P) : zCT X l yX6_in cX6_in 3 (some .boolean) 0 0 0 0 M [.int p0, .int p1, .int p2] (zPz P) PX := by
  refine z_entry E (by decide) ?_
  intro p e s m args below meth c C hr htab I
  have hx := C.1.1
  have hb := C.1.2.1
  obtain ⟨ls, he, hl⟩ := z_enter (m := m) (n := 3) (vs := [.int p0, .int p1, .int p2]) (l := [(0, .int p0), (1, .int p1), (2, .int p2)]) (Nat.le_of_ble_eq_true rfl) rfl
  rw [he]
  clear he
  unfold w_X6_in at hw
  refine lv_iload_n hx hb dX6_in_0 rfl (lv_at hl 0 rfl) ?_
  refine lv_iload_n hx hb dX6_in_1 rfl (lv_at hl 1 rfl) ?_
  refine lv_icmp_lt (tgt := 14) hx hb dX6_in_2 (by decide) (fun c => ?_) (fun c => ?_)
  · have hw := hw.1 c
    refine lv_iconst (v := 0) hx hb dX6_in_14 (by decide) ?_
    exact z_zret C I hr (Or.inl rfl) ⟨_, rfl, (Or.inl rfl), hw⟩ (Nat.le_of_ble_eq_true rfl) (Nat.le_of_ble_eq_true rfl) dX6_in_15
  · have hw := hw.2 c
    refine lv_iload_n hx hb dX6_in_5 rfl (lv_at hl 0 rfl) ?_
    refine lv_iload_n hx hb dX6_in_6 rfl (lv_at hl 2 rfl) ?_
    refine lv_icmp_gt (tgt := 14) hx hb dX6_in_7 (by decide) (fun c => ?_) (fun c => ?_)
    · have hw := hw.1 c
      refine lv_iconst (v := 0) hx hb dX6_in_14 (by decide) ?_
      exact z_zret C I hr (Or.inl rfl) ⟨_, rfl, (Or.inl rfl), hw⟩ (Nat.le_of_ble_eq_true rfl) (Nat.le_of_ble_eq_true rfl) dX6_in_15
    · have hw := hw.2 c
      refine lv_iconst (v := 1) hx hb dX6_in_10 (by decide) ?_
      refine lv_goto (tgt := 15) hx hb dX6_in_11 (by decide) ?_
      exact z_zret C I hr (Or.inr rfl) ⟨_, rfl, (Or.inr rfl), hw⟩ (Nat.le_of_ble_eq_true rfl) (Nat.le_of_ble_eq_true rfl) dX6_in_15
set_option maxHeartbeats 4000000 in
set_option maxRecDepth 100000 in
theorem m_X6_isSubject {X : zX} {l : Launch} (E : zEnv X l) {M : zM} {p0 : Int32} {P : Int32 → zM → Prop} {PX : Nat → zM → Prop} (hw : w_X6_isSubject p0 M P) : zCT X l yX6_isSubject cX6_isSubject 1 (some .boolean) 1 22 0 0 M [.int p0] (zPz P) PX := by
  refine z_entry E (by decide) ?_
  intro p e s m args below meth c C hr htab I
  have hx := C.1.1
  have hb := C.1.2.1
  obtain ⟨ls, he, hl⟩ := z_enter (m := m) (n := 1) (vs := [.int p0]) (l := [(0, .int p0)]) (Nat.le_of_ble_eq_true rfl) rfl
  rw [he]
  clear he
  unfold w_X6_isSubject at hw
  refine lv_iload_n hx hb dX6_isSubject_0 rfl (lv_at hl 0 rfl) ?_
  refine lv_iconst (v := 0) hx hb dX6_isSubject_1 (by decide) ?_
  refine lv_iconst (v := 5) hx hb dX6_isSubject_2 (by decide) ?_
  refine z_callS C I (as := [.int p0, .int (0 : Int32), .int (5 : Int32)]) (rest := []) (m_X6_in E hw) ks_X6_75 rfl rfl hl.1 (Nat.le_of_ble_eq_true rfl) ⟨Nat.le_of_ble_eq_true rfl, Nat.le_of_ble_eq_true rfl⟩ ⟨Nat.le_of_ble_eq_true rfl, Nat.le_of_ble_eq_true rfl⟩ dX6_isSubject_3 (z_prop C htab (Nat.le_of_ble_eq_true rfl) (Nat.le_of_ble_eq_true rfl)) (fun v M1 _ _ I hv => ?_)
  obtain ⟨v2, rfl, hv2, hw⟩ := hv
  refine W.eq (g2 := F0 m 6 ls [.int v2]) rfl ?_
  exact z_zret C I hr hv2 ⟨_, rfl, hv2, hw⟩ (Nat.le_of_ble_eq_true rfl) (Nat.le_of_ble_eq_true rfl) dX6_isSubject_6
set_option maxHeartbeats 4000000 in
set_option maxRecDepth 100000 in
theorem m_X6_isVersion {X : zX} {l : Launch} (E : zEnv X l) {M : zM} {o : Nat} {p0 : Int32} {p1 : Int32} {P : Int32 → zM → Prop} {PX : Nat → zM → Prop} (hw : w_X6_isVersion o p0 p1 M P) : zCT X l yX6_isVersion cX6_isVersion 3 (some .boolean) 1 22 0 0 M [.ref o, .int p0, .int p1] (zPz P) PX := by
  refine z_entry E (by decide) ?_
  intro p e s m args below meth c C hr htab I
  have hx := C.1.1
  have hb := C.1.2.1
  obtain ⟨ls, he, hl⟩ := z_enter (m := m) (n := 3) (vs := [.ref o, .int p0, .int p1]) (l := [(0, .ref o), (1, .int p0), (2, .int p1)]) (Nat.le_of_ble_eq_true rfl) rfl
  rw [he]
  clear he
  unfold w_X6_isVersion at hw
  refine lv_iload_n hx hb dX6_isVersion_0 rfl (lv_at hl 2 rfl) ?_
  refine lv_iconst (v := 0) hx hb dX6_isVersion_1 (by decide) ?_
  refine lv_aload_n hx hb dX6_isVersion_2 rfl (lv_at hl 0 rfl) ?_
  refine z_getr C I fl_X6_44 hw dX6_isVersion_3 (fun v1 hw => ?_)
  refine lv_iload_n hx hb dX6_isVersion_6 rfl (lv_at hl 1 rfl) ?_
  refine z_iald C I hw dX6_isVersion_7 (fun v2 hw => ?_)
  refine lv_iconst (v := 1) hx hb dX6_isVersion_8 (by decide) ?_
  refine lv_isub hx hb dX6_isVersion_9 ?_
  refine z_callS C I (as := [.int p1, .int (0 : Int32), .int (v2 - (1 : Int32))]) (rest := []) (m_X6_in E hw) ks_X6_75 rfl rfl hl.1 (Nat.le_of_ble_eq_true rfl) ⟨Nat.le_of_ble_eq_true rfl, Nat.le_of_ble_eq_true rfl⟩ ⟨Nat.le_of_ble_eq_true rfl, Nat.le_of_ble_eq_true rfl⟩ dX6_isVersion_10 (z_prop C htab (Nat.le_of_ble_eq_true rfl) (Nat.le_of_ble_eq_true rfl)) (fun v M3 _ _ I hv => ?_)
  obtain ⟨v4, rfl, hv4, hw⟩ := hv
  refine W.eq (g2 := F0 m 13 ls [.int v4]) rfl ?_
  refine lv_if_eq (tgt := 35) hx hb dX6_isVersion_13 (by decide) (fun c => ?_) (fun c => ?_)
  · have hw := hw.1 c
    refine lv_iconst (v := 0) hx hb dX6_isVersion_35 (by decide) ?_
    exact z_zret C I hr (Or.inl rfl) ⟨_, rfl, (Or.inl rfl), hw⟩ (Nat.le_of_ble_eq_true rfl) (Nat.le_of_ble_eq_true rfl) dX6_isVersion_36
  · have hw := hw.2 c
    refine lv_aload_n hx hb dX6_isVersion_16 rfl (lv_at hl 0 rfl) ?_
    refine z_getr C I fl_X6_41 hw dX6_isVersion_17 (fun v5 hw => ?_)
    refine lv_bipush (v := 6) hx hb dX6_isVersion_20 (by decide) ?_
    refine lv_iload_n hx hb dX6_isVersion_22 rfl (lv_at hl 1 rfl) ?_
    refine lv_imul hx hb dX6_isVersion_23 ?_
    refine lv_iload_n hx hb dX6_isVersion_24 rfl (lv_at hl 2 rfl) ?_
    refine lv_iadd hx hb dX6_isVersion_25 ?_
    refine z_iald C I hw dX6_isVersion_26 (fun v6 hw => ?_)
    refine lv_iconst (v := 3) hx hb dX6_isVersion_27 (by decide) ?_
    refine lv_icmp_eq (tgt := 35) hx hb dX6_isVersion_28 (by decide) (fun c => ?_) (fun c => ?_)
    · have hw := hw.1 c
      refine lv_iconst (v := 0) hx hb dX6_isVersion_35 (by decide) ?_
      exact z_zret C I hr (Or.inl rfl) ⟨_, rfl, (Or.inl rfl), hw⟩ (Nat.le_of_ble_eq_true rfl) (Nat.le_of_ble_eq_true rfl) dX6_isVersion_36
    · have hw := hw.2 c
      refine lv_iconst (v := 1) hx hb dX6_isVersion_31 (by decide) ?_
      refine lv_goto (tgt := 36) hx hb dX6_isVersion_32 (by decide) ?_
      exact z_zret C I hr (Or.inr rfl) ⟨_, rfl, (Or.inr rfl), hw⟩ (Nat.le_of_ble_eq_true rfl) (Nat.le_of_ble_eq_true rfl) dX6_isVersion_36
set_option maxHeartbeats 4000000 in
set_option maxRecDepth 100000 in
theorem m_X6_isThereAt {X : zX} {l : Launch} (E : zEnv X l) {M : zM} {o : Nat} {p0 : Int32} {p1 : Int32} {P : Int32 → zM → Prop} {PX : Nat → zM → Prop} (hw : w_X6_isThereAt o p0 p1 M P) : zCT X l yX6_isThereAt cX6_isThereAt 3 (some .boolean) 2 44 0 0 M [.ref o, .int p0, .int p1] (zPz P) PX := by
  refine z_entry E (by decide) ?_
  intro p e s m args below meth c C hr htab I
  have hx := C.1.1
  have hb := C.1.2.1
  obtain ⟨ls, he, hl⟩ := z_enter (m := m) (n := 3) (vs := [.ref o, .int p0, .int p1]) (l := [(0, .ref o), (1, .int p0), (2, .int p1)]) (Nat.le_of_ble_eq_true rfl) rfl
  rw [he]
  clear he
  unfold w_X6_isThereAt at hw
  refine lv_aload_n hx hb dX6_isThereAt_0 rfl (lv_at hl 0 rfl) ?_
  refine lv_iload_n hx hb dX6_isThereAt_1 rfl (lv_at hl 1 rfl) ?_
  refine lv_iload_n hx hb dX6_isThereAt_2 rfl (lv_at hl 2 rfl) ?_
  obtain ⟨hrc, hw⟩ := hw
  refine z_callV C I (as := [.int p0, .int p1]) (rest := []) (m_X6_isVersion E hw) kv_X6_79 vc_7 hrc rfl rfl hl.1 (Nat.le_of_ble_eq_true rfl) ⟨Nat.le_of_ble_eq_true rfl, Nat.le_of_ble_eq_true rfl⟩ ⟨Nat.le_of_ble_eq_true rfl, Nat.le_of_ble_eq_true rfl⟩ dX6_isThereAt_3 (z_prop C htab (Nat.le_of_ble_eq_true rfl) (Nat.le_of_ble_eq_true rfl)) (fun v M1 _ _ I hv => ?_)
  obtain ⟨v2, rfl, hv2, hw⟩ := hv
  refine W.eq (g2 := F0 m 6 ls [.int v2]) rfl ?_
  refine lv_if_eq (tgt := 28) hx hb dX6_isThereAt_6 (by decide) (fun c => ?_) (fun c => ?_)
  · have hw := hw.1 c
    refine lv_iconst (v := 0) hx hb dX6_isThereAt_28 (by decide) ?_
    exact z_zret C I hr (Or.inl rfl) ⟨_, rfl, (Or.inl rfl), hw⟩ (Nat.le_of_ble_eq_true rfl) (Nat.le_of_ble_eq_true rfl) dX6_isThereAt_29
  · have hw := hw.2 c
    refine lv_aload_n hx hb dX6_isThereAt_9 rfl (lv_at hl 0 rfl) ?_
    refine z_getr C I fl_X6_41 hw dX6_isThereAt_10 (fun v3 hw => ?_)
    refine lv_bipush (v := 6) hx hb dX6_isThereAt_13 (by decide) ?_
    refine lv_iload_n hx hb dX6_isThereAt_15 rfl (lv_at hl 1 rfl) ?_
    refine lv_imul hx hb dX6_isThereAt_16 ?_
    refine lv_iload_n hx hb dX6_isThereAt_17 rfl (lv_at hl 2 rfl) ?_
    refine lv_iadd hx hb dX6_isThereAt_18 ?_
    refine z_iald C I hw dX6_isThereAt_19 (fun v4 hw => ?_)
    refine lv_iconst (v := 1) hx hb dX6_isThereAt_20 (by decide) ?_
    refine lv_icmp_ne (tgt := 28) hx hb dX6_isThereAt_21 (by decide) (fun c => ?_) (fun c => ?_)
    · have hw := hw.1 c
      refine lv_iconst (v := 0) hx hb dX6_isThereAt_28 (by decide) ?_
      exact z_zret C I hr (Or.inl rfl) ⟨_, rfl, (Or.inl rfl), hw⟩ (Nat.le_of_ble_eq_true rfl) (Nat.le_of_ble_eq_true rfl) dX6_isThereAt_29
    · have hw := hw.2 c
      refine lv_iconst (v := 1) hx hb dX6_isThereAt_24 (by decide) ?_
      refine lv_goto (tgt := 29) hx hb dX6_isThereAt_25 (by decide) ?_
      exact z_zret C I hr (Or.inr rfl) ⟨_, rfl, (Or.inr rfl), hw⟩ (Nat.le_of_ble_eq_true rfl) (Nat.le_of_ble_eq_true rfl) dX6_isThereAt_29
set_option maxHeartbeats 4000000 in
set_option maxRecDepth 100000 in
theorem m_X6_schemaOf {X : zX} {l : Launch} (E : zEnv X l) {M : zM} {o : Nat} {p0 : Int32} {P : Int32 → zM → Prop} {PX : Nat → zM → Prop} (hw : w_X6_schemaOf o p0 M P) : zCT X l yX6_schemaOf cX6_schemaOf 2 (some .int) 0 0 0 0 M [.ref o, .int p0] (zPi P) PX := by
  refine z_entry E (by decide) ?_
  intro p e s m args below meth c C hr htab I
  have hx := C.1.1
  have hb := C.1.2.1
  obtain ⟨ls, he, hl⟩ := z_enter (m := m) (n := 2) (vs := [.ref o, .int p0]) (l := [(0, .ref o), (1, .int p0)]) (Nat.le_of_ble_eq_true rfl) rfl
  rw [he]
  clear he
  unfold w_X6_schemaOf at hw
  refine lv_aload_n hx hb dX6_schemaOf_0 rfl (lv_at hl 0 rfl) ?_
  refine z_getr C I fl_X6_38 hw dX6_schemaOf_1 (fun v1 hw => ?_)
  refine lv_bipush (v := 6) hx hb dX6_schemaOf_4 (by decide) ?_
  refine lv_iload_n hx hb dX6_schemaOf_6 rfl (lv_at hl 1 rfl) ?_
  refine lv_bipush (v := 10) hx hb dX6_schemaOf_7 (by decide) ?_
  refine lv_idiv hx hb dX6_schemaOf_9 (by decide) ?_
  refine lv_imul hx hb dX6_schemaOf_10 ?_
  refine lv_iload_n hx hb dX6_schemaOf_11 rfl (lv_at hl 1 rfl) ?_
  refine lv_bipush (v := 10) hx hb dX6_schemaOf_12 (by decide) ?_
  refine lv_irem hx hb dX6_schemaOf_14 (by decide) ?_
  refine lv_iadd hx hb dX6_schemaOf_15 ?_
  refine z_iald C I hw dX6_schemaOf_16 (fun v2 hw => ?_)
  exact z_iret C I hr ⟨_, rfl, hw⟩ (Nat.le_of_ble_eq_true rfl) (Nat.le_of_ble_eq_true rfl) dX6_schemaOf_17
set_option maxHeartbeats 4000000 in
set_option maxRecDepth 100000 in
theorem m_X6_isRange {X : zX} {l : Launch} (E : zEnv X l) {M : zM} {o : Nat} {p0 : Int32} {p1 : Int32} {p2 : Int32} {p3 : Int32} {P : Int32 → zM → Prop} {PX : Nat → zM → Prop} (hw : w_X6_isRange o p0 p1 p2 p3 M P) : zCT X l yX6_isRange cX6_isRange 6 (some .boolean) 1 22 0 0 M [.ref o, .int p0, .int p1, .int p2, .int p3] (zPz P) PX := by
  refine z_entry E (by decide) ?_
  intro p e s m args below meth c C hr htab I
  have hx := C.1.1
  have hb := C.1.2.1
  obtain ⟨ls, he, hl⟩ := z_enter (m := m) (n := 6) (vs := [.ref o, .int p0, .int p1, .int p2, .int p3]) (l := [(0, .ref o), (1, .int p0), (2, .int p1), (3, .int p2), (4, .int p3)]) (Nat.le_of_ble_eq_true rfl) rfl
  rw [he]
  clear he
  unfold w_X6_isRange at hw
  have hb_19 : ∀ (y0 : Int32) (M : zM) (H : Heap) (locs : List Loc) (ls : Array Slot), zWk X s M H locs → lv_has ls 6 [(1, .int p0), (2, .int p1), (4, .int p3)] → w_X6_isRange_19 o p0 p1 p2 p3 P y0 M → W p l e (zRm 1 22 0 0) s m args below meth c H locs 0 0 (vx_MQ below (zQc X (zPz P)) (zXc X PX) args s 0 0 (zBase X)) (F0 m 19 ls [.int y0]) := by
    intro y0 M H locs ls I hl hw
    unfold w_X6_isRange_19 at hw
    refine lv_istore (lv' := [(5, .int y0), (1, .int p0), (2, .int p1), (4, .int p3)]) hx hb dX6_isRange_19 hl (by decide) rfl (fun ls hl => ?_)
    refine lv_iload_n hx hb dX6_isRange_21 rfl (lv_at hl 1 rfl) ?_
    refine lv_iconst (v := 0) hx hb dX6_isRange_22 (by decide) ?_
    refine lv_bipush (v := 9) hx hb dX6_isRange_23 (by decide) ?_
    refine z_callS C I (as := [.int p0, .int (0 : Int32), .int (9 : Int32)]) (rest := []) (m_X6_in E hw) ks_X6_75 rfl rfl hl.1 (Nat.le_of_ble_eq_true rfl) ⟨Nat.le_of_ble_eq_true rfl, Nat.le_of_ble_eq_true rfl⟩ ⟨Nat.le_of_ble_eq_true rfl, Nat.le_of_ble_eq_true rfl⟩ dX6_isRange_25 (z_prop C htab (Nat.le_of_ble_eq_true rfl) (Nat.le_of_ble_eq_true rfl)) (fun v M1 _ _ I hv => ?_)
    obtain ⟨v2, rfl, hv2, hw⟩ := hv
    refine W.eq (g2 := F0 m 28 ls [.int v2]) rfl ?_
    refine lv_if_eq (tgt := 66) hx hb dX6_isRange_28 (by decide) (fun c => ?_) (fun c => ?_)
    · have hw := hw.1 c
      refine lv_iconst (v := 0) hx hb dX6_isRange_66 (by decide) ?_
      exact z_zret C I hr (Or.inl rfl) ⟨_, rfl, (Or.inl rfl), hw⟩ (Nat.le_of_ble_eq_true rfl) (Nat.le_of_ble_eq_true rfl) dX6_isRange_67
    · have hw := hw.2 c
      refine lv_iload_n hx hb dX6_isRange_31 rfl (lv_at hl 2 rfl) ?_
      refine lv_iconst (v := 0) hx hb dX6_isRange_32 (by decide) ?_
      refine lv_iconst (v := 4) hx hb dX6_isRange_33 (by decide) ?_
      refine z_callS C I (as := [.int p1, .int (0 : Int32), .int (4 : Int32)]) (rest := []) (m_X6_in E hw) ks_X6_75 rfl rfl hl.1 (Nat.le_of_ble_eq_true rfl) ⟨Nat.le_of_ble_eq_true rfl, Nat.le_of_ble_eq_true rfl⟩ ⟨Nat.le_of_ble_eq_true rfl, Nat.le_of_ble_eq_true rfl⟩ dX6_isRange_34 (z_prop C htab (Nat.le_of_ble_eq_true rfl) (Nat.le_of_ble_eq_true rfl)) (fun v M3 _ _ I hv => ?_)
      obtain ⟨v4, rfl, hv4, hw⟩ := hv
      refine W.eq (g2 := F0 m 37 ls [.int v4]) rfl ?_
      refine lv_if_eq (tgt := 66) hx hb dX6_isRange_37 (by decide) (fun c => ?_) (fun c => ?_)
      · have hw := hw.1 c
        refine lv_iconst (v := 0) hx hb dX6_isRange_66 (by decide) ?_
        exact z_zret C I hr (Or.inl rfl) ⟨_, rfl, (Or.inl rfl), hw⟩ (Nat.le_of_ble_eq_true rfl) (Nat.le_of_ble_eq_true rfl) dX6_isRange_67
      · have hw := hw.2 c
        refine lv_iload hx hb dX6_isRange_40 (lv_at hl 0 rfl) ?_
        refine lv_if_eq (tgt := 66) hx hb dX6_isRange_42 (by decide) (fun c => ?_) (fun c => ?_)
        · have hw := hw.1 c
          refine lv_iconst (v := 0) hx hb dX6_isRange_66 (by decide) ?_
          exact z_zret C I hr (Or.inl rfl) ⟨_, rfl, (Or.inl rfl), hw⟩ (Nat.le_of_ble_eq_true rfl) (Nat.le_of_ble_eq_true rfl) dX6_isRange_67
        · have hw := hw.2 c
          refine lv_iload hx hb dX6_isRange_45 (lv_at hl 3 rfl) ?_
          refine lv_iconst (v := -1) hx hb dX6_isRange_47 (by decide) ?_
          refine lv_bipush (v := 9) hx hb dX6_isRange_48 (by decide) ?_
          refine z_callS C I (as := [.int p3, .int (-1 : Int32), .int (9 : Int32)]) (rest := []) (m_X6_in E hw) ks_X6_75 rfl rfl hl.1 (Nat.le_of_ble_eq_true rfl) ⟨Nat.le_of_ble_eq_true rfl, Nat.le_of_ble_eq_true rfl⟩ ⟨Nat.le_of_ble_eq_true rfl, Nat.le_of_ble_eq_true rfl⟩ dX6_isRange_50 (z_prop C htab (Nat.le_of_ble_eq_true rfl) (Nat.le_of_ble_eq_true rfl)) (fun v M5 _ _ I hv => ?_)
          obtain ⟨v6, rfl, hv6, hw⟩ := hv
          refine W.eq (g2 := F0 m 53 ls [.int v6]) rfl ?_
          refine lv_if_eq (tgt := 66) hx hb dX6_isRange_53 (by decide) (fun c => ?_) (fun c => ?_)
          · have hw := hw.1 c
            refine lv_iconst (v := 0) hx hb dX6_isRange_66 (by decide) ?_
            exact z_zret C I hr (Or.inl rfl) ⟨_, rfl, (Or.inl rfl), hw⟩ (Nat.le_of_ble_eq_true rfl) (Nat.le_of_ble_eq_true rfl) dX6_isRange_67
          · have hw := hw.2 c
            refine lv_iload hx hb dX6_isRange_56 (lv_at hl 3 rfl) ?_
            refine lv_iload_n hx hb dX6_isRange_58 rfl (lv_at hl 1 rfl) ?_
            refine lv_icmp_eq (tgt := 66) hx hb dX6_isRange_59 (by decide) (fun c => ?_) (fun c => ?_)
            · have hw := hw.1 c
              refine lv_iconst (v := 0) hx hb dX6_isRange_66 (by decide) ?_
              exact z_zret C I hr (Or.inl rfl) ⟨_, rfl, (Or.inl rfl), hw⟩ (Nat.le_of_ble_eq_true rfl) (Nat.le_of_ble_eq_true rfl) dX6_isRange_67
            · have hw := hw.2 c
              refine lv_iconst (v := 1) hx hb dX6_isRange_62 (by decide) ?_
              refine lv_goto (tgt := 67) hx hb dX6_isRange_63 (by decide) ?_
              exact z_zret C I hr (Or.inr rfl) ⟨_, rfl, (Or.inr rfl), hw⟩ (Nat.le_of_ble_eq_true rfl) (Nat.le_of_ble_eq_true rfl) dX6_isRange_67
  have hb_14 : ∀ (M : zM) (H : Heap) (locs : List Loc) (ls : Array Slot), zWk X s M H locs → lv_has ls 6 [(1, .int p0), (2, .int p1), (4, .int p3)] → w_X6_isRange_14 o p0 p1 p2 p3 P M → W p l e (zRm 1 22 0 0) s m args below meth c H locs 0 0 (vx_MQ below (zQc X (zPz P)) (zXc X PX) args s 0 0 (zBase X)) (F0 m 14 ls []) := by
    intro M H locs ls I hl hw
    unfold w_X6_isRange_14 at hw
    refine lv_iconst (v := 1) hx hb dX6_isRange_14 (by decide) ?_
    refine lv_goto (tgt := 19) hx hb dX6_isRange_15 (by decide) ?_
    refine W.widen (k := 0) (n := 0) (Nat.le_of_ble_eq_true rfl) (Nat.le_of_ble_eq_true rfl) ?_
    exact hb_19 (1 : Int32) _ _ _ ls I (lv_sub hl [0, 1, 2] rfl) hw
  refine lv_iload_n hx hb dX6_isRange_0 rfl (lv_at hl 2 rfl) ?_
  refine lv_iconst (v := 3) hx hb dX6_isRange_1 (by decide) ?_
  refine lv_icmp_ne (tgt := 14) hx hb dX6_isRange_2 (by decide) (fun c => ?_) (fun c => ?_)
  · have hw := hw.1 c
    refine W.widen (k := 0) (n := 0) (Nat.le_of_ble_eq_true rfl) (Nat.le_of_ble_eq_true rfl) ?_
    exact hb_14 _ _ _ ls I (lv_sub hl [1, 2, 4] rfl) hw
  · have hw := hw.2 c
    refine lv_iload_n hx hb dX6_isRange_5 rfl (lv_at hl 3 rfl) ?_
    refine lv_iconst (v := 1) hx hb dX6_isRange_6 (by decide) ?_
    refine lv_iconst (v := 4) hx hb dX6_isRange_7 (by decide) ?_
    refine z_callS C I (as := [.int p2, .int (1 : Int32), .int (4 : Int32)]) (rest := []) (m_X6_in E hw) ks_X6_75 rfl rfl hl.1 (Nat.le_of_ble_eq_true rfl) ⟨Nat.le_of_ble_eq_true rfl, Nat.le_of_ble_eq_true rfl⟩ ⟨Nat.le_of_ble_eq_true rfl, Nat.le_of_ble_eq_true rfl⟩ dX6_isRange_8 (z_prop C htab (Nat.le_of_ble_eq_true rfl) (Nat.le_of_ble_eq_true rfl)) (fun v M7 _ _ I hv => ?_)
    obtain ⟨v8, rfl, hv8, hw⟩ := hv
    refine W.eq (g2 := F0 m 11 ls [.int v8]) rfl ?_
    refine lv_if_eq (tgt := 18) hx hb dX6_isRange_11 (by decide) (fun c => ?_) (fun c => ?_)
    · have hw := hw.1 c
      refine lv_iconst (v := 0) hx hb dX6_isRange_18 (by decide) ?_
      refine W.widen (k := 0) (n := 0) (Nat.le_of_ble_eq_true rfl) (Nat.le_of_ble_eq_true rfl) ?_
      exact hb_19 (0 : Int32) _ _ _ ls I (lv_sub hl [1, 2, 4] rfl) hw
    · have hw := hw.2 c
      refine W.widen (k := 0) (n := 0) (Nat.le_of_ble_eq_true rfl) (Nat.le_of_ble_eq_true rfl) ?_
      exact hb_14 _ _ _ ls I (lv_sub hl [1, 2, 4] rfl) hw
set_option maxHeartbeats 4000000 in
set_option maxRecDepth 100000 in
theorem m_X6_named {X : zX} {l : Launch} (E : zEnv X l) {M : zM} {o : Nat} {p0 : Int32} {p1 : Int32} {P : Int32 → zM → Prop} {PX : Nat → zM → Prop} (hw : w_X6_named o p0 p1 M P) : zCT X l yX6_named cX6_named 4 (some .int) 0 0 0 0 M [.ref o, .int p0, .int p1] (zPi P) PX := by
  refine z_entry E (by decide) ?_
  intro p e s m args below meth c C hr htab I
  have hx := C.1.1
  have hb := C.1.2.1
  obtain ⟨ls, he, hl⟩ := z_enter (m := m) (n := 4) (vs := [.ref o, .int p0, .int p1]) (l := [(0, .ref o), (1, .int p0), (2, .int p1)]) (Nat.le_of_ble_eq_true rfl) rfl
  rw [he]
  clear he
  unfold w_X6_named at hw
  have hb_2 : ∀ (n : Nat) (x3 : Int32) (M : zM) (H : Heap) (locs : List Loc) (ls : Array Slot), zWk X s M H locs → lv_has ls 4 [(0, .ref o), (1, .int p0), (2, .int p1), (3, .int x3)] → w_X6_named_2 o p0 p1 P n x3 M → W p l e (zRm 0 0 0 0) s m args below meth c H locs 0 0 (vx_MQ below (zQc X (zPi P)) (zXc X PX) args s 0 0 (zBase X)) (F0 m 2 ls []) := by
    intro n
    induction n with
    | zero => intro _ M H locs ls I hl hw; exact hw.elim
    | succ n ih =>
      intro x3 M H locs ls I hl hw
      unfold w_X6_named_2 at hw
      refine lv_iload_n hx hb dX6_named_2 rfl (lv_at hl 3 rfl) ?_
      refine lv_aload_n hx hb dX6_named_3 rfl (lv_at hl 0 rfl) ?_
      refine z_getr C I fl_X6_29 hw dX6_named_4 (fun v1 hw => ?_)
      refine lv_iload_n hx hb dX6_named_7 rfl (lv_at hl 1 rfl) ?_
      refine z_iald C I hw dX6_named_8 (fun v2 hw => ?_)
      refine lv_icmp_ge (tgt := 34) hx hb dX6_named_9 (by decide) (fun c => ?_) (fun c => ?_)
      · have hw := hw.1 c
        refine lv_iconst (v := -1) hx hb dX6_named_34 (by decide) ?_
        exact z_iret C I hr ⟨_, rfl, hw⟩ (Nat.le_of_ble_eq_true rfl) (Nat.le_of_ble_eq_true rfl) dX6_named_35
      · have hw := hw.2 c
        refine lv_aload_n hx hb dX6_named_12 rfl (lv_at hl 0 rfl) ?_
        refine z_getr C I fl_X6_7 hw dX6_named_13 (fun v3 hw => ?_)
        refine lv_iconst (v := 5) hx hb dX6_named_16 (by decide) ?_
        refine lv_iload_n hx hb dX6_named_17 rfl (lv_at hl 1 rfl) ?_
        refine lv_imul hx hb dX6_named_18 ?_
        refine lv_iload_n hx hb dX6_named_19 rfl (lv_at hl 3 rfl) ?_
        refine lv_iadd hx hb dX6_named_20 ?_
        refine z_iald C I hw dX6_named_21 (fun v4 hw => ?_)
        refine lv_iload_n hx hb dX6_named_22 rfl (lv_at hl 2 rfl) ?_
        refine lv_icmp_ne (tgt := 28) hx hb dX6_named_23 (by decide) (fun c => ?_) (fun c => ?_)
        · have hw := hw.1 c
          refine lv_iinc (v := (x3 + 1)) (lv' := [(3, .int (x3 + 1)), (0, .ref o), (1, .int p0), (2, .int p1)]) hx hb dX6_named_28 hl (k := 3) rfl (by rfl) (by decide) rfl (fun ls hl => ?_)
          refine lv_goto (tgt := 2) hx hb dX6_named_31 (by decide) ?_
          refine W.widen (k := 0) (n := 0) (Nat.le_of_ble_eq_true rfl) (Nat.le_of_ble_eq_true rfl) ?_
          exact ih (x3 + 1) _ _ _ ls I (lv_sub hl [1, 2, 3, 0] rfl) hw
        · have hw := hw.2 c
          refine lv_iload_n hx hb dX6_named_26 rfl (lv_at hl 3 rfl) ?_
          exact z_iret C I hr ⟨_, rfl, hw⟩ (Nat.le_of_ble_eq_true rfl) (Nat.le_of_ble_eq_true rfl) dX6_named_27
  refine lv_iconst (v := 0) hx hb dX6_named_0 (by decide) ?_
  refine lv_istore_n (lv' := [(3, .int (0 : Int32)), (0, .ref o), (1, .int p0), (2, .int p1)]) hx hb dX6_named_1 rfl hl (by decide) rfl (fun ls hl => ?_)
  obtain ⟨nn, hw⟩ := hw
  refine W.widen (k := 0) (n := 0) (Nat.le_of_ble_eq_true rfl) (Nat.le_of_ble_eq_true rfl) ?_
  exact hb_2 nn (0 : Int32) _ _ _ ls I (lv_sub hl [1, 2, 3, 0] rfl) hw
set_option maxHeartbeats 4000000 in
set_option maxRecDepth 100000 in
theorem m_X6_errorOfField {X : zX} {l : Launch} (E : zEnv X l) {M : zM} {o : Nat} {p0 : Int32} {p1 : Int32} {p2 : Int32} {p3 : Int32} {P : Int32 → zM → Prop} {PX : Nat → zM → Prop} (hw : w_X6_errorOfField o p0 p1 p2 p3 M P) : zCT X l yX6_errorOfField cX6_errorOfField 7 (some .int) 3 66 0 0 M [.ref o, .int p0, .int p1, .int p2, .int p3] (zPi P) PX := by
  refine z_entry E (by decide) ?_
  intro p e s m args below meth c C hr htab I
  have hx := C.1.1
  have hb := C.1.2.1
  obtain ⟨ls, he, hl⟩ := z_enter (m := m) (n := 7) (vs := [.ref o, .int p0, .int p1, .int p2, .int p3]) (l := [(0, .ref o), (1, .int p0), (2, .int p1), (3, .int p2), (4, .int p3)]) (Nat.le_of_ble_eq_true rfl) rfl
  rw [he]
  clear he
  unfold w_X6_errorOfField at hw
  have hb_116 : ∀ (M : zM) (H : Heap) (locs : List Loc) (ls : Array Slot), zWk X s M H locs → lv_has ls 7 [] → w_X6_errorOfField_116 o p0 p1 p2 p3 P M → W p l e (zRm 3 66 0 0) s m args below meth c H locs 0 0 (vx_MQ below (zQc X (zPi P)) (zXc X PX) args s 0 0 (zBase X)) (F0 m 116 ls []) := by
    intro M H locs ls I hl hw
    unfold w_X6_errorOfField_116 at hw
    refine lv_iconst (v := 3) hx hb dX6_errorOfField_116 (by decide) ?_
    refine lv_goto (tgt := 121) hx hb dX6_errorOfField_117 (by decide) ?_
    exact z_iret C I hr ⟨_, rfl, hw⟩ (Nat.le_of_ble_eq_true rfl) (Nat.le_of_ble_eq_true rfl) dX6_errorOfField_121
  have hb_77 : ∀ (y0 : Int32) (M : zM) (H : Heap) (locs : List Loc) (ls : Array Slot), zWk X s M H locs → lv_has ls 7 [(0, .ref o), (1, .int p0)] → w_X6_errorOfField_77 o p0 p1 p2 p3 P y0 M → W p l e (zRm 3 66 0 0) s m args below meth c H locs 0 0 (vx_MQ below (zQc X (zPi P)) (zXc X PX) args s 0 0 (zBase X)) (F0 m 77 ls [.int y0]) := by
    intro y0 M H locs ls I hl hw
    unfold w_X6_errorOfField_77 at hw
    refine lv_istore (lv' := [(6, .int y0), (0, .ref o), (1, .int p0)]) hx hb dX6_errorOfField_77 hl (by decide) rfl (fun ls hl => ?_)
    refine lv_aload_n hx hb dX6_errorOfField_79 rfl (lv_at hl 1 rfl) ?_
    refine z_getr C I fl_X6_29 hw dX6_errorOfField_80 (fun v1 hw => ?_)
    refine lv_bipush (v := 36) hx hb dX6_errorOfField_83 (by decide) ?_
    refine z_iald C I hw dX6_errorOfField_85 (fun v2 hw => ?_)
    refine lv_iconst (v := 5) hx hb dX6_errorOfField_86 (by decide) ?_
    refine lv_icmp_eq (tgt := 116) hx hb dX6_errorOfField_87 (by decide) (fun c => ?_) (fun c => ?_)
    · have hw := hw.1 c
      refine W.widen (k := 0) (n := 0) (Nat.le_of_ble_eq_true rfl) (Nat.le_of_ble_eq_true rfl) ?_
      exact hb_116 _ _ _ ls I (lv_sub hl [] rfl) hw
    · have hw := hw.2 c
      refine lv_aload_n hx hb dX6_errorOfField_90 rfl (lv_at hl 1 rfl) ?_
      refine lv_bipush (v := 36) hx hb dX6_errorOfField_91 (by decide) ?_
      refine lv_iload_n hx hb dX6_errorOfField_93 rfl (lv_at hl 2 rfl) ?_
      obtain ⟨hrc, hw⟩ := hw
      refine z_callV C I (as := [.int (36 : Int32), .int p0]) (rest := []) (m_X6_named E hw) kv_X6_94 vc_7 hrc rfl rfl hl.1 (Nat.le_of_ble_eq_true rfl) ⟨Nat.le_of_ble_eq_true rfl, Nat.le_of_ble_eq_true rfl⟩ ⟨Nat.le_of_ble_eq_true rfl, Nat.le_of_ble_eq_true rfl⟩ dX6_errorOfField_94 (z_prop C htab (Nat.le_of_ble_eq_true rfl) (Nat.le_of_ble_eq_true rfl)) (fun v M3 _ _ I hv => ?_)
      obtain ⟨v4, rfl, hw⟩ := hv
      refine W.eq (g2 := F0 m 97 ls [.int v4]) rfl ?_
      refine lv_iconst (v := -1) hx hb dX6_errorOfField_97 (by decide) ?_
      refine lv_icmp_ne (tgt := 116) hx hb dX6_errorOfField_98 (by decide) (fun c => ?_) (fun c => ?_)
      · have hw := hw.1 c
        refine W.widen (k := 0) (n := 0) (Nat.le_of_ble_eq_true rfl) (Nat.le_of_ble_eq_true rfl) ?_
        exact hb_116 _ _ _ ls I (lv_sub hl [] rfl) hw
      · have hw := hw.2 c
        refine lv_aload_n hx hb dX6_errorOfField_101 rfl (lv_at hl 1 rfl) ?_
        refine z_getr C I fl_X6_32 hw dX6_errorOfField_102 (fun v5 hw => ?_)
        refine lv_bipush (v := 36) hx hb dX6_errorOfField_105 (by decide) ?_
        refine z_iald C I hw dX6_errorOfField_107 (fun v6 hw => ?_)
        refine lv_iload hx hb dX6_errorOfField_108 (lv_at hl 0 rfl) ?_
        refine lv_iadd hx hb dX6_errorOfField_110 ?_
        refine lv_bipush (v := 20) hx hb dX6_errorOfField_111 (by decide) ?_
        refine lv_icmp_le (tgt := 120) hx hb dX6_errorOfField_113 (by decide) (fun c => ?_) (fun c => ?_)
        · have hw := hw.1 c
          refine lv_iconst (v := 0) hx hb dX6_errorOfField_120 (by decide) ?_
          exact z_iret C I hr ⟨_, rfl, hw⟩ (Nat.le_of_ble_eq_true rfl) (Nat.le_of_ble_eq_true rfl) dX6_errorOfField_121
        · have hw := hw.2 c
          refine W.widen (k := 0) (n := 0) (Nat.le_of_ble_eq_true rfl) (Nat.le_of_ble_eq_true rfl) ?_
          exact hb_116 _ _ _ ls I (lv_sub hl [] rfl) hw
  have hb_58 : ∀ (x5 : Int32) (M : zM) (H : Heap) (locs : List Loc) (ls : Array Slot), zWk X s M H locs → lv_has ls 7 [(0, .ref o), (1, .int p0), (3, .int p2), (5, .int x5)] → w_X6_errorOfField_58 o p0 p1 p2 p3 P x5 M → W p l e (zRm 3 66 0 0) s m args below meth c H locs 0 0 (vx_MQ below (zQc X (zPi P)) (zXc X PX) args s 0 0 (zBase X)) (F0 m 58 ls []) := by
    intro x5 M H locs ls I hl hw
    unfold w_X6_errorOfField_58 at hw
    refine lv_iload hx hb dX6_errorOfField_58 (lv_at hl 3 rfl) ?_
    refine lv_if_eq (tgt := 76) hx hb dX6_errorOfField_60 (by decide) (fun c => ?_) (fun c => ?_)
    · have hw := hw.1 c
      refine lv_iconst (v := 1) hx hb dX6_errorOfField_76 (by decide) ?_
      refine W.widen (k := 0) (n := 0) (Nat.le_of_ble_eq_true rfl) (Nat.le_of_ble_eq_true rfl) ?_
      exact hb_77 (1 : Int32) _ _ _ ls I (lv_sub hl [0, 1] rfl) hw
    · have hw := hw.2 c
      refine lv_aload_n hx hb dX6_errorOfField_63 rfl (lv_at hl 0 rfl) ?_
      refine z_getr C I fl_X6_32 hw dX6_errorOfField_64 (fun v7 hw => ?_)
      refine lv_aload_n hx hb dX6_errorOfField_67 rfl (lv_at hl 0 rfl) ?_
      refine lv_iload_n hx hb dX6_errorOfField_68 rfl (lv_at hl 2 rfl) ?_
      obtain ⟨hrc, hw⟩ := hw
      refine z_callV C I (as := [.int p2]) (rest := [.ref v7]) (m_X6_schemaOf E hw) kv_X6_90 vc_7 hrc rfl rfl hl.1 (Nat.le_of_ble_eq_true rfl) ⟨Nat.le_of_ble_eq_true rfl, Nat.le_of_ble_eq_true rfl⟩ ⟨Nat.le_of_ble_eq_true rfl, Nat.le_of_ble_eq_true rfl⟩ dX6_errorOfField_69 (z_prop C htab (Nat.le_of_ble_eq_true rfl) (Nat.le_of_ble_eq_true rfl)) (fun v M8 _ _ I hv => ?_)
      obtain ⟨v9, rfl, hw⟩ := hv
      refine W.eq (g2 := F0 m 72 ls [.int v9, .ref v7]) rfl ?_
      refine z_iald C I hw dX6_errorOfField_72 (fun v10 hw => ?_)
      refine lv_goto (tgt := 77) hx hb dX6_errorOfField_73 (by decide) ?_
      refine W.widen (k := 0) (n := 0) (Nat.le_of_ble_eq_true rfl) (Nat.le_of_ble_eq_true rfl) ?_
      exact hb_77 v10 _ _ _ ls I (lv_sub hl [0, 1] rfl) hw
  have hb_24 : ∀ (y0 : Int32) (M : zM) (H : Heap) (locs : List Loc) (ls : Array Slot), zWk X s M H locs → lv_has ls 7 [(0, .ref o), (1, .int p0), (3, .int p2)] → w_X6_errorOfField_24 o p0 p1 p2 p3 P y0 M → W p l e (zRm 3 66 0 0) s m args below meth c H locs 0 0 (vx_MQ below (zQc X (zPi P)) (zXc X PX) args s 0 0 (zBase X)) (F0 m 24 ls [.int y0]) := by
    intro y0 M H locs ls I hl hw
    unfold w_X6_errorOfField_24 at hw
    refine lv_istore (lv' := [(5, .int y0), (0, .ref o), (1, .int p0), (3, .int p2)]) hx hb dX6_errorOfField_24 hl (by decide) rfl (fun ls hl => ?_)
    refine lv_iload hx hb dX6_errorOfField_26 (lv_at hl 0 rfl) ?_
    refine lv_if_eq (tgt := 58) hx hb dX6_errorOfField_28 (by decide) (fun c => ?_) (fun c => ?_)
    · have hw := hw.1 c
      refine W.widen (k := 0) (n := 0) (Nat.le_of_ble_eq_true rfl) (Nat.le_of_ble_eq_true rfl) ?_
      exact hb_58 y0 _ _ _ ls I (lv_sub hl [1, 2, 3, 0] rfl) hw
    · have hw := hw.2 c
      refine lv_iload_n hx hb dX6_errorOfField_31 rfl (lv_at hl 3 rfl) ?_
      refine lv_iconst (v := 0) hx hb dX6_errorOfField_32 (by decide) ?_
      refine lv_bipush (v := 59) hx hb dX6_errorOfField_33 (by decide) ?_
      refine z_callS C I (as := [.int p2, .int (0 : Int32), .int (59 : Int32)]) (rest := []) (m_X6_in E hw) ks_X6_75 rfl rfl hl.1 (Nat.le_of_ble_eq_true rfl) ⟨Nat.le_of_ble_eq_true rfl, Nat.le_of_ble_eq_true rfl⟩ ⟨Nat.le_of_ble_eq_true rfl, Nat.le_of_ble_eq_true rfl⟩ dX6_errorOfField_35 (z_prop C htab (Nat.le_of_ble_eq_true rfl) (Nat.le_of_ble_eq_true rfl)) (fun v M11 _ _ I hv => ?_)
      obtain ⟨v12, rfl, hv12, hw⟩ := hv
      refine W.eq (g2 := F0 m 38 ls [.int v12]) rfl ?_
      refine lv_if_eq (tgt := 56) hx hb dX6_errorOfField_38 (by decide) (fun c => ?_) (fun c => ?_)
      · have hw := hw.1 c
        refine lv_iconst (v := 2) hx hb dX6_errorOfField_56 (by decide) ?_
        exact z_iret C I hr ⟨_, rfl, hw⟩ (Nat.le_of_ble_eq_true rfl) (Nat.le_of_ble_eq_true rfl) dX6_errorOfField_57
      · have hw := hw.2 c
        refine lv_aload_n hx hb dX6_errorOfField_41 rfl (lv_at hl 1 rfl) ?_
        refine lv_iload_n hx hb dX6_errorOfField_42 rfl (lv_at hl 3 rfl) ?_
        refine lv_bipush (v := 10) hx hb dX6_errorOfField_43 (by decide) ?_
        refine lv_idiv hx hb dX6_errorOfField_45 (by decide) ?_
        refine lv_iload_n hx hb dX6_errorOfField_46 rfl (lv_at hl 3 rfl) ?_
        refine lv_bipush (v := 10) hx hb dX6_errorOfField_47 (by decide) ?_
        refine lv_irem hx hb dX6_errorOfField_49 (by decide) ?_
        obtain ⟨hrc, hw⟩ := hw
        refine z_callV C I (as := [.int (p2 / (10 : Int32)), .int (p2 - p2 / (10 : Int32) * (10 : Int32))]) (rest := []) (m_X6_isThereAt E hw) kv_X6_87 vc_7 hrc rfl rfl hl.1 (Nat.le_of_ble_eq_true rfl) ⟨Nat.le_of_ble_eq_true rfl, Nat.le_of_ble_eq_true rfl⟩ ⟨Nat.le_of_ble_eq_true rfl, Nat.le_of_ble_eq_true rfl⟩ dX6_errorOfField_50 (z_prop C htab (Nat.le_of_ble_eq_true rfl) (Nat.le_of_ble_eq_true rfl)) (fun v M13 _ _ I hv => ?_)
        obtain ⟨v14, rfl, hv14, hw⟩ := hv
        refine W.eq (g2 := F0 m 53 ls [.int v14]) rfl ?_
        refine lv_if_ne (tgt := 58) hx hb dX6_errorOfField_53 (by decide) (fun c => ?_) (fun c => ?_)
        · have hw := hw.1 c
          refine W.widen (k := 0) (n := 0) (Nat.le_of_ble_eq_true rfl) (Nat.le_of_ble_eq_true rfl) ?_
          exact hb_58 y0 _ _ _ ls I (lv_sub hl [1, 2, 3, 0] rfl) hw
        · have hw := hw.2 c
          refine lv_iconst (v := 2) hx hb dX6_errorOfField_56 (by decide) ?_
          exact z_iret C I hr ⟨_, rfl, hw⟩ (Nat.le_of_ble_eq_true rfl) (Nat.le_of_ble_eq_true rfl) dX6_errorOfField_57
  refine lv_aload_n hx hb dX6_errorOfField_0 rfl (lv_at hl 0 rfl) ?_
  refine lv_iload_n hx hb dX6_errorOfField_1 rfl (lv_at hl 1 rfl) ?_
  refine lv_iload_n hx hb dX6_errorOfField_2 rfl (lv_at hl 2 rfl) ?_
  refine lv_iload_n hx hb dX6_errorOfField_3 rfl (lv_at hl 3 rfl) ?_
  refine lv_iload hx hb dX6_errorOfField_4 (lv_at hl 4 rfl) ?_
  obtain ⟨hrc, hw⟩ := hw
  refine z_callV C I (as := [.int p0, .int p1, .int p2, .int p3]) (rest := []) (m_X6_isRange E hw) kv_X6_83 vc_7 hrc rfl rfl hl.1 (Nat.le_of_ble_eq_true rfl) ⟨Nat.le_of_ble_eq_true rfl, Nat.le_of_ble_eq_true rfl⟩ ⟨Nat.le_of_ble_eq_true rfl, Nat.le_of_ble_eq_true rfl⟩ dX6_errorOfField_6 (z_prop C htab (Nat.le_of_ble_eq_true rfl) (Nat.le_of_ble_eq_true rfl)) (fun v M15 _ _ I hv => ?_)
  obtain ⟨v16, rfl, hv16, hw⟩ := hv
  refine W.eq (g2 := F0 m 9 ls [.int v16]) rfl ?_
  refine lv_if_ne (tgt := 14) hx hb dX6_errorOfField_9 (by decide) (fun c => ?_) (fun c => ?_)
  · have hw := hw.1 c
    refine lv_iload_n hx hb dX6_errorOfField_14 rfl (lv_at hl 2 rfl) ?_
    refine lv_iconst (v := 4) hx hb dX6_errorOfField_15 (by decide) ?_
    refine lv_icmp_ne (tgt := 23) hx hb dX6_errorOfField_16 (by decide) (fun c => ?_) (fun c => ?_)
    · have hw := hw.1 c
      refine lv_iconst (v := 0) hx hb dX6_errorOfField_23 (by decide) ?_
      refine W.widen (k := 0) (n := 0) (Nat.le_of_ble_eq_true rfl) (Nat.le_of_ble_eq_true rfl) ?_
      exact hb_24 (0 : Int32) _ _ _ ls I (lv_sub hl [0, 1, 3] rfl) hw
    · have hw := hw.2 c
      refine lv_iconst (v := 1) hx hb dX6_errorOfField_19 (by decide) ?_
      refine lv_goto (tgt := 24) hx hb dX6_errorOfField_20 (by decide) ?_
      refine W.widen (k := 0) (n := 0) (Nat.le_of_ble_eq_true rfl) (Nat.le_of_ble_eq_true rfl) ?_
      exact hb_24 (1 : Int32) _ _ _ ls I (lv_sub hl [0, 1, 3] rfl) hw
  · have hw := hw.2 c
    refine lv_iconst (v := 1) hx hb dX6_errorOfField_12 (by decide) ?_
    exact z_iret C I hr ⟨_, rfl, hw⟩ (Nat.le_of_ble_eq_true rfl) (Nat.le_of_ble_eq_true rfl) dX6_errorOfField_13
set_option maxHeartbeats 4000000 in
set_option maxRecDepth 100000 in
theorem m_X6_field {X : zX} {l : Launch} (E : zEnv X l) {M : zM} {o : Nat} {p0 : Int32} {p1 : Int32} {p2 : Int32} {p3 : Int32} {P : Int32 → zM → Prop} {PX : Nat → zM → Prop} (hw : w_X6_field o p0 p1 p2 p3 M P) : zCT X l yX6_field cX6_field 6 (some .int) 4 92 0 0 M [.ref o, .int p0, .int p1, .int p2, .int p3] (zPi P) PX := by
  refine z_entry E (by decide) ?_
  intro p e s m args below meth c C hr htab I
  have hx := C.1.1
  have hb := C.1.2.1
  obtain ⟨ls, he, hl⟩ := z_enter (m := m) (n := 6) (vs := [.ref o, .int p0, .int p1, .int p2, .int p3]) (l := [(0, .ref o), (1, .int p0), (2, .int p1), (3, .int p2), (4, .int p3)]) (Nat.le_of_ble_eq_true rfl) rfl
  rw [he]
  clear he
  unfold w_X6_field at hw
  have hb_116 : ∀ (y0 : Int32) (y1 : Int32) (y2 : Int32) (y3 : Nat) (M : zM) (H : Heap) (locs : List Loc) (ls : Array Slot), zWk X s M H locs → lv_has ls 6 [(0, .ref o)] → w_X6_field_116 o p0 p1 p2 p3 P y0 y1 y2 y3 M → W p l e (zRm 4 92 0 0) s m args below meth c H locs 0 0 (vx_MQ below (zQc X (zPi P)) (zXc X PX) args s 0 0 (zBase X)) (F0 m 116 ls [.int y0, .int y1, .int y2, .ref y3]) := by
    intro y0 y1 y2 y3 M H locs ls I hl hw
    unfold w_X6_field_116 at hw
    refine lv_iadd hx hb dX6_field_116 ?_
    refine z_iast C I hw dX6_field_117 (fun M1 _ _ I hw => ?_)
    refine lv_aload_n hx hb dX6_field_118 rfl (lv_at hl 0 rfl) ?_
    refine z_getr C I fl_X6_29 hw dX6_field_119 (fun v2 hw => ?_)
    refine lv_bipush (v := 36) hx hb dX6_field_122 (by decide) ?_
    refine lv_dup2_11 hx hb dX6_field_124 rfl rfl ?_
    refine z_iald C I hw dX6_field_125 (fun v3 hw => ?_)
    refine lv_iconst (v := 1) hx hb dX6_field_126 (by decide) ?_
    refine lv_iadd hx hb dX6_field_127 ?_
    refine z_iast C I hw dX6_field_128 (fun M4 _ _ I hw => ?_)
    refine lv_aload_n hx hb dX6_field_129 rfl (lv_at hl 0 rfl) ?_
    refine z_getr C I fl_X6_29 hw dX6_field_130 (fun v5 hw => ?_)
    refine lv_bipush (v := 36) hx hb dX6_field_133 (by decide) ?_
    refine z_iald C I hw dX6_field_135 (fun v6 hw => ?_)
    exact z_iret C I hr ⟨_, rfl, hw⟩ (Nat.le_of_ble_eq_true rfl) (Nat.le_of_ble_eq_true rfl) dX6_field_136
  have hb_63 : ∀ (x5 : Int32) (y0 : Int32) (y1 : Int32) (y2 : Nat) (M : zM) (H : Heap) (locs : List Loc) (ls : Array Slot), zWk X s M H locs → lv_has ls 6 [(0, .ref o), (2, .int p1), (3, .int p2), (4, .int p3), (5, .int x5)] → w_X6_field_63 o p0 p1 p2 p3 P x5 y0 y1 y2 M → W p l e (zRm 4 92 0 0) s m args below meth c H locs 0 0 (vx_MQ below (zQc X (zPi P)) (zXc X PX) args s 0 0 (zBase X)) (F0 m 63 ls [.int y0, .int y1, .ref y2]) := by
    intro x5 y0 y1 y2 M H locs ls I hl hw
    unfold w_X6_field_63 at hw
    refine z_iast C I hw dX6_field_63 (fun M7 _ _ I hw => ?_)
    refine lv_aload_n hx hb dX6_field_64 rfl (lv_at hl 0 rfl) ?_
    refine z_getr C I fl_X6_19 hw dX6_field_65 (fun v8 hw => ?_)
    refine lv_iload hx hb dX6_field_68 (lv_at hl 4 rfl) ?_
    refine lv_iload hx hb dX6_field_70 (lv_at hl 3 rfl) ?_
    refine z_iast C I hw dX6_field_72 (fun M9 _ _ I hw => ?_)
    refine lv_aload_n hx hb dX6_field_73 rfl (lv_at hl 0 rfl) ?_
    refine z_getr C I fl_X6_22 hw dX6_field_74 (fun v10 hw => ?_)
    refine lv_iload hx hb dX6_field_77 (lv_at hl 4 rfl) ?_
    refine lv_iconst (v := 0) hx hb dX6_field_79 (by decide) ?_
    refine z_zast C I hw dX6_field_80 (fun M11 _ _ I hw => ?_)
    refine lv_aload_n hx hb dX6_field_81 rfl (lv_at hl 0 rfl) ?_
    refine z_getr C I fl_X6_26 hw dX6_field_82 (fun v12 hw => ?_)
    refine lv_iload hx hb dX6_field_85 (lv_at hl 4 rfl) ?_
    refine lv_iconst (v := 0) hx hb dX6_field_87 (by decide) ?_
    refine z_iast C I hw dX6_field_88 (fun M13 _ _ I hw => ?_)
    refine lv_aload_n hx hb dX6_field_89 rfl (lv_at hl 0 rfl) ?_
    refine z_getr C I fl_X6_32 hw dX6_field_90 (fun v14 hw => ?_)
    refine lv_bipush (v := 36) hx hb dX6_field_93 (by decide) ?_
    refine lv_dup2_11 hx hb dX6_field_95 rfl rfl ?_
    refine z_iald C I hw dX6_field_96 (fun v15 hw => ?_)
    refine lv_iload_n hx hb dX6_field_97 rfl (lv_at hl 1 rfl) ?_
    refine lv_iconst (v := 4) hx hb dX6_field_98 (by decide) ?_
    refine lv_icmp_ne (tgt := 115) hx hb dX6_field_99 (by decide) (fun c => ?_) (fun c => ?_)
    · have hw := hw.1 c
      refine lv_iconst (v := 1) hx hb dX6_field_115 (by decide) ?_
      refine W.widen (k := 0) (n := 0) (Nat.le_of_ble_eq_true rfl) (Nat.le_of_ble_eq_true rfl) ?_
      exact hb_116 (1 : Int32) v15 (36 : Int32) v14 _ _ _ ls I (lv_sub hl [0] rfl) hw
    · have hw := hw.2 c
      refine lv_aload_n hx hb dX6_field_102 rfl (lv_at hl 0 rfl) ?_
      refine z_getr C I fl_X6_32 hw dX6_field_103 (fun v16 hw => ?_)
      refine lv_aload_n hx hb dX6_field_106 rfl (lv_at hl 0 rfl) ?_
      refine lv_iload_n hx hb dX6_field_107 rfl (lv_at hl 2 rfl) ?_
      obtain ⟨hrc, hw⟩ := hw
      refine z_callV C I (as := [.int p2]) (rest := [.ref v16, .int v15, .int (36 : Int32), .ref v14]) (m_X6_schemaOf E hw) kv_X6_90 vc_7 hrc rfl rfl hl.1 (Nat.le_of_ble_eq_true rfl) ⟨Nat.le_of_ble_eq_true rfl, Nat.le_of_ble_eq_true rfl⟩ ⟨Nat.le_of_ble_eq_true rfl, Nat.le_of_ble_eq_true rfl⟩ dX6_field_108 (z_prop C htab (Nat.le_of_ble_eq_true rfl) (Nat.le_of_ble_eq_true rfl)) (fun v M17 _ _ I hv => ?_)
      obtain ⟨v18, rfl, hw⟩ := hv
      refine W.eq (g2 := F0 m 111 ls [.int v18, .ref v16, .int v15, .int (36 : Int32), .ref v14]) rfl ?_
      refine z_iald C I hw dX6_field_111 (fun v19 hw => ?_)
      refine lv_goto (tgt := 116) hx hb dX6_field_112 (by decide) ?_
      refine W.widen (k := 0) (n := 0) (Nat.le_of_ble_eq_true rfl) (Nat.le_of_ble_eq_true rfl) ?_
      exact hb_116 v19 v15 (36 : Int32) v14 _ _ _ ls I (lv_sub hl [0] rfl) hw
  refine lv_aload_n hx hb dX6_field_0 rfl (lv_at hl 0 rfl) ?_
  refine lv_aload_n hx hb dX6_field_1 rfl (lv_at hl 0 rfl) ?_
  refine lv_iload_n hx hb dX6_field_2 rfl (lv_at hl 1 rfl) ?_
  refine lv_iload_n hx hb dX6_field_3 rfl (lv_at hl 2 rfl) ?_
  refine lv_iload_n hx hb dX6_field_4 rfl (lv_at hl 3 rfl) ?_
  refine lv_iload hx hb dX6_field_5 (lv_at hl 4 rfl) ?_
  obtain ⟨hrc, hw⟩ := hw
  refine z_callV C I (as := [.int p0, .int p1, .int p2, .int p3]) (rest := [.ref o]) (m_X6_errorOfField E hw) kv_X6_98 vc_7 hrc rfl rfl hl.1 (Nat.le_of_ble_eq_true rfl) ⟨Nat.le_of_ble_eq_true rfl, Nat.le_of_ble_eq_true rfl⟩ ⟨Nat.le_of_ble_eq_true rfl, Nat.le_of_ble_eq_true rfl⟩ dX6_field_7 (z_prop C htab (Nat.le_of_ble_eq_true rfl) (Nat.le_of_ble_eq_true rfl)) (fun v M20 _ _ I hv => ?_)
  obtain ⟨v21, rfl, hw⟩ := hv
  refine W.eq (g2 := F0 m 10 ls [.int v21, .ref o]) rfl ?_
  obtain ⟨hrc, hw⟩ := hw
  refine z_callV C I (as := [.int v21]) (rest := []) (m_X6_holds E hw) kv_X6_102 vc_7 hrc rfl rfl hl.1 (Nat.le_of_ble_eq_true rfl) ⟨Nat.le_of_ble_eq_true rfl, Nat.le_of_ble_eq_true rfl⟩ ⟨Nat.le_of_ble_eq_true rfl, Nat.le_of_ble_eq_true rfl⟩ dX6_field_10 (z_prop C htab (Nat.le_of_ble_eq_true rfl) (Nat.le_of_ble_eq_true rfl)) (fun v M22 _ _ I hv => ?_)
  obtain ⟨v23, rfl, hv23, hw⟩ := hv
  refine W.eq (g2 := F0 m 13 ls [.int v23]) rfl ?_
  refine lv_if_ne (tgt := 18) hx hb dX6_field_13 (by decide) (fun c => ?_) (fun c => ?_)
  · have hw := hw.1 c
    refine lv_sipush (v := 180) hx hb dX6_field_18 (by decide) ?_
    refine lv_aload_n hx hb dX6_field_21 rfl (lv_at hl 0 rfl) ?_
    refine z_getr C I fl_X6_29 hw dX6_field_22 (fun v24 hw => ?_)
    refine lv_bipush (v := 36) hx hb dX6_field_25 (by decide) ?_
    refine z_iald C I hw dX6_field_27 (fun v25 hw => ?_)
    refine lv_iadd hx hb dX6_field_28 ?_
    refine lv_istore (lv' := [(5, .int ((180 : Int32) + v25)), (0, .ref o), (1, .int p0), (2, .int p1), (3, .int p2), (4, .int p3)]) hx hb dX6_field_29 hl (by decide) rfl (fun ls hl => ?_)
    refine lv_aload_n hx hb dX6_field_31 rfl (lv_at hl 1 rfl) ?_
    refine z_getr C I fl_X6_7 hw dX6_field_32 (fun v26 hw => ?_)
    refine lv_iload hx hb dX6_field_35 (lv_at hl 0 rfl) ?_
    refine lv_iload_n hx hb dX6_field_37 rfl (lv_at hl 2 rfl) ?_
    refine z_iast C I hw dX6_field_38 (fun M27 _ _ I hw => ?_)
    refine lv_aload_n hx hb dX6_field_39 rfl (lv_at hl 1 rfl) ?_
    refine z_getr C I fl_X6_13 hw dX6_field_40 (fun v28 hw => ?_)
    refine lv_iload hx hb dX6_field_43 (lv_at hl 0 rfl) ?_
    refine lv_iload_n hx hb dX6_field_45 rfl (lv_at hl 3 rfl) ?_
    refine z_iast C I hw dX6_field_46 (fun M29 _ _ I hw => ?_)
    refine lv_aload_n hx hb dX6_field_47 rfl (lv_at hl 1 rfl) ?_
    refine z_getr C I fl_X6_16 hw dX6_field_48 (fun v30 hw => ?_)
    refine lv_iload hx hb dX6_field_51 (lv_at hl 0 rfl) ?_
    refine lv_iload_n hx hb dX6_field_53 rfl (lv_at hl 3 rfl) ?_
    refine lv_iconst (v := 2) hx hb dX6_field_54 (by decide) ?_
    refine lv_icmp_le (tgt := 62) hx hb dX6_field_55 (by decide) (fun c => ?_) (fun c => ?_)
    · have hw := hw.1 c
      refine lv_iconst (v := 0) hx hb dX6_field_62 (by decide) ?_
      refine W.widen (k := 0) (n := 0) (Nat.le_of_ble_eq_true rfl) (Nat.le_of_ble_eq_true rfl) ?_
      exact hb_63 ((180 : Int32) + v25) (0 : Int32) ((180 : Int32) + v25) v30 _ _ _ ls I (lv_sub hl [1, 3, 4, 5, 0] rfl) hw
    · have hw := hw.2 c
      refine lv_iload_n hx hb dX6_field_58 rfl (lv_at hl 4 rfl) ?_
      refine lv_goto (tgt := 63) hx hb dX6_field_59 (by decide) ?_
      refine W.widen (k := 0) (n := 0) (Nat.le_of_ble_eq_true rfl) (Nat.le_of_ble_eq_true rfl) ?_
      exact hb_63 ((180 : Int32) + v25) p2 ((180 : Int32) + v25) v30 _ _ _ ls I (lv_sub hl [1, 3, 4, 5, 0] rfl) hw
  · have hw := hw.2 c
    refine lv_iconst (v := 0) hx hb dX6_field_16 (by decide) ?_
    exact z_iret C I hr ⟨_, rfl, hw⟩ (Nat.le_of_ble_eq_true rfl) (Nat.le_of_ble_eq_true rfl) dX6_field_17
set_option maxHeartbeats 4000000 in
set_option maxRecDepth 100000 in
theorem m_X6_isValue {X : zX} {l : Launch} (E : zEnv X l) {M : zM} {o : Nat} {p0 : Int32} {p1 : Int32} {P : Int32 → zM → Prop} {PX : Nat → zM → Prop} (hw : w_X6_isValue o p0 p1 M P) : zCT X l yX6_isValue cX6_isValue 4 (some .boolean) 1 22 0 0 M [.ref o, .int p0, .int p1] (zPz P) PX := by
  refine z_entry E (by decide) ?_
  intro p e s m args below meth c C hr htab I
  have hx := C.1.1
  have hb := C.1.2.1
  obtain ⟨ls, he, hl⟩ := z_enter (m := m) (n := 4) (vs := [.ref o, .int p0, .int p1]) (l := [(0, .ref o), (1, .int p0), (2, .int p1)]) (Nat.le_of_ble_eq_true rfl) rfl
  rw [he]
  clear he
  unfold w_X6_isValue at hw
  have hb_37 : ∀ (M : zM) (H : Heap) (locs : List Loc) (ls : Array Slot), zWk X s M H locs → lv_has ls 4 [] → w_X6_isValue_37 o p0 p1 P M → W p l e (zRm 1 22 0 0) s m args below meth c H locs 0 0 (vx_MQ below (zQc X (zPz P)) (zXc X PX) args s 0 0 (zBase X)) (F0 m 37 ls []) := by
    intro M H locs ls I hl hw
    unfold w_X6_isValue_37 at hw
    refine lv_iconst (v := 1) hx hb dX6_isValue_37 (by decide) ?_
    refine lv_goto (tgt := 42) hx hb dX6_isValue_38 (by decide) ?_
    exact z_zret C I hr (Or.inr rfl) ⟨_, rfl, (Or.inr rfl), hw⟩ (Nat.le_of_ble_eq_true rfl) (Nat.le_of_ble_eq_true rfl) dX6_isValue_42
  have hb_31 : ∀ (y0 : Int32) (y1 : Int32) (y2 : Int32) (M : zM) (H : Heap) (locs : List Loc) (ls : Array Slot), zWk X s M H locs → lv_has ls 4 [] → w_X6_isValue_31 o p0 p1 P y0 y1 y2 M → W p l e (zRm 1 22 0 0) s m args below meth c H locs 0 0 (vx_MQ below (zQc X (zPz P)) (zXc X PX) args s 0 0 (zBase X)) (F0 m 31 ls [.int y0, .int y1, .int y2]) := by
    intro y0 y1 y2 M H locs ls I hl hw
    unfold w_X6_isValue_31 at hw
    refine z_callS C I (as := [.int y2, .int y1, .int y0]) (rest := []) (m_X6_in E hw) ks_X6_75 rfl rfl hl.1 (Nat.le_of_ble_eq_true rfl) ⟨Nat.le_of_ble_eq_true rfl, Nat.le_of_ble_eq_true rfl⟩ ⟨Nat.le_of_ble_eq_true rfl, Nat.le_of_ble_eq_true rfl⟩ dX6_isValue_31 (z_prop C htab (Nat.le_of_ble_eq_true rfl) (Nat.le_of_ble_eq_true rfl)) (fun v M1 _ _ I hv => ?_)
    obtain ⟨v2, rfl, hv2, hw⟩ := hv
    refine W.eq (g2 := F0 m 34 ls [.int v2]) rfl ?_
    refine lv_if_eq (tgt := 41) hx hb dX6_isValue_34 (by decide) (fun c => ?_) (fun c => ?_)
    · have hw := hw.1 c
      refine lv_iconst (v := 0) hx hb dX6_isValue_41 (by decide) ?_
      exact z_zret C I hr (Or.inl rfl) ⟨_, rfl, (Or.inl rfl), hw⟩ (Nat.le_of_ble_eq_true rfl) (Nat.le_of_ble_eq_true rfl) dX6_isValue_42
    · have hw := hw.2 c
      refine W.widen (k := 0) (n := 0) (Nat.le_of_ble_eq_true rfl) (Nat.le_of_ble_eq_true rfl) ?_
      exact hb_37 _ _ _ ls I (lv_sub hl [] rfl) hw
  refine lv_aload_n hx hb dX6_isValue_0 rfl (lv_at hl 0 rfl) ?_
  refine z_getr C I fl_X6_13 hw dX6_isValue_1 (fun v3 hw => ?_)
  refine lv_iload_n hx hb dX6_isValue_4 rfl (lv_at hl 1 rfl) ?_
  refine z_iald C I hw dX6_isValue_5 (fun v4 hw => ?_)
  refine lv_istore_n (lv' := [(3, .int v4), (0, .ref o), (1, .int p0), (2, .int p1)]) hx hb dX6_isValue_6 rfl hl (by decide) rfl (fun ls hl => ?_)
  refine lv_iload_n hx hb dX6_isValue_7 rfl (lv_at hl 0 rfl) ?_
  refine lv_iconst (v := 2) hx hb dX6_isValue_8 (by decide) ?_
  refine lv_icmp_lt (tgt := 37) hx hb dX6_isValue_9 (by decide) (fun c => ?_) (fun c => ?_)
  · have hw := hw.1 c
    refine W.widen (k := 0) (n := 0) (Nat.le_of_ble_eq_true rfl) (Nat.le_of_ble_eq_true rfl) ?_
    exact hb_37 _ _ _ ls I (lv_sub hl [] rfl) hw
  · have hw := hw.2 c
    refine lv_iload_n hx hb dX6_isValue_12 rfl (lv_at hl 3 rfl) ?_
    refine lv_iconst (v := 0) hx hb dX6_isValue_13 (by decide) ?_
    refine lv_iload_n hx hb dX6_isValue_14 rfl (lv_at hl 0 rfl) ?_
    refine lv_iconst (v := 2) hx hb dX6_isValue_15 (by decide) ?_
    refine lv_icmp_ne (tgt := 23) hx hb dX6_isValue_16 (by decide) (fun c => ?_) (fun c => ?_)
    · have hw := hw.1 c
      refine lv_aload_n hx hb dX6_isValue_23 rfl (lv_at hl 1 rfl) ?_
      refine z_getr C I fl_X6_16 hw dX6_isValue_24 (fun v5 hw => ?_)
      refine lv_iload_n hx hb dX6_isValue_27 rfl (lv_at hl 2 rfl) ?_
      refine z_iald C I hw dX6_isValue_28 (fun v6 hw => ?_)
      refine lv_iconst (v := 1) hx hb dX6_isValue_29 (by decide) ?_
      refine lv_isub hx hb dX6_isValue_30 ?_
      refine W.widen (k := 0) (n := 0) (Nat.le_of_ble_eq_true rfl) (Nat.le_of_ble_eq_true rfl) ?_
      exact hb_31 (v6 - (1 : Int32)) (0 : Int32) p1 _ _ _ ls I (lv_sub hl [] rfl) hw
    · have hw := hw.2 c
      refine lv_iconst (v := 1) hx hb dX6_isValue_19 (by decide) ?_
      refine lv_goto (tgt := 31) hx hb dX6_isValue_20 (by decide) ?_
      refine W.widen (k := 0) (n := 0) (Nat.le_of_ble_eq_true rfl) (Nat.le_of_ble_eq_true rfl) ?_
      exact hb_31 (1 : Int32) (0 : Int32) p1 _ _ _ ls I (lv_sub hl [] rfl) hw
set_option maxHeartbeats 4000000 in
set_option maxRecDepth 100000 in
theorem m_X6_byDefault {X : zX} {l : Launch} (E : zEnv X l) {M : zM} {o : Nat} {p0 : Int32} {P : Int32 → zM → Prop} {PX : Nat → zM → Prop} (hw : w_X6_byDefault o p0 M P) : zCT X l yX6_byDefault cX6_byDefault 3 (some .int) 2 45 0 0 M [.ref o, .int p0] (zPi P) PX := by
  refine z_entry E (by decide) ?_
  intro p e s m args below meth c C hr htab I
  have hx := C.1.1
  have hb := C.1.2.1
  obtain ⟨ls, he, hl⟩ := z_enter (m := m) (n := 3) (vs := [.ref o, .int p0]) (l := [(0, .ref o), (1, .int p0)]) (Nat.le_of_ble_eq_true rfl) rfl
  rw [he]
  clear he
  unfold w_X6_byDefault at hw
  have hb_53 : ∀ (x2 : Int32) (y0 : Int32) (y1 : Nat) (M : zM) (H : Heap) (locs : List Loc) (ls : Array Slot), zWk X s M H locs → lv_has ls 3 [(0, .ref o), (1, .int p0), (2, .int x2)] → w_X6_byDefault_53 o p0 P x2 y0 y1 M → W p l e (zRm 2 45 0 0) s m args below meth c H locs 0 0 (vx_MQ below (zQc X (zPi P)) (zXc X PX) args s 0 0 (zBase X)) (F0 m 53 ls [.int y0, .ref y1]) := by
    intro x2 y0 y1 M H locs ls I hl hw
    unfold w_X6_byDefault_53 at hw
    obtain ⟨hrc, hw⟩ := hw
    refine z_callV C I (as := [.int y0]) (rest := []) (m_X6_holds E hw) kv_X6_102 vc_7 hrc rfl rfl hl.1 (Nat.le_of_ble_eq_true rfl) ⟨Nat.le_of_ble_eq_true rfl, Nat.le_of_ble_eq_true rfl⟩ ⟨Nat.le_of_ble_eq_true rfl, Nat.le_of_ble_eq_true rfl⟩ dX6_byDefault_53 (z_prop C htab (Nat.le_of_ble_eq_true rfl) (Nat.le_of_ble_eq_true rfl)) (fun v M1 _ _ I hv => ?_)
    obtain ⟨v2, rfl, hv2, hw⟩ := hv
    refine W.eq (g2 := F0 m 56 ls [.int v2]) rfl ?_
    refine lv_if_ne (tgt := 61) hx hb dX6_byDefault_56 (by decide) (fun c => ?_) (fun c => ?_)
    · have hw := hw.1 c
      refine lv_aload_n hx hb dX6_byDefault_61 rfl (lv_at hl 0 rfl) ?_
      refine z_getr C I fl_X6_22 hw dX6_byDefault_62 (fun v3 hw => ?_)
      refine lv_iload_n hx hb dX6_byDefault_65 rfl (lv_at hl 2 rfl) ?_
      refine lv_iconst (v := 1) hx hb dX6_byDefault_66 (by decide) ?_
      refine z_zast C I hw dX6_byDefault_67 (fun M4 _ _ I hw => ?_)
      refine lv_aload_n hx hb dX6_byDefault_68 rfl (lv_at hl 0 rfl) ?_
      refine z_getr C I fl_X6_26 hw dX6_byDefault_69 (fun v5 hw => ?_)
      refine lv_iload_n hx hb dX6_byDefault_72 rfl (lv_at hl 2 rfl) ?_
      refine lv_iload_n hx hb dX6_byDefault_73 rfl (lv_at hl 1 rfl) ?_
      refine z_iast C I hw dX6_byDefault_74 (fun M6 _ _ I hw => ?_)
      refine lv_aload_n hx hb dX6_byDefault_75 rfl (lv_at hl 0 rfl) ?_
      refine z_getr C I fl_X6_7 hw dX6_byDefault_76 (fun v7 hw => ?_)
      refine lv_iload_n hx hb dX6_byDefault_79 rfl (lv_at hl 2 rfl) ?_
      refine z_iald C I hw dX6_byDefault_80 (fun v8 hw => ?_)
      exact z_iret C I hr ⟨_, rfl, hw⟩ (Nat.le_of_ble_eq_true rfl) (Nat.le_of_ble_eq_true rfl) dX6_byDefault_81
    · have hw := hw.2 c
      refine lv_iconst (v := 0) hx hb dX6_byDefault_59 (by decide) ?_
      exact z_iret C I hr ⟨_, rfl, hw⟩ (Nat.le_of_ble_eq_true rfl) (Nat.le_of_ble_eq_true rfl) dX6_byDefault_60
  have hb_35 : ∀ (x2 : Int32) (y0 : Nat) (M : zM) (H : Heap) (locs : List Loc) (ls : Array Slot), zWk X s M H locs → lv_has ls 3 [(0, .ref o), (1, .int p0), (2, .int x2)] → w_X6_byDefault_35 o p0 P x2 y0 M → W p l e (zRm 2 45 0 0) s m args below meth c H locs 0 0 (vx_MQ below (zQc X (zPi P)) (zXc X PX) args s 0 0 (zBase X)) (F0 m 35 ls [.ref y0]) := by
    intro x2 y0 M H locs ls I hl hw
    unfold w_X6_byDefault_35 at hw
    refine lv_iconst (v := 1) hx hb dX6_byDefault_35 (by decide) ?_
    refine lv_goto (tgt := 53) hx hb dX6_byDefault_36 (by decide) ?_
    refine W.widen (k := 0) (n := 0) (Nat.le_of_ble_eq_true rfl) (Nat.le_of_ble_eq_true rfl) ?_
    exact hb_53 x2 (1 : Int32) y0 _ _ _ ls I (lv_sub hl [0, 1, 2] rfl) hw
  refine lv_sipush (v := 180) hx hb dX6_byDefault_0 (by decide) ?_
  refine lv_aload_n hx hb dX6_byDefault_3 rfl (lv_at hl 0 rfl) ?_
  refine z_getr C I fl_X6_29 hw dX6_byDefault_4 (fun v9 hw => ?_)
  refine lv_bipush (v := 36) hx hb dX6_byDefault_7 (by decide) ?_
  refine z_iald C I hw dX6_byDefault_9 (fun v10 hw => ?_)
  refine lv_iadd hx hb dX6_byDefault_10 ?_
  refine lv_iconst (v := 1) hx hb dX6_byDefault_11 (by decide) ?_
  refine lv_isub hx hb dX6_byDefault_12 ?_
  refine lv_istore_n (lv' := [(2, .int (((180 : Int32) + v10) - (1 : Int32))), (0, .ref o), (1, .int p0)]) hx hb dX6_byDefault_13 rfl hl (by decide) rfl (fun ls hl => ?_)
  refine lv_aload_n hx hb dX6_byDefault_14 rfl (lv_at hl 1 rfl) ?_
  refine lv_aload_n hx hb dX6_byDefault_15 rfl (lv_at hl 1 rfl) ?_
  refine z_getr C I fl_X6_29 hw dX6_byDefault_16 (fun v11 hw => ?_)
  refine lv_bipush (v := 36) hx hb dX6_byDefault_19 (by decide) ?_
  refine z_iald C I hw dX6_byDefault_21 (fun v12 hw => ?_)
  refine lv_if_eq (tgt := 35) hx hb dX6_byDefault_22 (by decide) (fun c => ?_) (fun c => ?_)
  · have hw := hw.1 c
    refine W.widen (k := 0) (n := 0) (Nat.le_of_ble_eq_true rfl) (Nat.le_of_ble_eq_true rfl) ?_
    exact hb_35 (((180 : Int32) + v10) - (1 : Int32)) o _ _ _ ls I (lv_sub hl [1, 2, 0] rfl) hw
  · have hw := hw.2 c
    refine lv_aload_n hx hb dX6_byDefault_25 rfl (lv_at hl 1 rfl) ?_
    refine z_getr C I fl_X6_13 hw dX6_byDefault_26 (fun v13 hw => ?_)
    refine lv_iload_n hx hb dX6_byDefault_29 rfl (lv_at hl 0 rfl) ?_
    refine z_iald C I hw dX6_byDefault_30 (fun v14 hw => ?_)
    refine lv_iconst (v := 4) hx hb dX6_byDefault_31 (by decide) ?_
    refine lv_icmp_ne (tgt := 39) hx hb dX6_byDefault_32 (by decide) (fun c => ?_) (fun c => ?_)
    · have hw := hw.1 c
      refine lv_aload_n hx hb dX6_byDefault_39 rfl (lv_at hl 1 rfl) ?_
      refine lv_iload_n hx hb dX6_byDefault_40 rfl (lv_at hl 0 rfl) ?_
      refine lv_iload_n hx hb dX6_byDefault_41 rfl (lv_at hl 2 rfl) ?_
      obtain ⟨hrc, hw⟩ := hw
      refine z_callV C I (as := [.int (((180 : Int32) + v10) - (1 : Int32)), .int p0]) (rest := [.ref o]) (m_X6_isValue E hw) kv_X6_106 vc_7 hrc rfl rfl hl.1 (Nat.le_of_ble_eq_true rfl) ⟨Nat.le_of_ble_eq_true rfl, Nat.le_of_ble_eq_true rfl⟩ ⟨Nat.le_of_ble_eq_true rfl, Nat.le_of_ble_eq_true rfl⟩ dX6_byDefault_42 (z_prop C htab (Nat.le_of_ble_eq_true rfl) (Nat.le_of_ble_eq_true rfl)) (fun v M15 _ _ I hv => ?_)
      obtain ⟨v16, rfl, hv16, hw⟩ := hv
      refine W.eq (g2 := F0 m 45 ls [.int v16, .ref o]) rfl ?_
      refine lv_if_eq (tgt := 52) hx hb dX6_byDefault_45 (by decide) (fun c => ?_) (fun c => ?_)
      · have hw := hw.1 c
        refine lv_iconst (v := 2) hx hb dX6_byDefault_52 (by decide) ?_
        refine W.widen (k := 0) (n := 0) (Nat.le_of_ble_eq_true rfl) (Nat.le_of_ble_eq_true rfl) ?_
        exact hb_53 (((180 : Int32) + v10) - (1 : Int32)) (2 : Int32) o _ _ _ ls I (lv_sub hl [1, 2, 0] rfl) hw
      · have hw := hw.2 c
        refine lv_iconst (v := 0) hx hb dX6_byDefault_48 (by decide) ?_
        refine lv_goto (tgt := 53) hx hb dX6_byDefault_49 (by decide) ?_
        refine W.widen (k := 0) (n := 0) (Nat.le_of_ble_eq_true rfl) (Nat.le_of_ble_eq_true rfl) ?_
        exact hb_53 (((180 : Int32) + v10) - (1 : Int32)) (0 : Int32) o _ _ _ ls I (lv_sub hl [1, 2, 0] rfl) hw
    · have hw := hw.2 c
      refine W.widen (k := 0) (n := 0) (Nat.le_of_ble_eq_true rfl) (Nat.le_of_ble_eq_true rfl) ?_
      exact hb_35 (((180 : Int32) + v10) - (1 : Int32)) o _ _ _ ls I (lv_sub hl [1, 2, 0] rfl) hw
set_option maxHeartbeats 4000000 in
set_option maxRecDepth 100000 in
theorem m_X6_empties {X : zX} {l : Launch} (E : zEnv X l) {M : zM} {o : Nat} {P : zM → Prop} {PX : Nat → zM → Prop} (hw : w_X6_empties o M P) : zCT X l yX6_empties cX6_empties 1 none 0 0 0 0 M [.ref o] (zPv P) PX := by
  refine z_entry E (by decide) ?_
  intro p e s m args below meth c C hr htab I
  have hx := C.1.1
  have hb := C.1.2.1
  obtain ⟨ls, he, hl⟩ := z_enter (m := m) (n := 1) (vs := [.ref o]) (l := [(0, .ref o)]) (Nat.le_of_ble_eq_true rfl) rfl
  rw [he]
  clear he
  unfold w_X6_empties at hw
  refine lv_aload_n hx hb dX6_empties_0 rfl (lv_at hl 0 rfl) ?_
  refine z_getr C I fl_X6_29 hw dX6_empties_1 (fun v1 hw => ?_)
  refine lv_bipush (v := 36) hx hb dX6_empties_4 (by decide) ?_
  refine lv_iconst (v := 0) hx hb dX6_empties_6 (by decide) ?_
  refine z_iast C I hw dX6_empties_7 (fun M2 _ _ I hw => ?_)
  refine lv_aload_n hx hb dX6_empties_8 rfl (lv_at hl 0 rfl) ?_
  refine z_getr C I fl_X6_32 hw dX6_empties_9 (fun v3 hw => ?_)
  refine lv_bipush (v := 36) hx hb dX6_empties_12 (by decide) ?_
  refine lv_iconst (v := 0) hx hb dX6_empties_14 (by decide) ?_
  refine z_iast C I hw dX6_empties_15 (fun M4 _ _ I hw => ?_)
  exact z_vret C I hr ⟨rfl, hw⟩ (Nat.le_of_ble_eq_true rfl) (Nat.le_of_ble_eq_true rfl) dX6_empties_16
