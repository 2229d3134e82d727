set_option maxHeartbeats 4000000 in
set_option maxRecDepth 100000 in
theorem m_X3_refersTo {X : zX} {l : Launch} (E : zEnv X l) {M : zM} {o : Nat} {p0 : Int32} {P : Int32 → zM → Prop} {PX : Nat → zM → Prop} (hw : w_X3_refersTo o p0 M P) : zCT X l yX3_refersTo cX3_refersTo 4 (some .boolean) 4 86 0 0 M [.ref o, .int p0] (zPz P) PX := by
  refine z_entry E (by decide) ?_
  intro p e s m args below meth c C hr htab I
  have hx := C.1.1
  have hb := C.1.2.1
  obtain ⟨ls, he, hl⟩ := z_enter (m := m) (n := 4) (vs := [.ref o, .int p0]) (l := [(0, .ref o), (1, .int p0)]) (Nat.le_of_ble_eq_true rfl) rfl
  rw [he]
  clear he
  unfold w_X3_refersTo at hw
  have hb_2 : ∀ (n : Nat) (x2 : Int32) (M : zM) (H : Heap) (locs : List Loc) (ls : Array Slot), zWk X s M H locs → lv_has ls 4 [(0, .ref o), (1, .int p0), (2, .int x2)] → w_X3_refersTo_2 o p0 P n x2 M → W p l e (zRm 4 86 0 0) s m args below meth c H locs 0 0 (vx_MQ below (zQc X (zPz P)) (zXc X PX) args s 0 0 (zBase X)) (F0 m 2 ls []) := by
    intro n
    induction n with
    | zero => intro _ M H locs ls I hl hw; exact hw.elim
    | succ n ih =>
      intro x2 M H locs ls I hl hw
      unfold w_X3_refersTo_2 at hw
      have hb_46 : ∀ (x2 : Int32) (M : zM) (H : Heap) (locs : List Loc) (ls : Array Slot), zWk X s M H locs → lv_has ls 4 [(0, .ref o), (1, .int p0), (2, .int x2)] → w_X3_refersTo_46 o p0 P (w_X3_refersTo_2 o p0 P n) x2 M → W p l e (zRm 4 86 0 0) s m args below meth c H locs 0 0 (vx_MQ below (zQc X (zPz P)) (zXc X PX) args s 0 0 (zBase X)) (F0 m 46 ls []) := by
        intro x2 M H locs ls I hl hw
        unfold w_X3_refersTo_46 at hw
        refine lv_iinc (v := (x2 + 1)) (lv' := [(2, .int (x2 + 1)), (0, .ref o), (1, .int p0)]) hx hb dX3_refersTo_46 hl (k := 2) rfl (by rfl) (by decide) rfl (fun ls hl1 => ?_)
        refine lv_goto (tgt := 2) hx hb dX3_refersTo_49 (by decide) ?_
        refine W.widen (k := 0) (n := 0) (Nat.le_of_ble_eq_true rfl) (Nat.le_of_ble_eq_true rfl) ?_
        exact ih (x2 + 1) _ _ _ ls I (lv_sub hl1 [1, 2, 0] rfl) hw
      refine lv_iload_n hx hb dX3_refersTo_2 rfl (lv_at hl 2 rfl) ?_
      refine lv_aload_n hx hb dX3_refersTo_3 rfl (lv_at hl 0 rfl) ?_
      refine z_getr C I fl_X3_12 hw dX3_refersTo_4 (fun v2 hw => ?_)
      obtain ⟨hrc, hw⟩ := hw
      refine z_callV C I (as := []) (rest := [.int x2]) (m_Jx4a65c_size_8abf5 E hw) kv_X3_18 vc_0 hrc rfl rfl hl.1 (Nat.le_of_ble_eq_true rfl) ⟨Nat.le_of_ble_eq_true rfl, Nat.le_of_ble_eq_true rfl⟩ ⟨Nat.le_of_ble_eq_true rfl, Nat.le_of_ble_eq_true rfl⟩ dX3_refersTo_7 (z_prop C htab (Nat.le_of_ble_eq_true rfl) (Nat.le_of_ble_eq_true rfl)) (fun v M3 _ _ I hv => ?_)
      obtain ⟨v4, rfl, hw⟩ := hv
      refine W.eq (g2 := F0 m 10 ls [.int v4, .int x2]) rfl ?_
      refine lv_icmp_ge (tgt := 52) hx hb dX3_refersTo_10 (by decide) (fun c => ?_) (fun c => ?_)
      · replace hw := hw.1 c
        refine lv_iconst (v := 0) hx hb dX3_refersTo_52 (by decide) ?_
        exact z_zret C I hr (Or.inl rfl) ⟨_, rfl, (Or.inl rfl), hw⟩ (Nat.le_of_ble_eq_true rfl) (Nat.le_of_ble_eq_true rfl) dX3_refersTo_53
      · replace hw := hw.2 c
        refine lv_aload_n hx hb dX3_refersTo_13 rfl (lv_at hl 0 rfl) ?_
        refine z_getr C I fl_X3_12 hw dX3_refersTo_14 (fun v5 hw => ?_)
        refine lv_iload_n hx hb dX3_refersTo_17 rfl (lv_at hl 2 rfl) ?_
        obtain ⟨hrc, hw⟩ := hw
        refine z_callV C I (as := [.int x2]) (rest := []) (m_Jx4a65c_get_915e3 E hw) kv_X3_22 vc_0 hrc rfl rfl hl.1 (Nat.le_of_ble_eq_true rfl) ⟨Nat.le_of_ble_eq_true rfl, Nat.le_of_ble_eq_true rfl⟩ ⟨Nat.le_of_ble_eq_true rfl, Nat.le_of_ble_eq_true rfl⟩ dX3_refersTo_18 (z_prop C htab (Nat.le_of_ble_eq_true rfl) (Nat.le_of_ble_eq_true rfl)) (fun v M6 _ _ I hv => ?_)
        obtain ⟨v7, rfl, hw⟩ := hv
        refine W.eq (g2 := F0 m 21 ls [va_rf v7]) rfl ?_
        refine z_cast C I vc_5 (r := v7) zw329 hw dX3_refersTo_21 (fun a8 hw => ?_)
        refine lv_astore_n (lv' := [(3, .ref a8), (0, .ref o), (1, .int p0), (2, .int x2)]) hx hb dX3_refersTo_24 rfl hl (by decide) rfl (fun ls hl9 => ?_)
        refine lv_aload_n hx hb dX3_refersTo_25 rfl (lv_at hl9 0 rfl) ?_
        refine z_geti C I fl_X3_28 hw dX3_refersTo_26 (fun v10 hw => ?_)
        refine lv_iconst (v := 2) hx hb dX3_refersTo_29 (by decide) ?_
        refine lv_icmp_eq (tgt := 46) hx hb dX3_refersTo_30 (by decide) (fun c => ?_) (fun c => ?_)
        · replace hw := hw.1 c
          refine W.widen (k := 0) (n := 0) (Nat.le_of_ble_eq_true rfl) (Nat.le_of_ble_eq_true rfl) ?_
          exact hb_46 x2 _ _ _ ls I (lv_sub hl9 [1, 2, 3] rfl) hw
        · replace hw := hw.2 c
          refine lv_aload_n hx hb dX3_refersTo_33 rfl (lv_at hl9 0 rfl) ?_
          refine z_getr C I fl_X3_32 hw dX3_refersTo_34 (fun v11 hw => ?_)
          refine lv_iload_n hx hb dX3_refersTo_37 rfl (lv_at hl9 2 rfl) ?_
          obtain ⟨hrc, hw⟩ := hw
          refine z_callV C I (as := [.int p0]) (rest := []) (m_X2_refersTo E hw) kv_X3_42 vc_3 hrc rfl rfl hl9.1 (Nat.le_of_ble_eq_true rfl) ⟨Nat.le_of_ble_eq_true rfl, Nat.le_of_ble_eq_true rfl⟩ ⟨Nat.le_of_ble_eq_true rfl, Nat.le_of_ble_eq_true rfl⟩ dX3_refersTo_38 (z_prop C htab (Nat.le_of_ble_eq_true rfl) (Nat.le_of_ble_eq_true rfl)) (fun v M12 _ _ I hv => ?_)
          obtain ⟨v13, rfl, hv13, hw⟩ := hv
          refine W.eq (g2 := F0 m 41 ls [.int v13]) rfl ?_
          refine lv_if_eq (tgt := 46) hx hb dX3_refersTo_41 (by decide) (fun c => ?_) (fun c => ?_)
          · replace hw := hw.1 c
            refine W.widen (k := 0) (n := 0) (Nat.le_of_ble_eq_true rfl) (Nat.le_of_ble_eq_true rfl) ?_
            exact hb_46 x2 _ _ _ ls I (lv_sub hl9 [1, 2, 3] rfl) hw
          · replace hw := hw.2 c
            refine lv_iconst (v := 1) hx hb dX3_refersTo_44 (by decide) ?_
            exact z_zret C I hr (Or.inr rfl) ⟨_, rfl, (Or.inr rfl), hw⟩ (Nat.le_of_ble_eq_true rfl) (Nat.le_of_ble_eq_true rfl) dX3_refersTo_45
  refine lv_iconst (v := 0) hx hb dX3_refersTo_0 (by decide) ?_
  refine lv_istore_n (lv' := [(2, .int (0 : Int32)), (0, .ref o), (1, .int p0)]) hx hb dX3_refersTo_1 rfl hl (by decide) rfl (fun ls hl14 => ?_)
  obtain ⟨nn, hw⟩ := hw
  refine W.widen (k := 0) (n := 0) (Nat.le_of_ble_eq_true rfl) (Nat.le_of_ble_eq_true rfl) ?_
  exact hb_2 nn (0 : Int32) _ _ _ ls I (lv_sub hl14 [1, 2, 0] rfl) hw
set_option maxHeartbeats 4000000 in
set_option maxRecDepth 100000 in
theorem m_X5_isReferredTo {X : zX} {l : Launch} (E : zEnv X l) {M : zM} {o : Nat} {p0 : Int32} {P : Int32 → zM → Prop} {PX : Nat → zM → Prop} (hw : w_X5_isReferredTo o p0 M P) : zCT X l yX5_isReferredTo cX5_isReferredTo 3 (some .boolean) 5 109 0 0 M [.ref o, .int p0] (zPz P) PX := by
  refine z_entry E (by decide) ?_
  intro p e s m args below meth c C hr htab I
  have hx := C.1.1
  have hb := C.1.2.1
  obtain ⟨ls, he, hl⟩ := z_enter (m := m) (n := 3) (vs := [.ref o, .int p0]) (l := [(0, .ref o), (1, .int p0)]) (Nat.le_of_ble_eq_true rfl) rfl
  rw [he]
  clear he
  unfold w_X5_isReferredTo at hw
  have hb_15 : ∀ (n : Nat) (x2 : Int32) (M : zM) (H : Heap) (locs : List Loc) (ls : Array Slot), zWk X s M H locs → lv_has ls 3 [(0, .ref o), (1, .int p0), (2, .int x2)] → w_X5_isReferredTo_15 o p0 P n x2 M → W p l e (zRm 5 109 0 0) s m args below meth c H locs 0 0 (vx_MQ below (zQc X (zPz P)) (zXc X PX) args s 0 0 (zBase X)) (F0 m 15 ls []) := by
    intro n
    induction n with
    | zero => intro _ M H locs ls I hl hw; exact hw.elim
    | succ n ih =>
      intro x2 M H locs ls I hl hw
      unfold w_X5_isReferredTo_15 at hw
      refine lv_iload_n hx hb dX5_isReferredTo_15 rfl (lv_at hl 2 rfl) ?_
      refine lv_aload_n hx hb dX5_isReferredTo_16 rfl (lv_at hl 0 rfl) ?_
      refine z_getr C I fl_X5_10 hw dX5_isReferredTo_17 (fun v1 hw => ?_)
      obtain ⟨hrc, hw⟩ := hw
      refine z_callV C I (as := []) (rest := [.int x2]) (m_Jx4a65c_size_8abf5 E hw) kv_X5_84 vc_0 hrc rfl rfl hl.1 (Nat.le_of_ble_eq_true rfl) ⟨Nat.le_of_ble_eq_true rfl, Nat.le_of_ble_eq_true rfl⟩ ⟨Nat.le_of_ble_eq_true rfl, Nat.le_of_ble_eq_true rfl⟩ dX5_isReferredTo_20 (z_prop C htab (Nat.le_of_ble_eq_true rfl) (Nat.le_of_ble_eq_true rfl)) (fun v M2 _ _ I hv => ?_)
      obtain ⟨v3, rfl, hw⟩ := hv
      refine W.eq (g2 := F0 m 23 ls [.int v3, .int x2]) rfl ?_
      refine lv_icmp_ge (tgt := 52) hx hb dX5_isReferredTo_23 (by decide) (fun c => ?_) (fun c => ?_)
      · replace hw := hw.1 c
        refine lv_iconst (v := 0) hx hb dX5_isReferredTo_52 (by decide) ?_
        exact z_zret C I hr (Or.inl rfl) ⟨_, rfl, (Or.inl rfl), hw⟩ (Nat.le_of_ble_eq_true rfl) (Nat.le_of_ble_eq_true rfl) dX5_isReferredTo_53
      · replace hw := hw.2 c
        refine lv_aload_n hx hb dX5_isReferredTo_26 rfl (lv_at hl 0 rfl) ?_
        refine z_getr C I fl_X5_10 hw dX5_isReferredTo_27 (fun v4 hw => ?_)
        refine lv_iload_n hx hb dX5_isReferredTo_30 rfl (lv_at hl 2 rfl) ?_
        obtain ⟨hrc, hw⟩ := hw
        refine z_callV C I (as := [.int x2]) (rest := []) (m_Jx4a65c_get_915e3 E hw) kv_X5_242 vc_0 hrc rfl rfl hl.1 (Nat.le_of_ble_eq_true rfl) ⟨Nat.le_of_ble_eq_true rfl, Nat.le_of_ble_eq_true rfl⟩ ⟨Nat.le_of_ble_eq_true rfl, Nat.le_of_ble_eq_true rfl⟩ dX5_isReferredTo_31 (z_prop C htab (Nat.le_of_ble_eq_true rfl) (Nat.le_of_ble_eq_true rfl)) (fun v M5 _ _ I hv => ?_)
        obtain ⟨v6, rfl, hw⟩ := hv
        refine W.eq (g2 := F0 m 34 ls [va_rf v6]) rfl ?_
        refine z_cast C I vc_4 (r := v6) zw69 hw dX5_isReferredTo_34 (fun a7 hw => ?_)
        refine lv_iload_n hx hb dX5_isReferredTo_37 rfl (lv_at hl 1 rfl) ?_
        obtain ⟨hrc, hw⟩ := hw
        refine z_callV C I (as := [.int p0]) (rest := []) (m_X3_refersTo E hw) kv_X5_264 vc_4 hrc rfl rfl hl.1 (Nat.le_of_ble_eq_true rfl) ⟨Nat.le_of_ble_eq_true rfl, Nat.le_of_ble_eq_true rfl⟩ ⟨Nat.le_of_ble_eq_true rfl, Nat.le_of_ble_eq_true rfl⟩ dX5_isReferredTo_38 (z_prop C htab (Nat.le_of_ble_eq_true rfl) (Nat.le_of_ble_eq_true rfl)) (fun v M8 _ _ I hv => ?_)
        obtain ⟨v9, rfl, hv9, hw⟩ := hv
        refine W.eq (g2 := F0 m 41 ls [.int v9]) rfl ?_
        refine lv_if_eq (tgt := 46) hx hb dX5_isReferredTo_41 (by decide) (fun c => ?_) (fun c => ?_)
        · replace hw := hw.1 c
          refine lv_iinc (v := (x2 + 1)) (lv' := [(2, .int (x2 + 1)), (0, .ref o), (1, .int p0)]) hx hb dX5_isReferredTo_46 hl (k := 2) rfl (by rfl) (by decide) rfl (fun ls hl10 => ?_)
          refine lv_goto (tgt := 15) hx hb dX5_isReferredTo_49 (by decide) ?_
          refine W.widen (k := 0) (n := 0) (Nat.le_of_ble_eq_true rfl) (Nat.le_of_ble_eq_true rfl) ?_
          exact ih (x2 + 1) _ _ _ ls I (lv_sub hl10 [1, 2, 0] rfl) hw
        · replace hw := hw.2 c
          refine lv_iconst (v := 1) hx hb dX5_isReferredTo_44 (by decide) ?_
          exact z_zret C I hr (Or.inr rfl) ⟨_, rfl, (Or.inr rfl), hw⟩ (Nat.le_of_ble_eq_true rfl) (Nat.le_of_ble_eq_true rfl) dX5_isReferredTo_45
  refine lv_aload_n hx hb dX5_isReferredTo_0 rfl (lv_at hl 0 rfl) ?_
  refine z_getr C I fl_X5_29 hw dX5_isReferredTo_1 (fun v11 hw => ?_)
  refine lv_iload_n hx hb dX5_isReferredTo_4 rfl (lv_at hl 1 rfl) ?_
  obtain ⟨hrc, hw⟩ := hw
  refine z_callV C I (as := [.int p0]) (rest := []) (m_X2_refersTo E hw) kv_X5_261 vc_3 hrc rfl rfl hl.1 (Nat.le_of_ble_eq_true rfl) ⟨Nat.le_of_ble_eq_true rfl, Nat.le_of_ble_eq_true rfl⟩ ⟨Nat.le_of_ble_eq_true rfl, Nat.le_of_ble_eq_true rfl⟩ dX5_isReferredTo_5 (z_prop C htab (Nat.le_of_ble_eq_true rfl) (Nat.le_of_ble_eq_true rfl)) (fun v M12 _ _ I hv => ?_)
  obtain ⟨v13, rfl, hv13, hw⟩ := hv
  refine W.eq (g2 := F0 m 8 ls [.int v13]) rfl ?_
  refine lv_if_eq (tgt := 13) hx hb dX5_isReferredTo_8 (by decide) (fun c => ?_) (fun c => ?_)
  · replace hw := hw.1 c
    refine lv_iconst (v := 0) hx hb dX5_isReferredTo_13 (by decide) ?_
    refine lv_istore_n (lv' := [(2, .int (0 : Int32)), (0, .ref o), (1, .int p0)]) hx hb dX5_isReferredTo_14 rfl hl (by decide) rfl (fun ls hl14 => ?_)
    obtain ⟨nn, hw⟩ := hw
    refine W.widen (k := 0) (n := 0) (Nat.le_of_ble_eq_true rfl) (Nat.le_of_ble_eq_true rfl) ?_
    exact hb_15 nn (0 : Int32) _ _ _ ls I (lv_sub hl14 [1, 2, 0] rfl) hw
  · replace hw := hw.2 c
    refine lv_iconst (v := 1) hx hb dX5_isReferredTo_11 (by decide) ?_
    exact z_zret C I hr (Or.inr rfl) ⟨_, rfl, (Or.inr rfl), hw⟩ (Nat.le_of_ble_eq_true rfl) (Nat.le_of_ble_eq_true rfl) dX5_isReferredTo_12
set_option maxHeartbeats 4000000 in
set_option maxRecDepth 100000 in
theorem m_X3_countThere {X : zX} {l : Launch} (E : zEnv X l) {M : zM} {o : Nat} {P : Int32 → zM → Prop} {PX : Nat → zM → Prop} (hw : w_X3_countThere o M P) : zCT X l yX3_countThere cX3_countThere 3 (some .int) 3 64 0 0 M [.ref o] (zPi P) PX := by
  refine z_entry E (by decide) ?_
  intro p e s m args below meth c C hr htab I
  have hx := C.1.1
  have hb := C.1.2.1
  obtain ⟨ls, he, hl⟩ := z_enter (m := m) (n := 3) (vs := [.ref o]) (l := [(0, .ref o)]) (Nat.le_of_ble_eq_true rfl) rfl
  rw [he]
  clear he
  unfold w_X3_countThere at hw
  have hb_4 : ∀ (n : Nat) (x1 : Int32) (x2 : Int32) (M : zM) (H : Heap) (locs : List Loc) (ls : Array Slot), zWk X s M H locs → lv_has ls 3 [(0, .ref o), (1, .int x1), (2, .int x2)] → w_X3_countThere_4 o P n x1 x2 M → W p l e (zRm 3 64 0 0) s m args below meth c H locs 0 0 (vx_MQ below (zQc X (zPi P)) (zXc X PX) args s 0 0 (zBase X)) (F0 m 4 ls []) := by
    intro n
    induction n with
    | zero => intro _ _ M H locs ls I hl hw; exact hw.elim
    | succ n ih =>
      intro x1 x2 M H locs ls I hl hw
      unfold w_X3_countThere_4 at hw
      have hb_35 : ∀ (x1 : Int32) (x2 : Int32) (M : zM) (H : Heap) (locs : List Loc) (ls : Array Slot), zWk X s M H locs → lv_has ls 3 [(0, .ref o), (1, .int x1), (2, .int x2)] → w_X3_countThere_35 o P (w_X3_countThere_4 o P n) x1 x2 M → W p l e (zRm 3 64 0 0) s m args below meth c H locs 0 0 (vx_MQ below (zQc X (zPi P)) (zXc X PX) args s 0 0 (zBase X)) (F0 m 35 ls []) := by
        intro x1 x2 M H locs ls I hl hw
        unfold w_X3_countThere_35 at hw
        refine lv_iinc (v := (x2 + 1)) (lv' := [(2, .int (x2 + 1)), (0, .ref o), (1, .int x1)]) hx hb dX3_countThere_35 hl (k := 2) rfl (by rfl) (by decide) rfl (fun ls hl1 => ?_)
        refine lv_goto (tgt := 4) hx hb dX3_countThere_38 (by decide) ?_
        refine W.widen (k := 0) (n := 0) (Nat.le_of_ble_eq_true rfl) (Nat.le_of_ble_eq_true rfl) ?_
        exact ih x1 (x2 + 1) _ _ _ ls I (lv_sub hl1 [1, 2, 0] rfl) hw
      refine lv_iload_n hx hb dX3_countThere_4 rfl (lv_at hl 2 rfl) ?_
      refine lv_aload_n hx hb dX3_countThere_5 rfl (lv_at hl 0 rfl) ?_
      refine z_getr C I fl_X3_12 hw dX3_countThere_6 (fun v2 hw => ?_)
      obtain ⟨hrc, hw⟩ := hw
      refine z_callV C I (as := []) (rest := [.int x2]) (m_Jx4a65c_size_8abf5 E hw) kv_X3_18 vc_0 hrc rfl rfl hl.1 (Nat.le_of_ble_eq_true rfl) ⟨Nat.le_of_ble_eq_true rfl, Nat.le_of_ble_eq_true rfl⟩ ⟨Nat.le_of_ble_eq_true rfl, Nat.le_of_ble_eq_true rfl⟩ dX3_countThere_9 (z_prop C htab (Nat.le_of_ble_eq_true rfl) (Nat.le_of_ble_eq_true rfl)) (fun v M3 _ _ I hv => ?_)
      obtain ⟨v4, rfl, hw⟩ := hv
      refine W.eq (g2 := F0 m 12 ls [.int v4, .int x2]) rfl ?_
      refine lv_icmp_ge (tgt := 41) hx hb dX3_countThere_12 (by decide) (fun c => ?_) (fun c => ?_)
      · replace hw := hw.1 c
        refine lv_iload_n hx hb dX3_countThere_41 rfl (lv_at hl 1 rfl) ?_
        exact z_iret C I hr ⟨_, rfl, hw⟩ (Nat.le_of_ble_eq_true rfl) (Nat.le_of_ble_eq_true rfl) dX3_countThere_42
      · replace hw := hw.2 c
        refine lv_aload_n hx hb dX3_countThere_15 rfl (lv_at hl 0 rfl) ?_
        refine z_getr C I fl_X3_12 hw dX3_countThere_16 (fun v5 hw => ?_)
        refine lv_iload_n hx hb dX3_countThere_19 rfl (lv_at hl 2 rfl) ?_
        obtain ⟨hrc, hw⟩ := hw
        refine z_callV C I (as := [.int x2]) (rest := []) (m_Jx4a65c_get_915e3 E hw) kv_X3_22 vc_0 hrc rfl rfl hl.1 (Nat.le_of_ble_eq_true rfl) ⟨Nat.le_of_ble_eq_true rfl, Nat.le_of_ble_eq_true rfl⟩ ⟨Nat.le_of_ble_eq_true rfl, Nat.le_of_ble_eq_true rfl⟩ dX3_countThere_20 (z_prop C htab (Nat.le_of_ble_eq_true rfl) (Nat.le_of_ble_eq_true rfl)) (fun v M6 _ _ I hv => ?_)
        obtain ⟨v7, rfl, hw⟩ := hv
        refine W.eq (g2 := F0 m 23 ls [va_rf v7]) rfl ?_
        refine z_cast C I vc_5 (r := v7) zw329 hw dX3_countThere_23 (fun a8 hw => ?_)
        refine z_geti C I fl_X3_28 hw dX3_countThere_26 (fun v9 hw => ?_)
        refine lv_if_ne (tgt := 35) hx hb dX3_countThere_29 (by decide) (fun c => ?_) (fun c => ?_)
        · replace hw := hw.1 c
          refine W.widen (k := 0) (n := 0) (Nat.le_of_ble_eq_true rfl) (Nat.le_of_ble_eq_true rfl) ?_
          exact hb_35 x1 x2 _ _ _ ls I (lv_sub hl [0, 1, 2] rfl) hw
        · replace hw := hw.2 c
          refine lv_iinc (v := (x1 + 1)) (lv' := [(1, .int (x1 + 1)), (0, .ref o), (2, .int x2)]) hx hb dX3_countThere_32 hl (k := 1) rfl (by rfl) (by decide) rfl (fun ls hl10 => ?_)
          refine W.widen (k := 0) (n := 0) (Nat.le_of_ble_eq_true rfl) (Nat.le_of_ble_eq_true rfl) ?_
          exact hb_35 (x1 + 1) x2 _ _ _ ls I (lv_sub hl10 [1, 0, 2] rfl) hw
  refine lv_iconst (v := 0) hx hb dX3_countThere_0 (by decide) ?_
  refine lv_istore_n (lv' := [(1, .int (0 : Int32)), (0, .ref o)]) hx hb dX3_countThere_1 rfl hl (by decide) rfl (fun ls hl11 => ?_)
  refine lv_iconst (v := 0) hx hb dX3_countThere_2 (by decide) ?_
  refine lv_istore_n (lv' := [(2, .int (0 : Int32)), (1, .int (0 : Int32)), (0, .ref o)]) hx hb dX3_countThere_3 rfl hl11 (by decide) rfl (fun ls hl12 => ?_)
  obtain ⟨nn, hw⟩ := hw
  refine W.widen (k := 0) (n := 0) (Nat.le_of_ble_eq_true rfl) (Nat.le_of_ble_eq_true rfl) ?_
  exact hb_4 nn (0 : Int32) (0 : Int32) _ _ _ ls I (lv_sub hl12 [2, 1, 0] rfl) hw
set_option maxHeartbeats 4000000 in
set_option maxRecDepth 100000 in
theorem m_X5_delete {X : zX} {l : Launch} (E : zEnv X l) {M : zM} {o : Nat} {p0 : Int32} {p1 : Int32} {p2 : Int32} {P : Int32 → zM → Prop} {PX : Nat → zM → Prop} (hw : w_X5_delete o p0 p1 p2 M P PX) : zCT X l yX5_delete cX5_delete 6 (some .int) 7 131 3 18 M [.ref o, .int p0, .int p1, .int p2] (zPi P) PX := by
  refine z_entry E (by decide) ?_
  intro p e s m args below meth c C hr htab I
  have hx := C.1.1
  have hb := C.1.2.1
  obtain ⟨ls, he, hl⟩ := z_enter (m := m) (n := 6) (vs := [.ref o, .int p0, .int p1, .int p2]) (l := [(0, .ref o), (1, .int p0), (2, .int p1), (3, .int p2)]) (Nat.le_of_ble_eq_true rfl) rfl
  rw [he]
  clear he
  unfold w_X5_delete at hw
  have hb_83 : ∀ (x4 : Option Nat) (M : zM) (H : Heap) (locs : List Loc) (ls : Array Slot), zWk X s M H locs → lv_has ls 6 [(4, va_rf x4)] → w_X5_delete_83 o p0 p1 p2 P PX x4 M → W p l e (zRm 7 131 3 18) s m args below meth c H locs 2 12 (vx_MQ below (zQc X (zPi P)) (zXc X PX) args s 3 18 (zBase X)) (F0 m 83 ls []) := by
    intro x4 M H locs ls I hl hw
    unfold w_X5_delete_83 at hw
    refine z_aload C (r := x4) dX5_delete_83 (lv_at hl 0 rfl) ?_
    obtain ⟨a1, hq1, hq2⟩ := hw
    subst hq1
    have hw := hq2
    clear hq2
    refine W.eq (g2 := F0 m 85 ls [.ref a1]) rfl ?_
    have hl2 : lv_has ls 6 [(4, .ref a1)] := hl
    obtain ⟨hrc, hw⟩ := hw
    refine z_callV C I (as := []) (rest := []) (m_X3_countThere E hw) kv_X5_191 vc_4 hrc rfl rfl hl2.1 (Nat.le_of_ble_eq_true rfl) ⟨Nat.le_of_ble_eq_true rfl, Nat.le_of_ble_eq_true rfl⟩ ⟨Nat.le_of_ble_eq_true rfl, Nat.le_of_ble_eq_true rfl⟩ dX5_delete_85 (z_prop C htab (Nat.le_of_ble_eq_true rfl) (Nat.le_of_ble_eq_true rfl)) (fun v M3 _ _ I hv => ?_)
    obtain ⟨v4, rfl, hw⟩ := hv
    refine W.eq (g2 := F0 m 88 ls [.int v4]) rfl ?_
    exact z_iret C I hr ⟨_, rfl, hw⟩ (Nat.le_of_ble_eq_true rfl) (Nat.le_of_ble_eq_true rfl) dX5_delete_88
  have hb_40 : ∀ (M : zM) (H : Heap) (locs : List Loc) (ls : Array Slot), zWk X s M H locs → lv_has ls 6 [] → w_X5_delete_40 o p0 p1 p2 P PX M → W p l e (zRm 7 131 3 18) s m args below meth c H locs 2 12 (vx_MQ below (zQc X (zPi P)) (zXc X PX) args s 3 18 (zBase X)) (F0 m 40 ls []) := by
    intro M H locs ls I hl hw
    unfold w_X5_delete_40 at hw
    exact z_throw C htab I 3 kt_X5_91_187 hw hl.1 dX5_delete_40 dX5_delete_43 dX5_delete_44 dX5_delete_46 dX5_delete_49 ⟨Nat.le_of_ble_eq_true rfl, Nat.le_of_ble_eq_true rfl, Nat.le_of_ble_eq_true rfl, Nat.le_of_ble_eq_true rfl⟩ (Nat.le_of_ble_eq_true rfl) (Nat.le_of_ble_eq_true rfl)
  refine lv_aload_n hx hb dX5_delete_0 rfl (lv_at hl 0 rfl) ?_
  refine lv_iload_n hx hb dX5_delete_1 rfl (lv_at hl 1 rfl) ?_
  obtain ⟨hrc, hw⟩ := hw
  refine z_callV C I (as := [.int p0]) (rest := []) (m_X5_demandedSubject E hw) kv_X5_140 vc_6 hrc rfl rfl hl.1 (Nat.le_of_ble_eq_true rfl) ⟨Nat.le_of_ble_eq_true rfl, Nat.le_of_ble_eq_true rfl⟩ ⟨Nat.le_of_ble_eq_true rfl, Nat.le_of_ble_eq_true rfl⟩ dX5_delete_2 (z_prop C htab (Nat.le_of_ble_eq_true rfl) (Nat.le_of_ble_eq_true rfl)) (fun v M5 _ _ I hv => ?_)
  obtain ⟨v6, rfl, hw⟩ := hv
  refine W.eq (g2 := F0 m 5 ls [va_rf v6]) rfl ?_
  refine z_astore (lv' := [(4, va_rf v6), (0, .ref o), (1, .int p0), (2, .int p1), (3, .int p2)]) C (r := v6) dX5_delete_5 hl (by decide) rfl (fun ls hl7 => ?_)
  refine z_aload C (r := v6) dX5_delete_7 (lv_at hl7 0 rfl) ?_
  refine lv_iload_n hx hb dX5_delete_9 rfl (lv_at hl7 3 rfl) ?_
  obtain ⟨a8, hq1, hq2⟩ := hw
  subst hq1
  have hw := hq2
  clear hq2
  refine W.eq (g2 := F0 m 10 ls [.int p1, .ref a8]) rfl ?_
  have hl9 : lv_has ls 6 [(4, .ref a8), (0, .ref o), (1, .int p0), (2, .int p1), (3, .int p2)] := hl7
  refine z_callS C I (as := [.ref a8, .int p1]) (rest := []) (m_X5_demandedVersion E hw) ks_X5_177 rfl rfl hl9.1 (Nat.le_of_ble_eq_true rfl) ⟨Nat.le_of_ble_eq_true rfl, Nat.le_of_ble_eq_true rfl⟩ ⟨Nat.le_of_ble_eq_true rfl, Nat.le_of_ble_eq_true rfl⟩ dX5_delete_10 (z_prop C htab (Nat.le_of_ble_eq_true rfl) (Nat.le_of_ble_eq_true rfl)) (fun v M10 _ _ I hv => ?_)
  obtain ⟨v11, rfl, hw⟩ := hv
  refine W.eq (g2 := F0 m 13 ls [va_rf v11]) rfl ?_
  refine z_astore (lv' := [(5, va_rf v11), (4, .ref a8), (0, .ref o), (1, .int p0), (2, .int p1), (3, .int p2)]) C (r := v11) dX5_delete_13 hl9 (by decide) rfl (fun ls hl12 => ?_)
  refine lv_iload_n hx hb dX5_delete_15 rfl (lv_at hl12 5 rfl) ?_
  refine lv_if_eq (tgt := 59) hx hb dX5_delete_16 (by decide) (fun c => ?_) (fun c => ?_)
  · replace hw := hw.1 c
    refine z_aload C (r := v11) dX5_delete_59 (lv_at hl12 0 rfl) ?_
    obtain ⟨a13, hq1, hq2⟩ := hw
    subst hq1
    have hw := hq2
    clear hq2
    refine W.eq (g2 := F0 m 61 ls [.ref a13]) rfl ?_
    have hl14 : lv_has ls 6 [(5, .ref a13), (4, .ref a8), (0, .ref o), (1, .int p0), (2, .int p1), (3, .int p2)] := hl12
    refine z_geti C I fl_X5_181 hw dX5_delete_61 (fun v15 hw => ?_)
    refine lv_if_eq (tgt := 77) hx hb dX5_delete_64 (by decide) (fun c => ?_) (fun c => ?_)
    · replace hw := hw.1 c
      refine lv_aload hx hb dX5_delete_77 (lv_at hl14 0 rfl) ?_
      refine lv_iconst (v := 1) hx hb dX5_delete_79 (by decide) ?_
      refine z_put C I fl_X5_181 rfl (v := .int (1 : Int32)) rfl rfl hw dX5_delete_80 (fun M16 _ _ I hw => ?_)
      refine W.widen (k := 2) (n := 12) (Nat.le_of_ble_eq_true rfl) (Nat.le_of_ble_eq_true rfl) ?_
      exact hb_83 (some a8) _ _ _ ls I (lv_sub hl14 [1] rfl) hw
    · replace hw := hw.2 c
      exact z_throw C htab I 3 kt_X5_91_189 hw hl14.1 dX5_delete_67 dX5_delete_70 dX5_delete_71 dX5_delete_73 dX5_delete_76 ⟨Nat.le_of_ble_eq_true rfl, Nat.le_of_ble_eq_true rfl, Nat.le_of_ble_eq_true rfl, Nat.le_of_ble_eq_true rfl⟩ (Nat.le_of_ble_eq_true rfl) (Nat.le_of_ble_eq_true rfl)
  · replace hw := hw.2 c
    refine z_aload C (r := v11) dX5_delete_19 (lv_at hl12 0 rfl) ?_
    obtain ⟨a17, hq1, hq2⟩ := hw
    subst hq1
    have hw := hq2
    clear hq2
    refine W.eq (g2 := F0 m 21 ls [.ref a17]) rfl ?_
    have hl18 : lv_has ls 6 [(5, .ref a17), (4, .ref a8), (0, .ref o), (1, .int p0), (2, .int p1), (3, .int p2)] := hl12
    refine z_geti C I fl_X5_181 hw dX5_delete_21 (fun v19 hw => ?_)
    refine lv_if_eq (tgt := 40) hx hb dX5_delete_24 (by decide) (fun c => ?_) (fun c => ?_)
    · replace hw := hw.1 c
      refine W.widen (k := 2) (n := 12) (Nat.le_of_ble_eq_true rfl) (Nat.le_of_ble_eq_true rfl) ?_
      exact hb_40 _ _ _ ls I (lv_sub hl18 [] rfl) hw
    · replace hw := hw.2 c
      refine lv_aload_n hx hb dX5_delete_27 rfl (lv_at hl18 2 rfl) ?_
      refine lv_bipush (v := 10) hx hb dX5_delete_28 (by decide) ?_
      refine lv_iload_n hx hb dX5_delete_30 rfl (lv_at hl18 3 rfl) ?_
      refine lv_imul hx hb dX5_delete_31 ?_
      refine lv_iload_n hx hb dX5_delete_32 rfl (lv_at hl18 4 rfl) ?_
      refine lv_iadd hx hb dX5_delete_33 ?_
      obtain ⟨hrc, hw⟩ := hw
      refine z_callV C I (as := [.int (((10 : Int32) * p0) + p1)]) (rest := []) (m_X5_isReferredTo E hw) kv_X5_184 vc_6 hrc rfl rfl hl18.1 (Nat.le_of_ble_eq_true rfl) ⟨Nat.le_of_ble_eq_true rfl, Nat.le_of_ble_eq_true rfl⟩ ⟨Nat.le_of_ble_eq_true rfl, Nat.le_of_ble_eq_true rfl⟩ dX5_delete_34 (z_prop C htab (Nat.le_of_ble_eq_true rfl) (Nat.le_of_ble_eq_true rfl)) (fun v M20 _ _ I hv => ?_)
      obtain ⟨v21, rfl, hv21, hw⟩ := hv
      refine W.eq (g2 := F0 m 37 ls [.int v21]) rfl ?_
      refine lv_if_eq (tgt := 50) hx hb dX5_delete_37 (by decide) (fun c => ?_) (fun c => ?_)
      · replace hw := hw.1 c
        refine lv_aload hx hb dX5_delete_50 (lv_at hl18 0 rfl) ?_
        refine lv_iconst (v := 2) hx hb dX5_delete_52 (by decide) ?_
        refine z_put C I fl_X5_181 rfl (v := .int (2 : Int32)) rfl rfl hw dX5_delete_53 (fun M22 _ _ I hw => ?_)
        refine lv_goto (tgt := 83) hx hb dX5_delete_56 (by decide) ?_
        refine W.widen (k := 2) (n := 12) (Nat.le_of_ble_eq_true rfl) (Nat.le_of_ble_eq_true rfl) ?_
        exact hb_83 (some a8) _ _ _ ls I (lv_sub hl18 [1] rfl) hw
      · replace hw := hw.2 c
        refine W.widen (k := 2) (n := 12) (Nat.le_of_ble_eq_true rfl) (Nat.le_of_ble_eq_true rfl) ?_
        exact hb_40 _ _ _ ls I (lv_sub hl18 [] rfl) hw
set_option maxHeartbeats 4000000 in
set_option maxRecDepth 100000 in
theorem m_X5_versions {X : zX} {l : Launch} (E : zEnv X l) {M : zM} {o : Nat} {p0 : Int32} {P : Int32 → zM → Prop} {PX : Nat → zM → Prop} (hw : w_X5_versions o p0 M P PX) : zCT X l yX5_versions cX5_versions 2 (some .int) 7 111 1 6 M [.ref o, .int p0] (zPi P) PX := by
  refine z_entry E (by decide) ?_
  intro p e s m args below meth c C hr htab I
  have hx := C.1.1
  have hb := C.1.2.1
  obtain ⟨ls, he, hl⟩ := z_enter (m := m) (n := 2) (vs := [.ref o, .int p0]) (l := [(0, .ref o), (1, .int p0)]) (Nat.le_of_ble_eq_true rfl) rfl
  rw [he]
  clear he
  unfold w_X5_versions at hw
  refine lv_aload_n hx hb dX5_versions_0 rfl (lv_at hl 0 rfl) ?_
  refine lv_iload_n hx hb dX5_versions_1 rfl (lv_at hl 1 rfl) ?_
  obtain ⟨hrc, hw⟩ := hw
  refine z_callV C I (as := [.int p0]) (rest := []) (m_X5_demandedSubject E hw) kv_X5_140 vc_6 hrc rfl rfl hl.1 (Nat.le_of_ble_eq_true rfl) ⟨Nat.le_of_ble_eq_true rfl, Nat.le_of_ble_eq_true rfl⟩ ⟨Nat.le_of_ble_eq_true rfl, Nat.le_of_ble_eq_true rfl⟩ dX5_versions_2 (z_prop C htab (Nat.le_of_ble_eq_true rfl) (Nat.le_of_ble_eq_true rfl)) (fun v M1 _ _ I hv => ?_)
  obtain ⟨v2, rfl, hw⟩ := hv
  refine W.eq (g2 := F0 m 5 ls [va_rf v2]) rfl ?_
  obtain ⟨a3, hq1, hq2⟩ := hw
  subst hq1
  have hw := hq2
  clear hq2
  refine W.eq (g2 := F0 m 5 ls [.ref a3]) rfl ?_
  have hl4 : lv_has ls 2 [(0, .ref o), (1, .int p0)] := hl
  refine z_getr C I fl_X5_155 hw dX5_versions_5 (fun v5 hw => ?_)
  obtain ⟨hrc, hw⟩ := hw
  refine z_callV C I (as := []) (rest := []) (m_Jx4a65c_size_8abf5 E hw) kv_X5_84 vc_0 hrc rfl rfl hl4.1 (Nat.le_of_ble_eq_true rfl) ⟨Nat.le_of_ble_eq_true rfl, Nat.le_of_ble_eq_true rfl⟩ ⟨Nat.le_of_ble_eq_true rfl, Nat.le_of_ble_eq_true rfl⟩ dX5_versions_8 (z_prop C htab (Nat.le_of_ble_eq_true rfl) (Nat.le_of_ble_eq_true rfl)) (fun v M6 _ _ I hv => ?_)
  obtain ⟨v7, rfl, hw⟩ := hv
  refine W.eq (g2 := F0 m 11 ls [.int v7]) rfl ?_
  exact z_iret C I hr ⟨_, rfl, hw⟩ (Nat.le_of_ble_eq_true rfl) (Nat.le_of_ble_eq_true rfl) dX5_versions_11
set_option maxHeartbeats 4000000 in
set_option maxRecDepth 100000 in
theorem m_X5_demandedSchema {X : zX} {l : Launch} (E : zEnv X l) {M : zM} {o : Nat} {p0 : Int32} {p1 : Int32} {P : Option Nat → zM → Prop} {PX : Nat → zM → Prop} (hw : w_X5_demandedSchema o p0 p1 M P PX) : zCT X l yX5_demandedSchema cX5_demandedSchema 3 (some ((.object "SchemaSubjects$Schema"))) 7 112 2 12 M [.ref o, .int p0, .int p1] (zPo P) PX := by
  refine z_entry E (by decide) ?_
  intro p e s m args below meth c C hr htab I
  have hx := C.1.1
  have hb := C.1.2.1
  obtain ⟨ls, he, hl⟩ := z_enter (m := m) (n := 3) (vs := [.ref o, .int p0, .int p1]) (l := [(0, .ref o), (1, .int p0), (2, .int p1)]) (Nat.le_of_ble_eq_true rfl) rfl
  rw [he]
  clear he
  unfold w_X5_demandedSchema at hw
  refine lv_aload_n hx hb dX5_demandedSchema_0 rfl (lv_at hl 0 rfl) ?_
  refine lv_iload_n hx hb dX5_demandedSchema_1 rfl (lv_at hl 1 rfl) ?_
  obtain ⟨hrc, hw⟩ := hw
  refine z_callV C I (as := [.int p0]) (rest := []) (m_X5_demandedSubject E hw) kv_X5_140 vc_6 hrc rfl rfl hl.1 (Nat.le_of_ble_eq_true rfl) ⟨Nat.le_of_ble_eq_true rfl, Nat.le_of_ble_eq_true rfl⟩ ⟨Nat.le_of_ble_eq_true rfl, Nat.le_of_ble_eq_true rfl⟩ dX5_demandedSchema_2 (z_prop C htab (Nat.le_of_ble_eq_true rfl) (Nat.le_of_ble_eq_true rfl)) (fun v M1 _ _ I hv => ?_)
  obtain ⟨v2, rfl, hw⟩ := hv
  refine W.eq (g2 := F0 m 5 ls [va_rf v2]) rfl ?_
  refine lv_iload_n hx hb dX5_demandedSchema_5 rfl (lv_at hl 2 rfl) ?_
  obtain ⟨a3, hq1, hq2⟩ := hw
  subst hq1
  have hw := hq2
  clear hq2
  refine W.eq (g2 := F0 m 6 ls [.int p1, .ref a3]) rfl ?_
  have hl4 : lv_has ls 3 [(0, .ref o), (1, .int p0), (2, .int p1)] := hl
  refine z_callS C I (as := [.ref a3, .int p1]) (rest := []) (m_X5_demandedVersion E hw) ks_X5_177 rfl rfl hl4.1 (Nat.le_of_ble_eq_true rfl) ⟨Nat.le_of_ble_eq_true rfl, Nat.le_of_ble_eq_true rfl⟩ ⟨Nat.le_of_ble_eq_true rfl, Nat.le_of_ble_eq_true rfl⟩ dX5_demandedSchema_6 (z_prop C htab (Nat.le_of_ble_eq_true rfl) (Nat.le_of_ble_eq_true rfl)) (fun v M5 _ _ I hv => ?_)
  obtain ⟨v6, rfl, hw⟩ := hv
  refine W.eq (g2 := F0 m 9 ls [va_rf v6]) rfl ?_
  obtain ⟨a7, hq1, hq2⟩ := hw
  subst hq1
  have hw := hq2
  clear hq2
  refine W.eq (g2 := F0 m 9 ls [.ref a7]) rfl ?_
  have hl8 : lv_has ls 3 [(0, .ref o), (1, .int p0), (2, .int p1)] := hl4
  refine z_getr C I fl_X5_252 hw dX5_demandedSchema_9 (fun v9 hw => ?_)
  exact z_aret C I hr (Or.inl ⟨_, rfl⟩) (v := (some v9)) ⟨_, rfl, hw⟩ (Nat.le_of_ble_eq_true rfl) (Nat.le_of_ble_eq_true rfl) dX5_demandedSchema_12
set_option maxHeartbeats 4000000 in
set_option maxRecDepth 100000 in
theorem m_X5_number {X : zX} {l : Launch} (E : zEnv X l) {M : zM} {o : Nat} {p0 : Int32} {p1 : Int32} {P : Int32 → zM → Prop} {PX : Nat → zM → Prop} (hw : w_X5_number o p0 p1 M P PX) : zCT X l yX5_number cX5_number 3 (some .int) 8 134 2 12 M [.ref o, .int p0, .int p1] (zPi P) PX := by
  refine z_entry E (by decide) ?_
  intro p e s m args below meth c C hr htab I
  have hx := C.1.1
  have hb := C.1.2.1
  obtain ⟨ls, he, hl⟩ := z_enter (m := m) (n := 3) (vs := [.ref o, .int p0, .int p1]) (l := [(0, .ref o), (1, .int p0), (2, .int p1)]) (Nat.le_of_ble_eq_true rfl) rfl
  rw [he]
  clear he
  unfold w_X5_number at hw
  refine lv_aload_n hx hb dX5_number_0 rfl (lv_at hl 0 rfl) ?_
  refine lv_iload_n hx hb dX5_number_1 rfl (lv_at hl 1 rfl) ?_
  refine lv_iload_n hx hb dX5_number_2 rfl (lv_at hl 2 rfl) ?_
  obtain ⟨hrc, hw⟩ := hw
  refine z_callV C I (as := [.int p0, .int p1]) (rest := []) (m_X5_demandedSchema E hw) kv_X5_194 vc_6 hrc rfl rfl hl.1 (Nat.le_of_ble_eq_true rfl) ⟨Nat.le_of_ble_eq_true rfl, Nat.le_of_ble_eq_true rfl⟩ ⟨Nat.le_of_ble_eq_true rfl, Nat.le_of_ble_eq_true rfl⟩ dX5_number_3 (z_prop C htab (Nat.le_of_ble_eq_true rfl) (Nat.le_of_ble_eq_true rfl)) (fun v M1 _ _ I hv => ?_)
  obtain ⟨v2, rfl, hw⟩ := hv
  refine W.eq (g2 := F0 m 6 ls [va_rf v2]) rfl ?_
  obtain ⟨a3, hq1, hq2⟩ := hw
  subst hq1
  have hw := hq2
  clear hq2
  refine W.eq (g2 := F0 m 6 ls [.ref a3]) rfl ?_
  have hl4 : lv_has ls 3 [(0, .ref o), (1, .int p0), (2, .int p1)] := hl
  refine z_geti C I fl_X5_198 hw dX5_number_6 (fun v5 hw => ?_)
  exact z_iret C I hr ⟨_, rfl, hw⟩ (Nat.le_of_ble_eq_true rfl) (Nat.le_of_ble_eq_true rfl) dX5_number_9
set_option maxHeartbeats 4000000 in
set_option maxRecDepth 100000 in
theorem m_X5_length {X : zX} {l : Launch} (E : zEnv X l) {M : zM} {o : Nat} {p0 : Int32} {p1 : Int32} {P : Int32 → zM → Prop} {PX : Nat → zM → Prop} (hw : w_X5_length o p0 p1 M P PX) : zCT X l yX5_length cX5_length 3 (some .int) 8 134 2 12 M [.ref o, .int p0, .int p1] (zPi P) PX := by
  refine z_entry E (by decide) ?_
  intro p e s m args below meth c C hr htab I
  have hx := C.1.1
  have hb := C.1.2.1
  obtain ⟨ls, he, hl⟩ := z_enter (m := m) (n := 3) (vs := [.ref o, .int p0, .int p1]) (l := [(0, .ref o), (1, .int p0), (2, .int p1)]) (Nat.le_of_ble_eq_true rfl) rfl
  rw [he]
  clear he
  unfold w_X5_length at hw
  refine lv_aload_n hx hb dX5_length_0 rfl (lv_at hl 0 rfl) ?_
  refine lv_iload_n hx hb dX5_length_1 rfl (lv_at hl 1 rfl) ?_
  refine lv_iload_n hx hb dX5_length_2 rfl (lv_at hl 2 rfl) ?_
  obtain ⟨hrc, hw⟩ := hw
  refine z_callV C I (as := [.int p0, .int p1]) (rest := []) (m_X5_demandedSchema E hw) kv_X5_194 vc_6 hrc rfl rfl hl.1 (Nat.le_of_ble_eq_true rfl) ⟨Nat.le_of_ble_eq_true rfl, Nat.le_of_ble_eq_true rfl⟩ ⟨Nat.le_of_ble_eq_true rfl, Nat.le_of_ble_eq_true rfl⟩ dX5_length_3 (z_prop C htab (Nat.le_of_ble_eq_true rfl) (Nat.le_of_ble_eq_true rfl)) (fun v M1 _ _ I hv => ?_)
  obtain ⟨v2, rfl, hw⟩ := hv
  refine W.eq (g2 := F0 m 6 ls [va_rf v2]) rfl ?_
  obtain ⟨a3, hq1, hq2⟩ := hw
  subst hq1
  have hw := hq2
  clear hq2
  refine W.eq (g2 := F0 m 6 ls [.ref a3]) rfl ?_
  have hl4 : lv_has ls 3 [(0, .ref o), (1, .int p0), (2, .int p1)] := hl
  refine z_getr C I fl_X5_74 hw dX5_length_6 (fun v5 hw => ?_)
  obtain ⟨hrc, hw⟩ := hw
  refine z_callV C I (as := []) (rest := []) (m_X1_count E hw) kv_X5_77 vc_2 hrc rfl rfl hl4.1 (Nat.le_of_ble_eq_true rfl) ⟨Nat.le_of_ble_eq_true rfl, Nat.le_of_ble_eq_true rfl⟩ ⟨Nat.le_of_ble_eq_true rfl, Nat.le_of_ble_eq_true rfl⟩ dX5_length_9 (z_prop C htab (Nat.le_of_ble_eq_true rfl) (Nat.le_of_ble_eq_true rfl)) (fun v M6 _ _ I hv => ?_)
  obtain ⟨v7, rfl, hw⟩ := hv
  refine W.eq (g2 := F0 m 12 ls [.int v7]) rfl ?_
  exact z_iret C I hr ⟨_, rfl, hw⟩ (Nat.le_of_ble_eq_true rfl) (Nat.le_of_ble_eq_true rfl) dX5_length_12
set_option maxHeartbeats 4000000 in
set_option maxRecDepth 100000 in
theorem m_X5_demandSubjects {X : zX} {l : Launch} (E : zEnv X l) {M : zM} {o : Nat} {p0 : Int32} {p1 : Int32} {P : zM → Prop} {PX : Nat → zM → Prop} (hw : w_X5_demandSubjects o p0 p1 M P PX) : zCT X l yX5_demandSubjects cX5_demandSubjects 3 none 7 111 2 12 M [.ref o, .int p0, .int p1] (zPv P) PX := by
  refine z_entry E (by decide) ?_
  intro p e s m args below meth c C hr htab I
  have hx := C.1.1
  have hb := C.1.2.1
  obtain ⟨ls, he, hl⟩ := z_enter (m := m) (n := 3) (vs := [.ref o, .int p0, .int p1]) (l := [(0, .ref o), (1, .int p0), (2, .int p1)]) (Nat.le_of_ble_eq_true rfl) rfl
  rw [he]
  clear he
  unfold w_X5_demandSubjects at hw
  refine lv_aload_n hx hb dX5_demandSubjects_0 rfl (lv_at hl 0 rfl) ?_
  refine lv_iload_n hx hb dX5_demandSubjects_1 rfl (lv_at hl 1 rfl) ?_
  obtain ⟨hrc, hw⟩ := hw
  refine z_callV C I (as := [.int p0]) (rest := []) (m_X5_demandedSubject E hw) kv_X5_140 vc_6 hrc rfl rfl hl.1 (Nat.le_of_ble_eq_true rfl) ⟨Nat.le_of_ble_eq_true rfl, Nat.le_of_ble_eq_true rfl⟩ ⟨Nat.le_of_ble_eq_true rfl, Nat.le_of_ble_eq_true rfl⟩ dX5_demandSubjects_2 (z_prop C htab (Nat.le_of_ble_eq_true rfl) (Nat.le_of_ble_eq_true rfl)) (fun v M1 _ _ I hv => ?_)
  obtain ⟨v2, rfl, hw⟩ := hv
  refine W.eq (g2 := F0 m 5 ls [va_rf v2]) rfl ?_
  refine lv_pop hx hb dX5_demandSubjects_5 z_catR ?_
  refine lv_aload_n hx hb dX5_demandSubjects_6 rfl (lv_at hl 0 rfl) ?_
  refine lv_iload_n hx hb dX5_demandSubjects_7 rfl (lv_at hl 2 rfl) ?_
  obtain ⟨hrc, hw⟩ := hw
  refine z_callV C I (as := [.int p1]) (rest := []) (m_X5_demandedSubject E hw) kv_X5_140 vc_6 hrc rfl rfl hl.1 (Nat.le_of_ble_eq_true rfl) ⟨Nat.le_of_ble_eq_true rfl, Nat.le_of_ble_eq_true rfl⟩ ⟨Nat.le_of_ble_eq_true rfl, Nat.le_of_ble_eq_true rfl⟩ dX5_demandSubjects_8 (z_prop C htab (Nat.le_of_ble_eq_true rfl) (Nat.le_of_ble_eq_true rfl)) (fun v M3 _ _ I hv => ?_)
  obtain ⟨v4, rfl, hw⟩ := hv
  refine W.eq (g2 := F0 m 11 ls [va_rf v4]) rfl ?_
  refine lv_pop hx hb dX5_demandSubjects_11 z_catR ?_
  exact z_vret C I hr ⟨rfl, hw⟩ (Nat.le_of_ble_eq_true rfl) (Nat.le_of_ble_eq_true rfl) dX5_demandSubjects_12
set_option maxHeartbeats 4000000 in
set_option maxRecDepth 100000 in
theorem m_X5_canRead {X : zX} {l : Launch} (E : zEnv X l) {M : zM} {o : Nat} {p0 : Int32} {p1 : Int32} {p2 : Int32} {p3 : Int32} {P : Int32 → zM → Prop} {PX : Nat → zM → Prop} (hw : w_X5_canRead o p0 p1 p2 p3 M P PX) : zCT X l yX5_canRead cX5_canRead 7 (some .boolean) 103 4823 6 36 M [.ref o, .int p0, .int p1, .int p2, .int p3] (zPz P) PX := by
  refine z_entry E (by decide) ?_
  intro p e s m args below meth c C hr htab I
  have hx := C.1.1
  have hb := C.1.2.1
  obtain ⟨ls, he, hl⟩ := z_enter (m := m) (n := 7) (vs := [.ref o, .int p0, .int p1, .int p2, .int p3]) (l := [(0, .ref o), (1, .int p0), (2, .int p1), (3, .int p2), (4, .int p3)]) (Nat.le_of_ble_eq_true rfl) rfl
  rw [he]
  clear he
  unfold w_X5_canRead at hw
  refine lv_aload_n hx hb dX5_canRead_0 rfl (lv_at hl 0 rfl) ?_
  refine lv_iload_n hx hb dX5_canRead_1 rfl (lv_at hl 1 rfl) ?_
  refine lv_iload_n hx hb dX5_canRead_2 rfl (lv_at hl 3 rfl) ?_
  obtain ⟨hrc, hw⟩ := hw
  refine z_callV C I (as := [.int p0, .int p2]) (rest := []) (m_X5_demandSubjects E hw) kv_X5_201 vc_6 hrc rfl rfl hl.1 (Nat.le_of_ble_eq_true rfl) ⟨Nat.le_of_ble_eq_true rfl, Nat.le_of_ble_eq_true rfl⟩ ⟨Nat.le_of_ble_eq_true rfl, Nat.le_of_ble_eq_true rfl⟩ dX5_canRead_3 (z_prop C htab (Nat.le_of_ble_eq_true rfl) (Nat.le_of_ble_eq_true rfl)) (fun v M1 _ _ I hv => ?_)
  obtain ⟨rfl, hw⟩ := hv
  refine W.eq (g2 := F0 m 6 ls []) rfl ?_
  refine lv_aload_n hx hb dX5_canRead_6 rfl (lv_at hl 0 rfl) ?_
  refine lv_iload_n hx hb dX5_canRead_7 rfl (lv_at hl 1 rfl) ?_
  refine lv_iload_n hx hb dX5_canRead_8 rfl (lv_at hl 2 rfl) ?_
  obtain ⟨hrc, hw⟩ := hw
  refine z_callV C I (as := [.int p0, .int p1]) (rest := []) (m_X5_demandedSchema E hw) kv_X5_194 vc_6 hrc rfl rfl hl.1 (Nat.le_of_ble_eq_true rfl) ⟨Nat.le_of_ble_eq_true rfl, Nat.le_of_ble_eq_true rfl⟩ ⟨Nat.le_of_ble_eq_true rfl, Nat.le_of_ble_eq_true rfl⟩ dX5_canRead_9 (z_prop C htab (Nat.le_of_ble_eq_true rfl) (Nat.le_of_ble_eq_true rfl)) (fun v M2 _ _ I hv => ?_)
  obtain ⟨v3, rfl, hw⟩ := hv
  refine W.eq (g2 := F0 m 12 ls [va_rf v3]) rfl ?_
  refine z_astore (lv' := [(5, va_rf v3), (0, .ref o), (1, .int p0), (2, .int p1), (3, .int p2), (4, .int p3)]) C (r := v3) dX5_canRead_12 hl (by decide) rfl (fun ls hl4 => ?_)
  refine lv_aload_n hx hb dX5_canRead_14 rfl (lv_at hl4 1 rfl) ?_
  refine lv_iload_n hx hb dX5_canRead_15 rfl (lv_at hl4 4 rfl) ?_
  refine lv_iload hx hb dX5_canRead_16 (lv_at hl4 5 rfl) ?_
  obtain ⟨hrc, hw⟩ := hw
  refine z_callV C I (as := [.int p2, .int p3]) (rest := []) (m_X5_demandedSchema E hw) kv_X5_194 vc_6 hrc rfl rfl hl4.1 (Nat.le_of_ble_eq_true rfl) ⟨Nat.le_of_ble_eq_true rfl, Nat.le_of_ble_eq_true rfl⟩ ⟨Nat.le_of_ble_eq_true rfl, Nat.le_of_ble_eq_true rfl⟩ dX5_canRead_18 (z_prop C htab (Nat.le_of_ble_eq_true rfl) (Nat.le_of_ble_eq_true rfl)) (fun v M5 _ _ I hv => ?_)
  obtain ⟨v6, rfl, hw⟩ := hv
  refine W.eq (g2 := F0 m 21 ls [va_rf v6]) rfl ?_
  refine z_astore (lv' := [(6, va_rf v6), (5, va_rf v3), (0, .ref o), (1, .int p0), (2, .int p1), (3, .int p2), (4, .int p3)]) C (r := v6) dX5_canRead_21 hl4 (by decide) (by simp [z_catR]) (fun ls hl7 => ?_)
  refine z_aload C (r := v3) dX5_canRead_23 (lv_at hl7 1 rfl) ?_
  refine z_aload C (r := v6) dX5_canRead_25 (lv_at hl7 0 rfl) ?_
  refine lv_iconst (v := 0) hx hb dX5_canRead_27 (by decide) ?_
  refine z_callS C I (as := [va_rf v3, va_rf v6, .int (0 : Int32)]) (rest := []) (m_X5_canReadSchema E hw) ks_X5_205 rfl rfl hl7.1 (Nat.le_of_ble_eq_true rfl) ⟨Nat.le_of_ble_eq_true rfl, Nat.le_of_ble_eq_true rfl⟩ ⟨Nat.le_of_ble_eq_true rfl, Nat.le_of_ble_eq_true rfl⟩ dX5_canRead_28 (z_prop C htab (Nat.le_of_ble_eq_true rfl) (Nat.le_of_ble_eq_true rfl)) (fun v M8 _ _ I hv => ?_)
  obtain ⟨v9, rfl, hv9, hw⟩ := hv
  refine W.eq (g2 := F0 m 31 ls [.int v9]) rfl ?_
  exact z_zret C I hr hv9 ⟨_, rfl, hv9, hw⟩ (Nat.le_of_ble_eq_true rfl) (Nat.le_of_ble_eq_true rfl) dX5_canRead_31
set_option maxHeartbeats 4000000 in
set_option maxRecDepth 100000 in
theorem m_X5_countSmallRecords {X : zX} {l : Launch} (E : zEnv X l) {M : zM} {p0 : Nat} {P : Int32 → zM → Prop} {PX : Nat → zM → Prop} (hw : w_X5_countSmallRecords p0 M P) : zCT X l yX5_countSmallRecords cX5_countSmallRecords 3 (some .int) 1 21 0 0 M [.ref p0] (zPi P) PX := by
  refine z_entry E (by decide) ?_
  intro p e s m args below meth c C hr htab I
  have hx := C.1.1
  have hb := C.1.2.1
  obtain ⟨ls, he, hl⟩ := z_enter (m := m) (n := 3) (vs := [.ref p0]) (l := [(0, .ref p0)]) (Nat.le_of_ble_eq_true rfl) rfl
  rw [he]
  clear he
  unfold w_X5_countSmallRecords at hw
  have hb_4 : ∀ (n : Nat) (x1 : Int32) (x2 : Int32) (M : zM) (H : Heap) (locs : List Loc) (ls : Array Slot), zWk X s M H locs → lv_has ls 3 [(0, .ref p0), (1, .int x1), (2, .int x2)] → w_X5_countSmallRecords_4 p0 P n x1 x2 M → W p l e (zRm 1 21 0 0) s m args below meth c H locs 0 0 (vx_MQ below (zQc X (zPi P)) (zXc X PX) args s 0 0 (zBase X)) (F0 m 4 ls []) := by
    intro n
    induction n with
    | zero => intro _ _ M H locs ls I hl hw; exact hw.elim
    | succ n ih =>
      intro x1 x2 M H locs ls I hl hw
      unfold w_X5_countSmallRecords_4 at hw
      have hb_35 : ∀ (x1 : Int32) (x2 : Int32) (M : zM) (H : Heap) (locs : List Loc) (ls : Array Slot), zWk X s M H locs → lv_has ls 3 [(0, .ref p0), (1, .int x1), (2, .int x2)] → w_X5_countSmallRecords_35 p0 P (w_X5_countSmallRecords_4 p0 P n) x1 x2 M → W p l e (zRm 1 21 0 0) s m args below meth c H locs 0 0 (vx_MQ below (zQc X (zPi P)) (zXc X PX) args s 0 0 (zBase X)) (F0 m 35 ls []) := by
        intro x1 x2 M H locs ls I hl hw
        unfold w_X5_countSmallRecords_35 at hw
        refine lv_iinc (v := (x2 + 1)) (lv' := [(2, .int (x2 + 1)), (0, .ref p0), (1, .int x1)]) hx hb dX5_countSmallRecords_35 hl (k := 2) rfl (by rfl) (by decide) rfl (fun ls hl1 => ?_)
        refine lv_goto (tgt := 4) hx hb dX5_countSmallRecords_38 (by decide) ?_
        refine W.widen (k := 0) (n := 0) (Nat.le_of_ble_eq_true rfl) (Nat.le_of_ble_eq_true rfl) ?_
        exact ih x1 (x2 + 1) _ _ _ ls I (lv_sub hl1 [1, 2, 0] rfl) hw
      refine lv_iload_n hx hb dX5_countSmallRecords_4 rfl (lv_at hl 2 rfl) ?_
      refine lv_aload_n hx hb dX5_countSmallRecords_5 rfl (lv_at hl 0 rfl) ?_
      obtain ⟨hrc, hw⟩ := hw
      refine z_callV C I (as := []) (rest := [.int x2]) (m_X1_count E hw) kv_X5_77 vc_2 hrc rfl rfl hl.1 (Nat.le_of_ble_eq_true rfl) ⟨Nat.le_of_ble_eq_true rfl, Nat.le_of_ble_eq_true rfl⟩ ⟨Nat.le_of_ble_eq_true rfl, Nat.le_of_ble_eq_true rfl⟩ dX5_countSmallRecords_6 (z_prop C htab (Nat.le_of_ble_eq_true rfl) (Nat.le_of_ble_eq_true rfl)) (fun v M2 _ _ I hv => ?_)
      obtain ⟨v3, rfl, hw⟩ := hv
      refine W.eq (g2 := F0 m 9 ls [.int v3, .int x2]) rfl ?_
      refine lv_icmp_ge (tgt := 41) hx hb dX5_countSmallRecords_9 (by decide) (fun c => ?_) (fun c => ?_)
      · replace hw := hw.1 c
        refine lv_iload_n hx hb dX5_countSmallRecords_41 rfl (lv_at hl 1 rfl) ?_
        exact z_iret C I hr ⟨_, rfl, hw⟩ (Nat.le_of_ble_eq_true rfl) (Nat.le_of_ble_eq_true rfl) dX5_countSmallRecords_42
      · replace hw := hw.2 c
        refine lv_iload_n hx hb dX5_countSmallRecords_12 rfl (lv_at hl 1 rfl) ?_
        refine lv_sipush (v := 300) hx hb dX5_countSmallRecords_13 (by decide) ?_
        refine lv_icmp_gt (tgt := 41) hx hb dX5_countSmallRecords_16 (by decide) (fun c => ?_) (fun c => ?_)
        · replace hw := hw.1 c
          refine lv_iload_n hx hb dX5_countSmallRecords_41 rfl (lv_at hl 1 rfl) ?_
          exact z_iret C I hr ⟨_, rfl, hw⟩ (Nat.le_of_ble_eq_true rfl) (Nat.le_of_ble_eq_true rfl) dX5_countSmallRecords_42
        · replace hw := hw.2 c
          refine lv_aload_n hx hb dX5_countSmallRecords_19 rfl (lv_at hl 0 rfl) ?_
          refine lv_iload_n hx hb dX5_countSmallRecords_20 rfl (lv_at hl 2 rfl) ?_
          obtain ⟨hrc, hw⟩ := hw
          refine z_callV C I (as := [.int x2]) (rest := []) (m_X1_at E hw) kv_X5_236 vc_2 hrc rfl rfl hl.1 (Nat.le_of_ble_eq_true rfl) ⟨Nat.le_of_ble_eq_true rfl, Nat.le_of_ble_eq_true rfl⟩ ⟨Nat.le_of_ble_eq_true rfl, Nat.le_of_ble_eq_true rfl⟩ dX5_countSmallRecords_21 (z_prop C htab (Nat.le_of_ble_eq_true rfl) (Nat.le_of_ble_eq_true rfl)) (fun v M4 _ _ I hv => ?_)
          obtain ⟨v5, rfl, hw⟩ := hv
          refine W.eq (g2 := F0 m 24 ls [.int v5]) rfl ?_
          refine lv_if_eq (tgt := 35) hx hb dX5_countSmallRecords_24 (by decide) (fun c => ?_) (fun c => ?_)
          · replace hw := hw.1 c
            refine W.widen (k := 0) (n := 0) (Nat.le_of_ble_eq_true rfl) (Nat.le_of_ble_eq_true rfl) ?_
            exact hb_35 x1 x2 _ _ _ ls I (lv_sub hl [0, 1, 2] rfl) hw
          · replace hw := hw.2 c
            refine lv_iload_n hx hb dX5_countSmallRecords_27 rfl (lv_at hl 1 rfl) ?_
            refine lv_aload_n hx hb dX5_countSmallRecords_28 rfl (lv_at hl 0 rfl) ?_
            refine lv_iload_n hx hb dX5_countSmallRecords_29 rfl (lv_at hl 2 rfl) ?_
            obtain ⟨hrc, hw⟩ := hw
            refine z_callV C I (as := [.int x2]) (rest := [.int x1]) (m_X1_at E hw) kv_X5_236 vc_2 hrc rfl rfl hl.1 (Nat.le_of_ble_eq_true rfl) ⟨Nat.le_of_ble_eq_true rfl, Nat.le_of_ble_eq_true rfl⟩ ⟨Nat.le_of_ble_eq_true rfl, Nat.le_of_ble_eq_true rfl⟩ dX5_countSmallRecords_30 (z_prop C htab (Nat.le_of_ble_eq_true rfl) (Nat.le_of_ble_eq_true rfl)) (fun v M6 _ _ I hv => ?_)
            obtain ⟨v7, rfl, hw⟩ := hv
            refine W.eq (g2 := F0 m 33 ls [.int v7, .int x1]) rfl ?_
            refine lv_imul hx hb dX5_countSmallRecords_33 ?_
            refine lv_istore_n (lv' := [(1, .int (x1 * v7)), (0, .ref p0), (2, .int x2)]) hx hb dX5_countSmallRecords_34 rfl hl (by decide) rfl (fun ls hl8 => ?_)
            refine W.widen (k := 0) (n := 0) (Nat.le_of_ble_eq_true rfl) (Nat.le_of_ble_eq_true rfl) ?_
            exact hb_35 (x1 * v7) x2 _ _ _ ls I (lv_sub hl8 [1, 0, 2] rfl) hw
  refine lv_iconst (v := 1) hx hb dX5_countSmallRecords_0 (by decide) ?_
  refine lv_istore_n (lv' := [(1, .int (1 : Int32)), (0, .ref p0)]) hx hb dX5_countSmallRecords_1 rfl hl (by decide) rfl (fun ls hl9 => ?_)
  refine lv_iconst (v := 0) hx hb dX5_countSmallRecords_2 (by decide) ?_
  refine lv_istore_n (lv' := [(2, .int (0 : Int32)), (1, .int (1 : Int32)), (0, .ref p0)]) hx hb dX5_countSmallRecords_3 rfl hl9 (by decide) rfl (fun ls hl10 => ?_)
  obtain ⟨nn, hw⟩ := hw
  refine W.widen (k := 0) (n := 0) (Nat.le_of_ble_eq_true rfl) (Nat.le_of_ble_eq_true rfl) ?_
  exact hb_4 nn (1 : Int32) (0 : Int32) _ _ _ ls I (lv_sub hl10 [2, 1, 0] rfl) hw
set_option maxHeartbeats 4000000 in
set_option maxRecDepth 100000 in
theorem m_X5_putSmallRecord {X : zX} {l : Launch} (E : zEnv X l) {M : zM} {p0 : Nat} {p1 : Nat} {p2 : Int32} {P : zM → Prop} {PX : Nat → zM → Prop} (hw : w_X5_putSmallRecord p0 p1 p2 M P) : zCT X l yX5_putSmallRecord cX5_putSmallRecord 6 none 1 21 0 0 M [.ref p0, .ref p1, .int p2] (zPv P) PX := by
  refine z_entry E (by decide) ?_
  intro p e s m args below meth c C hr htab I
  have hx := C.1.1
  have hb := C.1.2.1
  obtain ⟨ls, he, hl⟩ := z_enter (m := m) (n := 6) (vs := [.ref p0, .ref p1, .int p2]) (l := [(0, .ref p0), (1, .ref p1), (2, .int p2)]) (Nat.le_of_ble_eq_true rfl) rfl
  rw [he]
  clear he
  unfold w_X5_putSmallRecord at hw
  have hb_9 : ∀ (n : Nat) (x3 : Int32) (x4 : Int32) (M : zM) (H : Heap) (locs : List Loc) (ls : Array Slot), zWk X s M H locs → lv_has ls 6 [(0, .ref p0), (1, .ref p1), (3, .int x3), (4, .int x4)] → w_X5_putSmallRecord_9 p0 p1 p2 P n x3 x4 M → W p l e (zRm 1 21 0 0) s m args below meth c H locs 0 0 (vx_MQ below (zQc X (zPv P)) (zXc X PX) args s 0 0 (zBase X)) (F0 m 9 ls []) := by
    intro n
    induction n with
    | zero => intro _ _ M H locs ls I hl hw; exact hw.elim
    | succ n ih =>
      intro x3 x4 M H locs ls I hl hw
      unfold w_X5_putSmallRecord_9 at hw
      have hb_52 : ∀ (x3 : Int32) (x4 : Int32) (M : zM) (H : Heap) (locs : List Loc) (ls : Array Slot), zWk X s M H locs → lv_has ls 6 [(0, .ref p0), (1, .ref p1), (3, .int x3), (4, .int x4)] → w_X5_putSmallRecord_52 p0 p1 p2 P (w_X5_putSmallRecord_9 p0 p1 p2 P n) x3 x4 M → W p l e (zRm 1 21 0 0) s m args below meth c H locs 0 0 (vx_MQ below (zQc X (zPv P)) (zXc X PX) args s 0 0 (zBase X)) (F0 m 52 ls []) := by
        intro x3 x4 M H locs ls I hl hw
        unfold w_X5_putSmallRecord_52 at hw
        refine lv_iinc (v := (x4 + 1)) (lv' := [(4, .int (x4 + 1)), (0, .ref p0), (1, .ref p1), (3, .int x3)]) hx hb dX5_putSmallRecord_52 hl (k := 3) rfl (by rfl) (by decide) rfl (fun ls hl1 => ?_)
        refine lv_goto (tgt := 9) hx hb dX5_putSmallRecord_55 (by decide) ?_
        refine W.widen (k := 0) (n := 0) (Nat.le_of_ble_eq_true rfl) (Nat.le_of_ble_eq_true rfl) ?_
        exact ih x3 (x4 + 1) _ _ _ ls I (lv_sub hl1 [1, 2, 3, 0] rfl) hw
      refine lv_iload hx hb dX5_putSmallRecord_9 (lv_at hl 3 rfl) ?_
      refine lv_aload_n hx hb dX5_putSmallRecord_11 rfl (lv_at hl 1 rfl) ?_
      obtain ⟨hrc, hw⟩ := hw
      refine z_callV C I (as := []) (rest := [.int x4]) (m_X1_count E hw) kv_X5_77 vc_2 hrc rfl rfl hl.1 (Nat.le_of_ble_eq_true rfl) ⟨Nat.le_of_ble_eq_true rfl, Nat.le_of_ble_eq_true rfl⟩ ⟨Nat.le_of_ble_eq_true rfl, Nat.le_of_ble_eq_true rfl⟩ dX5_putSmallRecord_12 (z_prop C htab (Nat.le_of_ble_eq_true rfl) (Nat.le_of_ble_eq_true rfl)) (fun v M2 _ _ I hv => ?_)
      obtain ⟨v3, rfl, hw⟩ := hv
      refine W.eq (g2 := F0 m 15 ls [.int v3, .int x4]) rfl ?_
      refine lv_icmp_ge (tgt := 58) hx hb dX5_putSmallRecord_15 (by decide) (fun c => ?_) (fun c => ?_)
      · replace hw := hw.1 c
        exact z_vret C I hr ⟨rfl, hw⟩ (Nat.le_of_ble_eq_true rfl) (Nat.le_of_ble_eq_true rfl) dX5_putSmallRecord_58
      · replace hw := hw.2 c
        refine lv_aload_n hx hb dX5_putSmallRecord_18 rfl (lv_at hl 1 rfl) ?_
        refine lv_iload hx hb dX5_putSmallRecord_19 (lv_at hl 3 rfl) ?_
        obtain ⟨hrc, hw⟩ := hw
        refine z_callV C I (as := [.int x4]) (rest := []) (m_X1_at E hw) kv_X5_236 vc_2 hrc rfl rfl hl.1 (Nat.le_of_ble_eq_true rfl) ⟨Nat.le_of_ble_eq_true rfl, Nat.le_of_ble_eq_true rfl⟩ ⟨Nat.le_of_ble_eq_true rfl, Nat.le_of_ble_eq_true rfl⟩ dX5_putSmallRecord_21 (z_prop C htab (Nat.le_of_ble_eq_true rfl) (Nat.le_of_ble_eq_true rfl)) (fun v M4 _ _ I hv => ?_)
        obtain ⟨v5, rfl, hw⟩ := hv
        refine W.eq (g2 := F0 m 24 ls [.int v5]) rfl ?_
        refine lv_istore (lv' := [(5, .int v5), (0, .ref p0), (1, .ref p1), (3, .int x3), (4, .int x4)]) hx hb dX5_putSmallRecord_24 hl (by decide) rfl (fun ls hl6 => ?_)
        refine lv_iload hx hb dX5_putSmallRecord_26 (lv_at hl6 0 rfl) ?_
        refine lv_if_le (tgt := 47) hx hb dX5_putSmallRecord_28 (by decide) (fun c => ?_) (fun c => ?_)
        · replace hw := hw.1 c
          refine lv_aload_n hx hb dX5_putSmallRecord_47 rfl (lv_at hl6 1 rfl) ?_
          refine lv_iconst (v := 0) hx hb dX5_putSmallRecord_48 (by decide) ?_
          obtain ⟨hrc, hw⟩ := hw
          refine z_callV C I (as := [.int (0 : Int32)]) (rest := []) (m_X1_add E hw) kv_X5_226 vc_2 hrc rfl rfl hl6.1 (Nat.le_of_ble_eq_true rfl) ⟨Nat.le_of_ble_eq_true rfl, Nat.le_of_ble_eq_true rfl⟩ ⟨Nat.le_of_ble_eq_true rfl, Nat.le_of_ble_eq_true rfl⟩ dX5_putSmallRecord_49 (z_prop C htab (Nat.le_of_ble_eq_true rfl) (Nat.le_of_ble_eq_true rfl)) (fun v M7 _ _ I hv => ?_)
          obtain ⟨rfl, hw⟩ := hv
          refine W.eq (g2 := F0 m 52 ls []) rfl ?_
          refine W.widen (k := 0) (n := 0) (Nat.le_of_ble_eq_true rfl) (Nat.le_of_ble_eq_true rfl) ?_
          exact hb_52 x3 x4 _ _ _ ls I (lv_sub hl6 [1, 2, 3, 4] rfl) hw
        · replace hw := hw.2 c
          refine lv_aload_n hx hb dX5_putSmallRecord_31 rfl (lv_at hl6 1 rfl) ?_
          refine lv_iload_n hx hb dX5_putSmallRecord_32 rfl (lv_at hl6 3 rfl) ?_
          refine lv_iload hx hb dX5_putSmallRecord_33 (lv_at hl6 0 rfl) ?_
          obtain ⟨hne, hw⟩ := hw
          refine lv_irem hx hb dX5_putSmallRecord_35 hne ?_
          obtain ⟨hrc, hw⟩ := hw
          refine z_callV C I (as := [.int (x3 - x3 / v5 * v5)]) (rest := []) (m_X1_add E hw) kv_X5_226 vc_2 hrc rfl rfl hl6.1 (Nat.le_of_ble_eq_true rfl) ⟨Nat.le_of_ble_eq_true rfl, Nat.le_of_ble_eq_true rfl⟩ ⟨Nat.le_of_ble_eq_true rfl, Nat.le_of_ble_eq_true rfl⟩ dX5_putSmallRecord_36 (z_prop C htab (Nat.le_of_ble_eq_true rfl) (Nat.le_of_ble_eq_true rfl)) (fun v M8 _ _ I hv => ?_)
          obtain ⟨rfl, hw⟩ := hv
          refine W.eq (g2 := F0 m 39 ls []) rfl ?_
          refine lv_iload_n hx hb dX5_putSmallRecord_39 rfl (lv_at hl6 3 rfl) ?_
          refine lv_iload hx hb dX5_putSmallRecord_40 (lv_at hl6 0 rfl) ?_
          obtain ⟨hne, hw⟩ := hw
          refine lv_idiv hx hb dX5_putSmallRecord_42 hne ?_
          refine lv_istore_n (lv' := [(3, .int (x3 / v5)), (5, .int v5), (0, .ref p0), (1, .ref p1), (4, .int x4)]) hx hb dX5_putSmallRecord_43 rfl hl6 (by decide) rfl (fun ls hl9 => ?_)
          refine lv_goto (tgt := 52) hx hb dX5_putSmallRecord_44 (by decide) ?_
          refine W.widen (k := 0) (n := 0) (Nat.le_of_ble_eq_true rfl) (Nat.le_of_ble_eq_true rfl) ?_
          exact hb_52 (x3 / v5) x4 _ _ _ ls I (lv_sub hl9 [2, 3, 0, 4] rfl) hw
  refine lv_iload_n hx hb dX5_putSmallRecord_0 rfl (lv_at hl 2 rfl) ?_
  refine lv_istore_n (lv' := [(3, .int p2), (0, .ref p0), (1, .ref p1), (2, .int p2)]) hx hb dX5_putSmallRecord_1 rfl hl (by decide) rfl (fun ls hl10 => ?_)
  refine lv_aload_n hx hb dX5_putSmallRecord_2 rfl (lv_at hl10 1 rfl) ?_
  obtain ⟨hrc, hw⟩ := hw
  refine z_callV C I (as := []) (rest := []) (m_X1_empty E hw) kv_X5_219 vc_2 hrc rfl rfl hl10.1 (Nat.le_of_ble_eq_true rfl) ⟨Nat.le_of_ble_eq_true rfl, Nat.le_of_ble_eq_true rfl⟩ ⟨Nat.le_of_ble_eq_true rfl, Nat.le_of_ble_eq_true rfl⟩ dX5_putSmallRecord_3 (z_prop C htab (Nat.le_of_ble_eq_true rfl) (Nat.le_of_ble_eq_true rfl)) (fun v M11 _ _ I hv => ?_)
  obtain ⟨rfl, hw⟩ := hv
  refine W.eq (g2 := F0 m 6 ls []) rfl ?_
  refine lv_iconst (v := 0) hx hb dX5_putSmallRecord_6 (by decide) ?_
  refine lv_istore (lv' := [(4, .int (0 : Int32)), (3, .int p2), (0, .ref p0), (1, .ref p1), (2, .int p2)]) hx hb dX5_putSmallRecord_7 hl10 (by decide) rfl (fun ls hl12 => ?_)
  obtain ⟨nn, hw⟩ := hw
  refine W.widen (k := 0) (n := 0) (Nat.le_of_ble_eq_true rfl) (Nat.le_of_ble_eq_true rfl) ?_
  exact hb_9 nn p2 (0 : Int32) _ _ _ ls I (lv_sub hl12 [2, 3, 1, 0] rfl) hw
set_option maxHeartbeats 4000000 in
set_option maxRecDepth 100000 in
theorem m_X5_readDefault {X : zX} {l : Launch} (E : zEnv X l) {M : zM} {p0 : Nat} {p1 : Nat} {P : Int32 → zM → Prop} {PX : Nat → zM → Prop} (hw : w_X5_readDefault p0 p1 M P) : zCT X l yX5_readDefault cX5_readDefault 2 (some .boolean) 1 21 0 0 M [.ref p0, .ref p1] (zPz P) PX := by
  refine z_entry E (by decide) ?_
  intro p e s m args below meth c C hr htab I
  have hx := C.1.1
  have hb := C.1.2.1
  obtain ⟨ls, he, hl⟩ := z_enter (m := m) (n := 2) (vs := [.ref p0, .ref p1]) (l := [(0, .ref p0), (1, .ref p1)]) (Nat.le_of_ble_eq_true rfl) rfl
  rw [he]
  clear he
  unfold w_X5_readDefault at hw
  have hb_15 : ∀ (M : zM) (H : Heap) (locs : List Loc) (ls : Array Slot), zWk X s M H locs → lv_has ls 2 [(0, .ref p0)] → w_X5_readDefault_15 p0 p1 P M → W p l e (zRm 1 21 0 0) s m args below meth c H locs 0 0 (vx_MQ below (zQc X (zPz P)) (zXc X PX) args s 0 0 (zBase X)) (F0 m 15 ls []) := by
    intro M H locs ls I hl hw
    unfold w_X5_readDefault_15 at hw
    refine lv_aload_n hx hb dX5_readDefault_15 rfl (lv_at hl 0 rfl) ?_
    refine z_geti C I fl_X5_127 hw dX5_readDefault_16 (fun v1 hw => ?_)
    obtain ⟨h01, hw⟩ := hw
    exact z_zret C I hr h01 ⟨_, rfl, h01, hw⟩ (Nat.le_of_ble_eq_true rfl) (Nat.le_of_ble_eq_true rfl) dX5_readDefault_19
  refine lv_aload_n hx hb dX5_readDefault_0 rfl (lv_at hl 0 rfl) ?_
  refine z_geti C I fl_X5_127 hw dX5_readDefault_1 (fun v2 hw => ?_)
  refine lv_if_eq (tgt := 15) hx hb dX5_readDefault_4 (by decide) (fun c => ?_) (fun c => ?_)
  · replace hw := hw.1 c
    refine W.widen (k := 0) (n := 0) (Nat.le_of_ble_eq_true rfl) (Nat.le_of_ble_eq_true rfl) ?_
    exact hb_15 _ _ _ ls I (lv_sub hl [0] rfl) hw
  · replace hw := hw.2 c
    refine lv_aload_n hx hb dX5_readDefault_7 rfl (lv_at hl 1 rfl) ?_
    refine lv_aload_n hx hb dX5_readDefault_8 rfl (lv_at hl 0 rfl) ?_
    refine z_geti C I fl_X5_131 hw dX5_readDefault_9 (fun v3 hw => ?_)
    obtain ⟨hrc, hw⟩ := hw
    refine z_callV C I (as := [.int v3]) (rest := []) (m_X1_add E hw) kv_X5_226 vc_2 hrc rfl rfl hl.1 (Nat.le_of_ble_eq_true rfl) ⟨Nat.le_of_ble_eq_true rfl, Nat.le_of_ble_eq_true rfl⟩ ⟨Nat.le_of_ble_eq_true rfl, Nat.le_of_ble_eq_true rfl⟩ dX5_readDefault_12 (z_prop C htab (Nat.le_of_ble_eq_true rfl) (Nat.le_of_ble_eq_true rfl)) (fun v M4 _ _ I hv => ?_)
    obtain ⟨rfl, hw⟩ := hv
    refine W.eq (g2 := F0 m 15 ls []) rfl ?_
    refine W.widen (k := 0) (n := 0) (Nat.le_of_ble_eq_true rfl) (Nat.le_of_ble_eq_true rfl) ?_
    exact hb_15 _ _ _ ls I (lv_sub hl [0] rfl) hw
set_option maxHeartbeats 4000000 in
set_option maxRecDepth 100000 in
theorem m_X5_readField {X : zX} {l : Launch} (E : zEnv X l) {rc0 : Option Nat → Option Nat → Nat → Int32 → Nat → Int32 → zM → (Int32 → zM → Prop) → Prop} (FR LO : Nat) (hF : 12 ≤ FR) (hL : 300 ≤ LO) (hrec : ∀ (p0 : Option Nat) (p1 : Option Nat) (p2 : Nat) (p3 : Int32) (p4 : Nat) (p5 : Int32) (M : zM) (P : Int32 → zM → Prop) {PX : Nat → zM → Prop}, rc0 p0 p1 p2 p3 p4 p5 M P → zCT X l yX5_readSchema cX5_readSchema 7 (some .boolean) FR LO 0 0 M [va_rf p0, va_rf p1, .ref p2, .int p3, .ref p4, .int p5] (zPz P) PX) {M : zM} {p0 : Nat} {p1 : Nat} {p2 : Nat} {p3 : Int32} {p4 : Nat} {p5 : Int32} {P : Int32 → zM → Prop} {PX : Nat → zM → Prop} (hw : w_X5_readField rc0 p0 p1 p2 p3 p4 p5 M P) : zCT X l yX5_readField cX5_readField 9 (some .boolean) (FR + 1) (LO + 40) 0 0 M [.ref p0, .ref p1, .ref p2, .int p3, .ref p4, .int p5] (zPz P) PX := by
  refine z_entry E (by decide) ?_
  intro p e s m args below meth c C hr htab I
  have hx := C.1.1
  have hb := C.1.2.1
  obtain ⟨ls, he, hl⟩ := z_enter (m := m) (n := 9) (vs := [.ref p0, .ref p1, .ref p2, .int p3, .ref p4, .int p5]) (l := [(0, .ref p0), (1, .ref p1), (2, .ref p2), (3, .int p3), (4, .ref p4), (5, .int p5)]) (Nat.le_of_ble_eq_true rfl) rfl
  rw [he]
  clear he
  unfold w_X5_readField at hw
  have hb_104 : ∀ (x8 : Int32) (M : zM) (H : Heap) (locs : List Loc) (ls : Array Slot), zWk X s M H locs → lv_has ls 9 [(4, .ref p4), (8, .int x8)] → w_X5_readField_104 rc0 p0 p1 p2 p3 p4 p5 P x8 M → W p l e (zRm (FR + 1) (LO + 40) 0 0) s m args below meth c H locs 0 0 (vx_MQ below (zQc X (zPz P)) (zXc X PX) args s 0 0 (zBase X)) (F0 m 104 ls []) := by
    intro x8 M H locs ls I hl hw
    unfold w_X5_readField_104 at hw
    refine lv_aload hx hb dX5_readField_104 (lv_at hl 0 rfl) ?_
    refine lv_iload hx hb dX5_readField_106 (lv_at hl 1 rfl) ?_
    obtain ⟨hrc, hw⟩ := hw
    refine z_callV C I (as := [.int x8]) (rest := []) (m_X1_add E hw) kv_X5_226 vc_2 hrc rfl rfl hl.1 (Nat.le_of_ble_eq_true rfl) ⟨by show _ ≤ FR + 1; omega, by show _ ≤ LO + 40; omega⟩ ⟨Nat.le_of_ble_eq_true rfl, Nat.le_of_ble_eq_true rfl⟩ dX5_readField_108 (z_prop C htab (Nat.le_of_ble_eq_true rfl) (Nat.le_of_ble_eq_true rfl)) (fun v M1 _ _ I hv => ?_)
    obtain ⟨rfl, hw⟩ := hv
    refine W.eq (g2 := F0 m 111 ls []) rfl ?_
    refine lv_iconst (v := 1) hx hb dX5_readField_111 (by decide) ?_
    exact z_zret C I hr (Or.inr rfl) ⟨_, rfl, (Or.inr rfl), hw⟩ (Nat.le_of_ble_eq_true rfl) (Nat.le_of_ble_eq_true rfl) dX5_readField_112
  refine lv_aload_n hx hb dX5_readField_0 rfl (lv_at hl 1 rfl) ?_
  refine lv_aload_n hx hb dX5_readField_1 rfl (lv_at hl 0 rfl) ?_
  obtain ⟨hrc, hw⟩ := hw
  refine z_callV C I (as := [.ref p0]) (rest := []) (m_X2_sourceOf E hw) kv_X5_272 vc_3 hrc rfl rfl hl.1 (Nat.le_of_ble_eq_true rfl) ⟨by show _ ≤ FR + 1; omega, by show _ ≤ LO + 40; omega⟩ ⟨Nat.le_of_ble_eq_true rfl, Nat.le_of_ble_eq_true rfl⟩ dX5_readField_2 (z_prop C htab (Nat.le_of_ble_eq_true rfl) (Nat.le_of_ble_eq_true rfl)) (fun v M2 _ _ I hv => ?_)
  obtain ⟨v3, rfl, hw⟩ := hv
  refine W.eq (g2 := F0 m 5 ls [va_rf v3]) rfl ?_
  refine z_astore (lv' := [(6, va_rf v3), (0, .ref p0), (1, .ref p1), (2, .ref p2), (3, .int p3), (4, .ref p4), (5, .int p5)]) C (r := v3) dX5_readField_5 hl (by decide) rfl (fun ls hl4 => ?_)
  refine z_aload C (r := v3) dX5_readField_7 (lv_at hl4 0 rfl) ?_
  refine z_ifnonnull C (r := v3) (tgt := 19) dX5_readField_9 (by decide) (fun a5 c => ?_) (fun c => ?_)
  · have hq := hw.2 a5 c
    subst c
    have hw := hq
    clear hq
    refine W.eq (g2 := F0 m 19 ls []) rfl ?_
    have hl7 : lv_has ls 9 [(6, .ref a5), (0, .ref p0), (1, .ref p1), (2, .ref p2), (3, .int p3), (4, .ref p4), (5, .int p5)] := hl4
    refine lv_aload_n hx hb dX5_readField_19 rfl (lv_at hl7 1 rfl) ?_
    refine lv_aload hx hb dX5_readField_20 (lv_at hl7 0 rfl) ?_
    refine z_geti C I fl_X5_113 hw dX5_readField_22 (fun v10 hw => ?_)
    obtain ⟨hrc, hw⟩ := hw
    refine z_callV C I (as := [.int v10]) (rest := []) (m_X0_isReadFromType E hw) kv_X5_276 vc_1 hrc rfl rfl hl7.1 (Nat.le_of_ble_eq_true rfl) ⟨by show _ ≤ FR + 1; omega, by show _ ≤ LO + 40; omega⟩ ⟨Nat.le_of_ble_eq_true rfl, Nat.le_of_ble_eq_true rfl⟩ dX5_readField_25 (z_prop C htab (Nat.le_of_ble_eq_true rfl) (Nat.le_of_ble_eq_true rfl)) (fun v M11 _ _ I hv => ?_)
    obtain ⟨v12, rfl, hv12, hw⟩ := hv
    refine W.eq (g2 := F0 m 28 ls [.int v12]) rfl ?_
    refine lv_if_ne (tgt := 33) hx hb dX5_readField_28 (by decide) (fun c => ?_) (fun c => ?_)
    · replace hw := hw.1 c
      refine lv_iload_n hx hb dX5_readField_33 rfl (lv_at hl7 4 rfl) ?_
      refine lv_aload hx hb dX5_readField_34 (lv_at hl7 0 rfl) ?_
      refine z_geti C I fl_X5_290 hw dX5_readField_36 (fun v13 hw => ?_)
      refine lv_iadd hx hb dX5_readField_39 ?_
      refine lv_istore (lv' := [(7, .int (p3 + v13)), (6, .ref a5), (0, .ref p0), (1, .ref p1), (2, .ref p2), (3, .int p3), (4, .ref p4), (5, .int p5)]) hx hb dX5_readField_40 hl7 (by decide) rfl (fun ls hl14 => ?_)
      refine lv_aload_n hx hb dX5_readField_42 rfl (lv_at hl14 2 rfl) ?_
      refine z_geti C I fl_X5_113 hw dX5_readField_43 (fun v15 hw => ?_)
      refine lv_iconst (v := 4) hx hb dX5_readField_46 (by decide) ?_
      refine lv_icmp_ne (tgt := 72) hx hb dX5_readField_47 (by decide) (fun c => ?_) (fun c => ?_)
      · replace hw := hw.1 c
        refine lv_aload_n hx hb dX5_readField_72 rfl (lv_at hl14 4 rfl) ?_
        refine lv_iload hx hb dX5_readField_73 (lv_at hl14 0 rfl) ?_
        obtain ⟨hrc, hw⟩ := hw
        refine z_callV C I (as := [.int (p3 + v13)]) (rest := []) (m_X1_at E hw) kv_X5_236 vc_2 hrc rfl rfl hl14.1 (Nat.le_of_ble_eq_true rfl) ⟨by show _ ≤ FR + 1; omega, by show _ ≤ LO + 40; omega⟩ ⟨Nat.le_of_ble_eq_true rfl, Nat.le_of_ble_eq_true rfl⟩ dX5_readField_75 (z_prop C htab (Nat.le_of_ble_eq_true rfl) (Nat.le_of_ble_eq_true rfl)) (fun v M16 _ _ I hv => ?_)
        obtain ⟨v17, rfl, hw⟩ := hv
        refine W.eq (g2 := F0 m 78 ls [.int v17]) rfl ?_
        refine lv_istore (lv' := [(8, .int v17), (7, .int (p3 + v13)), (6, .ref a5), (0, .ref p0), (1, .ref p1), (2, .ref p2), (3, .int p3), (4, .ref p4), (5, .int p5)]) hx hb dX5_readField_78 hl14 (by decide) rfl (fun ls hl18 => ?_)
        refine lv_aload_n hx hb dX5_readField_80 rfl (lv_at hl18 3 rfl) ?_
        refine z_geti C I fl_X5_113 hw dX5_readField_81 (fun v19 hw => ?_)
        refine lv_iconst (v := 3) hx hb dX5_readField_84 (by decide) ?_
        refine lv_icmp_ne (tgt := 104) hx hb dX5_readField_85 (by decide) (fun c => ?_) (fun c => ?_)
        · replace hw := hw.1 c
          refine W.widen (k := 0) (n := 0) (Nat.le_of_ble_eq_true rfl) (Nat.le_of_ble_eq_true rfl) ?_
          exact hb_104 v17 _ _ _ ls I (lv_sub hl18 [7, 0] rfl) hw
        · replace hw := hw.2 c
          refine lv_iload hx hb dX5_readField_88 (lv_at hl18 0 rfl) ?_
          refine lv_aload_n hx hb dX5_readField_90 rfl (lv_at hl18 3 rfl) ?_
          refine z_geti C I fl_X5_119 hw dX5_readField_91 (fun v20 hw => ?_)
          refine lv_icmp_lt (tgt := 104) hx hb dX5_readField_94 (by decide) (fun c => ?_) (fun c => ?_)
          · replace hw := hw.1 c
            refine W.widen (k := 0) (n := 0) (Nat.le_of_ble_eq_true rfl) (Nat.le_of_ble_eq_true rfl) ?_
            exact hb_104 v17 _ _ _ ls I (lv_sub hl18 [7, 0] rfl) hw
          · replace hw := hw.2 c
            refine lv_aload_n hx hb dX5_readField_97 rfl (lv_at hl18 3 rfl) ?_
            refine lv_aload hx hb dX5_readField_98 (lv_at hl18 7 rfl) ?_
            refine z_callS C I (as := [.ref p0, .ref p4]) (rest := []) (m_X5_readDefault E hw) ks_X5_286 rfl rfl hl18.1 (Nat.le_of_ble_eq_true rfl) ⟨by show _ ≤ FR + 1; omega, by show _ ≤ LO + 40; omega⟩ ⟨Nat.le_of_ble_eq_true rfl, Nat.le_of_ble_eq_true rfl⟩ dX5_readField_100 (z_prop C htab (Nat.le_of_ble_eq_true rfl) (Nat.le_of_ble_eq_true rfl)) (fun v M21 _ _ I hv => ?_)
            obtain ⟨v22, rfl, hv22, hw⟩ := hv
            refine W.eq (g2 := F0 m 103 ls [.int v22]) rfl ?_
            exact z_zret C I hr hv22 ⟨_, rfl, hv22, hw⟩ (Nat.le_of_ble_eq_true rfl) (Nat.le_of_ble_eq_true rfl) dX5_readField_103
      · replace hw := hw.2 c
        refine lv_aload_n hx hb dX5_readField_50 rfl (lv_at hl14 2 rfl) ?_
        refine z_geto C I fl_X5_279 hw dX5_readField_51 (fun v23 hw => ?_)
        refine lv_aload hx hb dX5_readField_54 (lv_at hl14 1 rfl) ?_
        refine z_geto C I fl_X5_279 hw dX5_readField_56 (fun v24 hw => ?_)
        refine lv_aload_n hx hb dX5_readField_59 rfl (lv_at hl14 4 rfl) ?_
        refine lv_iload hx hb dX5_readField_60 (lv_at hl14 0 rfl) ?_
        refine lv_aload hx hb dX5_readField_62 (lv_at hl14 6 rfl) ?_
        refine lv_iload hx hb dX5_readField_64 (lv_at hl14 7 rfl) ?_
        refine lv_iconst (v := 1) hx hb dX5_readField_66 (by decide) ?_
        refine lv_iadd hx hb dX5_readField_67 ?_
        refine z_callS C I (as := [va_rf v23, va_rf v24, .ref p2, .int (p3 + v13), .ref p4, .int (p5 + (1 : Int32))]) (rest := []) (hrec _ _ _ _ _ _ _ _ hw) ks_X5_220 rfl rfl hl14.1 (Nat.le_of_ble_eq_true rfl) ⟨by show _ ≤ FR + 1; omega, by show _ ≤ LO + 40; omega⟩ ⟨Nat.le_of_ble_eq_true rfl, Nat.le_of_ble_eq_true rfl⟩ dX5_readField_68 (z_prop C htab (Nat.le_of_ble_eq_true rfl) (Nat.le_of_ble_eq_true rfl)) (fun v M25 _ _ I hv => ?_)
        obtain ⟨v26, rfl, hv26, hw⟩ := hv
        refine W.eq (g2 := F0 m 71 ls [.int v26]) rfl ?_
        exact z_zret C I hr hv26 ⟨_, rfl, hv26, hw⟩ (Nat.le_of_ble_eq_true rfl) (Nat.le_of_ble_eq_true rfl) dX5_readField_71
    · replace hw := hw.2 c
      refine lv_iconst (v := 0) hx hb dX5_readField_31 (by decide) ?_
      exact z_zret C I hr (Or.inl rfl) ⟨_, rfl, (Or.inl rfl), hw⟩ (Nat.le_of_ble_eq_true rfl) (Nat.le_of_ble_eq_true rfl) dX5_readField_32
  · have hq := hw.1 c
    subst c
    have hw := hq
    clear hq
    refine W.eq (g2 := F0 m 12 ls []) rfl ?_
    have hl6 : lv_has ls 9 [(6, va_rf none), (0, .ref p0), (1, .ref p1), (2, .ref p2), (3, .int p3), (4, .ref p4), (5, .int p5)] := hl4
    refine lv_aload_n hx hb dX5_readField_12 rfl (lv_at hl6 1 rfl) ?_
    refine lv_aload hx hb dX5_readField_13 (lv_at hl6 5 rfl) ?_
    refine z_callS C I (as := [.ref p0, .ref p4]) (rest := []) (m_X5_readDefault E hw) ks_X5_286 rfl rfl hl6.1 (Nat.le_of_ble_eq_true rfl) ⟨by show _ ≤ FR + 1; omega, by show _ ≤ LO + 40; omega⟩ ⟨Nat.le_of_ble_eq_true rfl, Nat.le_of_ble_eq_true rfl⟩ dX5_readField_15 (z_prop C htab (Nat.le_of_ble_eq_true rfl) (Nat.le_of_ble_eq_true rfl)) (fun v M8 _ _ I hv => ?_)
    obtain ⟨v9, rfl, hv9, hw⟩ := hv
    refine W.eq (g2 := F0 m 18 ls [.int v9]) rfl ?_
    exact z_zret C I hr hv9 ⟨_, rfl, hv9, hw⟩ (Nat.le_of_ble_eq_true rfl) (Nat.le_of_ble_eq_true rfl) dX5_readField_18
set_option maxHeartbeats 4000000 in
set_option maxRecDepth 100000 in
theorem m_X5_readSchemaB {X : zX} {l : Launch} (E : zEnv X l) {rc0 : Option Nat → Option Nat → Nat → Int32 → Nat → Int32 → zM → (Int32 → zM → Prop) → Prop} (FR LO : Nat) (hF : 12 ≤ FR) (hL : 300 ≤ LO) (hrec : ∀ (p0 : Option Nat) (p1 : Option Nat) (p2 : Nat) (p3 : Int32) (p4 : Nat) (p5 : Int32) (M : zM) (P : Int32 → zM → Prop) {PX : Nat → zM → Prop}, rc0 p0 p1 p2 p3 p4 p5 M P → zCT X l yX5_readSchema cX5_readSchema 7 (some .boolean) FR LO 0 0 M [va_rf p0, va_rf p1, .ref p2, .int p3, .ref p4, .int p5] (zPz P) PX) {M : zM} {p0 : Option Nat} {p1 : Option Nat} {p2 : Nat} {p3 : Int32} {p4 : Nat} {p5 : Int32} {P : Int32 → zM → Prop} {PX : Nat → zM → Prop} (hw : w_X5_readSchemaB rc0 p0 p1 p2 p3 p4 p5 M P) : zCT X l yX5_readSchema cX5_readSchema 7 (some .boolean) (FR + 2) (LO + 100) 0 0 M [va_rf p0, va_rf p1, .ref p2, .int p3, .ref p4, .int p5] (zPz P) PX := by
  refine z_entry E (by decide) ?_
  intro p e s m args below meth c C hr htab I
  have hx := C.1.1
  have hb := C.1.2.1
  obtain ⟨ls, he, hl⟩ := z_enter (m := m) (n := 7) (vs := [va_rf p0, va_rf p1, .ref p2, .int p3, .ref p4, .int p5]) (l := [(0, va_rf p0), (1, va_rf p1), (2, .ref p2), (3, .int p3), (4, .ref p4), (5, .int p5)]) (by simp [lg_sl, z_catR, z_catI, z_catF, z_catN]) (by simp [lv_args, z_catR, z_catI, z_catF, z_catN])
  rw [he]
  clear he
  unfold w_X5_readSchemaB at hw
  have hb_20 : ∀ (n : Nat) (x6 : Int32) (M : zM) (H : Heap) (locs : List Loc) (ls : Array Slot), zWk X s M H locs → lv_has ls 7 [(0, va_rf p0), (1, va_rf p1), (2, .ref p2), (3, .int p3), (4, .ref p4), (5, .int p5), (6, .int x6)] → w_X5_readSchemaB_20 rc0 p0 p1 p2 p3 p4 p5 P n x6 M → W p l e (zRm (FR + 2) (LO + 100) 0 0) s m args below meth c H locs 0 0 (vx_MQ below (zQc X (zPz P)) (zXc X PX) args s 0 0 (zBase X)) (F0 m 20 ls []) := by
    intro n
    induction n with
    | zero => intro _ M H locs ls I hl hw; exact hw.elim
    | succ n ih =>
      intro x6 M H locs ls I hl hw
      unfold w_X5_readSchemaB_20 at hw
      refine lv_iload hx hb dX5_readSchema_20 (lv_at hl 6 rfl) ?_
      refine z_aloadn C (r := p0) dX5_readSchema_22 rfl (lv_at hl 0 rfl) ?_
      obtain ⟨a1, hq1, hq2⟩ := hw
      subst hq1
      have hw := hq2
      clear hq2
      refine W.eq (g2 := F0 m 23 ls [.ref a1, .int x6]) rfl ?_
      have hl2 : lv_has ls 7 [(0, .ref a1), (1, va_rf p1), (2, .ref p2), (3, .int p3), (4, .ref p4), (5, .int p5), (6, .int x6)] := hl
      refine z_getr C I fl_X5_81 hw dX5_readSchema_23 (fun v3 hw => ?_)
      obtain ⟨hrc, hw⟩ := hw
      refine z_callV C I (as := []) (rest := [.int x6]) (m_Jx4a65c_size_8abf5 E hw) kv_X5_84 vc_0 hrc rfl rfl hl2.1 (Nat.le_of_ble_eq_true rfl) ⟨by show _ ≤ FR + 2; omega, by show _ ≤ LO + 100; omega⟩ ⟨Nat.le_of_ble_eq_true rfl, Nat.le_of_ble_eq_true rfl⟩ dX5_readSchema_26 (z_prop C htab (Nat.le_of_ble_eq_true rfl) (Nat.le_of_ble_eq_true rfl)) (fun v M4 _ _ I hv => ?_)
      obtain ⟨v5, rfl, hw⟩ := hv
      refine W.eq (g2 := F0 m 29 ls [.int v5, .int x6]) rfl ?_
      refine lv_icmp_ge (tgt := 65) hx hb dX5_readSchema_29 (by decide) (fun c => ?_) (fun c => ?_)
      · replace hw := hw.1 c
        refine lv_iconst (v := 1) hx hb dX5_readSchema_65 (by decide) ?_
        exact z_zret C I hr (Or.inr rfl) ⟨_, rfl, (Or.inr rfl), hw⟩ (Nat.le_of_ble_eq_true rfl) (Nat.le_of_ble_eq_true rfl) dX5_readSchema_66
      · replace hw := hw.2 c
        refine lv_aload_n hx hb dX5_readSchema_32 rfl (lv_at hl2 0 rfl) ?_
        refine z_getr C I fl_X5_81 hw dX5_readSchema_33 (fun v6 hw => ?_)
        refine lv_iload hx hb dX5_readSchema_36 (lv_at hl2 6 rfl) ?_
        obtain ⟨hrc, hw⟩ := hw
        refine z_callV C I (as := [.int x6]) (rest := []) (m_Jx4a65c_get_915e3 E hw) kv_X5_242 vc_0 hrc rfl rfl hl2.1 (Nat.le_of_ble_eq_true rfl) ⟨by show _ ≤ FR + 2; omega, by show _ ≤ LO + 100; omega⟩ ⟨Nat.le_of_ble_eq_true rfl, Nat.le_of_ble_eq_true rfl⟩ dX5_readSchema_38 (z_prop C htab (Nat.le_of_ble_eq_true rfl) (Nat.le_of_ble_eq_true rfl)) (fun v M7 _ _ I hv => ?_)
        obtain ⟨v8, rfl, hw⟩ := hv
        refine W.eq (g2 := F0 m 41 ls [va_rf v8]) rfl ?_
        refine z_cast C I vc_1 (r := v8) zw373 hw dX5_readSchema_41 (fun a9 hw => ?_)
        refine z_aloadn C (r := p1) dX5_readSchema_44 rfl (lv_at hl2 1 rfl) ?_
        refine lv_aload_n hx hb dX5_readSchema_45 rfl (lv_at hl2 2 rfl) ?_
        refine lv_iload_n hx hb dX5_readSchema_46 rfl (lv_at hl2 3 rfl) ?_
        refine lv_aload hx hb dX5_readSchema_47 (lv_at hl2 4 rfl) ?_
        refine lv_iload hx hb dX5_readSchema_49 (lv_at hl2 5 rfl) ?_
        obtain ⟨a10, hq1, hq2⟩ := hw
        subst hq1
        have hw := hq2
        clear hq2
        refine W.eq (g2 := F0 m 51 ls [.int p5, .ref p4, .int p3, .ref p2, .ref a10, .ref a9]) rfl ?_
        have hl11 : lv_has ls 7 [(0, .ref a1), (1, .ref a10), (2, .ref p2), (3, .int p3), (4, .ref p4), (5, .int p5), (6, .int x6)] := hl2
        refine z_callS C I (as := [.ref a9, .ref a10, .ref p2, .int p3, .ref p4, .int p5]) (rest := []) (m_X5_readField E FR LO hF hL hrec hw) ks_X5_282 rfl rfl hl11.1 (Nat.le_of_ble_eq_true rfl) ⟨by show _ ≤ FR + 2; omega, by show _ ≤ LO + 100; omega⟩ ⟨Nat.le_of_ble_eq_true rfl, Nat.le_of_ble_eq_true rfl⟩ dX5_readSchema_51 (z_prop C htab (Nat.le_of_ble_eq_true rfl) (Nat.le_of_ble_eq_true rfl)) (fun v M12 _ _ I hv => ?_)
        obtain ⟨v13, rfl, hv13, hw⟩ := hv
        refine W.eq (g2 := F0 m 54 ls [.int v13]) rfl ?_
        refine lv_if_ne (tgt := 59) hx hb dX5_readSchema_54 (by decide) (fun c => ?_) (fun c => ?_)
        · replace hw := hw.1 c
          refine lv_iinc (v := (x6 + 1)) (lv' := [(6, .int (x6 + 1)), (0, .ref a1), (1, .ref a10), (2, .ref p2), (3, .int p3), (4, .ref p4), (5, .int p5)]) hx hb dX5_readSchema_59 hl11 (k := 6) rfl (by rfl) (by decide) rfl (fun ls hl14 => ?_)
          refine lv_goto (tgt := 20) hx hb dX5_readSchema_62 (by decide) ?_
          refine W.widen (k := 0) (n := 0) (Nat.le_of_ble_eq_true rfl) (Nat.le_of_ble_eq_true rfl) ?_
          exact ih (x6 + 1) _ _ _ ls I (lv_sub hl14 [1, 2, 3, 4, 5, 6, 0] rfl) hw
        · replace hw := hw.2 c
          refine lv_iconst (v := 0) hx hb dX5_readSchema_57 (by decide) ?_
          exact z_zret C I hr (Or.inl rfl) ⟨_, rfl, (Or.inl rfl), hw⟩ (Nat.le_of_ble_eq_true rfl) (Nat.le_of_ble_eq_true rfl) dX5_readSchema_58
  refine z_aloadn C (r := p0) dX5_readSchema_0 rfl (lv_at hl 0 rfl) ?_
  refine z_ifnull C (r := p0) (tgt := 15) dX5_readSchema_1 (by decide) (fun c => ?_) (fun a15 c => ?_)
  · have hq := hw.1 c
    subst c
    have hw := hq
    clear hq
    refine W.eq (g2 := F0 m 15 ls []) rfl ?_
    have hl16 : lv_has ls 7 [(0, va_rf none), (1, va_rf p1), (2, .ref p2), (3, .int p3), (4, .ref p4), (5, .int p5)] := hl
    refine lv_iconst (v := 0) hx hb dX5_readSchema_15 (by decide) ?_
    exact z_zret C I hr (Or.inl rfl) ⟨_, rfl, (Or.inl rfl), hw⟩ (Nat.le_of_ble_eq_true rfl) (Nat.le_of_ble_eq_true rfl) dX5_readSchema_16
  · have hq := hw.2 a15 c
    subst c
    have hw := hq
    clear hq
    refine W.eq (g2 := F0 m 4 ls []) rfl ?_
    have hl17 : lv_has ls 7 [(0, .ref a15), (1, va_rf p1), (2, .ref p2), (3, .int p3), (4, .ref p4), (5, .int p5)] := hl
    refine z_aloadn C (r := p1) dX5_readSchema_4 rfl (lv_at hl17 1 rfl) ?_
    refine z_ifnull C (r := p1) (tgt := 15) dX5_readSchema_5 (by decide) (fun c => ?_) (fun a18 c => ?_)
    · have hq := hw.1 c
      subst c
      have hw := hq
      clear hq
      refine W.eq (g2 := F0 m 15 ls []) rfl ?_
      have hl19 : lv_has ls 7 [(0, .ref a15), (1, va_rf none), (2, .ref p2), (3, .int p3), (4, .ref p4), (5, .int p5)] := hl17
      refine lv_iconst (v := 0) hx hb dX5_readSchema_15 (by decide) ?_
      exact z_zret C I hr (Or.inl rfl) ⟨_, rfl, (Or.inl rfl), hw⟩ (Nat.le_of_ble_eq_true rfl) (Nat.le_of_ble_eq_true rfl) dX5_readSchema_16
    · have hq := hw.2 a18 c
      subst c
      have hw := hq
      clear hq
      refine W.eq (g2 := F0 m 8 ls []) rfl ?_
      have hl20 : lv_has ls 7 [(0, .ref a15), (1, .ref a18), (2, .ref p2), (3, .int p3), (4, .ref p4), (5, .int p5)] := hl17
      refine lv_iload hx hb dX5_readSchema_8 (lv_at hl20 5 rfl) ?_
      refine lv_bipush (v := 40) hx hb dX5_readSchema_10 (by decide) ?_
      refine lv_icmp_le (tgt := 17) hx hb dX5_readSchema_12 (by decide) (fun c => ?_) (fun c => ?_)
      · replace hw := hw.1 c
        refine lv_iconst (v := 0) hx hb dX5_readSchema_17 (by decide) ?_
        refine lv_istore (lv' := [(6, .int (0 : Int32)), (0, .ref a15), (1, .ref a18), (2, .ref p2), (3, .int p3), (4, .ref p4), (5, .int p5)]) hx hb dX5_readSchema_18 hl20 (by decide) rfl (fun ls hl21 => ?_)
        obtain ⟨nn, hw⟩ := hw
        refine W.widen (k := 0) (n := 0) (Nat.le_of_ble_eq_true rfl) (Nat.le_of_ble_eq_true rfl) ?_
        exact hb_20 nn (0 : Int32) _ _ _ ls I (lv_sub hl21 [1, 2, 3, 4, 5, 6, 0] rfl) hw
      · replace hw := hw.2 c
        refine lv_iconst (v := 0) hx hb dX5_readSchema_15 (by decide) ?_
        exact z_zret C I hr (Or.inl rfl) ⟨_, rfl, (Or.inl rfl), hw⟩ (Nat.le_of_ble_eq_true rfl) (Nat.le_of_ble_eq_true rfl) dX5_readSchema_16
