set_option maxHeartbeats 4000000 in
set_option maxRecDepth 100000 in
theorem m_X6_delete {X : zX} {l : Launch} (E : zEnv X l) {M : zM} {o : Nat} {p0 : Int32} {p1 : Int32} {p2 : Int32} {P : Int32 → zM → Prop} {PX : Nat → zM → Prop} (hw : w_X6_delete o p0 p1 p2 M P) : zCT X l yX6_delete cX6_delete 6 (some .int) 4 90 0 0 M [.ref o, .int p0, .int p1, .int p2] (zPi P) PX := by
  refine z_entry E (by decide) ?_
  intro p e s m args below meth c C hr htab I
  have hx := C.1.1
  have hb := C.1.2.1
  obtain ⟨ls, he, hl⟩ := z_enter (m := m) (n := 6) (vs := [.ref o, .int p0, .int p1, .int p2]) (l := [(0, .ref o), (1, .int p0), (2, .int p1), (3, .int p2)]) (Nat.le_of_ble_eq_true rfl) rfl
  rw [he]
  clear he
  unfold w_X6_delete at hw
  have hb_42 : ∀ (n : Nat) (x4 : Int32) (x5 : Int32) (M : zM) (H : Heap) (locs : List Loc) (ls : Array Slot), zWk X s M H locs → lv_has ls 6 [(0, .ref o), (1, .int p0), (4, .int x4), (5, .int x5)] → w_X6_delete_42 o p0 p1 p2 P n x4 x5 M → W p l e (zRm 4 90 0 0) s m args below meth c H locs 0 0 (vx_MQ below (zQc X (zPi P)) (zXc X PX) args s 0 0 (zBase X)) (F0 m 42 ls []) := by
    intro n
    induction n with
    | zero => intro _ _ M H locs ls I hl hw; exact hw.elim
    | succ n ih =>
      intro x4 x5 M H locs ls I hl hw
      unfold w_X6_delete_42 at hw
      have hb_70 : ∀ (x5 : Int32) (y0 : Int32) (y1 : Int32) (M : zM) (H : Heap) (locs : List Loc) (ls : Array Slot), zWk X s M H locs → lv_has ls 6 [(0, .ref o), (1, .int p0), (5, .int x5)] → w_X6_delete_70 o p0 p1 p2 P (w_X6_delete_42 o p0 p1 p2 P n) x5 y0 y1 M → W p l e (zRm 4 90 0 0) s m args below meth c H locs 0 0 (vx_MQ below (zQc X (zPi P)) (zXc X PX) args s 0 0 (zBase X)) (F0 m 70 ls [.int y0, .int y1]) := by
        intro x5 y0 y1 M H locs ls I hl hw
        unfold w_X6_delete_70 at hw
        refine lv_iadd hx hb dX6_delete_70 ?_
        refine lv_istore (lv' := [(4, .int (y1 + y0)), (0, .ref o), (1, .int p0), (5, .int x5)]) hx hb dX6_delete_71 hl (by decide) rfl (fun ls hl1 => ?_)
        refine lv_iinc (v := (x5 + 1)) (lv' := [(5, .int (x5 + 1)), (4, .int (y1 + y0)), (0, .ref o), (1, .int p0)]) hx hb dX6_delete_73 hl1 (k := 3) rfl (by rfl) (by decide) rfl (fun ls hl2 => ?_)
        refine lv_goto (tgt := 42) hx hb dX6_delete_76 (by decide) ?_
        refine W.widen (k := 0) (n := 0) (Nat.le_of_ble_eq_true rfl) (Nat.le_of_ble_eq_true rfl) ?_
        exact ih (y1 + y0) (x5 + 1) _ _ _ ls I (lv_sub hl2 [2, 3, 1, 0] rfl) hw
      refine lv_iload hx hb dX6_delete_42 (lv_at hl 3 rfl) ?_
      refine lv_aload_n hx hb dX6_delete_44 rfl (lv_at hl 0 rfl) ?_
      refine z_getr C I fl_X6_44 hw dX6_delete_45 (fun v3 hw => ?_)
      refine lv_iload_n hx hb dX6_delete_48 rfl (lv_at hl 1 rfl) ?_
      refine z_iald C I hw dX6_delete_49 (fun v4 hw => ?_)
      refine lv_icmp_ge (tgt := 79) hx hb dX6_delete_50 (by decide) (fun c => ?_) (fun c => ?_)
      · replace hw := hw.1 c
        refine lv_iload hx hb dX6_delete_79 (lv_at hl 2 rfl) ?_
        exact z_iret C I hr ⟨_, rfl, hw⟩ (Nat.le_of_ble_eq_true rfl) (Nat.le_of_ble_eq_true rfl) dX6_delete_81
      · replace hw := hw.2 c
        refine lv_iload hx hb dX6_delete_53 (lv_at hl 2 rfl) ?_
        refine lv_aload_n hx hb dX6_delete_55 rfl (lv_at hl 0 rfl) ?_
        refine lv_iload_n hx hb dX6_delete_56 rfl (lv_at hl 1 rfl) ?_
        refine lv_iload hx hb dX6_delete_57 (lv_at hl 3 rfl) ?_
        obtain ⟨hrc, hw⟩ := hw
        refine z_callV C I (as := [.int p0, .int x5]) (rest := [.int x4]) (m_X6_isThereAt E hw) kv_X6_87 vc_7 hrc rfl rfl hl.1 (Nat.le_of_ble_eq_true rfl) ⟨Nat.le_of_ble_eq_true rfl, Nat.le_of_ble_eq_true rfl⟩ ⟨Nat.le_of_ble_eq_true rfl, Nat.le_of_ble_eq_true rfl⟩ dX6_delete_59 (z_prop C htab (Nat.le_of_ble_eq_true rfl) (Nat.le_of_ble_eq_true rfl)) (fun v M5 _ _ I hv => ?_)
        obtain ⟨v6, rfl, hv6, hw⟩ := hv
        refine W.eq (g2 := F0 m 62 ls [.int v6, .int x4]) rfl ?_
        refine lv_if_eq (tgt := 69) hx hb dX6_delete_62 (by decide) (fun c => ?_) (fun c => ?_)
        · replace hw := hw.1 c
          refine lv_iconst (v := 0) hx hb dX6_delete_69 (by decide) ?_
          refine W.widen (k := 0) (n := 0) (Nat.le_of_ble_eq_true rfl) (Nat.le_of_ble_eq_true rfl) ?_
          exact hb_70 x5 (0 : Int32) x4 _ _ _ ls I (lv_sub hl [0, 1, 3] rfl) hw
        · replace hw := hw.2 c
          refine lv_iconst (v := 1) hx hb dX6_delete_65 (by decide) ?_
          refine lv_goto (tgt := 70) hx hb dX6_delete_66 (by decide) ?_
          refine W.widen (k := 0) (n := 0) (Nat.le_of_ble_eq_true rfl) (Nat.le_of_ble_eq_true rfl) ?_
          exact hb_70 x5 (1 : Int32) x4 _ _ _ ls I (lv_sub hl [0, 1, 3] rfl) hw
  have hb_35 : ∀ (y0 : Int32) (y1 : Int32) (y2 : Nat) (M : zM) (H : Heap) (locs : List Loc) (ls : Array Slot), zWk X s M H locs → lv_has ls 6 [(0, .ref o), (1, .int p0)] → w_X6_delete_35 o p0 p1 p2 P y0 y1 y2 M → W p l e (zRm 4 90 0 0) s m args below meth c H locs 0 0 (vx_MQ below (zQc X (zPi P)) (zXc X PX) args s 0 0 (zBase X)) (F0 m 35 ls [.int y0, .int y1, .ref y2]) := by
    intro y0 y1 y2 M H locs ls I hl hw
    unfold w_X6_delete_35 at hw
    refine z_iast C I hw dX6_delete_35 (fun M7 _ _ I hw => ?_)
    refine lv_iconst (v := 0) hx hb dX6_delete_36 (by decide) ?_
    refine lv_istore (lv' := [(4, .int (0 : Int32)), (0, .ref o), (1, .int p0)]) hx hb dX6_delete_37 hl (by decide) rfl (fun ls hl8 => ?_)
    refine lv_iconst (v := 0) hx hb dX6_delete_39 (by decide) ?_
    refine lv_istore (lv' := [(5, .int (0 : Int32)), (4, .int (0 : Int32)), (0, .ref o), (1, .int p0)]) hx hb dX6_delete_40 hl8 (by decide) rfl (fun ls hl9 => ?_)
    obtain ⟨nn, hw⟩ := hw
    refine W.widen (k := 0) (n := 0) (Nat.le_of_ble_eq_true rfl) (Nat.le_of_ble_eq_true rfl) ?_
    exact hb_42 nn (0 : Int32) (0 : Int32) _ _ _ ls I (lv_sub hl9 [2, 3, 1, 0] rfl) hw
  refine lv_aload_n hx hb dX6_delete_0 rfl (lv_at hl 0 rfl) ?_
  refine lv_aload_n hx hb dX6_delete_1 rfl (lv_at hl 0 rfl) ?_
  refine lv_iload_n hx hb dX6_delete_2 rfl (lv_at hl 1 rfl) ?_
  refine lv_iload_n hx hb dX6_delete_3 rfl (lv_at hl 2 rfl) ?_
  refine lv_iload_n hx hb dX6_delete_4 rfl (lv_at hl 3 rfl) ?_
  obtain ⟨hrc, hw⟩ := hw
  refine z_callV C I (as := [.int p0, .int p1, .int p2]) (rest := [.ref o]) (m_X6_errorOfDelete E hw) kv_X6_152 vc_7 hrc rfl rfl hl.1 (Nat.le_of_ble_eq_true rfl) ⟨Nat.le_of_ble_eq_true rfl, Nat.le_of_ble_eq_true rfl⟩ ⟨Nat.le_of_ble_eq_true rfl, Nat.le_of_ble_eq_true rfl⟩ dX6_delete_5 (z_prop C htab (Nat.le_of_ble_eq_true rfl) (Nat.le_of_ble_eq_true rfl)) (fun v M10 _ _ I hv => ?_)
  obtain ⟨v11, rfl, hw⟩ := hv
  refine W.eq (g2 := F0 m 8 ls [.int v11, .ref o]) rfl ?_
  obtain ⟨hrc, hw⟩ := hw
  refine z_callV C I (as := [.int v11]) (rest := []) (m_X6_holds E hw) kv_X6_102 vc_7 hrc rfl rfl hl.1 (Nat.le_of_ble_eq_true rfl) ⟨Nat.le_of_ble_eq_true rfl, Nat.le_of_ble_eq_true rfl⟩ ⟨Nat.le_of_ble_eq_true rfl, Nat.le_of_ble_eq_true rfl⟩ dX6_delete_8 (z_prop C htab (Nat.le_of_ble_eq_true rfl) (Nat.le_of_ble_eq_true rfl)) (fun v M12 _ _ I hv => ?_)
  obtain ⟨v13, rfl, hv13, hw⟩ := hv
  refine W.eq (g2 := F0 m 11 ls [.int v13]) rfl ?_
  refine lv_if_ne (tgt := 16) hx hb dX6_delete_11 (by decide) (fun c => ?_) (fun c => ?_)
  · replace hw := hw.1 c
    refine lv_aload_n hx hb dX6_delete_16 rfl (lv_at hl 0 rfl) ?_
    refine z_getr C I fl_X6_41 hw dX6_delete_17 (fun v14 hw => ?_)
    refine lv_bipush (v := 6) hx hb dX6_delete_20 (by decide) ?_
    refine lv_iload_n hx hb dX6_delete_22 rfl (lv_at hl 1 rfl) ?_
    refine lv_imul hx hb dX6_delete_23 ?_
    refine lv_iload_n hx hb dX6_delete_24 rfl (lv_at hl 2 rfl) ?_
    refine lv_iadd hx hb dX6_delete_25 ?_
    refine lv_iload_n hx hb dX6_delete_26 rfl (lv_at hl 3 rfl) ?_
    refine lv_if_eq (tgt := 34) hx hb dX6_delete_27 (by decide) (fun c => ?_) (fun c => ?_)
    · replace hw := hw.1 c
      refine lv_iconst (v := 2) hx hb dX6_delete_34 (by decide) ?_
      refine W.widen (k := 0) (n := 0) (Nat.le_of_ble_eq_true rfl) (Nat.le_of_ble_eq_true rfl) ?_
      exact hb_35 (2 : Int32) (((6 : Int32) * p0) + p1) v14 _ _ _ ls I (lv_sub hl [0, 1] rfl) hw
    · replace hw := hw.2 c
      refine lv_iconst (v := 3) hx hb dX6_delete_30 (by decide) ?_
      refine lv_goto (tgt := 35) hx hb dX6_delete_31 (by decide) ?_
      refine W.widen (k := 0) (n := 0) (Nat.le_of_ble_eq_true rfl) (Nat.le_of_ble_eq_true rfl) ?_
      exact hb_35 (3 : Int32) (((6 : Int32) * p0) + p1) v14 _ _ _ ls I (lv_sub hl [0, 1] rfl) hw
  · replace hw := hw.2 c
    refine lv_iconst (v := 0) hx hb dX6_delete_14 (by decide) ?_
    exact z_iret C I hr ⟨_, rfl, hw⟩ (Nat.le_of_ble_eq_true rfl) (Nat.le_of_ble_eq_true rfl) dX6_delete_15
set_option maxHeartbeats 4000000 in
set_option maxRecDepth 100000 in
theorem m_X6_versions {X : zX} {l : Launch} (E : zEnv X l) {M : zM} {o : Nat} {p0 : Int32} {P : Int32 → zM → Prop} {PX : Nat → zM → Prop} (hw : w_X6_versions o p0 M P) : zCT X l yX6_versions cX6_versions 2 (some .int) 2 42 0 0 M [.ref o, .int p0] (zPi P) PX := by
  refine z_entry E (by decide) ?_
  intro p e s m args below meth c C hr htab I
  have hx := C.1.1
  have hb := C.1.2.1
  obtain ⟨ls, he, hl⟩ := z_enter (m := m) (n := 2) (vs := [.ref o, .int p0]) (l := [(0, .ref o), (1, .int p0)]) (Nat.le_of_ble_eq_true rfl) rfl
  rw [he]
  clear he
  unfold w_X6_versions at hw
  have hb_13 : ∀ (y0 : Int32) (y1 : Nat) (M : zM) (H : Heap) (locs : List Loc) (ls : Array Slot), zWk X s M H locs → lv_has ls 2 [(0, .ref o), (1, .int p0)] → w_X6_versions_13 o p0 P y0 y1 M → W p l e (zRm 2 42 0 0) s m args below meth c H locs 0 0 (vx_MQ below (zQc X (zPi P)) (zXc X PX) args s 0 0 (zBase X)) (F0 m 13 ls [.int y0, .ref y1]) := by
    intro y0 y1 M H locs ls I hl hw
    unfold w_X6_versions_13 at hw
    obtain ⟨hrc, hw⟩ := hw
    refine z_callV C I (as := [.int y0]) (rest := []) (m_X6_holds E hw) kv_X6_102 vc_7 hrc rfl rfl hl.1 (Nat.le_of_ble_eq_true rfl) ⟨Nat.le_of_ble_eq_true rfl, Nat.le_of_ble_eq_true rfl⟩ ⟨Nat.le_of_ble_eq_true rfl, Nat.le_of_ble_eq_true rfl⟩ dX6_versions_13 (z_prop C htab (Nat.le_of_ble_eq_true rfl) (Nat.le_of_ble_eq_true rfl)) (fun v M1 _ _ I hv => ?_)
    obtain ⟨v2, rfl, hv2, hw⟩ := hv
    refine W.eq (g2 := F0 m 16 ls [.int v2]) rfl ?_
    refine lv_if_eq (tgt := 28) hx hb dX6_versions_16 (by decide) (fun c => ?_) (fun c => ?_)
    · replace hw := hw.1 c
      refine lv_iconst (v := 0) hx hb dX6_versions_28 (by decide) ?_
      exact z_iret C I hr ⟨_, rfl, hw⟩ (Nat.le_of_ble_eq_true rfl) (Nat.le_of_ble_eq_true rfl) dX6_versions_29
    · replace hw := hw.2 c
      refine lv_aload_n hx hb dX6_versions_19 rfl (lv_at hl 0 rfl) ?_
      refine z_getr C I fl_X6_44 hw dX6_versions_20 (fun v3 hw => ?_)
      refine lv_iload_n hx hb dX6_versions_23 rfl (lv_at hl 1 rfl) ?_
      refine z_iald C I hw dX6_versions_24 (fun v4 hw => ?_)
      refine lv_goto (tgt := 29) hx hb dX6_versions_25 (by decide) ?_
      exact z_iret C I hr ⟨_, rfl, hw⟩ (Nat.le_of_ble_eq_true rfl) (Nat.le_of_ble_eq_true rfl) dX6_versions_29
  refine lv_aload_n hx hb dX6_versions_0 rfl (lv_at hl 0 rfl) ?_
  refine lv_iload_n hx hb dX6_versions_1 rfl (lv_at hl 1 rfl) ?_
  refine z_callS C I (as := [.int p0]) (rest := [.ref o]) (m_X6_isSubject E hw) ks_X6_127 rfl rfl hl.1 (Nat.le_of_ble_eq_true rfl) ⟨Nat.le_of_ble_eq_true rfl, Nat.le_of_ble_eq_true rfl⟩ ⟨Nat.le_of_ble_eq_true rfl, Nat.le_of_ble_eq_true rfl⟩ dX6_versions_2 (z_prop C htab (Nat.le_of_ble_eq_true rfl) (Nat.le_of_ble_eq_true rfl)) (fun v M5 _ _ I hv => ?_)
  obtain ⟨v6, rfl, hv6, hw⟩ := hv
  refine W.eq (g2 := F0 m 5 ls [.int v6, .ref o]) rfl ?_
  refine lv_if_eq (tgt := 12) hx hb dX6_versions_5 (by decide) (fun c => ?_) (fun c => ?_)
  · replace hw := hw.1 c
    refine lv_iconst (v := 1) hx hb dX6_versions_12 (by decide) ?_
    refine W.widen (k := 0) (n := 0) (Nat.le_of_ble_eq_true rfl) (Nat.le_of_ble_eq_true rfl) ?_
    exact hb_13 (1 : Int32) o _ _ _ ls I (lv_sub hl [0, 1] rfl) hw
  · replace hw := hw.2 c
    refine lv_iconst (v := 0) hx hb dX6_versions_8 (by decide) ?_
    refine lv_goto (tgt := 13) hx hb dX6_versions_9 (by decide) ?_
    refine W.widen (k := 0) (n := 0) (Nat.le_of_ble_eq_true rfl) (Nat.le_of_ble_eq_true rfl) ?_
    exact hb_13 (0 : Int32) o _ _ _ ls I (lv_sub hl [0, 1] rfl) hw
set_option maxHeartbeats 4000000 in
set_option maxRecDepth 100000 in
theorem m_X6_isAsked {X : zX} {l : Launch} (E : zEnv X l) {M : zM} {o : Nat} {p0 : Int32} {p1 : Int32} {P : Int32 → zM → Prop} {PX : Nat → zM → Prop} (hw : w_X6_isAsked o p0 p1 M P) : zCT X l yX6_isAsked cX6_isAsked 3 (some .boolean) 2 44 0 0 M [.ref o, .int p0, .int p1] (zPz P) PX := by
  refine z_entry E (by decide) ?_
  intro p e s m args below meth c C hr htab I
  have hx := C.1.1
  have hb := C.1.2.1
  obtain ⟨ls, he, hl⟩ := z_enter (m := m) (n := 3) (vs := [.ref o, .int p0, .int p1]) (l := [(0, .ref o), (1, .int p0), (2, .int p1)]) (Nat.le_of_ble_eq_true rfl) rfl
  rw [he]
  clear he
  unfold w_X6_isAsked at hw
  refine lv_aload_n hx hb dX6_isAsked_0 rfl (lv_at hl 0 rfl) ?_
  refine lv_iload_n hx hb dX6_isAsked_1 rfl (lv_at hl 1 rfl) ?_
  refine z_callS C I (as := [.int p0]) (rest := [.ref o]) (m_X6_isSubject E hw) ks_X6_127 rfl rfl hl.1 (Nat.le_of_ble_eq_true rfl) ⟨Nat.le_of_ble_eq_true rfl, Nat.le_of_ble_eq_true rfl⟩ ⟨Nat.le_of_ble_eq_true rfl, Nat.le_of_ble_eq_true rfl⟩ dX6_isAsked_2 (z_prop C htab (Nat.le_of_ble_eq_true rfl) (Nat.le_of_ble_eq_true rfl)) (fun v M1 _ _ I hv => ?_)
  obtain ⟨v2, rfl, hv2, hw⟩ := hv
  refine W.eq (g2 := F0 m 5 ls [.int v2, .ref o]) rfl ?_
  refine lv_if_ne (tgt := 12) hx hb dX6_isAsked_5 (by decide) (fun c => ?_) (fun c => ?_)
  · replace hw := hw.1 c
    refine lv_aload_n hx hb dX6_isAsked_12 rfl (lv_at hl 0 rfl) ?_
    refine lv_iload_n hx hb dX6_isAsked_13 rfl (lv_at hl 1 rfl) ?_
    refine lv_iload_n hx hb dX6_isAsked_14 rfl (lv_at hl 2 rfl) ?_
    obtain ⟨hrc, hw⟩ := hw
    refine z_callV C I (as := [.int p0, .int p1]) (rest := [.ref o]) (m_X6_isVersion E hw) kv_X6_79 vc_7 hrc rfl rfl hl.1 (Nat.le_of_ble_eq_true rfl) ⟨Nat.le_of_ble_eq_true rfl, Nat.le_of_ble_eq_true rfl⟩ ⟨Nat.le_of_ble_eq_true rfl, Nat.le_of_ble_eq_true rfl⟩ dX6_isAsked_15 (z_prop C htab (Nat.le_of_ble_eq_true rfl) (Nat.le_of_ble_eq_true rfl)) (fun v M3 _ _ I hv => ?_)
    obtain ⟨v4, rfl, hv4, hw⟩ := hv
    refine W.eq (g2 := F0 m 18 ls [.int v4, .ref o]) rfl ?_
    refine lv_if_eq (tgt := 25) hx hb dX6_isAsked_18 (by decide) (fun c => ?_) (fun c => ?_)
    · replace hw := hw.1 c
      refine lv_iconst (v := 2) hx hb dX6_isAsked_25 (by decide) ?_
      obtain ⟨hrc, hw⟩ := hw
      refine z_callV C I (as := [.int (2 : Int32)]) (rest := []) (m_X6_holds E hw) kv_X6_102 vc_7 hrc rfl rfl hl.1 (Nat.le_of_ble_eq_true rfl) ⟨Nat.le_of_ble_eq_true rfl, Nat.le_of_ble_eq_true rfl⟩ ⟨Nat.le_of_ble_eq_true rfl, Nat.le_of_ble_eq_true rfl⟩ dX6_isAsked_26 (z_prop C htab (Nat.le_of_ble_eq_true rfl) (Nat.le_of_ble_eq_true rfl)) (fun v M5 _ _ I hv => ?_)
      obtain ⟨v6, rfl, hv6, hw⟩ := hv
      refine W.eq (g2 := F0 m 29 ls [.int v6]) rfl ?_
      exact z_zret C I hr hv6 ⟨_, rfl, hv6, hw⟩ (Nat.le_of_ble_eq_true rfl) (Nat.le_of_ble_eq_true rfl) dX6_isAsked_29
    · replace hw := hw.2 c
      refine lv_iconst (v := 0) hx hb dX6_isAsked_21 (by decide) ?_
      refine lv_goto (tgt := 26) hx hb dX6_isAsked_22 (by decide) ?_
      obtain ⟨hrc, hw⟩ := hw
      refine z_callV C I (as := [.int (0 : Int32)]) (rest := []) (m_X6_holds E hw) kv_X6_102 vc_7 hrc rfl rfl hl.1 (Nat.le_of_ble_eq_true rfl) ⟨Nat.le_of_ble_eq_true rfl, Nat.le_of_ble_eq_true rfl⟩ ⟨Nat.le_of_ble_eq_true rfl, Nat.le_of_ble_eq_true rfl⟩ dX6_isAsked_26 (z_prop C htab (Nat.le_of_ble_eq_true rfl) (Nat.le_of_ble_eq_true rfl)) (fun v M7 _ _ I hv => ?_)
      obtain ⟨v8, rfl, hv8, hw⟩ := hv
      refine W.eq (g2 := F0 m 29 ls [.int v8]) rfl ?_
      exact z_zret C I hr hv8 ⟨_, rfl, hv8, hw⟩ (Nat.le_of_ble_eq_true rfl) (Nat.le_of_ble_eq_true rfl) dX6_isAsked_29
  · replace hw := hw.2 c
    refine lv_iconst (v := 1) hx hb dX6_isAsked_8 (by decide) ?_
    refine lv_goto (tgt := 26) hx hb dX6_isAsked_9 (by decide) ?_
    obtain ⟨hrc, hw⟩ := hw
    refine z_callV C I (as := [.int (1 : Int32)]) (rest := []) (m_X6_holds E hw) kv_X6_102 vc_7 hrc rfl rfl hl.1 (Nat.le_of_ble_eq_true rfl) ⟨Nat.le_of_ble_eq_true rfl, Nat.le_of_ble_eq_true rfl⟩ ⟨Nat.le_of_ble_eq_true rfl, Nat.le_of_ble_eq_true rfl⟩ dX6_isAsked_26 (z_prop C htab (Nat.le_of_ble_eq_true rfl) (Nat.le_of_ble_eq_true rfl)) (fun v M9 _ _ I hv => ?_)
    obtain ⟨v10, rfl, hv10, hw⟩ := hv
    refine W.eq (g2 := F0 m 29 ls [.int v10]) rfl ?_
    exact z_zret C I hr hv10 ⟨_, rfl, hv10, hw⟩ (Nat.le_of_ble_eq_true rfl) (Nat.le_of_ble_eq_true rfl) dX6_isAsked_29
set_option maxHeartbeats 4000000 in
set_option maxRecDepth 100000 in
theorem m_X6_number {X : zX} {l : Launch} (E : zEnv X l) {M : zM} {o : Nat} {p0 : Int32} {p1 : Int32} {P : Int32 → zM → Prop} {PX : Nat → zM → Prop} (hw : w_X6_number o p0 p1 M P) : zCT X l yX6_number cX6_number 3 (some .int) 3 66 0 0 M [.ref o, .int p0, .int p1] (zPi P) PX := by
  refine z_entry E (by decide) ?_
  intro p e s m args below meth c C hr htab I
  have hx := C.1.1
  have hb := C.1.2.1
  obtain ⟨ls, he, hl⟩ := z_enter (m := m) (n := 3) (vs := [.ref o, .int p0, .int p1]) (l := [(0, .ref o), (1, .int p0), (2, .int p1)]) (Nat.le_of_ble_eq_true rfl) rfl
  rw [he]
  clear he
  unfold w_X6_number at hw
  refine lv_aload_n hx hb dX6_number_0 rfl (lv_at hl 0 rfl) ?_
  refine lv_iload_n hx hb dX6_number_1 rfl (lv_at hl 1 rfl) ?_
  refine lv_iload_n hx hb dX6_number_2 rfl (lv_at hl 2 rfl) ?_
  obtain ⟨hrc, hw⟩ := hw
  refine z_callV C I (as := [.int p0, .int p1]) (rest := []) (m_X6_isAsked E hw) kv_X6_156 vc_7 hrc rfl rfl hl.1 (Nat.le_of_ble_eq_true rfl) ⟨Nat.le_of_ble_eq_true rfl, Nat.le_of_ble_eq_true rfl⟩ ⟨Nat.le_of_ble_eq_true rfl, Nat.le_of_ble_eq_true rfl⟩ dX6_number_3 (z_prop C htab (Nat.le_of_ble_eq_true rfl) (Nat.le_of_ble_eq_true rfl)) (fun v M1 _ _ I hv => ?_)
  obtain ⟨v2, rfl, hv2, hw⟩ := hv
  refine W.eq (g2 := F0 m 6 ls [.int v2]) rfl ?_
  refine lv_if_eq (tgt := 23) hx hb dX6_number_6 (by decide) (fun c => ?_) (fun c => ?_)
  · replace hw := hw.1 c
    refine lv_iconst (v := 0) hx hb dX6_number_23 (by decide) ?_
    exact z_iret C I hr ⟨_, rfl, hw⟩ (Nat.le_of_ble_eq_true rfl) (Nat.le_of_ble_eq_true rfl) dX6_number_24
  · replace hw := hw.2 c
    refine lv_aload_n hx hb dX6_number_9 rfl (lv_at hl 0 rfl) ?_
    refine z_getr C I fl_X6_38 hw dX6_number_10 (fun v3 hw => ?_)
    refine lv_bipush (v := 6) hx hb dX6_number_13 (by decide) ?_
    refine lv_iload_n hx hb dX6_number_15 rfl (lv_at hl 1 rfl) ?_
    refine lv_imul hx hb dX6_number_16 ?_
    refine lv_iload_n hx hb dX6_number_17 rfl (lv_at hl 2 rfl) ?_
    refine lv_iadd hx hb dX6_number_18 ?_
    refine z_iald C I hw dX6_number_19 (fun v4 hw => ?_)
    refine lv_goto (tgt := 24) hx hb dX6_number_20 (by decide) ?_
    exact z_iret C I hr ⟨_, rfl, hw⟩ (Nat.le_of_ble_eq_true rfl) (Nat.le_of_ble_eq_true rfl) dX6_number_24
set_option maxHeartbeats 4000000 in
set_option maxRecDepth 100000 in
theorem m_X6_isThere {X : zX} {l : Launch} (E : zEnv X l) {M : zM} {o : Nat} {p0 : Int32} {p1 : Int32} {P : Int32 → zM → Prop} {PX : Nat → zM → Prop} (hw : w_X6_isThere o p0 p1 M P) : zCT X l yX6_isThere cX6_isThere 3 (some .boolean) 3 66 0 0 M [.ref o, .int p0, .int p1] (zPz P) PX := by
  refine z_entry E (by decide) ?_
  intro p e s m args below meth c C hr htab I
  have hx := C.1.1
  have hb := C.1.2.1
  obtain ⟨ls, he, hl⟩ := z_enter (m := m) (n := 3) (vs := [.ref o, .int p0, .int p1]) (l := [(0, .ref o), (1, .int p0), (2, .int p1)]) (Nat.le_of_ble_eq_true rfl) rfl
  rw [he]
  clear he
  unfold w_X6_isThere at hw
  refine lv_aload_n hx hb dX6_isThere_0 rfl (lv_at hl 0 rfl) ?_
  refine lv_iload_n hx hb dX6_isThere_1 rfl (lv_at hl 1 rfl) ?_
  refine lv_iload_n hx hb dX6_isThere_2 rfl (lv_at hl 2 rfl) ?_
  obtain ⟨hrc, hw⟩ := hw
  refine z_callV C I (as := [.int p0, .int p1]) (rest := []) (m_X6_isAsked E hw) kv_X6_156 vc_7 hrc rfl rfl hl.1 (Nat.le_of_ble_eq_true rfl) ⟨Nat.le_of_ble_eq_true rfl, Nat.le_of_ble_eq_true rfl⟩ ⟨Nat.le_of_ble_eq_true rfl, Nat.le_of_ble_eq_true rfl⟩ dX6_isThere_3 (z_prop C htab (Nat.le_of_ble_eq_true rfl) (Nat.le_of_ble_eq_true rfl)) (fun v M1 _ _ I hv => ?_)
  obtain ⟨v2, rfl, hv2, hw⟩ := hv
  refine W.eq (g2 := F0 m 6 ls [.int v2]) rfl ?_
  refine lv_if_eq (tgt := 22) hx hb dX6_isThere_6 (by decide) (fun c => ?_) (fun c => ?_)
  · replace hw := hw.1 c
    refine lv_iconst (v := 0) hx hb dX6_isThere_22 (by decide) ?_
    exact z_zret C I hr (Or.inl rfl) ⟨_, rfl, (Or.inl rfl), hw⟩ (Nat.le_of_ble_eq_true rfl) (Nat.le_of_ble_eq_true rfl) dX6_isThere_23
  · replace hw := hw.2 c
    refine lv_aload_n hx hb dX6_isThere_9 rfl (lv_at hl 0 rfl) ?_
    refine lv_iload_n hx hb dX6_isThere_10 rfl (lv_at hl 1 rfl) ?_
    refine lv_iload_n hx hb dX6_isThere_11 rfl (lv_at hl 2 rfl) ?_
    obtain ⟨hrc, hw⟩ := hw
    refine z_callV C I (as := [.int p0, .int p1]) (rest := []) (m_X6_isThereAt E hw) kv_X6_87 vc_7 hrc rfl rfl hl.1 (Nat.le_of_ble_eq_true rfl) ⟨Nat.le_of_ble_eq_true rfl, Nat.le_of_ble_eq_true rfl⟩ ⟨Nat.le_of_ble_eq_true rfl, Nat.le_of_ble_eq_true rfl⟩ dX6_isThere_12 (z_prop C htab (Nat.le_of_ble_eq_true rfl) (Nat.le_of_ble_eq_true rfl)) (fun v M3 _ _ I hv => ?_)
    obtain ⟨v4, rfl, hv4, hw⟩ := hv
    refine W.eq (g2 := F0 m 15 ls [.int v4]) rfl ?_
    refine lv_if_eq (tgt := 22) hx hb dX6_isThere_15 (by decide) (fun c => ?_) (fun c => ?_)
    · replace hw := hw.1 c
      refine lv_iconst (v := 0) hx hb dX6_isThere_22 (by decide) ?_
      exact z_zret C I hr (Or.inl rfl) ⟨_, rfl, (Or.inl rfl), hw⟩ (Nat.le_of_ble_eq_true rfl) (Nat.le_of_ble_eq_true rfl) dX6_isThere_23
    · replace hw := hw.2 c
      refine lv_iconst (v := 1) hx hb dX6_isThere_18 (by decide) ?_
      refine lv_goto (tgt := 23) hx hb dX6_isThere_19 (by decide) ?_
      exact z_zret C I hr (Or.inr rfl) ⟨_, rfl, (Or.inr rfl), hw⟩ (Nat.le_of_ble_eq_true rfl) (Nat.le_of_ble_eq_true rfl) dX6_isThere_23
set_option maxHeartbeats 4000000 in
set_option maxRecDepth 100000 in
theorem m_X6_length {X : zX} {l : Launch} (E : zEnv X l) {M : zM} {o : Nat} {p0 : Int32} {p1 : Int32} {P : Int32 → zM → Prop} {PX : Nat → zM → Prop} (hw : w_X6_length o p0 p1 M P) : zCT X l yX6_length cX6_length 3 (some .int) 3 66 0 0 M [.ref o, .int p0, .int p1] (zPi P) PX := by
  refine z_entry E (by decide) ?_
  intro p e s m args below meth c C hr htab I
  have hx := C.1.1
  have hb := C.1.2.1
  obtain ⟨ls, he, hl⟩ := z_enter (m := m) (n := 3) (vs := [.ref o, .int p0, .int p1]) (l := [(0, .ref o), (1, .int p0), (2, .int p1)]) (Nat.le_of_ble_eq_true rfl) rfl
  rw [he]
  clear he
  unfold w_X6_length at hw
  refine lv_aload_n hx hb dX6_length_0 rfl (lv_at hl 0 rfl) ?_
  refine lv_iload_n hx hb dX6_length_1 rfl (lv_at hl 1 rfl) ?_
  refine lv_iload_n hx hb dX6_length_2 rfl (lv_at hl 2 rfl) ?_
  obtain ⟨hrc, hw⟩ := hw
  refine z_callV C I (as := [.int p0, .int p1]) (rest := []) (m_X6_isAsked E hw) kv_X6_156 vc_7 hrc rfl rfl hl.1 (Nat.le_of_ble_eq_true rfl) ⟨Nat.le_of_ble_eq_true rfl, Nat.le_of_ble_eq_true rfl⟩ ⟨Nat.le_of_ble_eq_true rfl, Nat.le_of_ble_eq_true rfl⟩ dX6_length_3 (z_prop C htab (Nat.le_of_ble_eq_true rfl) (Nat.le_of_ble_eq_true rfl)) (fun v M1 _ _ I hv => ?_)
  obtain ⟨v2, rfl, hv2, hw⟩ := hv
  refine W.eq (g2 := F0 m 6 ls [.int v2]) rfl ?_
  refine lv_if_eq (tgt := 28) hx hb dX6_length_6 (by decide) (fun c => ?_) (fun c => ?_)
  · replace hw := hw.1 c
    refine lv_iconst (v := 0) hx hb dX6_length_28 (by decide) ?_
    exact z_iret C I hr ⟨_, rfl, hw⟩ (Nat.le_of_ble_eq_true rfl) (Nat.le_of_ble_eq_true rfl) dX6_length_29
  · replace hw := hw.2 c
    refine lv_aload_n hx hb dX6_length_9 rfl (lv_at hl 0 rfl) ?_
    refine z_getr C I fl_X6_32 hw dX6_length_10 (fun v3 hw => ?_)
    refine lv_aload_n hx hb dX6_length_13 rfl (lv_at hl 0 rfl) ?_
    refine z_getr C I fl_X6_38 hw dX6_length_14 (fun v4 hw => ?_)
    refine lv_bipush (v := 6) hx hb dX6_length_17 (by decide) ?_
    refine lv_iload_n hx hb dX6_length_19 rfl (lv_at hl 1 rfl) ?_
    refine lv_imul hx hb dX6_length_20 ?_
    refine lv_iload_n hx hb dX6_length_21 rfl (lv_at hl 2 rfl) ?_
    refine lv_iadd hx hb dX6_length_22 ?_
    refine z_iald C I hw dX6_length_23 (fun v5 hw => ?_)
    refine z_iald C I hw dX6_length_24 (fun v6 hw => ?_)
    refine lv_goto (tgt := 29) hx hb dX6_length_25 (by decide) ?_
    exact z_iret C I hr ⟨_, rfl, hw⟩ (Nat.le_of_ble_eq_true rfl) (Nat.le_of_ble_eq_true rfl) dX6_length_29
set_option maxHeartbeats 4000000 in
set_option maxRecDepth 100000 in
theorem m_X6_errorOfBoth {X : zX} {l : Launch} (E : zEnv X l) {M : zM} {o : Nat} {p0 : Int32} {p1 : Int32} {p2 : Int32} {p3 : Int32} {P : Int32 → zM → Prop} {PX : Nat → zM → Prop} (hw : w_X6_errorOfBoth o p0 p1 p2 p3 M P) : zCT X l yX6_errorOfBoth cX6_errorOfBoth 6 (some .int) 2 44 0 0 M [.ref o, .int p0, .int p1, .int p2, .int p3] (zPi P) PX := by
  refine z_entry E (by decide) ?_
  intro p e s m args below meth c C hr htab I
  have hx := C.1.1
  have hb := C.1.2.1
  obtain ⟨ls, he, hl⟩ := z_enter (m := m) (n := 6) (vs := [.ref o, .int p0, .int p1, .int p2, .int p3]) (l := [(0, .ref o), (1, .int p0), (2, .int p1), (3, .int p2), (4, .int p3)]) (Nat.le_of_ble_eq_true rfl) rfl
  rw [he]
  clear he
  unfold w_X6_errorOfBoth at hw
  have hb_19 : ∀ (y0 : Int32) (M : zM) (H : Heap) (locs : List Loc) (ls : Array Slot), zWk X s M H locs → lv_has ls 6 [(0, .ref o), (1, .int p0), (2, .int p1), (3, .int p2), (4, .int p3)] → w_X6_errorOfBoth_19 o p0 p1 p2 p3 P y0 M → W p l e (zRm 2 44 0 0) s m args below meth c H locs 0 0 (vx_MQ below (zQc X (zPi P)) (zXc X PX) args s 0 0 (zBase X)) (F0 m 19 ls [.int y0]) := by
    intro y0 M H locs ls I hl hw
    unfold w_X6_errorOfBoth_19 at hw
    refine lv_istore (lv' := [(5, .int y0), (0, .ref o), (1, .int p0), (2, .int p1), (3, .int p2), (4, .int p3)]) hx hb dX6_errorOfBoth_19 hl (by decide) rfl (fun ls hl1 => ?_)
    refine lv_iload hx hb dX6_errorOfBoth_21 (lv_at hl1 0 rfl) ?_
    refine lv_if_ne (tgt := 30) hx hb dX6_errorOfBoth_23 (by decide) (fun c => ?_) (fun c => ?_)
    · replace hw := hw.1 c
      refine lv_aload_n hx hb dX6_errorOfBoth_30 rfl (lv_at hl1 1 rfl) ?_
      refine lv_iload_n hx hb dX6_errorOfBoth_31 rfl (lv_at hl1 2 rfl) ?_
      refine lv_iload_n hx hb dX6_errorOfBoth_32 rfl (lv_at hl1 3 rfl) ?_
      obtain ⟨hrc, hw⟩ := hw
      refine z_callV C I (as := [.int p0, .int p1]) (rest := []) (m_X6_isVersion E hw) kv_X6_79 vc_7 hrc rfl rfl hl1.1 (Nat.le_of_ble_eq_true rfl) ⟨Nat.le_of_ble_eq_true rfl, Nat.le_of_ble_eq_true rfl⟩ ⟨Nat.le_of_ble_eq_true rfl, Nat.le_of_ble_eq_true rfl⟩ dX6_errorOfBoth_33 (z_prop C htab (Nat.le_of_ble_eq_true rfl) (Nat.le_of_ble_eq_true rfl)) (fun v M2 _ _ I hv => ?_)
      obtain ⟨v3, rfl, hv3, hw⟩ := hv
      refine W.eq (g2 := F0 m 36 ls [.int v3]) rfl ?_
      refine lv_if_eq (tgt := 53) hx hb dX6_errorOfBoth_36 (by decide) (fun c => ?_) (fun c => ?_)
      · replace hw := hw.1 c
        refine lv_iconst (v := 2) hx hb dX6_errorOfBoth_53 (by decide) ?_
        exact z_iret C I hr ⟨_, rfl, hw⟩ (Nat.le_of_ble_eq_true rfl) (Nat.le_of_ble_eq_true rfl) dX6_errorOfBoth_54
      · replace hw := hw.2 c
        refine lv_aload_n hx hb dX6_errorOfBoth_39 rfl (lv_at hl1 1 rfl) ?_
        refine lv_iload_n hx hb dX6_errorOfBoth_40 rfl (lv_at hl1 4 rfl) ?_
        refine lv_iload hx hb dX6_errorOfBoth_41 (lv_at hl1 5 rfl) ?_
        obtain ⟨hrc, hw⟩ := hw
        refine z_callV C I (as := [.int p2, .int p3]) (rest := []) (m_X6_isVersion E hw) kv_X6_79 vc_7 hrc rfl rfl hl1.1 (Nat.le_of_ble_eq_true rfl) ⟨Nat.le_of_ble_eq_true rfl, Nat.le_of_ble_eq_true rfl⟩ ⟨Nat.le_of_ble_eq_true rfl, Nat.le_of_ble_eq_true rfl⟩ dX6_errorOfBoth_43 (z_prop C htab (Nat.le_of_ble_eq_true rfl) (Nat.le_of_ble_eq_true rfl)) (fun v M4 _ _ I hv => ?_)
        obtain ⟨v5, rfl, hv5, hw⟩ := hv
        refine W.eq (g2 := F0 m 46 ls [.int v5]) rfl ?_
        refine lv_if_eq (tgt := 53) hx hb dX6_errorOfBoth_46 (by decide) (fun c => ?_) (fun c => ?_)
        · replace hw := hw.1 c
          refine lv_iconst (v := 2) hx hb dX6_errorOfBoth_53 (by decide) ?_
          exact z_iret C I hr ⟨_, rfl, hw⟩ (Nat.le_of_ble_eq_true rfl) (Nat.le_of_ble_eq_true rfl) dX6_errorOfBoth_54
        · replace hw := hw.2 c
          refine lv_iconst (v := 0) hx hb dX6_errorOfBoth_49 (by decide) ?_
          refine lv_goto (tgt := 54) hx hb dX6_errorOfBoth_50 (by decide) ?_
          exact z_iret C I hr ⟨_, rfl, hw⟩ (Nat.le_of_ble_eq_true rfl) (Nat.le_of_ble_eq_true rfl) dX6_errorOfBoth_54
    · replace hw := hw.2 c
      refine lv_iconst (v := 1) hx hb dX6_errorOfBoth_26 (by decide) ?_
      refine lv_goto (tgt := 54) hx hb dX6_errorOfBoth_27 (by decide) ?_
      exact z_iret C I hr ⟨_, rfl, hw⟩ (Nat.le_of_ble_eq_true rfl) (Nat.le_of_ble_eq_true rfl) dX6_errorOfBoth_54
  have hb_18 : ∀ (M : zM) (H : Heap) (locs : List Loc) (ls : Array Slot), zWk X s M H locs → lv_has ls 6 [(0, .ref o), (1, .int p0), (2, .int p1), (3, .int p2), (4, .int p3)] → w_X6_errorOfBoth_18 o p0 p1 p2 p3 P M → W p l e (zRm 2 44 0 0) s m args below meth c H locs 0 0 (vx_MQ below (zQc X (zPi P)) (zXc X PX) args s 0 0 (zBase X)) (F0 m 18 ls []) := by
    intro M H locs ls I hl hw
    unfold w_X6_errorOfBoth_18 at hw
    refine lv_iconst (v := 0) hx hb dX6_errorOfBoth_18 (by decide) ?_
    refine W.widen (k := 0) (n := 0) (Nat.le_of_ble_eq_true rfl) (Nat.le_of_ble_eq_true rfl) ?_
    exact hb_19 (0 : Int32) _ _ _ ls I (lv_sub hl [0, 1, 2, 3, 4] rfl) hw
  refine lv_iload_n hx hb dX6_errorOfBoth_0 rfl (lv_at hl 1 rfl) ?_
  refine z_callS C I (as := [.int p0]) (rest := []) (m_X6_isSubject E hw) ks_X6_127 rfl rfl hl.1 (Nat.le_of_ble_eq_true rfl) ⟨Nat.le_of_ble_eq_true rfl, Nat.le_of_ble_eq_true rfl⟩ ⟨Nat.le_of_ble_eq_true rfl, Nat.le_of_ble_eq_true rfl⟩ dX6_errorOfBoth_1 (z_prop C htab (Nat.le_of_ble_eq_true rfl) (Nat.le_of_ble_eq_true rfl)) (fun v M6 _ _ I hv => ?_)
  obtain ⟨v7, rfl, hv7, hw⟩ := hv
  refine W.eq (g2 := F0 m 4 ls [.int v7]) rfl ?_
  refine lv_if_eq (tgt := 18) hx hb dX6_errorOfBoth_4 (by decide) (fun c => ?_) (fun c => ?_)
  · replace hw := hw.1 c
    refine W.widen (k := 0) (n := 0) (Nat.le_of_ble_eq_true rfl) (Nat.le_of_ble_eq_true rfl) ?_
    exact hb_18 _ _ _ ls I (lv_sub hl [0, 1, 2, 3, 4] rfl) hw
  · replace hw := hw.2 c
    refine lv_iload_n hx hb dX6_errorOfBoth_7 rfl (lv_at hl 3 rfl) ?_
    refine z_callS C I (as := [.int p2]) (rest := []) (m_X6_isSubject E hw) ks_X6_127 rfl rfl hl.1 (Nat.le_of_ble_eq_true rfl) ⟨Nat.le_of_ble_eq_true rfl, Nat.le_of_ble_eq_true rfl⟩ ⟨Nat.le_of_ble_eq_true rfl, Nat.le_of_ble_eq_true rfl⟩ dX6_errorOfBoth_8 (z_prop C htab (Nat.le_of_ble_eq_true rfl) (Nat.le_of_ble_eq_true rfl)) (fun v M8 _ _ I hv => ?_)
    obtain ⟨v9, rfl, hv9, hw⟩ := hv
    refine W.eq (g2 := F0 m 11 ls [.int v9]) rfl ?_
    refine lv_if_eq (tgt := 18) hx hb dX6_errorOfBoth_11 (by decide) (fun c => ?_) (fun c => ?_)
    · replace hw := hw.1 c
      refine W.widen (k := 0) (n := 0) (Nat.le_of_ble_eq_true rfl) (Nat.le_of_ble_eq_true rfl) ?_
      exact hb_18 _ _ _ ls I (lv_sub hl [0, 1, 2, 3, 4] rfl) hw
    · replace hw := hw.2 c
      refine lv_iconst (v := 1) hx hb dX6_errorOfBoth_14 (by decide) ?_
      refine lv_goto (tgt := 19) hx hb dX6_errorOfBoth_15 (by decide) ?_
      refine W.widen (k := 0) (n := 0) (Nat.le_of_ble_eq_true rfl) (Nat.le_of_ble_eq_true rfl) ?_
      exact hb_19 (1 : Int32) _ _ _ ls I (lv_sub hl [0, 1, 2, 3, 4] rfl) hw
set_option maxHeartbeats 4000000 in
set_option maxRecDepth 100000 in
theorem m_X6_canOf {X : zX} {l : Launch} (E : zEnv X l) {M : zM} {o : Nat} {p0 : Int32} {p1 : Int32} {p2 : Int32} {p3 : Int32} {P : Int32 → zM → Prop} {PX : Nat → zM → Prop} (hw : w_X6_canOf o p0 p1 p2 p3 M P) : zCT X l yX6_canOf cX6_canOf 5 (some .boolean) 4 95 0 0 M [.ref o, .int p0, .int p1, .int p2, .int p3] (zPz P) PX := by
  refine z_entry E (by decide) ?_
  intro p e s m args below meth c C hr htab I
  have hx := C.1.1
  have hb := C.1.2.1
  obtain ⟨ls, he, hl⟩ := z_enter (m := m) (n := 5) (vs := [.ref o, .int p0, .int p1, .int p2, .int p3]) (l := [(0, .ref o), (1, .int p0), (2, .int p1), (3, .int p2), (4, .int p3)]) (Nat.le_of_ble_eq_true rfl) rfl
  rw [he]
  clear he
  unfold w_X6_canOf at hw
  refine lv_aload_n hx hb dX6_canOf_0 rfl (lv_at hl 0 rfl) ?_
  obtain ⟨hrc, hw⟩ := hw
  refine z_callV C I (as := []) (rest := []) (m_X6_tells E hw) kv_X6_124 vc_7 hrc rfl rfl hl.1 (Nat.le_of_ble_eq_true rfl) ⟨Nat.le_of_ble_eq_true rfl, Nat.le_of_ble_eq_true rfl⟩ ⟨Nat.le_of_ble_eq_true rfl, Nat.le_of_ble_eq_true rfl⟩ dX6_canOf_1 (z_prop C htab (Nat.le_of_ble_eq_true rfl) (Nat.le_of_ble_eq_true rfl)) (fun v M1 _ _ I hv => ?_)
  obtain ⟨rfl, hw⟩ := hv
  refine W.eq (g2 := F0 m 4 ls []) rfl ?_
  refine lv_aload_n hx hb dX6_canOf_4 rfl (lv_at hl 0 rfl) ?_
  refine z_getr C I fl_X6_35 hw dX6_canOf_5 (fun v2 hw => ?_)
  refine lv_bipush (v := 37) hx hb dX6_canOf_8 (by decide) ?_
  refine lv_aload_n hx hb dX6_canOf_10 rfl (lv_at hl 0 rfl) ?_
  refine z_getr C I fl_X6_38 hw dX6_canOf_11 (fun v3 hw => ?_)
  refine lv_bipush (v := 6) hx hb dX6_canOf_14 (by decide) ?_
  refine lv_iload_n hx hb dX6_canOf_16 rfl (lv_at hl 1 rfl) ?_
  refine lv_imul hx hb dX6_canOf_17 ?_
  refine lv_iload_n hx hb dX6_canOf_18 rfl (lv_at hl 2 rfl) ?_
  refine lv_iadd hx hb dX6_canOf_19 ?_
  refine z_iald C I hw dX6_canOf_20 (fun v4 hw => ?_)
  refine lv_imul hx hb dX6_canOf_21 ?_
  refine lv_aload_n hx hb dX6_canOf_22 rfl (lv_at hl 0 rfl) ?_
  refine z_getr C I fl_X6_38 hw dX6_canOf_23 (fun v5 hw => ?_)
  refine lv_bipush (v := 6) hx hb dX6_canOf_26 (by decide) ?_
  refine lv_iload_n hx hb dX6_canOf_28 rfl (lv_at hl 3 rfl) ?_
  refine lv_imul hx hb dX6_canOf_29 ?_
  refine lv_iload hx hb dX6_canOf_30 (lv_at hl 4 rfl) ?_
  refine lv_iadd hx hb dX6_canOf_32 ?_
  refine z_iald C I hw dX6_canOf_33 (fun v6 hw => ?_)
  refine lv_iadd hx hb dX6_canOf_34 ?_
  refine z_zald C I hw dX6_canOf_35 (fun v7 hw => ?_)
  obtain ⟨h01, hw⟩ := hw
  exact z_zret C I hr h01 ⟨_, rfl, h01, hw⟩ (Nat.le_of_ble_eq_true rfl) (Nat.le_of_ble_eq_true rfl) dX6_canOf_36
set_option maxHeartbeats 4000000 in
set_option maxRecDepth 100000 in
theorem m_X6_canRead {X : zX} {l : Launch} (E : zEnv X l) {M : zM} {o : Nat} {p0 : Int32} {p1 : Int32} {p2 : Int32} {p3 : Int32} {P : Int32 → zM → Prop} {PX : Nat → zM → Prop} (hw : w_X6_canRead o p0 p1 p2 p3 M P) : zCT X l yX6_canRead cX6_canRead 5 (some .boolean) 5 119 0 0 M [.ref o, .int p0, .int p1, .int p2, .int p3] (zPz P) PX := by
  refine z_entry E (by decide) ?_
  intro p e s m args below meth c C hr htab I
  have hx := C.1.1
  have hb := C.1.2.1
  obtain ⟨ls, he, hl⟩ := z_enter (m := m) (n := 5) (vs := [.ref o, .int p0, .int p1, .int p2, .int p3]) (l := [(0, .ref o), (1, .int p0), (2, .int p1), (3, .int p2), (4, .int p3)]) (Nat.le_of_ble_eq_true rfl) rfl
  rw [he]
  clear he
  unfold w_X6_canRead at hw
  refine lv_aload_n hx hb dX6_canRead_0 rfl (lv_at hl 0 rfl) ?_
  refine lv_aload_n hx hb dX6_canRead_1 rfl (lv_at hl 0 rfl) ?_
  refine lv_iload_n hx hb dX6_canRead_2 rfl (lv_at hl 1 rfl) ?_
  refine lv_iload_n hx hb dX6_canRead_3 rfl (lv_at hl 2 rfl) ?_
  refine lv_iload_n hx hb dX6_canRead_4 rfl (lv_at hl 3 rfl) ?_
  refine lv_iload hx hb dX6_canRead_5 (lv_at hl 4 rfl) ?_
  obtain ⟨hrc, hw⟩ := hw
  refine z_callV C I (as := [.int p0, .int p1, .int p2, .int p3]) (rest := [.ref o]) (m_X6_errorOfBoth E hw) kv_X6_159 vc_7 hrc rfl rfl hl.1 (Nat.le_of_ble_eq_true rfl) ⟨Nat.le_of_ble_eq_true rfl, Nat.le_of_ble_eq_true rfl⟩ ⟨Nat.le_of_ble_eq_true rfl, Nat.le_of_ble_eq_true rfl⟩ dX6_canRead_7 (z_prop C htab (Nat.le_of_ble_eq_true rfl) (Nat.le_of_ble_eq_true rfl)) (fun v M1 _ _ I hv => ?_)
  obtain ⟨v2, rfl, hw⟩ := hv
  refine W.eq (g2 := F0 m 10 ls [.int v2, .ref o]) rfl ?_
  obtain ⟨hrc, hw⟩ := hw
  refine z_callV C I (as := [.int v2]) (rest := []) (m_X6_holds E hw) kv_X6_102 vc_7 hrc rfl rfl hl.1 (Nat.le_of_ble_eq_true rfl) ⟨Nat.le_of_ble_eq_true rfl, Nat.le_of_ble_eq_true rfl⟩ ⟨Nat.le_of_ble_eq_true rfl, Nat.le_of_ble_eq_true rfl⟩ dX6_canRead_10 (z_prop C htab (Nat.le_of_ble_eq_true rfl) (Nat.le_of_ble_eq_true rfl)) (fun v M3 _ _ I hv => ?_)
  obtain ⟨v4, rfl, hv4, hw⟩ := hv
  refine W.eq (g2 := F0 m 13 ls [.int v4]) rfl ?_
  refine lv_if_eq (tgt := 32) hx hb dX6_canRead_13 (by decide) (fun c => ?_) (fun c => ?_)
  · replace hw := hw.1 c
    refine lv_iconst (v := 0) hx hb dX6_canRead_32 (by decide) ?_
    exact z_zret C I hr (Or.inl rfl) ⟨_, rfl, (Or.inl rfl), hw⟩ (Nat.le_of_ble_eq_true rfl) (Nat.le_of_ble_eq_true rfl) dX6_canRead_33
  · replace hw := hw.2 c
    refine lv_aload_n hx hb dX6_canRead_16 rfl (lv_at hl 0 rfl) ?_
    refine lv_iload_n hx hb dX6_canRead_17 rfl (lv_at hl 1 rfl) ?_
    refine lv_iload_n hx hb dX6_canRead_18 rfl (lv_at hl 2 rfl) ?_
    refine lv_iload_n hx hb dX6_canRead_19 rfl (lv_at hl 3 rfl) ?_
    refine lv_iload hx hb dX6_canRead_20 (lv_at hl 4 rfl) ?_
    obtain ⟨hrc, hw⟩ := hw
    refine z_callV C I (as := [.int p0, .int p1, .int p2, .int p3]) (rest := []) (m_X6_canOf E hw) kv_X6_162 vc_7 hrc rfl rfl hl.1 (Nat.le_of_ble_eq_true rfl) ⟨Nat.le_of_ble_eq_true rfl, Nat.le_of_ble_eq_true rfl⟩ ⟨Nat.le_of_ble_eq_true rfl, Nat.le_of_ble_eq_true rfl⟩ dX6_canRead_22 (z_prop C htab (Nat.le_of_ble_eq_true rfl) (Nat.le_of_ble_eq_true rfl)) (fun v M5 _ _ I hv => ?_)
    obtain ⟨v6, rfl, hv6, hw⟩ := hv
    refine W.eq (g2 := F0 m 25 ls [.int v6]) rfl ?_
    refine lv_if_eq (tgt := 32) hx hb dX6_canRead_25 (by decide) (fun c => ?_) (fun c => ?_)
    · replace hw := hw.1 c
      refine lv_iconst (v := 0) hx hb dX6_canRead_32 (by decide) ?_
      exact z_zret C I hr (Or.inl rfl) ⟨_, rfl, (Or.inl rfl), hw⟩ (Nat.le_of_ble_eq_true rfl) (Nat.le_of_ble_eq_true rfl) dX6_canRead_33
    · replace hw := hw.2 c
      refine lv_iconst (v := 1) hx hb dX6_canRead_28 (by decide) ?_
      refine lv_goto (tgt := 33) hx hb dX6_canRead_29 (by decide) ?_
      exact z_zret C I hr (Or.inr rfl) ⟨_, rfl, (Or.inr rfl), hw⟩ (Nat.le_of_ble_eq_true rfl) (Nat.le_of_ble_eq_true rfl) dX6_canRead_33
set_option maxHeartbeats 4000000 in
set_option maxRecDepth 100000 in
theorem m_X6_small {X : zX} {l : Launch} (E : zEnv X l) {M : zM} {o : Nat} {p0 : Int32} {P : Int32 → zM → Prop} {PX : Nat → zM → Prop} (hw : w_X6_small o p0 M P) : zCT X l yX6_small cX6_small 6 (some .int) 1 21 0 0 M [.ref o, .int p0] (zPi P) PX := by
  refine z_entry E (by decide) ?_
  intro p e s m args below meth c C hr htab I
  have hx := C.1.1
  have hb := C.1.2.1
  obtain ⟨ls, he, hl⟩ := z_enter (m := m) (n := 6) (vs := [.ref o, .int p0]) (l := [(0, .ref o), (1, .int p0)]) (Nat.le_of_ble_eq_true rfl) rfl
  rw [he]
  clear he
  unfold w_X6_small at hw
  have hb_18 : ∀ (n : Nat) (x2 : Int32) (x3 : Int32) (M : zM) (H : Heap) (locs : List Loc) (ls : Array Slot), zWk X s M H locs → lv_has ls 6 [(0, .ref o), (2, .int x2), (3, .int x3)] → w_X6_small_18 o p0 P n x2 x3 M → W p l e (zRm 1 21 0 0) s m args below meth c H locs 0 0 (vx_MQ below (zQc X (zPi P)) (zXc X PX) args s 0 0 (zBase X)) (F0 m 18 ls []) := by
    intro n
    induction n with
    | zero => intro _ _ M H locs ls I hl hw; exact hw.elim
    | succ n ih =>
      intro x2 x3 M H locs ls I hl hw
      unfold w_X6_small_18 at hw
      have hb_171 : ∀ (x2 : Int32) (x3 : Int32) (M : zM) (H : Heap) (locs : List Loc) (ls : Array Slot), zWk X s M H locs → lv_has ls 6 [(0, .ref o), (2, .int x2), (3, .int x3)] → w_X6_small_171 o p0 P (w_X6_small_18 o p0 P n) x2 x3 M → W p l e (zRm 1 21 0 0) s m args below meth c H locs 0 0 (vx_MQ below (zQc X (zPi P)) (zXc X PX) args s 0 0 (zBase X)) (F0 m 171 ls []) := by
        intro x2 x3 M H locs ls I hl hw
        unfold w_X6_small_171 at hw
        refine lv_goto (tgt := 18) hx hb dX6_small_171 (by decide) ?_
        refine W.widen (k := 0) (n := 0) (Nat.le_of_ble_eq_true rfl) (Nat.le_of_ble_eq_true rfl) ?_
        exact ih x2 x3 _ _ _ ls I (lv_sub hl [0, 1, 2] rfl) hw
      have hb_170 : ∀ (x3 : Int32) (y0 : Int32) (M : zM) (H : Heap) (locs : List Loc) (ls : Array Slot), zWk X s M H locs → lv_has ls 6 [(0, .ref o), (3, .int x3)] → w_X6_small_170 o p0 P (w_X6_small_18 o p0 P n) x3 y0 M → W p l e (zRm 1 21 0 0) s m args below meth c H locs 0 0 (vx_MQ below (zQc X (zPi P)) (zXc X PX) args s 0 0 (zBase X)) (F0 m 170 ls [.int y0]) := by
        intro x3 y0 M H locs ls I hl hw
        unfold w_X6_small_170 at hw
        refine lv_istore_n (lv' := [(2, .int y0), (0, .ref o), (3, .int x3)]) hx hb dX6_small_170 rfl hl (by decide) rfl (fun ls hl1 => ?_)
        refine W.widen (k := 0) (n := 0) (Nat.le_of_ble_eq_true rfl) (Nat.le_of_ble_eq_true rfl) ?_
        exact hb_171 y0 x3 _ _ _ ls I (lv_sub hl1 [1, 0, 2] rfl) hw
      have hb_154 : ∀ (x3 : Int32) (y0 : Int32) (y1 : Int32) (M : zM) (H : Heap) (locs : List Loc) (ls : Array Slot), zWk X s M H locs → lv_has ls 6 [(0, .ref o), (3, .int x3)] → w_X6_small_154 o p0 P (w_X6_small_18 o p0 P n) x3 y0 y1 M → W p l e (zRm 1 21 0 0) s m args below meth c H locs 0 0 (vx_MQ below (zQc X (zPi P)) (zXc X PX) args s 0 0 (zBase X)) (F0 m 154 ls [.int y0, .int y1]) := by
        intro x3 y0 y1 M H locs ls I hl hw
        unfold w_X6_small_154 at hw
        refine lv_imul hx hb dX6_small_154 ?_
        refine lv_istore_n (lv' := [(2, .int (y1 * y0)), (0, .ref o), (3, .int x3)]) hx hb dX6_small_155 rfl hl (by decide) rfl (fun ls hl2 => ?_)
        refine lv_iload_n hx hb dX6_small_156 rfl (lv_at hl2 0 rfl) ?_
        refine lv_sipush (v := 300) hx hb dX6_small_157 (by decide) ?_
        refine lv_icmp_le (tgt := 169) hx hb dX6_small_160 (by decide) (fun c => ?_) (fun c => ?_)
        · replace hw := hw.1 c
          refine lv_iload_n hx hb dX6_small_169 rfl (lv_at hl2 0 rfl) ?_
          refine W.widen (k := 0) (n := 0) (Nat.le_of_ble_eq_true rfl) (Nat.le_of_ble_eq_true rfl) ?_
          exact hb_170 x3 (y1 * y0) _ _ _ ls I (lv_sub hl2 [1, 2] rfl) hw
        · replace hw := hw.2 c
          refine lv_sipush (v := 301) hx hb dX6_small_163 (by decide) ?_
          refine lv_goto (tgt := 170) hx hb dX6_small_166 (by decide) ?_
          refine W.widen (k := 0) (n := 0) (Nat.le_of_ble_eq_true rfl) (Nat.le_of_ble_eq_true rfl) ?_
          exact hb_170 x3 (301 : Int32) _ _ _ ls I (lv_sub hl2 [1, 2] rfl) hw
      refine lv_iload_n hx hb dX6_small_18 rfl (lv_at hl 2 rfl) ?_
      refine lv_if_lt (tgt := 174) hx hb dX6_small_19 (by decide) (fun c => ?_) (fun c => ?_)
      · replace hw := hw.1 c
        refine lv_iload_n hx hb dX6_small_174 rfl (lv_at hl 1 rfl) ?_
        exact z_iret C I hr ⟨_, rfl, hw⟩ (Nat.le_of_ble_eq_true rfl) (Nat.le_of_ble_eq_true rfl) dX6_small_175
      · replace hw := hw.2 c
        refine lv_aload_n hx hb dX6_small_22 rfl (lv_at hl 0 rfl) ?_
        refine z_getr C I fl_X6_59 hw dX6_small_23 (fun v3 hw => ?_)
        refine lv_iload_n hx hb dX6_small_26 rfl (lv_at hl 2 rfl) ?_
        refine z_iald C I hw dX6_small_27 (fun v4 hw => ?_)
        refine lv_istore (lv' := [(4, .int v4), (0, .ref o), (2, .int x2), (3, .int x3)]) hx hb dX6_small_28 hl (by decide) rfl (fun ls hl5 => ?_)
        refine lv_aload_n hx hb dX6_small_30 rfl (lv_at hl5 1 rfl) ?_
        refine z_getr C I fl_X6_65 hw dX6_small_31 (fun v6 hw => ?_)
        refine lv_iload_n hx hb dX6_small_34 rfl (lv_at hl5 3 rfl) ?_
        refine z_iald C I hw dX6_small_35 (fun v7 hw => ?_)
        refine lv_aload_n hx hb dX6_small_36 rfl (lv_at hl5 1 rfl) ?_
        refine z_getr C I fl_X6_29 hw dX6_small_37 (fun v8 hw => ?_)
        refine lv_iload hx hb dX6_small_40 (lv_at hl5 0 rfl) ?_
        refine z_iald C I hw dX6_small_42 (fun v9 hw => ?_)
        refine lv_icmp_ne (tgt := 52) hx hb dX6_small_43 (by decide) (fun c => ?_) (fun c => ?_)
        · replace hw := hw.1 c
          refine lv_iconst (v := 5) hx hb dX6_small_52 (by decide) ?_
          refine lv_iload hx hb dX6_small_53 (lv_at hl5 0 rfl) ?_
          refine lv_imul hx hb dX6_small_55 ?_
          refine lv_aload_n hx hb dX6_small_56 rfl (lv_at hl5 1 rfl) ?_
          refine z_getr C I fl_X6_65 hw dX6_small_57 (fun v10 hw => ?_)
          refine lv_iload_n hx hb dX6_small_60 rfl (lv_at hl5 3 rfl) ?_
          refine z_iald C I hw dX6_small_61 (fun v11 hw => ?_)
          refine lv_iadd hx hb dX6_small_62 ?_
          refine lv_istore (lv' := [(5, .int (((5 : Int32) * v4) + v11)), (4, .int v4), (0, .ref o), (2, .int x2), (3, .int x3)]) hx hb dX6_small_63 hl5 (by decide) rfl (fun ls hl12 => ?_)
          refine lv_aload_n hx hb dX6_small_65 rfl (lv_at hl12 2 rfl) ?_
          refine z_getr C I fl_X6_65 hw dX6_small_66 (fun v13 hw => ?_)
          refine lv_iload_n hx hb dX6_small_69 rfl (lv_at hl12 4 rfl) ?_
          refine lv_dup2_11 hx hb dX6_small_70 rfl rfl ?_
          refine z_iald C I hw dX6_small_71 (fun v14 hw => ?_)
          refine lv_iconst (v := 1) hx hb dX6_small_72 (by decide) ?_
          refine lv_iadd hx hb dX6_small_73 ?_
          refine z_iast C I hw dX6_small_74 (fun M15 _ _ I hw => ?_)
          refine lv_aload_n hx hb dX6_small_75 rfl (lv_at hl12 2 rfl) ?_
          refine z_getr C I fl_X6_13 hw dX6_small_76 (fun v16 hw => ?_)
          refine lv_iload hx hb dX6_small_79 (lv_at hl12 0 rfl) ?_
          refine z_iald C I hw dX6_small_81 (fun v17 hw => ?_)
          refine lv_iconst (v := 4) hx hb dX6_small_82 (by decide) ?_
          refine lv_icmp_ne (tgt := 116) hx hb dX6_small_83 (by decide) (fun c => ?_) (fun c => ?_)
          · replace hw := hw.1 c
            refine lv_iload_n hx hb dX6_small_116 rfl (lv_at hl12 3 rfl) ?_
            refine lv_aload_n hx hb dX6_small_117 rfl (lv_at hl12 2 rfl) ?_
            refine z_getr C I fl_X6_13 hw dX6_small_118 (fun v18 hw => ?_)
            refine lv_iload hx hb dX6_small_121 (lv_at hl12 0 rfl) ?_
            refine z_iald C I hw dX6_small_123 (fun v19 hw => ?_)
            refine lv_iconst (v := 2) hx hb dX6_small_124 (by decide) ?_
            refine lv_icmp_ne (tgt := 132) hx hb dX6_small_125 (by decide) (fun c => ?_) (fun c => ?_)
            · replace hw := hw.1 c
              refine lv_aload_n hx hb dX6_small_132 rfl (lv_at hl12 2 rfl) ?_
              refine z_getr C I fl_X6_13 hw dX6_small_133 (fun v20 hw => ?_)
              refine lv_iload hx hb dX6_small_136 (lv_at hl12 0 rfl) ?_
              refine z_iald C I hw dX6_small_138 (fun v21 hw => ?_)
              refine lv_iconst (v := 3) hx hb dX6_small_139 (by decide) ?_
              refine lv_icmp_ne (tgt := 153) hx hb dX6_small_140 (by decide) (fun c => ?_) (fun c => ?_)
              · replace hw := hw.1 c
                refine lv_iconst (v := 1) hx hb dX6_small_153 (by decide) ?_
                refine W.widen (k := 0) (n := 0) (Nat.le_of_ble_eq_true rfl) (Nat.le_of_ble_eq_true rfl) ?_
                exact hb_154 x3 (1 : Int32) x2 _ _ _ ls I (lv_sub hl12 [2, 4] rfl) hw
              · replace hw := hw.2 c
                refine lv_aload_n hx hb dX6_small_143 rfl (lv_at hl12 2 rfl) ?_
                refine z_getr C I fl_X6_16 hw dX6_small_144 (fun v22 hw => ?_)
                refine lv_iload hx hb dX6_small_147 (lv_at hl12 0 rfl) ?_
                refine z_iald C I hw dX6_small_149 (fun v23 hw => ?_)
                refine lv_goto (tgt := 154) hx hb dX6_small_150 (by decide) ?_
                refine W.widen (k := 0) (n := 0) (Nat.le_of_ble_eq_true rfl) (Nat.le_of_ble_eq_true rfl) ?_
                exact hb_154 x3 v23 x2 _ _ _ ls I (lv_sub hl12 [2, 4] rfl) hw
            · replace hw := hw.2 c
              refine lv_iconst (v := 2) hx hb dX6_small_128 (by decide) ?_
              refine lv_goto (tgt := 154) hx hb dX6_small_129 (by decide) ?_
              refine W.widen (k := 0) (n := 0) (Nat.le_of_ble_eq_true rfl) (Nat.le_of_ble_eq_true rfl) ?_
              exact hb_154 x3 (2 : Int32) x2 _ _ _ ls I (lv_sub hl12 [2, 4] rfl) hw
          · replace hw := hw.2 c
            refine lv_iinc (v := (x3 + 1)) (lv' := [(3, .int (x3 + 1)), (5, .int (((5 : Int32) * v4) + v11)), (4, .int v4), (0, .ref o), (2, .int x2)]) hx hb dX6_small_86 hl12 (k := 4) rfl (by rfl) (by decide) rfl (fun ls hl24 => ?_)
            refine lv_aload_n hx hb dX6_small_89 rfl (lv_at hl24 3 rfl) ?_
            refine z_getr C I fl_X6_59 hw dX6_small_90 (fun v25 hw => ?_)
            refine lv_iload_n hx hb dX6_small_93 rfl (lv_at hl24 0 rfl) ?_
            refine lv_aload_n hx hb dX6_small_94 rfl (lv_at hl24 3 rfl) ?_
            refine lv_aload_n hx hb dX6_small_95 rfl (lv_at hl24 3 rfl) ?_
            refine z_getr C I fl_X6_16 hw dX6_small_96 (fun v26 hw => ?_)
            refine lv_iload hx hb dX6_small_99 (lv_at hl24 1 rfl) ?_
            refine z_iald C I hw dX6_small_101 (fun v27 hw => ?_)
            obtain ⟨hrc, hw⟩ := hw
            refine z_callV C I (as := [.int v27]) (rest := [.int (x3 + 1), .ref v25]) (m_X6_schemaOf E hw) kv_X6_90 vc_7 hrc rfl rfl hl24.1 (Nat.le_of_ble_eq_true rfl) ⟨Nat.le_of_ble_eq_true rfl, Nat.le_of_ble_eq_true rfl⟩ ⟨Nat.le_of_ble_eq_true rfl, Nat.le_of_ble_eq_true rfl⟩ dX6_small_102 (z_prop C htab (Nat.le_of_ble_eq_true rfl) (Nat.le_of_ble_eq_true rfl)) (fun v M28 _ _ I hv => ?_)
            obtain ⟨v29, rfl, hw⟩ := hv
            refine W.eq (g2 := F0 m 105 ls [.int v29, .int (x3 + 1), .ref v25]) rfl ?_
            refine z_iast C I hw dX6_small_105 (fun M30 _ _ I hw => ?_)
            refine lv_aload_n hx hb dX6_small_106 rfl (lv_at hl24 3 rfl) ?_
            refine z_getr C I fl_X6_65 hw dX6_small_107 (fun v31 hw => ?_)
            refine lv_iload_n hx hb dX6_small_110 rfl (lv_at hl24 0 rfl) ?_
            refine lv_iconst (v := 0) hx hb dX6_small_111 (by decide) ?_
            refine z_iast C I hw dX6_small_112 (fun M32 _ _ I hw => ?_)
            refine lv_goto (tgt := 171) hx hb dX6_small_113 (by decide) ?_
            refine W.widen (k := 0) (n := 0) (Nat.le_of_ble_eq_true rfl) (Nat.le_of_ble_eq_true rfl) ?_
            exact hb_171 x2 (x3 + 1) _ _ _ ls I (lv_sub hl24 [3, 4, 0] rfl) hw
        · replace hw := hw.2 c
          refine lv_iinc (v := (x3 + (-1))) (lv' := [(3, .int (x3 + (-1))), (4, .int v4), (0, .ref o), (2, .int x2)]) hx hb dX6_small_46 hl5 (k := 3) rfl (by rfl) (by decide) rfl (fun ls hl33 => ?_)
          refine lv_goto (tgt := 171) hx hb dX6_small_49 (by decide) ?_
          refine W.widen (k := 0) (n := 0) (Nat.le_of_ble_eq_true rfl) (Nat.le_of_ble_eq_true rfl) ?_
          exact hb_171 x2 (x3 + (-1)) _ _ _ ls I (lv_sub hl33 [2, 3, 0] rfl) hw
  refine lv_iconst (v := 1) hx hb dX6_small_0 (by decide) ?_
  refine lv_istore_n (lv' := [(2, .int (1 : Int32)), (0, .ref o), (1, .int p0)]) hx hb dX6_small_1 rfl hl (by decide) rfl (fun ls hl34 => ?_)
  refine lv_iconst (v := 0) hx hb dX6_small_2 (by decide) ?_
  refine lv_istore_n (lv' := [(3, .int (0 : Int32)), (2, .int (1 : Int32)), (0, .ref o), (1, .int p0)]) hx hb dX6_small_3 rfl hl34 (by decide) rfl (fun ls hl35 => ?_)
  refine lv_aload_n hx hb dX6_small_4 rfl (lv_at hl35 2 rfl) ?_
  refine z_getr C I fl_X6_59 hw dX6_small_5 (fun v36 hw => ?_)
  refine lv_iconst (v := 0) hx hb dX6_small_8 (by decide) ?_
  refine lv_iload_n hx hb dX6_small_9 rfl (lv_at hl35 3 rfl) ?_
  refine z_iast C I hw dX6_small_10 (fun M37 _ _ I hw => ?_)
  refine lv_aload_n hx hb dX6_small_11 rfl (lv_at hl35 2 rfl) ?_
  refine z_getr C I fl_X6_65 hw dX6_small_12 (fun v38 hw => ?_)
  refine lv_iconst (v := 0) hx hb dX6_small_15 (by decide) ?_
  refine lv_iconst (v := 0) hx hb dX6_small_16 (by decide) ?_
  refine z_iast C I hw dX6_small_17 (fun M39 _ _ I hw => ?_)
  obtain ⟨nn, hw⟩ := hw
  refine W.widen (k := 0) (n := 0) (Nat.le_of_ble_eq_true rfl) (Nat.le_of_ble_eq_true rfl) ?_
  exact hb_18 nn (1 : Int32) (0 : Int32) _ _ _ ls I (lv_sub hl35 [2, 1, 0] rfl) hw
set_option maxHeartbeats 4000000 in
set_option maxRecDepth 100000 in
theorem m_X6_readsAll {X : zX} {l : Launch} (E : zEnv X l) {M : zM} {o : Nat} {p0 : Int32} {p1 : Int32} {p2 : Int32} {p3 : Int32} {P : Int32 → zM → Prop} {PX : Nat → zM → Prop} (hw : w_X6_readsAll o p0 p1 p2 p3 M P) : zCT X l yX6_readsAll cX6_readsAll 7 (some .boolean) 5 119 0 0 M [.ref o, .int p0, .int p1, .int p2, .int p3] (zPz P) PX := by
  refine z_entry E (by decide) ?_
  intro p e s m args below meth c C hr htab I
  have hx := C.1.1
  have hb := C.1.2.1
  obtain ⟨ls, he, hl⟩ := z_enter (m := m) (n := 7) (vs := [.ref o, .int p0, .int p1, .int p2, .int p3]) (l := [(0, .ref o), (1, .int p0), (2, .int p1), (3, .int p2), (4, .int p3)]) (Nat.le_of_ble_eq_true rfl) rfl
  rw [he]
  clear he
  unfold w_X6_readsAll at hw
  have hb_66 : ∀ (y0 : Int32) (y1 : Nat) (M : zM) (H : Heap) (locs : List Loc) (ls : Array Slot), zWk X s M H locs → lv_has ls 7 [(0, .ref o), (1, .int p0), (2, .int p1), (3, .int p2), (4, .int p3)] → w_X6_readsAll_66 o p0 p1 p2 p3 P y0 y1 M → W p l e (zRm 5 119 0 0) s m args below meth c H locs 0 0 (vx_MQ below (zQc X (zPz P)) (zXc X PX) args s 0 0 (zBase X)) (F0 m 66 ls [.int y0, .ref y1]) := by
    intro y0 y1 M H locs ls I hl hw
    unfold w_X6_readsAll_66 at hw
    obtain ⟨hrc, hw⟩ := hw
    refine z_callV C I (as := [.int y0]) (rest := []) (m_X6_holds E hw) kv_X6_102 vc_7 hrc rfl rfl hl.1 (Nat.le_of_ble_eq_true rfl) ⟨Nat.le_of_ble_eq_true rfl, Nat.le_of_ble_eq_true rfl⟩ ⟨Nat.le_of_ble_eq_true rfl, Nat.le_of_ble_eq_true rfl⟩ dX6_readsAll_66 (z_prop C htab (Nat.le_of_ble_eq_true rfl) (Nat.le_of_ble_eq_true rfl)) (fun v M1 _ _ I hv => ?_)
    obtain ⟨v2, rfl, hv2, hw⟩ := hv
    refine W.eq (g2 := F0 m 69 ls [.int v2]) rfl ?_
    refine lv_if_eq (tgt := 88) hx hb dX6_readsAll_69 (by decide) (fun c => ?_) (fun c => ?_)
    · replace hw := hw.1 c
      refine lv_iconst (v := 0) hx hb dX6_readsAll_88 (by decide) ?_
      exact z_zret C I hr (Or.inl rfl) ⟨_, rfl, (Or.inl rfl), hw⟩ (Nat.le_of_ble_eq_true rfl) (Nat.le_of_ble_eq_true rfl) dX6_readsAll_89
    · replace hw := hw.2 c
      refine lv_aload_n hx hb dX6_readsAll_72 rfl (lv_at hl 0 rfl) ?_
      refine lv_iload_n hx hb dX6_readsAll_73 rfl (lv_at hl 1 rfl) ?_
      refine lv_iload_n hx hb dX6_readsAll_74 rfl (lv_at hl 2 rfl) ?_
      refine lv_iload_n hx hb dX6_readsAll_75 rfl (lv_at hl 3 rfl) ?_
      refine lv_iload hx hb dX6_readsAll_76 (lv_at hl 4 rfl) ?_
      obtain ⟨hrc, hw⟩ := hw
      refine z_callV C I (as := [.int p0, .int p1, .int p2, .int p3]) (rest := []) (m_X6_canOf E hw) kv_X6_162 vc_7 hrc rfl rfl hl.1 (Nat.le_of_ble_eq_true rfl) ⟨Nat.le_of_ble_eq_true rfl, Nat.le_of_ble_eq_true rfl⟩ ⟨Nat.le_of_ble_eq_true rfl, Nat.le_of_ble_eq_true rfl⟩ dX6_readsAll_78 (z_prop C htab (Nat.le_of_ble_eq_true rfl) (Nat.le_of_ble_eq_true rfl)) (fun v M3 _ _ I hv => ?_)
      obtain ⟨v4, rfl, hv4, hw⟩ := hv
      refine W.eq (g2 := F0 m 81 ls [.int v4]) rfl ?_
      refine lv_if_eq (tgt := 88) hx hb dX6_readsAll_81 (by decide) (fun c => ?_) (fun c => ?_)
      · replace hw := hw.1 c
        refine lv_iconst (v := 0) hx hb dX6_readsAll_88 (by decide) ?_
        exact z_zret C I hr (Or.inl rfl) ⟨_, rfl, (Or.inl rfl), hw⟩ (Nat.le_of_ble_eq_true rfl) (Nat.le_of_ble_eq_true rfl) dX6_readsAll_89
      · replace hw := hw.2 c
        refine lv_iconst (v := 1) hx hb dX6_readsAll_84 (by decide) ?_
        refine lv_goto (tgt := 89) hx hb dX6_readsAll_85 (by decide) ?_
        exact z_zret C I hr (Or.inr rfl) ⟨_, rfl, (Or.inr rfl), hw⟩ (Nat.le_of_ble_eq_true rfl) (Nat.le_of_ble_eq_true rfl) dX6_readsAll_89
  have hb_43 : ∀ (x5 : Int32) (y0 : Int32) (M : zM) (H : Heap) (locs : List Loc) (ls : Array Slot), zWk X s M H locs → lv_has ls 7 [(0, .ref o), (1, .int p0), (2, .int p1), (3, .int p2), (4, .int p3), (5, .int x5)] → w_X6_readsAll_43 o p0 p1 p2 p3 P x5 y0 M → W p l e (zRm 5 119 0 0) s m args below meth c H locs 0 0 (vx_MQ below (zQc X (zPz P)) (zXc X PX) args s 0 0 (zBase X)) (F0 m 43 ls [.int y0]) := by
    intro x5 y0 M H locs ls I hl hw
    unfold w_X6_readsAll_43 at hw
    refine lv_istore (lv' := [(6, .int y0), (0, .ref o), (1, .int p0), (2, .int p1), (3, .int p2), (4, .int p3), (5, .int x5)]) hx hb dX6_readsAll_43 hl (by decide) rfl (fun ls hl5 => ?_)
    refine lv_aload_n hx hb dX6_readsAll_45 rfl (lv_at hl5 1 rfl) ?_
    refine lv_iload hx hb dX6_readsAll_46 (lv_at hl5 6 rfl) ?_
    refine lv_if_le (tgt := 56) hx hb dX6_readsAll_48 (by decide) (fun c => ?_) (fun c => ?_)
    · replace hw := hw.1 c
      refine lv_iload hx hb dX6_readsAll_56 (lv_at hl5 0 rfl) ?_
      refine lv_if_eq (tgt := 65) hx hb dX6_readsAll_58 (by decide) (fun c => ?_) (fun c => ?_)
      · replace hw := hw.1 c
        refine lv_iconst (v := 0) hx hb dX6_readsAll_65 (by decide) ?_
        refine W.widen (k := 0) (n := 0) (Nat.le_of_ble_eq_true rfl) (Nat.le_of_ble_eq_true rfl) ?_
        exact hb_66 (0 : Int32) o _ _ _ ls I (lv_sub hl5 [1, 2, 3, 4, 5] rfl) hw
      · replace hw := hw.2 c
        refine lv_iconst (v := 3) hx hb dX6_readsAll_61 (by decide) ?_
        refine lv_goto (tgt := 66) hx hb dX6_readsAll_62 (by decide) ?_
        refine W.widen (k := 0) (n := 0) (Nat.le_of_ble_eq_true rfl) (Nat.le_of_ble_eq_true rfl) ?_
        exact hb_66 (3 : Int32) o _ _ _ ls I (lv_sub hl5 [1, 2, 3, 4, 5] rfl) hw
    · replace hw := hw.2 c
      refine lv_iload hx hb dX6_readsAll_51 (lv_at hl5 6 rfl) ?_
      refine lv_goto (tgt := 66) hx hb dX6_readsAll_53 (by decide) ?_
      refine W.widen (k := 0) (n := 0) (Nat.le_of_ble_eq_true rfl) (Nat.le_of_ble_eq_true rfl) ?_
      exact hb_66 x5 o _ _ _ ls I (lv_sub hl5 [1, 2, 3, 4, 5] rfl) hw
  have hb_42 : ∀ (x5 : Int32) (M : zM) (H : Heap) (locs : List Loc) (ls : Array Slot), zWk X s M H locs → lv_has ls 7 [(0, .ref o), (1, .int p0), (2, .int p1), (3, .int p2), (4, .int p3), (5, .int x5)] → w_X6_readsAll_42 o p0 p1 p2 p3 P x5 M → W p l e (zRm 5 119 0 0) s m args below meth c H locs 0 0 (vx_MQ below (zQc X (zPz P)) (zXc X PX) args s 0 0 (zBase X)) (F0 m 42 ls []) := by
    intro x5 M H locs ls I hl hw
    unfold w_X6_readsAll_42 at hw
    refine lv_iconst (v := 0) hx hb dX6_readsAll_42 (by decide) ?_
    refine W.widen (k := 0) (n := 0) (Nat.le_of_ble_eq_true rfl) (Nat.le_of_ble_eq_true rfl) ?_
    exact hb_43 x5 (0 : Int32) _ _ _ ls I (lv_sub hl [0, 1, 2, 3, 4, 5] rfl) hw
  refine lv_aload_n hx hb dX6_readsAll_0 rfl (lv_at hl 0 rfl) ?_
  refine lv_iload_n hx hb dX6_readsAll_1 rfl (lv_at hl 1 rfl) ?_
  refine lv_iload_n hx hb dX6_readsAll_2 rfl (lv_at hl 2 rfl) ?_
  refine lv_iload_n hx hb dX6_readsAll_3 rfl (lv_at hl 3 rfl) ?_
  refine lv_iload hx hb dX6_readsAll_4 (lv_at hl 4 rfl) ?_
  obtain ⟨hrc, hw⟩ := hw
  refine z_callV C I (as := [.int p0, .int p1, .int p2, .int p3]) (rest := []) (m_X6_errorOfBoth E hw) kv_X6_159 vc_7 hrc rfl rfl hl.1 (Nat.le_of_ble_eq_true rfl) ⟨Nat.le_of_ble_eq_true rfl, Nat.le_of_ble_eq_true rfl⟩ ⟨Nat.le_of_ble_eq_true rfl, Nat.le_of_ble_eq_true rfl⟩ dX6_readsAll_6 (z_prop C htab (Nat.le_of_ble_eq_true rfl) (Nat.le_of_ble_eq_true rfl)) (fun v M6 _ _ I hv => ?_)
  obtain ⟨v7, rfl, hw⟩ := hv
  refine W.eq (g2 := F0 m 9 ls [.int v7]) rfl ?_
  refine lv_istore (lv' := [(5, .int v7), (0, .ref o), (1, .int p0), (2, .int p1), (3, .int p2), (4, .int p3)]) hx hb dX6_readsAll_9 hl (by decide) rfl (fun ls hl8 => ?_)
  refine lv_iload hx hb dX6_readsAll_11 (lv_at hl8 0 rfl) ?_
  refine lv_if_ne (tgt := 42) hx hb dX6_readsAll_13 (by decide) (fun c => ?_) (fun c => ?_)
  · replace hw := hw.1 c
    refine W.widen (k := 0) (n := 0) (Nat.le_of_ble_eq_true rfl) (Nat.le_of_ble_eq_true rfl) ?_
    exact hb_42 v7 _ _ _ ls I (lv_sub hl8 [1, 2, 3, 4, 5, 0] rfl) hw
  · replace hw := hw.2 c
    refine lv_aload_n hx hb dX6_readsAll_16 rfl (lv_at hl8 1 rfl) ?_
    refine lv_aload_n hx hb dX6_readsAll_17 rfl (lv_at hl8 1 rfl) ?_
    refine z_getr C I fl_X6_38 hw dX6_readsAll_18 (fun v9 hw => ?_)
    refine lv_bipush (v := 6) hx hb dX6_readsAll_21 (by decide) ?_
    refine lv_iload_n hx hb dX6_readsAll_23 rfl (lv_at hl8 4 rfl) ?_
    refine lv_imul hx hb dX6_readsAll_24 ?_
    refine lv_iload hx hb dX6_readsAll_25 (lv_at hl8 5 rfl) ?_
    refine lv_iadd hx hb dX6_readsAll_27 ?_
    refine z_iald C I hw dX6_readsAll_28 (fun v10 hw => ?_)
    obtain ⟨hrc, hw⟩ := hw
    refine z_callV C I (as := [.int v10]) (rest := []) (m_X6_small E hw) kv_X6_165 vc_7 hrc rfl rfl hl8.1 (Nat.le_of_ble_eq_true rfl) ⟨Nat.le_of_ble_eq_true rfl, Nat.le_of_ble_eq_true rfl⟩ ⟨Nat.le_of_ble_eq_true rfl, Nat.le_of_ble_eq_true rfl⟩ dX6_readsAll_29 (z_prop C htab (Nat.le_of_ble_eq_true rfl) (Nat.le_of_ble_eq_true rfl)) (fun v M11 _ _ I hv => ?_)
    obtain ⟨v12, rfl, hw⟩ := hv
    refine W.eq (g2 := F0 m 32 ls [.int v12]) rfl ?_
    refine lv_sipush (v := 300) hx hb dX6_readsAll_32 (by decide) ?_
    refine lv_icmp_le (tgt := 42) hx hb dX6_readsAll_35 (by decide) (fun c => ?_) (fun c => ?_)
    · replace hw := hw.1 c
      refine W.widen (k := 0) (n := 0) (Nat.le_of_ble_eq_true rfl) (Nat.le_of_ble_eq_true rfl) ?_
      exact hb_42 v7 _ _ _ ls I (lv_sub hl8 [1, 2, 3, 4, 5, 0] rfl) hw
    · replace hw := hw.2 c
      refine lv_iconst (v := 1) hx hb dX6_readsAll_38 (by decide) ?_
      refine lv_goto (tgt := 43) hx hb dX6_readsAll_39 (by decide) ?_
      refine W.widen (k := 0) (n := 0) (Nat.le_of_ble_eq_true rfl) (Nat.le_of_ble_eq_true rfl) ?_
      exact hb_43 v7 (1 : Int32) _ _ _ ls I (lv_sub hl8 [1, 2, 3, 4, 5, 0] rfl) hw
set_option maxHeartbeats 4000000 in
set_option maxRecDepth 100000 in
theorem m_X6_value {X : zX} {l : Launch} (E : zEnv X l) {M : zM} {o : Nat} {p0 : Int32} {P : Int32 → zM → Prop} {PX : Nat → zM → Prop} (hw : w_X6_value o p0 M P) : zCT X l yX6_value cX6_value 2 (some .int) 1 21 0 0 M [.ref o, .int p0] (zPi P) PX := by
  refine z_entry E (by decide) ?_
  intro p e s m args below meth c C hr htab I
  have hx := C.1.1
  have hb := C.1.2.1
  obtain ⟨ls, he, hl⟩ := z_enter (m := m) (n := 2) (vs := [.ref o, .int p0]) (l := [(0, .ref o), (1, .int p0)]) (Nat.le_of_ble_eq_true rfl) rfl
  rw [he]
  clear he
  unfold w_X6_value at hw
  have hb_15 : ∀ (y0 : Int32) (y1 : Nat) (M : zM) (H : Heap) (locs : List Loc) (ls : Array Slot), zWk X s M H locs → lv_has ls 2 [(0, .ref o), (1, .int p0)] → w_X6_value_15 o p0 P y0 y1 M → W p l e (zRm 1 21 0 0) s m args below meth c H locs 0 0 (vx_MQ below (zQc X (zPi P)) (zXc X PX) args s 0 0 (zBase X)) (F0 m 15 ls [.int y0, .ref y1]) := by
    intro y0 y1 M H locs ls I hl hw
    unfold w_X6_value_15 at hw
    obtain ⟨hrc, hw⟩ := hw
    refine z_callV C I (as := [.int y0]) (rest := []) (m_X6_holds E hw) kv_X6_102 vc_7 hrc rfl rfl hl.1 (Nat.le_of_ble_eq_true rfl) ⟨Nat.le_of_ble_eq_true rfl, Nat.le_of_ble_eq_true rfl⟩ ⟨Nat.le_of_ble_eq_true rfl, Nat.le_of_ble_eq_true rfl⟩ dX6_value_15 (z_prop C htab (Nat.le_of_ble_eq_true rfl) (Nat.le_of_ble_eq_true rfl)) (fun v M1 _ _ I hv => ?_)
    obtain ⟨v2, rfl, hv2, hw⟩ := hv
    refine W.eq (g2 := F0 m 18 ls [.int v2]) rfl ?_
    refine lv_if_ne (tgt := 23) hx hb dX6_value_18 (by decide) (fun c => ?_) (fun c => ?_)
    · replace hw := hw.1 c
      refine lv_aload_n hx hb dX6_value_23 rfl (lv_at hl 0 rfl) ?_
      refine z_getr C I fl_X6_53 hw dX6_value_24 (fun v3 hw => ?_)
      refine lv_aload_n hx hb dX6_value_27 rfl (lv_at hl 0 rfl) ?_
      refine z_geti C I fl_X6_168 hw dX6_value_28 (fun v4 hw => ?_)
      refine lv_iload_n hx hb dX6_value_31 rfl (lv_at hl 1 rfl) ?_
      refine z_iast C I hw dX6_value_32 (fun M5 _ _ I hw => ?_)
      refine lv_aload_n hx hb dX6_value_33 rfl (lv_at hl 0 rfl) ?_
      refine lv_dup hx hb dX6_value_34 rfl ?_
      refine z_geti C I fl_X6_168 hw dX6_value_35 (fun v6 hw => ?_)
      refine lv_iconst (v := 1) hx hb dX6_value_38 (by decide) ?_
      refine lv_iadd hx hb dX6_value_39 ?_
      refine z_put C I fl_X6_168 rfl (v := .int (v6 + (1 : Int32))) rfl rfl hw dX6_value_40 (fun M7 _ _ I hw => ?_)
      refine lv_aload_n hx hb dX6_value_43 rfl (lv_at hl 0 rfl) ?_
      refine z_geti C I fl_X6_168 hw dX6_value_44 (fun v8 hw => ?_)
      exact z_iret C I hr ⟨_, rfl, hw⟩ (Nat.le_of_ble_eq_true rfl) (Nat.le_of_ble_eq_true rfl) dX6_value_47
    · replace hw := hw.2 c
      refine lv_iconst (v := 0) hx hb dX6_value_21 (by decide) ?_
      exact z_iret C I hr ⟨_, rfl, hw⟩ (Nat.le_of_ble_eq_true rfl) (Nat.le_of_ble_eq_true rfl) dX6_value_22
  refine lv_aload_n hx hb dX6_value_0 rfl (lv_at hl 0 rfl) ?_
  refine lv_aload_n hx hb dX6_value_1 rfl (lv_at hl 0 rfl) ?_
  refine z_geti C I fl_X6_168 hw dX6_value_2 (fun v9 hw => ?_)
  refine lv_bipush (v := 20) hx hb dX6_value_5 (by decide) ?_
  refine lv_icmp_ne (tgt := 14) hx hb dX6_value_7 (by decide) (fun c => ?_) (fun c => ?_)
  · replace hw := hw.1 c
    refine lv_iconst (v := 0) hx hb dX6_value_14 (by decide) ?_
    refine W.widen (k := 0) (n := 0) (Nat.le_of_ble_eq_true rfl) (Nat.le_of_ble_eq_true rfl) ?_
    exact hb_15 (0 : Int32) o _ _ _ ls I (lv_sub hl [0, 1] rfl) hw
  · replace hw := hw.2 c
    refine lv_iconst (v := 1) hx hb dX6_value_10 (by decide) ?_
    refine lv_goto (tgt := 15) hx hb dX6_value_11 (by decide) ?_
    refine W.widen (k := 0) (n := 0) (Nat.le_of_ble_eq_true rfl) (Nat.le_of_ble_eq_true rfl) ?_
    exact hb_15 (1 : Int32) o _ _ _ ls I (lv_sub hl [0, 1] rfl) hw
set_option maxHeartbeats 4000000 in
set_option maxRecDepth 100000 in
theorem m_X6_clear {X : zX} {l : Launch} (E : zEnv X l) {M : zM} {o : Nat} {P : Int32 → zM → Prop} {PX : Nat → zM → Prop} (hw : w_X6_clear o M P) : zCT X l yX6_clear cX6_clear 2 (some .int) 0 0 0 0 M [.ref o] (zPi P) PX := by
  refine z_entry E (by decide) ?_
  intro p e s m args below meth c C hr htab I
  have hx := C.1.1
  have hb := C.1.2.1
  obtain ⟨ls, he, hl⟩ := z_enter (m := m) (n := 2) (vs := [.ref o]) (l := [(0, .ref o)]) (Nat.le_of_ble_eq_true rfl) rfl
  rw [he]
  clear he
  unfold w_X6_clear at hw
  refine lv_aload_n hx hb dX6_clear_0 rfl (lv_at hl 0 rfl) ?_
  refine lv_iconst (v := 0) hx hb dX6_clear_1 (by decide) ?_
  refine z_put C I fl_X6_71 rfl (v := .int (0 : Int32)) rfl rfl hw dX6_clear_2 (fun M1 _ _ I hw => ?_)
  refine lv_aload_n hx hb dX6_clear_5 rfl (lv_at hl 0 rfl) ?_
  refine z_geti C I fl_X6_168 hw dX6_clear_6 (fun v2 hw => ?_)
  refine lv_istore_n (lv' := [(1, .int v2), (0, .ref o)]) hx hb dX6_clear_9 rfl hl (by decide) rfl (fun ls hl3 => ?_)
  refine lv_aload_n hx hb dX6_clear_10 rfl (lv_at hl3 1 rfl) ?_
  refine lv_iconst (v := 0) hx hb dX6_clear_11 (by decide) ?_
  refine z_put C I fl_X6_168 rfl (v := .int (0 : Int32)) rfl rfl hw dX6_clear_12 (fun M4 _ _ I hw => ?_)
  refine lv_iload_n hx hb dX6_clear_15 rfl (lv_at hl3 0 rfl) ?_
  exact z_iret C I hr ⟨_, rfl, hw⟩ (Nat.le_of_ble_eq_true rfl) (Nat.le_of_ble_eq_true rfl) dX6_clear_16
set_option maxHeartbeats 4000000 in
set_option maxRecDepth 100000 in
theorem m_X6_isRecordOf {X : zX} {l : Launch} (E : zEnv X l) {M : zM} {o : Nat} {p0 : Int32} {P : Int32 → zM → Prop} {PX : Nat → zM → Prop} (hw : w_X6_isRecordOf o p0 M P) : zCT X l yX6_isRecordOf cX6_isRecordOf 6 (some .boolean) 2 45 0 0 M [.ref o, .int p0] (zPz P) PX := by
  refine z_entry E (by decide) ?_
  intro p e s m args below meth c C hr htab I
  have hx := C.1.1
  have hb := C.1.2.1
  obtain ⟨ls, he, hl⟩ := z_enter (m := m) (n := 6) (vs := [.ref o, .int p0]) (l := [(0, .ref o), (1, .int p0)]) (Nat.le_of_ble_eq_true rfl) rfl
  rw [he]
  clear he
  unfold w_X6_isRecordOf at hw
  have hb_18 : ∀ (n : Nat) (x2 : Int32) (x3 : Int32) (M : zM) (H : Heap) (locs : List Loc) (ls : Array Slot), zWk X s M H locs → lv_has ls 6 [(0, .ref o), (2, .int x2), (3, .int x3)] → w_X6_isRecordOf_18 o p0 P n x2 x3 M → W p l e (zRm 2 45 0 0) s m args below meth c H locs 0 0 (vx_MQ below (zQc X (zPz P)) (zXc X PX) args s 0 0 (zBase X)) (F0 m 18 ls []) := by
    intro n
    induction n with
    | zero => intro _ _ M H locs ls I hl hw; exact hw.elim
    | succ n ih =>
      intro x2 x3 M H locs ls I hl hw
      unfold w_X6_isRecordOf_18 at hw
      have hb_144 : ∀ (x2 : Int32) (x3 : Int32) (M : zM) (H : Heap) (locs : List Loc) (ls : Array Slot), zWk X s M H locs → lv_has ls 6 [(0, .ref o), (2, .int x2), (3, .int x3)] → w_X6_isRecordOf_144 o p0 P (w_X6_isRecordOf_18 o p0 P n) x2 x3 M → W p l e (zRm 2 45 0 0) s m args below meth c H locs 0 0 (vx_MQ below (zQc X (zPz P)) (zXc X PX) args s 0 0 (zBase X)) (F0 m 144 ls []) := by
        intro x2 x3 M H locs ls I hl hw
        unfold w_X6_isRecordOf_144 at hw
        refine lv_goto (tgt := 18) hx hb dX6_isRecordOf_144 (by decide) ?_
        refine W.widen (k := 0) (n := 0) (Nat.le_of_ble_eq_true rfl) (Nat.le_of_ble_eq_true rfl) ?_
        exact ih x2 x3 _ _ _ ls I (lv_sub hl [0, 1, 2] rfl) hw
      refine lv_iload_n hx hb dX6_isRecordOf_18 rfl (lv_at hl 2 rfl) ?_
      refine lv_if_lt (tgt := 147) hx hb dX6_isRecordOf_19 (by decide) (fun c => ?_) (fun c => ?_)
      · replace hw := hw.1 c
        refine lv_iload_n hx hb dX6_isRecordOf_147 rfl (lv_at hl 1 rfl) ?_
        refine lv_aload_n hx hb dX6_isRecordOf_148 rfl (lv_at hl 0 rfl) ?_
        refine z_geti C I fl_X6_168 hw dX6_isRecordOf_149 (fun v1 hw => ?_)
        refine lv_icmp_ne (tgt := 159) hx hb dX6_isRecordOf_152 (by decide) (fun c => ?_) (fun c => ?_)
        · replace hw := hw.1 c
          refine lv_iconst (v := 0) hx hb dX6_isRecordOf_159 (by decide) ?_
          exact z_zret C I hr (Or.inl rfl) ⟨_, rfl, (Or.inl rfl), hw⟩ (Nat.le_of_ble_eq_true rfl) (Nat.le_of_ble_eq_true rfl) dX6_isRecordOf_160
        · replace hw := hw.2 c
          refine lv_iconst (v := 1) hx hb dX6_isRecordOf_155 (by decide) ?_
          refine lv_goto (tgt := 160) hx hb dX6_isRecordOf_156 (by decide) ?_
          exact z_zret C I hr (Or.inr rfl) ⟨_, rfl, (Or.inr rfl), hw⟩ (Nat.le_of_ble_eq_true rfl) (Nat.le_of_ble_eq_true rfl) dX6_isRecordOf_160
      · replace hw := hw.2 c
        refine lv_aload_n hx hb dX6_isRecordOf_22 rfl (lv_at hl 0 rfl) ?_
        refine z_getr C I fl_X6_59 hw dX6_isRecordOf_23 (fun v2 hw => ?_)
        refine lv_iload_n hx hb dX6_isRecordOf_26 rfl (lv_at hl 2 rfl) ?_
        refine z_iald C I hw dX6_isRecordOf_27 (fun v3 hw => ?_)
        refine lv_istore (lv' := [(4, .int v3), (0, .ref o), (2, .int x2), (3, .int x3)]) hx hb dX6_isRecordOf_28 hl (by decide) rfl (fun ls hl4 => ?_)
        refine lv_aload_n hx hb dX6_isRecordOf_30 rfl (lv_at hl4 1 rfl) ?_
        refine z_getr C I fl_X6_65 hw dX6_isRecordOf_31 (fun v5 hw => ?_)
        refine lv_iload_n hx hb dX6_isRecordOf_34 rfl (lv_at hl4 3 rfl) ?_
        refine z_iald C I hw dX6_isRecordOf_35 (fun v6 hw => ?_)
        refine lv_aload_n hx hb dX6_isRecordOf_36 rfl (lv_at hl4 1 rfl) ?_
        refine z_getr C I fl_X6_29 hw dX6_isRecordOf_37 (fun v7 hw => ?_)
        refine lv_iload hx hb dX6_isRecordOf_40 (lv_at hl4 0 rfl) ?_
        refine z_iald C I hw dX6_isRecordOf_42 (fun v8 hw => ?_)
        refine lv_icmp_ne (tgt := 52) hx hb dX6_isRecordOf_43 (by decide) (fun c => ?_) (fun c => ?_)
        · replace hw := hw.1 c
          refine lv_iconst (v := 5) hx hb dX6_isRecordOf_52 (by decide) ?_
          refine lv_iload hx hb dX6_isRecordOf_53 (lv_at hl4 0 rfl) ?_
          refine lv_imul hx hb dX6_isRecordOf_55 ?_
          refine lv_aload_n hx hb dX6_isRecordOf_56 rfl (lv_at hl4 1 rfl) ?_
          refine z_getr C I fl_X6_65 hw dX6_isRecordOf_57 (fun v9 hw => ?_)
          refine lv_iload_n hx hb dX6_isRecordOf_60 rfl (lv_at hl4 3 rfl) ?_
          refine z_iald C I hw dX6_isRecordOf_61 (fun v10 hw => ?_)
          refine lv_iadd hx hb dX6_isRecordOf_62 ?_
          refine lv_istore (lv' := [(5, .int (((5 : Int32) * v3) + v10)), (4, .int v3), (0, .ref o), (2, .int x2), (3, .int x3)]) hx hb dX6_isRecordOf_63 hl4 (by decide) rfl (fun ls hl11 => ?_)
          refine lv_aload_n hx hb dX6_isRecordOf_65 rfl (lv_at hl11 2 rfl) ?_
          refine z_getr C I fl_X6_65 hw dX6_isRecordOf_66 (fun v12 hw => ?_)
          refine lv_iload_n hx hb dX6_isRecordOf_69 rfl (lv_at hl11 4 rfl) ?_
          refine lv_dup2_11 hx hb dX6_isRecordOf_70 rfl rfl ?_
          refine z_iald C I hw dX6_isRecordOf_71 (fun v13 hw => ?_)
          refine lv_iconst (v := 1) hx hb dX6_isRecordOf_72 (by decide) ?_
          refine lv_iadd hx hb dX6_isRecordOf_73 ?_
          refine z_iast C I hw dX6_isRecordOf_74 (fun M14 _ _ I hw => ?_)
          refine lv_aload_n hx hb dX6_isRecordOf_75 rfl (lv_at hl11 2 rfl) ?_
          refine z_getr C I fl_X6_13 hw dX6_isRecordOf_76 (fun v15 hw => ?_)
          refine lv_iload hx hb dX6_isRecordOf_79 (lv_at hl11 0 rfl) ?_
          refine z_iald C I hw dX6_isRecordOf_81 (fun v16 hw => ?_)
          refine lv_iconst (v := 4) hx hb dX6_isRecordOf_82 (by decide) ?_
          refine lv_icmp_ne (tgt := 116) hx hb dX6_isRecordOf_83 (by decide) (fun c => ?_) (fun c => ?_)
          · replace hw := hw.1 c
            refine lv_iload_n hx hb dX6_isRecordOf_116 rfl (lv_at hl11 3 rfl) ?_
            refine lv_aload_n hx hb dX6_isRecordOf_117 rfl (lv_at hl11 2 rfl) ?_
            refine z_geti C I fl_X6_168 hw dX6_isRecordOf_118 (fun v17 hw => ?_)
            refine lv_icmp_eq (tgt := 139) hx hb dX6_isRecordOf_121 (by decide) (fun c => ?_) (fun c => ?_)
            · replace hw := hw.1 c
              refine lv_iconst (v := 0) hx hb dX6_isRecordOf_139 (by decide) ?_
              exact z_zret C I hr (Or.inl rfl) ⟨_, rfl, (Or.inl rfl), hw⟩ (Nat.le_of_ble_eq_true rfl) (Nat.le_of_ble_eq_true rfl) dX6_isRecordOf_140
            · replace hw := hw.2 c
              refine lv_aload_n hx hb dX6_isRecordOf_124 rfl (lv_at hl11 2 rfl) ?_
              refine lv_iload hx hb dX6_isRecordOf_125 (lv_at hl11 0 rfl) ?_
              refine lv_aload_n hx hb dX6_isRecordOf_127 rfl (lv_at hl11 2 rfl) ?_
              refine z_getr C I fl_X6_53 hw dX6_isRecordOf_128 (fun v18 hw => ?_)
              refine lv_iload_n hx hb dX6_isRecordOf_131 rfl (lv_at hl11 3 rfl) ?_
              refine z_iald C I hw dX6_isRecordOf_132 (fun v19 hw => ?_)
              obtain ⟨hrc, hw⟩ := hw
              refine z_callV C I (as := [.int (((5 : Int32) * v3) + v10), .int v19]) (rest := []) (m_X6_isValue E hw) kv_X6_106 vc_7 hrc rfl rfl hl11.1 (Nat.le_of_ble_eq_true rfl) ⟨Nat.le_of_ble_eq_true rfl, Nat.le_of_ble_eq_true rfl⟩ ⟨Nat.le_of_ble_eq_true rfl, Nat.le_of_ble_eq_true rfl⟩ dX6_isRecordOf_133 (z_prop C htab (Nat.le_of_ble_eq_true rfl) (Nat.le_of_ble_eq_true rfl)) (fun v M20 _ _ I hv => ?_)
              obtain ⟨v21, rfl, hv21, hw⟩ := hv
              refine W.eq (g2 := F0 m 136 ls [.int v21]) rfl ?_
              refine lv_if_ne (tgt := 141) hx hb dX6_isRecordOf_136 (by decide) (fun c => ?_) (fun c => ?_)
              · replace hw := hw.1 c
                refine lv_iinc (v := (x2 + 1)) (lv' := [(2, .int (x2 + 1)), (5, .int (((5 : Int32) * v3) + v10)), (4, .int v3), (0, .ref o), (3, .int x3)]) hx hb dX6_isRecordOf_141 hl11 (k := 3) rfl (by rfl) (by decide) rfl (fun ls hl22 => ?_)
                refine W.widen (k := 0) (n := 0) (Nat.le_of_ble_eq_true rfl) (Nat.le_of_ble_eq_true rfl) ?_
                exact hb_144 (x2 + 1) x3 _ _ _ ls I (lv_sub hl22 [3, 0, 4] rfl) hw
              · replace hw := hw.2 c
                refine lv_iconst (v := 0) hx hb dX6_isRecordOf_139 (by decide) ?_
                exact z_zret C I hr (Or.inl rfl) ⟨_, rfl, (Or.inl rfl), hw⟩ (Nat.le_of_ble_eq_true rfl) (Nat.le_of_ble_eq_true rfl) dX6_isRecordOf_140
          · replace hw := hw.2 c
            refine lv_iinc (v := (x3 + 1)) (lv' := [(3, .int (x3 + 1)), (5, .int (((5 : Int32) * v3) + v10)), (4, .int v3), (0, .ref o), (2, .int x2)]) hx hb dX6_isRecordOf_86 hl11 (k := 4) rfl (by rfl) (by decide) rfl (fun ls hl23 => ?_)
            refine lv_aload_n hx hb dX6_isRecordOf_89 rfl (lv_at hl23 3 rfl) ?_
            refine z_getr C I fl_X6_59 hw dX6_isRecordOf_90 (fun v24 hw => ?_)
            refine lv_iload_n hx hb dX6_isRecordOf_93 rfl (lv_at hl23 0 rfl) ?_
            refine lv_aload_n hx hb dX6_isRecordOf_94 rfl (lv_at hl23 3 rfl) ?_
            refine lv_aload_n hx hb dX6_isRecordOf_95 rfl (lv_at hl23 3 rfl) ?_
            refine z_getr C I fl_X6_16 hw dX6_isRecordOf_96 (fun v25 hw => ?_)
            refine lv_iload hx hb dX6_isRecordOf_99 (lv_at hl23 1 rfl) ?_
            refine z_iald C I hw dX6_isRecordOf_101 (fun v26 hw => ?_)
            obtain ⟨hrc, hw⟩ := hw
            refine z_callV C I (as := [.int v26]) (rest := [.int (x3 + 1), .ref v24]) (m_X6_schemaOf E hw) kv_X6_90 vc_7 hrc rfl rfl hl23.1 (Nat.le_of_ble_eq_true rfl) ⟨Nat.le_of_ble_eq_true rfl, Nat.le_of_ble_eq_true rfl⟩ ⟨Nat.le_of_ble_eq_true rfl, Nat.le_of_ble_eq_true rfl⟩ dX6_isRecordOf_102 (z_prop C htab (Nat.le_of_ble_eq_true rfl) (Nat.le_of_ble_eq_true rfl)) (fun v M27 _ _ I hv => ?_)
            obtain ⟨v28, rfl, hw⟩ := hv
            refine W.eq (g2 := F0 m 105 ls [.int v28, .int (x3 + 1), .ref v24]) rfl ?_
            refine z_iast C I hw dX6_isRecordOf_105 (fun M29 _ _ I hw => ?_)
            refine lv_aload_n hx hb dX6_isRecordOf_106 rfl (lv_at hl23 3 rfl) ?_
            refine z_getr C I fl_X6_65 hw dX6_isRecordOf_107 (fun v30 hw => ?_)
            refine lv_iload_n hx hb dX6_isRecordOf_110 rfl (lv_at hl23 0 rfl) ?_
            refine lv_iconst (v := 0) hx hb dX6_isRecordOf_111 (by decide) ?_
            refine z_iast C I hw dX6_isRecordOf_112 (fun M31 _ _ I hw => ?_)
            refine lv_goto (tgt := 144) hx hb dX6_isRecordOf_113 (by decide) ?_
            refine W.widen (k := 0) (n := 0) (Nat.le_of_ble_eq_true rfl) (Nat.le_of_ble_eq_true rfl) ?_
            exact hb_144 x2 (x3 + 1) _ _ _ ls I (lv_sub hl23 [3, 4, 0] rfl) hw
        · replace hw := hw.2 c
          refine lv_iinc (v := (x3 + (-1))) (lv' := [(3, .int (x3 + (-1))), (4, .int v3), (0, .ref o), (2, .int x2)]) hx hb dX6_isRecordOf_46 hl4 (k := 3) rfl (by rfl) (by decide) rfl (fun ls hl32 => ?_)
          refine lv_goto (tgt := 144) hx hb dX6_isRecordOf_49 (by decide) ?_
          refine W.widen (k := 0) (n := 0) (Nat.le_of_ble_eq_true rfl) (Nat.le_of_ble_eq_true rfl) ?_
          exact hb_144 x2 (x3 + (-1)) _ _ _ ls I (lv_sub hl32 [2, 3, 0] rfl) hw
  refine lv_iconst (v := 0) hx hb dX6_isRecordOf_0 (by decide) ?_
  refine lv_istore_n (lv' := [(2, .int (0 : Int32)), (0, .ref o), (1, .int p0)]) hx hb dX6_isRecordOf_1 rfl hl (by decide) rfl (fun ls hl33 => ?_)
  refine lv_iconst (v := 0) hx hb dX6_isRecordOf_2 (by decide) ?_
  refine lv_istore_n (lv' := [(3, .int (0 : Int32)), (2, .int (0 : Int32)), (0, .ref o), (1, .int p0)]) hx hb dX6_isRecordOf_3 rfl hl33 (by decide) rfl (fun ls hl34 => ?_)
  refine lv_aload_n hx hb dX6_isRecordOf_4 rfl (lv_at hl34 2 rfl) ?_
  refine z_getr C I fl_X6_59 hw dX6_isRecordOf_5 (fun v35 hw => ?_)
  refine lv_iconst (v := 0) hx hb dX6_isRecordOf_8 (by decide) ?_
  refine lv_iload_n hx hb dX6_isRecordOf_9 rfl (lv_at hl34 3 rfl) ?_
  refine z_iast C I hw dX6_isRecordOf_10 (fun M36 _ _ I hw => ?_)
  refine lv_aload_n hx hb dX6_isRecordOf_11 rfl (lv_at hl34 2 rfl) ?_
  refine z_getr C I fl_X6_65 hw dX6_isRecordOf_12 (fun v37 hw => ?_)
  refine lv_iconst (v := 0) hx hb dX6_isRecordOf_15 (by decide) ?_
  refine lv_iconst (v := 0) hx hb dX6_isRecordOf_16 (by decide) ?_
  refine z_iast C I hw dX6_isRecordOf_17 (fun M38 _ _ I hw => ?_)
  obtain ⟨nn, hw⟩ := hw
  refine W.widen (k := 0) (n := 0) (Nat.le_of_ble_eq_true rfl) (Nat.le_of_ble_eq_true rfl) ?_
  exact hb_18 nn (0 : Int32) (0 : Int32) _ _ _ ls I (lv_sub hl34 [2, 1, 0] rfl) hw
