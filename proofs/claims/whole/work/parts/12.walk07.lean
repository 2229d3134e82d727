set_option maxHeartbeats 4000000 in
set_option maxRecDepth 100000 in
theorem m_X6_isAcceptedBy {X : zX} {l : Launch} (E : zEnv X l) {M : zM} {o : Nat} {p0 : Int32} {P : Int32 → zM → Prop} {PX : Nat → zM → Prop} (hw : w_X6_isAcceptedBy o p0 M P) : zCT X l yX6_isAcceptedBy cX6_isAcceptedBy 6 (some .boolean) 4 95 0 0 M [.ref o, .int p0] (zPz P) PX := by
  refine z_entry E (by decide) ?_
  intro p e s m args below meth c C hr htab I
  have hx := C.1.1
  have hb := C.1.2.1
  obtain ⟨ls, he, hl⟩ := z_enter (m := m) (n := 6) (vs := [.ref o, .int p0]) (l := [(0, .ref o), (1, .int p0)]) (Nat.le_of_ble_eq_true rfl) rfl
  rw [he]
  clear he
  unfold w_X6_isAcceptedBy at hw
  have hb_15 : ∀ (n : Nat) (x2 : Int32) (x3 : Int32) (M : zM) (H : Heap) (locs : List Loc) (ls : Array Slot), zWk X s M H locs → lv_has ls 6 [(0, .ref o), (1, .int p0), (2, .int x2), (3, .int x3)] → w_X6_isAcceptedBy_15 o p0 P n x2 x3 M → W p l e (zRm 4 95 0 0) s m args below meth c H locs 0 0 (vx_MQ below (zQc X (zPz P)) (zXc X PX) args s 0 0 (zBase X)) (F0 m 15 ls []) := by
    intro n
    induction n with
    | zero => intro _ _ M H locs ls I hl hw; exact hw.elim
    | succ n ih =>
      intro x2 x3 M H locs ls I hl hw
      unfold w_X6_isAcceptedBy_15 at hw
      have hb_134 : ∀ (x3 : Int32) (y0 : Int32) (M : zM) (H : Heap) (locs : List Loc) (ls : Array Slot), zWk X s M H locs → lv_has ls 6 [(0, .ref o), (1, .int p0), (3, .int x3)] → w_X6_isAcceptedBy_134 o p0 P (w_X6_isAcceptedBy_15 o p0 P n) x3 y0 M → W p l e (zRm 4 95 0 0) s m args below meth c H locs 0 0 (vx_MQ below (zQc X (zPz P)) (zXc X PX) args s 0 0 (zBase X)) (F0 m 134 ls [.int y0]) := by
        intro x3 y0 M H locs ls I hl hw
        unfold w_X6_isAcceptedBy_134 at hw
        refine lv_istore_n (lv' := [(2, .int y0), (0, .ref o), (1, .int p0), (3, .int x3)]) hx hb dX6_isAcceptedBy_134 rfl hl (by decide) rfl (fun ls hl1 => ?_)
        refine lv_iinc (v := (x3 + (-1))) (lv' := [(3, .int (x3 + (-1))), (2, .int y0), (0, .ref o), (1, .int p0)]) hx hb dX6_isAcceptedBy_135 hl1 (k := 3) rfl (by rfl) (by decide) rfl (fun ls hl2 => ?_)
        refine lv_goto (tgt := 15) hx hb dX6_isAcceptedBy_138 (by decide) ?_
        refine W.widen (k := 0) (n := 0) (Nat.le_of_ble_eq_true rfl) (Nat.le_of_ble_eq_true rfl) ?_
        exact ih y0 (x3 + (-1)) _ _ _ ls I (lv_sub hl2 [2, 3, 1, 0] rfl) hw
      have hb_133 : ∀ (x3 : Int32) (M : zM) (H : Heap) (locs : List Loc) (ls : Array Slot), zWk X s M H locs → lv_has ls 6 [(0, .ref o), (1, .int p0), (3, .int x3)] → w_X6_isAcceptedBy_133 o p0 P (w_X6_isAcceptedBy_15 o p0 P n) x3 M → W p l e (zRm 4 95 0 0) s m args below meth c H locs 0 0 (vx_MQ below (zQc X (zPz P)) (zXc X PX) args s 0 0 (zBase X)) (F0 m 133 ls []) := by
        intro x3 M H locs ls I hl hw
        unfold w_X6_isAcceptedBy_133 at hw
        refine lv_iconst (v := 0) hx hb dX6_isAcceptedBy_133 (by decide) ?_
        refine W.widen (k := 0) (n := 0) (Nat.le_of_ble_eq_true rfl) (Nat.le_of_ble_eq_true rfl) ?_
        exact hb_134 x3 (0 : Int32) _ _ _ ls I (lv_sub hl [0, 1, 2] rfl) hw
      have hb_120 : ∀ (x2 : Int32) (x3 : Int32) (x4 : Int32) (M : zM) (H : Heap) (locs : List Loc) (ls : Array Slot), zWk X s M H locs → lv_has ls 6 [(0, .ref o), (1, .int p0), (2, .int x2), (3, .int x3), (4, .int x4)] → w_X6_isAcceptedBy_120 o p0 P (w_X6_isAcceptedBy_15 o p0 P n) x2 x3 x4 M → W p l e (zRm 4 95 0 0) s m args below meth c H locs 0 0 (vx_MQ below (zQc X (zPz P)) (zXc X PX) args s 0 0 (zBase X)) (F0 m 120 ls []) := by
        intro x2 x3 x4 M H locs ls I hl hw
        unfold w_X6_isAcceptedBy_120 at hw
        refine lv_iload_n hx hb dX6_isAcceptedBy_120 rfl (lv_at hl 2 rfl) ?_
        refine lv_if_eq (tgt := 133) hx hb dX6_isAcceptedBy_121 (by decide) (fun c => ?_) (fun c => ?_)
        · replace hw := hw.1 c
          refine W.widen (k := 0) (n := 0) (Nat.le_of_ble_eq_true rfl) (Nat.le_of_ble_eq_true rfl) ?_
          exact hb_133 x3 _ _ _ ls I (lv_sub hl [0, 1, 3] rfl) hw
        · replace hw := hw.2 c
          refine lv_iload hx hb dX6_isAcceptedBy_124 (lv_at hl 4 rfl) ?_
          refine lv_if_ne (tgt := 133) hx hb dX6_isAcceptedBy_126 (by decide) (fun c => ?_) (fun c => ?_)
          · replace hw := hw.1 c
            refine W.widen (k := 0) (n := 0) (Nat.le_of_ble_eq_true rfl) (Nat.le_of_ble_eq_true rfl) ?_
            exact hb_133 x3 _ _ _ ls I (lv_sub hl [0, 1, 3] rfl) hw
          · replace hw := hw.2 c
            refine lv_iconst (v := 1) hx hb dX6_isAcceptedBy_129 (by decide) ?_
            refine lv_goto (tgt := 134) hx hb dX6_isAcceptedBy_130 (by decide) ?_
            refine W.widen (k := 0) (n := 0) (Nat.le_of_ble_eq_true rfl) (Nat.le_of_ble_eq_true rfl) ?_
            exact hb_134 x3 (1 : Int32) _ _ _ ls I (lv_sub hl [0, 1, 3] rfl) hw
      have hb_92 : ∀ (x2 : Int32) (x3 : Int32) (x4 : Int32) (x5 : Int32) (M : zM) (H : Heap) (locs : List Loc) (ls : Array Slot), zWk X s M H locs → lv_has ls 6 [(0, .ref o), (1, .int p0), (2, .int x2), (3, .int x3), (4, .int x4), (5, .int x5)] → w_X6_isAcceptedBy_92 o p0 P (w_X6_isAcceptedBy_15 o p0 P n) x2 x3 x4 x5 M → W p l e (zRm 4 95 0 0) s m args below meth c H locs 0 0 (vx_MQ below (zQc X (zPz P)) (zXc X PX) args s 0 0 (zBase X)) (F0 m 92 ls []) := by
        intro x2 x3 x4 x5 M H locs ls I hl hw
        unfold w_X6_isAcceptedBy_92 at hw
        refine lv_aload_n hx hb dX6_isAcceptedBy_92 rfl (lv_at hl 0 rfl) ?_
        refine z_getr C I fl_X6_47 hw dX6_isAcceptedBy_93 (fun v3 hw => ?_)
        refine lv_iload_n hx hb dX6_isAcceptedBy_96 rfl (lv_at hl 1 rfl) ?_
        refine z_iald C I hw dX6_isAcceptedBy_97 (fun v4 hw => ?_)
        refine lv_iconst (v := 1) hx hb dX6_isAcceptedBy_98 (by decide) ?_
        refine lv_icmp_le (tgt := 120) hx hb dX6_isAcceptedBy_99 (by decide) (fun c => ?_) (fun c => ?_)
        · replace hw := hw.1 c
          refine W.widen (k := 0) (n := 0) (Nat.le_of_ble_eq_true rfl) (Nat.le_of_ble_eq_true rfl) ?_
          exact hb_120 x2 x3 x4 _ _ _ ls I (lv_sub hl [0, 1, 2, 3, 4] rfl) hw
        · replace hw := hw.2 c
          refine lv_aload_n hx hb dX6_isAcceptedBy_102 rfl (lv_at hl 0 rfl) ?_
          refine z_getr C I fl_X6_35 hw dX6_isAcceptedBy_103 (fun v5 hw => ?_)
          refine lv_bipush (v := 37) hx hb dX6_isAcceptedBy_106 (by decide) ?_
          refine lv_iload hx hb dX6_isAcceptedBy_108 (lv_at hl 5 rfl) ?_
          refine lv_imul hx hb dX6_isAcceptedBy_110 ?_
          refine lv_bipush (v := 36) hx hb dX6_isAcceptedBy_111 (by decide) ?_
          refine lv_iadd hx hb dX6_isAcceptedBy_113 ?_
          refine z_zald C I hw dX6_isAcceptedBy_114 (fun v6 hw => ?_)
          refine lv_if_ne (tgt := 120) hx hb dX6_isAcceptedBy_115 (by decide) (fun c => ?_) (fun c => ?_)
          · replace hw := hw.1 c
            refine W.widen (k := 0) (n := 0) (Nat.le_of_ble_eq_true rfl) (Nat.le_of_ble_eq_true rfl) ?_
            exact hb_120 x2 x3 x4 _ _ _ ls I (lv_sub hl [0, 1, 2, 3, 4] rfl) hw
          · replace hw := hw.2 c
            refine lv_iconst (v := 0) hx hb dX6_isAcceptedBy_118 (by decide) ?_
            exact z_zret C I hr (Or.inl rfl) ⟨_, rfl, (Or.inl rfl), hw⟩ (Nat.le_of_ble_eq_true rfl) (Nat.le_of_ble_eq_true rfl) dX6_isAcceptedBy_119
      have hb_46 : ∀ (x2 : Int32) (x3 : Int32) (y0 : Int32) (M : zM) (H : Heap) (locs : List Loc) (ls : Array Slot), zWk X s M H locs → lv_has ls 6 [(0, .ref o), (1, .int p0), (2, .int x2), (3, .int x3)] → w_X6_isAcceptedBy_46 o p0 P (w_X6_isAcceptedBy_15 o p0 P n) x2 x3 y0 M → W p l e (zRm 4 95 0 0) s m args below meth c H locs 0 0 (vx_MQ below (zQc X (zPz P)) (zXc X PX) args s 0 0 (zBase X)) (F0 m 46 ls [.int y0]) := by
        intro x2 x3 y0 M H locs ls I hl hw
        unfold w_X6_isAcceptedBy_46 at hw
        refine lv_istore (lv' := [(4, .int y0), (0, .ref o), (1, .int p0), (2, .int x2), (3, .int x3)]) hx hb dX6_isAcceptedBy_46 hl (by decide) rfl (fun ls hl7 => ?_)
        refine lv_aload_n hx hb dX6_isAcceptedBy_48 rfl (lv_at hl7 1 rfl) ?_
        refine z_getr C I fl_X6_38 hw dX6_isAcceptedBy_49 (fun v8 hw => ?_)
        refine lv_bipush (v := 6) hx hb dX6_isAcceptedBy_52 (by decide) ?_
        refine lv_iload_n hx hb dX6_isAcceptedBy_54 rfl (lv_at hl7 2 rfl) ?_
        refine lv_imul hx hb dX6_isAcceptedBy_55 ?_
        refine lv_iload_n hx hb dX6_isAcceptedBy_56 rfl (lv_at hl7 4 rfl) ?_
        refine lv_iadd hx hb dX6_isAcceptedBy_57 ?_
        refine z_iald C I hw dX6_isAcceptedBy_58 (fun v9 hw => ?_)
        refine lv_istore (lv' := [(5, .int v9), (4, .int y0), (0, .ref o), (1, .int p0), (2, .int x2), (3, .int x3)]) hx hb dX6_isAcceptedBy_59 hl7 (by decide) rfl (fun ls hl10 => ?_)
        refine lv_iload hx hb dX6_isAcceptedBy_61 (lv_at hl10 1 rfl) ?_
        refine lv_if_eq (tgt := 120) hx hb dX6_isAcceptedBy_63 (by decide) (fun c => ?_) (fun c => ?_)
        · replace hw := hw.1 c
          refine W.widen (k := 0) (n := 0) (Nat.le_of_ble_eq_true rfl) (Nat.le_of_ble_eq_true rfl) ?_
          exact hb_120 x2 x3 y0 _ _ _ ls I (lv_sub hl10 [2, 3, 4, 5, 1] rfl) hw
        · replace hw := hw.2 c
          refine lv_aload_n hx hb dX6_isAcceptedBy_66 rfl (lv_at hl10 2 rfl) ?_
          refine z_getr C I fl_X6_47 hw dX6_isAcceptedBy_67 (fun v11 hw => ?_)
          refine lv_iload_n hx hb dX6_isAcceptedBy_70 rfl (lv_at hl10 3 rfl) ?_
          refine z_iald C I hw dX6_isAcceptedBy_71 (fun v12 hw => ?_)
          refine lv_iconst (v := 2) hx hb dX6_isAcceptedBy_72 (by decide) ?_
          refine lv_irem hx hb dX6_isAcceptedBy_73 (by decide) ?_
          refine lv_iconst (v := 1) hx hb dX6_isAcceptedBy_74 (by decide) ?_
          refine lv_icmp_ne (tgt := 92) hx hb dX6_isAcceptedBy_75 (by decide) (fun c => ?_) (fun c => ?_)
          · replace hw := hw.1 c
            refine W.widen (k := 0) (n := 0) (Nat.le_of_ble_eq_true rfl) (Nat.le_of_ble_eq_true rfl) ?_
            exact hb_92 x2 x3 y0 v9 _ _ _ ls I (lv_sub hl10 [2, 3, 4, 5, 1, 0] rfl) hw
          · replace hw := hw.2 c
            refine lv_aload_n hx hb dX6_isAcceptedBy_78 rfl (lv_at hl10 2 rfl) ?_
            refine z_getr C I fl_X6_35 hw dX6_isAcceptedBy_79 (fun v13 hw => ?_)
            refine lv_sipush (v := 1332) hx hb dX6_isAcceptedBy_82 (by decide) ?_
            refine lv_iload hx hb dX6_isAcceptedBy_85 (lv_at hl10 0 rfl) ?_
            refine lv_iadd hx hb dX6_isAcceptedBy_87 ?_
            refine z_zald C I hw dX6_isAcceptedBy_88 (fun v14 hw => ?_)
            refine lv_if_eq (tgt := 118) hx hb dX6_isAcceptedBy_89 (by decide) (fun c => ?_) (fun c => ?_)
            · replace hw := hw.1 c
              refine lv_iconst (v := 0) hx hb dX6_isAcceptedBy_118 (by decide) ?_
              exact z_zret C I hr (Or.inl rfl) ⟨_, rfl, (Or.inl rfl), hw⟩ (Nat.le_of_ble_eq_true rfl) (Nat.le_of_ble_eq_true rfl) dX6_isAcceptedBy_119
            · replace hw := hw.2 c
              refine W.widen (k := 0) (n := 0) (Nat.le_of_ble_eq_true rfl) (Nat.le_of_ble_eq_true rfl) ?_
              exact hb_92 x2 x3 y0 v9 _ _ _ ls I (lv_sub hl10 [2, 3, 4, 5, 1, 0] rfl) hw
      have hb_45 : ∀ (x2 : Int32) (x3 : Int32) (M : zM) (H : Heap) (locs : List Loc) (ls : Array Slot), zWk X s M H locs → lv_has ls 6 [(0, .ref o), (1, .int p0), (2, .int x2), (3, .int x3)] → w_X6_isAcceptedBy_45 o p0 P (w_X6_isAcceptedBy_15 o p0 P n) x2 x3 M → W p l e (zRm 4 95 0 0) s m args below meth c H locs 0 0 (vx_MQ below (zQc X (zPz P)) (zXc X PX) args s 0 0 (zBase X)) (F0 m 45 ls []) := by
        intro x2 x3 M H locs ls I hl hw
        unfold w_X6_isAcceptedBy_45 at hw
        refine lv_iconst (v := 0) hx hb dX6_isAcceptedBy_45 (by decide) ?_
        refine W.widen (k := 0) (n := 0) (Nat.le_of_ble_eq_true rfl) (Nat.le_of_ble_eq_true rfl) ?_
        exact hb_46 x2 x3 (0 : Int32) _ _ _ ls I (lv_sub hl [0, 1, 2, 3] rfl) hw
      have hb_41 : ∀ (x2 : Int32) (x3 : Int32) (M : zM) (H : Heap) (locs : List Loc) (ls : Array Slot), zWk X s M H locs → lv_has ls 6 [(0, .ref o), (1, .int p0), (2, .int x2), (3, .int x3)] → w_X6_isAcceptedBy_41 o p0 P (w_X6_isAcceptedBy_15 o p0 P n) x2 x3 M → W p l e (zRm 4 95 0 0) s m args below meth c H locs 0 0 (vx_MQ below (zQc X (zPz P)) (zXc X PX) args s 0 0 (zBase X)) (F0 m 41 ls []) := by
        intro x2 x3 M H locs ls I hl hw
        unfold w_X6_isAcceptedBy_41 at hw
        refine lv_iconst (v := 1) hx hb dX6_isAcceptedBy_41 (by decide) ?_
        refine lv_goto (tgt := 46) hx hb dX6_isAcceptedBy_42 (by decide) ?_
        refine W.widen (k := 0) (n := 0) (Nat.le_of_ble_eq_true rfl) (Nat.le_of_ble_eq_true rfl) ?_
        exact hb_46 x2 x3 (1 : Int32) _ _ _ ls I (lv_sub hl [0, 1, 2, 3] rfl) hw
      refine lv_iload_n hx hb dX6_isAcceptedBy_15 rfl (lv_at hl 3 rfl) ?_
      refine lv_if_lt (tgt := 141) hx hb dX6_isAcceptedBy_16 (by decide) (fun c => ?_) (fun c => ?_)
      · replace hw := hw.1 c
        refine lv_iconst (v := 1) hx hb dX6_isAcceptedBy_141 (by decide) ?_
        exact z_zret C I hr (Or.inr rfl) ⟨_, rfl, (Or.inr rfl), hw⟩ (Nat.le_of_ble_eq_true rfl) (Nat.le_of_ble_eq_true rfl) dX6_isAcceptedBy_142
      · replace hw := hw.2 c
        refine lv_aload_n hx hb dX6_isAcceptedBy_19 rfl (lv_at hl 0 rfl) ?_
        refine lv_iload_n hx hb dX6_isAcceptedBy_20 rfl (lv_at hl 1 rfl) ?_
        refine lv_iload_n hx hb dX6_isAcceptedBy_21 rfl (lv_at hl 3 rfl) ?_
        obtain ⟨hrc, hw⟩ := hw
        refine z_callV C I (as := [.int p0, .int x3]) (rest := []) (m_X6_isThereAt E hw) kv_X6_87 vc_7 hrc rfl rfl hl.1 (Nat.le_of_ble_eq_true rfl) ⟨Nat.le_of_ble_eq_true rfl, Nat.le_of_ble_eq_true rfl⟩ ⟨Nat.le_of_ble_eq_true rfl, Nat.le_of_ble_eq_true rfl⟩ dX6_isAcceptedBy_22 (z_prop C htab (Nat.le_of_ble_eq_true rfl) (Nat.le_of_ble_eq_true rfl)) (fun v M15 _ _ I hv => ?_)
        obtain ⟨v16, rfl, hv16, hw⟩ := hv
        refine W.eq (g2 := F0 m 25 ls [.int v16]) rfl ?_
        refine lv_if_eq (tgt := 45) hx hb dX6_isAcceptedBy_25 (by decide) (fun c => ?_) (fun c => ?_)
        · replace hw := hw.1 c
          refine W.widen (k := 0) (n := 0) (Nat.le_of_ble_eq_true rfl) (Nat.le_of_ble_eq_true rfl) ?_
          exact hb_45 x2 x3 _ _ _ ls I (lv_sub hl [0, 1, 2, 3] rfl) hw
        · replace hw := hw.2 c
          refine lv_iload_n hx hb dX6_isAcceptedBy_28 rfl (lv_at hl 2 rfl) ?_
          refine lv_if_ne (tgt := 41) hx hb dX6_isAcceptedBy_29 (by decide) (fun c => ?_) (fun c => ?_)
          · replace hw := hw.1 c
            refine W.widen (k := 0) (n := 0) (Nat.le_of_ble_eq_true rfl) (Nat.le_of_ble_eq_true rfl) ?_
            exact hb_41 x2 x3 _ _ _ ls I (lv_sub hl [0, 1, 2, 3] rfl) hw
          · replace hw := hw.2 c
            refine lv_aload_n hx hb dX6_isAcceptedBy_32 rfl (lv_at hl 0 rfl) ?_
            refine z_getr C I fl_X6_50 hw dX6_isAcceptedBy_33 (fun v17 hw => ?_)
            refine lv_iload_n hx hb dX6_isAcceptedBy_36 rfl (lv_at hl 1 rfl) ?_
            refine z_zald C I hw dX6_isAcceptedBy_37 (fun v18 hw => ?_)
            refine lv_if_eq (tgt := 45) hx hb dX6_isAcceptedBy_38 (by decide) (fun c => ?_) (fun c => ?_)
            · replace hw := hw.1 c
              refine W.widen (k := 0) (n := 0) (Nat.le_of_ble_eq_true rfl) (Nat.le_of_ble_eq_true rfl) ?_
              exact hb_45 x2 x3 _ _ _ ls I (lv_sub hl [0, 1, 2, 3] rfl) hw
            · replace hw := hw.2 c
              refine W.widen (k := 0) (n := 0) (Nat.le_of_ble_eq_true rfl) (Nat.le_of_ble_eq_true rfl) ?_
              exact hb_41 x2 x3 _ _ _ ls I (lv_sub hl [0, 1, 2, 3] rfl) hw
  refine lv_aload_n hx hb dX6_isAcceptedBy_0 rfl (lv_at hl 0 rfl) ?_
  obtain ⟨hrc, hw⟩ := hw
  refine z_callV C I (as := []) (rest := []) (m_X6_tells E hw) kv_X6_124 vc_7 hrc rfl rfl hl.1 (Nat.le_of_ble_eq_true rfl) ⟨Nat.le_of_ble_eq_true rfl, Nat.le_of_ble_eq_true rfl⟩ ⟨Nat.le_of_ble_eq_true rfl, Nat.le_of_ble_eq_true rfl⟩ dX6_isAcceptedBy_1 (z_prop C htab (Nat.le_of_ble_eq_true rfl) (Nat.le_of_ble_eq_true rfl)) (fun v M19 _ _ I hv => ?_)
  obtain ⟨rfl, hw⟩ := hv
  refine W.eq (g2 := F0 m 4 ls []) rfl ?_
  refine lv_iconst (v := 1) hx hb dX6_isAcceptedBy_4 (by decide) ?_
  refine lv_istore_n (lv' := [(2, .int (1 : Int32)), (0, .ref o), (1, .int p0)]) hx hb dX6_isAcceptedBy_5 rfl hl (by decide) rfl (fun ls hl20 => ?_)
  refine lv_aload_n hx hb dX6_isAcceptedBy_6 rfl (lv_at hl20 1 rfl) ?_
  refine z_getr C I fl_X6_44 hw dX6_isAcceptedBy_7 (fun v21 hw => ?_)
  refine lv_iload_n hx hb dX6_isAcceptedBy_10 rfl (lv_at hl20 2 rfl) ?_
  refine z_iald C I hw dX6_isAcceptedBy_11 (fun v22 hw => ?_)
  refine lv_iconst (v := 1) hx hb dX6_isAcceptedBy_12 (by decide) ?_
  refine lv_isub hx hb dX6_isAcceptedBy_13 ?_
  refine lv_istore_n (lv' := [(3, .int (v22 - (1 : Int32))), (2, .int (1 : Int32)), (0, .ref o), (1, .int p0)]) hx hb dX6_isAcceptedBy_14 rfl hl20 (by decide) rfl (fun ls hl23 => ?_)
  obtain ⟨nn, hw⟩ := hw
  refine W.widen (k := 0) (n := 0) (Nat.le_of_ble_eq_true rfl) (Nat.le_of_ble_eq_true rfl) ?_
  exact hb_15 nn (1 : Int32) (v22 - (1 : Int32)) _ _ _ ls I (lv_sub hl23 [2, 3, 1, 0] rfl) hw
set_option maxHeartbeats 4000000 in
set_option maxRecDepth 100000 in
theorem m_X6_isAccepted {X : zX} {l : Launch} (E : zEnv X l) {M : zM} {o : Nat} {p0 : Int32} {P : Int32 → zM → Prop} {PX : Nat → zM → Prop} (hw : w_X6_isAccepted o p0 M P) : zCT X l yX6_isAccepted cX6_isAccepted 2 (some .boolean) 5 120 0 0 M [.ref o, .int p0] (zPz P) PX := by
  refine z_entry E (by decide) ?_
  intro p e s m args below meth c C hr htab I
  have hx := C.1.1
  have hb := C.1.2.1
  obtain ⟨ls, he, hl⟩ := z_enter (m := m) (n := 2) (vs := [.ref o, .int p0]) (l := [(0, .ref o), (1, .int p0)]) (Nat.le_of_ble_eq_true rfl) rfl
  rw [he]
  clear he
  unfold w_X6_isAccepted at hw
  have hb_27 : ∀ (y0 : Int32) (y1 : Nat) (M : zM) (H : Heap) (locs : List Loc) (ls : Array Slot), zWk X s M H locs → lv_has ls 2 [(0, .ref o), (1, .int p0)] → w_X6_isAccepted_27 o p0 P y0 y1 M → W p l e (zRm 5 120 0 0) s m args below meth c H locs 0 0 (vx_MQ below (zQc X (zPz P)) (zXc X PX) args s 0 0 (zBase X)) (F0 m 27 ls [.int y0, .ref y1]) := by
    intro y0 y1 M H locs ls I hl hw
    unfold w_X6_isAccepted_27 at hw
    obtain ⟨hrc, hw⟩ := hw
    refine z_callV C I (as := [.int y0]) (rest := []) (m_X6_holds E hw) kv_X6_102 vc_7 hrc rfl rfl hl.1 (Nat.le_of_ble_eq_true rfl) ⟨Nat.le_of_ble_eq_true rfl, Nat.le_of_ble_eq_true rfl⟩ ⟨Nat.le_of_ble_eq_true rfl, Nat.le_of_ble_eq_true rfl⟩ dX6_isAccepted_27 (z_prop C htab (Nat.le_of_ble_eq_true rfl) (Nat.le_of_ble_eq_true rfl)) (fun v M1 _ _ I hv => ?_)
    obtain ⟨v2, rfl, hv2, hw⟩ := hv
    refine W.eq (g2 := F0 m 30 ls [.int v2]) rfl ?_
    refine lv_if_eq (tgt := 45) hx hb dX6_isAccepted_30 (by decide) (fun c => ?_) (fun c => ?_)
    · replace hw := hw.1 c
      refine lv_iconst (v := 0) hx hb dX6_isAccepted_45 (by decide) ?_
      exact z_zret C I hr (Or.inl rfl) ⟨_, rfl, (Or.inl rfl), hw⟩ (Nat.le_of_ble_eq_true rfl) (Nat.le_of_ble_eq_true rfl) dX6_isAccepted_46
    · replace hw := hw.2 c
      refine lv_aload_n hx hb dX6_isAccepted_33 rfl (lv_at hl 0 rfl) ?_
      refine lv_iload_n hx hb dX6_isAccepted_34 rfl (lv_at hl 1 rfl) ?_
      obtain ⟨hrc, hw⟩ := hw
      refine z_callV C I (as := [.int p0]) (rest := []) (m_X6_isAcceptedBy E hw) kv_X6_130 vc_7 hrc rfl rfl hl.1 (Nat.le_of_ble_eq_true rfl) ⟨Nat.le_of_ble_eq_true rfl, Nat.le_of_ble_eq_true rfl⟩ ⟨Nat.le_of_ble_eq_true rfl, Nat.le_of_ble_eq_true rfl⟩ dX6_isAccepted_35 (z_prop C htab (Nat.le_of_ble_eq_true rfl) (Nat.le_of_ble_eq_true rfl)) (fun v M3 _ _ I hv => ?_)
      obtain ⟨v4, rfl, hv4, hw⟩ := hv
      refine W.eq (g2 := F0 m 38 ls [.int v4]) rfl ?_
      refine lv_if_eq (tgt := 45) hx hb dX6_isAccepted_38 (by decide) (fun c => ?_) (fun c => ?_)
      · replace hw := hw.1 c
        refine lv_iconst (v := 0) hx hb dX6_isAccepted_45 (by decide) ?_
        exact z_zret C I hr (Or.inl rfl) ⟨_, rfl, (Or.inl rfl), hw⟩ (Nat.le_of_ble_eq_true rfl) (Nat.le_of_ble_eq_true rfl) dX6_isAccepted_46
      · replace hw := hw.2 c
        refine lv_iconst (v := 1) hx hb dX6_isAccepted_41 (by decide) ?_
        refine lv_goto (tgt := 46) hx hb dX6_isAccepted_42 (by decide) ?_
        exact z_zret C I hr (Or.inr rfl) ⟨_, rfl, (Or.inr rfl), hw⟩ (Nat.le_of_ble_eq_true rfl) (Nat.le_of_ble_eq_true rfl) dX6_isAccepted_46
  refine lv_aload_n hx hb dX6_isAccepted_0 rfl (lv_at hl 0 rfl) ?_
  refine lv_iload_n hx hb dX6_isAccepted_1 rfl (lv_at hl 1 rfl) ?_
  refine z_callS C I (as := [.int p0]) (rest := [.ref o]) (m_X6_isSubject E hw) ks_X6_127 rfl rfl hl.1 (Nat.le_of_ble_eq_true rfl) ⟨Nat.le_of_ble_eq_true rfl, Nat.le_of_ble_eq_true rfl⟩ ⟨Nat.le_of_ble_eq_true rfl, Nat.le_of_ble_eq_true rfl⟩ dX6_isAccepted_2 (z_prop C htab (Nat.le_of_ble_eq_true rfl) (Nat.le_of_ble_eq_true rfl)) (fun v M5 _ _ I hv => ?_)
  obtain ⟨v6, rfl, hv6, hw⟩ := hv
  refine W.eq (g2 := F0 m 5 ls [.int v6, .ref o]) rfl ?_
  refine lv_if_ne (tgt := 12) hx hb dX6_isAccepted_5 (by decide) (fun c => ?_) (fun c => ?_)
  · replace hw := hw.1 c
    refine lv_aload_n hx hb dX6_isAccepted_12 rfl (lv_at hl 0 rfl) ?_
    refine z_getr C I fl_X6_29 hw dX6_isAccepted_13 (fun v7 hw => ?_)
    refine lv_bipush (v := 36) hx hb dX6_isAccepted_16 (by decide) ?_
    refine z_iald C I hw dX6_isAccepted_18 (fun v8 hw => ?_)
    refine lv_if_ne (tgt := 26) hx hb dX6_isAccepted_19 (by decide) (fun c => ?_) (fun c => ?_)
    · replace hw := hw.1 c
      refine lv_iconst (v := 0) hx hb dX6_isAccepted_26 (by decide) ?_
      refine W.widen (k := 0) (n := 0) (Nat.le_of_ble_eq_true rfl) (Nat.le_of_ble_eq_true rfl) ?_
      exact hb_27 (0 : Int32) o _ _ _ ls I (lv_sub hl [0, 1] rfl) hw
    · replace hw := hw.2 c
      refine lv_iconst (v := 2) hx hb dX6_isAccepted_22 (by decide) ?_
      refine lv_goto (tgt := 27) hx hb dX6_isAccepted_23 (by decide) ?_
      refine W.widen (k := 0) (n := 0) (Nat.le_of_ble_eq_true rfl) (Nat.le_of_ble_eq_true rfl) ?_
      exact hb_27 (2 : Int32) o _ _ _ ls I (lv_sub hl [0, 1] rfl) hw
  · replace hw := hw.2 c
    refine lv_iconst (v := 1) hx hb dX6_isAccepted_8 (by decide) ?_
    refine lv_goto (tgt := 27) hx hb dX6_isAccepted_9 (by decide) ?_
    refine W.widen (k := 0) (n := 0) (Nat.le_of_ble_eq_true rfl) (Nat.le_of_ble_eq_true rfl) ?_
    exact hb_27 (1 : Int32) o _ _ _ ls I (lv_sub hl [0, 1] rfl) hw
set_option maxHeartbeats 4000000 in
set_option maxRecDepth 100000 in
theorem m_X6_likeVersion {X : zX} {l : Launch} (E : zEnv X l) {M : zM} {o : Nat} {p0 : Int32} {P : Int32 → zM → Prop} {PX : Nat → zM → Prop} (hw : w_X6_likeVersion o p0 M P) : zCT X l yX6_likeVersion cX6_likeVersion 3 (some .int) 3 66 0 0 M [.ref o, .int p0] (zPi P) PX := by
  refine z_entry E (by decide) ?_
  intro p e s m args below meth c C hr htab I
  have hx := C.1.1
  have hb := C.1.2.1
  obtain ⟨ls, he, hl⟩ := z_enter (m := m) (n := 3) (vs := [.ref o, .int p0]) (l := [(0, .ref o), (1, .int p0)]) (Nat.le_of_ble_eq_true rfl) rfl
  rw [he]
  clear he
  unfold w_X6_likeVersion at hw
  have hb_2 : ∀ (n : Nat) (x2 : Int32) (M : zM) (H : Heap) (locs : List Loc) (ls : Array Slot), zWk X s M H locs → lv_has ls 3 [(0, .ref o), (1, .int p0), (2, .int x2)] → w_X6_likeVersion_2 o p0 P n x2 M → W p l e (zRm 3 66 0 0) s m args below meth c H locs 0 0 (vx_MQ below (zQc X (zPi P)) (zXc X PX) args s 0 0 (zBase X)) (F0 m 2 ls []) := by
    intro n
    induction n with
    | zero => intro _ M H locs ls I hl hw; exact hw.elim
    | succ n ih =>
      intro x2 M H locs ls I hl hw
      unfold w_X6_likeVersion_2 at hw
      have hb_41 : ∀ (x2 : Int32) (M : zM) (H : Heap) (locs : List Loc) (ls : Array Slot), zWk X s M H locs → lv_has ls 3 [(0, .ref o), (1, .int p0), (2, .int x2)] → w_X6_likeVersion_41 o p0 P (w_X6_likeVersion_2 o p0 P n) x2 M → W p l e (zRm 3 66 0 0) s m args below meth c H locs 0 0 (vx_MQ below (zQc X (zPi P)) (zXc X PX) args s 0 0 (zBase X)) (F0 m 41 ls []) := by
        intro x2 M H locs ls I hl hw
        unfold w_X6_likeVersion_41 at hw
        refine lv_iinc (v := (x2 + 1)) (lv' := [(2, .int (x2 + 1)), (0, .ref o), (1, .int p0)]) hx hb dX6_likeVersion_41 hl (k := 2) rfl (by rfl) (by decide) rfl (fun ls hl1 => ?_)
        refine lv_goto (tgt := 2) hx hb dX6_likeVersion_44 (by decide) ?_
        refine W.widen (k := 0) (n := 0) (Nat.le_of_ble_eq_true rfl) (Nat.le_of_ble_eq_true rfl) ?_
        exact ih (x2 + 1) _ _ _ ls I (lv_sub hl1 [1, 2, 0] rfl) hw
      refine lv_iload_n hx hb dX6_likeVersion_2 rfl (lv_at hl 2 rfl) ?_
      refine lv_aload_n hx hb dX6_likeVersion_3 rfl (lv_at hl 0 rfl) ?_
      refine z_getr C I fl_X6_44 hw dX6_likeVersion_4 (fun v2 hw => ?_)
      refine lv_iload_n hx hb dX6_likeVersion_7 rfl (lv_at hl 1 rfl) ?_
      refine z_iald C I hw dX6_likeVersion_8 (fun v3 hw => ?_)
      refine lv_icmp_ge (tgt := 47) hx hb dX6_likeVersion_9 (by decide) (fun c => ?_) (fun c => ?_)
      · replace hw := hw.1 c
        refine lv_iconst (v := -1) hx hb dX6_likeVersion_47 (by decide) ?_
        exact z_iret C I hr ⟨_, rfl, hw⟩ (Nat.le_of_ble_eq_true rfl) (Nat.le_of_ble_eq_true rfl) dX6_likeVersion_48
      · replace hw := hw.2 c
        refine lv_aload_n hx hb dX6_likeVersion_12 rfl (lv_at hl 0 rfl) ?_
        refine lv_iload_n hx hb dX6_likeVersion_13 rfl (lv_at hl 1 rfl) ?_
        refine lv_iload_n hx hb dX6_likeVersion_14 rfl (lv_at hl 2 rfl) ?_
        obtain ⟨hrc, hw⟩ := hw
        refine z_callV C I (as := [.int p0, .int x2]) (rest := []) (m_X6_isThereAt E hw) kv_X6_87 vc_7 hrc rfl rfl hl.1 (Nat.le_of_ble_eq_true rfl) ⟨Nat.le_of_ble_eq_true rfl, Nat.le_of_ble_eq_true rfl⟩ ⟨Nat.le_of_ble_eq_true rfl, Nat.le_of_ble_eq_true rfl⟩ dX6_likeVersion_15 (z_prop C htab (Nat.le_of_ble_eq_true rfl) (Nat.le_of_ble_eq_true rfl)) (fun v M4 _ _ I hv => ?_)
        obtain ⟨v5, rfl, hv5, hw⟩ := hv
        refine W.eq (g2 := F0 m 18 ls [.int v5]) rfl ?_
        refine lv_if_eq (tgt := 41) hx hb dX6_likeVersion_18 (by decide) (fun c => ?_) (fun c => ?_)
        · replace hw := hw.1 c
          refine W.widen (k := 0) (n := 0) (Nat.le_of_ble_eq_true rfl) (Nat.le_of_ble_eq_true rfl) ?_
          exact hb_41 x2 _ _ _ ls I (lv_sub hl [0, 1, 2] rfl) hw
        · replace hw := hw.2 c
          refine lv_aload_n hx hb dX6_likeVersion_21 rfl (lv_at hl 0 rfl) ?_
          refine lv_aload_n hx hb dX6_likeVersion_22 rfl (lv_at hl 0 rfl) ?_
          refine z_getr C I fl_X6_38 hw dX6_likeVersion_23 (fun v6 hw => ?_)
          refine lv_bipush (v := 6) hx hb dX6_likeVersion_26 (by decide) ?_
          refine lv_iload_n hx hb dX6_likeVersion_28 rfl (lv_at hl 1 rfl) ?_
          refine lv_imul hx hb dX6_likeVersion_29 ?_
          refine lv_iload_n hx hb dX6_likeVersion_30 rfl (lv_at hl 2 rfl) ?_
          refine lv_iadd hx hb dX6_likeVersion_31 ?_
          refine z_iald C I hw dX6_likeVersion_32 (fun v7 hw => ?_)
          obtain ⟨hrc, hw⟩ := hw
          refine z_callV C I (as := [.int v7]) (rest := []) (m_X6_isLike E hw) kv_X6_133 vc_7 hrc rfl rfl hl.1 (Nat.le_of_ble_eq_true rfl) ⟨Nat.le_of_ble_eq_true rfl, Nat.le_of_ble_eq_true rfl⟩ ⟨Nat.le_of_ble_eq_true rfl, Nat.le_of_ble_eq_true rfl⟩ dX6_likeVersion_33 (z_prop C htab (Nat.le_of_ble_eq_true rfl) (Nat.le_of_ble_eq_true rfl)) (fun v M8 _ _ I hv => ?_)
          obtain ⟨v9, rfl, hv9, hw⟩ := hv
          refine W.eq (g2 := F0 m 36 ls [.int v9]) rfl ?_
          refine lv_if_eq (tgt := 41) hx hb dX6_likeVersion_36 (by decide) (fun c => ?_) (fun c => ?_)
          · replace hw := hw.1 c
            refine W.widen (k := 0) (n := 0) (Nat.le_of_ble_eq_true rfl) (Nat.le_of_ble_eq_true rfl) ?_
            exact hb_41 x2 _ _ _ ls I (lv_sub hl [0, 1, 2] rfl) hw
          · replace hw := hw.2 c
            refine lv_iload_n hx hb dX6_likeVersion_39 rfl (lv_at hl 2 rfl) ?_
            exact z_iret C I hr ⟨_, rfl, hw⟩ (Nat.le_of_ble_eq_true rfl) (Nat.le_of_ble_eq_true rfl) dX6_likeVersion_40
  refine lv_iconst (v := 0) hx hb dX6_likeVersion_0 (by decide) ?_
  refine lv_istore_n (lv' := [(2, .int (0 : Int32)), (0, .ref o), (1, .int p0)]) hx hb dX6_likeVersion_1 rfl hl (by decide) rfl (fun ls hl10 => ?_)
  obtain ⟨nn, hw⟩ := hw
  refine W.widen (k := 0) (n := 0) (Nat.le_of_ble_eq_true rfl) (Nat.le_of_ble_eq_true rfl) ?_
  exact hb_2 nn (0 : Int32) _ _ _ ls I (lv_sub hl10 [1, 2, 0] rfl) hw
set_option maxHeartbeats 4000000 in
set_option maxRecDepth 100000 in
theorem m_X6_numbered {X : zX} {l : Launch} (E : zEnv X l) {M : zM} {o : Nat} {P : Int32 → zM → Prop} {PX : Nat → zM → Prop} (hw : w_X6_numbered o M P) : zCT X l yX6_numbered cX6_numbered 4 (some .int) 1 25 0 0 M [.ref o] (zPi P) PX := by
  refine z_entry E (by decide) ?_
  intro p e s m args below meth c C hr htab I
  have hx := C.1.1
  have hb := C.1.2.1
  obtain ⟨ls, he, hl⟩ := z_enter (m := m) (n := 4) (vs := [.ref o]) (l := [(0, .ref o)]) (Nat.le_of_ble_eq_true rfl) rfl
  rw [he]
  clear he
  unfold w_X6_numbered at hw
  have hb_28 : ∀ (n : Nat) (x1 : Int32) (M : zM) (H : Heap) (locs : List Loc) (ls : Array Slot), zWk X s M H locs → lv_has ls 4 [(0, .ref o), (1, .int x1)] → w_X6_numbered_28 o P n x1 M → W p l e (zRm 1 25 0 0) s m args below meth c H locs 0 0 (vx_MQ below (zQc X (zPi P)) (zXc X PX) args s 0 0 (zBase X)) (F0 m 28 ls []) := by
    intro n
    induction n with
    | zero => intro _ M H locs ls I hl hw; exact hw.elim
    | succ n ih =>
      intro x1 M H locs ls I hl hw
      unfold w_X6_numbered_28 at hw
      refine lv_iload_n hx hb dX6_numbered_28 rfl (lv_at hl 1 rfl) ?_
      refine lv_iconst (v := 5) hx hb dX6_numbered_29 (by decide) ?_
      refine lv_icmp_ge (tgt := 126) hx hb dX6_numbered_30 (by decide) (fun c => ?_) (fun c => ?_)
      · replace hw := hw.1 c
        refine lv_aload_n hx hb dX6_numbered_126 rfl (lv_at hl 0 rfl) ?_
        refine z_getr C I fl_X6_29 hw dX6_numbered_127 (fun v1 hw => ?_)
        refine lv_aload_n hx hb dX6_numbered_130 rfl (lv_at hl 0 rfl) ?_
        refine z_geti C I fl_X6_118 hw dX6_numbered_131 (fun v2 hw => ?_)
        refine lv_aload_n hx hb dX6_numbered_134 rfl (lv_at hl 0 rfl) ?_
        refine z_getr C I fl_X6_29 hw dX6_numbered_135 (fun v3 hw => ?_)
        refine lv_bipush (v := 36) hx hb dX6_numbered_138 (by decide) ?_
        refine z_iald C I hw dX6_numbered_140 (fun v4 hw => ?_)
        refine z_iast C I hw dX6_numbered_141 (fun M5 _ _ I hw => ?_)
        refine lv_aload_n hx hb dX6_numbered_142 rfl (lv_at hl 0 rfl) ?_
        refine z_getr C I fl_X6_32 hw dX6_numbered_143 (fun v6 hw => ?_)
        refine lv_aload_n hx hb dX6_numbered_146 rfl (lv_at hl 0 rfl) ?_
        refine z_geti C I fl_X6_118 hw dX6_numbered_147 (fun v7 hw => ?_)
        refine lv_aload_n hx hb dX6_numbered_150 rfl (lv_at hl 0 rfl) ?_
        refine z_getr C I fl_X6_32 hw dX6_numbered_151 (fun v8 hw => ?_)
        refine lv_bipush (v := 36) hx hb dX6_numbered_154 (by decide) ?_
        refine z_iald C I hw dX6_numbered_156 (fun v9 hw => ?_)
        refine z_iast C I hw dX6_numbered_157 (fun M10 _ _ I hw => ?_)
        refine lv_aload_n hx hb dX6_numbered_158 rfl (lv_at hl 0 rfl) ?_
        refine lv_dup hx hb dX6_numbered_159 rfl ?_
        refine z_geti C I fl_X6_118 hw dX6_numbered_160 (fun v11 hw => ?_)
        refine lv_iconst (v := 1) hx hb dX6_numbered_163 (by decide) ?_
        refine lv_iadd hx hb dX6_numbered_164 ?_
        refine z_put C I fl_X6_118 rfl (v := .int (v11 + (1 : Int32))) rfl rfl hw dX6_numbered_165 (fun M12 _ _ I hw => ?_)
        refine lv_aload_n hx hb dX6_numbered_168 rfl (lv_at hl 0 rfl) ?_
        refine z_geti C I fl_X6_118 hw dX6_numbered_169 (fun v13 hw => ?_)
        refine lv_iconst (v := 1) hx hb dX6_numbered_172 (by decide) ?_
        refine lv_isub hx hb dX6_numbered_173 ?_
        exact z_iret C I hr ⟨_, rfl, hw⟩ (Nat.le_of_ble_eq_true rfl) (Nat.le_of_ble_eq_true rfl) dX6_numbered_174
      · replace hw := hw.2 c
        refine lv_iconst (v := 5) hx hb dX6_numbered_33 (by decide) ?_
        refine lv_aload_n hx hb dX6_numbered_34 rfl (lv_at hl 0 rfl) ?_
        refine z_geti C I fl_X6_118 hw dX6_numbered_35 (fun v14 hw => ?_)
        refine lv_imul hx hb dX6_numbered_38 ?_
        refine lv_iload_n hx hb dX6_numbered_39 rfl (lv_at hl 1 rfl) ?_
        refine lv_iadd hx hb dX6_numbered_40 ?_
        refine lv_istore_n (lv' := [(2, .int (((5 : Int32) * v14) + x1)), (0, .ref o), (1, .int x1)]) hx hb dX6_numbered_41 rfl hl (by decide) rfl (fun ls hl15 => ?_)
        refine lv_sipush (v := 180) hx hb dX6_numbered_42 (by decide) ?_
        refine lv_iload_n hx hb dX6_numbered_45 rfl (lv_at hl15 2 rfl) ?_
        refine lv_iadd hx hb dX6_numbered_46 ?_
        refine lv_istore_n (lv' := [(3, .int ((180 : Int32) + x1)), (2, .int (((5 : Int32) * v14) + x1)), (0, .ref o), (1, .int x1)]) hx hb dX6_numbered_47 rfl hl15 (by decide) rfl (fun ls hl16 => ?_)
        refine lv_aload_n hx hb dX6_numbered_48 rfl (lv_at hl16 2 rfl) ?_
        refine z_getr C I fl_X6_7 hw dX6_numbered_49 (fun v17 hw => ?_)
        refine lv_iload_n hx hb dX6_numbered_52 rfl (lv_at hl16 1 rfl) ?_
        refine lv_aload_n hx hb dX6_numbered_53 rfl (lv_at hl16 2 rfl) ?_
        refine z_getr C I fl_X6_7 hw dX6_numbered_54 (fun v18 hw => ?_)
        refine lv_iload_n hx hb dX6_numbered_57 rfl (lv_at hl16 0 rfl) ?_
        refine z_iald C I hw dX6_numbered_58 (fun v19 hw => ?_)
        refine z_iast C I hw dX6_numbered_59 (fun M20 _ _ I hw => ?_)
        refine lv_aload_n hx hb dX6_numbered_60 rfl (lv_at hl16 2 rfl) ?_
        refine z_getr C I fl_X6_13 hw dX6_numbered_61 (fun v21 hw => ?_)
        refine lv_iload_n hx hb dX6_numbered_64 rfl (lv_at hl16 1 rfl) ?_
        refine lv_aload_n hx hb dX6_numbered_65 rfl (lv_at hl16 2 rfl) ?_
        refine z_getr C I fl_X6_13 hw dX6_numbered_66 (fun v22 hw => ?_)
        refine lv_iload_n hx hb dX6_numbered_69 rfl (lv_at hl16 0 rfl) ?_
        refine z_iald C I hw dX6_numbered_70 (fun v23 hw => ?_)
        refine z_iast C I hw dX6_numbered_71 (fun M24 _ _ I hw => ?_)
        refine lv_aload_n hx hb dX6_numbered_72 rfl (lv_at hl16 2 rfl) ?_
        refine z_getr C I fl_X6_16 hw dX6_numbered_73 (fun v25 hw => ?_)
        refine lv_iload_n hx hb dX6_numbered_76 rfl (lv_at hl16 1 rfl) ?_
        refine lv_aload_n hx hb dX6_numbered_77 rfl (lv_at hl16 2 rfl) ?_
        refine z_getr C I fl_X6_16 hw dX6_numbered_78 (fun v26 hw => ?_)
        refine lv_iload_n hx hb dX6_numbered_81 rfl (lv_at hl16 0 rfl) ?_
        refine z_iald C I hw dX6_numbered_82 (fun v27 hw => ?_)
        refine z_iast C I hw dX6_numbered_83 (fun M28 _ _ I hw => ?_)
        refine lv_aload_n hx hb dX6_numbered_84 rfl (lv_at hl16 2 rfl) ?_
        refine z_getr C I fl_X6_19 hw dX6_numbered_85 (fun v29 hw => ?_)
        refine lv_iload_n hx hb dX6_numbered_88 rfl (lv_at hl16 1 rfl) ?_
        refine lv_aload_n hx hb dX6_numbered_89 rfl (lv_at hl16 2 rfl) ?_
        refine z_getr C I fl_X6_19 hw dX6_numbered_90 (fun v30 hw => ?_)
        refine lv_iload_n hx hb dX6_numbered_93 rfl (lv_at hl16 0 rfl) ?_
        refine z_iald C I hw dX6_numbered_94 (fun v31 hw => ?_)
        refine z_iast C I hw dX6_numbered_95 (fun M32 _ _ I hw => ?_)
        refine lv_aload_n hx hb dX6_numbered_96 rfl (lv_at hl16 2 rfl) ?_
        refine z_getr C I fl_X6_22 hw dX6_numbered_97 (fun v33 hw => ?_)
        refine lv_iload_n hx hb dX6_numbered_100 rfl (lv_at hl16 1 rfl) ?_
        refine lv_aload_n hx hb dX6_numbered_101 rfl (lv_at hl16 2 rfl) ?_
        refine z_getr C I fl_X6_22 hw dX6_numbered_102 (fun v34 hw => ?_)
        refine lv_iload_n hx hb dX6_numbered_105 rfl (lv_at hl16 0 rfl) ?_
        refine z_zald C I hw dX6_numbered_106 (fun v35 hw => ?_)
        refine z_zast C I hw dX6_numbered_107 (fun M36 _ _ I hw => ?_)
        refine lv_aload_n hx hb dX6_numbered_108 rfl (lv_at hl16 2 rfl) ?_
        refine z_getr C I fl_X6_26 hw dX6_numbered_109 (fun v37 hw => ?_)
        refine lv_iload_n hx hb dX6_numbered_112 rfl (lv_at hl16 1 rfl) ?_
        refine lv_aload_n hx hb dX6_numbered_113 rfl (lv_at hl16 2 rfl) ?_
        refine z_getr C I fl_X6_26 hw dX6_numbered_114 (fun v38 hw => ?_)
        refine lv_iload_n hx hb dX6_numbered_117 rfl (lv_at hl16 0 rfl) ?_
        refine z_iald C I hw dX6_numbered_118 (fun v39 hw => ?_)
        refine z_iast C I hw dX6_numbered_119 (fun M40 _ _ I hw => ?_)
        refine lv_iinc (v := (x1 + 1)) (lv' := [(1, .int (x1 + 1)), (3, .int ((180 : Int32) + x1)), (2, .int (((5 : Int32) * v14) + x1)), (0, .ref o)]) hx hb dX6_numbered_120 hl16 (k := 3) rfl (by rfl) (by decide) rfl (fun ls hl41 => ?_)
        refine lv_goto (tgt := 28) hx hb dX6_numbered_123 (by decide) ?_
        refine W.widen (k := 0) (n := 0) (Nat.le_of_ble_eq_true rfl) (Nat.le_of_ble_eq_true rfl) ?_
        exact ih (x1 + 1) _ _ _ ls I (lv_sub hl41 [3, 0] rfl) hw
  have hb_2 : ∀ (n : Nat) (x1 : Int32) (M : zM) (H : Heap) (locs : List Loc) (ls : Array Slot), zWk X s M H locs → lv_has ls 4 [(0, .ref o), (1, .int x1)] → w_X6_numbered_2 o P n x1 M → W p l e (zRm 1 25 0 0) s m args below meth c H locs 0 0 (vx_MQ below (zQc X (zPi P)) (zXc X PX) args s 0 0 (zBase X)) (F0 m 2 ls []) := by
    intro n
    induction n with
    | zero => intro _ M H locs ls I hl hw; exact hw.elim
    | succ n ih =>
      intro x1 M H locs ls I hl hw
      unfold w_X6_numbered_2 at hw
      refine lv_iload_n hx hb dX6_numbered_2 rfl (lv_at hl 1 rfl) ?_
      refine lv_aload_n hx hb dX6_numbered_3 rfl (lv_at hl 0 rfl) ?_
      refine z_geti C I fl_X6_118 hw dX6_numbered_4 (fun v42 hw => ?_)
      refine lv_icmp_ge (tgt := 26) hx hb dX6_numbered_7 (by decide) (fun c => ?_) (fun c => ?_)
      · replace hw := hw.1 c
        refine lv_iconst (v := 0) hx hb dX6_numbered_26 (by decide) ?_
        refine lv_istore_n (lv' := [(1, .int (0 : Int32)), (0, .ref o)]) hx hb dX6_numbered_27 rfl hl (by decide) rfl (fun ls hl43 => ?_)
        obtain ⟨nn, hw⟩ := hw
        refine W.widen (k := 0) (n := 0) (Nat.le_of_ble_eq_true rfl) (Nat.le_of_ble_eq_true rfl) ?_
        exact hb_28 nn (0 : Int32) _ _ _ ls I (lv_sub hl43 [1, 0] rfl) hw
      · replace hw := hw.2 c
        refine lv_aload_n hx hb dX6_numbered_10 rfl (lv_at hl 0 rfl) ?_
        refine lv_iload_n hx hb dX6_numbered_11 rfl (lv_at hl 1 rfl) ?_
        obtain ⟨hrc, hw⟩ := hw
        refine z_callV C I (as := [.int x1]) (rest := []) (m_X6_isLike E hw) kv_X6_133 vc_7 hrc rfl rfl hl.1 (Nat.le_of_ble_eq_true rfl) ⟨Nat.le_of_ble_eq_true rfl, Nat.le_of_ble_eq_true rfl⟩ ⟨Nat.le_of_ble_eq_true rfl, Nat.le_of_ble_eq_true rfl⟩ dX6_numbered_12 (z_prop C htab (Nat.le_of_ble_eq_true rfl) (Nat.le_of_ble_eq_true rfl)) (fun v M44 _ _ I hv => ?_)
        obtain ⟨v45, rfl, hv45, hw⟩ := hv
        refine W.eq (g2 := F0 m 15 ls [.int v45]) rfl ?_
        refine lv_if_eq (tgt := 20) hx hb dX6_numbered_15 (by decide) (fun c => ?_) (fun c => ?_)
        · replace hw := hw.1 c
          refine lv_iinc (v := (x1 + 1)) (lv' := [(1, .int (x1 + 1)), (0, .ref o)]) hx hb dX6_numbered_20 hl (k := 1) rfl (by rfl) (by decide) rfl (fun ls hl46 => ?_)
          refine lv_goto (tgt := 2) hx hb dX6_numbered_23 (by decide) ?_
          refine W.widen (k := 0) (n := 0) (Nat.le_of_ble_eq_true rfl) (Nat.le_of_ble_eq_true rfl) ?_
          exact ih (x1 + 1) _ _ _ ls I (lv_sub hl46 [1, 0] rfl) hw
        · replace hw := hw.2 c
          refine lv_iload_n hx hb dX6_numbered_18 rfl (lv_at hl 1 rfl) ?_
          exact z_iret C I hr ⟨_, rfl, hw⟩ (Nat.le_of_ble_eq_true rfl) (Nat.le_of_ble_eq_true rfl) dX6_numbered_19
  refine lv_iconst (v := 0) hx hb dX6_numbered_0 (by decide) ?_
  refine lv_istore_n (lv' := [(1, .int (0 : Int32)), (0, .ref o)]) hx hb dX6_numbered_1 rfl hl (by decide) rfl (fun ls hl47 => ?_)
  obtain ⟨nn, hw⟩ := hw
  refine W.widen (k := 0) (n := 0) (Nat.le_of_ble_eq_true rfl) (Nat.le_of_ble_eq_true rfl) ?_
  exact hb_2 nn (0 : Int32) _ _ _ ls I (lv_sub hl47 [1, 0] rfl) hw
set_option maxHeartbeats 4000000 in
set_option maxRecDepth 100000 in
theorem m_X6_errorOfRegister {X : zX} {l : Launch} (E : zEnv X l) {M : zM} {o : Nat} {p0 : Int32} {P : Int32 → zM → Prop} {PX : Nat → zM → Prop} (hw : w_X6_errorOfRegister o p0 M P) : zCT X l yX6_errorOfRegister cX6_errorOfRegister 2 (some .int) 5 120 0 0 M [.ref o, .int p0] (zPi P) PX := by
  refine z_entry E (by decide) ?_
  intro p e s m args below meth c C hr htab I
  have hx := C.1.1
  have hb := C.1.2.1
  obtain ⟨ls, he, hl⟩ := z_enter (m := m) (n := 2) (vs := [.ref o, .int p0]) (l := [(0, .ref o), (1, .int p0)]) (Nat.le_of_ble_eq_true rfl) rfl
  rw [he]
  clear he
  unfold w_X6_errorOfRegister at hw
  have hb_49 : ∀ (M : zM) (H : Heap) (locs : List Loc) (ls : Array Slot), zWk X s M H locs → lv_has ls 2 [] → w_X6_errorOfRegister_49 o p0 P M → W p l e (zRm 5 120 0 0) s m args below meth c H locs 0 0 (vx_MQ below (zQc X (zPi P)) (zXc X PX) args s 0 0 (zBase X)) (F0 m 49 ls []) := by
    intro M H locs ls I hl hw
    unfold w_X6_errorOfRegister_49 at hw
    refine lv_iconst (v := 2) hx hb dX6_errorOfRegister_49 (by decide) ?_
    refine lv_goto (tgt := 54) hx hb dX6_errorOfRegister_50 (by decide) ?_
    exact z_iret C I hr ⟨_, rfl, hw⟩ (Nat.le_of_ble_eq_true rfl) (Nat.le_of_ble_eq_true rfl) dX6_errorOfRegister_54
  refine lv_iload_n hx hb dX6_errorOfRegister_0 rfl (lv_at hl 1 rfl) ?_
  refine z_callS C I (as := [.int p0]) (rest := []) (m_X6_isSubject E hw) ks_X6_127 rfl rfl hl.1 (Nat.le_of_ble_eq_true rfl) ⟨Nat.le_of_ble_eq_true rfl, Nat.le_of_ble_eq_true rfl⟩ ⟨Nat.le_of_ble_eq_true rfl, Nat.le_of_ble_eq_true rfl⟩ dX6_errorOfRegister_1 (z_prop C htab (Nat.le_of_ble_eq_true rfl) (Nat.le_of_ble_eq_true rfl)) (fun v M1 _ _ I hv => ?_)
  obtain ⟨v2, rfl, hv2, hw⟩ := hv
  refine W.eq (g2 := F0 m 4 ls [.int v2]) rfl ?_
  refine lv_if_ne (tgt := 9) hx hb dX6_errorOfRegister_4 (by decide) (fun c => ?_) (fun c => ?_)
  · replace hw := hw.1 c
    refine lv_aload_n hx hb dX6_errorOfRegister_9 rfl (lv_at hl 0 rfl) ?_
    refine z_getr C I fl_X6_29 hw dX6_errorOfRegister_10 (fun v3 hw => ?_)
    refine lv_bipush (v := 36) hx hb dX6_errorOfRegister_13 (by decide) ?_
    refine z_iald C I hw dX6_errorOfRegister_15 (fun v4 hw => ?_)
    refine lv_if_ne (tgt := 21) hx hb dX6_errorOfRegister_16 (by decide) (fun c => ?_) (fun c => ?_)
    · replace hw := hw.1 c
      refine lv_aload_n hx hb dX6_errorOfRegister_21 rfl (lv_at hl 0 rfl) ?_
      refine lv_iload_n hx hb dX6_errorOfRegister_22 rfl (lv_at hl 1 rfl) ?_
      obtain ⟨hrc, hw⟩ := hw
      refine z_callV C I (as := [.int p0]) (rest := []) (m_X6_likeVersion E hw) kv_X6_136 vc_7 hrc rfl rfl hl.1 (Nat.le_of_ble_eq_true rfl) ⟨Nat.le_of_ble_eq_true rfl, Nat.le_of_ble_eq_true rfl⟩ ⟨Nat.le_of_ble_eq_true rfl, Nat.le_of_ble_eq_true rfl⟩ dX6_errorOfRegister_23 (z_prop C htab (Nat.le_of_ble_eq_true rfl) (Nat.le_of_ble_eq_true rfl)) (fun v M5 _ _ I hv => ?_)
      obtain ⟨v6, rfl, hw⟩ := hv
      refine W.eq (g2 := F0 m 26 ls [.int v6]) rfl ?_
      refine lv_iconst (v := -1) hx hb dX6_errorOfRegister_26 (by decide) ?_
      refine lv_icmp_ne (tgt := 53) hx hb dX6_errorOfRegister_27 (by decide) (fun c => ?_) (fun c => ?_)
      · replace hw := hw.1 c
        refine lv_iconst (v := 0) hx hb dX6_errorOfRegister_53 (by decide) ?_
        exact z_iret C I hr ⟨_, rfl, hw⟩ (Nat.le_of_ble_eq_true rfl) (Nat.le_of_ble_eq_true rfl) dX6_errorOfRegister_54
      · replace hw := hw.2 c
        refine lv_aload_n hx hb dX6_errorOfRegister_30 rfl (lv_at hl 0 rfl) ?_
        refine z_getr C I fl_X6_44 hw dX6_errorOfRegister_31 (fun v7 hw => ?_)
        refine lv_iload_n hx hb dX6_errorOfRegister_34 rfl (lv_at hl 1 rfl) ?_
        refine z_iald C I hw dX6_errorOfRegister_35 (fun v8 hw => ?_)
        refine lv_bipush (v := 6) hx hb dX6_errorOfRegister_36 (by decide) ?_
        refine lv_icmp_eq (tgt := 49) hx hb dX6_errorOfRegister_38 (by decide) (fun c => ?_) (fun c => ?_)
        · replace hw := hw.1 c
          refine W.widen (k := 0) (n := 0) (Nat.le_of_ble_eq_true rfl) (Nat.le_of_ble_eq_true rfl) ?_
          exact hb_49 _ _ _ ls I (lv_sub hl [] rfl) hw
        · replace hw := hw.2 c
          refine lv_aload_n hx hb dX6_errorOfRegister_41 rfl (lv_at hl 0 rfl) ?_
          refine lv_iload_n hx hb dX6_errorOfRegister_42 rfl (lv_at hl 1 rfl) ?_
          obtain ⟨hrc, hw⟩ := hw
          refine z_callV C I (as := [.int p0]) (rest := []) (m_X6_isAcceptedBy E hw) kv_X6_130 vc_7 hrc rfl rfl hl.1 (Nat.le_of_ble_eq_true rfl) ⟨Nat.le_of_ble_eq_true rfl, Nat.le_of_ble_eq_true rfl⟩ ⟨Nat.le_of_ble_eq_true rfl, Nat.le_of_ble_eq_true rfl⟩ dX6_errorOfRegister_43 (z_prop C htab (Nat.le_of_ble_eq_true rfl) (Nat.le_of_ble_eq_true rfl)) (fun v M9 _ _ I hv => ?_)
          obtain ⟨v10, rfl, hv10, hw⟩ := hv
          refine W.eq (g2 := F0 m 46 ls [.int v10]) rfl ?_
          refine lv_if_ne (tgt := 53) hx hb dX6_errorOfRegister_46 (by decide) (fun c => ?_) (fun c => ?_)
          · replace hw := hw.1 c
            refine lv_iconst (v := 0) hx hb dX6_errorOfRegister_53 (by decide) ?_
            exact z_iret C I hr ⟨_, rfl, hw⟩ (Nat.le_of_ble_eq_true rfl) (Nat.le_of_ble_eq_true rfl) dX6_errorOfRegister_54
          · replace hw := hw.2 c
            refine W.widen (k := 0) (n := 0) (Nat.le_of_ble_eq_true rfl) (Nat.le_of_ble_eq_true rfl) ?_
            exact hb_49 _ _ _ ls I (lv_sub hl [] rfl) hw
    · replace hw := hw.2 c
      refine lv_iconst (v := 2) hx hb dX6_errorOfRegister_19 (by decide) ?_
      exact z_iret C I hr ⟨_, rfl, hw⟩ (Nat.le_of_ble_eq_true rfl) (Nat.le_of_ble_eq_true rfl) dX6_errorOfRegister_20
  · replace hw := hw.2 c
    refine lv_iconst (v := 1) hx hb dX6_errorOfRegister_7 (by decide) ?_
    exact z_iret C I hr ⟨_, rfl, hw⟩ (Nat.le_of_ble_eq_true rfl) (Nat.le_of_ble_eq_true rfl) dX6_errorOfRegister_8
set_option maxHeartbeats 4000000 in
set_option maxRecDepth 100000 in
theorem m_X6_register {X : zX} {l : Launch} (E : zEnv X l) {M : zM} {o : Nat} {p0 : Int32} {P : Int32 → zM → Prop} {PX : Nat → zM → Prop} (hw : w_X6_register o p0 M P) : zCT X l yX6_register cX6_register 3 (some .int) 6 141 0 0 M [.ref o, .int p0] (zPi P) PX := by
  refine z_entry E (by decide) ?_
  intro p e s m args below meth c C hr htab I
  have hx := C.1.1
  have hb := C.1.2.1
  obtain ⟨ls, he, hl⟩ := z_enter (m := m) (n := 3) (vs := [.ref o, .int p0]) (l := [(0, .ref o), (1, .int p0)]) (Nat.le_of_ble_eq_true rfl) rfl
  rw [he]
  clear he
  unfold w_X6_register at hw
  have hb_69 : ∀ (x2 : Int32) (M : zM) (H : Heap) (locs : List Loc) (ls : Array Slot), zWk X s M H locs → lv_has ls 3 [(0, .ref o), (2, .int x2)] → w_X6_register_69 o p0 P x2 M → W p l e (zRm 6 141 0 0) s m args below meth c H locs 0 0 (vx_MQ below (zQc X (zPi P)) (zXc X PX) args s 0 0 (zBase X)) (F0 m 69 ls []) := by
    intro x2 M H locs ls I hl hw
    unfold w_X6_register_69 at hw
    refine lv_aload_n hx hb dX6_register_69 rfl (lv_at hl 0 rfl) ?_
    obtain ⟨hrc, hw⟩ := hw
    refine z_callV C I (as := []) (rest := []) (m_X6_empties E hw) kv_X6_109 vc_7 hrc rfl rfl hl.1 (Nat.le_of_ble_eq_true rfl) ⟨Nat.le_of_ble_eq_true rfl, Nat.le_of_ble_eq_true rfl⟩ ⟨Nat.le_of_ble_eq_true rfl, Nat.le_of_ble_eq_true rfl⟩ dX6_register_70 (z_prop C htab (Nat.le_of_ble_eq_true rfl) (Nat.le_of_ble_eq_true rfl)) (fun v M1 _ _ I hv => ?_)
    obtain ⟨rfl, hw⟩ := hv
    refine W.eq (g2 := F0 m 73 ls []) rfl ?_
    refine lv_iload_n hx hb dX6_register_73 rfl (lv_at hl 1 rfl) ?_
    exact z_iret C I hr ⟨_, rfl, hw⟩ (Nat.le_of_ble_eq_true rfl) (Nat.le_of_ble_eq_true rfl) dX6_register_74
  refine lv_aload_n hx hb dX6_register_0 rfl (lv_at hl 0 rfl) ?_
  refine lv_aload_n hx hb dX6_register_1 rfl (lv_at hl 0 rfl) ?_
  refine lv_iload_n hx hb dX6_register_2 rfl (lv_at hl 1 rfl) ?_
  obtain ⟨hrc, hw⟩ := hw
  refine z_callV C I (as := [.int p0]) (rest := [.ref o]) (m_X6_errorOfRegister E hw) kv_X6_139 vc_7 hrc rfl rfl hl.1 (Nat.le_of_ble_eq_true rfl) ⟨Nat.le_of_ble_eq_true rfl, Nat.le_of_ble_eq_true rfl⟩ ⟨Nat.le_of_ble_eq_true rfl, Nat.le_of_ble_eq_true rfl⟩ dX6_register_3 (z_prop C htab (Nat.le_of_ble_eq_true rfl) (Nat.le_of_ble_eq_true rfl)) (fun v M2 _ _ I hv => ?_)
  obtain ⟨v3, rfl, hw⟩ := hv
  refine W.eq (g2 := F0 m 6 ls [.int v3, .ref o]) rfl ?_
  obtain ⟨hrc, hw⟩ := hw
  refine z_callV C I (as := [.int v3]) (rest := []) (m_X6_holds E hw) kv_X6_102 vc_7 hrc rfl rfl hl.1 (Nat.le_of_ble_eq_true rfl) ⟨Nat.le_of_ble_eq_true rfl, Nat.le_of_ble_eq_true rfl⟩ ⟨Nat.le_of_ble_eq_true rfl, Nat.le_of_ble_eq_true rfl⟩ dX6_register_6 (z_prop C htab (Nat.le_of_ble_eq_true rfl) (Nat.le_of_ble_eq_true rfl)) (fun v M4 _ _ I hv => ?_)
  obtain ⟨v5, rfl, hv5, hw⟩ := hv
  refine W.eq (g2 := F0 m 9 ls [.int v5]) rfl ?_
  refine lv_if_ne (tgt := 14) hx hb dX6_register_9 (by decide) (fun c => ?_) (fun c => ?_)
  · replace hw := hw.1 c
    refine lv_aload_n hx hb dX6_register_14 rfl (lv_at hl 0 rfl) ?_
    refine lv_iload_n hx hb dX6_register_15 rfl (lv_at hl 1 rfl) ?_
    obtain ⟨hrc, hw⟩ := hw
    refine z_callV C I (as := [.int p0]) (rest := []) (m_X6_likeVersion E hw) kv_X6_136 vc_7 hrc rfl rfl hl.1 (Nat.le_of_ble_eq_true rfl) ⟨Nat.le_of_ble_eq_true rfl, Nat.le_of_ble_eq_true rfl⟩ ⟨Nat.le_of_ble_eq_true rfl, Nat.le_of_ble_eq_true rfl⟩ dX6_register_16 (z_prop C htab (Nat.le_of_ble_eq_true rfl) (Nat.le_of_ble_eq_true rfl)) (fun v M6 _ _ I hv => ?_)
    obtain ⟨v7, rfl, hw⟩ := hv
    refine W.eq (g2 := F0 m 19 ls [.int v7]) rfl ?_
    refine lv_istore_n (lv' := [(2, .int v7), (0, .ref o), (1, .int p0)]) hx hb dX6_register_19 rfl hl (by decide) rfl (fun ls hl8 => ?_)
    refine lv_iload_n hx hb dX6_register_20 rfl (lv_at hl8 0 rfl) ?_
    refine lv_iconst (v := -1) hx hb dX6_register_21 (by decide) ?_
    refine lv_icmp_ne (tgt := 69) hx hb dX6_register_22 (by decide) (fun c => ?_) (fun c => ?_)
    · replace hw := hw.1 c
      refine W.widen (k := 0) (n := 0) (Nat.le_of_ble_eq_true rfl) (Nat.le_of_ble_eq_true rfl) ?_
      exact hb_69 v7 _ _ _ ls I (lv_sub hl8 [1, 0] rfl) hw
    · replace hw := hw.2 c
      refine lv_aload_n hx hb dX6_register_25 rfl (lv_at hl8 1 rfl) ?_
      refine z_getr C I fl_X6_44 hw dX6_register_26 (fun v9 hw => ?_)
      refine lv_iload_n hx hb dX6_register_29 rfl (lv_at hl8 2 rfl) ?_
      refine z_iald C I hw dX6_register_30 (fun v10 hw => ?_)
      refine lv_istore_n (lv' := [(2, .int v10), (0, .ref o), (1, .int p0)]) hx hb dX6_register_31 rfl hl8 (by decide) rfl (fun ls hl11 => ?_)
      refine lv_aload_n hx hb dX6_register_32 rfl (lv_at hl11 1 rfl) ?_
      refine z_getr C I fl_X6_38 hw dX6_register_33 (fun v12 hw => ?_)
      refine lv_bipush (v := 6) hx hb dX6_register_36 (by decide) ?_
      refine lv_iload_n hx hb dX6_register_38 rfl (lv_at hl11 2 rfl) ?_
      refine lv_imul hx hb dX6_register_39 ?_
      refine lv_iload_n hx hb dX6_register_40 rfl (lv_at hl11 0 rfl) ?_
      refine lv_iadd hx hb dX6_register_41 ?_
      refine lv_aload_n hx hb dX6_register_42 rfl (lv_at hl11 1 rfl) ?_
      obtain ⟨hrc, hw⟩ := hw
      refine z_callV C I (as := []) (rest := [.int (((6 : Int32) * p0) + v10), .ref v12]) (m_X6_numbered E hw) kv_X6_142 vc_7 hrc rfl rfl hl11.1 (Nat.le_of_ble_eq_true rfl) ⟨Nat.le_of_ble_eq_true rfl, Nat.le_of_ble_eq_true rfl⟩ ⟨Nat.le_of_ble_eq_true rfl, Nat.le_of_ble_eq_true rfl⟩ dX6_register_43 (z_prop C htab (Nat.le_of_ble_eq_true rfl) (Nat.le_of_ble_eq_true rfl)) (fun v M13 _ _ I hv => ?_)
      obtain ⟨v14, rfl, hw⟩ := hv
      refine W.eq (g2 := F0 m 46 ls [.int v14, .int (((6 : Int32) * p0) + v10), .ref v12]) rfl ?_
      refine z_iast C I hw dX6_register_46 (fun M15 _ _ I hw => ?_)
      refine lv_aload_n hx hb dX6_register_47 rfl (lv_at hl11 1 rfl) ?_
      refine z_getr C I fl_X6_41 hw dX6_register_48 (fun v16 hw => ?_)
      refine lv_bipush (v := 6) hx hb dX6_register_51 (by decide) ?_
      refine lv_iload_n hx hb dX6_register_53 rfl (lv_at hl11 2 rfl) ?_
      refine lv_imul hx hb dX6_register_54 ?_
      refine lv_iload_n hx hb dX6_register_55 rfl (lv_at hl11 0 rfl) ?_
      refine lv_iadd hx hb dX6_register_56 ?_
      refine lv_iconst (v := 1) hx hb dX6_register_57 (by decide) ?_
      refine z_iast C I hw dX6_register_58 (fun M17 _ _ I hw => ?_)
      refine lv_aload_n hx hb dX6_register_59 rfl (lv_at hl11 1 rfl) ?_
      refine z_getr C I fl_X6_44 hw dX6_register_60 (fun v18 hw => ?_)
      refine lv_iload_n hx hb dX6_register_63 rfl (lv_at hl11 2 rfl) ?_
      refine lv_dup2_11 hx hb dX6_register_64 rfl rfl ?_
      refine z_iald C I hw dX6_register_65 (fun v19 hw => ?_)
      refine lv_iconst (v := 1) hx hb dX6_register_66 (by decide) ?_
      refine lv_iadd hx hb dX6_register_67 ?_
      refine z_iast C I hw dX6_register_68 (fun M20 _ _ I hw => ?_)
      refine W.widen (k := 0) (n := 0) (Nat.le_of_ble_eq_true rfl) (Nat.le_of_ble_eq_true rfl) ?_
      exact hb_69 v10 _ _ _ ls I (lv_sub hl11 [1, 0] rfl) hw
  · replace hw := hw.2 c
    refine lv_iconst (v := 0) hx hb dX6_register_12 (by decide) ?_
    exact z_iret C I hr ⟨_, rfl, hw⟩ (Nat.le_of_ble_eq_true rfl) (Nat.le_of_ble_eq_true rfl) dX6_register_13
set_option maxHeartbeats 4000000 in
set_option maxRecDepth 100000 in
theorem m_X6_setMode {X : zX} {l : Launch} (E : zEnv X l) {M : zM} {o : Nat} {p0 : Int32} {p1 : Int32} {p2 : Int32} {P : Int32 → zM → Prop} {PX : Nat → zM → Prop} (hw : w_X6_setMode o p0 p1 p2 M P) : zCT X l yX6_setMode cX6_setMode 5 (some .int) 2 42 0 0 M [.ref o, .int p0, .int p1, .int p2] (zPi P) PX := by
  refine z_entry E (by decide) ?_
  intro p e s m args below meth c C hr htab I
  have hx := C.1.1
  have hb := C.1.2.1
  obtain ⟨ls, he, hl⟩ := z_enter (m := m) (n := 5) (vs := [.ref o, .int p0, .int p1, .int p2]) (l := [(0, .ref o), (1, .int p0), (2, .int p1), (3, .int p2)]) (Nat.le_of_ble_eq_true rfl) rfl
  rw [he]
  clear he
  unfold w_X6_setMode at hw
  have hb_22 : ∀ (y0 : Int32) (y1 : Nat) (M : zM) (H : Heap) (locs : List Loc) (ls : Array Slot), zWk X s M H locs → lv_has ls 5 [(0, .ref o), (1, .int p0), (2, .int p1), (3, .int p2)] → w_X6_setMode_22 o p0 p1 p2 P y0 y1 M → W p l e (zRm 2 42 0 0) s m args below meth c H locs 0 0 (vx_MQ below (zQc X (zPi P)) (zXc X PX) args s 0 0 (zBase X)) (F0 m 22 ls [.int y0, .ref y1]) := by
    intro y0 y1 M H locs ls I hl hw
    unfold w_X6_setMode_22 at hw
    obtain ⟨hrc, hw⟩ := hw
    refine z_callV C I (as := [.int y0]) (rest := []) (m_X6_holds E hw) kv_X6_102 vc_7 hrc rfl rfl hl.1 (Nat.le_of_ble_eq_true rfl) ⟨Nat.le_of_ble_eq_true rfl, Nat.le_of_ble_eq_true rfl⟩ ⟨Nat.le_of_ble_eq_true rfl, Nat.le_of_ble_eq_true rfl⟩ dX6_setMode_22 (z_prop C htab (Nat.le_of_ble_eq_true rfl) (Nat.le_of_ble_eq_true rfl)) (fun v M1 _ _ I hv => ?_)
    obtain ⟨v2, rfl, hv2, hw⟩ := hv
    refine W.eq (g2 := F0 m 25 ls [.int v2]) rfl ?_
    refine lv_if_ne (tgt := 30) hx hb dX6_setMode_25 (by decide) (fun c => ?_) (fun c => ?_)
    · replace hw := hw.1 c
      refine lv_aload_n hx hb dX6_setMode_30 rfl (lv_at hl 0 rfl) ?_
      refine z_getr C I fl_X6_47 hw dX6_setMode_31 (fun v3 hw => ?_)
      refine lv_iload_n hx hb dX6_setMode_34 rfl (lv_at hl 1 rfl) ?_
      refine z_iald C I hw dX6_setMode_35 (fun v4 hw => ?_)
      refine lv_istore (lv' := [(4, .int v4), (0, .ref o), (1, .int p0), (2, .int p1), (3, .int p2)]) hx hb dX6_setMode_36 hl (by decide) rfl (fun ls hl5 => ?_)
      refine lv_aload_n hx hb dX6_setMode_38 rfl (lv_at hl5 1 rfl) ?_
      refine z_getr C I fl_X6_47 hw dX6_setMode_39 (fun v6 hw => ?_)
      refine lv_iload_n hx hb dX6_setMode_42 rfl (lv_at hl5 2 rfl) ?_
      refine lv_iload_n hx hb dX6_setMode_43 rfl (lv_at hl5 3 rfl) ?_
      refine z_iast C I hw dX6_setMode_44 (fun M7 _ _ I hw => ?_)
      refine lv_aload_n hx hb dX6_setMode_45 rfl (lv_at hl5 1 rfl) ?_
      refine z_getr C I fl_X6_50 hw dX6_setMode_46 (fun v8 hw => ?_)
      refine lv_iload_n hx hb dX6_setMode_49 rfl (lv_at hl5 2 rfl) ?_
      refine lv_iload_n hx hb dX6_setMode_50 rfl (lv_at hl5 4 rfl) ?_
      refine z_zast C I hw dX6_setMode_51 (fun M9 _ _ I hw => ?_)
      refine lv_iload hx hb dX6_setMode_52 (lv_at hl5 0 rfl) ?_
      exact z_iret C I hr ⟨_, rfl, hw⟩ (Nat.le_of_ble_eq_true rfl) (Nat.le_of_ble_eq_true rfl) dX6_setMode_54
    · replace hw := hw.2 c
      refine lv_iconst (v := 0) hx hb dX6_setMode_28 (by decide) ?_
      exact z_iret C I hr ⟨_, rfl, hw⟩ (Nat.le_of_ble_eq_true rfl) (Nat.le_of_ble_eq_true rfl) dX6_setMode_29
  have hb_21 : ∀ (y0 : Nat) (M : zM) (H : Heap) (locs : List Loc) (ls : Array Slot), zWk X s M H locs → lv_has ls 5 [(0, .ref o), (1, .int p0), (2, .int p1), (3, .int p2)] → w_X6_setMode_21 o p0 p1 p2 P y0 M → W p l e (zRm 2 42 0 0) s m args below meth c H locs 0 0 (vx_MQ below (zQc X (zPi P)) (zXc X PX) args s 0 0 (zBase X)) (F0 m 21 ls [.ref y0]) := by
    intro y0 M H locs ls I hl hw
    unfold w_X6_setMode_21 at hw
    refine lv_iconst (v := 1) hx hb dX6_setMode_21 (by decide) ?_
    refine W.widen (k := 0) (n := 0) (Nat.le_of_ble_eq_true rfl) (Nat.le_of_ble_eq_true rfl) ?_
    exact hb_22 (1 : Int32) y0 _ _ _ ls I (lv_sub hl [0, 1, 2, 3] rfl) hw
  refine lv_aload_n hx hb dX6_setMode_0 rfl (lv_at hl 0 rfl) ?_
  refine lv_iload_n hx hb dX6_setMode_1 rfl (lv_at hl 1 rfl) ?_
  refine z_callS C I (as := [.int p0]) (rest := [.ref o]) (m_X6_isSubject E hw) ks_X6_127 rfl rfl hl.1 (Nat.le_of_ble_eq_true rfl) ⟨Nat.le_of_ble_eq_true rfl, Nat.le_of_ble_eq_true rfl⟩ ⟨Nat.le_of_ble_eq_true rfl, Nat.le_of_ble_eq_true rfl⟩ dX6_setMode_2 (z_prop C htab (Nat.le_of_ble_eq_true rfl) (Nat.le_of_ble_eq_true rfl)) (fun v M10 _ _ I hv => ?_)
  obtain ⟨v11, rfl, hv11, hw⟩ := hv
  refine W.eq (g2 := F0 m 5 ls [.int v11, .ref o]) rfl ?_
  refine lv_if_eq (tgt := 21) hx hb dX6_setMode_5 (by decide) (fun c => ?_) (fun c => ?_)
  · replace hw := hw.1 c
    refine W.widen (k := 0) (n := 0) (Nat.le_of_ble_eq_true rfl) (Nat.le_of_ble_eq_true rfl) ?_
    exact hb_21 o _ _ _ ls I (lv_sub hl [0, 1, 2, 3] rfl) hw
  · replace hw := hw.2 c
    refine lv_iload_n hx hb dX6_setMode_8 rfl (lv_at hl 2 rfl) ?_
    refine lv_iconst (v := 0) hx hb dX6_setMode_9 (by decide) ?_
    refine lv_iconst (v := 3) hx hb dX6_setMode_10 (by decide) ?_
    refine z_callS C I (as := [.int p1, .int (0 : Int32), .int (3 : Int32)]) (rest := [.ref o]) (m_X6_in E hw) ks_X6_75 rfl rfl hl.1 (Nat.le_of_ble_eq_true rfl) ⟨Nat.le_of_ble_eq_true rfl, Nat.le_of_ble_eq_true rfl⟩ ⟨Nat.le_of_ble_eq_true rfl, Nat.le_of_ble_eq_true rfl⟩ dX6_setMode_11 (z_prop C htab (Nat.le_of_ble_eq_true rfl) (Nat.le_of_ble_eq_true rfl)) (fun v M12 _ _ I hv => ?_)
    obtain ⟨v13, rfl, hv13, hw⟩ := hv
    refine W.eq (g2 := F0 m 14 ls [.int v13, .ref o]) rfl ?_
    refine lv_if_eq (tgt := 21) hx hb dX6_setMode_14 (by decide) (fun c => ?_) (fun c => ?_)
    · replace hw := hw.1 c
      refine W.widen (k := 0) (n := 0) (Nat.le_of_ble_eq_true rfl) (Nat.le_of_ble_eq_true rfl) ?_
      exact hb_21 o _ _ _ ls I (lv_sub hl [0, 1, 2, 3] rfl) hw
    · replace hw := hw.2 c
      refine lv_iconst (v := 0) hx hb dX6_setMode_17 (by decide) ?_
      refine lv_goto (tgt := 22) hx hb dX6_setMode_18 (by decide) ?_
      refine W.widen (k := 0) (n := 0) (Nat.le_of_ble_eq_true rfl) (Nat.le_of_ble_eq_true rfl) ?_
      exact hb_22 (0 : Int32) o _ _ _ ls I (lv_sub hl [0, 1, 2, 3] rfl) hw
set_option maxHeartbeats 4000000 in
set_option maxRecDepth 100000 in
theorem m_X6_refers {X : zX} {l : Launch} (E : zEnv X l) {M : zM} {o : Nat} {p0 : Int32} {p1 : Int32} {P : Int32 → zM → Prop} {PX : Nat → zM → Prop} (hw : w_X6_refers o p0 p1 M P) : zCT X l yX6_refers cX6_refers 4 (some .boolean) 0 0 0 0 M [.ref o, .int p0, .int p1] (zPz P) PX := by
  refine z_entry E (by decide) ?_
  intro p e s m args below meth c C hr htab I
  have hx := C.1.1
  have hb := C.1.2.1
  obtain ⟨ls, he, hl⟩ := z_enter (m := m) (n := 4) (vs := [.ref o, .int p0, .int p1]) (l := [(0, .ref o), (1, .int p0), (2, .int p1)]) (Nat.le_of_ble_eq_true rfl) rfl
  rw [he]
  clear he
  unfold w_X6_refers at hw
  have hb_2 : ∀ (n : Nat) (x3 : Int32) (M : zM) (H : Heap) (locs : List Loc) (ls : Array Slot), zWk X s M H locs → lv_has ls 4 [(0, .ref o), (1, .int p0), (2, .int p1), (3, .int x3)] → w_X6_refers_2 o p0 p1 P n x3 M → W p l e (zRm 0 0 0 0) s m args below meth c H locs 0 0 (vx_MQ below (zQc X (zPz P)) (zXc X PX) args s 0 0 (zBase X)) (F0 m 2 ls []) := by
    intro n
    induction n with
    | zero => intro _ M H locs ls I hl hw; exact hw.elim
    | succ n ih =>
      intro x3 M H locs ls I hl hw
      unfold w_X6_refers_2 at hw
      have hb_42 : ∀ (x3 : Int32) (M : zM) (H : Heap) (locs : List Loc) (ls : Array Slot), zWk X s M H locs → lv_has ls 4 [(0, .ref o), (1, .int p0), (2, .int p1), (3, .int x3)] → w_X6_refers_42 o p0 p1 P (w_X6_refers_2 o p0 p1 P n) x3 M → W p l e (zRm 0 0 0 0) s m args below meth c H locs 0 0 (vx_MQ below (zQc X (zPz P)) (zXc X PX) args s 0 0 (zBase X)) (F0 m 42 ls []) := by
        intro x3 M H locs ls I hl hw
        unfold w_X6_refers_42 at hw
        refine lv_iinc (v := (x3 + 1)) (lv' := [(3, .int (x3 + 1)), (0, .ref o), (1, .int p0), (2, .int p1)]) hx hb dX6_refers_42 hl (k := 3) rfl (by rfl) (by decide) rfl (fun ls hl1 => ?_)
        refine lv_goto (tgt := 2) hx hb dX6_refers_45 (by decide) ?_
        refine W.widen (k := 0) (n := 0) (Nat.le_of_ble_eq_true rfl) (Nat.le_of_ble_eq_true rfl) ?_
        exact ih (x3 + 1) _ _ _ ls I (lv_sub hl1 [1, 2, 3, 0] rfl) hw
      refine lv_iload_n hx hb dX6_refers_2 rfl (lv_at hl 3 rfl) ?_
      refine lv_aload_n hx hb dX6_refers_3 rfl (lv_at hl 0 rfl) ?_
      refine z_getr C I fl_X6_29 hw dX6_refers_4 (fun v2 hw => ?_)
      refine lv_iload_n hx hb dX6_refers_7 rfl (lv_at hl 1 rfl) ?_
      refine z_iald C I hw dX6_refers_8 (fun v3 hw => ?_)
      refine lv_icmp_ge (tgt := 48) hx hb dX6_refers_9 (by decide) (fun c => ?_) (fun c => ?_)
      · replace hw := hw.1 c
        refine lv_iconst (v := 0) hx hb dX6_refers_48 (by decide) ?_
        exact z_zret C I hr (Or.inl rfl) ⟨_, rfl, (Or.inl rfl), hw⟩ (Nat.le_of_ble_eq_true rfl) (Nat.le_of_ble_eq_true rfl) dX6_refers_49
      · replace hw := hw.2 c
        refine lv_aload_n hx hb dX6_refers_12 rfl (lv_at hl 0 rfl) ?_
        refine z_getr C I fl_X6_13 hw dX6_refers_13 (fun v4 hw => ?_)
        refine lv_iconst (v := 5) hx hb dX6_refers_16 (by decide) ?_
        refine lv_iload_n hx hb dX6_refers_17 rfl (lv_at hl 1 rfl) ?_
        refine lv_imul hx hb dX6_refers_18 ?_
        refine lv_iload_n hx hb dX6_refers_19 rfl (lv_at hl 3 rfl) ?_
        refine lv_iadd hx hb dX6_refers_20 ?_
        refine z_iald C I hw dX6_refers_21 (fun v5 hw => ?_)
        refine lv_iconst (v := 4) hx hb dX6_refers_22 (by decide) ?_
        refine lv_icmp_ne (tgt := 42) hx hb dX6_refers_23 (by decide) (fun c => ?_) (fun c => ?_)
        · replace hw := hw.1 c
          refine W.widen (k := 0) (n := 0) (Nat.le_of_ble_eq_true rfl) (Nat.le_of_ble_eq_true rfl) ?_
          exact hb_42 x3 _ _ _ ls I (lv_sub hl [0, 1, 2, 3] rfl) hw
        · replace hw := hw.2 c
          refine lv_aload_n hx hb dX6_refers_26 rfl (lv_at hl 0 rfl) ?_
          refine z_getr C I fl_X6_16 hw dX6_refers_27 (fun v6 hw => ?_)
          refine lv_iconst (v := 5) hx hb dX6_refers_30 (by decide) ?_
          refine lv_iload_n hx hb dX6_refers_31 rfl (lv_at hl 1 rfl) ?_
          refine lv_imul hx hb dX6_refers_32 ?_
          refine lv_iload_n hx hb dX6_refers_33 rfl (lv_at hl 3 rfl) ?_
          refine lv_iadd hx hb dX6_refers_34 ?_
          refine z_iald C I hw dX6_refers_35 (fun v7 hw => ?_)
          refine lv_iload_n hx hb dX6_refers_36 rfl (lv_at hl 2 rfl) ?_
          refine lv_icmp_ne (tgt := 42) hx hb dX6_refers_37 (by decide) (fun c => ?_) (fun c => ?_)
          · replace hw := hw.1 c
            refine W.widen (k := 0) (n := 0) (Nat.le_of_ble_eq_true rfl) (Nat.le_of_ble_eq_true rfl) ?_
            exact hb_42 x3 _ _ _ ls I (lv_sub hl [0, 1, 2, 3] rfl) hw
          · replace hw := hw.2 c
            refine lv_iconst (v := 1) hx hb dX6_refers_40 (by decide) ?_
            exact z_zret C I hr (Or.inr rfl) ⟨_, rfl, (Or.inr rfl), hw⟩ (Nat.le_of_ble_eq_true rfl) (Nat.le_of_ble_eq_true rfl) dX6_refers_41
  refine lv_iconst (v := 0) hx hb dX6_refers_0 (by decide) ?_
  refine lv_istore_n (lv' := [(3, .int (0 : Int32)), (0, .ref o), (1, .int p0), (2, .int p1)]) hx hb dX6_refers_1 rfl hl (by decide) rfl (fun ls hl8 => ?_)
  obtain ⟨nn, hw⟩ := hw
  refine W.widen (k := 0) (n := 0) (Nat.le_of_ble_eq_true rfl) (Nat.le_of_ble_eq_true rfl) ?_
  exact hb_2 nn (0 : Int32) _ _ _ ls I (lv_sub hl8 [1, 2, 3, 0] rfl) hw
set_option maxHeartbeats 4000000 in
set_option maxRecDepth 100000 in
theorem m_X6_isReferred {X : zX} {l : Launch} (E : zEnv X l) {M : zM} {o : Nat} {p0 : Int32} {P : Int32 → zM → Prop} {PX : Nat → zM → Prop} (hw : w_X6_isReferred o p0 M P) : zCT X l yX6_isReferred cX6_isReferred 3 (some .boolean) 1 23 0 0 M [.ref o, .int p0] (zPz P) PX := by
  refine z_entry E (by decide) ?_
  intro p e s m args below meth c C hr htab I
  have hx := C.1.1
  have hb := C.1.2.1
  obtain ⟨ls, he, hl⟩ := z_enter (m := m) (n := 3) (vs := [.ref o, .int p0]) (l := [(0, .ref o), (1, .int p0)]) (Nat.le_of_ble_eq_true rfl) rfl
  rw [he]
  clear he
  unfold w_X6_isReferred at hw
  have hb_2 : ∀ (n : Nat) (x2 : Int32) (M : zM) (H : Heap) (locs : List Loc) (ls : Array Slot), zWk X s M H locs → lv_has ls 3 [(0, .ref o), (1, .int p0), (2, .int x2)] → w_X6_isReferred_2 o p0 P n x2 M → W p l e (zRm 1 23 0 0) s m args below meth c H locs 0 0 (vx_MQ below (zQc X (zPz P)) (zXc X PX) args s 0 0 (zBase X)) (F0 m 2 ls []) := by
    intro n
    induction n with
    | zero => intro _ M H locs ls I hl hw; exact hw.elim
    | succ n ih =>
      intro x2 M H locs ls I hl hw
      unfold w_X6_isReferred_2 at hw
      have hb_44 : ∀ (x2 : Int32) (M : zM) (H : Heap) (locs : List Loc) (ls : Array Slot), zWk X s M H locs → lv_has ls 3 [(0, .ref o), (1, .int p0), (2, .int x2)] → w_X6_isReferred_44 o p0 P (w_X6_isReferred_2 o p0 P n) x2 M → W p l e (zRm 1 23 0 0) s m args below meth c H locs 0 0 (vx_MQ below (zQc X (zPz P)) (zXc X PX) args s 0 0 (zBase X)) (F0 m 44 ls []) := by
        intro x2 M H locs ls I hl hw
        unfold w_X6_isReferred_44 at hw
        refine lv_iinc (v := (x2 + 1)) (lv' := [(2, .int (x2 + 1)), (0, .ref o), (1, .int p0)]) hx hb dX6_isReferred_44 hl (k := 2) rfl (by rfl) (by decide) rfl (fun ls hl1 => ?_)
        refine lv_goto (tgt := 2) hx hb dX6_isReferred_47 (by decide) ?_
        refine W.widen (k := 0) (n := 0) (Nat.le_of_ble_eq_true rfl) (Nat.le_of_ble_eq_true rfl) ?_
        exact ih (x2 + 1) _ _ _ ls I (lv_sub hl1 [1, 2, 0] rfl) hw
      have hb_28 : ∀ (x2 : Int32) (M : zM) (H : Heap) (locs : List Loc) (ls : Array Slot), zWk X s M H locs → lv_has ls 3 [(0, .ref o), (1, .int p0), (2, .int x2)] → w_X6_isReferred_28 o p0 P (w_X6_isReferred_2 o p0 P n) x2 M → W p l e (zRm 1 23 0 0) s m args below meth c H locs 0 0 (vx_MQ below (zQc X (zPz P)) (zXc X PX) args s 0 0 (zBase X)) (F0 m 28 ls []) := by
        intro x2 M H locs ls I hl hw
        unfold w_X6_isReferred_28 at hw
        refine lv_aload_n hx hb dX6_isReferred_28 rfl (lv_at hl 0 rfl) ?_
        refine lv_aload_n hx hb dX6_isReferred_29 rfl (lv_at hl 0 rfl) ?_
        refine z_getr C I fl_X6_38 hw dX6_isReferred_30 (fun v2 hw => ?_)
        refine lv_iload_n hx hb dX6_isReferred_33 rfl (lv_at hl 2 rfl) ?_
        refine z_iald C I hw dX6_isReferred_34 (fun v3 hw => ?_)
        refine lv_iload_n hx hb dX6_isReferred_35 rfl (lv_at hl 1 rfl) ?_
        obtain ⟨hrc, hw⟩ := hw
        refine z_callV C I (as := [.int v3, .int p0]) (rest := []) (m_X6_refers E hw) kv_X6_146 vc_7 hrc rfl rfl hl.1 (Nat.le_of_ble_eq_true rfl) ⟨Nat.le_of_ble_eq_true rfl, Nat.le_of_ble_eq_true rfl⟩ ⟨Nat.le_of_ble_eq_true rfl, Nat.le_of_ble_eq_true rfl⟩ dX6_isReferred_36 (z_prop C htab (Nat.le_of_ble_eq_true rfl) (Nat.le_of_ble_eq_true rfl)) (fun v M4 _ _ I hv => ?_)
        obtain ⟨v5, rfl, hv5, hw⟩ := hv
        refine W.eq (g2 := F0 m 39 ls [.int v5]) rfl ?_
        refine lv_if_eq (tgt := 44) hx hb dX6_isReferred_39 (by decide) (fun c => ?_) (fun c => ?_)
        · replace hw := hw.1 c
          refine W.widen (k := 0) (n := 0) (Nat.le_of_ble_eq_true rfl) (Nat.le_of_ble_eq_true rfl) ?_
          exact hb_44 x2 _ _ _ ls I (lv_sub hl [0, 1, 2] rfl) hw
        · replace hw := hw.2 c
          refine lv_iconst (v := 1) hx hb dX6_isReferred_42 (by decide) ?_
          exact z_zret C I hr (Or.inr rfl) ⟨_, rfl, (Or.inr rfl), hw⟩ (Nat.le_of_ble_eq_true rfl) (Nat.le_of_ble_eq_true rfl) dX6_isReferred_43
      refine lv_iload_n hx hb dX6_isReferred_2 rfl (lv_at hl 2 rfl) ?_
      refine lv_bipush (v := 36) hx hb dX6_isReferred_3 (by decide) ?_
      refine lv_icmp_ge (tgt := 50) hx hb dX6_isReferred_5 (by decide) (fun c => ?_) (fun c => ?_)
      · replace hw := hw.1 c
        refine lv_aload_n hx hb dX6_isReferred_50 rfl (lv_at hl 0 rfl) ?_
        refine lv_bipush (v := 36) hx hb dX6_isReferred_51 (by decide) ?_
        refine lv_iload_n hx hb dX6_isReferred_53 rfl (lv_at hl 1 rfl) ?_
        obtain ⟨hrc, hw⟩ := hw
        refine z_callV C I (as := [.int (36 : Int32), .int p0]) (rest := []) (m_X6_refers E hw) kv_X6_146 vc_7 hrc rfl rfl hl.1 (Nat.le_of_ble_eq_true rfl) ⟨Nat.le_of_ble_eq_true rfl, Nat.le_of_ble_eq_true rfl⟩ ⟨Nat.le_of_ble_eq_true rfl, Nat.le_of_ble_eq_true rfl⟩ dX6_isReferred_54 (z_prop C htab (Nat.le_of_ble_eq_true rfl) (Nat.le_of_ble_eq_true rfl)) (fun v M6 _ _ I hv => ?_)
        obtain ⟨v7, rfl, hv7, hw⟩ := hv
        refine W.eq (g2 := F0 m 57 ls [.int v7]) rfl ?_
        exact z_zret C I hr hv7 ⟨_, rfl, hv7, hw⟩ (Nat.le_of_ble_eq_true rfl) (Nat.le_of_ble_eq_true rfl) dX6_isReferred_57
      · replace hw := hw.2 c
        refine lv_aload_n hx hb dX6_isReferred_8 rfl (lv_at hl 0 rfl) ?_
        refine z_getr C I fl_X6_41 hw dX6_isReferred_9 (fun v8 hw => ?_)
        refine lv_iload_n hx hb dX6_isReferred_12 rfl (lv_at hl 2 rfl) ?_
        refine z_iald C I hw dX6_isReferred_13 (fun v9 hw => ?_)
        refine lv_iconst (v := 1) hx hb dX6_isReferred_14 (by decide) ?_
        refine lv_icmp_eq (tgt := 28) hx hb dX6_isReferred_15 (by decide) (fun c => ?_) (fun c => ?_)
        · replace hw := hw.1 c
          refine W.widen (k := 0) (n := 0) (Nat.le_of_ble_eq_true rfl) (Nat.le_of_ble_eq_true rfl) ?_
          exact hb_28 x2 _ _ _ ls I (lv_sub hl [0, 1, 2] rfl) hw
        · replace hw := hw.2 c
          refine lv_aload_n hx hb dX6_isReferred_18 rfl (lv_at hl 0 rfl) ?_
          refine z_getr C I fl_X6_41 hw dX6_isReferred_19 (fun v10 hw => ?_)
          refine lv_iload_n hx hb dX6_isReferred_22 rfl (lv_at hl 2 rfl) ?_
          refine z_iald C I hw dX6_isReferred_23 (fun v11 hw => ?_)
          refine lv_iconst (v := 2) hx hb dX6_isReferred_24 (by decide) ?_
          refine lv_icmp_ne (tgt := 44) hx hb dX6_isReferred_25 (by decide) (fun c => ?_) (fun c => ?_)
          · replace hw := hw.1 c
            refine W.widen (k := 0) (n := 0) (Nat.le_of_ble_eq_true rfl) (Nat.le_of_ble_eq_true rfl) ?_
            exact hb_44 x2 _ _ _ ls I (lv_sub hl [0, 1, 2] rfl) hw
          · replace hw := hw.2 c
            refine W.widen (k := 0) (n := 0) (Nat.le_of_ble_eq_true rfl) (Nat.le_of_ble_eq_true rfl) ?_
            exact hb_28 x2 _ _ _ ls I (lv_sub hl [0, 1, 2] rfl) hw
  refine lv_iconst (v := 0) hx hb dX6_isReferred_0 (by decide) ?_
  refine lv_istore_n (lv' := [(2, .int (0 : Int32)), (0, .ref o), (1, .int p0)]) hx hb dX6_isReferred_1 rfl hl (by decide) rfl (fun ls hl12 => ?_)
  obtain ⟨nn, hw⟩ := hw
  refine W.widen (k := 0) (n := 0) (Nat.le_of_ble_eq_true rfl) (Nat.le_of_ble_eq_true rfl) ?_
  exact hb_2 nn (0 : Int32) _ _ _ ls I (lv_sub hl12 [1, 2, 0] rfl) hw
set_option maxHeartbeats 4000000 in
set_option maxRecDepth 100000 in
theorem m_X6_errorOfDelete {X : zX} {l : Launch} (E : zEnv X l) {M : zM} {o : Nat} {p0 : Int32} {p1 : Int32} {p2 : Int32} {P : Int32 → zM → Prop} {PX : Nat → zM → Prop} (hw : w_X6_errorOfDelete o p0 p1 p2 M P) : zCT X l yX6_errorOfDelete cX6_errorOfDelete 5 (some .int) 3 66 0 0 M [.ref o, .int p0, .int p1, .int p2] (zPi P) PX := by
  refine z_entry E (by decide) ?_
  intro p e s m args below meth c C hr htab I
  have hx := C.1.1
  have hb := C.1.2.1
  obtain ⟨ls, he, hl⟩ := z_enter (m := m) (n := 5) (vs := [.ref o, .int p0, .int p1, .int p2]) (l := [(0, .ref o), (1, .int p0), (2, .int p1), (3, .int p2)]) (Nat.le_of_ble_eq_true rfl) rfl
  rw [he]
  clear he
  unfold w_X6_errorOfDelete at hw
  have hb_50 : ∀ (M : zM) (H : Heap) (locs : List Loc) (ls : Array Slot), zWk X s M H locs → lv_has ls 5 [] → w_X6_errorOfDelete_50 o p0 p1 p2 P M → W p l e (zRm 3 66 0 0) s m args below meth c H locs 0 0 (vx_MQ below (zQc X (zPi P)) (zXc X PX) args s 0 0 (zBase X)) (F0 m 50 ls []) := by
    intro M H locs ls I hl hw
    unfold w_X6_errorOfDelete_50 at hw
    refine lv_iconst (v := 3) hx hb dX6_errorOfDelete_50 (by decide) ?_
    refine lv_goto (tgt := 68) hx hb dX6_errorOfDelete_51 (by decide) ?_
    exact z_iret C I hr ⟨_, rfl, hw⟩ (Nat.le_of_ble_eq_true rfl) (Nat.le_of_ble_eq_true rfl) dX6_errorOfDelete_68
  refine lv_iload_n hx hb dX6_errorOfDelete_0 rfl (lv_at hl 1 rfl) ?_
  refine z_callS C I (as := [.int p0]) (rest := []) (m_X6_isSubject E hw) ks_X6_127 rfl rfl hl.1 (Nat.le_of_ble_eq_true rfl) ⟨Nat.le_of_ble_eq_true rfl, Nat.le_of_ble_eq_true rfl⟩ ⟨Nat.le_of_ble_eq_true rfl, Nat.le_of_ble_eq_true rfl⟩ dX6_errorOfDelete_1 (z_prop C htab (Nat.le_of_ble_eq_true rfl) (Nat.le_of_ble_eq_true rfl)) (fun v M1 _ _ I hv => ?_)
  obtain ⟨v2, rfl, hv2, hw⟩ := hv
  refine W.eq (g2 := F0 m 4 ls [.int v2]) rfl ?_
  refine lv_if_ne (tgt := 9) hx hb dX6_errorOfDelete_4 (by decide) (fun c => ?_) (fun c => ?_)
  · replace hw := hw.1 c
    refine lv_aload_n hx hb dX6_errorOfDelete_9 rfl (lv_at hl 0 rfl) ?_
    refine lv_iload_n hx hb dX6_errorOfDelete_10 rfl (lv_at hl 1 rfl) ?_
    refine lv_iload_n hx hb dX6_errorOfDelete_11 rfl (lv_at hl 2 rfl) ?_
    obtain ⟨hrc, hw⟩ := hw
    refine z_callV C I (as := [.int p0, .int p1]) (rest := []) (m_X6_isVersion E hw) kv_X6_79 vc_7 hrc rfl rfl hl.1 (Nat.le_of_ble_eq_true rfl) ⟨Nat.le_of_ble_eq_true rfl, Nat.le_of_ble_eq_true rfl⟩ ⟨Nat.le_of_ble_eq_true rfl, Nat.le_of_ble_eq_true rfl⟩ dX6_errorOfDelete_12 (z_prop C htab (Nat.le_of_ble_eq_true rfl) (Nat.le_of_ble_eq_true rfl)) (fun v M3 _ _ I hv => ?_)
    obtain ⟨v4, rfl, hv4, hw⟩ := hv
    refine W.eq (g2 := F0 m 15 ls [.int v4]) rfl ?_
    refine lv_if_ne (tgt := 20) hx hb dX6_errorOfDelete_15 (by decide) (fun c => ?_) (fun c => ?_)
    · replace hw := hw.1 c
      refine lv_aload_n hx hb dX6_errorOfDelete_20 rfl (lv_at hl 0 rfl) ?_
      refine lv_iload_n hx hb dX6_errorOfDelete_21 rfl (lv_at hl 1 rfl) ?_
      refine lv_iload_n hx hb dX6_errorOfDelete_22 rfl (lv_at hl 2 rfl) ?_
      obtain ⟨hrc, hw⟩ := hw
      refine z_callV C I (as := [.int p0, .int p1]) (rest := []) (m_X6_isThereAt E hw) kv_X6_87 vc_7 hrc rfl rfl hl.1 (Nat.le_of_ble_eq_true rfl) ⟨Nat.le_of_ble_eq_true rfl, Nat.le_of_ble_eq_true rfl⟩ ⟨Nat.le_of_ble_eq_true rfl, Nat.le_of_ble_eq_true rfl⟩ dX6_errorOfDelete_23 (z_prop C htab (Nat.le_of_ble_eq_true rfl) (Nat.le_of_ble_eq_true rfl)) (fun v M5 _ _ I hv => ?_)
      obtain ⟨v6, rfl, hv6, hw⟩ := hv
      refine W.eq (g2 := F0 m 26 ls [.int v6]) rfl ?_
      refine lv_istore (lv' := [(4, .int v6), (0, .ref o), (1, .int p0), (2, .int p1), (3, .int p2)]) hx hb dX6_errorOfDelete_26 hl (by decide) rfl (fun ls hl7 => ?_)
      refine lv_iload_n hx hb dX6_errorOfDelete_28 rfl (lv_at hl7 4 rfl) ?_
      refine lv_if_eq (tgt := 58) hx hb dX6_errorOfDelete_29 (by decide) (fun c => ?_) (fun c => ?_)
      · replace hw := hw.1 c
        refine lv_iload hx hb dX6_errorOfDelete_58 (lv_at hl7 0 rfl) ?_
        refine lv_if_eq (tgt := 67) hx hb dX6_errorOfDelete_60 (by decide) (fun c => ?_) (fun c => ?_)
        · replace hw := hw.1 c
          refine lv_iconst (v := 3) hx hb dX6_errorOfDelete_67 (by decide) ?_
          exact z_iret C I hr ⟨_, rfl, hw⟩ (Nat.le_of_ble_eq_true rfl) (Nat.le_of_ble_eq_true rfl) dX6_errorOfDelete_68
        · replace hw := hw.2 c
          refine lv_iconst (v := 0) hx hb dX6_errorOfDelete_63 (by decide) ?_
          refine lv_goto (tgt := 68) hx hb dX6_errorOfDelete_64 (by decide) ?_
          exact z_iret C I hr ⟨_, rfl, hw⟩ (Nat.le_of_ble_eq_true rfl) (Nat.le_of_ble_eq_true rfl) dX6_errorOfDelete_68
      · replace hw := hw.2 c
        refine lv_iload hx hb dX6_errorOfDelete_32 (lv_at hl7 0 rfl) ?_
        refine lv_if_ne (tgt := 50) hx hb dX6_errorOfDelete_34 (by decide) (fun c => ?_) (fun c => ?_)
        · replace hw := hw.1 c
          refine W.widen (k := 0) (n := 0) (Nat.le_of_ble_eq_true rfl) (Nat.le_of_ble_eq_true rfl) ?_
          exact hb_50 _ _ _ ls I (lv_sub hl7 [] rfl) hw
        · replace hw := hw.2 c
          refine lv_aload_n hx hb dX6_errorOfDelete_37 rfl (lv_at hl7 1 rfl) ?_
          refine lv_bipush (v := 10) hx hb dX6_errorOfDelete_38 (by decide) ?_
          refine lv_iload_n hx hb dX6_errorOfDelete_40 rfl (lv_at hl7 2 rfl) ?_
          refine lv_imul hx hb dX6_errorOfDelete_41 ?_
          refine lv_iload_n hx hb dX6_errorOfDelete_42 rfl (lv_at hl7 3 rfl) ?_
          refine lv_iadd hx hb dX6_errorOfDelete_43 ?_
          obtain ⟨hrc, hw⟩ := hw
          refine z_callV C I (as := [.int (((10 : Int32) * p0) + p1)]) (rest := []) (m_X6_isReferred E hw) kv_X6_149 vc_7 hrc rfl rfl hl7.1 (Nat.le_of_ble_eq_true rfl) ⟨Nat.le_of_ble_eq_true rfl, Nat.le_of_ble_eq_true rfl⟩ ⟨Nat.le_of_ble_eq_true rfl, Nat.le_of_ble_eq_true rfl⟩ dX6_errorOfDelete_44 (z_prop C htab (Nat.le_of_ble_eq_true rfl) (Nat.le_of_ble_eq_true rfl)) (fun v M8 _ _ I hv => ?_)
          obtain ⟨v9, rfl, hv9, hw⟩ := hv
          refine W.eq (g2 := F0 m 47 ls [.int v9]) rfl ?_
          refine lv_if_eq (tgt := 54) hx hb dX6_errorOfDelete_47 (by decide) (fun c => ?_) (fun c => ?_)
          · replace hw := hw.1 c
            refine lv_iconst (v := 0) hx hb dX6_errorOfDelete_54 (by decide) ?_
            refine lv_goto (tgt := 68) hx hb dX6_errorOfDelete_55 (by decide) ?_
            exact z_iret C I hr ⟨_, rfl, hw⟩ (Nat.le_of_ble_eq_true rfl) (Nat.le_of_ble_eq_true rfl) dX6_errorOfDelete_68
          · replace hw := hw.2 c
            refine W.widen (k := 0) (n := 0) (Nat.le_of_ble_eq_true rfl) (Nat.le_of_ble_eq_true rfl) ?_
            exact hb_50 _ _ _ ls I (lv_sub hl7 [] rfl) hw
    · replace hw := hw.2 c
      refine lv_iconst (v := 2) hx hb dX6_errorOfDelete_18 (by decide) ?_
      exact z_iret C I hr ⟨_, rfl, hw⟩ (Nat.le_of_ble_eq_true rfl) (Nat.le_of_ble_eq_true rfl) dX6_errorOfDelete_19
  · replace hw := hw.2 c
    refine lv_iconst (v := 1) hx hb dX6_errorOfDelete_7 (by decide) ?_
    exact z_iret C I hr ⟨_, rfl, hw⟩ (Nat.le_of_ble_eq_true rfl) (Nat.le_of_ble_eq_true rfl) dX6_errorOfDelete_8
