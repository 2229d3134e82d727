set_option maxHeartbeats 4000000 in
set_option maxRecDepth 100000 in
theorem m_X6_isRecord {X : zX} {l : Launch} (E : zEnv X l) {M : zM} {o : Nat} {p0 : Int32} {p1 : Int32} {P : Int32 → zM → Prop} {PX : Nat → zM → Prop} (hw : w_X6_isRecord o p0 p1 M P) : zCT X l yX6_isRecord cX6_isRecord 3 (some .boolean) 3 70 0 0 M [.ref o, .int p0, .int p1] (zPz P) PX := by
  refine z_entry E (by decide) ?_
  intro p e s m args below meth c C hr htab I
  have hx := C.1.1
  have hb := C.1.2.1
  obtain ⟨ls, he, hl⟩ := z_enter (m := m) (n := 3) (vs := [.ref o, .int p0, .int p1]) (l := [(0, .ref o), (1, .int p0), (2, .int p1)]) (Nat.le_of_ble_eq_true rfl) rfl
  rw [he]
  clear he
  unfold w_X6_isRecord at hw
  refine lv_aload_n hx hb dX6_isRecord_0 rfl (lv_at hl 0 rfl) ?_
  refine lv_iload_n hx hb dX6_isRecord_1 rfl (lv_at hl 1 rfl) ?_
  refine lv_iload_n hx hb dX6_isRecord_2 rfl (lv_at hl 2 rfl) ?_
  obtain ⟨hrc, hw⟩ := hw
  refine z_callV C I (as := [.int p0, .int p1]) (rest := []) (m_X6_isAsked E hw) kv_X6_156 vc_7 hrc rfl rfl hl.1 (Nat.le_of_ble_eq_true rfl) ⟨Nat.le_of_ble_eq_true rfl, Nat.le_of_ble_eq_true rfl⟩ ⟨Nat.le_of_ble_eq_true rfl, Nat.le_of_ble_eq_true rfl⟩ dX6_isRecord_3 (z_prop C htab (Nat.le_of_ble_eq_true rfl) (Nat.le_of_ble_eq_true rfl)) (fun v M1 _ _ I hv => ?_)
  obtain ⟨v2, rfl, hv2, hw⟩ := hv
  refine W.eq (g2 := F0 m 6 ls [.int v2]) rfl ?_
  refine lv_if_eq (tgt := 31) hx hb dX6_isRecord_6 (by decide) (fun c => ?_) (fun c => ?_)
  · replace hw := hw.1 c
    refine lv_iconst (v := 0) hx hb dX6_isRecord_31 (by decide) ?_
    exact z_zret C I hr (Or.inl rfl) ⟨_, rfl, (Or.inl rfl), hw⟩ (Nat.le_of_ble_eq_true rfl) (Nat.le_of_ble_eq_true rfl) dX6_isRecord_32
  · replace hw := hw.2 c
    refine lv_aload_n hx hb dX6_isRecord_9 rfl (lv_at hl 0 rfl) ?_
    refine lv_aload_n hx hb dX6_isRecord_10 rfl (lv_at hl 0 rfl) ?_
    refine z_getr C I fl_X6_38 hw dX6_isRecord_11 (fun v3 hw => ?_)
    refine lv_bipush (v := 6) hx hb dX6_isRecord_14 (by decide) ?_
    refine lv_iload_n hx hb dX6_isRecord_16 rfl (lv_at hl 1 rfl) ?_
    refine lv_imul hx hb dX6_isRecord_17 ?_
    refine lv_iload_n hx hb dX6_isRecord_18 rfl (lv_at hl 2 rfl) ?_
    refine lv_iadd hx hb dX6_isRecord_19 ?_
    refine z_iald C I hw dX6_isRecord_20 (fun v4 hw => ?_)
    obtain ⟨hrc, hw⟩ := hw
    refine z_callV C I (as := [.int v4]) (rest := []) (m_X6_isRecordOf E hw) kv_X6_171 vc_7 hrc rfl rfl hl.1 (Nat.le_of_ble_eq_true rfl) ⟨Nat.le_of_ble_eq_true rfl, Nat.le_of_ble_eq_true rfl⟩ ⟨Nat.le_of_ble_eq_true rfl, Nat.le_of_ble_eq_true rfl⟩ dX6_isRecord_21 (z_prop C htab (Nat.le_of_ble_eq_true rfl) (Nat.le_of_ble_eq_true rfl)) (fun v M5 _ _ I hv => ?_)
    obtain ⟨v6, rfl, hv6, hw⟩ := hv
    refine W.eq (g2 := F0 m 24 ls [.int v6]) rfl ?_
    refine lv_if_eq (tgt := 31) hx hb dX6_isRecord_24 (by decide) (fun c => ?_) (fun c => ?_)
    · replace hw := hw.1 c
      refine lv_iconst (v := 0) hx hb dX6_isRecord_31 (by decide) ?_
      exact z_zret C I hr (Or.inl rfl) ⟨_, rfl, (Or.inl rfl), hw⟩ (Nat.le_of_ble_eq_true rfl) (Nat.le_of_ble_eq_true rfl) dX6_isRecord_32
    · replace hw := hw.2 c
      refine lv_iconst (v := 1) hx hb dX6_isRecord_27 (by decide) ?_
      refine lv_goto (tgt := 32) hx hb dX6_isRecord_28 (by decide) ?_
      exact z_zret C I hr (Or.inr rfl) ⟨_, rfl, (Or.inr rfl), hw⟩ (Nat.le_of_ble_eq_true rfl) (Nat.le_of_ble_eq_true rfl) dX6_isRecord_32
set_option maxHeartbeats 4000000 in
set_option maxRecDepth 100000 in
theorem m_X6_ahead {X : zX} {l : Launch} (E : zEnv X l) {M : zM} {o : Nat} {p0 : Int32} {p1 : Int32} {P : Int32 → zM → Prop} {PX : Nat → zM → Prop} (hw : w_X6_ahead o p0 p1 M P) : zCT X l yX6_ahead cX6_ahead 5 (some .int) 1 21 0 0 M [.ref o, .int p0, .int p1] (zPi P) PX := by
  refine z_entry E (by decide) ?_
  intro p e s m args below meth c C hr htab I
  have hx := C.1.1
  have hb := C.1.2.1
  obtain ⟨ls, he, hl⟩ := z_enter (m := m) (n := 5) (vs := [.ref o, .int p0, .int p1]) (l := [(0, .ref o), (1, .int p0), (2, .int p1)]) (Nat.le_of_ble_eq_true rfl) rfl
  rw [he]
  clear he
  unfold w_X6_ahead at hw
  have hb_5 : ∀ (n : Nat) (x3 : Int32) (x4 : Int32) (M : zM) (H : Heap) (locs : List Loc) (ls : Array Slot), zWk X s M H locs → lv_has ls 5 [(0, .ref o), (1, .int p0), (2, .int p1), (3, .int x3), (4, .int x4)] → w_X6_ahead_5 o p0 p1 P n x3 x4 M → W p l e (zRm 1 21 0 0) s m args below meth c H locs 0 0 (vx_MQ below (zQc X (zPi P)) (zXc X PX) args s 0 0 (zBase X)) (F0 m 5 ls []) := by
    intro n
    induction n with
    | zero => intro _ _ M H locs ls I hl hw; exact hw.elim
    | succ n ih =>
      intro x3 x4 M H locs ls I hl hw
      unfold w_X6_ahead_5 at hw
      have hb_51 : ∀ (x4 : Int32) (y0 : Int32) (y1 : Int32) (M : zM) (H : Heap) (locs : List Loc) (ls : Array Slot), zWk X s M H locs → lv_has ls 5 [(0, .ref o), (1, .int p0), (2, .int p1), (4, .int x4)] → w_X6_ahead_51 o p0 p1 P (w_X6_ahead_5 o p0 p1 P n) x4 y0 y1 M → W p l e (zRm 1 21 0 0) s m args below meth c H locs 0 0 (vx_MQ below (zQc X (zPi P)) (zXc X PX) args s 0 0 (zBase X)) (F0 m 51 ls [.int y0, .int y1]) := by
        intro x4 y0 y1 M H locs ls I hl hw
        unfold w_X6_ahead_51 at hw
        refine lv_iadd hx hb dX6_ahead_51 ?_
        refine lv_istore_n (lv' := [(3, .int (y1 + y0)), (0, .ref o), (1, .int p0), (2, .int p1), (4, .int x4)]) hx hb dX6_ahead_52 rfl hl (by decide) rfl (fun ls hl1 => ?_)
        refine lv_iinc (v := (x4 + 1)) (lv' := [(4, .int (x4 + 1)), (3, .int (y1 + y0)), (0, .ref o), (1, .int p0), (2, .int p1)]) hx hb dX6_ahead_53 hl1 (k := 4) rfl (by rfl) (by decide) rfl (fun ls hl2 => ?_)
        refine lv_goto (tgt := 5) hx hb dX6_ahead_56 (by decide) ?_
        refine W.widen (k := 0) (n := 0) (Nat.le_of_ble_eq_true rfl) (Nat.le_of_ble_eq_true rfl) ?_
        exact ih (y1 + y0) (x4 + 1) _ _ _ ls I (lv_sub hl2 [2, 3, 4, 1, 0] rfl) hw
      refine lv_iload hx hb dX6_ahead_5 (lv_at hl 4 rfl) ?_
      refine lv_iload_n hx hb dX6_ahead_7 rfl (lv_at hl 2 rfl) ?_
      refine lv_icmp_ge (tgt := 59) hx hb dX6_ahead_8 (by decide) (fun c => ?_) (fun c => ?_)
      · replace hw := hw.1 c
        refine lv_iload_n hx hb dX6_ahead_59 rfl (lv_at hl 3 rfl) ?_
        exact z_iret C I hr ⟨_, rfl, hw⟩ (Nat.le_of_ble_eq_true rfl) (Nat.le_of_ble_eq_true rfl) dX6_ahead_60
      · replace hw := hw.2 c
        refine lv_iload_n hx hb dX6_ahead_11 rfl (lv_at hl 3 rfl) ?_
        refine lv_aload_n hx hb dX6_ahead_12 rfl (lv_at hl 0 rfl) ?_
        refine z_getr C I fl_X6_13 hw dX6_ahead_13 (fun v3 hw => ?_)
        refine lv_iconst (v := 5) hx hb dX6_ahead_16 (by decide) ?_
        refine lv_iload_n hx hb dX6_ahead_17 rfl (lv_at hl 1 rfl) ?_
        refine lv_imul hx hb dX6_ahead_18 ?_
        refine lv_iload hx hb dX6_ahead_19 (lv_at hl 4 rfl) ?_
        refine lv_iadd hx hb dX6_ahead_21 ?_
        refine z_iald C I hw dX6_ahead_22 (fun v4 hw => ?_)
        refine lv_iconst (v := 4) hx hb dX6_ahead_23 (by decide) ?_
        refine lv_icmp_ne (tgt := 50) hx hb dX6_ahead_24 (by decide) (fun c => ?_) (fun c => ?_)
        · replace hw := hw.1 c
          refine lv_iconst (v := 1) hx hb dX6_ahead_50 (by decide) ?_
          refine W.widen (k := 0) (n := 0) (Nat.le_of_ble_eq_true rfl) (Nat.le_of_ble_eq_true rfl) ?_
          exact hb_51 x4 (1 : Int32) x3 _ _ _ ls I (lv_sub hl [0, 1, 2, 4] rfl) hw
        · replace hw := hw.2 c
          refine lv_aload_n hx hb dX6_ahead_27 rfl (lv_at hl 0 rfl) ?_
          refine z_getr C I fl_X6_32 hw dX6_ahead_28 (fun v5 hw => ?_)
          refine lv_aload_n hx hb dX6_ahead_31 rfl (lv_at hl 0 rfl) ?_
          refine lv_aload_n hx hb dX6_ahead_32 rfl (lv_at hl 0 rfl) ?_
          refine z_getr C I fl_X6_16 hw dX6_ahead_33 (fun v6 hw => ?_)
          refine lv_iconst (v := 5) hx hb dX6_ahead_36 (by decide) ?_
          refine lv_iload_n hx hb dX6_ahead_37 rfl (lv_at hl 1 rfl) ?_
          refine lv_imul hx hb dX6_ahead_38 ?_
          refine lv_iload hx hb dX6_ahead_39 (lv_at hl 4 rfl) ?_
          refine lv_iadd hx hb dX6_ahead_41 ?_
          refine z_iald C I hw dX6_ahead_42 (fun v7 hw => ?_)
          obtain ⟨hrc, hw⟩ := hw
          refine z_callV C I (as := [.int v7]) (rest := [.ref v5, .int x3]) (m_X6_schemaOf E hw) kv_X6_90 vc_7 hrc rfl rfl hl.1 (Nat.le_of_ble_eq_true rfl) ⟨Nat.le_of_ble_eq_true rfl, Nat.le_of_ble_eq_true rfl⟩ ⟨Nat.le_of_ble_eq_true rfl, Nat.le_of_ble_eq_true rfl⟩ dX6_ahead_43 (z_prop C htab (Nat.le_of_ble_eq_true rfl) (Nat.le_of_ble_eq_true rfl)) (fun v M8 _ _ I hv => ?_)
          obtain ⟨v9, rfl, hw⟩ := hv
          refine W.eq (g2 := F0 m 46 ls [.int v9, .ref v5, .int x3]) rfl ?_
          refine z_iald C I hw dX6_ahead_46 (fun v10 hw => ?_)
          refine lv_goto (tgt := 51) hx hb dX6_ahead_47 (by decide) ?_
          refine W.widen (k := 0) (n := 0) (Nat.le_of_ble_eq_true rfl) (Nat.le_of_ble_eq_true rfl) ?_
          exact hb_51 x4 v10 x3 _ _ _ ls I (lv_sub hl [0, 1, 2, 4] rfl) hw
  refine lv_iconst (v := 0) hx hb dX6_ahead_0 (by decide) ?_
  refine lv_istore_n (lv' := [(3, .int (0 : Int32)), (0, .ref o), (1, .int p0), (2, .int p1)]) hx hb dX6_ahead_1 rfl hl (by decide) rfl (fun ls hl11 => ?_)
  refine lv_iconst (v := 0) hx hb dX6_ahead_2 (by decide) ?_
  refine lv_istore (lv' := [(4, .int (0 : Int32)), (3, .int (0 : Int32)), (0, .ref o), (1, .int p0), (2, .int p1)]) hx hb dX6_ahead_3 hl11 (by decide) rfl (fun ls hl12 => ?_)
  obtain ⟨nn, hw⟩ := hw
  refine W.widen (k := 0) (n := 0) (Nat.le_of_ble_eq_true rfl) (Nat.le_of_ble_eq_true rfl) ?_
  exact hb_5 nn (0 : Int32) (0 : Int32) _ _ _ ls I (lv_sub hl12 [2, 3, 4, 1, 0] rfl) hw
set_option maxHeartbeats 4000000 in
set_option maxRecDepth 100000 in
theorem m_X6_reads {X : zX} {l : Launch} (E : zEnv X l) {M : zM} {o : Nat} {p0 : Int32} {p1 : Int32} {P : Int32 → zM → Prop} {PX : Nat → zM → Prop} (hw : w_X6_reads o p0 p1 M P) : zCT X l yX6_reads cX6_reads 12 (some .int) 2 46 0 0 M [.ref o, .int p0, .int p1] (zPi P) PX := by
  refine z_entry E (by decide) ?_
  intro p e s m args below meth c C hr htab I
  have hx := C.1.1
  have hb := C.1.2.1
  obtain ⟨ls, he, hl⟩ := z_enter (m := m) (n := 12) (vs := [.ref o, .int p0, .int p1]) (l := [(0, .ref o), (1, .int p0), (2, .int p1)]) (Nat.le_of_ble_eq_true rfl) rfl
  rw [he]
  clear he
  unfold w_X6_reads at hw
  have hb_33 : ∀ (n : Nat) (x3 : Int32) (x4 : Int32) (M : zM) (H : Heap) (locs : List Loc) (ls : Array Slot), zWk X s M H locs → lv_has ls 12 [(0, .ref o), (3, .int x3), (4, .int x4)] → w_X6_reads_33 o p0 p1 P n x3 x4 M → W p l e (zRm 2 46 0 0) s m args below meth c H locs 0 0 (vx_MQ below (zQc X (zPi P)) (zXc X PX) args s 0 0 (zBase X)) (F0 m 33 ls []) := by
    intro n
    induction n with
    | zero => intro _ _ M H locs ls I hl hw; exact hw.elim
    | succ n ih =>
      intro x3 x4 M H locs ls I hl hw
      unfold w_X6_reads_33 at hw
      have hb_408 : ∀ (x3 : Int32) (x4 : Int32) (M : zM) (H : Heap) (locs : List Loc) (ls : Array Slot), zWk X s M H locs → lv_has ls 12 [(0, .ref o), (3, .int x3), (4, .int x4)] → w_X6_reads_408 o p0 p1 P (w_X6_reads_33 o p0 p1 P n) x3 x4 M → W p l e (zRm 2 46 0 0) s m args below meth c H locs 0 0 (vx_MQ below (zQc X (zPi P)) (zXc X PX) args s 0 0 (zBase X)) (F0 m 408 ls []) := by
        intro x3 x4 M H locs ls I hl hw
        unfold w_X6_reads_408 at hw
        refine lv_goto (tgt := 33) hx hb dX6_reads_408 (by decide) ?_
        refine W.widen (k := 0) (n := 0) (Nat.le_of_ble_eq_true rfl) (Nat.le_of_ble_eq_true rfl) ?_
        exact ih x3 x4 _ _ _ ls I (lv_sub hl [0, 1, 2] rfl) hw
      have hb_404 : ∀ (x3 : Int32) (x4 : Int32) (y0 : Int32) (y1 : Int32) (y2 : Nat) (M : zM) (H : Heap) (locs : List Loc) (ls : Array Slot), zWk X s M H locs → lv_has ls 12 [(0, .ref o), (3, .int x3), (4, .int x4)] → w_X6_reads_404 o p0 p1 P (w_X6_reads_33 o p0 p1 P n) x3 x4 y0 y1 y2 M → W p l e (zRm 2 46 0 0) s m args below meth c H locs 0 0 (vx_MQ below (zQc X (zPi P)) (zXc X PX) args s 0 0 (zBase X)) (F0 m 404 ls [.int y0, .int y1, .ref y2]) := by
        intro x3 x4 y0 y1 y2 M H locs ls I hl hw
        unfold w_X6_reads_404 at hw
        refine z_iast C I hw dX6_reads_404 (fun M1 _ _ I hw => ?_)
        refine lv_iinc (v := (x3 + 1)) (lv' := [(3, .int (x3 + 1)), (0, .ref o), (4, .int x4)]) hx hb dX6_reads_405 hl (k := 1) rfl (by rfl) (by decide) rfl (fun ls hl2 => ?_)
        refine W.widen (k := 0) (n := 0) (Nat.le_of_ble_eq_true rfl) (Nat.le_of_ble_eq_true rfl) ?_
        exact hb_408 (x3 + 1) x4 _ _ _ ls I (lv_sub hl2 [1, 0, 2] rfl) hw
      have hb_377 : ∀ (x3 : Int32) (x4 : Int32) (x6 : Int32) (x9 : Int32) (x11 : Int32) (M : zM) (H : Heap) (locs : List Loc) (ls : Array Slot), zWk X s M H locs → lv_has ls 12 [(0, .ref o), (3, .int x3), (4, .int x4), (6, .int x6), (9, .int x9), (11, .int x11)] → w_X6_reads_377 o p0 p1 P (w_X6_reads_33 o p0 p1 P n) x3 x4 x6 x9 x11 M → W p l e (zRm 2 46 0 0) s m args below meth c H locs 0 0 (vx_MQ below (zQc X (zPi P)) (zXc X PX) args s 0 0 (zBase X)) (F0 m 377 ls []) := by
        intro x3 x4 x6 x9 x11 M H locs ls I hl hw
        unfold w_X6_reads_377 at hw
        refine lv_aload_n hx hb dX6_reads_377 rfl (lv_at hl 0 rfl) ?_
        refine z_getr C I fl_X6_56 hw dX6_reads_378 (fun v3 hw => ?_)
        refine lv_iload_n hx hb dX6_reads_381 rfl (lv_at hl 1 rfl) ?_
        refine lv_iload hx hb dX6_reads_382 (lv_at hl 5 rfl) ?_
        refine lv_if_eq (tgt := 397) hx hb dX6_reads_384 (by decide) (fun c => ?_) (fun c => ?_)
        · replace hw := hw.1 c
          refine lv_aload_n hx hb dX6_reads_397 rfl (lv_at hl 0 rfl) ?_
          refine z_getr C I fl_X6_26 hw dX6_reads_398 (fun v4 hw => ?_)
          refine lv_iload hx hb dX6_reads_401 (lv_at hl 3 rfl) ?_
          refine z_iald C I hw dX6_reads_403 (fun v5 hw => ?_)
          refine W.widen (k := 0) (n := 0) (Nat.le_of_ble_eq_true rfl) (Nat.le_of_ble_eq_true rfl) ?_
          exact hb_404 x3 x4 v5 x3 v3 _ _ _ ls I (lv_sub hl [0, 1, 2] rfl) hw
        · replace hw := hw.2 c
          refine lv_aload_n hx hb dX6_reads_387 rfl (lv_at hl 0 rfl) ?_
          refine z_getr C I fl_X6_53 hw dX6_reads_388 (fun v6 hw => ?_)
          refine lv_iload hx hb dX6_reads_391 (lv_at hl 4 rfl) ?_
          refine z_iald C I hw dX6_reads_393 (fun v7 hw => ?_)
          refine lv_goto (tgt := 404) hx hb dX6_reads_394 (by decide) ?_
          refine W.widen (k := 0) (n := 0) (Nat.le_of_ble_eq_true rfl) (Nat.le_of_ble_eq_true rfl) ?_
          exact hb_404 x3 x4 v7 x3 v3 _ _ _ ls I (lv_sub hl [0, 1, 2] rfl) hw
      have hb_353 : ∀ (x3 : Int32) (x4 : Int32) (x6 : Int32) (x9 : Int32) (x10 : Int32) (y0 : Int32) (M : zM) (H : Heap) (locs : List Loc) (ls : Array Slot), zWk X s M H locs → lv_has ls 12 [(0, .ref o), (3, .int x3), (4, .int x4), (6, .int x6), (9, .int x9), (10, .int x10)] → w_X6_reads_353 o p0 p1 P (w_X6_reads_33 o p0 p1 P n) x3 x4 x6 x9 x10 y0 M → W p l e (zRm 2 46 0 0) s m args below meth c H locs 0 0 (vx_MQ below (zQc X (zPi P)) (zXc X PX) args s 0 0 (zBase X)) (F0 m 353 ls [.int y0]) := by
        intro x3 x4 x6 x9 x10 y0 M H locs ls I hl hw
        unfold w_X6_reads_353 at hw
        refine lv_istore (lv' := [(11, .int y0), (0, .ref o), (3, .int x3), (4, .int x4), (6, .int x6), (9, .int x9), (10, .int x10)]) hx hb dX6_reads_353 hl (by decide) rfl (fun ls hl8 => ?_)
        refine lv_iload hx hb dX6_reads_355 (lv_at hl8 6 rfl) ?_
        refine lv_if_eq (tgt := 375) hx hb dX6_reads_357 (by decide) (fun c => ?_) (fun c => ?_)
        · replace hw := hw.1 c
          refine lv_iconst (v := -1) hx hb dX6_reads_375 (by decide) ?_
          exact z_iret C I hr ⟨_, rfl, hw⟩ (Nat.le_of_ble_eq_true rfl) (Nat.le_of_ble_eq_true rfl) dX6_reads_376
        · replace hw := hw.2 c
          refine lv_iload hx hb dX6_reads_360 (lv_at hl8 0 rfl) ?_
          refine lv_if_ne (tgt := 377) hx hb dX6_reads_362 (by decide) (fun c => ?_) (fun c => ?_)
          · replace hw := hw.1 c
            refine W.widen (k := 0) (n := 0) (Nat.le_of_ble_eq_true rfl) (Nat.le_of_ble_eq_true rfl) ?_
            exact hb_377 x3 x4 x6 x9 y0 _ _ _ ls I (lv_sub hl8 [1, 2, 3, 4, 5, 0] rfl) hw
          · replace hw := hw.2 c
            refine lv_aload_n hx hb dX6_reads_365 rfl (lv_at hl8 1 rfl) ?_
            refine z_getr C I fl_X6_22 hw dX6_reads_366 (fun v9 hw => ?_)
            refine lv_iload hx hb dX6_reads_369 (lv_at hl8 4 rfl) ?_
            refine z_zald C I hw dX6_reads_371 (fun v10 hw => ?_)
            refine lv_if_ne (tgt := 377) hx hb dX6_reads_372 (by decide) (fun c => ?_) (fun c => ?_)
            · replace hw := hw.1 c
              refine W.widen (k := 0) (n := 0) (Nat.le_of_ble_eq_true rfl) (Nat.le_of_ble_eq_true rfl) ?_
              exact hb_377 x3 x4 x6 x9 y0 _ _ _ ls I (lv_sub hl8 [1, 2, 3, 4, 5, 0] rfl) hw
            · replace hw := hw.2 c
              refine lv_iconst (v := -1) hx hb dX6_reads_375 (by decide) ?_
              exact z_iret C I hr ⟨_, rfl, hw⟩ (Nat.le_of_ble_eq_true rfl) (Nat.le_of_ble_eq_true rfl) dX6_reads_376
      have hb_348 : ∀ (x3 : Int32) (x4 : Int32) (x6 : Int32) (x9 : Int32) (x10 : Int32) (M : zM) (H : Heap) (locs : List Loc) (ls : Array Slot), zWk X s M H locs → lv_has ls 12 [(0, .ref o), (3, .int x3), (4, .int x4), (6, .int x6), (9, .int x9), (10, .int x10)] → w_X6_reads_348 o p0 p1 P (w_X6_reads_33 o p0 p1 P n) x3 x4 x6 x9 x10 M → W p l e (zRm 2 46 0 0) s m args below meth c H locs 0 0 (vx_MQ below (zQc X (zPi P)) (zXc X PX) args s 0 0 (zBase X)) (F0 m 348 ls []) := by
        intro x3 x4 x6 x9 x10 M H locs ls I hl hw
        unfold w_X6_reads_348 at hw
        refine lv_iconst (v := 1) hx hb dX6_reads_348 (by decide) ?_
        refine lv_goto (tgt := 353) hx hb dX6_reads_349 (by decide) ?_
        refine W.widen (k := 0) (n := 0) (Nat.le_of_ble_eq_true rfl) (Nat.le_of_ble_eq_true rfl) ?_
        exact hb_353 x3 x4 x6 x9 x10 (1 : Int32) _ _ _ ls I (lv_sub hl [0, 1, 2, 3, 4, 5] rfl) hw
      have hb_318 : ∀ (x3 : Int32) (x4 : Int32) (x6 : Int32) (x9 : Int32) (y0 : Int32) (M : zM) (H : Heap) (locs : List Loc) (ls : Array Slot), zWk X s M H locs → lv_has ls 12 [(0, .ref o), (3, .int x3), (4, .int x4), (6, .int x6), (9, .int x9)] → w_X6_reads_318 o p0 p1 P (w_X6_reads_33 o p0 p1 P n) x3 x4 x6 x9 y0 M → W p l e (zRm 2 46 0 0) s m args below meth c H locs 0 0 (vx_MQ below (zQc X (zPi P)) (zXc X PX) args s 0 0 (zBase X)) (F0 m 318 ls [.int y0]) := by
        intro x3 x4 x6 x9 y0 M H locs ls I hl hw
        unfold w_X6_reads_318 at hw
        refine lv_istore (lv' := [(10, .int y0), (0, .ref o), (3, .int x3), (4, .int x4), (6, .int x6), (9, .int x9)]) hx hb dX6_reads_318 hl (by decide) rfl (fun ls hl11 => ?_)
        refine lv_aload_n hx hb dX6_reads_320 rfl (lv_at hl11 1 rfl) ?_
        refine z_getr C I fl_X6_13 hw dX6_reads_321 (fun v12 hw => ?_)
        refine lv_iload hx hb dX6_reads_324 (lv_at hl11 4 rfl) ?_
        refine z_iald C I hw dX6_reads_326 (fun v13 hw => ?_)
        refine lv_iconst (v := 3) hx hb dX6_reads_327 (by decide) ?_
        refine lv_icmp_ne (tgt := 348) hx hb dX6_reads_328 (by decide) (fun c => ?_) (fun c => ?_)
        · replace hw := hw.1 c
          refine W.widen (k := 0) (n := 0) (Nat.le_of_ble_eq_true rfl) (Nat.le_of_ble_eq_true rfl) ?_
          exact hb_348 x3 x4 x6 x9 y0 _ _ _ ls I (lv_sub hl11 [1, 2, 3, 4, 5, 0] rfl) hw
        · replace hw := hw.2 c
          refine lv_aload_n hx hb dX6_reads_331 rfl (lv_at hl11 1 rfl) ?_
          refine z_getr C I fl_X6_53 hw dX6_reads_332 (fun v14 hw => ?_)
          refine lv_iload hx hb dX6_reads_335 (lv_at hl11 5 rfl) ?_
          refine z_iald C I hw dX6_reads_337 (fun v15 hw => ?_)
          refine lv_aload_n hx hb dX6_reads_338 rfl (lv_at hl11 1 rfl) ?_
          refine z_getr C I fl_X6_16 hw dX6_reads_339 (fun v16 hw => ?_)
          refine lv_iload hx hb dX6_reads_342 (lv_at hl11 4 rfl) ?_
          refine z_iald C I hw dX6_reads_344 (fun v17 hw => ?_)
          refine lv_icmp_ge (tgt := 352) hx hb dX6_reads_345 (by decide) (fun c => ?_) (fun c => ?_)
          · replace hw := hw.1 c
            refine lv_iconst (v := 0) hx hb dX6_reads_352 (by decide) ?_
            refine W.widen (k := 0) (n := 0) (Nat.le_of_ble_eq_true rfl) (Nat.le_of_ble_eq_true rfl) ?_
            exact hb_353 x3 x4 x6 x9 y0 (0 : Int32) _ _ _ ls I (lv_sub hl11 [1, 2, 3, 4, 5, 0] rfl) hw
          · replace hw := hw.2 c
            refine W.widen (k := 0) (n := 0) (Nat.le_of_ble_eq_true rfl) (Nat.le_of_ble_eq_true rfl) ?_
            exact hb_348 x3 x4 x6 x9 y0 _ _ _ ls I (lv_sub hl11 [1, 2, 3, 4, 5, 0] rfl) hw
      have hb_313 : ∀ (x3 : Int32) (x4 : Int32) (x6 : Int32) (x9 : Int32) (M : zM) (H : Heap) (locs : List Loc) (ls : Array Slot), zWk X s M H locs → lv_has ls 12 [(0, .ref o), (3, .int x3), (4, .int x4), (6, .int x6), (9, .int x9)] → w_X6_reads_313 o p0 p1 P (w_X6_reads_33 o p0 p1 P n) x3 x4 x6 x9 M → W p l e (zRm 2 46 0 0) s m args below meth c H locs 0 0 (vx_MQ below (zQc X (zPi P)) (zXc X PX) args s 0 0 (zBase X)) (F0 m 313 ls []) := by
        intro x3 x4 x6 x9 M H locs ls I hl hw
        unfold w_X6_reads_313 at hw
        refine lv_iconst (v := 1) hx hb dX6_reads_313 (by decide) ?_
        refine lv_goto (tgt := 318) hx hb dX6_reads_314 (by decide) ?_
        refine W.widen (k := 0) (n := 0) (Nat.le_of_ble_eq_true rfl) (Nat.le_of_ble_eq_true rfl) ?_
        exact hb_318 x3 x4 x6 x9 (1 : Int32) _ _ _ ls I (lv_sub hl [0, 1, 2, 3, 4] rfl) hw
      have hb_317 : ∀ (x3 : Int32) (x4 : Int32) (x6 : Int32) (x9 : Int32) (M : zM) (H : Heap) (locs : List Loc) (ls : Array Slot), zWk X s M H locs → lv_has ls 12 [(0, .ref o), (3, .int x3), (4, .int x4), (6, .int x6), (9, .int x9)] → w_X6_reads_317 o p0 p1 P (w_X6_reads_33 o p0 p1 P n) x3 x4 x6 x9 M → W p l e (zRm 2 46 0 0) s m args below meth c H locs 0 0 (vx_MQ below (zQc X (zPi P)) (zXc X PX) args s 0 0 (zBase X)) (F0 m 317 ls []) := by
        intro x3 x4 x6 x9 M H locs ls I hl hw
        unfold w_X6_reads_317 at hw
        refine lv_iconst (v := 0) hx hb dX6_reads_317 (by decide) ?_
        refine W.widen (k := 0) (n := 0) (Nat.le_of_ble_eq_true rfl) (Nat.le_of_ble_eq_true rfl) ?_
        exact hb_318 x3 x4 x6 x9 (0 : Int32) _ _ _ ls I (lv_sub hl [0, 1, 2, 3, 4] rfl) hw
      have hb_275 : ∀ (x3 : Int32) (x4 : Int32) (x6 : Int32) (x8 : Int32) (x9 : Int32) (M : zM) (H : Heap) (locs : List Loc) (ls : Array Slot), zWk X s M H locs → lv_has ls 12 [(0, .ref o), (3, .int x3), (4, .int x4), (6, .int x6), (8, .int x8), (9, .int x9)] → w_X6_reads_275 o p0 p1 P (w_X6_reads_33 o p0 p1 P n) x3 x4 x6 x8 x9 M → W p l e (zRm 2 46 0 0) s m args below meth c H locs 0 0 (vx_MQ below (zQc X (zPi P)) (zXc X PX) args s 0 0 (zBase X)) (F0 m 275 ls []) := by
        intro x3 x4 x6 x8 x9 M H locs ls I hl hw
        unfold w_X6_reads_275 at hw
        refine lv_aload_n hx hb dX6_reads_275 rfl (lv_at hl 0 rfl) ?_
        refine z_getr C I fl_X6_13 hw dX6_reads_276 (fun v18 hw => ?_)
        refine lv_iload hx hb dX6_reads_279 (lv_at hl 3 rfl) ?_
        refine z_iald C I hw dX6_reads_281 (fun v19 hw => ?_)
        refine lv_aload_n hx hb dX6_reads_282 rfl (lv_at hl 0 rfl) ?_
        refine z_getr C I fl_X6_13 hw dX6_reads_283 (fun v20 hw => ?_)
        refine lv_iload hx hb dX6_reads_286 (lv_at hl 4 rfl) ?_
        refine z_iald C I hw dX6_reads_288 (fun v21 hw => ?_)
        refine lv_icmp_eq (tgt := 313) hx hb dX6_reads_289 (by decide) (fun c => ?_) (fun c => ?_)
        · replace hw := hw.1 c
          refine W.widen (k := 0) (n := 0) (Nat.le_of_ble_eq_true rfl) (Nat.le_of_ble_eq_true rfl) ?_
          exact hb_313 x3 x4 x6 x9 _ _ _ ls I (lv_sub hl [0, 1, 2, 3, 5] rfl) hw
        · replace hw := hw.2 c
          refine lv_aload_n hx hb dX6_reads_292 rfl (lv_at hl 0 rfl) ?_
          refine z_getr C I fl_X6_13 hw dX6_reads_293 (fun v22 hw => ?_)
          refine lv_iload hx hb dX6_reads_296 (lv_at hl 3 rfl) ?_
          refine z_iald C I hw dX6_reads_298 (fun v23 hw => ?_)
          refine lv_iconst (v := 1) hx hb dX6_reads_299 (by decide) ?_
          refine lv_icmp_ne (tgt := 317) hx hb dX6_reads_300 (by decide) (fun c => ?_) (fun c => ?_)
          · replace hw := hw.1 c
            refine W.widen (k := 0) (n := 0) (Nat.le_of_ble_eq_true rfl) (Nat.le_of_ble_eq_true rfl) ?_
            exact hb_317 x3 x4 x6 x9 _ _ _ ls I (lv_sub hl [0, 1, 2, 3, 5] rfl) hw
          · replace hw := hw.2 c
            refine lv_aload_n hx hb dX6_reads_303 rfl (lv_at hl 0 rfl) ?_
            refine z_getr C I fl_X6_13 hw dX6_reads_304 (fun v24 hw => ?_)
            refine lv_iload hx hb dX6_reads_307 (lv_at hl 4 rfl) ?_
            refine z_iald C I hw dX6_reads_309 (fun v25 hw => ?_)
            refine lv_if_ne (tgt := 317) hx hb dX6_reads_310 (by decide) (fun c => ?_) (fun c => ?_)
            · replace hw := hw.1 c
              refine W.widen (k := 0) (n := 0) (Nat.le_of_ble_eq_true rfl) (Nat.le_of_ble_eq_true rfl) ?_
              exact hb_317 x3 x4 x6 x9 _ _ _ ls I (lv_sub hl [0, 1, 2, 3, 5] rfl) hw
            · replace hw := hw.2 c
              refine W.widen (k := 0) (n := 0) (Nat.le_of_ble_eq_true rfl) (Nat.le_of_ble_eq_true rfl) ?_
              exact hb_313 x3 x4 x6 x9 _ _ _ ls I (lv_sub hl [0, 1, 2, 3, 5] rfl) hw
      have hb_144 : ∀ (x3 : Int32) (x4 : Int32) (x6 : Int32) (x7 : Int32) (x8 : Int32) (y0 : Int32) (M : zM) (H : Heap) (locs : List Loc) (ls : Array Slot), zWk X s M H locs → lv_has ls 12 [(0, .ref o), (3, .int x3), (4, .int x4), (6, .int x6), (7, .int x7), (8, .int x8)] → w_X6_reads_144 o p0 p1 P (w_X6_reads_33 o p0 p1 P n) x3 x4 x6 x7 x8 y0 M → W p l e (zRm 2 46 0 0) s m args below meth c H locs 0 0 (vx_MQ below (zQc X (zPi P)) (zXc X PX) args s 0 0 (zBase X)) (F0 m 144 ls [.int y0]) := by
        intro x3 x4 x6 x7 x8 y0 M H locs ls I hl hw
        unfold w_X6_reads_144 at hw
        refine lv_istore (lv' := [(9, .int y0), (0, .ref o), (3, .int x3), (4, .int x4), (6, .int x6), (7, .int x7), (8, .int x8)]) hx hb dX6_reads_144 hl (by decide) rfl (fun ls hl26 => ?_)
        refine lv_aload_n hx hb dX6_reads_146 rfl (lv_at hl26 1 rfl) ?_
        refine z_getr C I fl_X6_65 hw dX6_reads_147 (fun v27 hw => ?_)
        refine lv_iload hx hb dX6_reads_150 (lv_at hl26 3 rfl) ?_
        refine lv_dup2_11 hx hb dX6_reads_152 rfl rfl ?_
        refine z_iald C I hw dX6_reads_153 (fun v28 hw => ?_)
        refine lv_iconst (v := 1) hx hb dX6_reads_154 (by decide) ?_
        refine lv_iadd hx hb dX6_reads_155 ?_
        refine z_iast C I hw dX6_reads_156 (fun M29 _ _ I hw => ?_)
        refine lv_iload hx hb dX6_reads_157 (lv_at hl26 5 rfl) ?_
        refine lv_iconst (v := -1) hx hb dX6_reads_159 (by decide) ?_
        refine lv_icmp_ne (tgt := 194) hx hb dX6_reads_160 (by decide) (fun c => ?_) (fun c => ?_)
        · replace hw := hw.1 c
          refine lv_aload_n hx hb dX6_reads_194 rfl (lv_at hl26 1 rfl) ?_
          refine z_getr C I fl_X6_13 hw dX6_reads_195 (fun v30 hw => ?_)
          refine lv_iload hx hb dX6_reads_198 (lv_at hl26 4 rfl) ?_
          refine z_iald C I hw dX6_reads_200 (fun v31 hw => ?_)
          refine lv_iconst (v := 4) hx hb dX6_reads_201 (by decide) ?_
          refine lv_icmp_ne (tgt := 275) hx hb dX6_reads_202 (by decide) (fun c => ?_) (fun c => ?_)
          · replace hw := hw.1 c
            refine W.widen (k := 0) (n := 0) (Nat.le_of_ble_eq_true rfl) (Nat.le_of_ble_eq_true rfl) ?_
            exact hb_275 x3 x4 x6 x8 y0 _ _ _ ls I (lv_sub hl26 [1, 2, 3, 4, 6, 0] rfl) hw
          · replace hw := hw.2 c
            refine lv_aload_n hx hb dX6_reads_205 rfl (lv_at hl26 1 rfl) ?_
            refine z_getr C I fl_X6_13 hw dX6_reads_206 (fun v32 hw => ?_)
            refine lv_iload hx hb dX6_reads_209 (lv_at hl26 6 rfl) ?_
            refine z_iald C I hw dX6_reads_211 (fun v33 hw => ?_)
            refine lv_iconst (v := 4) hx hb dX6_reads_212 (by decide) ?_
            refine lv_icmp_ne (tgt := 275) hx hb dX6_reads_213 (by decide) (fun c => ?_) (fun c => ?_)
            · replace hw := hw.1 c
              refine W.widen (k := 0) (n := 0) (Nat.le_of_ble_eq_true rfl) (Nat.le_of_ble_eq_true rfl) ?_
              exact hb_275 x3 x4 x6 x8 y0 _ _ _ ls I (lv_sub hl26 [1, 2, 3, 4, 6, 0] rfl) hw
            · replace hw := hw.2 c
              refine lv_iinc (v := (x4 + 1)) (lv' := [(4, .int (x4 + 1)), (9, .int y0), (0, .ref o), (3, .int x3), (6, .int x6), (7, .int x7), (8, .int x8)]) hx hb dX6_reads_216 hl26 (k := 3) rfl (by rfl) (by decide) rfl (fun ls hl34 => ?_)
              refine lv_aload_n hx hb dX6_reads_219 rfl (lv_at hl34 2 rfl) ?_
              refine z_getr C I fl_X6_59 hw dX6_reads_220 (fun v35 hw => ?_)
              refine lv_iload hx hb dX6_reads_223 (lv_at hl34 0 rfl) ?_
              refine lv_aload_n hx hb dX6_reads_225 rfl (lv_at hl34 2 rfl) ?_
              refine lv_aload_n hx hb dX6_reads_226 rfl (lv_at hl34 2 rfl) ?_
              refine z_getr C I fl_X6_16 hw dX6_reads_227 (fun v36 hw => ?_)
              refine lv_iload hx hb dX6_reads_230 (lv_at hl34 4 rfl) ?_
              refine z_iald C I hw dX6_reads_232 (fun v37 hw => ?_)
              obtain ⟨hrc, hw⟩ := hw
              refine z_callV C I (as := [.int v37]) (rest := [.int (x4 + 1), .ref v35]) (m_X6_schemaOf E hw) kv_X6_90 vc_7 hrc rfl rfl hl34.1 (Nat.le_of_ble_eq_true rfl) ⟨Nat.le_of_ble_eq_true rfl, Nat.le_of_ble_eq_true rfl⟩ ⟨Nat.le_of_ble_eq_true rfl, Nat.le_of_ble_eq_true rfl⟩ dX6_reads_233 (z_prop C htab (Nat.le_of_ble_eq_true rfl) (Nat.le_of_ble_eq_true rfl)) (fun v M38 _ _ I hv => ?_)
              obtain ⟨v39, rfl, hw⟩ := hv
              refine W.eq (g2 := F0 m 236 ls [.int v39, .int (x4 + 1), .ref v35]) rfl ?_
              refine z_iast C I hw dX6_reads_236 (fun M40 _ _ I hw => ?_)
              refine lv_aload_n hx hb dX6_reads_237 rfl (lv_at hl34 2 rfl) ?_
              refine z_getr C I fl_X6_62 hw dX6_reads_238 (fun v41 hw => ?_)
              refine lv_iload hx hb dX6_reads_241 (lv_at hl34 0 rfl) ?_
              refine lv_aload_n hx hb dX6_reads_243 rfl (lv_at hl34 2 rfl) ?_
              refine lv_aload_n hx hb dX6_reads_244 rfl (lv_at hl34 2 rfl) ?_
              refine z_getr C I fl_X6_16 hw dX6_reads_245 (fun v42 hw => ?_)
              refine lv_iload hx hb dX6_reads_248 (lv_at hl34 6 rfl) ?_
              refine z_iald C I hw dX6_reads_250 (fun v43 hw => ?_)
              obtain ⟨hrc, hw⟩ := hw
              refine z_callV C I (as := [.int v43]) (rest := [.int (x4 + 1), .ref v41]) (m_X6_schemaOf E hw) kv_X6_90 vc_7 hrc rfl rfl hl34.1 (Nat.le_of_ble_eq_true rfl) ⟨Nat.le_of_ble_eq_true rfl, Nat.le_of_ble_eq_true rfl⟩ ⟨Nat.le_of_ble_eq_true rfl, Nat.le_of_ble_eq_true rfl⟩ dX6_reads_251 (z_prop C htab (Nat.le_of_ble_eq_true rfl) (Nat.le_of_ble_eq_true rfl)) (fun v M44 _ _ I hv => ?_)
              obtain ⟨v45, rfl, hw⟩ := hv
              refine W.eq (g2 := F0 m 254 ls [.int v45, .int (x4 + 1), .ref v41]) rfl ?_
              refine z_iast C I hw dX6_reads_254 (fun M46 _ _ I hw => ?_)
              refine lv_aload_n hx hb dX6_reads_255 rfl (lv_at hl34 2 rfl) ?_
              refine z_getr C I fl_X6_65 hw dX6_reads_256 (fun v47 hw => ?_)
              refine lv_iload hx hb dX6_reads_259 (lv_at hl34 0 rfl) ?_
              refine lv_iconst (v := 0) hx hb dX6_reads_261 (by decide) ?_
              refine z_iast C I hw dX6_reads_262 (fun M48 _ _ I hw => ?_)
              refine lv_aload_n hx hb dX6_reads_263 rfl (lv_at hl34 2 rfl) ?_
              refine z_getr C I fl_X6_68 hw dX6_reads_264 (fun v49 hw => ?_)
              refine lv_iload hx hb dX6_reads_267 (lv_at hl34 0 rfl) ?_
              refine lv_iload hx hb dX6_reads_269 (lv_at hl34 1 rfl) ?_
              refine z_iast C I hw dX6_reads_271 (fun M50 _ _ I hw => ?_)
              refine lv_goto (tgt := 408) hx hb dX6_reads_272 (by decide) ?_
              refine W.widen (k := 0) (n := 0) (Nat.le_of_ble_eq_true rfl) (Nat.le_of_ble_eq_true rfl) ?_
              exact hb_408 x3 (x4 + 1) _ _ _ ls I (lv_sub hl34 [2, 3, 0] rfl) hw
        · replace hw := hw.2 c
          refine lv_aload_n hx hb dX6_reads_163 rfl (lv_at hl26 1 rfl) ?_
          refine z_getr C I fl_X6_22 hw dX6_reads_164 (fun v51 hw => ?_)
          refine lv_iload hx hb dX6_reads_167 (lv_at hl26 4 rfl) ?_
          refine z_zald C I hw dX6_reads_169 (fun v52 hw => ?_)
          refine lv_if_ne (tgt := 175) hx hb dX6_reads_170 (by decide) (fun c => ?_) (fun c => ?_)
          · replace hw := hw.1 c
            refine lv_aload_n hx hb dX6_reads_175 rfl (lv_at hl26 1 rfl) ?_
            refine z_getr C I fl_X6_56 hw dX6_reads_176 (fun v53 hw => ?_)
            refine lv_iload_n hx hb dX6_reads_179 rfl (lv_at hl26 2 rfl) ?_
            refine lv_aload_n hx hb dX6_reads_180 rfl (lv_at hl26 1 rfl) ?_
            refine z_getr C I fl_X6_26 hw dX6_reads_181 (fun v54 hw => ?_)
            refine lv_iload hx hb dX6_reads_184 (lv_at hl26 4 rfl) ?_
            refine z_iald C I hw dX6_reads_186 (fun v55 hw => ?_)
            refine z_iast C I hw dX6_reads_187 (fun M56 _ _ I hw => ?_)
            refine lv_iinc (v := (x3 + 1)) (lv' := [(3, .int (x3 + 1)), (9, .int y0), (0, .ref o), (4, .int x4), (6, .int x6), (7, .int x7), (8, .int x8)]) hx hb dX6_reads_188 hl26 (k := 2) rfl (by rfl) (by decide) rfl (fun ls hl57 => ?_)
            refine lv_goto (tgt := 408) hx hb dX6_reads_191 (by decide) ?_
            refine W.widen (k := 0) (n := 0) (Nat.le_of_ble_eq_true rfl) (Nat.le_of_ble_eq_true rfl) ?_
            exact hb_408 (x3 + 1) x4 _ _ _ ls I (lv_sub hl57 [2, 0, 3] rfl) hw
          · replace hw := hw.2 c
            refine lv_iconst (v := -1) hx hb dX6_reads_173 (by decide) ?_
            exact z_iret C I hr ⟨_, rfl, hw⟩ (Nat.le_of_ble_eq_true rfl) (Nat.le_of_ble_eq_true rfl) dX6_reads_174
      refine lv_iload hx hb dX6_reads_33 (lv_at hl 2 rfl) ?_
      refine lv_if_lt (tgt := 411) hx hb dX6_reads_35 (by decide) (fun c => ?_) (fun c => ?_)
      · replace hw := hw.1 c
        refine lv_iload_n hx hb dX6_reads_411 rfl (lv_at hl 1 rfl) ?_
        exact z_iret C I hr ⟨_, rfl, hw⟩ (Nat.le_of_ble_eq_true rfl) (Nat.le_of_ble_eq_true rfl) dX6_reads_412
      · replace hw := hw.2 c
        refine lv_aload_n hx hb dX6_reads_38 rfl (lv_at hl 0 rfl) ?_
        refine z_getr C I fl_X6_59 hw dX6_reads_39 (fun v58 hw => ?_)
        refine lv_iload hx hb dX6_reads_42 (lv_at hl 2 rfl) ?_
        refine z_iald C I hw dX6_reads_44 (fun v59 hw => ?_)
        refine lv_istore (lv' := [(5, .int v59), (0, .ref o), (3, .int x3), (4, .int x4)]) hx hb dX6_reads_45 hl (by decide) rfl (fun ls hl60 => ?_)
        refine lv_aload_n hx hb dX6_reads_47 rfl (lv_at hl60 1 rfl) ?_
        refine z_getr C I fl_X6_65 hw dX6_reads_48 (fun v61 hw => ?_)
        refine lv_iload hx hb dX6_reads_51 (lv_at hl60 3 rfl) ?_
        refine z_iald C I hw dX6_reads_53 (fun v62 hw => ?_)
        refine lv_aload_n hx hb dX6_reads_54 rfl (lv_at hl60 1 rfl) ?_
        refine z_getr C I fl_X6_29 hw dX6_reads_55 (fun v63 hw => ?_)
        refine lv_iload hx hb dX6_reads_58 (lv_at hl60 0 rfl) ?_
        refine z_iald C I hw dX6_reads_60 (fun v64 hw => ?_)
        refine lv_icmp_ne (tgt := 70) hx hb dX6_reads_61 (by decide) (fun c => ?_) (fun c => ?_)
        · replace hw := hw.1 c
          refine lv_iconst (v := 5) hx hb dX6_reads_70 (by decide) ?_
          refine lv_iload hx hb dX6_reads_71 (lv_at hl60 0 rfl) ?_
          refine lv_imul hx hb dX6_reads_73 ?_
          refine lv_aload_n hx hb dX6_reads_74 rfl (lv_at hl60 1 rfl) ?_
          refine z_getr C I fl_X6_65 hw dX6_reads_75 (fun v65 hw => ?_)
          refine lv_iload hx hb dX6_reads_78 (lv_at hl60 3 rfl) ?_
          refine z_iald C I hw dX6_reads_80 (fun v66 hw => ?_)
          refine lv_iadd hx hb dX6_reads_81 ?_
          refine lv_istore (lv' := [(6, .int (((5 : Int32) * v59) + v66)), (5, .int v59), (0, .ref o), (3, .int x3), (4, .int x4)]) hx hb dX6_reads_82 hl60 (by decide) rfl (fun ls hl67 => ?_)
          refine lv_aload_n hx hb dX6_reads_84 rfl (lv_at hl67 2 rfl) ?_
          refine lv_iload hx hb dX6_reads_85 (lv_at hl67 0 rfl) ?_
          refine lv_aload_n hx hb dX6_reads_87 rfl (lv_at hl67 2 rfl) ?_
          refine z_getr C I fl_X6_62 hw dX6_reads_88 (fun v68 hw => ?_)
          refine lv_iload hx hb dX6_reads_91 (lv_at hl67 4 rfl) ?_
          refine z_iald C I hw dX6_reads_93 (fun v69 hw => ?_)
          obtain ⟨hrc, hw⟩ := hw
          refine z_callV C I (as := [.int (((5 : Int32) * v59) + v66), .int v69]) (rest := []) (m_X6_source E hw) kv_X6_112 vc_7 hrc rfl rfl hl67.1 (Nat.le_of_ble_eq_true rfl) ⟨Nat.le_of_ble_eq_true rfl, Nat.le_of_ble_eq_true rfl⟩ ⟨Nat.le_of_ble_eq_true rfl, Nat.le_of_ble_eq_true rfl⟩ dX6_reads_94 (z_prop C htab (Nat.le_of_ble_eq_true rfl) (Nat.le_of_ble_eq_true rfl)) (fun v M70 _ _ I hv => ?_)
          obtain ⟨v71, rfl, hw⟩ := hv
          refine W.eq (g2 := F0 m 97 ls [.int v71]) rfl ?_
          refine lv_istore (lv' := [(7, .int v71), (6, .int (((5 : Int32) * v59) + v66)), (5, .int v59), (0, .ref o), (3, .int x3), (4, .int x4)]) hx hb dX6_reads_97 hl67 (by decide) rfl (fun ls hl72 => ?_)
          refine lv_iconst (v := 5) hx hb dX6_reads_99 (by decide) ?_
          refine lv_aload_n hx hb dX6_reads_100 rfl (lv_at hl72 3 rfl) ?_
          refine z_getr C I fl_X6_62 hw dX6_reads_101 (fun v73 hw => ?_)
          refine lv_iload hx hb dX6_reads_104 (lv_at hl72 5 rfl) ?_
          refine z_iald C I hw dX6_reads_106 (fun v74 hw => ?_)
          refine lv_imul hx hb dX6_reads_107 ?_
          refine lv_iload hx hb dX6_reads_108 (lv_at hl72 0 rfl) ?_
          refine lv_iadd hx hb dX6_reads_110 ?_
          refine lv_istore (lv' := [(8, .int (((5 : Int32) * v74) + v71)), (7, .int v71), (6, .int (((5 : Int32) * v59) + v66)), (5, .int v59), (0, .ref o), (3, .int x3), (4, .int x4)]) hx hb dX6_reads_111 hl72 (by decide) rfl (fun ls hl75 => ?_)
          refine lv_iload hx hb dX6_reads_113 (lv_at hl75 1 rfl) ?_
          refine lv_iconst (v := -1) hx hb dX6_reads_115 (by decide) ?_
          refine lv_icmp_ne (tgt := 123) hx hb dX6_reads_116 (by decide) (fun c => ?_) (fun c => ?_)
          · replace hw := hw.1 c
            refine lv_aload_n hx hb dX6_reads_123 rfl (lv_at hl75 4 rfl) ?_
            refine z_getr C I fl_X6_68 hw dX6_reads_124 (fun v76 hw => ?_)
            refine lv_iload hx hb dX6_reads_127 (lv_at hl75 6 rfl) ?_
            refine z_iald C I hw dX6_reads_129 (fun v77 hw => ?_)
            refine lv_aload_n hx hb dX6_reads_130 rfl (lv_at hl75 4 rfl) ?_
            refine lv_aload_n hx hb dX6_reads_131 rfl (lv_at hl75 4 rfl) ?_
            refine z_getr C I fl_X6_62 hw dX6_reads_132 (fun v78 hw => ?_)
            refine lv_iload hx hb dX6_reads_135 (lv_at hl75 6 rfl) ?_
            refine z_iald C I hw dX6_reads_137 (fun v79 hw => ?_)
            refine lv_iload hx hb dX6_reads_138 (lv_at hl75 1 rfl) ?_
            obtain ⟨hrc, hw⟩ := hw
            refine z_callV C I (as := [.int v79, .int v71]) (rest := [.int v77]) (m_X6_ahead E hw) kv_X6_174 vc_7 hrc rfl rfl hl75.1 (Nat.le_of_ble_eq_true rfl) ⟨Nat.le_of_ble_eq_true rfl, Nat.le_of_ble_eq_true rfl⟩ ⟨Nat.le_of_ble_eq_true rfl, Nat.le_of_ble_eq_true rfl⟩ dX6_reads_140 (z_prop C htab (Nat.le_of_ble_eq_true rfl) (Nat.le_of_ble_eq_true rfl)) (fun v M80 _ _ I hv => ?_)
            obtain ⟨v81, rfl, hw⟩ := hv
            refine W.eq (g2 := F0 m 143 ls [.int v81, .int v77]) rfl ?_
            refine lv_iadd hx hb dX6_reads_143 ?_
            refine W.widen (k := 0) (n := 0) (Nat.le_of_ble_eq_true rfl) (Nat.le_of_ble_eq_true rfl) ?_
            exact hb_144 x3 x4 (((5 : Int32) * v59) + v66) v71 (((5 : Int32) * v74) + v71) (v77 + v81) _ _ _ ls I (lv_sub hl75 [4, 5, 6, 2, 1, 0] rfl) hw
          · replace hw := hw.2 c
            refine lv_iconst (v := 0) hx hb dX6_reads_119 (by decide) ?_
            refine lv_goto (tgt := 144) hx hb dX6_reads_120 (by decide) ?_
            refine W.widen (k := 0) (n := 0) (Nat.le_of_ble_eq_true rfl) (Nat.le_of_ble_eq_true rfl) ?_
            exact hb_144 x3 x4 (((5 : Int32) * v59) + v66) v71 (((5 : Int32) * v74) + v71) (0 : Int32) _ _ _ ls I (lv_sub hl75 [4, 5, 6, 2, 1, 0] rfl) hw
        · replace hw := hw.2 c
          refine lv_iinc (v := (x4 + (-1))) (lv' := [(4, .int (x4 + (-1))), (5, .int v59), (0, .ref o), (3, .int x3)]) hx hb dX6_reads_64 hl60 (k := 3) rfl (by rfl) (by decide) rfl (fun ls hl82 => ?_)
          refine lv_goto (tgt := 408) hx hb dX6_reads_67 (by decide) ?_
          refine W.widen (k := 0) (n := 0) (Nat.le_of_ble_eq_true rfl) (Nat.le_of_ble_eq_true rfl) ?_
          exact hb_408 x3 (x4 + (-1)) _ _ _ ls I (lv_sub hl82 [2, 3, 0] rfl) hw
  refine lv_iconst (v := 0) hx hb dX6_reads_0 (by decide) ?_
  refine lv_istore_n (lv' := [(3, .int (0 : Int32)), (0, .ref o), (1, .int p0), (2, .int p1)]) hx hb dX6_reads_1 rfl hl (by decide) rfl (fun ls hl83 => ?_)
  refine lv_iconst (v := 0) hx hb dX6_reads_2 (by decide) ?_
  refine lv_istore (lv' := [(4, .int (0 : Int32)), (3, .int (0 : Int32)), (0, .ref o), (1, .int p0), (2, .int p1)]) hx hb dX6_reads_3 hl83 (by decide) rfl (fun ls hl84 => ?_)
  refine lv_aload_n hx hb dX6_reads_5 rfl (lv_at hl84 2 rfl) ?_
  refine z_getr C I fl_X6_59 hw dX6_reads_6 (fun v85 hw => ?_)
  refine lv_iconst (v := 0) hx hb dX6_reads_9 (by decide) ?_
  refine lv_iload_n hx hb dX6_reads_10 rfl (lv_at hl84 3 rfl) ?_
  refine z_iast C I hw dX6_reads_11 (fun M86 _ _ I hw => ?_)
  refine lv_aload_n hx hb dX6_reads_12 rfl (lv_at hl84 2 rfl) ?_
  refine z_getr C I fl_X6_62 hw dX6_reads_13 (fun v87 hw => ?_)
  refine lv_iconst (v := 0) hx hb dX6_reads_16 (by decide) ?_
  refine lv_iload_n hx hb dX6_reads_17 rfl (lv_at hl84 4 rfl) ?_
  refine z_iast C I hw dX6_reads_18 (fun M88 _ _ I hw => ?_)
  refine lv_aload_n hx hb dX6_reads_19 rfl (lv_at hl84 2 rfl) ?_
  refine z_getr C I fl_X6_65 hw dX6_reads_20 (fun v89 hw => ?_)
  refine lv_iconst (v := 0) hx hb dX6_reads_23 (by decide) ?_
  refine lv_iconst (v := 0) hx hb dX6_reads_24 (by decide) ?_
  refine z_iast C I hw dX6_reads_25 (fun M90 _ _ I hw => ?_)
  refine lv_aload_n hx hb dX6_reads_26 rfl (lv_at hl84 2 rfl) ?_
  refine z_getr C I fl_X6_68 hw dX6_reads_27 (fun v91 hw => ?_)
  refine lv_iconst (v := 0) hx hb dX6_reads_30 (by decide) ?_
  refine lv_iconst (v := 0) hx hb dX6_reads_31 (by decide) ?_
  refine z_iast C I hw dX6_reads_32 (fun M92 _ _ I hw => ?_)
  obtain ⟨nn, hw⟩ := hw
  refine W.widen (k := 0) (n := 0) (Nat.le_of_ble_eq_true rfl) (Nat.le_of_ble_eq_true rfl) ?_
  exact hb_33 nn (0 : Int32) (0 : Int32) _ _ _ ls I (lv_sub hl84 [2, 1, 0] rfl) hw
set_option maxHeartbeats 4000000 in
set_option maxRecDepth 100000 in
theorem m_X6_read {X : zX} {l : Launch} (E : zEnv X l) {M : zM} {o : Nat} {p0 : Int32} {p1 : Int32} {p2 : Int32} {p3 : Int32} {P : Int32 → zM → Prop} {PX : Nat → zM → Prop} (hw : w_X6_read o p0 p1 p2 p3 M P) : zCT X l yX6_read cX6_read 8 (some .int) 3 77 0 0 M [.ref o, .int p0, .int p1, .int p2, .int p3] (zPi P) PX := by
  refine z_entry E (by decide) ?_
  intro p e s m args below meth c C hr htab I
  have hx := C.1.1
  have hb := C.1.2.1
  obtain ⟨ls, he, hl⟩ := z_enter (m := m) (n := 8) (vs := [.ref o, .int p0, .int p1, .int p2, .int p3]) (l := [(0, .ref o), (1, .int p0), (2, .int p1), (3, .int p2), (4, .int p3)]) (Nat.le_of_ble_eq_true rfl) rfl
  rw [he]
  clear he
  unfold w_X6_read at hw
  have hb_98 : ∀ (n : Nat) (x6 : Int32) (x7 : Int32) (M : zM) (H : Heap) (locs : List Loc) (ls : Array Slot), zWk X s M H locs → lv_has ls 8 [(0, .ref o), (6, .int x6), (7, .int x7)] → w_X6_read_98 o p0 p1 p2 p3 P n x6 x7 M → W p l e (zRm 3 77 0 0) s m args below meth c H locs 0 0 (vx_MQ below (zQc X (zPi P)) (zXc X PX) args s 0 0 (zBase X)) (F0 m 98 ls []) := by
    intro n
    induction n with
    | zero => intro _ _ M H locs ls I hl hw; exact hw.elim
    | succ n ih =>
      intro x6 x7 M H locs ls I hl hw
      unfold w_X6_read_98 at hw
      refine lv_iload hx hb dX6_read_98 (lv_at hl 2 rfl) ?_
      refine lv_iload hx hb dX6_read_100 (lv_at hl 1 rfl) ?_
      refine lv_icmp_ge (tgt := 125) hx hb dX6_read_102 (by decide) (fun c => ?_) (fun c => ?_)
      · replace hw := hw.1 c
        refine lv_aload_n hx hb dX6_read_125 rfl (lv_at hl 0 rfl) ?_
        refine lv_iload hx hb dX6_read_126 (lv_at hl 1 rfl) ?_
        refine z_put C I fl_X6_168 rfl (v := .int x6) rfl rfl hw dX6_read_128 (fun M1 _ _ I hw => ?_)
        refine lv_iload hx hb dX6_read_131 (lv_at hl 1 rfl) ?_
        exact z_iret C I hr ⟨_, rfl, hw⟩ (Nat.le_of_ble_eq_true rfl) (Nat.le_of_ble_eq_true rfl) dX6_read_133
      · replace hw := hw.2 c
        refine lv_aload_n hx hb dX6_read_105 rfl (lv_at hl 0 rfl) ?_
        refine z_getr C I fl_X6_53 hw dX6_read_106 (fun v2 hw => ?_)
        refine lv_iload hx hb dX6_read_109 (lv_at hl 2 rfl) ?_
        refine lv_aload_n hx hb dX6_read_111 rfl (lv_at hl 0 rfl) ?_
        refine z_getr C I fl_X6_56 hw dX6_read_112 (fun v3 hw => ?_)
        refine lv_iload hx hb dX6_read_115 (lv_at hl 2 rfl) ?_
        refine z_iald C I hw dX6_read_117 (fun v4 hw => ?_)
        refine z_iast C I hw dX6_read_118 (fun M5 _ _ I hw => ?_)
        refine lv_iinc (v := (x7 + 1)) (lv' := [(7, .int (x7 + 1)), (0, .ref o), (6, .int x6)]) hx hb dX6_read_119 hl (k := 2) rfl (by rfl) (by decide) rfl (fun ls hl6 => ?_)
        refine lv_goto (tgt := 98) hx hb dX6_read_122 (by decide) ?_
        refine W.widen (k := 0) (n := 0) (Nat.le_of_ble_eq_true rfl) (Nat.le_of_ble_eq_true rfl) ?_
        exact ih x6 (x7 + 1) _ _ _ ls I (lv_sub hl6 [1, 2, 0] rfl) hw
  have hb_87 : ∀ (x6 : Int32) (y0 : Int32) (y1 : Nat) (M : zM) (H : Heap) (locs : List Loc) (ls : Array Slot), zWk X s M H locs → lv_has ls 8 [(0, .ref o), (6, .int x6)] → w_X6_read_87 o p0 p1 p2 p3 P x6 y0 y1 M → W p l e (zRm 3 77 0 0) s m args below meth c H locs 0 0 (vx_MQ below (zQc X (zPi P)) (zXc X PX) args s 0 0 (zBase X)) (F0 m 87 ls [.int y0, .ref y1]) := by
    intro x6 y0 y1 M H locs ls I hl hw
    unfold w_X6_read_87 at hw
    obtain ⟨hrc, hw⟩ := hw
    refine z_callV C I (as := [.int y0]) (rest := []) (m_X6_holds E hw) kv_X6_102 vc_7 hrc rfl rfl hl.1 (Nat.le_of_ble_eq_true rfl) ⟨Nat.le_of_ble_eq_true rfl, Nat.le_of_ble_eq_true rfl⟩ ⟨Nat.le_of_ble_eq_true rfl, Nat.le_of_ble_eq_true rfl⟩ dX6_read_87 (z_prop C htab (Nat.le_of_ble_eq_true rfl) (Nat.le_of_ble_eq_true rfl)) (fun v M7 _ _ I hv => ?_)
    obtain ⟨v8, rfl, hv8, hw⟩ := hv
    refine W.eq (g2 := F0 m 90 ls [.int v8]) rfl ?_
    refine lv_if_ne (tgt := 95) hx hb dX6_read_90 (by decide) (fun c => ?_) (fun c => ?_)
    · replace hw := hw.1 c
      refine lv_iconst (v := 0) hx hb dX6_read_95 (by decide) ?_
      refine lv_istore (lv' := [(7, .int (0 : Int32)), (0, .ref o), (6, .int x6)]) hx hb dX6_read_96 hl (by decide) rfl (fun ls hl9 => ?_)
      obtain ⟨nn, hw⟩ := hw
      refine W.widen (k := 0) (n := 0) (Nat.le_of_ble_eq_true rfl) (Nat.le_of_ble_eq_true rfl) ?_
      exact hb_98 nn x6 (0 : Int32) _ _ _ ls I (lv_sub hl9 [1, 2, 0] rfl) hw
    · replace hw := hw.2 c
      refine lv_iconst (v := 0) hx hb dX6_read_93 (by decide) ?_
      exact z_iret C I hr ⟨_, rfl, hw⟩ (Nat.le_of_ble_eq_true rfl) (Nat.le_of_ble_eq_true rfl) dX6_read_94
  have hb_65 : ∀ (x5 : Int32) (x6 : Int32) (M : zM) (H : Heap) (locs : List Loc) (ls : Array Slot), zWk X s M H locs → lv_has ls 8 [(0, .ref o), (5, .int x5), (6, .int x6)] → w_X6_read_65 o p0 p1 p2 p3 P x5 x6 M → W p l e (zRm 3 77 0 0) s m args below meth c H locs 0 0 (vx_MQ below (zQc X (zPi P)) (zXc X PX) args s 0 0 (zBase X)) (F0 m 65 ls []) := by
    intro x5 x6 M H locs ls I hl hw
    unfold w_X6_read_65 at hw
    refine lv_aload_n hx hb dX6_read_65 rfl (lv_at hl 0 rfl) ?_
    refine lv_iload hx hb dX6_read_66 (lv_at hl 1 rfl) ?_
    refine lv_if_le (tgt := 76) hx hb dX6_read_68 (by decide) (fun c => ?_) (fun c => ?_)
    · replace hw := hw.1 c
      refine lv_iload hx hb dX6_read_76 (lv_at hl 2 rfl) ?_
      refine lv_iconst (v := -1) hx hb dX6_read_78 (by decide) ?_
      refine lv_icmp_ne (tgt := 86) hx hb dX6_read_79 (by decide) (fun c => ?_) (fun c => ?_)
      · replace hw := hw.1 c
        refine lv_iconst (v := 0) hx hb dX6_read_86 (by decide) ?_
        refine W.widen (k := 0) (n := 0) (Nat.le_of_ble_eq_true rfl) (Nat.le_of_ble_eq_true rfl) ?_
        exact hb_87 x6 (0 : Int32) o _ _ _ ls I (lv_sub hl [0, 2] rfl) hw
      · replace hw := hw.2 c
        refine lv_iconst (v := 3) hx hb dX6_read_82 (by decide) ?_
        refine lv_goto (tgt := 87) hx hb dX6_read_83 (by decide) ?_
        refine W.widen (k := 0) (n := 0) (Nat.le_of_ble_eq_true rfl) (Nat.le_of_ble_eq_true rfl) ?_
        exact hb_87 x6 (3 : Int32) o _ _ _ ls I (lv_sub hl [0, 2] rfl) hw
    · replace hw := hw.2 c
      refine lv_iload hx hb dX6_read_71 (lv_at hl 1 rfl) ?_
      refine lv_goto (tgt := 87) hx hb dX6_read_73 (by decide) ?_
      refine W.widen (k := 0) (n := 0) (Nat.le_of_ble_eq_true rfl) (Nat.le_of_ble_eq_true rfl) ?_
      exact hb_87 x6 x5 o _ _ _ ls I (lv_sub hl [0, 2] rfl) hw
  have hb_63 : ∀ (x5 : Int32) (y0 : Int32) (M : zM) (H : Heap) (locs : List Loc) (ls : Array Slot), zWk X s M H locs → lv_has ls 8 [(0, .ref o), (5, .int x5)] → w_X6_read_63 o p0 p1 p2 p3 P x5 y0 M → W p l e (zRm 3 77 0 0) s m args below meth c H locs 0 0 (vx_MQ below (zQc X (zPi P)) (zXc X PX) args s 0 0 (zBase X)) (F0 m 63 ls [.int y0]) := by
    intro x5 y0 M H locs ls I hl hw
    unfold w_X6_read_63 at hw
    refine lv_istore (lv' := [(6, .int y0), (0, .ref o), (5, .int x5)]) hx hb dX6_read_63 hl (by decide) rfl (fun ls hl10 => ?_)
    refine W.widen (k := 0) (n := 0) (Nat.le_of_ble_eq_true rfl) (Nat.le_of_ble_eq_true rfl) ?_
    exact hb_65 x5 y0 _ _ _ ls I (lv_sub hl10 [1, 2, 0] rfl) hw
  refine lv_aload_n hx hb dX6_read_0 rfl (lv_at hl 0 rfl) ?_
  refine lv_iload_n hx hb dX6_read_1 rfl (lv_at hl 1 rfl) ?_
  refine lv_iload_n hx hb dX6_read_2 rfl (lv_at hl 2 rfl) ?_
  refine lv_iload_n hx hb dX6_read_3 rfl (lv_at hl 3 rfl) ?_
  refine lv_iload hx hb dX6_read_4 (lv_at hl 4 rfl) ?_
  obtain ⟨hrc, hw⟩ := hw
  refine z_callV C I (as := [.int p0, .int p1, .int p2, .int p3]) (rest := []) (m_X6_errorOfBoth E hw) kv_X6_159 vc_7 hrc rfl rfl hl.1 (Nat.le_of_ble_eq_true rfl) ⟨Nat.le_of_ble_eq_true rfl, Nat.le_of_ble_eq_true rfl⟩ ⟨Nat.le_of_ble_eq_true rfl, Nat.le_of_ble_eq_true rfl⟩ dX6_read_6 (z_prop C htab (Nat.le_of_ble_eq_true rfl) (Nat.le_of_ble_eq_true rfl)) (fun v M11 _ _ I hv => ?_)
  obtain ⟨v12, rfl, hw⟩ := hv
  refine W.eq (g2 := F0 m 9 ls [.int v12]) rfl ?_
  refine lv_istore (lv' := [(5, .int v12), (0, .ref o), (1, .int p0), (2, .int p1), (3, .int p2), (4, .int p3)]) hx hb dX6_read_9 hl (by decide) rfl (fun ls hl13 => ?_)
  refine lv_iconst (v := 0) hx hb dX6_read_11 (by decide) ?_
  refine lv_istore (lv' := [(6, .int (0 : Int32)), (5, .int v12), (0, .ref o), (1, .int p0), (2, .int p1), (3, .int p2), (4, .int p3)]) hx hb dX6_read_12 hl13 (by decide) rfl (fun ls hl14 => ?_)
  refine lv_iload hx hb dX6_read_14 (lv_at hl14 1 rfl) ?_
  refine lv_if_ne (tgt := 65) hx hb dX6_read_16 (by decide) (fun c => ?_) (fun c => ?_)
  · replace hw := hw.1 c
    refine W.widen (k := 0) (n := 0) (Nat.le_of_ble_eq_true rfl) (Nat.le_of_ble_eq_true rfl) ?_
    exact hb_65 v12 (0 : Int32) _ _ _ ls I (lv_sub hl14 [2, 1, 0] rfl) hw
  · replace hw := hw.2 c
    refine lv_aload_n hx hb dX6_read_19 rfl (lv_at hl14 2 rfl) ?_
    refine z_getr C I fl_X6_38 hw dX6_read_20 (fun v15 hw => ?_)
    refine lv_bipush (v := 6) hx hb dX6_read_23 (by decide) ?_
    refine lv_iload_n hx hb dX6_read_25 rfl (lv_at hl14 5 rfl) ?_
    refine lv_imul hx hb dX6_read_26 ?_
    refine lv_iload hx hb dX6_read_27 (lv_at hl14 6 rfl) ?_
    refine lv_iadd hx hb dX6_read_29 ?_
    refine z_iald C I hw dX6_read_30 (fun v16 hw => ?_)
    refine lv_istore (lv' := [(7, .int v16), (6, .int (0 : Int32)), (5, .int v12), (0, .ref o), (1, .int p0), (2, .int p1), (3, .int p2), (4, .int p3)]) hx hb dX6_read_31 hl14 (by decide) rfl (fun ls hl17 => ?_)
    refine lv_aload_n hx hb dX6_read_33 rfl (lv_at hl17 3 rfl) ?_
    refine lv_iload hx hb dX6_read_34 (lv_at hl17 0 rfl) ?_
    obtain ⟨hrc, hw⟩ := hw
    refine z_callV C I (as := [.int v16]) (rest := []) (m_X6_isRecordOf E hw) kv_X6_171 vc_7 hrc rfl rfl hl17.1 (Nat.le_of_ble_eq_true rfl) ⟨Nat.le_of_ble_eq_true rfl, Nat.le_of_ble_eq_true rfl⟩ ⟨Nat.le_of_ble_eq_true rfl, Nat.le_of_ble_eq_true rfl⟩ dX6_read_36 (z_prop C htab (Nat.le_of_ble_eq_true rfl) (Nat.le_of_ble_eq_true rfl)) (fun v M18 _ _ I hv => ?_)
    obtain ⟨v19, rfl, hv19, hw⟩ := hv
    refine W.eq (g2 := F0 m 39 ls [.int v19]) rfl ?_
    refine lv_if_eq (tgt := 62) hx hb dX6_read_39 (by decide) (fun c => ?_) (fun c => ?_)
    · replace hw := hw.1 c
      refine lv_iconst (v := -1) hx hb dX6_read_62 (by decide) ?_
      refine W.widen (k := 0) (n := 0) (Nat.le_of_ble_eq_true rfl) (Nat.le_of_ble_eq_true rfl) ?_
      exact hb_63 v12 (-1 : Int32) _ _ _ ls I (lv_sub hl17 [3, 2] rfl) hw
    · replace hw := hw.2 c
      refine lv_aload_n hx hb dX6_read_42 rfl (lv_at hl17 3 rfl) ?_
      refine lv_aload_n hx hb dX6_read_43 rfl (lv_at hl17 3 rfl) ?_
      refine z_getr C I fl_X6_38 hw dX6_read_44 (fun v20 hw => ?_)
      refine lv_bipush (v := 6) hx hb dX6_read_47 (by decide) ?_
      refine lv_iload_n hx hb dX6_read_49 rfl (lv_at hl17 4 rfl) ?_
      refine lv_imul hx hb dX6_read_50 ?_
      refine lv_iload_n hx hb dX6_read_51 rfl (lv_at hl17 5 rfl) ?_
      refine lv_iadd hx hb dX6_read_52 ?_
      refine z_iald C I hw dX6_read_53 (fun v21 hw => ?_)
      refine lv_iload hx hb dX6_read_54 (lv_at hl17 0 rfl) ?_
      obtain ⟨hrc, hw⟩ := hw
      refine z_callV C I (as := [.int v21, .int v16]) (rest := []) (m_X6_reads E hw) kv_X6_177 vc_7 hrc rfl rfl hl17.1 (Nat.le_of_ble_eq_true rfl) ⟨Nat.le_of_ble_eq_true rfl, Nat.le_of_ble_eq_true rfl⟩ ⟨Nat.le_of_ble_eq_true rfl, Nat.le_of_ble_eq_true rfl⟩ dX6_read_56 (z_prop C htab (Nat.le_of_ble_eq_true rfl) (Nat.le_of_ble_eq_true rfl)) (fun v M22 _ _ I hv => ?_)
      obtain ⟨v23, rfl, hw⟩ := hv
      refine W.eq (g2 := F0 m 59 ls [.int v23]) rfl ?_
      refine lv_goto (tgt := 63) hx hb dX6_read_59 (by decide) ?_
      refine W.widen (k := 0) (n := 0) (Nat.le_of_ble_eq_true rfl) (Nat.le_of_ble_eq_true rfl) ?_
      exact hb_63 v12 v23 _ _ _ ls I (lv_sub hl17 [3, 2] rfl) hw
set_option maxHeartbeats 4000000 in
set_option maxRecDepth 100000 in
theorem m_X6_valueAt {X : zX} {l : Launch} (E : zEnv X l) {M : zM} {o : Nat} {p0 : Int32} {P : Int32 → zM → Prop} {PX : Nat → zM → Prop} (hw : w_X6_valueAt o p0 M P) : zCT X l yX6_valueAt cX6_valueAt 2 (some .int) 1 22 0 0 M [.ref o, .int p0] (zPi P) PX := by
  refine z_entry E (by decide) ?_
  intro p e s m args below meth c C hr htab I
  have hx := C.1.1
  have hb := C.1.2.1
  obtain ⟨ls, he, hl⟩ := z_enter (m := m) (n := 2) (vs := [.ref o, .int p0]) (l := [(0, .ref o), (1, .int p0)]) (Nat.le_of_ble_eq_true rfl) rfl
  rw [he]
  clear he
  unfold w_X6_valueAt at hw
  have hb_20 : ∀ (y0 : Int32) (y1 : Nat) (M : zM) (H : Heap) (locs : List Loc) (ls : Array Slot), zWk X s M H locs → lv_has ls 2 [(0, .ref o), (1, .int p0)] → w_X6_valueAt_20 o p0 P y0 y1 M → W p l e (zRm 1 22 0 0) s m args below meth c H locs 0 0 (vx_MQ below (zQc X (zPi P)) (zXc X PX) args s 0 0 (zBase X)) (F0 m 20 ls [.int y0, .ref y1]) := by
    intro y0 y1 M H locs ls I hl hw
    unfold w_X6_valueAt_20 at hw
    obtain ⟨hrc, hw⟩ := hw
    refine z_callV C I (as := [.int y0]) (rest := []) (m_X6_holds E hw) kv_X6_102 vc_7 hrc rfl rfl hl.1 (Nat.le_of_ble_eq_true rfl) ⟨Nat.le_of_ble_eq_true rfl, Nat.le_of_ble_eq_true rfl⟩ ⟨Nat.le_of_ble_eq_true rfl, Nat.le_of_ble_eq_true rfl⟩ dX6_valueAt_20 (z_prop C htab (Nat.le_of_ble_eq_true rfl) (Nat.le_of_ble_eq_true rfl)) (fun v M1 _ _ I hv => ?_)
    obtain ⟨v2, rfl, hv2, hw⟩ := hv
    refine W.eq (g2 := F0 m 23 ls [.int v2]) rfl ?_
    refine lv_if_eq (tgt := 35) hx hb dX6_valueAt_23 (by decide) (fun c => ?_) (fun c => ?_)
    · replace hw := hw.1 c
      refine lv_iconst (v := 0) hx hb dX6_valueAt_35 (by decide) ?_
      exact z_iret C I hr ⟨_, rfl, hw⟩ (Nat.le_of_ble_eq_true rfl) (Nat.le_of_ble_eq_true rfl) dX6_valueAt_36
    · replace hw := hw.2 c
      refine lv_aload_n hx hb dX6_valueAt_26 rfl (lv_at hl 0 rfl) ?_
      refine z_getr C I fl_X6_53 hw dX6_valueAt_27 (fun v3 hw => ?_)
      refine lv_iload_n hx hb dX6_valueAt_30 rfl (lv_at hl 1 rfl) ?_
      refine z_iald C I hw dX6_valueAt_31 (fun v4 hw => ?_)
      refine lv_goto (tgt := 36) hx hb dX6_valueAt_32 (by decide) ?_
      exact z_iret C I hr ⟨_, rfl, hw⟩ (Nat.le_of_ble_eq_true rfl) (Nat.le_of_ble_eq_true rfl) dX6_valueAt_36
  refine lv_aload_n hx hb dX6_valueAt_0 rfl (lv_at hl 0 rfl) ?_
  refine lv_iload_n hx hb dX6_valueAt_1 rfl (lv_at hl 1 rfl) ?_
  refine lv_iconst (v := 0) hx hb dX6_valueAt_2 (by decide) ?_
  refine lv_aload_n hx hb dX6_valueAt_3 rfl (lv_at hl 0 rfl) ?_
  refine z_geti C I fl_X6_168 hw dX6_valueAt_4 (fun v5 hw => ?_)
  refine lv_iconst (v := 1) hx hb dX6_valueAt_7 (by decide) ?_
  refine lv_isub hx hb dX6_valueAt_8 ?_
  refine z_callS C I (as := [.int p0, .int (0 : Int32), .int (v5 - (1 : Int32))]) (rest := [.ref o]) (m_X6_in E hw) ks_X6_75 rfl rfl hl.1 (Nat.le_of_ble_eq_true rfl) ⟨Nat.le_of_ble_eq_true rfl, Nat.le_of_ble_eq_true rfl⟩ ⟨Nat.le_of_ble_eq_true rfl, Nat.le_of_ble_eq_true rfl⟩ dX6_valueAt_9 (z_prop C htab (Nat.le_of_ble_eq_true rfl) (Nat.le_of_ble_eq_true rfl)) (fun v M6 _ _ I hv => ?_)
  obtain ⟨v7, rfl, hv7, hw⟩ := hv
  refine W.eq (g2 := F0 m 12 ls [.int v7, .ref o]) rfl ?_
  refine lv_if_eq (tgt := 19) hx hb dX6_valueAt_12 (by decide) (fun c => ?_) (fun c => ?_)
  · replace hw := hw.1 c
    refine lv_iconst (v := 1) hx hb dX6_valueAt_19 (by decide) ?_
    refine W.widen (k := 0) (n := 0) (Nat.le_of_ble_eq_true rfl) (Nat.le_of_ble_eq_true rfl) ?_
    exact hb_20 (1 : Int32) o _ _ _ ls I (lv_sub hl [0, 1] rfl) hw
  · replace hw := hw.2 c
    refine lv_iconst (v := 0) hx hb dX6_valueAt_15 (by decide) ?_
    refine lv_goto (tgt := 20) hx hb dX6_valueAt_16 (by decide) ?_
    refine W.widen (k := 0) (n := 0) (Nat.le_of_ble_eq_true rfl) (Nat.le_of_ble_eq_true rfl) ?_
    exact hb_20 (0 : Int32) o _ _ _ ls I (lv_sub hl [0, 1] rfl) hw
