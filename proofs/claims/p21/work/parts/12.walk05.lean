theorem m_X5_readSchemaR {X : zX} {l : Launch} (E : zEnv X l) (d : Nat) : ∀ (p0 : Option Nat) (p1 : Option Nat) (p2 : Nat) (p3 : Int32) (p4 : Nat) (p5 : Int32) (M : zM) (P : Int32 → zM → Prop) {PX : Nat → zM → Prop}, w_X5_readSchemaR d p0 p1 p2 p3 p4 p5 M P → zCT X l yX5_readSchema cX5_readSchema 7 (some .boolean) (2 * d + 12) (100 * d + 300) 0 0 M [va_rf p0, va_rf p1, .ref p2, .int p3, .ref p4, .int p5] (zPz P) PX := by
  induction d with
  | zero => intro p0 p1 p2 p3 p4 p5 M P PX hw; exact hw.elim
  | succ d ih =>
    intro p0 p1 p2 p3 p4 p5 M P PX hw
    unfold w_X5_readSchemaR at hw
    exact m_X5_readSchemaB E (2 * d + 12) (100 * d + 300) (by omega) (by omega) ih hw
theorem m_X5_readSchema {X : zX} {l : Launch} (E : zEnv X l) {M : zM} {p0 : Option Nat} {p1 : Option Nat} {p2 : Nat} {p3 : Int32} {p4 : Nat} {p5 : Int32} {P : Int32 → zM → Prop} {PX : Nat → zM → Prop} (hw : w_X5_readSchema p0 p1 p2 p3 p4 p5 M P) : zCT X l yX5_readSchema cX5_readSchema 7 (some .boolean) 102 4800 0 0 M [va_rf p0, va_rf p1, .ref p2, .int p3, .ref p4, .int p5] (zPz P) PX := m_X5_readSchemaR E 45 p0 p1 p2 p3 p4 p5 M P hw

set_option maxHeartbeats 4000000 in
set_option maxRecDepth 100000 in
theorem m_X5_readsAll {X : zX} {l : Launch} (E : zEnv X l) {M : zM} {o : Nat} {p0 : Int32} {p1 : Int32} {p2 : Int32} {p3 : Int32} {P : Int32 → zM → Prop} {PX : Nat → zM → Prop} (hw : w_X5_readsAll o p0 p1 p2 p3 M P PX) : zCT X l yX5_readsAll cX5_readsAll 9 (some .boolean) 103 4826 7 42 M [.ref o, .int p0, .int p1, .int p2, .int p3] (zPz P) PX := by
  refine z_entry E (by decide) ?_
  intro p e s m args below meth c C hr htab I
  have hx := C.1.1
  have hb := C.1.2.1
  obtain ⟨ls, he, hl⟩ := z_enter (m := m) (n := 9) (vs := [.ref o, .int p0, .int p1, .int p2, .int p3]) (l := [(0, .ref o), (1, .int p0), (2, .int p1), (3, .int p2), (4, .int p3)]) (Nat.le_of_ble_eq_true rfl) rfl
  rw [he]
  clear he
  unfold w_X5_readsAll at hw
  have hb_54 : ∀ (n : Nat) (x5 : Option Nat) (x6 : Option Nat) (x7 : Int32) (x8 : Int32) (M : zM) (H : Heap) (locs : List Loc) (ls : Array Slot), zWk X s M H locs → lv_has ls 9 [(0, .ref o), (5, va_rf x5), (6, va_rf x6), (7, .int x7), (8, .int x8)] → w_X5_readsAll_54 o p0 p1 p2 p3 P PX n x5 x6 x7 x8 M → W p l e (zRm 103 4826 7 42) s m args below meth c H locs 6 36 (vx_MQ below (zQc X (zPz P)) (zXc X PX) args s 7 42 (zBase X)) (F0 m 54 ls []) := by
    intro n
    induction n with
    | zero => intro _ _ _ _ M H locs ls I hl hw; exact hw.elim
    | succ n ih =>
      intro x5 x6 x7 x8 M H locs ls I hl hw
      unfold w_X5_readsAll_54 at hw
      refine lv_iload hx hb dX5_readsAll_54 (lv_at hl 4 rfl) ?_
      refine lv_iload hx hb dX5_readsAll_56 (lv_at hl 3 rfl) ?_
      refine lv_icmp_ge (tgt := 110) hx hb dX5_readsAll_58 (by decide) (fun c => ?_) (fun c => ?_)
      · replace hw := hw.1 c
        refine lv_iconst (v := 1) hx hb dX5_readsAll_110 (by decide) ?_
        exact z_zret C I hr (Or.inr rfl) ⟨_, rfl, (Or.inr rfl), hw⟩ (Nat.le_of_ble_eq_true rfl) (Nat.le_of_ble_eq_true rfl) dX5_readsAll_111
      · replace hw := hw.2 c
        refine lv_aload_n hx hb dX5_readsAll_61 rfl (lv_at hl 0 rfl) ?_
        refine z_getr C I fl_X5_43 hw dX5_readsAll_62 (fun v1 hw => ?_)
        refine z_aload C (r := x6) dX5_readsAll_65 (lv_at hl 2 rfl) ?_
        obtain ⟨a2, hq1, hq2⟩ := hw
        subst hq1
        have hw := hq2
        clear hq2
        refine W.eq (g2 := F0 m 67 ls [.ref a2, .ref v1]) rfl ?_
        have hl3 : lv_has ls 9 [(0, .ref o), (5, va_rf x5), (6, .ref a2), (7, .int x7), (8, .int x8)] := hl
        refine z_getr C I fl_X5_74 hw dX5_readsAll_67 (fun v4 hw => ?_)
        refine lv_iload hx hb dX5_readsAll_70 (lv_at hl3 4 rfl) ?_
        refine z_callS C I (as := [.ref v1, .ref v4, .int x8]) (rest := []) (m_X5_putSmallRecord E hw) ks_X5_215 rfl rfl hl3.1 (Nat.le_of_ble_eq_true rfl) ⟨Nat.le_of_ble_eq_true rfl, Nat.le_of_ble_eq_true rfl⟩ ⟨Nat.le_of_ble_eq_true rfl, Nat.le_of_ble_eq_true rfl⟩ dX5_readsAll_72 (z_prop C htab (Nat.le_of_ble_eq_true rfl) (Nat.le_of_ble_eq_true rfl)) (fun v M5 _ _ I hv => ?_)
        obtain ⟨rfl, hw⟩ := hv
        refine W.eq (g2 := F0 m 75 ls []) rfl ?_
        refine lv_aload_n hx hb dX5_readsAll_75 rfl (lv_at hl3 0 rfl) ?_
        refine z_getr C I fl_X5_40 hw dX5_readsAll_76 (fun v6 hw => ?_)
        obtain ⟨hrc, hw⟩ := hw
        refine z_callV C I (as := []) (rest := []) (m_X1_empty E hw) kv_X5_219 vc_2 hrc rfl rfl hl3.1 (Nat.le_of_ble_eq_true rfl) ⟨Nat.le_of_ble_eq_true rfl, Nat.le_of_ble_eq_true rfl⟩ ⟨Nat.le_of_ble_eq_true rfl, Nat.le_of_ble_eq_true rfl⟩ dX5_readsAll_79 (z_prop C htab (Nat.le_of_ble_eq_true rfl) (Nat.le_of_ble_eq_true rfl)) (fun v M7 _ _ I hv => ?_)
        obtain ⟨rfl, hw⟩ := hv
        refine W.eq (g2 := F0 m 82 ls []) rfl ?_
        refine z_aload C (r := x5) dX5_readsAll_82 (lv_at hl3 1 rfl) ?_
        refine lv_aload hx hb dX5_readsAll_84 (lv_at hl3 2 rfl) ?_
        refine lv_aload_n hx hb dX5_readsAll_86 rfl (lv_at hl3 0 rfl) ?_
        refine z_getr C I fl_X5_43 hw dX5_readsAll_87 (fun v8 hw => ?_)
        refine lv_iconst (v := 0) hx hb dX5_readsAll_90 (by decide) ?_
        refine lv_aload_n hx hb dX5_readsAll_91 rfl (lv_at hl3 0 rfl) ?_
        refine z_getr C I fl_X5_40 hw dX5_readsAll_92 (fun v9 hw => ?_)
        refine lv_iconst (v := 0) hx hb dX5_readsAll_95 (by decide) ?_
        refine z_callS C I (as := [va_rf x5, .ref a2, .ref v8, .int (0 : Int32), .ref v9, .int (0 : Int32)]) (rest := []) (m_X5_readSchema E hw) ks_X5_220 rfl rfl hl3.1 (Nat.le_of_ble_eq_true rfl) ⟨Nat.le_of_ble_eq_true rfl, Nat.le_of_ble_eq_true rfl⟩ ⟨Nat.le_of_ble_eq_true rfl, Nat.le_of_ble_eq_true rfl⟩ dX5_readsAll_96 (z_prop C htab (Nat.le_of_ble_eq_true rfl) (Nat.le_of_ble_eq_true rfl)) (fun v M10 _ _ I hv => ?_)
        obtain ⟨v11, rfl, hv11, hw⟩ := hv
        refine W.eq (g2 := F0 m 99 ls [.int v11]) rfl ?_
        refine lv_if_ne (tgt := 104) hx hb dX5_readsAll_99 (by decide) (fun c => ?_) (fun c => ?_)
        · replace hw := hw.1 c
          refine lv_iinc (v := (x8 + 1)) (lv' := [(8, .int (x8 + 1)), (0, .ref o), (5, va_rf x5), (6, .ref a2), (7, .int x7)]) hx hb dX5_readsAll_104 hl3 (k := 4) rfl (by rfl) (by decide) rfl (fun ls hl12 => ?_)
          refine lv_goto (tgt := 54) hx hb dX5_readsAll_107 (by decide) ?_
          refine W.widen (k := 6) (n := 36) (Nat.le_of_ble_eq_true rfl) (Nat.le_of_ble_eq_true rfl) ?_
          exact ih x5 (some a2) x7 (x8 + 1) _ _ _ ls I (lv_sub hl12 [1, 2, 3, 4, 0] rfl) hw
        · replace hw := hw.2 c
          refine lv_iconst (v := 0) hx hb dX5_readsAll_102 (by decide) ?_
          exact z_zret C I hr (Or.inl rfl) ⟨_, rfl, (Or.inl rfl), hw⟩ (Nat.le_of_ble_eq_true rfl) (Nat.le_of_ble_eq_true rfl) dX5_readsAll_103
  refine lv_aload_n hx hb dX5_readsAll_0 rfl (lv_at hl 0 rfl) ?_
  refine lv_iload_n hx hb dX5_readsAll_1 rfl (lv_at hl 1 rfl) ?_
  refine lv_iload_n hx hb dX5_readsAll_2 rfl (lv_at hl 3 rfl) ?_
  obtain ⟨hrc, hw⟩ := hw
  refine z_callV C I (as := [.int p0, .int p2]) (rest := []) (m_X5_demandSubjects E hw) kv_X5_201 vc_6 hrc rfl rfl hl.1 (Nat.le_of_ble_eq_true rfl) ⟨Nat.le_of_ble_eq_true rfl, Nat.le_of_ble_eq_true rfl⟩ ⟨Nat.le_of_ble_eq_true rfl, Nat.le_of_ble_eq_true rfl⟩ dX5_readsAll_3 (z_prop C htab (Nat.le_of_ble_eq_true rfl) (Nat.le_of_ble_eq_true rfl)) (fun v M13 _ _ I hv => ?_)
  obtain ⟨rfl, hw⟩ := hv
  refine W.eq (g2 := F0 m 6 ls []) rfl ?_
  refine lv_aload_n hx hb dX5_readsAll_6 rfl (lv_at hl 0 rfl) ?_
  refine lv_iload_n hx hb dX5_readsAll_7 rfl (lv_at hl 1 rfl) ?_
  refine lv_iload_n hx hb dX5_readsAll_8 rfl (lv_at hl 2 rfl) ?_
  obtain ⟨hrc, hw⟩ := hw
  refine z_callV C I (as := [.int p0, .int p1]) (rest := []) (m_X5_demandedSchema E hw) kv_X5_194 vc_6 hrc rfl rfl hl.1 (Nat.le_of_ble_eq_true rfl) ⟨Nat.le_of_ble_eq_true rfl, Nat.le_of_ble_eq_true rfl⟩ ⟨Nat.le_of_ble_eq_true rfl, Nat.le_of_ble_eq_true rfl⟩ dX5_readsAll_9 (z_prop C htab (Nat.le_of_ble_eq_true rfl) (Nat.le_of_ble_eq_true rfl)) (fun v M14 _ _ I hv => ?_)
  obtain ⟨v15, rfl, hw⟩ := hv
  refine W.eq (g2 := F0 m 12 ls [va_rf v15]) rfl ?_
  refine z_astore (lv' := [(5, va_rf v15), (0, .ref o), (1, .int p0), (2, .int p1), (3, .int p2), (4, .int p3)]) C (r := v15) dX5_readsAll_12 hl (by decide) rfl (fun ls hl16 => ?_)
  refine lv_aload_n hx hb dX5_readsAll_14 rfl (lv_at hl16 1 rfl) ?_
  refine lv_iload_n hx hb dX5_readsAll_15 rfl (lv_at hl16 4 rfl) ?_
  refine lv_iload hx hb dX5_readsAll_16 (lv_at hl16 5 rfl) ?_
  obtain ⟨hrc, hw⟩ := hw
  refine z_callV C I (as := [.int p2, .int p3]) (rest := []) (m_X5_demandedSchema E hw) kv_X5_194 vc_6 hrc rfl rfl hl16.1 (Nat.le_of_ble_eq_true rfl) ⟨Nat.le_of_ble_eq_true rfl, Nat.le_of_ble_eq_true rfl⟩ ⟨Nat.le_of_ble_eq_true rfl, Nat.le_of_ble_eq_true rfl⟩ dX5_readsAll_18 (z_prop C htab (Nat.le_of_ble_eq_true rfl) (Nat.le_of_ble_eq_true rfl)) (fun v M17 _ _ I hv => ?_)
  obtain ⟨v18, rfl, hw⟩ := hv
  refine W.eq (g2 := F0 m 21 ls [va_rf v18]) rfl ?_
  refine z_astore (lv' := [(6, va_rf v18), (5, va_rf v15), (0, .ref o), (1, .int p0), (2, .int p1), (3, .int p2), (4, .int p3)]) C (r := v18) dX5_readsAll_21 hl16 (by decide) (by simp [z_catR]) (fun ls hl19 => ?_)
  refine z_aload C (r := v18) dX5_readsAll_23 (lv_at hl19 0 rfl) ?_
  obtain ⟨a20, hq1, hq2⟩ := hw
  subst hq1
  have hw := hq2
  clear hq2
  refine W.eq (g2 := F0 m 25 ls [.ref a20]) rfl ?_
  have hl21 : lv_has ls 9 [(6, .ref a20), (5, va_rf v15), (0, .ref o), (1, .int p0), (2, .int p1), (3, .int p2), (4, .int p3)] := hl19
  refine z_getr C I fl_X5_74 hw dX5_readsAll_25 (fun v22 hw => ?_)
  refine z_callS C I (as := [.ref v22]) (rest := []) (m_X5_countSmallRecords E hw) ks_X5_209 rfl rfl hl21.1 (Nat.le_of_ble_eq_true rfl) ⟨Nat.le_of_ble_eq_true rfl, Nat.le_of_ble_eq_true rfl⟩ ⟨Nat.le_of_ble_eq_true rfl, Nat.le_of_ble_eq_true rfl⟩ dX5_readsAll_28 (z_prop C htab (Nat.le_of_ble_eq_true rfl) (Nat.le_of_ble_eq_true rfl)) (fun v M23 _ _ I hv => ?_)
  obtain ⟨v24, rfl, hw⟩ := hv
  refine W.eq (g2 := F0 m 31 ls [.int v24]) rfl ?_
  refine lv_istore (lv' := [(7, .int v24), (6, .ref a20), (5, va_rf v15), (0, .ref o), (1, .int p0), (2, .int p1), (3, .int p2), (4, .int p3)]) hx hb dX5_readsAll_31 hl21 (by decide) rfl (fun ls hl25 => ?_)
  refine lv_iload hx hb dX5_readsAll_33 (lv_at hl25 0 rfl) ?_
  refine lv_sipush (v := 300) hx hb dX5_readsAll_35 (by decide) ?_
  refine lv_icmp_le (tgt := 51) hx hb dX5_readsAll_38 (by decide) (fun c => ?_) (fun c => ?_)
  · replace hw := hw.1 c
    refine lv_iconst (v := 0) hx hb dX5_readsAll_51 (by decide) ?_
    refine lv_istore (lv' := [(8, .int (0 : Int32)), (7, .int v24), (6, .ref a20), (5, va_rf v15), (0, .ref o), (1, .int p0), (2, .int p1), (3, .int p2), (4, .int p3)]) hx hb dX5_readsAll_52 hl25 (by decide) rfl (fun ls hl26 => ?_)
    obtain ⟨nn, hw⟩ := hw
    refine W.widen (k := 6) (n := 36) (Nat.le_of_ble_eq_true rfl) (Nat.le_of_ble_eq_true rfl) ?_
    exact hb_54 nn v15 (some a20) v24 (0 : Int32) _ _ _ ls I (lv_sub hl26 [4, 3, 2, 1, 0] rfl) hw
  · replace hw := hw.2 c
    exact z_throw C htab I 3 kt_X5_91_213 hw hl25.1 dX5_readsAll_41 dX5_readsAll_44 dX5_readsAll_45 dX5_readsAll_47 dX5_readsAll_50 ⟨Nat.le_of_ble_eq_true rfl, Nat.le_of_ble_eq_true rfl, Nat.le_of_ble_eq_true rfl, Nat.le_of_ble_eq_true rfl⟩ (Nat.le_of_ble_eq_true rfl) (Nat.le_of_ble_eq_true rfl)
set_option maxHeartbeats 4000000 in
set_option maxRecDepth 100000 in
theorem m_X5_value {X : zX} {l : Launch} (E : zEnv X l) {M : zM} {o : Nat} {p0 : Int32} {P : Int32 → zM → Prop} {PX : Nat → zM → Prop} (hw : w_X5_value o p0 M P PX) : zCT X l yX5_value cX5_value 2 (some .int) 6 90 1 6 M [.ref o, .int p0] (zPi P) PX := by
  refine z_entry E (by decide) ?_
  intro p e s m args below meth c C hr htab I
  have hx := C.1.1
  have hb := C.1.2.1
  obtain ⟨ls, he, hl⟩ := z_enter (m := m) (n := 2) (vs := [.ref o, .int p0]) (l := [(0, .ref o), (1, .int p0)]) (Nat.le_of_ble_eq_true rfl) rfl
  rw [he]
  clear he
  unfold w_X5_value at hw
  refine lv_aload_n hx hb dX5_value_0 rfl (lv_at hl 0 rfl) ?_
  refine z_getr C I fl_X5_36 hw dX5_value_1 (fun v1 hw => ?_)
  obtain ⟨hrc, hw⟩ := hw
  refine z_callV C I (as := []) (rest := []) (m_X1_count E hw) kv_X5_77 vc_2 hrc rfl rfl hl.1 (Nat.le_of_ble_eq_true rfl) ⟨Nat.le_of_ble_eq_true rfl, Nat.le_of_ble_eq_true rfl⟩ ⟨Nat.le_of_ble_eq_true rfl, Nat.le_of_ble_eq_true rfl⟩ dX5_value_4 (z_prop C htab (Nat.le_of_ble_eq_true rfl) (Nat.le_of_ble_eq_true rfl)) (fun v M2 _ _ I hv => ?_)
  obtain ⟨v3, rfl, hw⟩ := hv
  refine W.eq (g2 := F0 m 7 ls [.int v3]) rfl ?_
  refine lv_bipush (v := 20) hx hb dX5_value_7 (by decide) ?_
  refine lv_icmp_lt (tgt := 22) hx hb dX5_value_9 (by decide) (fun c => ?_) (fun c => ?_)
  · replace hw := hw.1 c
    refine lv_aload_n hx hb dX5_value_22 rfl (lv_at hl 0 rfl) ?_
    refine z_getr C I fl_X5_36 hw dX5_value_23 (fun v4 hw => ?_)
    refine lv_iload_n hx hb dX5_value_26 rfl (lv_at hl 1 rfl) ?_
    obtain ⟨hrc, hw⟩ := hw
    refine z_callV C I (as := [.int p0]) (rest := []) (m_X1_add E hw) kv_X5_226 vc_2 hrc rfl rfl hl.1 (Nat.le_of_ble_eq_true rfl) ⟨Nat.le_of_ble_eq_true rfl, Nat.le_of_ble_eq_true rfl⟩ ⟨Nat.le_of_ble_eq_true rfl, Nat.le_of_ble_eq_true rfl⟩ dX5_value_27 (z_prop C htab (Nat.le_of_ble_eq_true rfl) (Nat.le_of_ble_eq_true rfl)) (fun v M5 _ _ I hv => ?_)
    obtain ⟨rfl, hw⟩ := hv
    refine W.eq (g2 := F0 m 30 ls []) rfl ?_
    refine lv_aload_n hx hb dX5_value_30 rfl (lv_at hl 0 rfl) ?_
    refine z_getr C I fl_X5_36 hw dX5_value_31 (fun v6 hw => ?_)
    obtain ⟨hrc, hw⟩ := hw
    refine z_callV C I (as := []) (rest := []) (m_X1_count E hw) kv_X5_77 vc_2 hrc rfl rfl hl.1 (Nat.le_of_ble_eq_true rfl) ⟨Nat.le_of_ble_eq_true rfl, Nat.le_of_ble_eq_true rfl⟩ ⟨Nat.le_of_ble_eq_true rfl, Nat.le_of_ble_eq_true rfl⟩ dX5_value_34 (z_prop C htab (Nat.le_of_ble_eq_true rfl) (Nat.le_of_ble_eq_true rfl)) (fun v M7 _ _ I hv => ?_)
    obtain ⟨v8, rfl, hw⟩ := hv
    refine W.eq (g2 := F0 m 37 ls [.int v8]) rfl ?_
    exact z_iret C I hr ⟨_, rfl, hw⟩ (Nat.le_of_ble_eq_true rfl) (Nat.le_of_ble_eq_true rfl) dX5_value_37
  · replace hw := hw.2 c
    exact z_throw C htab I 3 kt_X5_91_224 hw hl.1 dX5_value_12 dX5_value_15 dX5_value_16 dX5_value_18 dX5_value_21 ⟨Nat.le_of_ble_eq_true rfl, Nat.le_of_ble_eq_true rfl, Nat.le_of_ble_eq_true rfl, Nat.le_of_ble_eq_true rfl⟩ (Nat.le_of_ble_eq_true rfl) (Nat.le_of_ble_eq_true rfl)
set_option maxHeartbeats 4000000 in
set_option maxRecDepth 100000 in
theorem m_X5_clear {X : zX} {l : Launch} (E : zEnv X l) {M : zM} {o : Nat} {P : Int32 → zM → Prop} {PX : Nat → zM → Prop} (hw : w_X5_clear o M P) : zCT X l yX5_clear cX5_clear 2 (some .int) 1 20 0 0 M [.ref o] (zPi P) PX := by
  refine z_entry E (by decide) ?_
  intro p e s m args below meth c C hr htab I
  have hx := C.1.1
  have hb := C.1.2.1
  obtain ⟨ls, he, hl⟩ := z_enter (m := m) (n := 2) (vs := [.ref o]) (l := [(0, .ref o)]) (Nat.le_of_ble_eq_true rfl) rfl
  rw [he]
  clear he
  unfold w_X5_clear at hw
  refine lv_aload_n hx hb dX5_clear_0 rfl (lv_at hl 0 rfl) ?_
  refine z_getr C I fl_X5_36 hw dX5_clear_1 (fun v1 hw => ?_)
  obtain ⟨hrc, hw⟩ := hw
  refine z_callV C I (as := []) (rest := []) (m_X1_count E hw) kv_X5_77 vc_2 hrc rfl rfl hl.1 (Nat.le_of_ble_eq_true rfl) ⟨Nat.le_of_ble_eq_true rfl, Nat.le_of_ble_eq_true rfl⟩ ⟨Nat.le_of_ble_eq_true rfl, Nat.le_of_ble_eq_true rfl⟩ dX5_clear_4 (z_prop C htab (Nat.le_of_ble_eq_true rfl) (Nat.le_of_ble_eq_true rfl)) (fun v M2 _ _ I hv => ?_)
  obtain ⟨v3, rfl, hw⟩ := hv
  refine W.eq (g2 := F0 m 7 ls [.int v3]) rfl ?_
  refine lv_istore_n (lv' := [(1, .int v3), (0, .ref o)]) hx hb dX5_clear_7 rfl hl (by decide) rfl (fun ls hl4 => ?_)
  refine lv_aload_n hx hb dX5_clear_8 rfl (lv_at hl4 1 rfl) ?_
  refine z_getr C I fl_X5_36 hw dX5_clear_9 (fun v5 hw => ?_)
  obtain ⟨hrc, hw⟩ := hw
  refine z_callV C I (as := []) (rest := []) (m_X1_empty E hw) kv_X5_219 vc_2 hrc rfl rfl hl4.1 (Nat.le_of_ble_eq_true rfl) ⟨Nat.le_of_ble_eq_true rfl, Nat.le_of_ble_eq_true rfl⟩ ⟨Nat.le_of_ble_eq_true rfl, Nat.le_of_ble_eq_true rfl⟩ dX5_clear_12 (z_prop C htab (Nat.le_of_ble_eq_true rfl) (Nat.le_of_ble_eq_true rfl)) (fun v M6 _ _ I hv => ?_)
  obtain ⟨rfl, hw⟩ := hv
  refine W.eq (g2 := F0 m 15 ls []) rfl ?_
  refine lv_iload_n hx hb dX5_clear_15 rfl (lv_at hl4 0 rfl) ?_
  exact z_iret C I hr ⟨_, rfl, hw⟩ (Nat.le_of_ble_eq_true rfl) (Nat.le_of_ble_eq_true rfl) dX5_clear_16
set_option maxHeartbeats 4000000 in
set_option maxRecDepth 100000 in
theorem m_X5_isRecordOf {X : zX} {l : Launch} (E : zEnv X l) {M : zM} {o : Nat} {p0 : Nat} {P : Int32 → zM → Prop} {PX : Nat → zM → Prop} (hw : w_X5_isRecordOf o p0 M P) : zCT X l yX5_isRecordOf cX5_isRecordOf 3 (some .boolean) 1 21 0 0 M [.ref o, .ref p0] (zPz P) PX := by
  refine z_entry E (by decide) ?_
  intro p e s m args below meth c C hr htab I
  have hx := C.1.1
  have hb := C.1.2.1
  obtain ⟨ls, he, hl⟩ := z_enter (m := m) (n := 3) (vs := [.ref o, .ref p0]) (l := [(0, .ref o), (1, .ref p0)]) (Nat.le_of_ble_eq_true rfl) rfl
  rw [he]
  clear he
  unfold w_X5_isRecordOf at hw
  have hb_21 : ∀ (n : Nat) (x2 : Int32) (M : zM) (H : Heap) (locs : List Loc) (ls : Array Slot), zWk X s M H locs → lv_has ls 3 [(0, .ref o), (1, .ref p0), (2, .int x2)] → w_X5_isRecordOf_21 o p0 P n x2 M → W p l e (zRm 1 21 0 0) s m args below meth c H locs 0 0 (vx_MQ below (zQc X (zPz P)) (zXc X PX) args s 0 0 (zBase X)) (F0 m 21 ls []) := by
    intro n
    induction n with
    | zero => intro _ M H locs ls I hl hw; exact hw.elim
    | succ n ih =>
      intro x2 M H locs ls I hl hw
      unfold w_X5_isRecordOf_21 at hw
      refine lv_iload_n hx hb dX5_isRecordOf_21 rfl (lv_at hl 2 rfl) ?_
      refine lv_aload_n hx hb dX5_isRecordOf_22 rfl (lv_at hl 0 rfl) ?_
      refine z_getr C I fl_X5_36 hw dX5_isRecordOf_23 (fun v1 hw => ?_)
      obtain ⟨hrc, hw⟩ := hw
      refine z_callV C I (as := []) (rest := [.int x2]) (m_X1_count E hw) kv_X5_77 vc_2 hrc rfl rfl hl.1 (Nat.le_of_ble_eq_true rfl) ⟨Nat.le_of_ble_eq_true rfl, Nat.le_of_ble_eq_true rfl⟩ ⟨Nat.le_of_ble_eq_true rfl, Nat.le_of_ble_eq_true rfl⟩ dX5_isRecordOf_26 (z_prop C htab (Nat.le_of_ble_eq_true rfl) (Nat.le_of_ble_eq_true rfl)) (fun v M2 _ _ I hv => ?_)
      obtain ⟨v3, rfl, hw⟩ := hv
      refine W.eq (g2 := F0 m 29 ls [.int v3, .int x2]) rfl ?_
      refine lv_icmp_ge (tgt := 62) hx hb dX5_isRecordOf_29 (by decide) (fun c => ?_) (fun c => ?_)
      · replace hw := hw.1 c
        refine lv_iconst (v := 1) hx hb dX5_isRecordOf_62 (by decide) ?_
        exact z_zret C I hr (Or.inr rfl) ⟨_, rfl, (Or.inr rfl), hw⟩ (Nat.le_of_ble_eq_true rfl) (Nat.le_of_ble_eq_true rfl) dX5_isRecordOf_63
      · replace hw := hw.2 c
        refine lv_aload_n hx hb dX5_isRecordOf_32 rfl (lv_at hl 0 rfl) ?_
        refine z_getr C I fl_X5_36 hw dX5_isRecordOf_33 (fun v4 hw => ?_)
        refine lv_iload_n hx hb dX5_isRecordOf_36 rfl (lv_at hl 2 rfl) ?_
        obtain ⟨hrc, hw⟩ := hw
        refine z_callV C I (as := [.int x2]) (rest := []) (m_X1_at E hw) kv_X5_236 vc_2 hrc rfl rfl hl.1 (Nat.le_of_ble_eq_true rfl) ⟨Nat.le_of_ble_eq_true rfl, Nat.le_of_ble_eq_true rfl⟩ ⟨Nat.le_of_ble_eq_true rfl, Nat.le_of_ble_eq_true rfl⟩ dX5_isRecordOf_37 (z_prop C htab (Nat.le_of_ble_eq_true rfl) (Nat.le_of_ble_eq_true rfl)) (fun v M5 _ _ I hv => ?_)
        obtain ⟨v6, rfl, hw⟩ := hv
        refine W.eq (g2 := F0 m 40 ls [.int v6]) rfl ?_
        refine lv_aload_n hx hb dX5_isRecordOf_40 rfl (lv_at hl 1 rfl) ?_
        refine z_getr C I fl_X5_74 hw dX5_isRecordOf_41 (fun v7 hw => ?_)
        refine lv_iload_n hx hb dX5_isRecordOf_44 rfl (lv_at hl 2 rfl) ?_
        obtain ⟨hrc, hw⟩ := hw
        refine z_callV C I (as := [.int x2]) (rest := [.int v6]) (m_X1_at E hw) kv_X5_236 vc_2 hrc rfl rfl hl.1 (Nat.le_of_ble_eq_true rfl) ⟨Nat.le_of_ble_eq_true rfl, Nat.le_of_ble_eq_true rfl⟩ ⟨Nat.le_of_ble_eq_true rfl, Nat.le_of_ble_eq_true rfl⟩ dX5_isRecordOf_45 (z_prop C htab (Nat.le_of_ble_eq_true rfl) (Nat.le_of_ble_eq_true rfl)) (fun v M8 _ _ I hv => ?_)
        obtain ⟨v9, rfl, hw⟩ := hv
        refine W.eq (g2 := F0 m 48 ls [.int v9, .int v6]) rfl ?_
        refine z_callS C I (as := [.int v6, .int v9]) (rest := []) (m_X5_isOfSize E hw) ks_X5_121 rfl rfl hl.1 (Nat.le_of_ble_eq_true rfl) ⟨Nat.le_of_ble_eq_true rfl, Nat.le_of_ble_eq_true rfl⟩ ⟨Nat.le_of_ble_eq_true rfl, Nat.le_of_ble_eq_true rfl⟩ dX5_isRecordOf_48 (z_prop C htab (Nat.le_of_ble_eq_true rfl) (Nat.le_of_ble_eq_true rfl)) (fun v M10 _ _ I hv => ?_)
        obtain ⟨v11, rfl, hv11, hw⟩ := hv
        refine W.eq (g2 := F0 m 51 ls [.int v11]) rfl ?_
        refine lv_if_ne (tgt := 56) hx hb dX5_isRecordOf_51 (by decide) (fun c => ?_) (fun c => ?_)
        · replace hw := hw.1 c
          refine lv_iinc (v := (x2 + 1)) (lv' := [(2, .int (x2 + 1)), (0, .ref o), (1, .ref p0)]) hx hb dX5_isRecordOf_56 hl (k := 2) rfl (by rfl) (by decide) rfl (fun ls hl12 => ?_)
          refine lv_goto (tgt := 21) hx hb dX5_isRecordOf_59 (by decide) ?_
          refine W.widen (k := 0) (n := 0) (Nat.le_of_ble_eq_true rfl) (Nat.le_of_ble_eq_true rfl) ?_
          exact ih (x2 + 1) _ _ _ ls I (lv_sub hl12 [1, 2, 0] rfl) hw
        · replace hw := hw.2 c
          refine lv_iconst (v := 0) hx hb dX5_isRecordOf_54 (by decide) ?_
          exact z_zret C I hr (Or.inl rfl) ⟨_, rfl, (Or.inl rfl), hw⟩ (Nat.le_of_ble_eq_true rfl) (Nat.le_of_ble_eq_true rfl) dX5_isRecordOf_55
  refine lv_aload_n hx hb dX5_isRecordOf_0 rfl (lv_at hl 0 rfl) ?_
  refine z_getr C I fl_X5_36 hw dX5_isRecordOf_1 (fun v13 hw => ?_)
  obtain ⟨hrc, hw⟩ := hw
  refine z_callV C I (as := []) (rest := []) (m_X1_count E hw) kv_X5_77 vc_2 hrc rfl rfl hl.1 (Nat.le_of_ble_eq_true rfl) ⟨Nat.le_of_ble_eq_true rfl, Nat.le_of_ble_eq_true rfl⟩ ⟨Nat.le_of_ble_eq_true rfl, Nat.le_of_ble_eq_true rfl⟩ dX5_isRecordOf_4 (z_prop C htab (Nat.le_of_ble_eq_true rfl) (Nat.le_of_ble_eq_true rfl)) (fun v M14 _ _ I hv => ?_)
  obtain ⟨v15, rfl, hw⟩ := hv
  refine W.eq (g2 := F0 m 7 ls [.int v15]) rfl ?_
  refine lv_aload_n hx hb dX5_isRecordOf_7 rfl (lv_at hl 1 rfl) ?_
  refine z_getr C I fl_X5_74 hw dX5_isRecordOf_8 (fun v16 hw => ?_)
  obtain ⟨hrc, hw⟩ := hw
  refine z_callV C I (as := []) (rest := [.int v15]) (m_X1_count E hw) kv_X5_77 vc_2 hrc rfl rfl hl.1 (Nat.le_of_ble_eq_true rfl) ⟨Nat.le_of_ble_eq_true rfl, Nat.le_of_ble_eq_true rfl⟩ ⟨Nat.le_of_ble_eq_true rfl, Nat.le_of_ble_eq_true rfl⟩ dX5_isRecordOf_11 (z_prop C htab (Nat.le_of_ble_eq_true rfl) (Nat.le_of_ble_eq_true rfl)) (fun v M17 _ _ I hv => ?_)
  obtain ⟨v18, rfl, hw⟩ := hv
  refine W.eq (g2 := F0 m 14 ls [.int v18, .int v15]) rfl ?_
  refine lv_icmp_eq (tgt := 19) hx hb dX5_isRecordOf_14 (by decide) (fun c => ?_) (fun c => ?_)
  · replace hw := hw.1 c
    refine lv_iconst (v := 0) hx hb dX5_isRecordOf_19 (by decide) ?_
    refine lv_istore_n (lv' := [(2, .int (0 : Int32)), (0, .ref o), (1, .ref p0)]) hx hb dX5_isRecordOf_20 rfl hl (by decide) rfl (fun ls hl19 => ?_)
    obtain ⟨nn, hw⟩ := hw
    refine W.widen (k := 0) (n := 0) (Nat.le_of_ble_eq_true rfl) (Nat.le_of_ble_eq_true rfl) ?_
    exact hb_21 nn (0 : Int32) _ _ _ ls I (lv_sub hl19 [1, 2, 0] rfl) hw
  · replace hw := hw.2 c
    refine lv_iconst (v := 0) hx hb dX5_isRecordOf_17 (by decide) ?_
    exact z_zret C I hr (Or.inl rfl) ⟨_, rfl, (Or.inl rfl), hw⟩ (Nat.le_of_ble_eq_true rfl) (Nat.le_of_ble_eq_true rfl) dX5_isRecordOf_18
set_option maxHeartbeats 4000000 in
set_option maxRecDepth 100000 in
theorem m_X5_isRecord {X : zX} {l : Launch} (E : zEnv X l) {M : zM} {o : Nat} {p0 : Int32} {p1 : Int32} {P : Int32 → zM → Prop} {PX : Nat → zM → Prop} (hw : w_X5_isRecord o p0 p1 M P PX) : zCT X l yX5_isRecord cX5_isRecord 3 (some .boolean) 8 134 2 12 M [.ref o, .int p0, .int p1] (zPz P) PX := by
  refine z_entry E (by decide) ?_
  intro p e s m args below meth c C hr htab I
  have hx := C.1.1
  have hb := C.1.2.1
  obtain ⟨ls, he, hl⟩ := z_enter (m := m) (n := 3) (vs := [.ref o, .int p0, .int p1]) (l := [(0, .ref o), (1, .int p0), (2, .int p1)]) (Nat.le_of_ble_eq_true rfl) rfl
  rw [he]
  clear he
  unfold w_X5_isRecord at hw
  refine lv_aload_n hx hb dX5_isRecord_0 rfl (lv_at hl 0 rfl) ?_
  refine lv_aload_n hx hb dX5_isRecord_1 rfl (lv_at hl 0 rfl) ?_
  refine lv_iload_n hx hb dX5_isRecord_2 rfl (lv_at hl 1 rfl) ?_
  refine lv_iload_n hx hb dX5_isRecord_3 rfl (lv_at hl 2 rfl) ?_
  obtain ⟨hrc, hw⟩ := hw
  refine z_callV C I (as := [.int p0, .int p1]) (rest := [.ref o]) (m_X5_demandedSchema E hw) kv_X5_194 vc_6 hrc rfl rfl hl.1 (Nat.le_of_ble_eq_true rfl) ⟨Nat.le_of_ble_eq_true rfl, Nat.le_of_ble_eq_true rfl⟩ ⟨Nat.le_of_ble_eq_true rfl, Nat.le_of_ble_eq_true rfl⟩ dX5_isRecord_4 (z_prop C htab (Nat.le_of_ble_eq_true rfl) (Nat.le_of_ble_eq_true rfl)) (fun v M1 _ _ I hv => ?_)
  obtain ⟨v2, rfl, hw⟩ := hv
  refine W.eq (g2 := F0 m 7 ls [va_rf v2, .ref o]) rfl ?_
  obtain ⟨a3, hq1, hq2⟩ := hw
  subst hq1
  have hw := hq2
  clear hq2
  refine W.eq (g2 := F0 m 7 ls [.ref a3, .ref o]) rfl ?_
  have hl4 : lv_has ls 3 [(0, .ref o), (1, .int p0), (2, .int p1)] := hl
  obtain ⟨hrc, hw⟩ := hw
  refine z_callV C I (as := [.ref a3]) (rest := []) (m_X5_isRecordOf E hw) kv_X5_229 vc_6 hrc rfl rfl hl4.1 (Nat.le_of_ble_eq_true rfl) ⟨Nat.le_of_ble_eq_true rfl, Nat.le_of_ble_eq_true rfl⟩ ⟨Nat.le_of_ble_eq_true rfl, Nat.le_of_ble_eq_true rfl⟩ dX5_isRecord_7 (z_prop C htab (Nat.le_of_ble_eq_true rfl) (Nat.le_of_ble_eq_true rfl)) (fun v M5 _ _ I hv => ?_)
  obtain ⟨v6, rfl, hv6, hw⟩ := hv
  refine W.eq (g2 := F0 m 10 ls [.int v6]) rfl ?_
  exact z_zret C I hr hv6 ⟨_, rfl, hv6, hw⟩ (Nat.le_of_ble_eq_true rfl) (Nat.le_of_ble_eq_true rfl) dX5_isRecord_10
set_option maxHeartbeats 4000000 in
set_option maxRecDepth 100000 in
theorem m_X5_read {X : zX} {l : Launch} (E : zEnv X l) {M : zM} {o : Nat} {p0 : Int32} {p1 : Int32} {p2 : Int32} {p3 : Int32} {P : Int32 → zM → Prop} {PX : Nat → zM → Prop} (hw : w_X5_read o p0 p1 p2 p3 M P PX) : zCT X l yX5_read cX5_read 8 (some .int) 103 4826 7 42 M [.ref o, .int p0, .int p1, .int p2, .int p3] (zPi P) PX := by
  refine z_entry E (by decide) ?_
  intro p e s m args below meth c C hr htab I
  have hx := C.1.1
  have hb := C.1.2.1
  obtain ⟨ls, he, hl⟩ := z_enter (m := m) (n := 8) (vs := [.ref o, .int p0, .int p1, .int p2, .int p3]) (l := [(0, .ref o), (1, .int p0), (2, .int p1), (3, .int p2), (4, .int p3)]) (Nat.le_of_ble_eq_true rfl) rfl
  rw [he]
  clear he
  unfold w_X5_read at hw
  have hb_59 : ∀ (M : zM) (H : Heap) (locs : List Loc) (ls : Array Slot), zWk X s M H locs → lv_has ls 8 [] → w_X5_read_59 o p0 p1 p2 p3 P PX M → W p l e (zRm 103 4826 7 42) s m args below meth c H locs 6 36 (vx_MQ below (zQc X (zPi P)) (zXc X PX) args s 7 42 (zBase X)) (F0 m 59 ls []) := by
    intro M H locs ls I hl hw
    unfold w_X5_read_59 at hw
    exact z_throw C htab I 3 kt_X5_91_232 hw hl.1 dX5_read_59 dX5_read_62 dX5_read_63 dX5_read_65 dX5_read_68 ⟨Nat.le_of_ble_eq_true rfl, Nat.le_of_ble_eq_true rfl, Nat.le_of_ble_eq_true rfl, Nat.le_of_ble_eq_true rfl⟩ (Nat.le_of_ble_eq_true rfl) (Nat.le_of_ble_eq_true rfl)
  refine lv_aload_n hx hb dX5_read_0 rfl (lv_at hl 0 rfl) ?_
  refine lv_iload_n hx hb dX5_read_1 rfl (lv_at hl 1 rfl) ?_
  refine lv_iload_n hx hb dX5_read_2 rfl (lv_at hl 3 rfl) ?_
  obtain ⟨hrc, hw⟩ := hw
  refine z_callV C I (as := [.int p0, .int p2]) (rest := []) (m_X5_demandSubjects E hw) kv_X5_201 vc_6 hrc rfl rfl hl.1 (Nat.le_of_ble_eq_true rfl) ⟨Nat.le_of_ble_eq_true rfl, Nat.le_of_ble_eq_true rfl⟩ ⟨Nat.le_of_ble_eq_true rfl, Nat.le_of_ble_eq_true rfl⟩ dX5_read_3 (z_prop C htab (Nat.le_of_ble_eq_true rfl) (Nat.le_of_ble_eq_true rfl)) (fun v M1 _ _ I hv => ?_)
  obtain ⟨rfl, hw⟩ := hv
  refine W.eq (g2 := F0 m 6 ls []) rfl ?_
  refine lv_aload_n hx hb dX5_read_6 rfl (lv_at hl 0 rfl) ?_
  refine lv_iload_n hx hb dX5_read_7 rfl (lv_at hl 1 rfl) ?_
  refine lv_iload_n hx hb dX5_read_8 rfl (lv_at hl 2 rfl) ?_
  obtain ⟨hrc, hw⟩ := hw
  refine z_callV C I (as := [.int p0, .int p1]) (rest := []) (m_X5_demandedSchema E hw) kv_X5_194 vc_6 hrc rfl rfl hl.1 (Nat.le_of_ble_eq_true rfl) ⟨Nat.le_of_ble_eq_true rfl, Nat.le_of_ble_eq_true rfl⟩ ⟨Nat.le_of_ble_eq_true rfl, Nat.le_of_ble_eq_true rfl⟩ dX5_read_9 (z_prop C htab (Nat.le_of_ble_eq_true rfl) (Nat.le_of_ble_eq_true rfl)) (fun v M2 _ _ I hv => ?_)
  obtain ⟨v3, rfl, hw⟩ := hv
  refine W.eq (g2 := F0 m 12 ls [va_rf v3]) rfl ?_
  refine z_astore (lv' := [(5, va_rf v3), (0, .ref o), (1, .int p0), (2, .int p1), (3, .int p2), (4, .int p3)]) C (r := v3) dX5_read_12 hl (by decide) rfl (fun ls hl4 => ?_)
  refine lv_aload_n hx hb dX5_read_14 rfl (lv_at hl4 1 rfl) ?_
  refine lv_iload_n hx hb dX5_read_15 rfl (lv_at hl4 4 rfl) ?_
  refine lv_iload hx hb dX5_read_16 (lv_at hl4 5 rfl) ?_
  obtain ⟨hrc, hw⟩ := hw
  refine z_callV C I (as := [.int p2, .int p3]) (rest := []) (m_X5_demandedSchema E hw) kv_X5_194 vc_6 hrc rfl rfl hl4.1 (Nat.le_of_ble_eq_true rfl) ⟨Nat.le_of_ble_eq_true rfl, Nat.le_of_ble_eq_true rfl⟩ ⟨Nat.le_of_ble_eq_true rfl, Nat.le_of_ble_eq_true rfl⟩ dX5_read_18 (z_prop C htab (Nat.le_of_ble_eq_true rfl) (Nat.le_of_ble_eq_true rfl)) (fun v M5 _ _ I hv => ?_)
  obtain ⟨v6, rfl, hw⟩ := hv
  refine W.eq (g2 := F0 m 21 ls [va_rf v6]) rfl ?_
  refine z_astore (lv' := [(6, va_rf v6), (5, va_rf v3), (0, .ref o), (1, .int p0), (2, .int p1), (3, .int p2), (4, .int p3)]) C (r := v6) dX5_read_21 hl4 (by decide) (by simp [z_catR]) (fun ls hl7 => ?_)
  refine lv_aload_n hx hb dX5_read_23 rfl (lv_at hl7 2 rfl) ?_
  refine z_getr C I fl_X5_40 hw dX5_read_24 (fun v8 hw => ?_)
  obtain ⟨hrc, hw⟩ := hw
  refine z_callV C I (as := []) (rest := []) (m_X1_empty E hw) kv_X5_219 vc_2 hrc rfl rfl hl7.1 (Nat.le_of_ble_eq_true rfl) ⟨Nat.le_of_ble_eq_true rfl, Nat.le_of_ble_eq_true rfl⟩ ⟨Nat.le_of_ble_eq_true rfl, Nat.le_of_ble_eq_true rfl⟩ dX5_read_27 (z_prop C htab (Nat.le_of_ble_eq_true rfl) (Nat.le_of_ble_eq_true rfl)) (fun v M9 _ _ I hv => ?_)
  obtain ⟨rfl, hw⟩ := hv
  refine W.eq (g2 := F0 m 30 ls []) rfl ?_
  refine lv_aload_n hx hb dX5_read_30 rfl (lv_at hl7 2 rfl) ?_
  refine z_aload C (r := v6) dX5_read_31 (lv_at hl7 0 rfl) ?_
  obtain ⟨a10, hq1, hq2⟩ := hw
  subst hq1
  have hw := hq2
  clear hq2
  refine W.eq (g2 := F0 m 33 ls [.ref a10, .ref o]) rfl ?_
  have hl11 : lv_has ls 8 [(6, .ref a10), (5, va_rf v3), (0, .ref o), (1, .int p0), (2, .int p1), (3, .int p2), (4, .int p3)] := hl7
  obtain ⟨hrc, hw⟩ := hw
  refine z_callV C I (as := [.ref a10]) (rest := []) (m_X5_isRecordOf E hw) kv_X5_229 vc_6 hrc rfl rfl hl11.1 (Nat.le_of_ble_eq_true rfl) ⟨Nat.le_of_ble_eq_true rfl, Nat.le_of_ble_eq_true rfl⟩ ⟨Nat.le_of_ble_eq_true rfl, Nat.le_of_ble_eq_true rfl⟩ dX5_read_33 (z_prop C htab (Nat.le_of_ble_eq_true rfl) (Nat.le_of_ble_eq_true rfl)) (fun v M12 _ _ I hv => ?_)
  obtain ⟨v13, rfl, hv13, hw⟩ := hv
  refine W.eq (g2 := F0 m 36 ls [.int v13]) rfl ?_
  refine lv_if_eq (tgt := 59) hx hb dX5_read_36 (by decide) (fun c => ?_) (fun c => ?_)
  · replace hw := hw.1 c
    refine W.widen (k := 6) (n := 36) (Nat.le_of_ble_eq_true rfl) (Nat.le_of_ble_eq_true rfl) ?_
    exact hb_59 _ _ _ ls I (lv_sub hl11 [] rfl) hw
  · replace hw := hw.2 c
    refine z_aload C (r := v3) dX5_read_39 (lv_at hl11 1 rfl) ?_
    refine lv_aload hx hb dX5_read_41 (lv_at hl11 0 rfl) ?_
    refine lv_aload_n hx hb dX5_read_43 rfl (lv_at hl11 2 rfl) ?_
    refine z_getr C I fl_X5_36 hw dX5_read_44 (fun v14 hw => ?_)
    refine lv_iconst (v := 0) hx hb dX5_read_47 (by decide) ?_
    refine lv_aload_n hx hb dX5_read_48 rfl (lv_at hl11 2 rfl) ?_
    refine z_getr C I fl_X5_40 hw dX5_read_49 (fun v15 hw => ?_)
    refine lv_iconst (v := 0) hx hb dX5_read_52 (by decide) ?_
    refine z_callS C I (as := [va_rf v3, .ref a10, .ref v14, .int (0 : Int32), .ref v15, .int (0 : Int32)]) (rest := []) (m_X5_readSchema E hw) ks_X5_220 rfl rfl hl11.1 (Nat.le_of_ble_eq_true rfl) ⟨Nat.le_of_ble_eq_true rfl, Nat.le_of_ble_eq_true rfl⟩ ⟨Nat.le_of_ble_eq_true rfl, Nat.le_of_ble_eq_true rfl⟩ dX5_read_53 (z_prop C htab (Nat.le_of_ble_eq_true rfl) (Nat.le_of_ble_eq_true rfl)) (fun v M16 _ _ I hv => ?_)
    obtain ⟨v17, rfl, hv17, hw⟩ := hv
    refine W.eq (g2 := F0 m 56 ls [.int v17]) rfl ?_
    refine lv_if_ne (tgt := 69) hx hb dX5_read_56 (by decide) (fun c => ?_) (fun c => ?_)
    · replace hw := hw.1 c
      refine lv_aload_n hx hb dX5_read_69 rfl (lv_at hl11 2 rfl) ?_
      refine z_getr C I fl_X5_36 hw dX5_read_70 (fun v18 hw => ?_)
      refine lv_astore (lv' := [(7, .ref v18), (6, .ref a10), (5, va_rf v3), (0, .ref o), (1, .int p0), (2, .int p1), (3, .int p2), (4, .int p3)]) hx hb dX5_read_73 hl11 (by decide) rfl (fun ls hl19 => ?_)
      refine lv_aload_n hx hb dX5_read_75 rfl (lv_at hl19 3 rfl) ?_
      refine lv_aload_n hx hb dX5_read_76 rfl (lv_at hl19 3 rfl) ?_
      refine z_getr C I fl_X5_40 hw dX5_read_77 (fun v20 hw => ?_)
      refine z_put C I fl_X5_36 rfl (v := .ref v20) rfl rfl hw dX5_read_80 (fun M21 _ _ I hw => ?_)
      refine lv_aload_n hx hb dX5_read_83 rfl (lv_at hl19 3 rfl) ?_
      refine lv_aload hx hb dX5_read_84 (lv_at hl19 0 rfl) ?_
      refine z_put C I fl_X5_40 rfl (v := .ref v18) rfl rfl hw dX5_read_86 (fun M22 _ _ I hw => ?_)
      refine lv_aload_n hx hb dX5_read_89 rfl (lv_at hl19 3 rfl) ?_
      refine z_getr C I fl_X5_36 hw dX5_read_90 (fun v23 hw => ?_)
      obtain ⟨hrc, hw⟩ := hw
      refine z_callV C I (as := []) (rest := []) (m_X1_count E hw) kv_X5_77 vc_2 hrc rfl rfl hl19.1 (Nat.le_of_ble_eq_true rfl) ⟨Nat.le_of_ble_eq_true rfl, Nat.le_of_ble_eq_true rfl⟩ ⟨Nat.le_of_ble_eq_true rfl, Nat.le_of_ble_eq_true rfl⟩ dX5_read_93 (z_prop C htab (Nat.le_of_ble_eq_true rfl) (Nat.le_of_ble_eq_true rfl)) (fun v M24 _ _ I hv => ?_)
      obtain ⟨v25, rfl, hw⟩ := hv
      refine W.eq (g2 := F0 m 96 ls [.int v25]) rfl ?_
      exact z_iret C I hr ⟨_, rfl, hw⟩ (Nat.le_of_ble_eq_true rfl) (Nat.le_of_ble_eq_true rfl) dX5_read_96
    · replace hw := hw.2 c
      refine W.widen (k := 6) (n := 36) (Nat.le_of_ble_eq_true rfl) (Nat.le_of_ble_eq_true rfl) ?_
      exact hb_59 _ _ _ ls I (lv_sub hl11 [] rfl) hw
set_option maxHeartbeats 4000000 in
set_option maxRecDepth 100000 in
theorem m_X5_valueAt {X : zX} {l : Launch} (E : zEnv X l) {M : zM} {o : Nat} {p0 : Int32} {P : Int32 → zM → Prop} {PX : Nat → zM → Prop} (hw : w_X5_valueAt o p0 M P PX) : zCT X l yX5_valueAt cX5_valueAt 2 (some .int) 6 90 1 6 M [.ref o, .int p0] (zPi P) PX := by
  refine z_entry E (by decide) ?_
  intro p e s m args below meth c C hr htab I
  have hx := C.1.1
  have hb := C.1.2.1
  obtain ⟨ls, he, hl⟩ := z_enter (m := m) (n := 2) (vs := [.ref o, .int p0]) (l := [(0, .ref o), (1, .int p0)]) (Nat.le_of_ble_eq_true rfl) rfl
  rw [he]
  clear he
  unfold w_X5_valueAt at hw
  have hb_15 : ∀ (M : zM) (H : Heap) (locs : List Loc) (ls : Array Slot), zWk X s M H locs → lv_has ls 2 [] → w_X5_valueAt_15 o p0 P PX M → W p l e (zRm 6 90 1 6) s m args below meth c H locs 0 0 (vx_MQ below (zQc X (zPi P)) (zXc X PX) args s 1 6 (zBase X)) (F0 m 15 ls []) := by
    intro M H locs ls I hl hw
    unfold w_X5_valueAt_15 at hw
    exact z_throw C htab I 2 kt_X5_69_234 hw hl.1 dX5_valueAt_15 dX5_valueAt_18 dX5_valueAt_19 dX5_valueAt_21 dX5_valueAt_24 ⟨Nat.le_of_ble_eq_true rfl, Nat.le_of_ble_eq_true rfl, Nat.le_of_ble_eq_true rfl, Nat.le_of_ble_eq_true rfl⟩ (Nat.le_of_ble_eq_true rfl) (Nat.le_of_ble_eq_true rfl)
  refine lv_iload_n hx hb dX5_valueAt_0 rfl (lv_at hl 1 rfl) ?_
  refine lv_if_lt (tgt := 15) hx hb dX5_valueAt_1 (by decide) (fun c => ?_) (fun c => ?_)
  · replace hw := hw.1 c
    refine W.widen (k := 0) (n := 0) (Nat.le_of_ble_eq_true rfl) (Nat.le_of_ble_eq_true rfl) ?_
    exact hb_15 _ _ _ ls I (lv_sub hl [] rfl) hw
  · replace hw := hw.2 c
    refine lv_iload_n hx hb dX5_valueAt_4 rfl (lv_at hl 1 rfl) ?_
    refine lv_aload_n hx hb dX5_valueAt_5 rfl (lv_at hl 0 rfl) ?_
    refine z_getr C I fl_X5_36 hw dX5_valueAt_6 (fun v1 hw => ?_)
    obtain ⟨hrc, hw⟩ := hw
    refine z_callV C I (as := []) (rest := [.int p0]) (m_X1_count E hw) kv_X5_77 vc_2 hrc rfl rfl hl.1 (Nat.le_of_ble_eq_true rfl) ⟨Nat.le_of_ble_eq_true rfl, Nat.le_of_ble_eq_true rfl⟩ ⟨Nat.le_of_ble_eq_true rfl, Nat.le_of_ble_eq_true rfl⟩ dX5_valueAt_9 (z_prop C htab (Nat.le_of_ble_eq_true rfl) (Nat.le_of_ble_eq_true rfl)) (fun v M2 _ _ I hv => ?_)
    obtain ⟨v3, rfl, hw⟩ := hv
    refine W.eq (g2 := F0 m 12 ls [.int v3, .int p0]) rfl ?_
    refine lv_icmp_lt (tgt := 25) hx hb dX5_valueAt_12 (by decide) (fun c => ?_) (fun c => ?_)
    · replace hw := hw.1 c
      refine lv_aload_n hx hb dX5_valueAt_25 rfl (lv_at hl 0 rfl) ?_
      refine z_getr C I fl_X5_36 hw dX5_valueAt_26 (fun v4 hw => ?_)
      refine lv_iload_n hx hb dX5_valueAt_29 rfl (lv_at hl 1 rfl) ?_
      obtain ⟨hrc, hw⟩ := hw
      refine z_callV C I (as := [.int p0]) (rest := []) (m_X1_at E hw) kv_X5_236 vc_2 hrc rfl rfl hl.1 (Nat.le_of_ble_eq_true rfl) ⟨Nat.le_of_ble_eq_true rfl, Nat.le_of_ble_eq_true rfl⟩ ⟨Nat.le_of_ble_eq_true rfl, Nat.le_of_ble_eq_true rfl⟩ dX5_valueAt_30 (z_prop C htab (Nat.le_of_ble_eq_true rfl) (Nat.le_of_ble_eq_true rfl)) (fun v M5 _ _ I hv => ?_)
      obtain ⟨v6, rfl, hw⟩ := hv
      refine W.eq (g2 := F0 m 33 ls [.int v6]) rfl ?_
      exact z_iret C I hr ⟨_, rfl, hw⟩ (Nat.le_of_ble_eq_true rfl) (Nat.le_of_ble_eq_true rfl) dX5_valueAt_33
    · replace hw := hw.2 c
      refine W.widen (k := 0) (n := 0) (Nat.le_of_ble_eq_true rfl) (Nat.le_of_ble_eq_true rfl) ?_
      exact hb_15 _ _ _ ls I (lv_sub hl [] rfl) hw
