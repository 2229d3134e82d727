theorem m_X5_readSchemaR {X : zX} {l : Launch} (E : zEnv X l) (d : Nat) : ∀ (p0 : Option Nat) (p1 : Option Nat) (p2 : Nat) (p3 : Int32) (p4 : Nat) (p5 : Int32) (M : zM) (P : Int32 → zM → Prop) {PX : Nat → zM → Prop}, w_X5_readSchemaR d p0 p1 p2 p3 p4 p5 M P → zCT X l yX5_readSchema cX5_readSchema 7 (some .boolean) (2 * d + 12) (100 * d + 300) 0 0 M [va_rf p0, va_rf p1, .ref p2, .int p3, .ref p4, .int p5] (zPz P) PX := by
  induction d with
  | zero => intro p0 p1 p2 p3 p4 p5 M P PX hw; exact hw.elim
  | succ d ih =>
    intro p0 p1 p2 p3 p4 p5 M P PX hw
    unfold w_X5_readSchemaR at hw
    exact m_X5_readSchemaB E (2 * d + 12) (100 * d + 300) (by omega) (by omega) ih hw
theorem m_X5_readSchema {X : zX} {l : Launch} (E : zEnv X l) {M : zM} {p0 : Option Nat} {p1 : Option Nat} {p2 : Nat} {p3 : Int32} {p4 : Nat} {p5 : Int32} {P : Int32 → zM → Prop} {PX : Nat → zM → Prop} (hw : w_X5_readSchema p0 p1 p2 p3 p4 p5 M P) : zCT X l yX5_readSchema cX5_readSchema 7 (some .boolean) 102 4800 0 0 M [va_rf p0, va_rf p1, .ref p2, .int p3, .ref p4, .int p5] (zPz P) PX := m_X5_readSchemaR E 45 p0 p1 p2 p3 p4 p5 M P hw

set_option maxHeartbeats 4000000 in
set_option maxRecDepth 100000 in
theorem m_X5_readsAll {X : zX} {l : Launch} (E : zEnv X l) {M : zM} {o : Nat} {p0 : Int32} {p1 : Int32} {p2 : Int32} {p3 : Int32} {P : Int32 → zM → Prop} {PX : Nat → zM → Prop} (hw : w_X5_readsAll o p0 p1 p2 p3 M P PX) : zCT X l yX5_readsAll cX5_readsAll 9 (some .boolean) 103 4826 7 42 M [.ref o, .int p0, .int p1, .int p2, .int p3] (zPz P) PX := by
  refine z_entry E (by decide) ?_
  intro p e s m args below meth c C hr htab I
  have hx := C.1.1
  have hb := C.1.2.1
  obtain ⟨ls, he, hl⟩ := z_enter (m := m) (n := 9) (vs := [.ref o, .int p0, .int p1, .int p2, .int p3]) (l := [(0, .ref o), (1, .int p0), (2, .int p1), (3, .int p2), (4, .int p3)]) (Nat.le_of_ble_eq_true rfl) rfl
  rw [he]
  clear he
  unfold w_X5_readsAll at hw
  have hb_54 : ∀ (n : Nat) (x5 : Option Nat) (x6 : Option Nat) (x7 : Int32) (x8 : Int32) (M : zM) (H : Heap) (locs : List Loc) (ls : Array Slot), zWk X s M H locs → lv_has ls 9 [(0, .ref o), (5, va_rf x5), (6, va_rf x6), (7, .int x7), (8, .int x8)] → w_X5_readsAll_54 o p0 p1 p2 p3 P PX n x5 x6 x7 x8 M → W p l e (zRm 103 4826 7 42) s m args below meth c H locs 6 36 (vx_MQ below (zQc X (zPz P)) (zXc X PX) args s 7 42 (zBase X)) (F0 m 54 ls []) := by
    intro n
    induction n with
    | zero => intro _ _ _ _ M H locs ls I hl hw; exact hw.elim
    | succ n ih =>
      intro x5 x6 x7 x8 M H locs ls I hl hw
      unfold w_X5_readsAll_54 at hw
      refine lv_iload hx hb dX5_readsAll_54 (lv_at hl 4 rfl) ?_
      refine lv_iload hx hb dX5_readsAll_56 (lv_at hl 3 rfl) ?_
      refine lv_icmp_ge (tgt := 110) hx hb dX5_readsAll_58 (by decide) (fun c => ?_) (fun c => ?_)
      · replace hw := hw.1 c
        refine lv_iconst (v := 1) hx hb dX5_readsAll_110 (by decide) ?_
        exact z_zret C I hr (Or.inr rfl) ⟨_, rfl, (Or.inr rfl), hw⟩ (Nat.le_of_ble_eq_true rfl) (Nat.le_of_ble_eq_true rfl) dX5_readsAll_111
      · replace hw := hw.2 c
        refine lv_aload_n hx hb dX5_readsAll_61 rfl (lv_at hl 0 rfl) ?_
        refine z_getr C I fl_X5_43 hw dX5_readsAll_62 (fun v1 hw => ?_)
        refine z_aload C (r := x6) dX5_readsAll_65 (lv_at hl 2 rfl) ?_
        obtain ⟨a2, hq1, hq2⟩ := hw
        subst hq1
        have hw := hq2
        clear hq2
        refine W.eq (g2 := F0 m 67 ls [.ref a2, .ref v1]) rfl ?_
        have hl3 : lv_has ls 9 [(0, .ref o), (5, va_rf x5), (6, .ref a2), (7, .int x7), (8, .int x8)] := hl
        refine z_getr C I fl_X5_74 hw dX5_readsAll_67 (fun v4 hw => ?_)
        refine lv_iload hx hb dX5_readsAll_70 (lv_at hl3 4 rfl) ?_
        refine z_callS C I (as := [.ref v1, .ref v4, .int x8]) (rest := []) (m_X5_putSmallRecord E hw) ks_X5_215 rfl rfl hl3.1 (Nat.le_of_ble_eq_true rfl) ⟨Nat.le_of_ble_eq_true rfl, Nat.le_of_ble_eq_true rfl⟩ ⟨Nat.le_of_ble_eq_true rfl, Nat.le_of_ble_eq_true rfl⟩ dX5_readsAll_72 (z_prop C htab (Nat.le_of_ble_eq_true rfl) (Nat.le_of_ble_eq_true rfl)) (fun v M5 _ _ I hv => ?_)
        obtain ⟨rfl, hw⟩ := hv
        refine W.eq (g2 := F0 m 75 ls []) rfl ?_
        refine lv_aload_n hx hb dX5_readsAll_75 rfl (lv_at hl3 0 rfl) ?_
        refine z_getr C I fl_X5_40 hw dX5_readsAll_76 (fun v6 hw => ?_)
        obtain ⟨hrc, hw⟩ := hw
        refine z_callV C I (as := []) (rest := []) (m_X1_empty E hw) kv_X5_219 vc_2 hrc rfl rfl hl3.1 (Nat.le_of_ble_eq_true rfl) ⟨Nat.le_of_ble_eq_true rfl, Nat.le_of_ble_eq_true rfl⟩ ⟨Nat.le_of_ble_eq_true rfl, Nat.le_of_ble_eq_true rfl⟩ dX5_readsAll_79 (z_prop C htab (Nat.le_of_ble_eq_true rfl) (Nat.le_of_ble_eq_true rfl)) (fun v M7 _ _ I hv => ?_)
        obtain ⟨rfl, hw⟩ := hv
        refine W.eq (g2 := F0 m 82 ls []) rfl ?_
        refine z_aload C (r := x5) dX5_readsAll_82 (lv_at hl3 1 rfl) ?_
        refine lv_aload hx hb dX5_readsAll_84 (lv_at hl3 2 rfl) ?_
        refine lv_aload_n hx hb dX5_readsAll_86 rfl (lv_at hl3 0 rfl) ?_
        refine z_getr C I fl_X5_43 hw dX5_readsAll_87 (fun v8 hw => ?_)
        refine lv_iconst (v := 0) hx hb dX5_readsAll_90 (by decide) ?_
        refine lv_aload_n hx hb dX5_readsAll_91 rfl (lv_at hl3 0 rfl) ?_
        refine z_getr C I fl_X5_40 hw dX5_readsAll_92 (fun v9 hw => ?_)
        refine lv_iconst (v := 0) hx hb dX5_readsAll_95 (by decide) ?_
        refine z_callS C I (as := [va_rf x5, .ref a2, .ref v8, .int (0 : Int32), .ref v9, .int (0 : Int32)]) (rest := []) (m_X5_readSchema E hw) ks_X5_220 rfl rfl hl3.1 (Nat.le_of_ble_eq_true rfl) ⟨Nat.le_of_ble_eq_true rfl, Nat.le_of_ble_eq_true rfl⟩ ⟨Nat.le_of_ble_eq_true rfl, Nat.le_of_ble_eq_true rfl⟩ dX5_readsAll_96 (z_prop C htab (Nat.le_of_ble_eq_true rfl) (Nat.le_of_ble_eq_true rfl)) (fun v M10 _ _ I hv => ?_)
        obtain ⟨v11, rfl, hv11, hw⟩ := hv
        refine W.eq (g2 := F0 m 99 ls [.int v11]) rfl ?_
        refine lv_if_ne (tgt := 104) hx hb dX5_readsAll_99 (by decide) (fun c => ?_) (fun c => ?_)
        · replace hw := hw.1 c
          refine lv_iinc (v := (x8 + 1)) (lv' := [(8, .int (x8 + 1)), (0, .ref o), (5, va_rf x5), (6, .ref a2), (7, .int x7)]) hx hb dX5_readsAll_104 hl3 (k := 4) rfl (by rfl) (by decide) rfl (fun ls hl12 => ?_)
          refine lv_goto (tgt := 54) hx hb dX5_readsAll_107 (by decide) ?_
          refine W.widen (k := 6) (n := 36) (Nat.le_of_ble_eq_true rfl) (Nat.le_of_ble_eq_true rfl) ?_
          exact ih x5 (some a2) x7 (x8 + 1) _ _ _ ls I (lv_sub hl12 [1, 2, 3, 4, 0] rfl) hw
        · replace hw := hw.2 c
          refine lv_iconst (v := 0) hx hb dX5_readsAll_102 (by decide) ?_
          exact z_zret C I hr (Or.inl rfl) ⟨_, rfl, (Or.inl rfl), hw⟩ (Nat.le_of_ble_eq_true rfl) (Nat.le_of_ble_eq_true rfl) dX5_readsAll_103
  refine lv_aload_n hx hb dX5_readsAll_0 rfl (lv_at hl 0 rfl) ?_
  refine lv_iload_n hx hb dX5_readsAll_1 rfl (lv_at hl 1 rfl) ?_
  refine lv_iload_n hx hb dX5_readsAll_2 rfl (lv_at hl 3 rfl) ?_
  obtain ⟨hrc, hw⟩ := hw
  refine z_callV C I (as := [.int p0, .int p2]) (rest := []) (m_X5_demandSubjects E hw) kv_X5_201 vc_6 hrc rfl rfl hl.1 (Nat.le_of_ble_eq_true rfl) ⟨Nat.le_of_ble_eq_true rfl, Nat.le_of_ble_eq_true rfl⟩ ⟨Nat.le_of_ble_eq_true rfl, Nat.le_of_ble_eq_true rfl⟩ dX5_readsAll_3 (z_prop C htab (Nat.le_of_ble_eq_true rfl) (Nat.le_of_ble_eq_true rfl)) (fun v M13 _ _ I hv => ?_)
  obtain ⟨rfl, hw⟩ := hv
  refine W.eq (g2 := F0 m 6 ls []) rfl ?_
  refine lv_aload_n hx hb dX5_readsAll_6 rfl (lv_at hl 0 rfl) ?_
  refine lv_iload_n hx hb dX5_readsAll_7 rfl (lv_at hl 1 rfl) ?_
  refine lv_iload_n hx hb dX5_readsAll_8 rfl (lv_at hl 2 rfl) ?_
  obtain ⟨hrc, hw⟩ := hw
  refine z_callV C I (as := [.int p0, .int p1]) (rest := []) (m_X5_demandedSchema E hw) kv_X5_194 vc_6 hrc rfl rfl hl.1 (Nat.le_of_ble_eq_true rfl) ⟨Nat.le_of_ble_eq_true rfl, Nat.le_of_ble_eq_true rfl⟩ ⟨Nat.le_of_ble_eq_true rfl, Nat.le_of_ble_eq_true rfl⟩ dX5_readsAll_9 (z_prop C htab (Nat.le_of_ble_eq_true rfl) (Nat.le_of_ble_eq_true rfl)) (fun v M14 _ _ I hv => ?_)
  obtain ⟨v15, rfl, hw⟩ := hv
  refine W.eq (g2 := F0 m 12 ls [va_rf v15]) rfl ?_
  refine z_astore (lv' := [(5, va_rf v15), (0, .ref o), (1, .int p0), (2, .int p1), (3, .int p2), (4, .int p3)]) C (r := v15) dX5_readsAll_12 hl (by decide) rfl (fun ls hl16 => ?_)
  refine lv_aload_n hx hb dX5_readsAll_14 rfl (lv_at hl16 1 rfl) ?_
  refine lv_iload_n hx hb dX5_readsAll_15 rfl (lv_at hl16 4 rfl) ?_
  refine lv_iload hx hb dX5_readsAll_16 (lv_at hl16 5 rfl) ?_
  obtain ⟨hrc, hw⟩ := hw
  refine z_callV C I (as := [.int p2, .int p3]) (rest := []) (m_X5_demandedSchema E hw) kv_X5_194 vc_6 hrc rfl rfl hl16.1 (Nat.le_of_ble_eq_true rfl) ⟨Nat.le_of_ble_eq_true rfl, Nat.le_of_ble_eq_true rfl⟩ ⟨Nat.le_of_ble_eq_true rfl, Nat.le_of_ble_eq_true rfl⟩ dX5_readsAll_18 (z_prop C htab (Nat.le_of_ble_eq_true rfl) (Nat.le_of_ble_eq_true rfl)) (fun v M17 _ _ I hv => ?_)
  obtain ⟨v18, rfl, hw⟩ := hv
  refine W.eq (g2 := F0 m 21 ls [va_rf v18]) rfl ?_
  refine z_astore (lv' := [(6, va_rf v18), (5, va_rf v15), (0, .ref o), (1, .int p0), (2, .int p1), (3, .int p2), (4, .int p3)]) C (r := v18) dX5_readsAll_21 hl16 (by decide) (by simp [z_catR]) (fun ls hl19 => ?_)
  refine z_aload C (r := v18) dX5_readsAll_23 (lv_at hl19 0 rfl) ?_
  obtain ⟨a20, hq1, hq2⟩ := hw
  subst hq1
  have hw := hq2
  clear hq2
  refine W.eq (g2 := F0 m 25 ls [.ref a20]) rfl ?_
  have hl21 : lv_has ls 9 [(6, .ref a20), (5, va_rf v15), (0, .ref o), (1, .int p0), (2, .int p1), (3, .int p2), (4, .int p3)] := hl19
  refine z_getr C I fl_X5_74 hw dX5_readsAll_25 (fun v22 hw => ?_)
  refine z_callS C I (as := [.ref v22]) (rest := []) (m_X5_countSmallRecords E hw) ks_X5_209 rfl rfl hl21.1 (Nat.le_of_ble_eq_true rfl) ⟨Nat.le_of_ble_eq_true rfl, Nat.le_of_ble_eq_true rfl⟩ ⟨Nat.le_of_ble_eq_true rfl, Nat.le_of_ble_eq_true rfl⟩ dX5_readsAll_28 (z_prop C htab (Nat.le_of_ble_eq_true rfl) (Nat.le_of_ble_eq_true rfl)) (fun v M23 _ _ I hv => ?_)
  obtain ⟨v24, rfl, hw⟩ := hv
  refine W.eq (g2 := F0 m 31 ls [.int v24]) rfl ?_
  refine lv_istore (lv' := [(7, .int v24), (6, .ref a20), (5, va_rf v15), (0, .ref o), (1, .int p0), (2, .int p1), (3, .int p2), (4, .int p3)]) hx hb dX5_readsAll_31 hl21 (by decide) rfl (fun ls hl25 => ?_)
  refine lv_iload hx hb dX5_readsAll_33 (lv_at hl25 0 rfl) ?_
  refine lv_sipush (v := 300) hx hb dX5_readsAll_35 (by decide) ?_
  refine lv_icmp_le (tgt := 51) hx hb dX5_readsAll_38 (by decide) (fun c => ?_) (fun c => ?_)
  · replace hw := hw.1 c
    refine lv_iconst (v := 0) hx hb dX5_readsAll_51 (by decide) ?_
    refine lv_istore (lv' := [(8, .int (0 : Int32)), (7, .int v24), (6, .ref a20), (5, va_rf v15), (0, .ref o), (1, .int p0), (2, .int p1), (3, .int p2), (4, .int p3)]) hx hb dX5_readsAll_52 hl25 (by decide) rfl (fun ls hl26 => ?_)
    obtain ⟨nn, hw⟩ := hw
    refine W.widen (k := 6) (n := 36) (Nat.le_of_ble_eq_true rfl) (Nat.le_of_ble_eq_true rfl) ?_
    exact hb_54 nn v15 (some a20) v24 (0 : Int32) _ _ _ ls I (lv_sub hl26 [4, 3, 2, 1, 0] rfl) hw
  · replace hw := hw.2 c
    exact z_throw C htab I 3 kt_X5_91_213 hw hl25.1 dX5_readsAll_41 dX5_readsAll_44 dX5_readsAll_45 dX5_readsAll_47 dX5_readsAll_50 ⟨Nat.le_of_ble_eq_true rfl, Nat.le_of_ble_eq_true rfl, Nat.le_of_ble_eq_true rfl, Nat.le_of_ble_eq_true rfl⟩ (Nat.le_of_ble_eq_true rfl) (Nat.le_of_ble_eq_true rfl)
set_option maxHeartbeats 4000000 in
set_option maxRecDepth 100000 in
theorem m_X5_value {X : zX} {l : Launch} (E : zEnv X l) {M : zM} {o : Nat} {p0 : Int32} {P : Int32 → zM → Prop} {PX : Nat → zM → Prop} (hw : w_X5_value o p0 M P PX) : zCT X l yX5_value cX5_value 2 (some .int) 6 90 1 6 M [.ref o, .int p0] (zPi P) PX := by
  refine z_entry E (by decide) ?_
  intro p e s m args below meth c C hr htab I
  have hx := C.1.1
  have hb := C.1.2.1
  obtain ⟨ls, he, hl⟩ := z_enter (m := m) (n := 2) (vs := [.ref o, .int p0]) (l := [(0, .ref o), (1, .int p0)]) (Nat.le_of_ble_eq_true rfl) rfl
  rw [he]
  clear he
  unfold w_X5_value at hw
  refine lv_aload_n hx hb dX5_value_0 rfl (lv_at hl 0 rfl) ?_
  refine z_getr C I fl_X5_36 hw dX5_value_1 (fun v1 hw => ?_)
  obtain ⟨hrc, hw⟩ := hw
  refine z_callV C I (as := []) (rest := []) (m_X1_count E hw) kv_X5_77 vc_2 hrc rfl rfl hl.1 (Nat.le_of_ble_eq_true rfl) ⟨Nat.le_of_ble_eq_true rfl, Nat.le_of_ble_eq_true rfl⟩ ⟨Nat.le_of_ble_eq_true rfl, Nat.le_of_ble_eq_true rfl⟩ dX5_value_4 (z_prop C htab (Nat.le_of_ble_eq_true rfl) (Nat.le_of_ble_eq_true rfl)) (fun v M2 _ _ I hv => ?_)
  obtain ⟨v3, rfl, hw⟩ := hv
  refine W.eq (g2 := F0 m 7 ls [.int v3]) rfl ?_
  refine lv_bipush (v := 20) hx hb dX5_value_7 (by decide) ?_
  refine lv_icmp_lt (tgt := 22) hx hb dX5_value_9 (by decide) (fun c => ?_) (fun c => ?_)
  · replace hw := hw.1 c
    refine lv_aload_n hx hb dX5_value_22 rfl (lv_at hl 0 rfl) ?_
    refine z_getr C I fl_X5_36 hw dX5_value_23 (fun v4 hw => ?_)
    refine lv_iload_n hx hb dX5_value_26 rfl (lv_at hl 1 rfl) ?_
    obtain ⟨hrc, hw⟩ := hw
    refine z_callV C I (as := [.int p0]) (rest := []) (m_X1_add E hw) kv_X5_226 vc_2 hrc rfl rfl hl.1 (Nat.le_of_ble_eq_true rfl) ⟨Nat.le_of_ble_eq_true rfl, Nat.le_of_ble_eq_true rfl⟩ ⟨Nat.le_of_ble_eq_true rfl, Nat.le_of_ble_eq_true rfl⟩ dX5_value_27 (z_prop C htab (Nat.le_of_ble_eq_true rfl) (Nat.le_of_ble_eq_true rfl)) (fun v M5 _ _ I hv => ?_)
    obtain ⟨rfl, hw⟩ := hv
    refine W.eq (g2 := F0 m 30 ls []) rfl ?_
    refine lv_aload_n hx hb dX5_value_30 rfl (lv_at hl 0 rfl) ?_
    refine z_getr C I fl_X5_36 hw dX5_value_31 (fun v6 hw => ?_)
    obtain ⟨hrc, hw⟩ := hw
    refine z_callV C I (as := []) (rest := []) (m_X1_count E hw) kv_X5_77 vc_2 hrc rfl rfl hl.1 (Nat.le_of_ble_eq_true rfl) ⟨Nat.le_of_ble_eq_true rfl, Nat.le_of_ble_eq_true rfl⟩ ⟨Nat.le_of_ble_eq_true rfl, Nat.le_of_ble_eq_true rfl⟩ dX5_value_34 (z_prop C htab (Nat.le_of_ble_eq_true rfl) (Nat.le_of_ble_eq_true rfl)) (fun v M7 _ _ I hv => ?_)
    obtain ⟨v8, rfl, hw⟩ := hv
    refine W.eq (g2 := F0 m 37 ls [.int v8]) rfl ?_
    exact z_iret C I hr ⟨_, rfl, hw⟩ (Nat.le_of_ble_eq_true rfl) (Nat.le_of_ble_eq_true rfl) dX5_value_37
  · replace hw := hw.2 c
    exact z_throw C htab I 3 kt_X5_91_224 hw hl.1 dX5_value_12 dX5_value_15 dX5_value_16 dX5_value_18 dX5_value_21 ⟨Nat.le_of_ble_eq_true rfl, Nat.le_of_ble_eq_true rfl, Nat.le_of_ble_eq_true rfl, Nat.le_of_ble_eq_true rfl⟩ (Nat.le_of_ble_eq_true rfl) (Nat.le_of_ble_eq_true rfl)
set_option maxHeartbeats 4000000 in
set_option maxRecDepth 100000 in
theorem m_X5_clear {X : zX} {l : Launch} (E : zEnv X l) {M : zM} {o : Nat} {P : Int32 → zM → Prop} {PX : Nat → zM → Prop} (hw : w_X5_clear o M P) : zCT X l yX5_clear cX5_clear 2 (some .int) 1 20 0 0 M [.ref o] (zPi P) PX := by
  refine z_entry E (by decide) ?_
  intro p e s m args below meth c C hr htab I
  have hx := C.1.1
  have hb := C.1.2.1
  obtain ⟨ls, he, hl⟩ := z_enter (m := m) (n := 2) (vs := [.ref o]) (l := [(0, .ref o)]) (Nat.le_of_ble_eq_true rfl) rfl
  rw [he]
  clear he
  unfold w_X5_clear at hw
  refine lv_aload_n hx hb dX5_clear_0 rfl (lv_at hl 0 rfl) ?_
  refine z_getr C I fl_X5_36 hw dX5_clear_1 (fun v1 hw => ?_)
  obtain ⟨hrc, hw⟩ := hw
  refine z_callV C I (as := []) (rest := []) (m_X1_count E hw) kv_X5_77 vc_2 hrc rfl rfl hl.1 (Nat.le_of_ble_eq_true rfl) ⟨Nat.le_of_ble_eq_true rfl, Nat.le_of_ble_eq_true rfl⟩ ⟨Nat.le_of_ble_eq_true rfl, Nat.le_of_ble_eq_true rfl⟩ dX5_clear_4 (z_prop C htab (Nat.le_of_ble_eq_true rfl) (Nat.le_of_ble_eq_true rfl)) (fun v M2 _ _ I hv => ?_)
  obtain ⟨v3, rfl, hw⟩ := hv
  refine W.eq (g2 := F0 m 7 ls [.int v3]) rfl ?_
  refine lv_istore_n (lv' := [(1, .int v3), (0, .ref o)]) hx hb dX5_clear_7 rfl hl (by decide) rfl (fun ls hl4 => ?_)
  refine lv_aload_n hx hb dX5_clear_8 rfl (lv_at hl4 1 rfl) ?_
  refine z_getr C I fl_X5_36 hw dX5_clear_9 (fun v5 hw => ?_)
  obtain ⟨hrc, hw⟩ := hw
  refine z_callV C I (as := []) (rest := []) (m_X1_empty E hw) kv_X5_219 vc_2 hrc rfl rfl hl4.1 (Nat.le_of_ble_eq_true rfl) ⟨Nat.le_of_ble_eq_true rfl, Nat.le_of_ble_eq_true rfl⟩ ⟨Nat.le_of_ble_eq_true rfl, Nat.le_of_ble_eq_true rfl⟩ dX5_clear_12 (z_prop C htab (Nat.le_of_ble_eq_true rfl) (Nat.le_of_ble_eq_true rfl)) (fun v M6 _ _ I hv => ?_)
  obtain ⟨rfl, hw⟩ := hv
  refine W.eq (g2 := F0 m 15 ls []) rfl ?_
  refine lv_iload_n hx hb dX5_clear_15 rfl (lv_at hl4 0 rfl) ?_
  exact z_iret C I hr ⟨_, rfl, hw⟩ (Nat.le_of_ble_eq_true rfl) (Nat.le_of_ble_eq_true rfl) dX5_clear_16
set_option maxHeartbeats 4000000 in
set_option maxRecDepth 100000 in
theorem m_X5_isRecordOf {X : zX} {l : Launch} (E : zEnv X l) {M : zM} {o : Nat} {p0 : Nat} {P : Int32 → zM → Prop} {PX : Nat → zM → Prop} (hw : w_X5_isRecordOf o p0 M P) : zCT X l yX5_isRecordOf cX5_isRecordOf 3 (some .boolean) 1 21 0 0 M [.ref o, .ref p0] (zPz P) PX := by
  refine z_entry E (by decide) ?_
  intro p e s m args below meth c C hr htab I
  have hx := C.1.1
  have hb := C.1.2.1
  obtain ⟨ls, he, hl⟩ := z_enter (m := m) (n := 3) (vs := [.ref o, .ref p0]) (l := [(0, .ref o), (1, .ref p0)]) (Nat.le_of_ble_eq_true rfl) rfl
  rw [he]
  clear he
  unfold w_X5_isRecordOf at hw
  have hb_21 : ∀ (n : Nat) (x2 : Int32) (M : zM) (H : Heap) (locs : List Loc) (ls : Array Slot), zWk X s M H locs → lv_has ls 3 [(0, .ref o), (1, .ref p0), (2, .int x2)] → w_X5_isRecordOf_21 o p0 P n x2 M → W p l e (zRm 1 21 0 0) s m args below meth c H locs 0 0 (vx_MQ below (zQc X (zPz P)) (zXc X PX) args s 0 0 (zBase X)) (F0 m 21 ls []) := by
    intro n
    induction n with
    | zero => intro _ M H locs ls I hl hw; exact hw.elim
    | succ n ih =>
      intro x2 M H locs ls I hl hw
      unfold w_X5_isRecordOf_21 at hw
      refine lv_iload_n hx hb dX5_isRecordOf_21 rfl (lv_at hl 2 rfl) ?_
      refine lv_aload_n hx hb dX5_isRecordOf_22 rfl (lv_at hl 0 rfl) ?_
      refine z_getr C I fl_X5_36 hw dX5_isRecordOf_23 (fun v1 hw => ?_)
      obtain ⟨hrc, hw⟩ := hw
      refine z_callV C I (as := []) (rest := [.int x2]) (m_X1_count E hw) kv_X5_77 vc_2 hrc rfl rfl hl.1 (Nat.le_of_ble_eq_true rfl) ⟨Nat.le_of_ble_eq_true rfl, Nat.le_of_ble_eq_true rfl⟩ ⟨Nat.le_of_ble_eq_true rfl, Nat.le_of_ble_eq_true rfl⟩ dX5_isRecordOf_26 (z_prop C htab (Nat.le_of_ble_eq_true rfl) (Nat.le_of_ble_eq_true rfl)) (fun v M2 _ _ I hv => ?_)
      obtain ⟨v3, rfl, hw⟩ := hv
      refine W.eq (g2 := F0 m 29 ls [.int v3, .int x2]) rfl ?_
      refine lv_icmp_ge (tgt := 62) hx hb dX5_isRecordOf_29 (by decide) (fun c => ?_) (fun c => ?_)
      · replace hw := hw.1 c
        refine lv_iconst (v := 1) hx hb dX5_isRecordOf_62 (by decide) ?_
        exact z_zret C I hr (Or.inr rfl) ⟨_, rfl, (Or.inr rfl), hw⟩ (Nat.le_of_ble_eq_true rfl) (Nat.le_of_ble_eq_true rfl) dX5_isRecordOf_63
      · replace hw := hw.2 c
        refine lv_aload_n hx hb dX5_isRecordOf_32 rfl (lv_at hl 0 rfl) ?_
        refine z_getr C I fl_X5_36 hw dX5_isRecordOf_33 (fun v4 hw => ?_)
        refine lv_iload_n hx hb dX5_isRecordOf_36 rfl (lv_at hl 2 rfl) ?_
        obtain ⟨hrc, hw⟩ := hw
        refine z_callV C I (as := [.int x2]) (rest := []) (m_X1_at E hw) kv_X5_236 vc_2 hrc rfl rfl hl.1 (Nat.le_of_ble_eq_true rfl) ⟨Nat.le_of_ble_eq_true rfl, Nat.le_of_ble_eq_true rfl⟩ ⟨Nat.le_of_ble_eq_true rfl, Nat.le_of_ble_eq_true rfl⟩ dX5_isRecordOf_37 (z_prop C htab (Nat.le_of_ble_eq_true rfl) (Nat.le_of_ble_eq_true rfl)) (fun v M5 _ _ I hv => ?_)
        obtain ⟨v6, rfl, hw⟩ := hv
        refine W.eq (g2 := F0 m 40 ls [.int v6]) rfl ?_
        refine lv_aload_n hx hb dX5_isRecordOf_40 rfl (lv_at hl 1 rfl) ?_
        refine z_getr C I fl_X5_74 hw dX5_isRecordOf_41 (fun v7 hw => ?_)
        refine lv_iload_n hx hb dX5_isRecordOf_44 rfl (lv_at hl 2 rfl) ?_
        obtain ⟨hrc, hw⟩ := hw
        refine z_callV C I (as := [.int x2]) (rest := [.int v6]) (m_X1_at E hw) kv_X5_236 vc_2 hrc rfl rfl hl.1 (Nat.le_of_ble_eq_true rfl) ⟨Nat.le_of_ble_eq_true rfl, Nat.le_of_ble_eq_true rfl⟩ ⟨Nat.le_of_ble_eq_true rfl, Nat.le_of_ble_eq_true rfl⟩ dX5_isRecordOf_45 (z_prop C htab (Nat.le_of_ble_eq_true rfl) (Nat.le_of_ble_eq_true rfl)) (fun v M8 _ _ I hv => ?_)
        obtain ⟨v9, rfl, hw⟩ := hv
        refine W.eq (g2 := F0 m 48 ls [.int v9, .int v6]) rfl ?_
        refine z_callS C I (as := [.int v6, .int v9]) (rest := []) (m_X5_isOfSize E hw) ks_X5_121 rfl rfl hl.1 (Nat.le_of_ble_eq_true rfl) ⟨Nat.le_of_ble_eq_true rfl, Nat.le_of_ble_eq_true rfl⟩ ⟨Nat.le_of_ble_eq_true rfl, Nat.le_of_ble_eq_true rfl⟩ dX5_isRecordOf_48 (z_prop C htab (Nat.le_of_ble_eq_true rfl) (Nat.le_of_ble_eq_true rfl)) (fun v M10 _ _ I hv => ?_)
        obtain ⟨v11, rfl, hv11, hw⟩ := hv
        refine W.eq (g2 := F0 m 51 ls [.int v11]) rfl ?_
        refine lv_if_ne (tgt := 56) hx hb dX5_isRecordOf_51 (by decide) (fun c => ?_) (fun c => ?_)
        · replace hw := hw.1 c
          refine lv_iinc (v := (x2 + 1)) (lv' := [(2, .int (x2 + 1)), (0, .ref o), (1, .ref p0)]) hx hb dX5_isRecordOf_56 hl (k := 2) rfl (by rfl) (by decide) rfl (fun ls hl12 => ?_)
          refine lv_goto (tgt := 21) hx hb dX5_isRecordOf_59 (by decide) ?_
          refine W.widen (k := 0) (n := 0) (Nat.le_of_ble_eq_true rfl) (Nat.le_of_ble_eq_true rfl) ?_
          exact ih (x2 + 1) _ _ _ ls I (lv_sub hl12 [1, 2, 0] rfl) hw
        · replace hw := hw.2 c
          refine lv_iconst (v := 0) hx hb dX5_isRecordOf_54 (by decide) ?_
          exact z_zret C I hr (Or.inl rfl) ⟨_, rfl, (Or.inl rfl), hw⟩ (Nat.le_of_ble_eq_true rfl) (Nat.le_of_ble_eq_true rfl) dX5_isRecordOf_55
  refine lv_aload_n hx hb dX5_isRecordOf_0 rfl (lv_at hl 0 rfl) ?_
  refine z_getr C I fl_X5_36 hw dX5_isRecordOf_1 (fun v13 hw => ?_)
  obtain ⟨hrc, hw⟩ := hw
  refine z_callV C I (as := []) (rest := []) (m_X1_count E hw) kv_X5_77 vc_2 hrc rfl rfl hl.1 (Nat.le_of_ble_eq_true rfl) ⟨Nat.le_of_ble_eq_true rfl, Nat.le_of_ble_eq_true rfl⟩ ⟨Nat.le_of_ble_eq_true rfl, Nat.le_of_ble_eq_true rfl⟩ dX5_isRecordOf_4 (z_prop C htab (Nat.le_of_ble_eq_true rfl) (Nat.le_of_ble_eq_true rfl)) (fun v M14 _ _ I hv => ?_)
  obtain ⟨v15, rfl, hw⟩ := hv
  refine W.eq (g2 := F0 m 7 ls [.int v15]) rfl ?_
  refine lv_aload_n hx hb dX5_isRecordOf_7 rfl (lv_at hl 1 rfl) ?_
  refine z_getr C I fl_X5_74 hw dX5_isRecordOf_8 (fun v16 hw => ?_)
  obtain ⟨hrc, hw⟩ := hw
  refine z_callV C I (as := []) (rest := [.int v15]) (m_X1_count E hw) kv_X5_77 vc_2 hrc rfl rfl hl.1 (Nat.le_of_ble_eq_true rfl) ⟨Nat.le_of_ble_eq_true rfl, Nat.le_of_ble_eq_true rfl⟩ ⟨Nat.le_of_ble_eq_true rfl, Nat.le_of_ble_eq_true rfl⟩ dX5_isRecordOf_11 (z_prop C htab (Nat.le_of_ble_eq_true rfl) (Nat.le_of_ble_eq_true rfl)) (fun v M17 _ _ I hv => ?_)
  obtain ⟨v18, rfl, hw⟩ := hv
  refine W.eq (g2 := F0 m 14 ls [.int v18, .int v15]) rfl ?_
  refine lv_icmp_eq (tgt := 19) hx hb dX5_isRecordOf_14 (by decide) (fun c => ?_) (fun c => ?_)
  · replace hw := hw.1 c
    refine lv_iconst (v := 0) hx hb dX5_isRecordOf_19 (by decide) ?_
    refine lv_istore_n (lv' := [(2, .int (0 : Int32)), (0, .ref o), (1, .ref p0)]) hx hb dX5_isRecordOf_20 rfl hl (by decide) rfl (fun ls hl19 => ?_)
    obtain ⟨nn, hw⟩ := hw
    refine W.widen (k := 0) (n := 0) (Nat.le_of_ble_eq_true rfl) (Nat.le_of_ble_eq_true rfl) ?_
    exact hb_21 nn (0 : Int32) _ _ _ ls I (lv_sub hl19 [1, 2, 0] rfl) hw
  · replace hw := hw.2 c
    refine lv_iconst (v := 0) hx hb dX5_isRecordOf_17 (by decide) ?_
    exact z_zret C I hr (Or.inl rfl) ⟨_, rfl, (Or.inl rfl), hw⟩ (Nat.le_of_ble_eq_true rfl) (Nat.le_of_ble_eq_true rfl) dX5_isRecordOf_18
set_option maxHeartbeats 4000000 in
set_option maxRecDepth 100000 in
theorem m_X5_isRecord {X : zX} {l : Launch} (E : zEnv X l) {M : zM} {o : Nat} {p0 : Int32} {p1 : Int32} {P : Int32 → zM → Prop} {PX : Nat → zM → Prop} (hw : w_X5_isRecord o p0 p1 M P PX) : zCT X l yX5_isRecord cX5_isRecord 3 (some .boolean) 8 134 2 12 M [.ref o, .int p0, .int p1] (zPz P) PX := by
  refine z_entry E (by decide) ?_
  intro p e s m args below meth c C hr htab I
  have hx := C.1.1
  have hb := C.1.2.1
  obtain ⟨ls, he, hl⟩ := z_enter (m := m) (n := 3) (vs := [.ref o, .int p0, .int p1]) (l := [(0, .ref o), (1, .int p0), (2, .int p1)]) (Nat.le_of_ble_eq_true rfl) rfl
  rw [he]
  clear he
  unfold w_X5_isRecord at hw
  refine lv_aload_n hx hb dX5_isRecord_0 rfl (lv_at hl 0 rfl) ?_
  refine lv_aload_n hx hb dX5_isRecord_1 rfl (lv_at hl 0 rfl) ?_
  refine lv_iload_n hx hb dX5_isRecord_2 rfl (lv_at hl 1 rfl) ?_
  refine lv_iload_n hx hb dX5_isRecord_3 rfl (lv_at hl 2 rfl) ?_
  obtain ⟨hrc, hw⟩ := hw
  refine z_callV C I (as := [.int p0, .int p1]) (rest := [.ref o]) (m_X5_demandedSchema E hw) kv_X5_194 vc_6 hrc rfl rfl hl.1 (Nat.le_of_ble_eq_true rfl) ⟨Nat.le_of_ble_eq_true rfl, Nat.le_of_ble_eq_true rfl⟩ ⟨Nat.le_of_ble_eq_true rfl, Nat.le_of_ble_eq_true rfl⟩ dX5_isRecord_4 (z_prop C htab (Nat.le_of_ble_eq_true rfl) (Nat.le_of_ble_eq_true rfl)) (fun v M1 _ _ I hv => ?_)
  obtain ⟨v2, rfl, hw⟩ := hv
  refine W.eq (g2 := F0 m 7 ls [va_rf v2, .ref o]) rfl ?_
  obtain ⟨a3, hq1, hq2⟩ := hw
  subst hq1
  have hw := hq2
  clear hq2
  refine W.eq (g2 := F0 m 7 ls [.ref a3, .ref o]) rfl ?_
  have hl4 : lv_has ls 3 [(0, .ref o), (1, .int p0), (2, .int p1)] := hl
  obtain ⟨hrc, hw⟩ := hw
  refine z_callV C I (as := [.ref a3]) (rest := []) (m_X5_isRecordOf E hw) kv_X5_229 vc_6 hrc rfl rfl hl4.1 (Nat.le_of_ble_eq_true rfl) ⟨Nat.le_of_ble_eq_true rfl, Nat.le_of_ble_eq_true rfl⟩ ⟨Nat.le_of_ble_eq_true rfl, Nat.le_of_ble_eq_true rfl⟩ dX5_isRecord_7 (z_prop C htab (Nat.le_of_ble_eq_true rfl) (Nat.le_of_ble_eq_true rfl)) (fun v M5 _ _ I hv => ?_)
  obtain ⟨v6, rfl, hv6, hw⟩ := hv
  refine W.eq (g2 := F0 m 10 ls [.int v6]) rfl ?_
  exact z_zret C I hr hv6 ⟨_, rfl, hv6, hw⟩ (Nat.le_of_ble_eq_true rfl) (Nat.le_of_ble_eq_true rfl) dX5_isRecord_10
set_option maxHeartbeats 4000000 in
set_option maxRecDepth 100000 in
theorem m_X5_read {X : zX} {l : Launch} (E : zEnv X l) {M : zM} {o : Nat} {p0 : Int32} {p1 : Int32} {p2 : Int32} {p3 : Int32} {P : Int32 → zM → Prop} {PX : Nat → zM → Prop} (hw : w_X5_read o p0 p1 p2 p3 M P PX) : zCT X l yX5_read cX5_read 8 (some .int) 103 4826 7 42 M [.ref o, .int p0, .int p1, .int p2, .int p3] (zPi P) PX := by
  refine z_entry E (by decide) ?_
  intro p e s m args below meth c C hr htab I
  have hx := C.1.1
  have hb := C.1.2.1
  obtain ⟨ls, he, hl⟩ := z_enter (m := m) (n := 8) (vs := [.ref o, .int p0, .int p1, .int p2, .int p3]) (l := [(0, .ref o), (1, .int p0), (2, .int p1), (3, .int p2), (4, .int p3)]) (Nat.le_of_ble_eq_true rfl) rfl
  rw [he]
  clear he
  unfold w_X5_read at hw
  have hb_59 : ∀ (M : zM) (H : Heap) (locs : List Loc) (ls : Array Slot), zWk X s M H locs → lv_has ls 8 [] → w_X5_read_59 o p0 p1 p2 p3 P PX M → W p l e (zRm 103 4826 7 42) s m args below meth c H locs 6 36 (vx_MQ below (zQc X (zPi P)) (zXc X PX) args s 7 42 (zBase X)) (F0 m 59 ls []) := by
    intro M H locs ls I hl hw
    unfold w_X5_read_59 at hw
    exact z_throw C htab I 3 kt_X5_91_232 hw hl.1 dX5_read_59 dX5_read_62 dX5_read_63 dX5_read_65 dX5_read_68 ⟨Nat.le_of_ble_eq_true rfl, Nat.le_of_ble_eq_true rfl, Nat.le_of_ble_eq_true rfl, Nat.le_of_ble_eq_true rfl⟩ (Nat.le_of_ble_eq_true rfl) (Nat.le_of_ble_eq_true rfl)
  refine lv_aload_n hx hb dX5_read_0 rfl (lv_at hl 0 rfl) ?_
  refine lv_iload_n hx hb dX5_read_1 rfl (lv_at hl 1 rfl) ?_
  refine lv_iload_n hx hb dX5_read_2 rfl (lv_at hl 3 rfl) ?_
  obtain ⟨hrc, hw⟩ := hw
  refine z_callV C I (as := [.int p0, .int p2]) (rest := []) (m_X5_demandSubjects E hw) kv_X5_201 vc_6 hrc rfl rfl hl.1 (Nat.le_of_ble_eq_true rfl) ⟨Nat.le_of_ble_eq_true rfl, Nat.le_of_ble_eq_true rfl⟩ ⟨Nat.le_of_ble_eq_true rfl, Nat.le_of_ble_eq_true rfl⟩ dX5_read_3 (z_prop C htab (Nat.le_of_ble_eq_true rfl) (Nat.le_of_ble_eq_true rfl)) (fun v M1 _ _ I hv => ?_)
  obtain ⟨rfl, hw⟩ := hv
  refine W.eq (g2 := F0 m 6 ls []) rfl ?_
  refine lv_aload_n hx hb dX5_read_6 rfl (lv_at hl 0 rfl) ?_
  refine lv_iload_n hx hb dX5_read_7 rfl (lv_at hl 1 rfl) ?_
  refine lv_iload_n hx hb dX5_read_8 rfl (lv_at hl 2 rfl) ?_
  obtain ⟨hrc, hw⟩ := hw
  refine z_callV C I (as := [.int p0, .int p1]) (rest := []) (m_X5_demandedSchema E hw) kv_X5_194 vc_6 hrc rfl rfl hl.1 (Nat.le_of_ble_eq_true rfl) ⟨Nat.le_of_ble_eq_true rfl, Nat.le_of_ble_eq_true rfl⟩ ⟨Nat.le_of_ble_eq_true rfl, Nat.le_of_ble_eq_true rfl⟩ dX5_read_9 (z_prop C htab (Nat.le_of_ble_eq_true rfl) (Nat.le_of_ble_eq_true rfl)) (fun v M2 _ _ I hv => ?_)
  obtain ⟨v3, rfl, hw⟩ := hv
  refine W.eq (g2 := F0 m 12 ls [va_rf v3]) rfl ?_
  refine z_astore (lv' := [(5, va_rf v3), (0, .ref o), (1, .int p0), (2, .int p1), (3, .int p2), (4, .int p3)]) C (r := v3) dX5_read_12 hl (by decide) rfl (fun ls hl4 => ?_)
  refine lv_aload_n hx hb dX5_read_14 rfl (lv_at hl4 1 rfl) ?_
  refine lv_iload_n hx hb dX5_read_15 rfl (lv_at hl4 4 rfl) ?_
  refine lv_iload hx hb dX5_read_16 (lv_at hl4 5 rfl) ?_
  obtain ⟨hrc, hw⟩ := hw
  refine z_callV C I (as := [.int p2, .int p3]) (rest := []) (m_X5_demandedSchema E hw) kv_X5_194 vc_6 hrc rfl rfl hl4.1 (Nat.le_of_ble_eq_true rfl) ⟨Nat.le_of_ble_eq_true rfl, Nat.le_of_ble_eq_true rfl⟩ ⟨Nat.le_of_ble_eq_true rfl, Nat.le_of_ble_eq_true rfl⟩ dX5_read_18 (z_prop C htab (Nat.le_of_ble_eq_true rfl) (Nat.le_of_ble_eq_true rfl)) (fun v M5 _ _ I hv => ?_)
  obtain ⟨v6, rfl, hw⟩ := hv
  refine W.eq (g2 := F0 m 21 ls [va_rf v6]) rfl ?_
  refine z_astore (lv' := [(6, va_rf v6), (5, va_rf v3), (0, .ref o), (1, .int p0), (2, .int p1), (3, .int p2), (4, .int p3)]) C (r := v6) dX5_read_21 hl4 (by decide) (by simp [z_catR]) (fun ls hl7 => ?_)
  refine lv_aload_n hx hb dX5_read_23 rfl (lv_at hl7 2 rfl) ?_
  refine z_getr C I fl_X5_40 hw dX5_read_24 (fun v8 hw => ?_)
  obtain ⟨hrc, hw⟩ := hw
  refine z_callV C I (as := []) (rest := []) (m_X1_empty E hw) kv_X5_219 vc_2 hrc rfl rfl hl7.1 (Nat.le_of_ble_eq_true rfl) ⟨Nat.le_of_ble_eq_true rfl, Nat.le_of_ble_eq_true rfl⟩ ⟨Nat.le_of_ble_eq_true rfl, Nat.le_of_ble_eq_true rfl⟩ dX5_read_27 (z_prop C htab (Nat.le_of_ble_eq_true rfl) (Nat.le_of_ble_eq_true rfl)) (fun v M9 _ _ I hv => ?_)
  obtain ⟨rfl, hw⟩ := hv
  refine W.eq (g2 := F0 m 30 ls []) rfl ?_
  refine lv_aload_n hx hb dX5_read_30 rfl (lv_at hl7 2 rfl) ?_
  refine z_aload C (r := v6) dX5_read_31 (lv_at hl7 0 rfl) ?_
  obtain ⟨a10, hq1, hq2⟩ := hw
  subst hq1
  have hw := hq2
  clear hq2
  refine W.eq (g2 := F0 m 33 ls [.ref a10, .ref o]) rfl ?_
  have hl11 : lv_has ls 8 [(6, .ref a10), (5, va_rf v3), (0, .ref o), (1, .int p0), (2, .int p1), (3, .int p2), (4, .int p3)] := hl7
  obtain ⟨hrc, hw⟩ := hw
  refine z_callV C I (as := [.ref a10]) (rest := []) (m_X5_isRecordOf E hw) kv_X5_229 vc_6 hrc rfl rfl hl11.1 (Nat.le_of_ble_eq_true rfl) ⟨Nat.le_of_ble_eq_true rfl, Nat.le_of_ble_eq_true rfl⟩ ⟨Nat.le_of_ble_eq_true rfl, Nat.le_of_ble_eq_true rfl⟩ dX5_read_33 (z_prop C htab (Nat.le_of_ble_eq_true rfl) (Nat.le_of_ble_eq_true rfl)) (fun v M12 _ _ I hv => ?_)
  obtain ⟨v13, rfl, hv13, hw⟩ := hv
  refine W.eq (g2 := F0 m 36 ls [.int v13]) rfl ?_
  refine lv_if_eq (tgt := 59) hx hb dX5_read_36 (by decide) (fun c => ?_) (fun c => ?_)
  · replace hw := hw.1 c
    refine W.widen (k := 6) (n := 36) (Nat.le_of_ble_eq_true rfl) (Nat.le_of_ble_eq_true rfl) ?_
    exact hb_59 _ _ _ ls I (lv_sub hl11 [] rfl) hw
  · replace hw := hw.2 c
    refine z_aload C (r := v3) dX5_read_39 (lv_at hl11 1 rfl) ?_
    refine lv_aload hx hb dX5_read_41 (lv_at hl11 0 rfl) ?_
    refine lv_aload_n hx hb dX5_read_43 rfl (lv_at hl11 2 rfl) ?_
    refine z_getr C I fl_X5_36 hw dX5_read_44 (fun v14 hw => ?_)
    refine lv_iconst (v := 0) hx hb dX5_read_47 (by decide) ?_
    refine lv_aload_n hx hb dX5_read_48 rfl (lv_at hl11 2 rfl) ?_
    refine z_getr C I fl_X5_40 hw dX5_read_49 (fun v15 hw => ?_)
    refine lv_iconst (v := 0) hx hb dX5_read_52 (by decide) ?_
    refine z_callS C I (as := [va_rf v3, .ref a10, .ref v14, .int (0 : Int32), .ref v15, .int (0 : Int32)]) (rest := []) (m_X5_readSchema E hw) ks_X5_220 rfl rfl hl11.1 (Nat.le_of_ble_eq_true rfl) ⟨Nat.le_of_ble_eq_true rfl, Nat.le_of_ble_eq_true rfl⟩ ⟨Nat.le_of_ble_eq_true rfl, Nat.le_of_ble_eq_true rfl⟩ dX5_read_53 (z_prop C htab (Nat.le_of_ble_eq_true rfl) (Nat.le_of_ble_eq_true rfl)) (fun v M16 _ _ I hv => ?_)
    obtain ⟨v17, rfl, hv17, hw⟩ := hv
    refine W.eq (g2 := F0 m 56 ls [.int v17]) rfl ?_
    refine lv_if_ne (tgt := 69) hx hb dX5_read_56 (by decide) (fun c => ?_) (fun c => ?_)
    · replace hw := hw.1 c
      refine lv_aload_n hx hb dX5_read_69 rfl (lv_at hl11 2 rfl) ?_
      refine z_getr C I fl_X5_36 hw dX5_read_70 (fun v18 hw => ?_)
      refine lv_astore (lv' := [(7, .ref v18), (6, .ref a10), (5, va_rf v3), (0, .ref o), (1, .int p0), (2, .int p1), (3, .int p2), (4, .int p3)]) hx hb dX5_read_73 hl11 (by decide) rfl (fun ls hl19 => ?_)
      refine lv_aload_n hx hb dX5_read_75 rfl (lv_at hl19 3 rfl) ?_
      refine lv_aload_n hx hb dX5_read_76 rfl (lv_at hl19 3 rfl) ?_
      refine z_getr C I fl_X5_40 hw dX5_read_77 (fun v20 hw => ?_)
      refine z_put C I fl_X5_36 rfl (v := .ref v20) rfl rfl hw dX5_read_80 (fun M21 _ _ I hw => ?_)
      refine lv_aload_n hx hb dX5_read_83 rfl (lv_at hl19 3 rfl) ?_
      refine lv_aload hx hb dX5_read_84 (lv_at hl19 0 rfl) ?_
      refine z_put C I fl_X5_40 rfl (v := .ref v18) rfl rfl hw dX5_read_86 (fun M22 _ _ I hw => ?_)
      refine lv_aload_n hx hb dX5_read_89 rfl (lv_at hl19 3 rfl) ?_
      refine z_getr C I fl_X5_36 hw dX5_read_90 (fun v23 hw => ?_)
      obtain ⟨hrc, hw⟩ := hw
      refine z_callV C I (as := []) (rest := []) (m_X1_count E hw) kv_X5_77 vc_2 hrc rfl rfl hl19.1 (Nat.le_of_ble_eq_true rfl) ⟨Nat.le_of_ble_eq_true rfl, Nat.le_of_ble_eq_true rfl⟩ ⟨Nat.le_of_ble_eq_true rfl, Nat.le_of_ble_eq_true rfl⟩ dX5_read_93 (z_prop C htab (Nat.le_of_ble_eq_true rfl) (Nat.le_of_ble_eq_true rfl)) (fun v M24 _ _ I hv => ?_)
      obtain ⟨v25, rfl, hw⟩ := hv
      refine W.eq (g2 := F0 m 96 ls [.int v25]) rfl ?_
      exact z_iret C I hr ⟨_, rfl, hw⟩ (Nat.le_of_ble_eq_true rfl) (Nat.le_of_ble_eq_true rfl) dX5_read_96
    · replace hw := hw.2 c
      refine W.widen (k := 6) (n := 36) (Nat.le_of_ble_eq_true rfl) (Nat.le_of_ble_eq_true rfl) ?_
      exact hb_59 _ _ _ ls I (lv_sub hl11 [] rfl) hw
set_option maxHeartbeats 4000000 in
set_option maxRecDepth 100000 in
theorem m_X5_valueAt {X : zX} {l : Launch} (E : zEnv X l) {M : zM} {o : Nat} {p0 : Int32} {P : Int32 → zM → Prop} {PX : Nat → zM → Prop} (hw : w_X5_valueAt o p0 M P PX) : zCT X l yX5_valueAt cX5_valueAt 2 (some .int) 6 90 1 6 M [.ref o, .int p0] (zPi P) PX := by
  refine z_entry E (by decide) ?_
  intro p e s m args below meth c C hr htab I
  have hx := C.1.1
  have hb := C.1.2.1
  obtain ⟨ls, he, hl⟩ := z_enter (m := m) (n := 2) (vs := [.ref o, .int p0]) (l := [(0, .ref o), (1, .int p0)]) (Nat.le_of_ble_eq_true rfl) rfl
  rw [he]
  clear he
  unfold w_X5_valueAt at hw
  have hb_15 : ∀ (M : zM) (H : Heap) (locs : List Loc) (ls : Array Slot), zWk X s M H locs → lv_has ls 2 [] → w_X5_valueAt_15 o p0 P PX M → W p l e (zRm 6 90 1 6) s m args below meth c H locs 0 0 (vx_MQ below (zQc X (zPi P)) (zXc X PX) args s 1 6 (zBase X)) (F0 m 15 ls []) := by
    intro M H locs ls I hl hw
    unfold w_X5_valueAt_15 at hw
    exact z_throw C htab I 2 kt_X5_69_234 hw hl.1 dX5_valueAt_15 dX5_valueAt_18 dX5_valueAt_19 dX5_valueAt_21 dX5_valueAt_24 ⟨Nat.le_of_ble_eq_true rfl, Nat.le_of_ble_eq_true rfl, Nat.le_of_ble_eq_true rfl, Nat.le_of_ble_eq_true rfl⟩ (Nat.le_of_ble_eq_true rfl) (Nat.le_of_ble_eq_true rfl)
  refine lv_iload_n hx hb dX5_valueAt_0 rfl (lv_at hl 1 rfl) ?_
  refine lv_if_lt (tgt := 15) hx hb dX5_valueAt_1 (by decide) (fun c => ?_) (fun c => ?_)
  · replace hw := hw.1 c
    refine W.widen (k := 0) (n := 0) (Nat.le_of_ble_eq_true rfl) (Nat.le_of_ble_eq_true rfl) ?_
    exact hb_15 _ _ _ ls I (lv_sub hl [] rfl) hw
  · replace hw := hw.2 c
    refine lv_iload_n hx hb dX5_valueAt_4 rfl (lv_at hl 1 rfl) ?_
    refine lv_aload_n hx hb dX5_valueAt_5 rfl (lv_at hl 0 rfl) ?_
    refine z_getr C I fl_X5_36 hw dX5_valueAt_6 (fun v1 hw => ?_)
    obtain ⟨hrc, hw⟩ := hw
    refine z_callV C I (as := []) (rest := [.int p0]) (m_X1_count E hw) kv_X5_77 vc_2 hrc rfl rfl hl.1 (Nat.le_of_ble_eq_true rfl) ⟨Nat.le_of_ble_eq_true rfl, Nat.le_of_ble_eq_true rfl⟩ ⟨Nat.le_of_ble_eq_true rfl, Nat.le_of_ble_eq_true rfl⟩ dX5_valueAt_9 (z_prop C htab (Nat.le_of_ble_eq_true rfl) (Nat.le_of_ble_eq_true rfl)) (fun v M2 _ _ I hv => ?_)
    obtain ⟨v3, rfl, hw⟩ := hv
    refine W.eq (g2 := F0 m 12 ls [.int v3, .int p0]) rfl ?_
    refine lv_icmp_lt (tgt := 25) hx hb dX5_valueAt_12 (by decide) (fun c => ?_) (fun c => ?_)
    · replace hw := hw.1 c
      refine lv_aload_n hx hb dX5_valueAt_25 rfl (lv_at hl 0 rfl) ?_
      refine z_getr C I fl_X5_36 hw dX5_valueAt_26 (fun v4 hw => ?_)
      refine lv_iload_n hx hb dX5_valueAt_29 rfl (lv_at hl 1 rfl) ?_
      obtain ⟨hrc, hw⟩ := hw
      refine z_callV C I (as := [.int p0]) (rest := []) (m_X1_at E hw) kv_X5_236 vc_2 hrc rfl rfl hl.1 (Nat.le_of_ble_eq_true rfl) ⟨Nat.le_of_ble_eq_true rfl, Nat.le_of_ble_eq_true rfl⟩ ⟨Nat.le_of_ble_eq_true rfl, Nat.le_of_ble_eq_true rfl⟩ dX5_valueAt_30 (z_prop C htab (Nat.le_of_ble_eq_true rfl) (Nat.le_of_ble_eq_true rfl)) (fun v M5 _ _ I hv => ?_)
      obtain ⟨v6, rfl, hw⟩ := hv
      refine W.eq (g2 := F0 m 33 ls [.int v6]) rfl ?_
      exact z_iret C I hr ⟨_, rfl, hw⟩ (Nat.le_of_ble_eq_true rfl) (Nat.le_of_ble_eq_true rfl) dX5_valueAt_33
    · replace hw := hw.2 c
      refine W.widen (k := 0) (n := 0) (Nat.le_of_ble_eq_true rfl) (Nat.le_of_ble_eq_true rfl) ?_
      exact hb_15 _ _ _ ls I (lv_sub hl [] rfl) hw
set_option maxHeartbeats 4000000 in
set_option maxRecDepth 100000 in
theorem m_X6_init {X : zX} {l : Launch} (E : zEnv X l) {M : zM} {o : Nat} {P : zM → Prop} {PX : Nat → zM → Prop} (hw : w_X6_init o M P) : zCT X l yX6_init cX6_init 1 none 1 20 20 2843 M [.ref o] (zPv P) PX := by
  refine z_entry E (by decide) ?_
  intro p e s m args below meth c C hr htab I
  have hx := C.1.1
  have hb := C.1.2.1
  obtain ⟨ls, he, hl⟩ := z_enter (m := m) (n := 1) (vs := [.ref o]) (l := [(0, .ref o)]) (Nat.le_of_ble_eq_true rfl) rfl
  rw [he]
  clear he
  unfold w_X6_init at hw
  refine lv_aload_n hx hb dX6_init_0 rfl (lv_at hl 0 rfl) ?_
  refine z_objInit C zw733 zw70 zw71 hl.1 (Nat.le_of_ble_eq_true rfl) ⟨Nat.le_of_ble_eq_true rfl, Nat.le_of_ble_eq_true rfl⟩ dX6_init_1 ?_
  refine lv_aload_n hx hb dX6_init_4 rfl (lv_at hl 0 rfl) ?_
  refine lv_sipush (v := 185) hx hb dX6_init_5 (by decide) ?_
  refine z_newi C I zw198 (mx := 185) hw (Nat.le_of_ble_eq_true rfl) (Nat.le_of_ble_eq_true rfl) (Nat.le_of_ble_eq_true rfl) dX6_init_8 (fun q1 M2 _ I hw => ?_)
  refine z_putF C I fl_X6_7 rfl rfl rfl (v := .ref q1) rfl rfl hw dX6_init_10 (fun M3 _ _ I hw => ?_)
  refine lv_aload_n hx hb dX6_init_13 rfl (lv_at hl 0 rfl) ?_
  refine lv_sipush (v := 185) hx hb dX6_init_14 (by decide) ?_
  refine z_newi C I zw198 (mx := 185) hw (Nat.le_of_ble_eq_true rfl) (Nat.le_of_ble_eq_true rfl) (Nat.le_of_ble_eq_true rfl) dX6_init_17 (fun q4 M5 _ I hw => ?_)
  refine z_putF C I fl_X6_13 rfl rfl rfl (v := .ref q4) rfl rfl hw dX6_init_19 (fun M6 _ _ I hw => ?_)
  refine lv_aload_n hx hb dX6_init_22 rfl (lv_at hl 0 rfl) ?_
  refine lv_sipush (v := 185) hx hb dX6_init_23 (by decide) ?_
  refine z_newi C I zw198 (mx := 185) hw (Nat.le_of_ble_eq_true rfl) (Nat.le_of_ble_eq_true rfl) (Nat.le_of_ble_eq_true rfl) dX6_init_26 (fun q7 M8 _ I hw => ?_)
  refine z_putF C I fl_X6_16 rfl rfl rfl (v := .ref q7) rfl rfl hw dX6_init_28 (fun M9 _ _ I hw => ?_)
  refine lv_aload_n hx hb dX6_init_31 rfl (lv_at hl 0 rfl) ?_
  refine lv_sipush (v := 185) hx hb dX6_init_32 (by decide) ?_
  refine z_newi C I zw198 (mx := 185) hw (Nat.le_of_ble_eq_true rfl) (Nat.le_of_ble_eq_true rfl) (Nat.le_of_ble_eq_true rfl) dX6_init_35 (fun q10 M11 _ I hw => ?_)
  refine z_putF C I fl_X6_19 rfl rfl rfl (v := .ref q10) rfl rfl hw dX6_init_37 (fun M12 _ _ I hw => ?_)
  refine lv_aload_n hx hb dX6_init_40 rfl (lv_at hl 0 rfl) ?_
  refine lv_sipush (v := 185) hx hb dX6_init_41 (by decide) ?_
  refine z_newz C I zw804 (mx := 185) hw (Nat.le_of_ble_eq_true rfl) (Nat.le_of_ble_eq_true rfl) (Nat.le_of_ble_eq_true rfl) dX6_init_44 (fun q13 M14 _ I hw => ?_)
  refine z_putF C I fl_X6_22 rfl rfl rfl (v := .ref q13) rfl rfl hw dX6_init_46 (fun M15 _ _ I hw => ?_)
  refine lv_aload_n hx hb dX6_init_49 rfl (lv_at hl 0 rfl) ?_
  refine lv_sipush (v := 185) hx hb dX6_init_50 (by decide) ?_
  refine z_newi C I zw198 (mx := 185) hw (Nat.le_of_ble_eq_true rfl) (Nat.le_of_ble_eq_true rfl) (Nat.le_of_ble_eq_true rfl) dX6_init_53 (fun q16 M17 _ I hw => ?_)
  refine z_putF C I fl_X6_26 rfl rfl rfl (v := .ref q16) rfl rfl hw dX6_init_55 (fun M18 _ _ I hw => ?_)
  refine lv_aload_n hx hb dX6_init_58 rfl (lv_at hl 0 rfl) ?_
  refine lv_bipush (v := 37) hx hb dX6_init_59 (by decide) ?_
  refine z_newi C I zw198 (mx := 37) hw (Nat.le_of_ble_eq_true rfl) (Nat.le_of_ble_eq_true rfl) (Nat.le_of_ble_eq_true rfl) dX6_init_61 (fun q19 M20 _ I hw => ?_)
  refine z_putF C I fl_X6_29 rfl rfl rfl (v := .ref q19) rfl rfl hw dX6_init_63 (fun M21 _ _ I hw => ?_)
  refine lv_aload_n hx hb dX6_init_66 rfl (lv_at hl 0 rfl) ?_
  refine lv_bipush (v := 37) hx hb dX6_init_67 (by decide) ?_
  refine z_newi C I zw198 (mx := 37) hw (Nat.le_of_ble_eq_true rfl) (Nat.le_of_ble_eq_true rfl) (Nat.le_of_ble_eq_true rfl) dX6_init_69 (fun q22 M23 _ I hw => ?_)
  refine z_putF C I fl_X6_32 rfl rfl rfl (v := .ref q22) rfl rfl hw dX6_init_71 (fun M24 _ _ I hw => ?_)
  refine lv_aload_n hx hb dX6_init_74 rfl (lv_at hl 0 rfl) ?_
  refine lv_sipush (v := 1369) hx hb dX6_init_75 (by decide) ?_
  refine z_newz C I zw804 (mx := 1369) hw (Nat.le_of_ble_eq_true rfl) (Nat.le_of_ble_eq_true rfl) (Nat.le_of_ble_eq_true rfl) dX6_init_78 (fun q25 M26 _ I hw => ?_)
  refine z_putF C I fl_X6_35 rfl rfl rfl (v := .ref q25) rfl rfl hw dX6_init_80 (fun M27 _ _ I hw => ?_)
  refine lv_aload_n hx hb dX6_init_83 rfl (lv_at hl 0 rfl) ?_
  refine lv_bipush (v := 36) hx hb dX6_init_84 (by decide) ?_
  refine z_newi C I zw198 (mx := 36) hw (Nat.le_of_ble_eq_true rfl) (Nat.le_of_ble_eq_true rfl) (Nat.le_of_ble_eq_true rfl) dX6_init_86 (fun q28 M29 _ I hw => ?_)
  refine z_putF C I fl_X6_38 rfl rfl rfl (v := .ref q28) rfl rfl hw dX6_init_88 (fun M30 _ _ I hw => ?_)
  refine lv_aload_n hx hb dX6_init_91 rfl (lv_at hl 0 rfl) ?_
  refine lv_bipush (v := 36) hx hb dX6_init_92 (by decide) ?_
  refine z_newi C I zw198 (mx := 36) hw (Nat.le_of_ble_eq_true rfl) (Nat.le_of_ble_eq_true rfl) (Nat.le_of_ble_eq_true rfl) dX6_init_94 (fun q31 M32 _ I hw => ?_)
  refine z_putF C I fl_X6_41 rfl rfl rfl (v := .ref q31) rfl rfl hw dX6_init_96 (fun M33 _ _ I hw => ?_)
  refine lv_aload_n hx hb dX6_init_99 rfl (lv_at hl 0 rfl) ?_
  refine lv_bipush (v := 6) hx hb dX6_init_100 (by decide) ?_
  refine z_newi C I zw198 (mx := 6) hw (Nat.le_of_ble_eq_true rfl) (Nat.le_of_ble_eq_true rfl) (Nat.le_of_ble_eq_true rfl) dX6_init_102 (fun q34 M35 _ I hw => ?_)
  refine z_putF C I fl_X6_44 rfl rfl rfl (v := .ref q34) rfl rfl hw dX6_init_104 (fun M36 _ _ I hw => ?_)
  refine lv_aload_n hx hb dX6_init_107 rfl (lv_at hl 0 rfl) ?_
  refine lv_bipush (v := 6) hx hb dX6_init_108 (by decide) ?_
  refine z_newi C I zw198 (mx := 6) hw (Nat.le_of_ble_eq_true rfl) (Nat.le_of_ble_eq_true rfl) (Nat.le_of_ble_eq_true rfl) dX6_init_110 (fun q37 M38 _ I hw => ?_)
  refine z_putF C I fl_X6_47 rfl rfl rfl (v := .ref q37) rfl rfl hw dX6_init_112 (fun M39 _ _ I hw => ?_)
  refine lv_aload_n hx hb dX6_init_115 rfl (lv_at hl 0 rfl) ?_
  refine lv_bipush (v := 6) hx hb dX6_init_116 (by decide) ?_
  refine z_newz C I zw804 (mx := 6) hw (Nat.le_of_ble_eq_true rfl) (Nat.le_of_ble_eq_true rfl) (Nat.le_of_ble_eq_true rfl) dX6_init_118 (fun q40 M41 _ I hw => ?_)
  refine z_putF C I fl_X6_50 rfl rfl rfl (v := .ref q40) rfl rfl hw dX6_init_120 (fun M42 _ _ I hw => ?_)
  refine lv_aload_n hx hb dX6_init_123 rfl (lv_at hl 0 rfl) ?_
  refine lv_bipush (v := 20) hx hb dX6_init_124 (by decide) ?_
  refine z_newi C I zw198 (mx := 20) hw (Nat.le_of_ble_eq_true rfl) (Nat.le_of_ble_eq_true rfl) (Nat.le_of_ble_eq_true rfl) dX6_init_126 (fun q43 M44 _ I hw => ?_)
  refine z_putF C I fl_X6_53 rfl rfl rfl (v := .ref q43) rfl rfl hw dX6_init_128 (fun M45 _ _ I hw => ?_)
  refine lv_aload_n hx hb dX6_init_131 rfl (lv_at hl 0 rfl) ?_
  refine lv_bipush (v := 20) hx hb dX6_init_132 (by decide) ?_
  refine z_newi C I zw198 (mx := 20) hw (Nat.le_of_ble_eq_true rfl) (Nat.le_of_ble_eq_true rfl) (Nat.le_of_ble_eq_true rfl) dX6_init_134 (fun q46 M47 _ I hw => ?_)
  refine z_putF C I fl_X6_56 rfl rfl rfl (v := .ref q46) rfl rfl hw dX6_init_136 (fun M48 _ _ I hw => ?_)
  refine lv_aload_n hx hb dX6_init_139 rfl (lv_at hl 0 rfl) ?_
  refine lv_bipush (v := 40) hx hb dX6_init_140 (by decide) ?_
  refine z_newi C I zw198 (mx := 40) hw (Nat.le_of_ble_eq_true rfl) (Nat.le_of_ble_eq_true rfl) (Nat.le_of_ble_eq_true rfl) dX6_init_142 (fun q49 M50 _ I hw => ?_)
  refine z_putF C I fl_X6_59 rfl rfl rfl (v := .ref q49) rfl rfl hw dX6_init_144 (fun M51 _ _ I hw => ?_)
  refine lv_aload_n hx hb dX6_init_147 rfl (lv_at hl 0 rfl) ?_
  refine lv_bipush (v := 40) hx hb dX6_init_148 (by decide) ?_
  refine z_newi C I zw198 (mx := 40) hw (Nat.le_of_ble_eq_true rfl) (Nat.le_of_ble_eq_true rfl) (Nat.le_of_ble_eq_true rfl) dX6_init_150 (fun q52 M53 _ I hw => ?_)
  refine z_putF C I fl_X6_62 rfl rfl rfl (v := .ref q52) rfl rfl hw dX6_init_152 (fun M54 _ _ I hw => ?_)
  refine lv_aload_n hx hb dX6_init_155 rfl (lv_at hl 0 rfl) ?_
  refine lv_bipush (v := 40) hx hb dX6_init_156 (by decide) ?_
  refine z_newi C I zw198 (mx := 40) hw (Nat.le_of_ble_eq_true rfl) (Nat.le_of_ble_eq_true rfl) (Nat.le_of_ble_eq_true rfl) dX6_init_158 (fun q55 M56 _ I hw => ?_)
  refine z_putF C I fl_X6_65 rfl rfl rfl (v := .ref q55) rfl rfl hw dX6_init_160 (fun M57 _ _ I hw => ?_)
  refine lv_aload_n hx hb dX6_init_163 rfl (lv_at hl 0 rfl) ?_
  refine lv_bipush (v := 40) hx hb dX6_init_164 (by decide) ?_
  refine z_newi C I zw198 (mx := 40) hw (Nat.le_of_ble_eq_true rfl) (Nat.le_of_ble_eq_true rfl) (Nat.le_of_ble_eq_true rfl) dX6_init_166 (fun q58 M59 _ I hw => ?_)
  refine z_putF C I fl_X6_68 rfl rfl rfl (v := .ref q58) rfl rfl hw dX6_init_168 (fun M60 _ _ I hw => ?_)
  exact z_vret C I hr ⟨rfl, hw⟩ (Nat.le_of_ble_eq_true rfl) (Nat.le_of_ble_eq_true rfl) dX6_init_171
set_option maxHeartbeats 4000000 in
set_option maxRecDepth 100000 in
theorem m_X6_thrown {X : zX} {l : Launch} (E : zEnv X l) {M : zM} {o : Nat} {P : Int32 → zM → Prop} {PX : Nat → zM → Prop} (hw : w_X6_thrown o M P) : zCT X l yX6_thrown cX6_thrown 1 (some .int) 0 0 0 0 M [.ref o] (zPi P) PX := by
  refine z_entry E (by decide) ?_
  intro p e s m args below meth c C hr htab I
  have hx := C.1.1
  have hb := C.1.2.1
  obtain ⟨ls, he, hl⟩ := z_enter (m := m) (n := 1) (vs := [.ref o]) (l := [(0, .ref o)]) (Nat.le_of_ble_eq_true rfl) rfl
  rw [he]
  clear he
  unfold w_X6_thrown at hw
  refine lv_aload_n hx hb dX6_thrown_0 rfl (lv_at hl 0 rfl) ?_
  refine z_geti C I fl_X6_71 hw dX6_thrown_1 (fun v1 hw => ?_)
  exact z_iret C I hr ⟨_, rfl, hw⟩ (Nat.le_of_ble_eq_true rfl) (Nat.le_of_ble_eq_true rfl) dX6_thrown_4
set_option maxHeartbeats 4000000 in
set_option maxRecDepth 100000 in
theorem m_X6_holds {X : zX} {l : Launch} (E : zEnv X l) {M : zM} {o : Nat} {p0 : Int32} {P : Int32 → zM → Prop} {PX : Nat → zM → Prop} (hw : w_X6_holds o p0 M P) : zCT X l yX6_holds cX6_holds 2 (some .boolean) 0 0 0 0 M [.ref o, .int p0] (zPz P) PX := by
  refine z_entry E (by decide) ?_
  intro p e s m args below meth c C hr htab I
  have hx := C.1.1
  have hb := C.1.2.1
  obtain ⟨ls, he, hl⟩ := z_enter (m := m) (n := 2) (vs := [.ref o, .int p0]) (l := [(0, .ref o), (1, .int p0)]) (Nat.le_of_ble_eq_true rfl) rfl
  rw [he]
  clear he
  unfold w_X6_holds at hw
  refine lv_aload_n hx hb dX6_holds_0 rfl (lv_at hl 0 rfl) ?_
  refine lv_iload_n hx hb dX6_holds_1 rfl (lv_at hl 1 rfl) ?_
  refine z_put C I fl_X6_71 rfl (v := .int p0) rfl rfl hw dX6_holds_2 (fun M1 _ _ I hw => ?_)
  refine lv_iload_n hx hb dX6_holds_5 rfl (lv_at hl 1 rfl) ?_
  refine lv_if_ne (tgt := 13) hx hb dX6_holds_6 (by decide) (fun c => ?_) (fun c => ?_)
  · replace hw := hw.1 c
    refine lv_iconst (v := 0) hx hb dX6_holds_13 (by decide) ?_
    exact z_zret C I hr (Or.inl rfl) ⟨_, rfl, (Or.inl rfl), hw⟩ (Nat.le_of_ble_eq_true rfl) (Nat.le_of_ble_eq_true rfl) dX6_holds_14
  · replace hw := hw.2 c
    refine lv_iconst (v := 1) hx hb dX6_holds_9 (by decide) ?_
    refine lv_goto (tgt := 14) hx hb dX6_holds_10 (by decide) ?_
    exact z_zret C I hr (Or.inr rfl) ⟨_, rfl, (Or.inr rfl), hw⟩ (Nat.le_of_ble_eq_true rfl) (Nat.le_of_ble_eq_true rfl) dX6_holds_14
set_option maxHeartbeats 4000000 in
set_option maxRecDepth 100000 in
theorem m_X6_in {X : zX} {l : Launch} (E : zEnv X l) {M : zM} {p0 : Int32} {p1 : Int32} {p2 : Int32} {P : Int32 → zM → Prop} {PX : Nat → zM → Prop} (hw : w_X6_in p0 p1 p2 M P) : zCT X l yX6_in cX6_in 3 (some .boolean) 0 0 0 0 M [.int p0, .int p1, .int p2] (zPz P) PX := by
  refine z_entry E (by decide) ?_
  intro p e s m args below meth c C hr htab I
  have hx := C.1.1
  have hb := C.1.2.1
  obtain ⟨ls, he, hl⟩ := z_enter (m := m) (n := 3) (vs := [.int p0, .int p1, .int p2]) (l := [(0, .int p0), (1, .int p1), (2, .int p2)]) (Nat.le_of_ble_eq_true rfl) rfl
  rw [he]
  clear he
  unfold w_X6_in at hw
  refine lv_iload_n hx hb dX6_in_0 rfl (lv_at hl 0 rfl) ?_
  refine lv_iload_n hx hb dX6_in_1 rfl (lv_at hl 1 rfl) ?_
  refine lv_icmp_lt (tgt := 14) hx hb dX6_in_2 (by decide) (fun c => ?_) (fun c => ?_)
  · replace hw := hw.1 c
    refine lv_iconst (v := 0) hx hb dX6_in_14 (by decide) ?_
    exact z_zret C I hr (Or.inl rfl) ⟨_, rfl, (Or.inl rfl), hw⟩ (Nat.le_of_ble_eq_true rfl) (Nat.le_of_ble_eq_true rfl) dX6_in_15
  · replace hw := hw.2 c
    refine lv_iload_n hx hb dX6_in_5 rfl (lv_at hl 0 rfl) ?_
    refine lv_iload_n hx hb dX6_in_6 rfl (lv_at hl 2 rfl) ?_
    refine lv_icmp_gt (tgt := 14) hx hb dX6_in_7 (by decide) (fun c => ?_) (fun c => ?_)
    · replace hw := hw.1 c
      refine lv_iconst (v := 0) hx hb dX6_in_14 (by decide) ?_
      exact z_zret C I hr (Or.inl rfl) ⟨_, rfl, (Or.inl rfl), hw⟩ (Nat.le_of_ble_eq_true rfl) (Nat.le_of_ble_eq_true rfl) dX6_in_15
    · replace hw := hw.2 c
      refine lv_iconst (v := 1) hx hb dX6_in_10 (by decide) ?_
      refine lv_goto (tgt := 15) hx hb dX6_in_11 (by decide) ?_
      exact z_zret C I hr (Or.inr rfl) ⟨_, rfl, (Or.inr rfl), hw⟩ (Nat.le_of_ble_eq_true rfl) (Nat.le_of_ble_eq_true rfl) dX6_in_15
set_option maxHeartbeats 4000000 in
set_option maxRecDepth 100000 in
theorem m_X6_isSubject {X : zX} {l : Launch} (E : zEnv X l) {M : zM} {p0 : Int32} {P : Int32 → zM → Prop} {PX : Nat → zM → Prop} (hw : w_X6_isSubject p0 M P) : zCT X l yX6_isSubject cX6_isSubject 1 (some .boolean) 1 22 0 0 M [.int p0] (zPz P) PX := by
  refine z_entry E (by decide) ?_
  intro p e s m args below meth c C hr htab I
  have hx := C.1.1
  have hb := C.1.2.1
  obtain ⟨ls, he, hl⟩ := z_enter (m := m) (n := 1) (vs := [.int p0]) (l := [(0, .int p0)]) (Nat.le_of_ble_eq_true rfl) rfl
  rw [he]
  clear he
  unfold w_X6_isSubject at hw
  refine lv_iload_n hx hb dX6_isSubject_0 rfl (lv_at hl 0 rfl) ?_
  refine lv_iconst (v := 0) hx hb dX6_isSubject_1 (by decide) ?_
  refine lv_iconst (v := 5) hx hb dX6_isSubject_2 (by decide) ?_
  refine z_callS C I (as := [.int p0, .int (0 : Int32), .int (5 : Int32)]) (rest := []) (m_X6_in E hw) ks_X6_75 rfl rfl hl.1 (Nat.le_of_ble_eq_true rfl) ⟨Nat.le_of_ble_eq_true rfl, Nat.le_of_ble_eq_true rfl⟩ ⟨Nat.le_of_ble_eq_true rfl, Nat.le_of_ble_eq_true rfl⟩ dX6_isSubject_3 (z_prop C htab (Nat.le_of_ble_eq_true rfl) (Nat.le_of_ble_eq_true rfl)) (fun v M1 _ _ I hv => ?_)
  obtain ⟨v2, rfl, hv2, hw⟩ := hv
  refine W.eq (g2 := F0 m 6 ls [.int v2]) rfl ?_
  exact z_zret C I hr hv2 ⟨_, rfl, hv2, hw⟩ (Nat.le_of_ble_eq_true rfl) (Nat.le_of_ble_eq_true rfl) dX6_isSubject_6
set_option maxHeartbeats 4000000 in
set_option maxRecDepth 100000 in
theorem m_X6_isVersion {X : zX} {l : Launch} (E : zEnv X l) {M : zM} {o : Nat} {p0 : Int32} {p1 : Int32} {P : Int32 → zM → Prop} {PX : Nat → zM → Prop} (hw : w_X6_isVersion o p0 p1 M P) : zCT X l yX6_isVersion cX6_isVersion 3 (some .boolean) 1 22 0 0 M [.ref o, .int p0, .int p1] (zPz P) PX := by
  refine z_entry E (by decide) ?_
  intro p e s m args below meth c C hr htab I
  have hx := C.1.1
  have hb := C.1.2.1
  obtain ⟨ls, he, hl⟩ := z_enter (m := m) (n := 3) (vs := [.ref o, .int p0, .int p1]) (l := [(0, .ref o), (1, .int p0), (2, .int p1)]) (Nat.le_of_ble_eq_true rfl) rfl
  rw [he]
  clear he
  unfold w_X6_isVersion at hw
  refine lv_iload_n hx hb dX6_isVersion_0 rfl (lv_at hl 2 rfl) ?_
  refine lv_iconst (v := 0) hx hb dX6_isVersion_1 (by decide) ?_
  refine lv_aload_n hx hb dX6_isVersion_2 rfl (lv_at hl 0 rfl) ?_
  refine z_getr C I fl_X6_44 hw dX6_isVersion_3 (fun v1 hw => ?_)
  refine lv_iload_n hx hb dX6_isVersion_6 rfl (lv_at hl 1 rfl) ?_
  refine z_iald C I hw dX6_isVersion_7 (fun v2 hw => ?_)
  refine lv_iconst (v := 1) hx hb dX6_isVersion_8 (by decide) ?_
  refine lv_isub hx hb dX6_isVersion_9 ?_
  refine z_callS C I (as := [.int p1, .int (0 : Int32), .int (v2 - (1 : Int32))]) (rest := []) (m_X6_in E hw) ks_X6_75 rfl rfl hl.1 (Nat.le_of_ble_eq_true rfl) ⟨Nat.le_of_ble_eq_true rfl, Nat.le_of_ble_eq_true rfl⟩ ⟨Nat.le_of_ble_eq_true rfl, Nat.le_of_ble_eq_true rfl⟩ dX6_isVersion_10 (z_prop C htab (Nat.le_of_ble_eq_true rfl) (Nat.le_of_ble_eq_true rfl)) (fun v M3 _ _ I hv => ?_)
  obtain ⟨v4, rfl, hv4, hw⟩ := hv
  refine W.eq (g2 := F0 m 13 ls [.int v4]) rfl ?_
  refine lv_if_eq (tgt := 35) hx hb dX6_isVersion_13 (by decide) (fun c => ?_) (fun c => ?_)
  · replace hw := hw.1 c
    refine lv_iconst (v := 0) hx hb dX6_isVersion_35 (by decide) ?_
    exact z_zret C I hr (Or.inl rfl) ⟨_, rfl, (Or.inl rfl), hw⟩ (Nat.le_of_ble_eq_true rfl) (Nat.le_of_ble_eq_true rfl) dX6_isVersion_36
  · replace hw := hw.2 c
    refine lv_aload_n hx hb dX6_isVersion_16 rfl (lv_at hl 0 rfl) ?_
    refine z_getr C I fl_X6_41 hw dX6_isVersion_17 (fun v5 hw => ?_)
    refine lv_bipush (v := 6) hx hb dX6_isVersion_20 (by decide) ?_
    refine lv_iload_n hx hb dX6_isVersion_22 rfl (lv_at hl 1 rfl) ?_
    refine lv_imul hx hb dX6_isVersion_23 ?_
    refine lv_iload_n hx hb dX6_isVersion_24 rfl (lv_at hl 2 rfl) ?_
    refine lv_iadd hx hb dX6_isVersion_25 ?_
    refine z_iald C I hw dX6_isVersion_26 (fun v6 hw => ?_)
    refine lv_iconst (v := 3) hx hb dX6_isVersion_27 (by decide) ?_
    refine lv_icmp_eq (tgt := 35) hx hb dX6_isVersion_28 (by decide) (fun c => ?_) (fun c => ?_)
    · replace hw := hw.1 c
      refine lv_iconst (v := 0) hx hb dX6_isVersion_35 (by decide) ?_
      exact z_zret C I hr (Or.inl rfl) ⟨_, rfl, (Or.inl rfl), hw⟩ (Nat.le_of_ble_eq_true rfl) (Nat.le_of_ble_eq_true rfl) dX6_isVersion_36
    · replace hw := hw.2 c
      refine lv_iconst (v := 1) hx hb dX6_isVersion_31 (by decide) ?_
      refine lv_goto (tgt := 36) hx hb dX6_isVersion_32 (by decide) ?_
      exact z_zret C I hr (Or.inr rfl) ⟨_, rfl, (Or.inr rfl), hw⟩ (Nat.le_of_ble_eq_true rfl) (Nat.le_of_ble_eq_true rfl) dX6_isVersion_36
set_option maxHeartbeats 4000000 in
set_option maxRecDepth 100000 in
theorem m_X6_isThereAt {X : zX} {l : Launch} (E : zEnv X l) {M : zM} {o : Nat} {p0 : Int32} {p1 : Int32} {P : Int32 → zM → Prop} {PX : Nat → zM → Prop} (hw : w_X6_isThereAt o p0 p1 M P) : zCT X l yX6_isThereAt cX6_isThereAt 3 (some .boolean) 2 44 0 0 M [.ref o, .int p0, .int p1] (zPz P) PX := by
  refine z_entry E (by decide) ?_
  intro p e s m args below meth c C hr htab I
  have hx := C.1.1
  have hb := C.1.2.1
  obtain ⟨ls, he, hl⟩ := z_enter (m := m) (n := 3) (vs := [.ref o, .int p0, .int p1]) (l := [(0, .ref o), (1, .int p0), (2, .int p1)]) (Nat.le_of_ble_eq_true rfl) rfl
  rw [he]
  clear he
  unfold w_X6_isThereAt at hw
  refine lv_aload_n hx hb dX6_isThereAt_0 rfl (lv_at hl 0 rfl) ?_
  refine lv_iload_n hx hb dX6_isThereAt_1 rfl (lv_at hl 1 rfl) ?_
  refine lv_iload_n hx hb dX6_isThereAt_2 rfl (lv_at hl 2 rfl) ?_
  obtain ⟨hrc, hw⟩ := hw
  refine z_callV C I (as := [.int p0, .int p1]) (rest := []) (m_X6_isVersion E hw) kv_X6_79 vc_7 hrc rfl rfl hl.1 (Nat.le_of_ble_eq_true rfl) ⟨Nat.le_of_ble_eq_true rfl, Nat.le_of_ble_eq_true rfl⟩ ⟨Nat.le_of_ble_eq_true rfl, Nat.le_of_ble_eq_true rfl⟩ dX6_isThereAt_3 (z_prop C htab (Nat.le_of_ble_eq_true rfl) (Nat.le_of_ble_eq_true rfl)) (fun v M1 _ _ I hv => ?_)
  obtain ⟨v2, rfl, hv2, hw⟩ := hv
  refine W.eq (g2 := F0 m 6 ls [.int v2]) rfl ?_
  refine lv_if_eq (tgt := 28) hx hb dX6_isThereAt_6 (by decide) (fun c => ?_) (fun c => ?_)
  · replace hw := hw.1 c
    refine lv_iconst (v := 0) hx hb dX6_isThereAt_28 (by decide) ?_
    exact z_zret C I hr (Or.inl rfl) ⟨_, rfl, (Or.inl rfl), hw⟩ (Nat.le_of_ble_eq_true rfl) (Nat.le_of_ble_eq_true rfl) dX6_isThereAt_29
  · replace hw := hw.2 c
    refine lv_aload_n hx hb dX6_isThereAt_9 rfl (lv_at hl 0 rfl) ?_
    refine z_getr C I fl_X6_41 hw dX6_isThereAt_10 (fun v3 hw => ?_)
    refine lv_bipush (v := 6) hx hb dX6_isThereAt_13 (by decide) ?_
    refine lv_iload_n hx hb dX6_isThereAt_15 rfl (lv_at hl 1 rfl) ?_
    refine lv_imul hx hb dX6_isThereAt_16 ?_
    refine lv_iload_n hx hb dX6_isThereAt_17 rfl (lv_at hl 2 rfl) ?_
    refine lv_iadd hx hb dX6_isThereAt_18 ?_
    refine z_iald C I hw dX6_isThereAt_19 (fun v4 hw => ?_)
    refine lv_iconst (v := 1) hx hb dX6_isThereAt_20 (by decide) ?_
    refine lv_icmp_ne (tgt := 28) hx hb dX6_isThereAt_21 (by decide) (fun c => ?_) (fun c => ?_)
    · replace hw := hw.1 c
      refine lv_iconst (v := 0) hx hb dX6_isThereAt_28 (by decide) ?_
      exact z_zret C I hr (Or.inl rfl) ⟨_, rfl, (Or.inl rfl), hw⟩ (Nat.le_of_ble_eq_true rfl) (Nat.le_of_ble_eq_true rfl) dX6_isThereAt_29
    · replace hw := hw.2 c
      refine lv_iconst (v := 1) hx hb dX6_isThereAt_24 (by decide) ?_
      refine lv_goto (tgt := 29) hx hb dX6_isThereAt_25 (by decide) ?_
      exact z_zret C I hr (Or.inr rfl) ⟨_, rfl, (Or.inr rfl), hw⟩ (Nat.le_of_ble_eq_true rfl) (Nat.le_of_ble_eq_true rfl) dX6_isThereAt_29
set_option maxHeartbeats 4000000 in
set_option maxRecDepth 100000 in
theorem m_X6_schemaOf {X : zX} {l : Launch} (E : zEnv X l) {M : zM} {o : Nat} {p0 : Int32} {P : Int32 → zM → Prop} {PX : Nat → zM → Prop} (hw : w_X6_schemaOf o p0 M P) : zCT X l yX6_schemaOf cX6_schemaOf 2 (some .int) 0 0 0 0 M [.ref o, .int p0] (zPi P) PX := by
  refine z_entry E (by decide) ?_
  intro p e s m args below meth c C hr htab I
  have hx := C.1.1
  have hb := C.1.2.1
  obtain ⟨ls, he, hl⟩ := z_enter (m := m) (n := 2) (vs := [.ref o, .int p0]) (l := [(0, .ref o), (1, .int p0)]) (Nat.le_of_ble_eq_true rfl) rfl
  rw [he]
  clear he
  unfold w_X6_schemaOf at hw
  refine lv_aload_n hx hb dX6_schemaOf_0 rfl (lv_at hl 0 rfl) ?_
  refine z_getr C I fl_X6_38 hw dX6_schemaOf_1 (fun v1 hw => ?_)
  refine lv_bipush (v := 6) hx hb dX6_schemaOf_4 (by decide) ?_
  refine lv_iload_n hx hb dX6_schemaOf_6 rfl (lv_at hl 1 rfl) ?_
  refine lv_bipush (v := 10) hx hb dX6_schemaOf_7 (by decide) ?_
  refine lv_idiv hx hb dX6_schemaOf_9 (by decide) ?_
  refine lv_imul hx hb dX6_schemaOf_10 ?_
  refine lv_iload_n hx hb dX6_schemaOf_11 rfl (lv_at hl 1 rfl) ?_
  refine lv_bipush (v := 10) hx hb dX6_schemaOf_12 (by decide) ?_
  refine lv_irem hx hb dX6_schemaOf_14 (by decide) ?_
  refine lv_iadd hx hb dX6_schemaOf_15 ?_
  refine z_iald C I hw dX6_schemaOf_16 (fun v2 hw => ?_)
  exact z_iret C I hr ⟨_, rfl, hw⟩ (Nat.le_of_ble_eq_true rfl) (Nat.le_of_ble_eq_true rfl) dX6_schemaOf_17
set_option maxHeartbeats 4000000 in
set_option maxRecDepth 100000 in
theorem m_X6_isRange {X : zX} {l : Launch} (E : zEnv X l) {M : zM} {o : Nat} {p0 : Int32} {p1 : Int32} {p2 : Int32} {p3 : Int32} {P : Int32 → zM → Prop} {PX : Nat → zM → Prop} (hw : w_X6_isRange o p0 p1 p2 p3 M P) : zCT X l yX6_isRange cX6_isRange 6 (some .boolean) 1 22 0 0 M [.ref o, .int p0, .int p1, .int p2, .int p3] (zPz P) PX := by
  refine z_entry E (by decide) ?_
  intro p e s m args below meth c C hr htab I
  have hx := C.1.1
  have hb := C.1.2.1
  obtain ⟨ls, he, hl⟩ := z_enter (m := m) (n := 6) (vs := [.ref o, .int p0, .int p1, .int p2, .int p3]) (l := [(0, .ref o), (1, .int p0), (2, .int p1), (3, .int p2), (4, .int p3)]) (Nat.le_of_ble_eq_true rfl) rfl
  rw [he]
  clear he
  unfold w_X6_isRange at hw
  have hb_19 : ∀ (y0 : Int32) (M : zM) (H : Heap) (locs : List Loc) (ls : Array Slot), zWk X s M H locs → lv_has ls 6 [(1, .int p0), (2, .int p1), (4, .int p3)] → w_X6_isRange_19 o p0 p1 p2 p3 P y0 M → W p l e (zRm 1 22 0 0) s m args below meth c H locs 0 0 (vx_MQ below (zQc X (zPz P)) (zXc X PX) args s 0 0 (zBase X)) (F0 m 19 ls [.int y0]) := by
    intro y0 M H locs ls I hl hw
    unfold w_X6_isRange_19 at hw
    refine lv_istore (lv' := [(5, .int y0), (1, .int p0), (2, .int p1), (4, .int p3)]) hx hb dX6_isRange_19 hl (by decide) rfl (fun ls hl1 => ?_)
    refine lv_iload_n hx hb dX6_isRange_21 rfl (lv_at hl1 1 rfl) ?_
    refine lv_iconst (v := 0) hx hb dX6_isRange_22 (by decide) ?_
    refine lv_bipush (v := 9) hx hb dX6_isRange_23 (by decide) ?_
    refine z_callS C I (as := [.int p0, .int (0 : Int32), .int (9 : Int32)]) (rest := []) (m_X6_in E hw) ks_X6_75 rfl rfl hl1.1 (Nat.le_of_ble_eq_true rfl) ⟨Nat.le_of_ble_eq_true rfl, Nat.le_of_ble_eq_true rfl⟩ ⟨Nat.le_of_ble_eq_true rfl, Nat.le_of_ble_eq_true rfl⟩ dX6_isRange_25 (z_prop C htab (Nat.le_of_ble_eq_true rfl) (Nat.le_of_ble_eq_true rfl)) (fun v M2 _ _ I hv => ?_)
    obtain ⟨v3, rfl, hv3, hw⟩ := hv
    refine W.eq (g2 := F0 m 28 ls [.int v3]) rfl ?_
    refine lv_if_eq (tgt := 66) hx hb dX6_isRange_28 (by decide) (fun c => ?_) (fun c => ?_)
    · replace hw := hw.1 c
      refine lv_iconst (v := 0) hx hb dX6_isRange_66 (by decide) ?_
      exact z_zret C I hr (Or.inl rfl) ⟨_, rfl, (Or.inl rfl), hw⟩ (Nat.le_of_ble_eq_true rfl) (Nat.le_of_ble_eq_true rfl) dX6_isRange_67
    · replace hw := hw.2 c
      refine lv_iload_n hx hb dX6_isRange_31 rfl (lv_at hl1 2 rfl) ?_
      refine lv_iconst (v := 0) hx hb dX6_isRange_32 (by decide) ?_
      refine lv_iconst (v := 4) hx hb dX6_isRange_33 (by decide) ?_
      refine z_callS C I (as := [.int p1, .int (0 : Int32), .int (4 : Int32)]) (rest := []) (m_X6_in E hw) ks_X6_75 rfl rfl hl1.1 (Nat.le_of_ble_eq_true rfl) ⟨Nat.le_of_ble_eq_true rfl, Nat.le_of_ble_eq_true rfl⟩ ⟨Nat.le_of_ble_eq_true rfl, Nat.le_of_ble_eq_true rfl⟩ dX6_isRange_34 (z_prop C htab (Nat.le_of_ble_eq_true rfl) (Nat.le_of_ble_eq_true rfl)) (fun v M4 _ _ I hv => ?_)
      obtain ⟨v5, rfl, hv5, hw⟩ := hv
      refine W.eq (g2 := F0 m 37 ls [.int v5]) rfl ?_
      refine lv_if_eq (tgt := 66) hx hb dX6_isRange_37 (by decide) (fun c => ?_) (fun c => ?_)
      · replace hw := hw.1 c
        refine lv_iconst (v := 0) hx hb dX6_isRange_66 (by decide) ?_
        exact z_zret C I hr (Or.inl rfl) ⟨_, rfl, (Or.inl rfl), hw⟩ (Nat.le_of_ble_eq_true rfl) (Nat.le_of_ble_eq_true rfl) dX6_isRange_67
      · replace hw := hw.2 c
        refine lv_iload hx hb dX6_isRange_40 (lv_at hl1 0 rfl) ?_
        refine lv_if_eq (tgt := 66) hx hb dX6_isRange_42 (by decide) (fun c => ?_) (fun c => ?_)
        · replace hw := hw.1 c
          refine lv_iconst (v := 0) hx hb dX6_isRange_66 (by decide) ?_
          exact z_zret C I hr (Or.inl rfl) ⟨_, rfl, (Or.inl rfl), hw⟩ (Nat.le_of_ble_eq_true rfl) (Nat.le_of_ble_eq_true rfl) dX6_isRange_67
        · replace hw := hw.2 c
          refine lv_iload hx hb dX6_isRange_45 (lv_at hl1 3 rfl) ?_
          refine lv_iconst (v := -1) hx hb dX6_isRange_47 (by decide) ?_
          refine lv_bipush (v := 9) hx hb dX6_isRange_48 (by decide) ?_
          refine z_callS C I (as := [.int p3, .int (-1 : Int32), .int (9 : Int32)]) (rest := []) (m_X6_in E hw) ks_X6_75 rfl rfl hl1.1 (Nat.le_of_ble_eq_true rfl) ⟨Nat.le_of_ble_eq_true rfl, Nat.le_of_ble_eq_true rfl⟩ ⟨Nat.le_of_ble_eq_true rfl, Nat.le_of_ble_eq_true rfl⟩ dX6_isRange_50 (z_prop C htab (Nat.le_of_ble_eq_true rfl) (Nat.le_of_ble_eq_true rfl)) (fun v M6 _ _ I hv => ?_)
          obtain ⟨v7, rfl, hv7, hw⟩ := hv
          refine W.eq (g2 := F0 m 53 ls [.int v7]) rfl ?_
          refine lv_if_eq (tgt := 66) hx hb dX6_isRange_53 (by decide) (fun c => ?_) (fun c => ?_)
          · replace hw := hw.1 c
            refine lv_iconst (v := 0) hx hb dX6_isRange_66 (by decide) ?_
            exact z_zret C I hr (Or.inl rfl) ⟨_, rfl, (Or.inl rfl), hw⟩ (Nat.le_of_ble_eq_true rfl) (Nat.le_of_ble_eq_true rfl) dX6_isRange_67
          · replace hw := hw.2 c
            refine lv_iload hx hb dX6_isRange_56 (lv_at hl1 3 rfl) ?_
            refine lv_iload_n hx hb dX6_isRange_58 rfl (lv_at hl1 1 rfl) ?_
            refine lv_icmp_eq (tgt := 66) hx hb dX6_isRange_59 (by decide) (fun c => ?_) (fun c => ?_)
            · replace hw := hw.1 c
              refine lv_iconst (v := 0) hx hb dX6_isRange_66 (by decide) ?_
              exact z_zret C I hr (Or.inl rfl) ⟨_, rfl, (Or.inl rfl), hw⟩ (Nat.le_of_ble_eq_true rfl) (Nat.le_of_ble_eq_true rfl) dX6_isRange_67
            · replace hw := hw.2 c
              refine lv_iconst (v := 1) hx hb dX6_isRange_62 (by decide) ?_
              refine lv_goto (tgt := 67) hx hb dX6_isRange_63 (by decide) ?_
              exact z_zret C I hr (Or.inr rfl) ⟨_, rfl, (Or.inr rfl), hw⟩ (Nat.le_of_ble_eq_true rfl) (Nat.le_of_ble_eq_true rfl) dX6_isRange_67
  have hb_14 : ∀ (M : zM) (H : Heap) (locs : List Loc) (ls : Array Slot), zWk X s M H locs → lv_has ls 6 [(1, .int p0), (2, .int p1), (4, .int p3)] → w_X6_isRange_14 o p0 p1 p2 p3 P M → W p l e (zRm 1 22 0 0) s m args below meth c H locs 0 0 (vx_MQ below (zQc X (zPz P)) (zXc X PX) args s 0 0 (zBase X)) (F0 m 14 ls []) := by
    intro M H locs ls I hl hw
    unfold w_X6_isRange_14 at hw
    refine lv_iconst (v := 1) hx hb dX6_isRange_14 (by decide) ?_
    refine lv_goto (tgt := 19) hx hb dX6_isRange_15 (by decide) ?_
    refine W.widen (k := 0) (n := 0) (Nat.le_of_ble_eq_true rfl) (Nat.le_of_ble_eq_true rfl) ?_
    exact hb_19 (1 : Int32) _ _ _ ls I (lv_sub hl [0, 1, 2] rfl) hw
  refine lv_iload_n hx hb dX6_isRange_0 rfl (lv_at hl 2 rfl) ?_
  refine lv_iconst (v := 3) hx hb dX6_isRange_1 (by decide) ?_
  refine lv_icmp_ne (tgt := 14) hx hb dX6_isRange_2 (by decide) (fun c => ?_) (fun c => ?_)
  · replace hw := hw.1 c
    refine W.widen (k := 0) (n := 0) (Nat.le_of_ble_eq_true rfl) (Nat.le_of_ble_eq_true rfl) ?_
    exact hb_14 _ _ _ ls I (lv_sub hl [1, 2, 4] rfl) hw
  · replace hw := hw.2 c
    refine lv_iload_n hx hb dX6_isRange_5 rfl (lv_at hl 3 rfl) ?_
    refine lv_iconst (v := 1) hx hb dX6_isRange_6 (by decide) ?_
    refine lv_iconst (v := 4) hx hb dX6_isRange_7 (by decide) ?_
    refine z_callS C I (as := [.int p2, .int (1 : Int32), .int (4 : Int32)]) (rest := []) (m_X6_in E hw) ks_X6_75 rfl rfl hl.1 (Nat.le_of_ble_eq_true rfl) ⟨Nat.le_of_ble_eq_true rfl, Nat.le_of_ble_eq_true rfl⟩ ⟨Nat.le_of_ble_eq_true rfl, Nat.le_of_ble_eq_true rfl⟩ dX6_isRange_8 (z_prop C htab (Nat.le_of_ble_eq_true rfl) (Nat.le_of_ble_eq_true rfl)) (fun v M8 _ _ I hv => ?_)
    obtain ⟨v9, rfl, hv9, hw⟩ := hv
    refine W.eq (g2 := F0 m 11 ls [.int v9]) rfl ?_
    refine lv_if_eq (tgt := 18) hx hb dX6_isRange_11 (by decide) (fun c => ?_) (fun c => ?_)
    · replace hw := hw.1 c
      refine lv_iconst (v := 0) hx hb dX6_isRange_18 (by decide) ?_
      refine W.widen (k := 0) (n := 0) (Nat.le_of_ble_eq_true rfl) (Nat.le_of_ble_eq_true rfl) ?_
      exact hb_19 (0 : Int32) _ _ _ ls I (lv_sub hl [1, 2, 4] rfl) hw
    · replace hw := hw.2 c
      refine W.widen (k := 0) (n := 0) (Nat.le_of_ble_eq_true rfl) (Nat.le_of_ble_eq_true rfl) ?_
      exact hb_14 _ _ _ ls I (lv_sub hl [1, 2, 4] rfl) hw
set_option maxHeartbeats 4000000 in
set_option maxRecDepth 100000 in
theorem m_X6_named {X : zX} {l : Launch} (E : zEnv X l) {M : zM} {o : Nat} {p0 : Int32} {p1 : Int32} {P : Int32 → zM → Prop} {PX : Nat → zM → Prop} (hw : w_X6_named o p0 p1 M P) : zCT X l yX6_named cX6_named 4 (some .int) 0 0 0 0 M [.ref o, .int p0, .int p1] (zPi P) PX := by
  refine z_entry E (by decide) ?_
  intro p e s m args below meth c C hr htab I
  have hx := C.1.1
  have hb := C.1.2.1
  obtain ⟨ls, he, hl⟩ := z_enter (m := m) (n := 4) (vs := [.ref o, .int p0, .int p1]) (l := [(0, .ref o), (1, .int p0), (2, .int p1)]) (Nat.le_of_ble_eq_true rfl) rfl
  rw [he]
  clear he
  unfold w_X6_named at hw
  have hb_2 : ∀ (n : Nat) (x3 : Int32) (M : zM) (H : Heap) (locs : List Loc) (ls : Array Slot), zWk X s M H locs → lv_has ls 4 [(0, .ref o), (1, .int p0), (2, .int p1), (3, .int x3)] → w_X6_named_2 o p0 p1 P n x3 M → W p l e (zRm 0 0 0 0) s m args below meth c H locs 0 0 (vx_MQ below (zQc X (zPi P)) (zXc X PX) args s 0 0 (zBase X)) (F0 m 2 ls []) := by
    intro n
    induction n with
    | zero => intro _ M H locs ls I hl hw; exact hw.elim
    | succ n ih =>
      intro x3 M H locs ls I hl hw
      unfold w_X6_named_2 at hw
      refine lv_iload_n hx hb dX6_named_2 rfl (lv_at hl 3 rfl) ?_
      refine lv_aload_n hx hb dX6_named_3 rfl (lv_at hl 0 rfl) ?_
      refine z_getr C I fl_X6_29 hw dX6_named_4 (fun v1 hw => ?_)
      refine lv_iload_n hx hb dX6_named_7 rfl (lv_at hl 1 rfl) ?_
      refine z_iald C I hw dX6_named_8 (fun v2 hw => ?_)
      refine lv_icmp_ge (tgt := 34) hx hb dX6_named_9 (by decide) (fun c => ?_) (fun c => ?_)
      · replace hw := hw.1 c
        refine lv_iconst (v := -1) hx hb dX6_named_34 (by decide) ?_
        exact z_iret C I hr ⟨_, rfl, hw⟩ (Nat.le_of_ble_eq_true rfl) (Nat.le_of_ble_eq_true rfl) dX6_named_35
      · replace hw := hw.2 c
        refine lv_aload_n hx hb dX6_named_12 rfl (lv_at hl 0 rfl) ?_
        refine z_getr C I fl_X6_7 hw dX6_named_13 (fun v3 hw => ?_)
        refine lv_iconst (v := 5) hx hb dX6_named_16 (by decide) ?_
        refine lv_iload_n hx hb dX6_named_17 rfl (lv_at hl 1 rfl) ?_
        refine lv_imul hx hb dX6_named_18 ?_
        refine lv_iload_n hx hb dX6_named_19 rfl (lv_at hl 3 rfl) ?_
        refine lv_iadd hx hb dX6_named_20 ?_
        refine z_iald C I hw dX6_named_21 (fun v4 hw => ?_)
        refine lv_iload_n hx hb dX6_named_22 rfl (lv_at hl 2 rfl) ?_
        refine lv_icmp_ne (tgt := 28) hx hb dX6_named_23 (by decide) (fun c => ?_) (fun c => ?_)
        · replace hw := hw.1 c
          refine lv_iinc (v := (x3 + 1)) (lv' := [(3, .int (x3 + 1)), (0, .ref o), (1, .int p0), (2, .int p1)]) hx hb dX6_named_28 hl (k := 3) rfl (by rfl) (by decide) rfl (fun ls hl5 => ?_)
          refine lv_goto (tgt := 2) hx hb dX6_named_31 (by decide) ?_
          refine W.widen (k := 0) (n := 0) (Nat.le_of_ble_eq_true rfl) (Nat.le_of_ble_eq_true rfl) ?_
          exact ih (x3 + 1) _ _ _ ls I (lv_sub hl5 [1, 2, 3, 0] rfl) hw
        · replace hw := hw.2 c
          refine lv_iload_n hx hb dX6_named_26 rfl (lv_at hl 3 rfl) ?_
          exact z_iret C I hr ⟨_, rfl, hw⟩ (Nat.le_of_ble_eq_true rfl) (Nat.le_of_ble_eq_true rfl) dX6_named_27
  refine lv_iconst (v := 0) hx hb dX6_named_0 (by decide) ?_
  refine lv_istore_n (lv' := [(3, .int (0 : Int32)), (0, .ref o), (1, .int p0), (2, .int p1)]) hx hb dX6_named_1 rfl hl (by decide) rfl (fun ls hl6 => ?_)
  obtain ⟨nn, hw⟩ := hw
  refine W.widen (k := 0) (n := 0) (Nat.le_of_ble_eq_true rfl) (Nat.le_of_ble_eq_true rfl) ?_
  exact hb_2 nn (0 : Int32) _ _ _ ls I (lv_sub hl6 [1, 2, 3, 0] rfl) hw
set_option maxHeartbeats 4000000 in
set_option maxRecDepth 100000 in
theorem m_X6_errorOfField {X : zX} {l : Launch} (E : zEnv X l) {M : zM} {o : Nat} {p0 : Int32} {p1 : Int32} {p2 : Int32} {p3 : Int32} {P : Int32 → zM → Prop} {PX : Nat → zM → Prop} (hw : w_X6_errorOfField o p0 p1 p2 p3 M P) : zCT X l yX6_errorOfField cX6_errorOfField 7 (some .int) 3 66 0 0 M [.ref o, .int p0, .int p1, .int p2, .int p3] (zPi P) PX := by
  refine z_entry E (by decide) ?_
  intro p e s m args below meth c C hr htab I
  have hx := C.1.1
  have hb := C.1.2.1
  obtain ⟨ls, he, hl⟩ := z_enter (m := m) (n := 7) (vs := [.ref o, .int p0, .int p1, .int p2, .int p3]) (l := [(0, .ref o), (1, .int p0), (2, .int p1), (3, .int p2), (4, .int p3)]) (Nat.le_of_ble_eq_true rfl) rfl
  rw [he]
  clear he
  unfold w_X6_errorOfField at hw
  have hb_116 : ∀ (M : zM) (H : Heap) (locs : List Loc) (ls : Array Slot), zWk X s M H locs → lv_has ls 7 [] → w_X6_errorOfField_116 o p0 p1 p2 p3 P M → W p l e (zRm 3 66 0 0) s m args below meth c H locs 0 0 (vx_MQ below (zQc X (zPi P)) (zXc X PX) args s 0 0 (zBase X)) (F0 m 116 ls []) := by
    intro M H locs ls I hl hw
    unfold w_X6_errorOfField_116 at hw
    refine lv_iconst (v := 3) hx hb dX6_errorOfField_116 (by decide) ?_
    refine lv_goto (tgt := 121) hx hb dX6_errorOfField_117 (by decide) ?_
    exact z_iret C I hr ⟨_, rfl, hw⟩ (Nat.le_of_ble_eq_true rfl) (Nat.le_of_ble_eq_true rfl) dX6_errorOfField_121
  have hb_77 : ∀ (y0 : Int32) (M : zM) (H : Heap) (locs : List Loc) (ls : Array Slot), zWk X s M H locs → lv_has ls 7 [(0, .ref o), (1, .int p0)] → w_X6_errorOfField_77 o p0 p1 p2 p3 P y0 M → W p l e (zRm 3 66 0 0) s m args below meth c H locs 0 0 (vx_MQ below (zQc X (zPi P)) (zXc X PX) args s 0 0 (zBase X)) (F0 m 77 ls [.int y0]) := by
    intro y0 M H locs ls I hl hw
    unfold w_X6_errorOfField_77 at hw
    refine lv_istore (lv' := [(6, .int y0), (0, .ref o), (1, .int p0)]) hx hb dX6_errorOfField_77 hl (by decide) rfl (fun ls hl1 => ?_)
    refine lv_aload_n hx hb dX6_errorOfField_79 rfl (lv_at hl1 1 rfl) ?_
    refine z_getr C I fl_X6_29 hw dX6_errorOfField_80 (fun v2 hw => ?_)
    refine lv_bipush (v := 36) hx hb dX6_errorOfField_83 (by decide) ?_
    refine z_iald C I hw dX6_errorOfField_85 (fun v3 hw => ?_)
    refine lv_iconst (v := 5) hx hb dX6_errorOfField_86 (by decide) ?_
    refine lv_icmp_eq (tgt := 116) hx hb dX6_errorOfField_87 (by decide) (fun c => ?_) (fun c => ?_)
    · replace hw := hw.1 c
      refine W.widen (k := 0) (n := 0) (Nat.le_of_ble_eq_true rfl) (Nat.le_of_ble_eq_true rfl) ?_
      exact hb_116 _ _ _ ls I (lv_sub hl1 [] rfl) hw
    · replace hw := hw.2 c
      refine lv_aload_n hx hb dX6_errorOfField_90 rfl (lv_at hl1 1 rfl) ?_
      refine lv_bipush (v := 36) hx hb dX6_errorOfField_91 (by decide) ?_
      refine lv_iload_n hx hb dX6_errorOfField_93 rfl (lv_at hl1 2 rfl) ?_
      obtain ⟨hrc, hw⟩ := hw
      refine z_callV C I (as := [.int (36 : Int32), .int p0]) (rest := []) (m_X6_named E hw) kv_X6_94 vc_7 hrc rfl rfl hl1.1 (Nat.le_of_ble_eq_true rfl) ⟨Nat.le_of_ble_eq_true rfl, Nat.le_of_ble_eq_true rfl⟩ ⟨Nat.le_of_ble_eq_true rfl, Nat.le_of_ble_eq_true rfl⟩ dX6_errorOfField_94 (z_prop C htab (Nat.le_of_ble_eq_true rfl) (Nat.le_of_ble_eq_true rfl)) (fun v M4 _ _ I hv => ?_)
      obtain ⟨v5, rfl, hw⟩ := hv
      refine W.eq (g2 := F0 m 97 ls [.int v5]) rfl ?_
      refine lv_iconst (v := -1) hx hb dX6_errorOfField_97 (by decide) ?_
      refine lv_icmp_ne (tgt := 116) hx hb dX6_errorOfField_98 (by decide) (fun c => ?_) (fun c => ?_)
      · replace hw := hw.1 c
        refine W.widen (k := 0) (n := 0) (Nat.le_of_ble_eq_true rfl) (Nat.le_of_ble_eq_true rfl) ?_
        exact hb_116 _ _ _ ls I (lv_sub hl1 [] rfl) hw
      · replace hw := hw.2 c
        refine lv_aload_n hx hb dX6_errorOfField_101 rfl (lv_at hl1 1 rfl) ?_
        refine z_getr C I fl_X6_32 hw dX6_errorOfField_102 (fun v6 hw => ?_)
        refine lv_bipush (v := 36) hx hb dX6_errorOfField_105 (by decide) ?_
        refine z_iald C I hw dX6_errorOfField_107 (fun v7 hw => ?_)
        refine lv_iload hx hb dX6_errorOfField_108 (lv_at hl1 0 rfl) ?_
        refine lv_iadd hx hb dX6_errorOfField_110 ?_
        refine lv_bipush (v := 20) hx hb dX6_errorOfField_111 (by decide) ?_
        refine lv_icmp_le (tgt := 120) hx hb dX6_errorOfField_113 (by decide) (fun c => ?_) (fun c => ?_)
        · replace hw := hw.1 c
          refine lv_iconst (v := 0) hx hb dX6_errorOfField_120 (by decide) ?_
          exact z_iret C I hr ⟨_, rfl, hw⟩ (Nat.le_of_ble_eq_true rfl) (Nat.le_of_ble_eq_true rfl) dX6_errorOfField_121
        · replace hw := hw.2 c
          refine W.widen (k := 0) (n := 0) (Nat.le_of_ble_eq_true rfl) (Nat.le_of_ble_eq_true rfl) ?_
          exact hb_116 _ _ _ ls I (lv_sub hl1 [] rfl) hw
  have hb_58 : ∀ (x5 : Int32) (M : zM) (H : Heap) (locs : List Loc) (ls : Array Slot), zWk X s M H locs → lv_has ls 7 [(0, .ref o), (1, .int p0), (3, .int p2), (5, .int x5)] → w_X6_errorOfField_58 o p0 p1 p2 p3 P x5 M → W p l e (zRm 3 66 0 0) s m args below meth c H locs 0 0 (vx_MQ below (zQc X (zPi P)) (zXc X PX) args s 0 0 (zBase X)) (F0 m 58 ls []) := by
    intro x5 M H locs ls I hl hw
    unfold w_X6_errorOfField_58 at hw
    refine lv_iload hx hb dX6_errorOfField_58 (lv_at hl 3 rfl) ?_
    refine lv_if_eq (tgt := 76) hx hb dX6_errorOfField_60 (by decide) (fun c => ?_) (fun c => ?_)
    · replace hw := hw.1 c
      refine lv_iconst (v := 1) hx hb dX6_errorOfField_76 (by decide) ?_
      refine W.widen (k := 0) (n := 0) (Nat.le_of_ble_eq_true rfl) (Nat.le_of_ble_eq_true rfl) ?_
      exact hb_77 (1 : Int32) _ _ _ ls I (lv_sub hl [0, 1] rfl) hw
    · replace hw := hw.2 c
      refine lv_aload_n hx hb dX6_errorOfField_63 rfl (lv_at hl 0 rfl) ?_
      refine z_getr C I fl_X6_32 hw dX6_errorOfField_64 (fun v8 hw => ?_)
      refine lv_aload_n hx hb dX6_errorOfField_67 rfl (lv_at hl 0 rfl) ?_
      refine lv_iload_n hx hb dX6_errorOfField_68 rfl (lv_at hl 2 rfl) ?_
      obtain ⟨hrc, hw⟩ := hw
      refine z_callV C I (as := [.int p2]) (rest := [.ref v8]) (m_X6_schemaOf E hw) kv_X6_90 vc_7 hrc rfl rfl hl.1 (Nat.le_of_ble_eq_true rfl) ⟨Nat.le_of_ble_eq_true rfl, Nat.le_of_ble_eq_true rfl⟩ ⟨Nat.le_of_ble_eq_true rfl, Nat.le_of_ble_eq_true rfl⟩ dX6_errorOfField_69 (z_prop C htab (Nat.le_of_ble_eq_true rfl) (Nat.le_of_ble_eq_true rfl)) (fun v M9 _ _ I hv => ?_)
      obtain ⟨v10, rfl, hw⟩ := hv
      refine W.eq (g2 := F0 m 72 ls [.int v10, .ref v8]) rfl ?_
      refine z_iald C I hw dX6_errorOfField_72 (fun v11 hw => ?_)
      refine lv_goto (tgt := 77) hx hb dX6_errorOfField_73 (by decide) ?_
      refine W.widen (k := 0) (n := 0) (Nat.le_of_ble_eq_true rfl) (Nat.le_of_ble_eq_true rfl) ?_
      exact hb_77 v11 _ _ _ ls I (lv_sub hl [0, 1] rfl) hw
  have hb_24 : ∀ (y0 : Int32) (M : zM) (H : Heap) (locs : List Loc) (ls : Array Slot), zWk X s M H locs → lv_has ls 7 [(0, .ref o), (1, .int p0), (3, .int p2)] → w_X6_errorOfField_24 o p0 p1 p2 p3 P y0 M → W p l e (zRm 3 66 0 0) s m args below meth c H locs 0 0 (vx_MQ below (zQc X (zPi P)) (zXc X PX) args s 0 0 (zBase X)) (F0 m 24 ls [.int y0]) := by
    intro y0 M H locs ls I hl hw
    unfold w_X6_errorOfField_24 at hw
    refine lv_istore (lv' := [(5, .int y0), (0, .ref o), (1, .int p0), (3, .int p2)]) hx hb dX6_errorOfField_24 hl (by decide) rfl (fun ls hl12 => ?_)
    refine lv_iload hx hb dX6_errorOfField_26 (lv_at hl12 0 rfl) ?_
    refine lv_if_eq (tgt := 58) hx hb dX6_errorOfField_28 (by decide) (fun c => ?_) (fun c => ?_)
    · replace hw := hw.1 c
      refine W.widen (k := 0) (n := 0) (Nat.le_of_ble_eq_true rfl) (Nat.le_of_ble_eq_true rfl) ?_
      exact hb_58 y0 _ _ _ ls I (lv_sub hl12 [1, 2, 3, 0] rfl) hw
    · replace hw := hw.2 c
      refine lv_iload_n hx hb dX6_errorOfField_31 rfl (lv_at hl12 3 rfl) ?_
      refine lv_iconst (v := 0) hx hb dX6_errorOfField_32 (by decide) ?_
      refine lv_bipush (v := 59) hx hb dX6_errorOfField_33 (by decide) ?_
      refine z_callS C I (as := [.int p2, .int (0 : Int32), .int (59 : Int32)]) (rest := []) (m_X6_in E hw) ks_X6_75 rfl rfl hl12.1 (Nat.le_of_ble_eq_true rfl) ⟨Nat.le_of_ble_eq_true rfl, Nat.le_of_ble_eq_true rfl⟩ ⟨Nat.le_of_ble_eq_true rfl, Nat.le_of_ble_eq_true rfl⟩ dX6_errorOfField_35 (z_prop C htab (Nat.le_of_ble_eq_true rfl) (Nat.le_of_ble_eq_true rfl)) (fun v M13 _ _ I hv => ?_)
      obtain ⟨v14, rfl, hv14, hw⟩ := hv
      refine W.eq (g2 := F0 m 38 ls [.int v14]) rfl ?_
      refine lv_if_eq (tgt := 56) hx hb dX6_errorOfField_38 (by decide) (fun c => ?_) (fun c => ?_)
      · replace hw := hw.1 c
        refine lv_iconst (v := 2) hx hb dX6_errorOfField_56 (by decide) ?_
        exact z_iret C I hr ⟨_, rfl, hw⟩ (Nat.le_of_ble_eq_true rfl) (Nat.le_of_ble_eq_true rfl) dX6_errorOfField_57
      · replace hw := hw.2 c
        refine lv_aload_n hx hb dX6_errorOfField_41 rfl (lv_at hl12 1 rfl) ?_
        refine lv_iload_n hx hb dX6_errorOfField_42 rfl (lv_at hl12 3 rfl) ?_
        refine lv_bipush (v := 10) hx hb dX6_errorOfField_43 (by decide) ?_
        refine lv_idiv hx hb dX6_errorOfField_45 (by decide) ?_
        refine lv_iload_n hx hb dX6_errorOfField_46 rfl (lv_at hl12 3 rfl) ?_
        refine lv_bipush (v := 10) hx hb dX6_errorOfField_47 (by decide) ?_
        refine lv_irem hx hb dX6_errorOfField_49 (by decide) ?_
        obtain ⟨hrc, hw⟩ := hw
        refine z_callV C I (as := [.int (p2 / (10 : Int32)), .int (p2 - p2 / (10 : Int32) * (10 : Int32))]) (rest := []) (m_X6_isThereAt E hw) kv_X6_87 vc_7 hrc rfl rfl hl12.1 (Nat.le_of_ble_eq_true rfl) ⟨Nat.le_of_ble_eq_true rfl, Nat.le_of_ble_eq_true rfl⟩ ⟨Nat.le_of_ble_eq_true rfl, Nat.le_of_ble_eq_true rfl⟩ dX6_errorOfField_50 (z_prop C htab (Nat.le_of_ble_eq_true rfl) (Nat.le_of_ble_eq_true rfl)) (fun v M15 _ _ I hv => ?_)
        obtain ⟨v16, rfl, hv16, hw⟩ := hv
        refine W.eq (g2 := F0 m 53 ls [.int v16]) rfl ?_
        refine lv_if_ne (tgt := 58) hx hb dX6_errorOfField_53 (by decide) (fun c => ?_) (fun c => ?_)
        · replace hw := hw.1 c
          refine W.widen (k := 0) (n := 0) (Nat.le_of_ble_eq_true rfl) (Nat.le_of_ble_eq_true rfl) ?_
          exact hb_58 y0 _ _ _ ls I (lv_sub hl12 [1, 2, 3, 0] rfl) hw
        · replace hw := hw.2 c
          refine lv_iconst (v := 2) hx hb dX6_errorOfField_56 (by decide) ?_
          exact z_iret C I hr ⟨_, rfl, hw⟩ (Nat.le_of_ble_eq_true rfl) (Nat.le_of_ble_eq_true rfl) dX6_errorOfField_57
  refine lv_aload_n hx hb dX6_errorOfField_0 rfl (lv_at hl 0 rfl) ?_
  refine lv_iload_n hx hb dX6_errorOfField_1 rfl (lv_at hl 1 rfl) ?_
  refine lv_iload_n hx hb dX6_errorOfField_2 rfl (lv_at hl 2 rfl) ?_
  refine lv_iload_n hx hb dX6_errorOfField_3 rfl (lv_at hl 3 rfl) ?_
  refine lv_iload hx hb dX6_errorOfField_4 (lv_at hl 4 rfl) ?_
  obtain ⟨hrc, hw⟩ := hw
  refine z_callV C I (as := [.int p0, .int p1, .int p2, .int p3]) (rest := []) (m_X6_isRange E hw) kv_X6_83 vc_7 hrc rfl rfl hl.1 (Nat.le_of_ble_eq_true rfl) ⟨Nat.le_of_ble_eq_true rfl, Nat.le_of_ble_eq_true rfl⟩ ⟨Nat.le_of_ble_eq_true rfl, Nat.le_of_ble_eq_true rfl⟩ dX6_errorOfField_6 (z_prop C htab (Nat.le_of_ble_eq_true rfl) (Nat.le_of_ble_eq_true rfl)) (fun v M17 _ _ I hv => ?_)
  obtain ⟨v18, rfl, hv18, hw⟩ := hv
  refine W.eq (g2 := F0 m 9 ls [.int v18]) rfl ?_
  refine lv_if_ne (tgt := 14) hx hb dX6_errorOfField_9 (by decide) (fun c => ?_) (fun c => ?_)
  · replace hw := hw.1 c
    refine lv_iload_n hx hb dX6_errorOfField_14 rfl (lv_at hl 2 rfl) ?_
    refine lv_iconst (v := 4) hx hb dX6_errorOfField_15 (by decide) ?_
    refine lv_icmp_ne (tgt := 23) hx hb dX6_errorOfField_16 (by decide) (fun c => ?_) (fun c => ?_)
    · replace hw := hw.1 c
      refine lv_iconst (v := 0) hx hb dX6_errorOfField_23 (by decide) ?_
      refine W.widen (k := 0) (n := 0) (Nat.le_of_ble_eq_true rfl) (Nat.le_of_ble_eq_true rfl) ?_
      exact hb_24 (0 : Int32) _ _ _ ls I (lv_sub hl [0, 1, 3] rfl) hw
    · replace hw := hw.2 c
      refine lv_iconst (v := 1) hx hb dX6_errorOfField_19 (by decide) ?_
      refine lv_goto (tgt := 24) hx hb dX6_errorOfField_20 (by decide) ?_
      refine W.widen (k := 0) (n := 0) (Nat.le_of_ble_eq_true rfl) (Nat.le_of_ble_eq_true rfl) ?_
      exact hb_24 (1 : Int32) _ _ _ ls I (lv_sub hl [0, 1, 3] rfl) hw
  · replace hw := hw.2 c
    refine lv_iconst (v := 1) hx hb dX6_errorOfField_12 (by decide) ?_
    exact z_iret C I hr ⟨_, rfl, hw⟩ (Nat.le_of_ble_eq_true rfl) (Nat.le_of_ble_eq_true rfl) dX6_errorOfField_13
