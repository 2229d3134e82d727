set_option maxHeartbeats 4000000 in
set_option maxRecDepth 100000 in
theorem m_L_isReadSo {X : zX} {l : Launch} (E : zEnv X l) (EN : zNcs X) {M : zM} {p0 : Nat} {p1 : Nat} {p2 : Int32} {p3 : Int32} {p4 : Int32} {P : Int32 → zM → Prop} {PX : Nat → zM → Prop} (hw : w_L_isReadSo p0 p1 p2 p3 p4 M P) : zCT X l yL_isReadSo cL_isReadSo 11 (some .boolean) 105 4877 102 612 M [.ref p0, .ref p1, .int p2, .int p3, .int p4] (zPz P) PX := by
  refine z_entry E (by decide) ?_
  intro p e s m args below meth c C hr htab I
  have hx := C.1.1
  have hb := C.1.2.1
  obtain ⟨ls, he, hl⟩ := z_enter (m := m) (n := 11) (vs := [.ref p0, .ref p1, .int p2, .int p3, .int p4]) (l := [(0, .ref p0), (1, .ref p1), (2, .int p2), (3, .int p3), (4, .int p4)]) (Nat.le_of_ble_eq_true rfl) rfl
  rw [he]
  clear he
  unfold w_L_isReadSo at hw
  have hb_381 : ∀ (M : zM) (H : Heap) (locs : List Loc) (ls : Array Slot), zWk X s M H locs → lv_has ls 11 [] → w_L_isReadSo_381 p0 p1 p2 p3 p4 P M → W p l e (zRm 105 4877 102 612) s m args below meth c H locs 102 612 (vx_MQ below (zQc X (zPz P)) (zXc X PX) args s 102 612 (zBase X)) (F0 m 381 ls []) := by
    intro M H locs ls I hl hw
    unfold w_L_isReadSo_381 at hw
    refine lv_iconst (v := 1) hx hb dL_isReadSo_381 (by decide) ?_
    refine lv_goto (tgt := 386) hx hb dL_isReadSo_382 (by decide) ?_
    exact z_zret C I hr (Or.inr rfl) ⟨_, rfl, (Or.inr rfl), hw⟩ (Nat.le_of_ble_eq_true rfl) (Nat.le_of_ble_eq_true rfl) dL_isReadSo_386
  have hb_301 : ∀ (x5 : Int32) (x10 : Int32) (y0 : Int32) (M : zM) (H : Heap) (locs : List Loc) (ls : Array Slot), zWk X s M H locs → lv_has ls 11 [(0, .ref p0), (2, .int p2), (5, .int x5), (10, .int x10)] → w_L_isReadSo_301 p0 p1 p2 p3 p4 P x5 x10 y0 M → W p l e (zRm 105 4877 102 612) s m args below meth c H locs 98 588 (vx_MQ below (zQc X (zPz P)) (zXc X PX) args s 102 612 (zBase X)) (F0 m 301 ls [.int y0]) := by
    intro x5 x10 y0 M H locs ls I hl hw
    unfold w_L_isReadSo_301 at hw
    refine lv_istore (lv' := [(6, .int y0), (0, .ref p0), (2, .int p2), (5, .int x5), (10, .int x10)]) hx hb dL_isReadSo_301 hl (by decide) rfl (fun ls hl1 => ?_)
    refine lv_iload hx hb dL_isReadSo_303 (lv_at hl1 0 rfl) ?_
    refine lv_if_eq (tgt := 385) hx hb dL_isReadSo_305 (by decide) (fun c => ?_) (fun c => ?_)
    · replace hw := hw.1 c
      refine lv_iconst (v := 0) hx hb dL_isReadSo_385 (by decide) ?_
      exact z_zret C I hr (Or.inl rfl) ⟨_, rfl, (Or.inl rfl), hw⟩ (Nat.le_of_ble_eq_true rfl) (Nat.le_of_ble_eq_true rfl) dL_isReadSo_386
    · replace hw := hw.2 c
      refine lv_iload hx hb dL_isReadSo_308 (lv_at hl1 4 rfl) ?_
      refine lv_if_ge (tgt := 344) hx hb dL_isReadSo_310 (by decide) (fun c => ?_) (fun c => ?_)
      · replace hw := hw.1 c
        refine lv_iload hx hb dL_isReadSo_344 (lv_at hl1 4 rfl) ?_
        refine lv_aload_n hx hb dL_isReadSo_346 rfl (lv_at hl1 1 rfl) ?_
        refine lv_bipush (v := 8) hx hb dL_isReadSo_347 (by decide) ?_
        refine lv_iload_n hx hb dL_isReadSo_349 rfl (lv_at hl1 2 rfl) ?_
        refine lv_bipush (v := 6) hx hb dL_isReadSo_350 (by decide) ?_
        refine lv_idiv hx hb dL_isReadSo_352 (by decide) ?_
        refine lv_iload_n hx hb dL_isReadSo_353 rfl (lv_at hl1 2 rfl) ?_
        refine lv_bipush (v := 6) hx hb dL_isReadSo_354 (by decide) ?_
        refine lv_irem hx hb dL_isReadSo_356 (by decide) ?_
        refine z_callSX C I (as := [.ref p0, .int (8 : Int32), .int (p2 / (6 : Int32)), .int (p2 - p2 / (6 : Int32) * (6 : Int32))]) (rest := [.int x10]) (m_L_does_8 E EN hw) kw_L_74 rfl rfl hl1.1 (Nat.le_of_ble_eq_true rfl) ⟨Nat.le_of_ble_eq_true rfl, Nat.le_of_ble_eq_true rfl⟩ ⟨Nat.le_of_ble_eq_true rfl, Nat.le_of_ble_eq_true rfl⟩ dL_isReadSo_357 (fun v M2 _ _ I hv => ?_)
        obtain ⟨v3, rfl, hw⟩ := hv
        refine W.eq (g2 := F0 m 360 ls [.int v3, .int x10]) rfl ?_
        refine lv_icmp_ne (tgt := 385) hx hb dL_isReadSo_360 (by decide) (fun c => ?_) (fun c => ?_)
        · replace hw := hw.1 c
          refine lv_iconst (v := 0) hx hb dL_isReadSo_385 (by decide) ?_
          exact z_zret C I hr (Or.inl rfl) ⟨_, rfl, (Or.inl rfl), hw⟩ (Nat.le_of_ble_eq_true rfl) (Nat.le_of_ble_eq_true rfl) dL_isReadSo_386
        · replace hw := hw.2 c
          refine lv_aload_n hx hb dL_isReadSo_363 rfl (lv_at hl1 1 rfl) ?_
          refine lv_bipush (v := 10) hx hb dL_isReadSo_364 (by decide) ?_
          refine lv_iload_n hx hb dL_isReadSo_366 rfl (lv_at hl1 2 rfl) ?_
          refine lv_bipush (v := 6) hx hb dL_isReadSo_367 (by decide) ?_
          refine lv_idiv hx hb dL_isReadSo_369 (by decide) ?_
          refine lv_iload_n hx hb dL_isReadSo_370 rfl (lv_at hl1 2 rfl) ?_
          refine lv_bipush (v := 6) hx hb dL_isReadSo_371 (by decide) ?_
          refine lv_irem hx hb dL_isReadSo_373 (by decide) ?_
          refine z_callSX C I (as := [.ref p0, .int (10 : Int32), .int (p2 / (6 : Int32)), .int (p2 - p2 / (6 : Int32) * (6 : Int32))]) (rest := []) (m_L_does_10 E EN hw) kw_L_74 rfl rfl hl1.1 (Nat.le_of_ble_eq_true rfl) ⟨Nat.le_of_ble_eq_true rfl, Nat.le_of_ble_eq_true rfl⟩ ⟨Nat.le_of_ble_eq_true rfl, Nat.le_of_ble_eq_true rfl⟩ dL_isReadSo_374 (fun v M4 _ _ I hv => ?_)
          obtain ⟨v5, rfl, hw⟩ := hv
          refine W.eq (g2 := F0 m 377 ls [.int v5]) rfl ?_
          refine lv_iconst (v := 1) hx hb dL_isReadSo_377 (by decide) ?_
          refine lv_icmp_ne (tgt := 385) hx hb dL_isReadSo_378 (by decide) (fun c => ?_) (fun c => ?_)
          · replace hw := hw.1 c
            refine lv_iconst (v := 0) hx hb dL_isReadSo_385 (by decide) ?_
            exact z_zret C I hr (Or.inl rfl) ⟨_, rfl, (Or.inl rfl), hw⟩ (Nat.le_of_ble_eq_true rfl) (Nat.le_of_ble_eq_true rfl) dL_isReadSo_386
          · replace hw := hw.2 c
            refine W.widen (k := 102) (n := 612) (Nat.le_of_ble_eq_true rfl) (Nat.le_of_ble_eq_true rfl) ?_
            exact hb_381 _ _ _ ls I (lv_sub hl1 [] rfl) hw
      · replace hw := hw.2 c
        refine lv_aload_n hx hb dL_isReadSo_313 rfl (lv_at hl1 1 rfl) ?_
        refine lv_bipush (v := 11) hx hb dL_isReadSo_314 (by decide) ?_
        refine lv_iload hx hb dL_isReadSo_316 (lv_at hl1 3 rfl) ?_
        refine lv_iconst (v := 0) hx hb dL_isReadSo_318 (by decide) ?_
        refine z_callSX C I (as := [.ref p0, .int (11 : Int32), .int x5, .int (0 : Int32)]) (rest := []) (m_L_does_11 E EN hw) kw_L_74 rfl rfl hl1.1 (Nat.le_of_ble_eq_true rfl) ⟨Nat.le_of_ble_eq_true rfl, Nat.le_of_ble_eq_true rfl⟩ ⟨Nat.le_of_ble_eq_true rfl, Nat.le_of_ble_eq_true rfl⟩ dL_isReadSo_319 (fun v M6 _ _ I hv => ?_)
        obtain ⟨v7, rfl, hw⟩ := hv
        refine W.eq (g2 := F0 m 322 ls [.int v7]) rfl ?_
        refine lv_ldc (v := -99999) hx hb C.1.2.2.2.1 (z_word C.1 zw442) dL_isReadSo_322 ?_
        refine lv_icmp_ne (tgt := 385) hx hb dL_isReadSo_324 (by decide) (fun c => ?_) (fun c => ?_)
        · replace hw := hw.1 c
          refine lv_iconst (v := 0) hx hb dL_isReadSo_385 (by decide) ?_
          exact z_zret C I hr (Or.inl rfl) ⟨_, rfl, (Or.inl rfl), hw⟩ (Nat.le_of_ble_eq_true rfl) (Nat.le_of_ble_eq_true rfl) dL_isReadSo_386
        · replace hw := hw.2 c
          refine lv_aload_n hx hb dL_isReadSo_327 rfl (lv_at hl1 1 rfl) ?_
          refine lv_bipush (v := 11) hx hb dL_isReadSo_328 (by decide) ?_
          refine lv_iload hx hb dL_isReadSo_330 (lv_at hl1 3 rfl) ?_
          refine lv_iconst (v := 1) hx hb dL_isReadSo_332 (by decide) ?_
          refine lv_isub hx hb dL_isReadSo_333 ?_
          refine lv_iconst (v := 0) hx hb dL_isReadSo_334 (by decide) ?_
          refine z_callSX C I (as := [.ref p0, .int (11 : Int32), .int (x5 - (1 : Int32)), .int (0 : Int32)]) (rest := []) (m_L_does_11 E EN hw) kw_L_74 rfl rfl hl1.1 (Nat.le_of_ble_eq_true rfl) ⟨Nat.le_of_ble_eq_true rfl, Nat.le_of_ble_eq_true rfl⟩ ⟨Nat.le_of_ble_eq_true rfl, Nat.le_of_ble_eq_true rfl⟩ dL_isReadSo_335 (fun v M8 _ _ I hv => ?_)
          obtain ⟨v9, rfl, hw⟩ := hv
          refine W.eq (g2 := F0 m 338 ls [.int v9]) rfl ?_
          refine lv_if_lt (tgt := 385) hx hb dL_isReadSo_338 (by decide) (fun c => ?_) (fun c => ?_)
          · replace hw := hw.1 c
            refine lv_iconst (v := 0) hx hb dL_isReadSo_385 (by decide) ?_
            exact z_zret C I hr (Or.inl rfl) ⟨_, rfl, (Or.inl rfl), hw⟩ (Nat.le_of_ble_eq_true rfl) (Nat.le_of_ble_eq_true rfl) dL_isReadSo_386
          · replace hw := hw.2 c
            refine lv_goto (tgt := 381) hx hb dL_isReadSo_341 (by decide) ?_
            refine W.widen (k := 102) (n := 612) (Nat.le_of_ble_eq_true rfl) (Nat.le_of_ble_eq_true rfl) ?_
            exact hb_381 _ _ _ ls I (lv_sub hl1 [] rfl) hw
  have hb_300 : ∀ (x5 : Int32) (x10 : Int32) (M : zM) (H : Heap) (locs : List Loc) (ls : Array Slot), zWk X s M H locs → lv_has ls 11 [(0, .ref p0), (2, .int p2), (5, .int x5), (10, .int x10)] → w_L_isReadSo_300 p0 p1 p2 p3 p4 P x5 x10 M → W p l e (zRm 105 4877 102 612) s m args below meth c H locs 98 588 (vx_MQ below (zQc X (zPz P)) (zXc X PX) args s 102 612 (zBase X)) (F0 m 300 ls []) := by
    intro x5 x10 M H locs ls I hl hw
    unfold w_L_isReadSo_300 at hw
    refine lv_iconst (v := 0) hx hb dL_isReadSo_300 (by decide) ?_
    refine W.widen (k := 98) (n := 588) (Nat.le_of_ble_eq_true rfl) (Nat.le_of_ble_eq_true rfl) ?_
    exact hb_301 x5 x10 (0 : Int32) _ _ _ ls I (lv_sub hl [0, 1, 2, 3] rfl) hw
  have hb_296 : ∀ (x5 : Int32) (x10 : Int32) (M : zM) (H : Heap) (locs : List Loc) (ls : Array Slot), zWk X s M H locs → lv_has ls 11 [(0, .ref p0), (2, .int p2), (5, .int x5), (10, .int x10)] → w_L_isReadSo_296 p0 p1 p2 p3 p4 P x5 x10 M → W p l e (zRm 105 4877 102 612) s m args below meth c H locs 98 588 (vx_MQ below (zQc X (zPz P)) (zXc X PX) args s 102 612 (zBase X)) (F0 m 296 ls []) := by
    intro x5 x10 M H locs ls I hl hw
    unfold w_L_isReadSo_296 at hw
    refine lv_iconst (v := 1) hx hb dL_isReadSo_296 (by decide) ?_
    refine lv_goto (tgt := 301) hx hb dL_isReadSo_297 (by decide) ?_
    refine W.widen (k := 98) (n := 588) (Nat.le_of_ble_eq_true rfl) (Nat.le_of_ble_eq_true rfl) ?_
    exact hb_301 x5 x10 (1 : Int32) _ _ _ ls I (lv_sub hl [0, 1, 2, 3] rfl) hw
  have hb_244 : ∀ (x5 : Int32) (x6 : Int32) (x7 : Int32) (M : zM) (H : Heap) (locs : List Loc) (ls : Array Slot), zWk X s M H locs → lv_has ls 11 [(0, .ref p0), (1, .ref p1), (2, .int p2), (3, .int p3), (5, .int x5), (6, .int x6), (7, .int x7)] → w_L_isReadSo_244 p0 p1 p2 p3 p4 P x5 x6 x7 M → W p l e (zRm 105 4877 102 612) s m args below meth c H locs 78 468 (vx_MQ below (zQc X (zPz P)) (zXc X PX) args s 102 612 (zBase X)) (F0 m 244 ls []) := by
    intro x5 x6 x7 M H locs ls I hl hw
    unfold w_L_isReadSo_244 at hw
    refine lv_aload_n hx hb dL_isReadSo_244 rfl (lv_at hl 0 rfl) ?_
    refine lv_iconst (v := 0) hx hb dL_isReadSo_245 (by decide) ?_
    refine lv_iload_n hx hb dL_isReadSo_246 rfl (lv_at hl 2 rfl) ?_
    refine lv_iload_n hx hb dL_isReadSo_247 rfl (lv_at hl 3 rfl) ?_
    refine z_callSX C I (as := [.ref p0, .int (0 : Int32), .int p2, .int p3]) (rest := []) (m_L_reads_0 E EN hw) kw_L_85 rfl rfl hl.1 (Nat.le_of_ble_eq_true rfl) ⟨Nat.le_of_ble_eq_true rfl, Nat.le_of_ble_eq_true rfl⟩ ⟨Nat.le_of_ble_eq_true rfl, Nat.le_of_ble_eq_true rfl⟩ dL_isReadSo_248 (fun v M10 _ _ I hv => ?_)
    obtain ⟨v11, rfl, hw⟩ := hv
    refine W.eq (g2 := F0 m 251 ls [.int v11]) rfl ?_
    refine lv_istore (lv' := [(9, .int v11), (0, .ref p0), (1, .ref p1), (2, .int p2), (3, .int p3), (5, .int x5), (6, .int x6), (7, .int x7)]) hx hb dL_isReadSo_251 hl (by decide) rfl (fun ls hl12 => ?_)
    refine lv_aload_n hx hb dL_isReadSo_253 rfl (lv_at hl12 1 rfl) ?_
    refine lv_iconst (v := 2) hx hb dL_isReadSo_254 (by decide) ?_
    refine lv_iload_n hx hb dL_isReadSo_255 rfl (lv_at hl12 3 rfl) ?_
    refine lv_iload_n hx hb dL_isReadSo_256 rfl (lv_at hl12 4 rfl) ?_
    refine z_callSX C I (as := [.ref p0, .int (2 : Int32), .int p2, .int p3]) (rest := []) (m_L_reads_2 E EN hw) kw_L_85 rfl rfl hl12.1 (Nat.le_of_ble_eq_true rfl) ⟨Nat.le_of_ble_eq_true rfl, Nat.le_of_ble_eq_true rfl⟩ ⟨Nat.le_of_ble_eq_true rfl, Nat.le_of_ble_eq_true rfl⟩ dL_isReadSo_257 (fun v M13 _ _ I hv => ?_)
    obtain ⟨v14, rfl, hw⟩ := hv
    refine W.eq (g2 := F0 m 260 ls [.int v14]) rfl ?_
    refine lv_istore (lv' := [(10, .int v14), (9, .int v11), (0, .ref p0), (1, .ref p1), (2, .int p2), (3, .int p3), (5, .int x5), (6, .int x6), (7, .int x7)]) hx hb dL_isReadSo_260 hl12 (by decide) rfl (fun ls hl15 => ?_)
    refine lv_iload hx hb dL_isReadSo_262 (lv_at hl15 7 rfl) ?_
    refine lv_if_eq (tgt := 300) hx hb dL_isReadSo_264 (by decide) (fun c => ?_) (fun c => ?_)
    · replace hw := hw.1 c
      refine W.widen (k := 98) (n := 588) (Nat.le_of_ble_eq_true rfl) (Nat.le_of_ble_eq_true rfl) ?_
      exact hb_300 x5 v14 _ _ _ ls I (lv_sub hl15 [2, 4, 6, 0] rfl) hw
    · replace hw := hw.2 c
      refine lv_aload_n hx hb dL_isReadSo_267 rfl (lv_at hl15 3 rfl) ?_
      refine lv_iconst (v := 2) hx hb dL_isReadSo_268 (by decide) ?_
      refine lv_iload_n hx hb dL_isReadSo_269 rfl (lv_at hl15 4 rfl) ?_
      refine lv_iload_n hx hb dL_isReadSo_270 rfl (lv_at hl15 5 rfl) ?_
      refine z_callSX C I (as := [.ref p1, .int (2 : Int32), .int p2, .int p3]) (rest := []) (m_L_reads_2 E EN hw) kw_L_85 rfl rfl hl15.1 (Nat.le_of_ble_eq_true rfl) ⟨Nat.le_of_ble_eq_true rfl, Nat.le_of_ble_eq_true rfl⟩ ⟨Nat.le_of_ble_eq_true rfl, Nat.le_of_ble_eq_true rfl⟩ dL_isReadSo_271 (fun v M16 _ _ I hv => ?_)
      obtain ⟨v17, rfl, hw⟩ := hv
      refine W.eq (g2 := F0 m 274 ls [.int v17]) rfl ?_
      refine lv_iload hx hb dL_isReadSo_274 (lv_at hl15 0 rfl) ?_
      refine lv_icmp_ne (tgt := 300) hx hb dL_isReadSo_276 (by decide) (fun c => ?_) (fun c => ?_)
      · replace hw := hw.1 c
        refine W.widen (k := 98) (n := 588) (Nat.le_of_ble_eq_true rfl) (Nat.le_of_ble_eq_true rfl) ?_
        exact hb_300 x5 v14 _ _ _ ls I (lv_sub hl15 [2, 4, 6, 0] rfl) hw
      · replace hw := hw.2 c
        refine lv_iload hx hb dL_isReadSo_279 (lv_at hl15 1 rfl) ?_
        refine lv_iconst (v := 1) hx hb dL_isReadSo_281 (by decide) ?_
        refine lv_icmp_ne (tgt := 296) hx hb dL_isReadSo_282 (by decide) (fun c => ?_) (fun c => ?_)
        · replace hw := hw.1 c
          refine W.widen (k := 98) (n := 588) (Nat.le_of_ble_eq_true rfl) (Nat.le_of_ble_eq_true rfl) ?_
          exact hb_296 x5 v14 _ _ _ ls I (lv_sub hl15 [2, 4, 6, 0] rfl) hw
        · replace hw := hw.2 c
          refine lv_iload hx hb dL_isReadSo_285 (lv_at hl15 8 rfl) ?_
          refine lv_iconst (v := 1) hx hb dL_isReadSo_287 (by decide) ?_
          refine lv_icmp_ne (tgt := 296) hx hb dL_isReadSo_288 (by decide) (fun c => ?_) (fun c => ?_)
          · replace hw := hw.1 c
            refine W.widen (k := 98) (n := 588) (Nat.le_of_ble_eq_true rfl) (Nat.le_of_ble_eq_true rfl) ?_
            exact hb_296 x5 v14 _ _ _ ls I (lv_sub hl15 [2, 4, 6, 0] rfl) hw
          · replace hw := hw.2 c
            refine lv_iload hx hb dL_isReadSo_291 (lv_at hl15 0 rfl) ?_
            refine lv_if_lt (tgt := 300) hx hb dL_isReadSo_293 (by decide) (fun c => ?_) (fun c => ?_)
            · replace hw := hw.1 c
              refine W.widen (k := 98) (n := 588) (Nat.le_of_ble_eq_true rfl) (Nat.le_of_ble_eq_true rfl) ?_
              exact hb_300 x5 v14 _ _ _ ls I (lv_sub hl15 [2, 4, 6, 0] rfl) hw
            · replace hw := hw.2 c
              refine W.widen (k := 98) (n := 588) (Nat.le_of_ble_eq_true rfl) (Nat.le_of_ble_eq_true rfl) ?_
              exact hb_296 x5 v14 _ _ _ ls I (lv_sub hl15 [2, 4, 6, 0] rfl) hw
  have hb_200 : ∀ (n : Nat), n ≤ 21 → ∀ (x5 : Int32) (x6 : Int32) (x7 : Int32) (x9 : Int32) (M : zM) (H : Heap) (locs : List Loc) (ls : Array Slot), zWk X s M H locs → lv_has ls 11 [(0, .ref p0), (1, .ref p1), (2, .int p2), (3, .int p3), (4, .int p4), (5, .int x5), (6, .int x6), (7, .int x7), (9, .int x9)] → w_L_isReadSo_200 p0 p1 p2 p3 p4 P n x5 x6 x7 x9 M → W p l e (zRm 105 4877 102 612) s m args below meth c H locs (58 + (21 - n) * 1) (348 + (21 - n) * 6) (vx_MQ below (zQc X (zPz P)) (zXc X PX) args s 102 612 (zBase X)) (F0 m 200 ls []) := by
    intro n
    induction n with
    | zero => intro _ _ _ _ _ M H locs ls I hl hw; exact hw.elim
    | succ n ih =>
      intro hn x5 x6 x7 x9 M H locs ls I hl hw
      unfold w_L_isReadSo_200 at hw
      have hb_236 : ∀ (x5 : Int32) (x7 : Int32) (x9 : Int32) (y0 : Int32) (M : zM) (H : Heap) (locs : List Loc) (ls : Array Slot), zWk X s M H locs → lv_has ls 11 [(0, .ref p0), (1, .ref p1), (2, .int p2), (3, .int p3), (4, .int p4), (5, .int x5), (7, .int x7), (9, .int x9)] → w_L_isReadSo_236 p0 p1 p2 p3 p4 P (w_L_isReadSo_200 p0 p1 p2 p3 p4 P n) x5 x7 x9 y0 M → W p l e (zRm 105 4877 102 612) s m args below meth c H locs (58 + (21 - (n + 1)) * 1 + 1) (348 + (21 - (n + 1)) * 6 + 6) (vx_MQ below (zQc X (zPz P)) (zXc X PX) args s 102 612 (zBase X)) (F0 m 236 ls [.int y0]) := by
        intro x5 x7 x9 y0 M H locs ls I hl hw
        unfold w_L_isReadSo_236 at hw
        refine lv_istore (lv' := [(6, .int y0), (0, .ref p0), (1, .ref p1), (2, .int p2), (3, .int p3), (4, .int p4), (5, .int x5), (7, .int x7), (9, .int x9)]) hx hb dL_isReadSo_236 hl (by decide) rfl (fun ls hl18 => ?_)
        refine lv_iinc (v := (x9 + 1)) (lv' := [(9, .int (x9 + 1)), (6, .int y0), (0, .ref p0), (1, .ref p1), (2, .int p2), (3, .int p3), (4, .int p4), (5, .int x5), (7, .int x7)]) hx hb dL_isReadSo_238 hl18 (k := 8) rfl (by rfl) (by decide) rfl (fun ls hl19 => ?_)
        refine lv_goto (tgt := 200) hx hb dL_isReadSo_241 (by decide) ?_
        refine W.widen (k := 58 + (21 - n) * 1) (n := 348 + (21 - n) * 6) (by omega) (by omega) ?_
        exact ih (by omega) x5 y0 x7 (x9 + 1) _ _ _ ls I (lv_sub hl19 [2, 3, 4, 5, 6, 7, 1, 8, 0] rfl) hw
      refine lv_iload hx hb dL_isReadSo_200 (lv_at hl 8 rfl) ?_
      refine lv_iload hx hb dL_isReadSo_202 (lv_at hl 5 rfl) ?_
      refine lv_icmp_ge (tgt := 244) hx hb dL_isReadSo_204 (by decide) (fun c => ?_) (fun c => ?_)
      · replace hw := hw.1 c
        refine W.widen (k := 78) (n := 468) (by first | omega | (simp only [zRm]; omega)) (by first | omega | (simp only [zRm]; omega)) ?_
        exact hb_244 x5 x6 x7 _ _ _ ls I (lv_sub hl [0, 1, 2, 3, 5, 6, 7] rfl) hw
      · replace hw := hw.2 c
        refine lv_iload hx hb dL_isReadSo_207 (lv_at hl 6 rfl) ?_
        refine lv_if_eq (tgt := 244) hx hb dL_isReadSo_209 (by decide) (fun c => ?_) (fun c => ?_)
        · replace hw := hw.1 c
          refine W.widen (k := 78) (n := 468) (by first | omega | (simp only [zRm]; omega)) (by first | omega | (simp only [zRm]; omega)) ?_
          exact hb_244 x5 x6 x7 _ _ _ ls I (lv_sub hl [0, 1, 2, 3, 5, 6, 7] rfl) hw
        · replace hw := hw.2 c
          refine lv_aload_n hx hb dL_isReadSo_212 rfl (lv_at hl 0 rfl) ?_
          refine lv_iload hx hb dL_isReadSo_213 (lv_at hl 8 rfl) ?_
          obtain ⟨hrc, hw⟩ := hw
          refine z_callV (PX := fun _ _ => False) C I (as := [.int x9]) (rest := []) (m_X5_valueAt E hw) kv_L_53 vc_6 hrc rfl rfl hl.1 (Nat.le_of_ble_eq_true rfl) ⟨Nat.le_of_ble_eq_true rfl, Nat.le_of_ble_eq_true rfl⟩ ⟨(by first | omega | (simp only [zRm]; omega)), (by first | omega | (simp only [zRm]; omega))⟩ dL_isReadSo_215 (fun _ _ _ _ _ _ _ hF => hF.elim) (fun v M20 _ _ I hv => ?_)
          obtain ⟨v21, rfl, hw⟩ := hv
          refine W.eq (g2 := F0 m 218 ls [.int v21]) rfl ?_
          refine lv_iload hx hb dL_isReadSo_218 (lv_at hl 4 rfl) ?_
          refine lv_iload hx hb dL_isReadSo_220 (lv_at hl 8 rfl) ?_
          refine lv_bipush (v := 7) hx hb dL_isReadSo_222 (by decide) ?_
          refine lv_irem hx hb dL_isReadSo_224 (by decide) ?_
          refine lv_ishr hx hb dL_isReadSo_225 ?_
          refine lv_iconst (v := 1) hx hb dL_isReadSo_226 (by decide) ?_
          refine lv_iand hx hb dL_isReadSo_227 ?_
          refine lv_icmp_ne (tgt := 235) hx hb dL_isReadSo_228 (by decide) (fun c => ?_) (fun c => ?_)
          · replace hw := hw.1 c
            refine lv_iconst (v := 0) hx hb dL_isReadSo_235 (by decide) ?_
            refine W.widen (k := (58 + (21 - (n + 1)) * 1 + 1)) (n := (348 + (21 - (n + 1)) * 6 + 6)) (by first | omega | (simp only [zRm]; omega)) (by first | omega | (simp only [zRm]; omega)) ?_
            exact hb_236 x5 x7 x9 (0 : Int32) _ _ _ ls I (lv_sub hl [0, 1, 2, 3, 4, 5, 7, 8] rfl) hw
          · replace hw := hw.2 c
            refine lv_iconst (v := 1) hx hb dL_isReadSo_231 (by decide) ?_
            refine lv_goto (tgt := 236) hx hb dL_isReadSo_232 (by decide) ?_
            refine W.widen (k := (58 + (21 - (n + 1)) * 1 + 1)) (n := (348 + (21 - (n + 1)) * 6 + 6)) (by first | omega | (simp only [zRm]; omega)) (by first | omega | (simp only [zRm]; omega)) ?_
            exact hb_236 x5 x7 x9 (1 : Int32) _ _ _ ls I (lv_sub hl [0, 1, 2, 3, 4, 5, 7, 8] rfl) hw
  have hb_195 : ∀ (x5 : Int32) (x7 : Int32) (y0 : Int32) (M : zM) (H : Heap) (locs : List Loc) (ls : Array Slot), zWk X s M H locs → lv_has ls 11 [(0, .ref p0), (1, .ref p1), (2, .int p2), (3, .int p3), (4, .int p4), (5, .int x5), (7, .int x7)] → w_L_isReadSo_195 p0 p1 p2 p3 p4 P x5 x7 y0 M → W p l e (zRm 105 4877 102 612) s m args below meth c H locs 58 348 (vx_MQ below (zQc X (zPz P)) (zXc X PX) args s 102 612 (zBase X)) (F0 m 195 ls [.int y0]) := by
    intro x5 x7 y0 M H locs ls I hl hw
    unfold w_L_isReadSo_195 at hw
    refine lv_istore (lv' := [(6, .int y0), (0, .ref p0), (1, .ref p1), (2, .int p2), (3, .int p3), (4, .int p4), (5, .int x5), (7, .int x7)]) hx hb dL_isReadSo_195 hl (by decide) rfl (fun ls hl22 => ?_)
    refine lv_iconst (v := 0) hx hb dL_isReadSo_197 (by decide) ?_
    refine lv_istore (lv' := [(9, .int (0 : Int32)), (6, .int y0), (0, .ref p0), (1, .ref p1), (2, .int p2), (3, .int p3), (4, .int p4), (5, .int x5), (7, .int x7)]) hx hb dL_isReadSo_198 hl22 (by decide) rfl (fun ls hl23 => ?_)
    refine W.widen (k := 58 + (21 - 21) * 1) (n := 348 + (21 - 21) * 6) (Nat.le_of_ble_eq_true rfl) (Nat.le_of_ble_eq_true rfl) ?_
    exact hb_200 21 (Nat.le_refl _) x5 y0 x7 (0 : Int32) _ _ _ ls I (lv_sub hl23 [2, 3, 4, 5, 6, 7, 1, 8, 0] rfl) hw
  have hb_194 : ∀ (x5 : Int32) (x7 : Int32) (M : zM) (H : Heap) (locs : List Loc) (ls : Array Slot), zWk X s M H locs → lv_has ls 11 [(0, .ref p0), (1, .ref p1), (2, .int p2), (3, .int p3), (4, .int p4), (5, .int x5), (7, .int x7)] → w_L_isReadSo_194 p0 p1 p2 p3 p4 P x5 x7 M → W p l e (zRm 105 4877 102 612) s m args below meth c H locs 58 348 (vx_MQ below (zQc X (zPz P)) (zXc X PX) args s 102 612 (zBase X)) (F0 m 194 ls []) := by
    intro x5 x7 M H locs ls I hl hw
    unfold w_L_isReadSo_194 at hw
    refine lv_iconst (v := 0) hx hb dL_isReadSo_194 (by decide) ?_
    refine W.widen (k := 58) (n := 348) (Nat.le_of_ble_eq_true rfl) (Nat.le_of_ble_eq_true rfl) ?_
    exact hb_195 x5 x7 (0 : Int32) _ _ _ ls I (lv_sub hl [0, 1, 2, 3, 4, 5, 6] rfl) hw
  have hb_187 : ∀ (x5 : Int32) (x7 : Int32) (y0 : Int32) (y1 : Int32) (M : zM) (H : Heap) (locs : List Loc) (ls : Array Slot), zWk X s M H locs → lv_has ls 11 [(0, .ref p0), (1, .ref p1), (2, .int p2), (3, .int p3), (4, .int p4), (5, .int x5), (7, .int x7)] → w_L_isReadSo_187 p0 p1 p2 p3 p4 P x5 x7 y0 y1 M → W p l e (zRm 105 4877 102 612) s m args below meth c H locs 58 348 (vx_MQ below (zQc X (zPz P)) (zXc X PX) args s 102 612 (zBase X)) (F0 m 187 ls [.int y0, .int y1]) := by
    intro x5 x7 y0 y1 M H locs ls I hl hw
    unfold w_L_isReadSo_187 at hw
    refine lv_icmp_ne (tgt := 194) hx hb dL_isReadSo_187 (by decide) (fun c => ?_) (fun c => ?_)
    · replace hw := hw.1 c
      refine W.widen (k := 58) (n := 348) (Nat.le_of_ble_eq_true rfl) (Nat.le_of_ble_eq_true rfl) ?_
      exact hb_194 x5 x7 _ _ _ ls I (lv_sub hl [0, 1, 2, 3, 4, 5, 6] rfl) hw
    · replace hw := hw.2 c
      refine lv_iconst (v := 1) hx hb dL_isReadSo_190 (by decide) ?_
      refine lv_goto (tgt := 195) hx hb dL_isReadSo_191 (by decide) ?_
      refine W.widen (k := 58) (n := 348) (Nat.le_of_ble_eq_true rfl) (Nat.le_of_ble_eq_true rfl) ?_
      exact hb_195 x5 x7 (1 : Int32) _ _ _ ls I (lv_sub hl [0, 1, 2, 3, 4, 5, 6] rfl) hw
  have hb_67 : ∀ (n : Nat), n ≤ 21 → ∀ (x5 : Int32) (x6 : Int32) (x7 : Int32) (M : zM) (H : Heap) (locs : List Loc) (ls : Array Slot), zWk X s M H locs → lv_has ls 11 [(0, .ref p0), (1, .ref p1), (2, .int p2), (3, .int p3), (4, .int p4), (5, .int x5), (6, .int x6), (7, .int x7)] → w_L_isReadSo_67 p0 p1 p2 p3 p4 P n x5 x6 x7 M → W p l e (zRm 105 4877 102 612) s m args below meth c H locs (2 + (21 - n) * 2) (12 + (21 - n) * 12) (vx_MQ below (zQc X (zPz P)) (zXc X PX) args s 102 612 (zBase X)) (F0 m 67 ls []) := by
    intro n
    induction n with
    | zero => intro _ _ _ _ M H locs ls I hl hw; exact hw.elim
    | succ n ih =>
      intro hn x5 x6 x7 M H locs ls I hl hw
      unfold w_L_isReadSo_67 at hw
      have hb_122 : ∀ (x5 : Int32) (x7 : Int32) (y0 : Int32) (M : zM) (H : Heap) (locs : List Loc) (ls : Array Slot), zWk X s M H locs → lv_has ls 11 [(0, .ref p0), (1, .ref p1), (2, .int p2), (3, .int p3), (4, .int p4), (5, .int x5), (7, .int x7)] → w_L_isReadSo_122 p0 p1 p2 p3 p4 P (w_L_isReadSo_67 p0 p1 p2 p3 p4 P n) x5 x7 y0 M → W p l e (zRm 105 4877 102 612) s m args below meth c H locs (2 + (21 - (n + 1)) * 2 + 2) (12 + (21 - (n + 1)) * 12 + 12) (vx_MQ below (zQc X (zPz P)) (zXc X PX) args s 102 612 (zBase X)) (F0 m 122 ls [.int y0]) := by
        intro x5 x7 y0 M H locs ls I hl hw
        unfold w_L_isReadSo_122 at hw
        refine lv_istore (lv' := [(6, .int y0), (0, .ref p0), (1, .ref p1), (2, .int p2), (3, .int p3), (4, .int p4), (5, .int x5), (7, .int x7)]) hx hb dL_isReadSo_122 hl (by decide) rfl (fun ls hl24 => ?_)
        refine lv_iinc (v := (x7 + 1)) (lv' := [(7, .int (x7 + 1)), (6, .int y0), (0, .ref p0), (1, .ref p1), (2, .int p2), (3, .int p3), (4, .int p4), (5, .int x5)]) hx hb dL_isReadSo_124 hl24 (k := 7) rfl (by rfl) (by decide) rfl (fun ls hl25 => ?_)
        refine lv_goto (tgt := 67) hx hb dL_isReadSo_127 (by decide) ?_
        refine W.widen (k := 2 + (21 - n) * 2) (n := 12 + (21 - n) * 12) (by omega) (by omega) ?_
        exact ih (by omega) x5 y0 (x7 + 1) _ _ _ ls I (lv_sub hl25 [2, 3, 4, 5, 6, 7, 1, 0] rfl) hw
      have hb_121 : ∀ (x5 : Int32) (x7 : Int32) (M : zM) (H : Heap) (locs : List Loc) (ls : Array Slot), zWk X s M H locs → lv_has ls 11 [(0, .ref p0), (1, .ref p1), (2, .int p2), (3, .int p3), (4, .int p4), (5, .int x5), (7, .int x7)] → w_L_isReadSo_121 p0 p1 p2 p3 p4 P (w_L_isReadSo_67 p0 p1 p2 p3 p4 P n) x5 x7 M → W p l e (zRm 105 4877 102 612) s m args below meth c H locs (2 + (21 - (n + 1)) * 2 + 2) (12 + (21 - (n + 1)) * 12 + 12) (vx_MQ below (zQc X (zPz P)) (zXc X PX) args s 102 612 (zBase X)) (F0 m 121 ls []) := by
        intro x5 x7 M H locs ls I hl hw
        unfold w_L_isReadSo_121 at hw
        refine lv_iconst (v := 0) hx hb dL_isReadSo_121 (by decide) ?_
        refine W.widen (k := (2 + (21 - (n + 1)) * 2 + 2)) (n := (12 + (21 - (n + 1)) * 12 + 12)) (by first | omega | (simp only [zRm]; omega)) (by first | omega | (simp only [zRm]; omega)) ?_
        exact hb_122 x5 x7 (0 : Int32) _ _ _ ls I (lv_sub hl [0, 1, 2, 3, 4, 5, 6] rfl) hw
      refine lv_iload hx hb dL_isReadSo_67 (lv_at hl 7 rfl) ?_
      refine lv_iload hx hb dL_isReadSo_69 (lv_at hl 5 rfl) ?_
      refine lv_icmp_ge (tgt := 130) hx hb dL_isReadSo_71 (by decide) (fun c => ?_) (fun c => ?_)
      · replace hw := hw.1 c
        refine lv_aload_n hx hb dL_isReadSo_130 rfl (lv_at hl 0 rfl) ?_
        refine lv_bipush (v := 10) hx hb dL_isReadSo_131 (by decide) ?_
        refine lv_iload_n hx hb dL_isReadSo_133 rfl (lv_at hl 3 rfl) ?_
        refine lv_bipush (v := 6) hx hb dL_isReadSo_134 (by decide) ?_
        refine lv_idiv hx hb dL_isReadSo_136 (by decide) ?_
        refine lv_iload_n hx hb dL_isReadSo_137 rfl (lv_at hl 3 rfl) ?_
        refine lv_bipush (v := 6) hx hb dL_isReadSo_138 (by decide) ?_
        refine lv_irem hx hb dL_isReadSo_140 (by decide) ?_
        refine z_callSX C I (as := [.ref p0, .int (10 : Int32), .int (p3 / (6 : Int32)), .int (p3 - p3 / (6 : Int32) * (6 : Int32))]) (rest := []) (m_L_does_10 E EN hw) kw_L_74 rfl rfl hl.1 (Nat.le_of_ble_eq_true rfl) ⟨Nat.le_of_ble_eq_true rfl, Nat.le_of_ble_eq_true rfl⟩ ⟨(by first | omega | (simp only [zRm]; omega)), (by first | omega | (simp only [zRm]; omega))⟩ dL_isReadSo_141 (fun v M26 _ _ I hv => ?_)
        obtain ⟨v27, rfl, hw⟩ := hv
        refine W.eq (g2 := F0 m 144 ls [.int v27]) rfl ?_
        refine lv_istore (lv' := [(7, .int v27), (0, .ref p0), (1, .ref p1), (2, .int p2), (3, .int p3), (4, .int p4), (5, .int x5), (6, .int x6)]) hx hb dL_isReadSo_144 hl (by decide) rfl (fun ls hl28 => ?_)
        refine lv_aload_n hx hb dL_isReadSo_146 rfl (lv_at hl28 1 rfl) ?_
        refine lv_iconst (v := 2) hx hb dL_isReadSo_147 (by decide) ?_
        refine lv_iload_n hx hb dL_isReadSo_148 rfl (lv_at hl28 4 rfl) ?_
        refine lv_iload_n hx hb dL_isReadSo_149 rfl (lv_at hl28 4 rfl) ?_
        refine z_callSX C I (as := [.ref p0, .int (2 : Int32), .int p3, .int p3]) (rest := []) (m_L_reads_2 E EN hw) kw_L_85 rfl rfl hl28.1 (Nat.le_of_ble_eq_true rfl) ⟨Nat.le_of_ble_eq_true rfl, Nat.le_of_ble_eq_true rfl⟩ ⟨(by first | omega | (simp only [zRm]; omega)), (by first | omega | (simp only [zRm]; omega))⟩ dL_isReadSo_150 (fun v M29 _ _ I hv => ?_)
        obtain ⟨v30, rfl, hw⟩ := hv
        refine W.eq (g2 := F0 m 153 ls [.int v30]) rfl ?_
        refine lv_istore (lv' := [(8, .int v30), (7, .int v27), (0, .ref p0), (1, .ref p1), (2, .int p2), (3, .int p3), (4, .int p4), (5, .int x5), (6, .int x6)]) hx hb dL_isReadSo_153 hl28 (by decide) rfl (fun ls hl31 => ?_)
        refine lv_iload hx hb dL_isReadSo_155 (lv_at hl31 8 rfl) ?_
        refine lv_if_eq (tgt := 194) hx hb dL_isReadSo_157 (by decide) (fun c => ?_) (fun c => ?_)
        · replace hw := hw.1 c
          refine W.widen (k := 58) (n := 348) (by first | omega | (simp only [zRm]; omega)) (by first | omega | (simp only [zRm]; omega)) ?_
          exact hb_194 x5 v27 _ _ _ ls I (lv_sub hl31 [2, 3, 4, 5, 6, 7, 1] rfl) hw
        · replace hw := hw.2 c
          refine lv_aload_n hx hb dL_isReadSo_160 rfl (lv_at hl31 3 rfl) ?_
          refine lv_iconst (v := 2) hx hb dL_isReadSo_161 (by decide) ?_
          refine lv_iload_n hx hb dL_isReadSo_162 rfl (lv_at hl31 5 rfl) ?_
          refine lv_iload_n hx hb dL_isReadSo_163 rfl (lv_at hl31 5 rfl) ?_
          refine z_callSX C I (as := [.ref p1, .int (2 : Int32), .int p3, .int p3]) (rest := []) (m_L_reads_2 E EN hw) kw_L_85 rfl rfl hl31.1 (Nat.le_of_ble_eq_true rfl) ⟨Nat.le_of_ble_eq_true rfl, Nat.le_of_ble_eq_true rfl⟩ ⟨(by first | omega | (simp only [zRm]; omega)), (by first | omega | (simp only [zRm]; omega))⟩ dL_isReadSo_164 (fun v M32 _ _ I hv => ?_)
          obtain ⟨v33, rfl, hw⟩ := hv
          refine W.eq (g2 := F0 m 167 ls [.int v33]) rfl ?_
          refine lv_iload hx hb dL_isReadSo_167 (lv_at hl31 0 rfl) ?_
          refine lv_icmp_ne (tgt := 194) hx hb dL_isReadSo_169 (by decide) (fun c => ?_) (fun c => ?_)
          · replace hw := hw.1 c
            refine W.widen (k := 58) (n := 348) (by first | omega | (simp only [zRm]; omega)) (by first | omega | (simp only [zRm]; omega)) ?_
            exact hb_194 x5 v27 _ _ _ ls I (lv_sub hl31 [2, 3, 4, 5, 6, 7, 1] rfl) hw
          · replace hw := hw.2 c
            refine lv_iload hx hb dL_isReadSo_172 (lv_at hl31 0 rfl) ?_
            refine lv_iload hx hb dL_isReadSo_174 (lv_at hl31 1 rfl) ?_
            refine lv_iconst (v := 1) hx hb dL_isReadSo_176 (by decide) ?_
            refine lv_icmp_ne (tgt := 185) hx hb dL_isReadSo_177 (by decide) (fun c => ?_) (fun c => ?_)
            · replace hw := hw.1 c
              refine lv_ldc (v := -99999) hx hb C.1.2.2.2.1 (z_word C.1 zw442) dL_isReadSo_185 ?_
              refine W.widen (k := 58) (n := 348) (by first | omega | (simp only [zRm]; omega)) (by first | omega | (simp only [zRm]; omega)) ?_
              exact hb_187 x5 v27 (-99999 : Int32) v30 _ _ _ ls I (lv_sub hl31 [2, 3, 4, 5, 6, 7, 1] rfl) hw
            · replace hw := hw.2 c
              refine lv_iload hx hb dL_isReadSo_180 (lv_at hl31 7 rfl) ?_
              refine lv_goto (tgt := 187) hx hb dL_isReadSo_182 (by decide) ?_
              refine W.widen (k := 58) (n := 348) (by first | omega | (simp only [zRm]; omega)) (by first | omega | (simp only [zRm]; omega)) ?_
              exact hb_187 x5 v27 x5 v30 _ _ _ ls I (lv_sub hl31 [2, 3, 4, 5, 6, 7, 1] rfl) hw
      · replace hw := hw.2 c
        refine lv_iload hx hb dL_isReadSo_74 (lv_at hl 4 rfl) ?_
        refine lv_iload hx hb dL_isReadSo_76 (lv_at hl 7 rfl) ?_
        refine lv_bipush (v := 7) hx hb dL_isReadSo_78 (by decide) ?_
        refine lv_irem hx hb dL_isReadSo_80 (by decide) ?_
        refine lv_ishr hx hb dL_isReadSo_81 ?_
        refine lv_iconst (v := 1) hx hb dL_isReadSo_82 (by decide) ?_
        refine lv_iand hx hb dL_isReadSo_83 ?_
        refine lv_istore (lv' := [(8, .int ((p4 >>> ((x7 - x7 / (7 : Int32) * (7 : Int32)) &&& 31)) &&& (1 : Int32))), (0, .ref p0), (1, .ref p1), (2, .int p2), (3, .int p3), (4, .int p4), (5, .int x5), (6, .int x6), (7, .int x7)]) hx hb dL_isReadSo_84 hl (by decide) rfl (fun ls hl34 => ?_)
        refine lv_iload hx hb dL_isReadSo_86 (lv_at hl34 7 rfl) ?_
        refine lv_if_eq (tgt := 121) hx hb dL_isReadSo_88 (by decide) (fun c => ?_) (fun c => ?_)
        · replace hw := hw.1 c
          refine W.widen (k := (2 + (21 - (n + 1)) * 2 + 2)) (n := (12 + (21 - (n + 1)) * 12 + 12)) (by first | omega | (simp only [zRm]; omega)) (by first | omega | (simp only [zRm]; omega)) ?_
          exact hb_121 x5 x7 _ _ _ ls I (lv_sub hl34 [1, 2, 3, 4, 5, 6, 8] rfl) hw
        · replace hw := hw.2 c
          refine lv_aload_n hx hb dL_isReadSo_91 rfl (lv_at hl34 1 rfl) ?_
          refine lv_iload hx hb dL_isReadSo_92 (lv_at hl34 0 rfl) ?_
          obtain ⟨hrc, hw⟩ := hw
          refine z_callV (PX := fun _ _ => False) C I (as := [.int ((p4 >>> ((x7 - x7 / (7 : Int32) * (7 : Int32)) &&& 31)) &&& (1 : Int32))]) (rest := []) (m_X5_value E hw) kv_L_46 vc_6 hrc rfl rfl hl34.1 (Nat.le_of_ble_eq_true rfl) ⟨Nat.le_of_ble_eq_true rfl, Nat.le_of_ble_eq_true rfl⟩ ⟨(by first | omega | (simp only [zRm]; omega)), (by first | omega | (simp only [zRm]; omega))⟩ dL_isReadSo_94 (fun _ _ _ _ _ _ _ hF => hF.elim) (fun v M35 _ _ I hv => ?_)
          obtain ⟨v36, rfl, hw⟩ := hv
          refine W.eq (g2 := F0 m 97 ls [.int v36]) rfl ?_
          refine lv_iload hx hb dL_isReadSo_97 (lv_at hl34 8 rfl) ?_
          refine lv_iconst (v := 1) hx hb dL_isReadSo_99 (by decide) ?_
          refine lv_iadd hx hb dL_isReadSo_100 ?_
          refine lv_icmp_ne (tgt := 121) hx hb dL_isReadSo_101 (by decide) (fun c => ?_) (fun c => ?_)
          · replace hw := hw.1 c
            refine W.widen (k := (2 + (21 - (n + 1)) * 2 + 2)) (n := (12 + (21 - (n + 1)) * 12 + 12)) (by first | omega | (simp only [zRm]; omega)) (by first | omega | (simp only [zRm]; omega)) ?_
            exact hb_121 x5 x7 _ _ _ ls I (lv_sub hl34 [1, 2, 3, 4, 5, 6, 8] rfl) hw
          · replace hw := hw.2 c
            refine lv_aload_n hx hb dL_isReadSo_104 rfl (lv_at hl34 2 rfl) ?_
            refine lv_iload hx hb dL_isReadSo_105 (lv_at hl34 0 rfl) ?_
            obtain ⟨hrc, hw⟩ := hw
            refine z_callV (PX := fun _ _ => False) C I (as := [.int ((p4 >>> ((x7 - x7 / (7 : Int32) * (7 : Int32)) &&& 31)) &&& (1 : Int32))]) (rest := []) (m_X5_value E hw) kv_L_46 vc_6 hrc rfl rfl hl34.1 (Nat.le_of_ble_eq_true rfl) ⟨Nat.le_of_ble_eq_true rfl, Nat.le_of_ble_eq_true rfl⟩ ⟨(by first | omega | (simp only [zRm]; omega)), (by first | omega | (simp only [zRm]; omega))⟩ dL_isReadSo_107 (fun _ _ _ _ _ _ _ hF => hF.elim) (fun v M37 _ _ I hv => ?_)
            obtain ⟨v38, rfl, hw⟩ := hv
            refine W.eq (g2 := F0 m 110 ls [.int v38]) rfl ?_
            refine lv_iload hx hb dL_isReadSo_110 (lv_at hl34 8 rfl) ?_
            refine lv_iconst (v := 1) hx hb dL_isReadSo_112 (by decide) ?_
            refine lv_iadd hx hb dL_isReadSo_113 ?_
            refine lv_icmp_ne (tgt := 121) hx hb dL_isReadSo_114 (by decide) (fun c => ?_) (fun c => ?_)
            · replace hw := hw.1 c
              refine W.widen (k := (2 + (21 - (n + 1)) * 2 + 2)) (n := (12 + (21 - (n + 1)) * 12 + 12)) (by first | omega | (simp only [zRm]; omega)) (by first | omega | (simp only [zRm]; omega)) ?_
              exact hb_121 x5 x7 _ _ _ ls I (lv_sub hl34 [1, 2, 3, 4, 5, 6, 8] rfl) hw
            · replace hw := hw.2 c
              refine lv_iconst (v := 1) hx hb dL_isReadSo_117 (by decide) ?_
              refine lv_goto (tgt := 122) hx hb dL_isReadSo_118 (by decide) ?_
              refine W.widen (k := (2 + (21 - (n + 1)) * 2 + 2)) (n := (12 + (21 - (n + 1)) * 12 + 12)) (by first | omega | (simp only [zRm]; omega)) (by first | omega | (simp only [zRm]; omega)) ?_
              exact hb_122 x5 x7 (1 : Int32) _ _ _ ls I (lv_sub hl34 [1, 2, 3, 4, 5, 6, 8] rfl) hw
  have hb_62 : ∀ (x5 : Int32) (y0 : Int32) (M : zM) (H : Heap) (locs : List Loc) (ls : Array Slot), zWk X s M H locs → lv_has ls 11 [(0, .ref p0), (1, .ref p1), (2, .int p2), (3, .int p3), (4, .int p4), (5, .int x5)] → w_L_isReadSo_62 p0 p1 p2 p3 p4 P x5 y0 M → W p l e (zRm 105 4877 102 612) s m args below meth c H locs 2 12 (vx_MQ below (zQc X (zPz P)) (zXc X PX) args s 102 612 (zBase X)) (F0 m 62 ls [.int y0]) := by
    intro x5 y0 M H locs ls I hl hw
    unfold w_L_isReadSo_62 at hw
    refine lv_istore (lv' := [(6, .int y0), (0, .ref p0), (1, .ref p1), (2, .int p2), (3, .int p3), (4, .int p4), (5, .int x5)]) hx hb dL_isReadSo_62 hl (by decide) rfl (fun ls hl39 => ?_)
    refine lv_iconst (v := 0) hx hb dL_isReadSo_64 (by decide) ?_
    refine lv_istore (lv' := [(7, .int (0 : Int32)), (6, .int y0), (0, .ref p0), (1, .ref p1), (2, .int p2), (3, .int p3), (4, .int p4), (5, .int x5)]) hx hb dL_isReadSo_65 hl39 (by decide) rfl (fun ls hl40 => ?_)
    refine W.widen (k := 2 + (21 - 21) * 2) (n := 12 + (21 - 21) * 12) (Nat.le_of_ble_eq_true rfl) (Nat.le_of_ble_eq_true rfl) ?_
    exact hb_67 21 (Nat.le_refl _) x5 y0 (0 : Int32) _ _ _ ls I (lv_sub hl40 [2, 3, 4, 5, 6, 7, 1, 0] rfl) hw
  refine lv_aload_n hx hb dL_isReadSo_0 rfl (lv_at hl 0 rfl) ?_
  refine lv_bipush (v := 8) hx hb dL_isReadSo_1 (by decide) ?_
  refine lv_iload_n hx hb dL_isReadSo_3 rfl (lv_at hl 3 rfl) ?_
  refine lv_bipush (v := 6) hx hb dL_isReadSo_4 (by decide) ?_
  refine lv_idiv hx hb dL_isReadSo_6 (by decide) ?_
  refine lv_iload_n hx hb dL_isReadSo_7 rfl (lv_at hl 3 rfl) ?_
  refine lv_bipush (v := 6) hx hb dL_isReadSo_8 (by decide) ?_
  refine lv_irem hx hb dL_isReadSo_10 (by decide) ?_
  refine z_callSX C I (as := [.ref p0, .int (8 : Int32), .int (p3 / (6 : Int32)), .int (p3 - p3 / (6 : Int32) * (6 : Int32))]) (rest := []) (m_L_does_8 E EN hw) kw_L_74 rfl rfl hl.1 (Nat.le_of_ble_eq_true rfl) ⟨Nat.le_of_ble_eq_true rfl, Nat.le_of_ble_eq_true rfl⟩ ⟨Nat.le_of_ble_eq_true rfl, Nat.le_of_ble_eq_true rfl⟩ dL_isReadSo_11 (fun v M41 _ _ I hv => ?_)
  obtain ⟨v42, rfl, hw⟩ := hv
  refine W.eq (g2 := F0 m 14 ls [.int v42]) rfl ?_
  refine lv_istore (lv' := [(5, .int v42), (0, .ref p0), (1, .ref p1), (2, .int p2), (3, .int p3), (4, .int p4)]) hx hb dL_isReadSo_14 hl (by decide) rfl (fun ls hl43 => ?_)
  refine lv_iload hx hb dL_isReadSo_16 (lv_at hl43 0 rfl) ?_
  refine lv_if_ge (tgt := 46) hx hb dL_isReadSo_18 (by decide) (fun c => ?_) (fun c => ?_)
  · replace hw := hw.1 c
    refine lv_aload_n hx hb dL_isReadSo_46 rfl (lv_at hl43 1 rfl) ?_
    obtain ⟨hrc, hw⟩ := hw
    refine z_callV (PX := fun _ _ => False) C I (as := []) (rest := []) (m_X5_clear E hw) kv_L_82 vc_6 hrc rfl rfl hl43.1 (Nat.le_of_ble_eq_true rfl) ⟨Nat.le_of_ble_eq_true rfl, Nat.le_of_ble_eq_true rfl⟩ ⟨Nat.le_of_ble_eq_true rfl, Nat.le_of_ble_eq_true rfl⟩ dL_isReadSo_47 (fun _ _ _ _ _ _ _ hF => hF.elim) (fun v M44 _ _ I hv => ?_)
    obtain ⟨v45, rfl, hw⟩ := hv
    refine W.eq (g2 := F0 m 50 ls [.int v45]) rfl ?_
    refine lv_aload_n hx hb dL_isReadSo_50 rfl (lv_at hl43 2 rfl) ?_
    obtain ⟨hrc, hw⟩ := hw
    refine z_callV (PX := fun _ _ => False) C I (as := []) (rest := [.int v45]) (m_X5_clear E hw) kv_L_82 vc_6 hrc rfl rfl hl43.1 (Nat.le_of_ble_eq_true rfl) ⟨Nat.le_of_ble_eq_true rfl, Nat.le_of_ble_eq_true rfl⟩ ⟨Nat.le_of_ble_eq_true rfl, Nat.le_of_ble_eq_true rfl⟩ dL_isReadSo_51 (fun _ _ _ _ _ _ _ hF => hF.elim) (fun v M46 _ _ I hv => ?_)
    obtain ⟨v47, rfl, hw⟩ := hv
    refine W.eq (g2 := F0 m 54 ls [.int v47, .int v45]) rfl ?_
    refine lv_icmp_ne (tgt := 61) hx hb dL_isReadSo_54 (by decide) (fun c => ?_) (fun c => ?_)
    · replace hw := hw.1 c
      refine lv_iconst (v := 0) hx hb dL_isReadSo_61 (by decide) ?_
      refine W.widen (k := 2) (n := 12) (Nat.le_of_ble_eq_true rfl) (Nat.le_of_ble_eq_true rfl) ?_
      exact hb_62 v42 (0 : Int32) _ _ _ ls I (lv_sub hl43 [1, 2, 3, 4, 5, 0] rfl) hw
    · replace hw := hw.2 c
      refine lv_iconst (v := 1) hx hb dL_isReadSo_57 (by decide) ?_
      refine lv_goto (tgt := 62) hx hb dL_isReadSo_58 (by decide) ?_
      refine W.widen (k := 2) (n := 12) (Nat.le_of_ble_eq_true rfl) (Nat.le_of_ble_eq_true rfl) ?_
      exact hb_62 v42 (1 : Int32) _ _ _ ls I (lv_sub hl43 [1, 2, 3, 4, 5, 0] rfl) hw
  · replace hw := hw.2 c
    refine lv_aload_n hx hb dL_isReadSo_21 rfl (lv_at hl43 2 rfl) ?_
    refine lv_bipush (v := 8) hx hb dL_isReadSo_22 (by decide) ?_
    refine lv_iload_n hx hb dL_isReadSo_24 rfl (lv_at hl43 4 rfl) ?_
    refine lv_bipush (v := 6) hx hb dL_isReadSo_25 (by decide) ?_
    refine lv_idiv hx hb dL_isReadSo_27 (by decide) ?_
    refine lv_iload_n hx hb dL_isReadSo_28 rfl (lv_at hl43 4 rfl) ?_
    refine lv_bipush (v := 6) hx hb dL_isReadSo_29 (by decide) ?_
    refine lv_irem hx hb dL_isReadSo_31 (by decide) ?_
    refine z_callSX C I (as := [.ref p1, .int (8 : Int32), .int (p3 / (6 : Int32)), .int (p3 - p3 / (6 : Int32) * (6 : Int32))]) (rest := []) (m_L_does_8 E EN hw) kw_L_74 rfl rfl hl43.1 (Nat.le_of_ble_eq_true rfl) ⟨Nat.le_of_ble_eq_true rfl, Nat.le_of_ble_eq_true rfl⟩ ⟨Nat.le_of_ble_eq_true rfl, Nat.le_of_ble_eq_true rfl⟩ dL_isReadSo_32 (fun v M48 _ _ I hv => ?_)
    obtain ⟨v49, rfl, hw⟩ := hv
    refine W.eq (g2 := F0 m 35 ls [.int v49]) rfl ?_
    refine lv_iload hx hb dL_isReadSo_35 (lv_at hl43 0 rfl) ?_
    refine lv_icmp_ne (tgt := 44) hx hb dL_isReadSo_37 (by decide) (fun c => ?_) (fun c => ?_)
    · replace hw := hw.1 c
      refine lv_iconst (v := 0) hx hb dL_isReadSo_44 (by decide) ?_
      exact z_zret C I hr (Or.inl rfl) ⟨_, rfl, (Or.inl rfl), hw⟩ (Nat.le_of_ble_eq_true rfl) (Nat.le_of_ble_eq_true rfl) dL_isReadSo_45
    · replace hw := hw.2 c
      refine lv_iconst (v := 1) hx hb dL_isReadSo_40 (by decide) ?_
      refine lv_goto (tgt := 45) hx hb dL_isReadSo_41 (by decide) ?_
      exact z_zret C I hr (Or.inr rfl) ⟨_, rfl, (Or.inr rfl), hw⟩ (Nat.le_of_ble_eq_true rfl) (Nat.le_of_ble_eq_true rfl) dL_isReadSo_45
