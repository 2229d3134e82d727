set_option maxHeartbeats 4000000 in
set_option maxRecDepth 100000 in
theorem m_L_act {X : zX} {l : Launch} (E : zEnv X l) (EN : zNcs X) {M : zM} {p0 : Nat} {p1 : Int32} {p2 : Int32} {P : Int32 → zM → Prop} {PX : Nat → zM → Prop} (hw : w_L_act p0 p1 p2 M P) : zCT X l yL_act cL_act 8 (some .int) 107 4916 9 242 M [.ref p0, .int p1, .int p2] (zPi P) PX := by
  refine z_entry E (by decide) ?_
  intro p e s m args below meth c C hr htab I
  have hx := C.1.1
  have hb := C.1.2.1
  obtain ⟨ls, he, hl⟩ := z_enter (m := m) (n := 8) (vs := [.ref p0, .int p1, .int p2]) (l := [(0, .ref p0), (1, .int p1), (2, .int p2)]) (Nat.le_of_ble_eq_true rfl) rfl
  rw [he]
  clear he
  unfold w_L_act at hw
  have hb_416 : ∀ (y0 : Int32) (y1 : Int32) (y2 : Nat) (M : zM) (H : Heap) (locs : List Loc) (ls : Array Slot), zWk X s M H locs → lv_has ls 8 [] → w_L_act_416 p0 p1 p2 P y0 y1 y2 M → W p l e (zRm 107 4916 9 242) s m args below meth c H locs 0 0 (vx_MQ below (zQc X (zPi P)) (zXc X PX) args s 9 242 (zBase X)) (F0 m 416 ls [.int y0, .int y1, .ref y2]) := by
    intro y0 y1 y2 M H locs ls I hl hw
    unfold w_L_act_416 at hw
    refine lv_iconst (v := 0) hx hb dL_act_416 (by decide) ?_
    refine z_callSX C I (as := [.ref y2, .int y1, .int y0, .int (0 : Int32)]) (rest := []) (m_L_does E EN hw) kw_L_74 rfl rfl hl.1 (Nat.le_of_ble_eq_true rfl) ⟨Nat.le_of_ble_eq_true rfl, Nat.le_of_ble_eq_true rfl⟩ ⟨Nat.le_of_ble_eq_true rfl, Nat.le_of_ble_eq_true rfl⟩ dL_act_417 (fun v M1 _ _ I hv => ?_)
    obtain ⟨v2, rfl, hw⟩ := hv
    refine W.eq (g2 := F0 m 420 ls [.int v2]) rfl ?_
    exact z_iret C I hr ⟨_, rfl, hw⟩ (Nat.le_of_ble_eq_true rfl) (Nat.le_of_ble_eq_true rfl) dL_act_420
  have hb_382 : ∀ (x5 : Int32) (x6 : Int32) (y0 : Int32) (y1 : Nat) (M : zM) (H : Heap) (locs : List Loc) (ls : Array Slot), zWk X s M H locs → lv_has ls 8 [(5, .int x5), (6, .int x6)] → w_L_act_382 p0 p1 p2 P x5 x6 y0 y1 M → W p l e (zRm 107 4916 9 242) s m args below meth c H locs 0 0 (vx_MQ below (zQc X (zPi P)) (zXc X PX) args s 9 242 (zBase X)) (F0 m 382 ls [.int y0, .ref y1]) := by
    intro x5 x6 y0 y1 M H locs ls I hl hw
    unfold w_L_act_382 at hw
    refine lv_iload hx hb dL_act_382 (lv_at hl 0 rfl) ?_
    refine lv_iload hx hb dL_act_384 (lv_at hl 1 rfl) ?_
    refine z_callSX C I (as := [.ref y1, .int y0, .int x5, .int x6]) (rest := []) (m_L_does E EN hw) kw_L_74 rfl rfl hl.1 (Nat.le_of_ble_eq_true rfl) ⟨Nat.le_of_ble_eq_true rfl, Nat.le_of_ble_eq_true rfl⟩ ⟨Nat.le_of_ble_eq_true rfl, Nat.le_of_ble_eq_true rfl⟩ dL_act_386 (fun v M3 _ _ I hv => ?_)
    obtain ⟨v4, rfl, hw⟩ := hv
    refine W.eq (g2 := F0 m 389 ls [.int v4]) rfl ?_
    exact z_iret C I hr ⟨_, rfl, hw⟩ (Nat.le_of_ble_eq_true rfl) (Nat.le_of_ble_eq_true rfl) dL_act_389
  have hb_362 : ∀ (y0 : Int32) (y1 : Int32) (y2 : Int32) (y3 : Nat) (M : zM) (H : Heap) (locs : List Loc) (ls : Array Slot), zWk X s M H locs → lv_has ls 8 [] → w_L_act_362 p0 p1 p2 P y0 y1 y2 y3 M → W p l e (zRm 107 4916 9 242) s m args below meth c H locs 0 0 (vx_MQ below (zQc X (zPi P)) (zXc X PX) args s 9 242 (zBase X)) (F0 m 362 ls [.int y0, .int y1, .int y2, .ref y3]) := by
    intro y0 y1 y2 y3 M H locs ls I hl hw
    unfold w_L_act_362 at hw
    refine z_callSX C I (as := [.ref y3, .int y2, .int y1, .int y0]) (rest := []) (m_L_does E EN hw) kw_L_74 rfl rfl hl.1 (Nat.le_of_ble_eq_true rfl) ⟨Nat.le_of_ble_eq_true rfl, Nat.le_of_ble_eq_true rfl⟩ ⟨Nat.le_of_ble_eq_true rfl, Nat.le_of_ble_eq_true rfl⟩ dL_act_362 (fun v M5 _ _ I hv => ?_)
    obtain ⟨v6, rfl, hw⟩ := hv
    refine W.eq (g2 := F0 m 365 ls [.int v6]) rfl ?_
    refine lv_goto (tgt := 389) hx hb dL_act_365 (by decide) ?_
    exact z_iret C I hr ⟨_, rfl, hw⟩ (Nat.le_of_ble_eq_true rfl) (Nat.le_of_ble_eq_true rfl) dL_act_389
  have hb_334 : ∀ (x3 : Int32) (x5 : Int32) (y0 : Int32) (y1 : Nat) (M : zM) (H : Heap) (locs : List Loc) (ls : Array Slot), zWk X s M H locs → lv_has ls 8 [(1, .int p1), (3, .int x3), (5, .int x5)] → w_L_act_334 p0 p1 p2 P x3 x5 y0 y1 M → W p l e (zRm 107 4916 9 242) s m args below meth c H locs 0 0 (vx_MQ below (zQc X (zPi P)) (zXc X PX) args s 9 242 (zBase X)) (F0 m 334 ls [.int y0, .ref y1]) := by
    intro x3 x5 y0 y1 M H locs ls I hl hw
    unfold w_L_act_334 at hw
    refine lv_iload hx hb dL_act_334 (lv_at hl 2 rfl) ?_
    refine lv_iload_n hx hb dL_act_336 rfl (lv_at hl 1 rfl) ?_
    refine lv_if_eq (tgt := 354) hx hb dL_act_337 (by decide) (fun c => ?_) (fun c => ?_)
    · replace hw := hw.1 c
      refine lv_iload_n hx hb dL_act_354 rfl (lv_at hl 0 rfl) ?_
      refine lv_bipush (v := 9) hx hb dL_act_355 (by decide) ?_
      refine lv_ishr hx hb dL_act_357 ?_
      refine lv_iconst (v := 4) hx hb dL_act_358 (by decide) ?_
      refine z_callS (PX := fun _ _ => False) C I (as := [.int (p1 >>> ((9 : Int32) &&& 31)), .int (4 : Int32)]) (rest := [.int x5, .int y0, .ref y1]) (m_L_low E EN hw) ks_L_66 rfl rfl hl.1 (Nat.le_of_ble_eq_true rfl) ⟨Nat.le_of_ble_eq_true rfl, Nat.le_of_ble_eq_true rfl⟩ ⟨Nat.le_of_ble_eq_true rfl, Nat.le_of_ble_eq_true rfl⟩ dL_act_359 (fun _ _ _ _ _ _ _ hF => hF.elim) (fun v M7 _ _ I hv => ?_)
      obtain ⟨v8, rfl, hw⟩ := hv
      refine W.eq (g2 := F0 m 362 ls [.int v8, .int x5, .int y0, .ref y1]) rfl ?_
      refine W.widen (k := 0) (n := 0) (Nat.le_of_ble_eq_true rfl) (Nat.le_of_ble_eq_true rfl) ?_
      exact hb_362 v8 x5 y0 y1 _ _ _ ls I (lv_sub hl [] rfl) hw
    · replace hw := hw.2 c
      refine lv_iload_n hx hb dL_act_340 rfl (lv_at hl 0 rfl) ?_
      refine lv_bipush (v := 9) hx hb dL_act_341 (by decide) ?_
      refine lv_ishr hx hb dL_act_343 ?_
      refine lv_bipush (v := 6) hx hb dL_act_344 (by decide) ?_
      refine z_callS (PX := fun _ _ => False) C I (as := [.int (p1 >>> ((9 : Int32) &&& 31)), .int (6 : Int32)]) (rest := [.int x5, .int y0, .ref y1]) (m_L_low E EN hw) ks_L_66 rfl rfl hl.1 (Nat.le_of_ble_eq_true rfl) ⟨Nat.le_of_ble_eq_true rfl, Nat.le_of_ble_eq_true rfl⟩ ⟨Nat.le_of_ble_eq_true rfl, Nat.le_of_ble_eq_true rfl⟩ dL_act_346 (fun _ _ _ _ _ _ _ hF => hF.elim) (fun v M9 _ _ I hv => ?_)
      obtain ⟨v10, rfl, hw⟩ := hv
      refine W.eq (g2 := F0 m 349 ls [.int v10, .int x5, .int y0, .ref y1]) rfl ?_
      refine lv_iconst (v := 1) hx hb dL_act_349 (by decide) ?_
      refine lv_isub hx hb dL_act_350 ?_
      refine lv_goto (tgt := 362) hx hb dL_act_351 (by decide) ?_
      refine W.widen (k := 0) (n := 0) (Nat.le_of_ble_eq_true rfl) (Nat.le_of_ble_eq_true rfl) ?_
      exact hb_362 (v10 - (1 : Int32)) x5 y0 y1 _ _ _ ls I (lv_sub hl [] rfl) hw
  have hb_277 : ∀ (y0 : Int32) (y1 : Int32) (y2 : Nat) (M : zM) (H : Heap) (locs : List Loc) (ls : Array Slot), zWk X s M H locs → lv_has ls 8 [] → w_L_act_277 p0 p1 p2 P y0 y1 y2 M → W p l e (zRm 107 4916 9 242) s m args below meth c H locs 0 0 (vx_MQ below (zQc X (zPi P)) (zXc X PX) args s 9 242 (zBase X)) (F0 m 277 ls [.int y0, .int y1, .ref y2]) := by
    intro y0 y1 y2 M H locs ls I hl hw
    unfold w_L_act_277 at hw
    refine lv_iconst (v := 0) hx hb dL_act_277 (by decide) ?_
    refine z_callSX C I (as := [.ref y2, .int y1, .int y0, .int (0 : Int32)]) (rest := []) (m_L_does E EN hw) kw_L_74 rfl rfl hl.1 (Nat.le_of_ble_eq_true rfl) ⟨Nat.le_of_ble_eq_true rfl, Nat.le_of_ble_eq_true rfl⟩ ⟨Nat.le_of_ble_eq_true rfl, Nat.le_of_ble_eq_true rfl⟩ dL_act_278 (fun v M11 _ _ I hv => ?_)
    obtain ⟨v12, rfl, hw⟩ := hv
    refine W.eq (g2 := F0 m 281 ls [.int v12]) rfl ?_
    exact z_iret C I hr ⟨_, rfl, hw⟩ (Nat.le_of_ble_eq_true rfl) (Nat.le_of_ble_eq_true rfl) dL_act_281
  have hb_207 : ∀ (x3 : Int32) (y0 : Int32) (y1 : Int32) (y2 : Int32) (y3 : Nat) (M : zM) (H : Heap) (locs : List Loc) (ls : Array Slot), zWk X s M H locs → lv_has ls 8 [(1, .int p1), (3, .int x3)] → w_L_act_207 p0 p1 p2 P x3 y0 y1 y2 y3 M → W p l e (zRm 107 4916 9 242) s m args below meth c H locs 0 0 (vx_MQ below (zQc X (zPi P)) (zXc X PX) args s 9 242 (zBase X)) (F0 m 207 ls [.int y0, .int y1, .int y2, .ref y3]) := by
    intro x3 y0 y1 y2 y3 M H locs ls I hl hw
    unfold w_L_act_207 at hw
    refine lv_iload_n hx hb dL_act_207 rfl (lv_at hl 1 rfl) ?_
    refine lv_if_eq (tgt := 225) hx hb dL_act_208 (by decide) (fun c => ?_) (fun c => ?_)
    · replace hw := hw.1 c
      refine lv_iload_n hx hb dL_act_225 rfl (lv_at hl 0 rfl) ?_
      refine lv_bipush (v := 15) hx hb dL_act_226 (by decide) ?_
      refine lv_ishr hx hb dL_act_228 ?_
      refine lv_iconst (v := 1) hx hb dL_act_229 (by decide) ?_
      refine lv_iand hx hb dL_act_230 ?_
      refine lv_if_ne (tgt := 238) hx hb dL_act_231 (by decide) (fun c => ?_) (fun c => ?_)
      · replace hw := hw.1 c
        refine lv_iconst (v := 5) hx hb dL_act_238 (by decide) ?_
        refine lv_iload_n hx hb dL_act_239 rfl (lv_at hl 0 rfl) ?_
        refine lv_bipush (v := 13) hx hb dL_act_240 (by decide) ?_
        refine lv_ishr hx hb dL_act_242 ?_
        refine lv_iconst (v := 3) hx hb dL_act_243 (by decide) ?_
        refine z_callS (PX := fun _ _ => False) C I (as := [.int (p1 >>> ((13 : Int32) &&& 31)), .int (3 : Int32)]) (rest := [.int (5 : Int32), .int y0, .int y1, .int y2, .ref y3]) (m_L_low E EN hw) ks_L_66 rfl rfl hl.1 (Nat.le_of_ble_eq_true rfl) ⟨Nat.le_of_ble_eq_true rfl, Nat.le_of_ble_eq_true rfl⟩ ⟨Nat.le_of_ble_eq_true rfl, Nat.le_of_ble_eq_true rfl⟩ dL_act_244 (fun _ _ _ _ _ _ _ hF => hF.elim) (fun v M13 _ _ I hv => ?_)
        obtain ⟨v14, rfl, hw⟩ := hv
        refine W.eq (g2 := F0 m 247 ls [.int v14, .int (5 : Int32), .int y0, .int y1, .int y2, .ref y3]) rfl ?_
        refine lv_iadd hx hb dL_act_247 ?_
        refine z_callSX C I (as := [.ref y3, .int y2, .int y1, .int y0, .int ((5 : Int32) + v14)]) (rest := []) (m_L_field E EN hw) kw_L_71 rfl rfl hl.1 (Nat.le_of_ble_eq_true rfl) ⟨Nat.le_of_ble_eq_true rfl, Nat.le_of_ble_eq_true rfl⟩ ⟨Nat.le_of_ble_eq_true rfl, Nat.le_of_ble_eq_true rfl⟩ dL_act_248 (fun v M15 _ _ I hv => ?_)
        obtain ⟨v16, rfl, hw⟩ := hv
        refine W.eq (g2 := F0 m 251 ls [.int v16]) rfl ?_
        exact z_iret C I hr ⟨_, rfl, hw⟩ (Nat.le_of_ble_eq_true rfl) (Nat.le_of_ble_eq_true rfl) dL_act_251
      · replace hw := hw.2 c
        refine lv_iconst (v := -1) hx hb dL_act_234 (by decide) ?_
        refine lv_goto (tgt := 248) hx hb dL_act_235 (by decide) ?_
        refine z_callSX C I (as := [.ref y3, .int y2, .int y1, .int y0, .int (-1 : Int32)]) (rest := []) (m_L_field E EN hw) kw_L_71 rfl rfl hl.1 (Nat.le_of_ble_eq_true rfl) ⟨Nat.le_of_ble_eq_true rfl, Nat.le_of_ble_eq_true rfl⟩ ⟨Nat.le_of_ble_eq_true rfl, Nat.le_of_ble_eq_true rfl⟩ dL_act_248 (fun v M17 _ _ I hv => ?_)
        obtain ⟨v18, rfl, hw⟩ := hv
        refine W.eq (g2 := F0 m 251 ls [.int v18]) rfl ?_
        exact z_iret C I hr ⟨_, rfl, hw⟩ (Nat.le_of_ble_eq_true rfl) (Nat.le_of_ble_eq_true rfl) dL_act_251
    · replace hw := hw.2 c
      refine lv_iload_n hx hb dL_act_211 rfl (lv_at hl 0 rfl) ?_
      refine lv_bipush (v := 13) hx hb dL_act_212 (by decide) ?_
      refine lv_ishr hx hb dL_act_214 ?_
      refine lv_bipush (v := 14) hx hb dL_act_215 (by decide) ?_
      refine z_callS (PX := fun _ _ => False) C I (as := [.int (p1 >>> ((13 : Int32) &&& 31)), .int (14 : Int32)]) (rest := [.int y0, .int y1, .int y2, .ref y3]) (m_L_low E EN hw) ks_L_66 rfl rfl hl.1 (Nat.le_of_ble_eq_true rfl) ⟨Nat.le_of_ble_eq_true rfl, Nat.le_of_ble_eq_true rfl⟩ ⟨Nat.le_of_ble_eq_true rfl, Nat.le_of_ble_eq_true rfl⟩ dL_act_217 (fun _ _ _ _ _ _ _ hF => hF.elim) (fun v M19 _ _ I hv => ?_)
      obtain ⟨v20, rfl, hw⟩ := hv
      refine W.eq (g2 := F0 m 220 ls [.int v20, .int y0, .int y1, .int y2, .ref y3]) rfl ?_
      refine lv_iconst (v := 2) hx hb dL_act_220 (by decide) ?_
      refine lv_isub hx hb dL_act_221 ?_
      refine lv_goto (tgt := 248) hx hb dL_act_222 (by decide) ?_
      refine z_callSX C I (as := [.ref y3, .int y2, .int y1, .int y0, .int (v20 - (2 : Int32))]) (rest := []) (m_L_field E EN hw) kw_L_71 rfl rfl hl.1 (Nat.le_of_ble_eq_true rfl) ⟨Nat.le_of_ble_eq_true rfl, Nat.le_of_ble_eq_true rfl⟩ ⟨Nat.le_of_ble_eq_true rfl, Nat.le_of_ble_eq_true rfl⟩ dL_act_248 (fun v M21 _ _ I hv => ?_)
      obtain ⟨v22, rfl, hw⟩ := hv
      refine W.eq (g2 := F0 m 251 ls [.int v22]) rfl ?_
      exact z_iret C I hr ⟨_, rfl, hw⟩ (Nat.le_of_ble_eq_true rfl) (Nat.le_of_ble_eq_true rfl) dL_act_251
  have hb_148 : ∀ (x3 : Int32) (x7 : Int32) (y0 : Int32) (y1 : Nat) (M : zM) (H : Heap) (locs : List Loc) (ls : Array Slot), zWk X s M H locs → lv_has ls 8 [(1, .int p1), (3, .int x3), (7, .int x7)] → w_L_act_148 p0 p1 p2 P x3 x7 y0 y1 M → W p l e (zRm 107 4916 9 242) s m args below meth c H locs 0 0 (vx_MQ below (zQc X (zPi P)) (zXc X PX) args s 9 242 (zBase X)) (F0 m 148 ls [.int y0, .ref y1]) := by
    intro x3 x7 y0 y1 M H locs ls I hl hw
    unfold w_L_act_148 at hw
    refine lv_iload hx hb dL_act_148 (lv_at hl 2 rfl) ?_
    refine lv_iload hx hb dL_act_150 (lv_at hl 2 rfl) ?_
    refine lv_iconst (v := 4) hx hb dL_act_152 (by decide) ?_
    refine lv_icmp_ne (tgt := 179) hx hb dL_act_153 (by decide) (fun c => ?_) (fun c => ?_)
    · replace hw := hw.1 c
      refine lv_iload_n hx hb dL_act_179 rfl (lv_at hl 1 rfl) ?_
      refine lv_if_eq (tgt := 197) hx hb dL_act_180 (by decide) (fun c => ?_) (fun c => ?_)
      · replace hw := hw.1 c
        refine lv_iconst (v := 1) hx hb dL_act_197 (by decide) ?_
        refine lv_iload_n hx hb dL_act_198 rfl (lv_at hl 0 rfl) ?_
        refine lv_bipush (v := 11) hx hb dL_act_199 (by decide) ?_
        refine lv_ishr hx hb dL_act_201 ?_
        refine lv_iconst (v := 4) hx hb dL_act_202 (by decide) ?_
        refine z_callS (PX := fun _ _ => False) C I (as := [.int (p1 >>> ((11 : Int32) &&& 31)), .int (4 : Int32)]) (rest := [.int (1 : Int32), .int x7, .int y0, .ref y1]) (m_L_low E EN hw) ks_L_66 rfl rfl hl.1 (Nat.le_of_ble_eq_true rfl) ⟨Nat.le_of_ble_eq_true rfl, Nat.le_of_ble_eq_true rfl⟩ ⟨Nat.le_of_ble_eq_true rfl, Nat.le_of_ble_eq_true rfl⟩ dL_act_203 (fun _ _ _ _ _ _ _ hF => hF.elim) (fun v M23 _ _ I hv => ?_)
        obtain ⟨v24, rfl, hw⟩ := hv
        refine W.eq (g2 := F0 m 206 ls [.int v24, .int (1 : Int32), .int x7, .int y0, .ref y1]) rfl ?_
        refine lv_iadd hx hb dL_act_206 ?_
        refine W.widen (k := 0) (n := 0) (Nat.le_of_ble_eq_true rfl) (Nat.le_of_ble_eq_true rfl) ?_
        exact hb_207 x3 ((1 : Int32) + v24) x7 y0 y1 _ _ _ ls I (lv_sub hl [0, 1] rfl) hw
      · replace hw := hw.2 c
        refine lv_iload_n hx hb dL_act_183 rfl (lv_at hl 0 rfl) ?_
        refine lv_bipush (v := 11) hx hb dL_act_184 (by decide) ?_
        refine lv_ishr hx hb dL_act_186 ?_
        refine lv_bipush (v := 70) hx hb dL_act_187 (by decide) ?_
        refine z_callS (PX := fun _ _ => False) C I (as := [.int (p1 >>> ((11 : Int32) &&& 31)), .int (70 : Int32)]) (rest := [.int x7, .int y0, .ref y1]) (m_L_low E EN hw) ks_L_66 rfl rfl hl.1 (Nat.le_of_ble_eq_true rfl) ⟨Nat.le_of_ble_eq_true rfl, Nat.le_of_ble_eq_true rfl⟩ ⟨Nat.le_of_ble_eq_true rfl, Nat.le_of_ble_eq_true rfl⟩ dL_act_189 (fun _ _ _ _ _ _ _ hF => hF.elim) (fun v M25 _ _ I hv => ?_)
        obtain ⟨v26, rfl, hw⟩ := hv
        refine W.eq (g2 := F0 m 192 ls [.int v26, .int x7, .int y0, .ref y1]) rfl ?_
        refine lv_iconst (v := 5) hx hb dL_act_192 (by decide) ?_
        refine lv_isub hx hb dL_act_193 ?_
        refine lv_goto (tgt := 207) hx hb dL_act_194 (by decide) ?_
        refine W.widen (k := 0) (n := 0) (Nat.le_of_ble_eq_true rfl) (Nat.le_of_ble_eq_true rfl) ?_
        exact hb_207 x3 (v26 - (5 : Int32)) x7 y0 y1 _ _ _ ls I (lv_sub hl [0, 1] rfl) hw
    · replace hw := hw.2 c
      refine lv_bipush (v := 10) hx hb dL_act_156 (by decide) ?_
      refine lv_iload_n hx hb dL_act_158 rfl (lv_at hl 0 rfl) ?_
      refine lv_bipush (v := 11) hx hb dL_act_159 (by decide) ?_
      refine lv_ishr hx hb dL_act_161 ?_
      refine lv_iconst (v := 3) hx hb dL_act_162 (by decide) ?_
      refine z_callS (PX := fun _ _ => False) C I (as := [.int (p1 >>> ((11 : Int32) &&& 31)), .int (3 : Int32)]) (rest := [.int (10 : Int32), .int x7, .int y0, .ref y1]) (m_L_low E EN hw) ks_L_66 rfl rfl hl.1 (Nat.le_of_ble_eq_true rfl) ⟨Nat.le_of_ble_eq_true rfl, Nat.le_of_ble_eq_true rfl⟩ ⟨Nat.le_of_ble_eq_true rfl, Nat.le_of_ble_eq_true rfl⟩ dL_act_163 (fun _ _ _ _ _ _ _ hF => hF.elim) (fun v M27 _ _ I hv => ?_)
      obtain ⟨v28, rfl, hw⟩ := hv
      refine W.eq (g2 := F0 m 166 ls [.int v28, .int (10 : Int32), .int x7, .int y0, .ref y1]) rfl ?_
      refine lv_imul hx hb dL_act_166 ?_
      refine lv_iload_n hx hb dL_act_167 rfl (lv_at hl 0 rfl) ?_
      refine lv_bipush (v := 13) hx hb dL_act_168 (by decide) ?_
      refine lv_ishr hx hb dL_act_170 ?_
      refine lv_iconst (v := 5) hx hb dL_act_171 (by decide) ?_
      refine z_callS (PX := fun _ _ => False) C I (as := [.int (p1 >>> ((13 : Int32) &&& 31)), .int (5 : Int32)]) (rest := [.int ((10 : Int32) * v28), .int x7, .int y0, .ref y1]) (m_L_low E EN hw) ks_L_66 rfl rfl hl.1 (Nat.le_of_ble_eq_true rfl) ⟨Nat.le_of_ble_eq_true rfl, Nat.le_of_ble_eq_true rfl⟩ ⟨Nat.le_of_ble_eq_true rfl, Nat.le_of_ble_eq_true rfl⟩ dL_act_172 (fun _ _ _ _ _ _ _ hF => hF.elim) (fun v M29 _ _ I hv => ?_)
      obtain ⟨v30, rfl, hw⟩ := hv
      refine W.eq (g2 := F0 m 175 ls [.int v30, .int ((10 : Int32) * v28), .int x7, .int y0, .ref y1]) rfl ?_
      refine lv_iadd hx hb dL_act_175 ?_
      refine lv_goto (tgt := 207) hx hb dL_act_176 (by decide) ?_
      refine W.widen (k := 0) (n := 0) (Nat.le_of_ble_eq_true rfl) (Nat.le_of_ble_eq_true rfl) ?_
      exact hb_207 x3 (((10 : Int32) * v28) + v30) x7 y0 y1 _ _ _ ls I (lv_sub hl [0, 1] rfl) hw
  have hb_119 : ∀ (x3 : Int32) (y0 : Int32) (M : zM) (H : Heap) (locs : List Loc) (ls : Array Slot), zWk X s M H locs → lv_has ls 8 [(0, .ref p0), (1, .int p1), (3, .int x3)] → w_L_act_119 p0 p1 p2 P x3 y0 M → W p l e (zRm 107 4916 9 242) s m args below meth c H locs 0 0 (vx_MQ below (zQc X (zPi P)) (zXc X PX) args s 9 242 (zBase X)) (F0 m 119 ls [.int y0]) := by
    intro x3 y0 M H locs ls I hl hw
    unfold w_L_act_119 at hw
    refine lv_istore (lv' := [(7, .int y0), (0, .ref p0), (1, .int p1), (3, .int x3)]) hx hb dL_act_119 hl (by decide) rfl (fun ls hl31 => ?_)
    refine lv_aload_n hx hb dL_act_121 rfl (lv_at hl31 1 rfl) ?_
    refine lv_iload_n hx hb dL_act_122 rfl (lv_at hl31 3 rfl) ?_
    refine lv_if_eq (tgt := 140) hx hb dL_act_123 (by decide) (fun c => ?_) (fun c => ?_)
    · replace hw := hw.1 c
      refine lv_iload_n hx hb dL_act_140 rfl (lv_at hl31 2 rfl) ?_
      refine lv_bipush (v := 6) hx hb dL_act_141 (by decide) ?_
      refine lv_ishr hx hb dL_act_143 ?_
      refine lv_iconst (v := 5) hx hb dL_act_144 (by decide) ?_
      refine z_callS (PX := fun _ _ => False) C I (as := [.int (p1 >>> ((6 : Int32) &&& 31)), .int (5 : Int32)]) (rest := [.ref p0]) (m_L_low E EN hw) ks_L_66 rfl rfl hl31.1 (Nat.le_of_ble_eq_true rfl) ⟨Nat.le_of_ble_eq_true rfl, Nat.le_of_ble_eq_true rfl⟩ ⟨Nat.le_of_ble_eq_true rfl, Nat.le_of_ble_eq_true rfl⟩ dL_act_145 (fun _ _ _ _ _ _ _ hF => hF.elim) (fun v M32 _ _ I hv => ?_)
      obtain ⟨v33, rfl, hw⟩ := hv
      refine W.eq (g2 := F0 m 148 ls [.int v33, .ref p0]) rfl ?_
      refine W.widen (k := 0) (n := 0) (Nat.le_of_ble_eq_true rfl) (Nat.le_of_ble_eq_true rfl) ?_
      exact hb_148 x3 y0 v33 p0 _ _ _ ls I (lv_sub hl31 [2, 3, 0] rfl) hw
    · replace hw := hw.2 c
      refine lv_iload_n hx hb dL_act_126 rfl (lv_at hl31 2 rfl) ?_
      refine lv_bipush (v := 6) hx hb dL_act_127 (by decide) ?_
      refine lv_ishr hx hb dL_act_129 ?_
      refine lv_bipush (v := 13) hx hb dL_act_130 (by decide) ?_
      refine z_callS (PX := fun _ _ => False) C I (as := [.int (p1 >>> ((6 : Int32) &&& 31)), .int (13 : Int32)]) (rest := [.ref p0]) (m_L_low E EN hw) ks_L_66 rfl rfl hl31.1 (Nat.le_of_ble_eq_true rfl) ⟨Nat.le_of_ble_eq_true rfl, Nat.le_of_ble_eq_true rfl⟩ ⟨Nat.le_of_ble_eq_true rfl, Nat.le_of_ble_eq_true rfl⟩ dL_act_132 (fun _ _ _ _ _ _ _ hF => hF.elim) (fun v M34 _ _ I hv => ?_)
      obtain ⟨v35, rfl, hw⟩ := hv
      refine W.eq (g2 := F0 m 135 ls [.int v35, .ref p0]) rfl ?_
      refine lv_iconst (v := 1) hx hb dL_act_135 (by decide) ?_
      refine lv_isub hx hb dL_act_136 ?_
      refine lv_goto (tgt := 148) hx hb dL_act_137 (by decide) ?_
      refine W.widen (k := 0) (n := 0) (Nat.le_of_ble_eq_true rfl) (Nat.le_of_ble_eq_true rfl) ?_
      exact hb_148 x3 y0 (v35 - (1 : Int32)) p0 _ _ _ ls I (lv_sub hl31 [2, 3, 0] rfl) hw
  have hb_81 : ∀ (x3 : Int32) (x4 : Int32) (x5 : Int32) (y0 : Int32) (M : zM) (H : Heap) (locs : List Loc) (ls : Array Slot), zWk X s M H locs → lv_has ls 8 [(0, .ref p0), (1, .int p1), (2, .int p2), (3, .int x3), (4, .int x4), (5, .int x5)] → w_L_act_81 p0 p1 p2 P x3 x4 x5 y0 M → W p l e (zRm 107 4916 9 242) s m args below meth c H locs 0 0 (vx_MQ below (zQc X (zPi P)) (zXc X PX) args s 9 242 (zBase X)) (F0 m 81 ls [.int y0]) := by
    intro x3 x4 x5 y0 M H locs ls I hl hw
    unfold w_L_act_81 at hw
    refine lv_istore (lv' := [(6, .int y0), (0, .ref p0), (1, .int p1), (2, .int p2), (3, .int x3), (4, .int x4), (5, .int x5)]) hx hb dL_act_81 hl (by decide) rfl (fun ls hl36 => ?_)
    refine lv_iload hx hb dL_act_83 (lv_at hl36 5 rfl) ?_
    refine lv_bipush (v := 14) hx hb dL_act_85 (by decide) ?_
    refine lv_icmp_ge (tgt := 252) hx hb dL_act_87 (by decide) (fun c => ?_) (fun c => ?_)
    · replace hw := hw.1 c
      refine lv_iload hx hb dL_act_252 (lv_at hl36 5 rfl) ?_
      refine lv_bipush (v := 18) hx hb dL_act_254 (by decide) ?_
      refine lv_icmp_ge (tgt := 282) hx hb dL_act_256 (by decide) (fun c => ?_) (fun c => ?_)
      · replace hw := hw.1 c
        refine lv_iload hx hb dL_act_282 (lv_at hl36 5 rfl) ?_
        refine lv_bipush (v := 25) hx hb dL_act_284 (by decide) ?_
        refine lv_icmp_ge (tgt := 307) hx hb dL_act_286 (by decide) (fun c => ?_) (fun c => ?_)
        · replace hw := hw.1 c
          refine lv_iload hx hb dL_act_307 (lv_at hl36 5 rfl) ?_
          refine lv_bipush (v := 29) hx hb dL_act_309 (by decide) ?_
          refine lv_icmp_ge (tgt := 390) hx hb dL_act_311 (by decide) (fun c => ?_) (fun c => ?_)
          · replace hw := hw.1 c
            refine lv_iload hx hb dL_act_390 (lv_at hl36 5 rfl) ?_
            refine lv_bipush (v := 32) hx hb dL_act_392 (by decide) ?_
            refine lv_icmp_ge (tgt := 421) hx hb dL_act_394 (by decide) (fun c => ?_) (fun c => ?_)
            · replace hw := hw.1 c
              refine lv_iload hx hb dL_act_421 (lv_at hl36 5 rfl) ?_
              refine lv_bipush (v := 32) hx hb dL_act_423 (by decide) ?_
              refine lv_icmp_ne (tgt := 451) hx hb dL_act_425 (by decide) (fun c => ?_) (fun c => ?_)
              · replace hw := hw.1 c
                refine lv_iload_n hx hb dL_act_451 rfl (lv_at hl36 4 rfl) ?_
                refine lv_if_eq (tgt := 481) hx hb dL_act_452 (by decide) (fun c => ?_) (fun c => ?_)
                · replace hw := hw.1 c
                  refine lv_aload_n hx hb dL_act_481 rfl (lv_at hl36 1 rfl) ?_
                  refine lv_iconst (v := 2) hx hb dL_act_482 (by decide) ?_
                  refine lv_iload_n hx hb dL_act_483 rfl (lv_at hl36 2 rfl) ?_
                  refine lv_bipush (v := 6) hx hb dL_act_484 (by decide) ?_
                  refine lv_ishr hx hb dL_act_486 ?_
                  refine lv_bipush (v := 18) hx hb dL_act_487 (by decide) ?_
                  refine z_callS (PX := fun _ _ => False) C I (as := [.int (p1 >>> ((6 : Int32) &&& 31)), .int (18 : Int32)]) (rest := [.int (2 : Int32), .ref p0]) (m_L_low E EN hw) ks_L_66 rfl rfl hl36.1 (Nat.le_of_ble_eq_true rfl) ⟨Nat.le_of_ble_eq_true rfl, Nat.le_of_ble_eq_true rfl⟩ ⟨Nat.le_of_ble_eq_true rfl, Nat.le_of_ble_eq_true rfl⟩ dL_act_489 (fun _ _ _ _ _ _ _ hF => hF.elim) (fun v M37 _ _ I hv => ?_)
                  obtain ⟨v38, rfl, hw⟩ := hv
                  refine W.eq (g2 := F0 m 492 ls [.int v38, .int (2 : Int32), .ref p0]) rfl ?_
                  refine lv_iload_n hx hb dL_act_492 rfl (lv_at hl36 2 rfl) ?_
                  refine lv_bipush (v := 12) hx hb dL_act_493 (by decide) ?_
                  refine lv_ishr hx hb dL_act_495 ?_
                  refine lv_bipush (v := 18) hx hb dL_act_496 (by decide) ?_
                  refine z_callS (PX := fun _ _ => False) C I (as := [.int (p1 >>> ((12 : Int32) &&& 31)), .int (18 : Int32)]) (rest := [.int v38, .int (2 : Int32), .ref p0]) (m_L_low E EN hw) ks_L_66 rfl rfl hl36.1 (Nat.le_of_ble_eq_true rfl) ⟨Nat.le_of_ble_eq_true rfl, Nat.le_of_ble_eq_true rfl⟩ ⟨Nat.le_of_ble_eq_true rfl, Nat.le_of_ble_eq_true rfl⟩ dL_act_498 (fun _ _ _ _ _ _ _ hF => hF.elim) (fun v M39 _ _ I hv => ?_)
                  obtain ⟨v40, rfl, hw⟩ := hv
                  refine W.eq (g2 := F0 m 501 ls [.int v40, .int v38, .int (2 : Int32), .ref p0]) rfl ?_
                  refine z_callSX C I (as := [.ref p0, .int (2 : Int32), .int v38, .int v40]) (rest := []) (m_L_reads_2 E EN hw) kw_L_85 rfl rfl hl36.1 (Nat.le_of_ble_eq_true rfl) ⟨Nat.le_of_ble_eq_true rfl, Nat.le_of_ble_eq_true rfl⟩ ⟨Nat.le_of_ble_eq_true rfl, Nat.le_of_ble_eq_true rfl⟩ dL_act_501 (fun v M41 _ _ I hv => ?_)
                  obtain ⟨v42, rfl, hw⟩ := hv
                  refine W.eq (g2 := F0 m 504 ls [.int v42]) rfl ?_
                  exact z_iret C I hr ⟨_, rfl, hw⟩ (Nat.le_of_ble_eq_true rfl) (Nat.le_of_ble_eq_true rfl) dL_act_504
                · replace hw := hw.2 c
                  refine lv_aload_n hx hb dL_act_455 rfl (lv_at hl36 1 rfl) ?_
                  refine lv_iconst (v := 2) hx hb dL_act_456 (by decide) ?_
                  refine lv_iload_n hx hb dL_act_457 rfl (lv_at hl36 2 rfl) ?_
                  refine lv_bipush (v := 6) hx hb dL_act_458 (by decide) ?_
                  refine lv_ishr hx hb dL_act_460 ?_
                  refine lv_bipush (v := 40) hx hb dL_act_461 (by decide) ?_
                  refine z_callS (PX := fun _ _ => False) C I (as := [.int (p1 >>> ((6 : Int32) &&& 31)), .int (40 : Int32)]) (rest := [.int (2 : Int32), .ref p0]) (m_L_low E EN hw) ks_L_66 rfl rfl hl36.1 (Nat.le_of_ble_eq_true rfl) ⟨Nat.le_of_ble_eq_true rfl, Nat.le_of_ble_eq_true rfl⟩ ⟨Nat.le_of_ble_eq_true rfl, Nat.le_of_ble_eq_true rfl⟩ dL_act_463 (fun _ _ _ _ _ _ _ hF => hF.elim) (fun v M43 _ _ I hv => ?_)
                  obtain ⟨v44, rfl, hw⟩ := hv
                  refine W.eq (g2 := F0 m 466 ls [.int v44, .int (2 : Int32), .ref p0]) rfl ?_
                  refine lv_iload_n hx hb dL_act_466 rfl (lv_at hl36 2 rfl) ?_
                  refine lv_bipush (v := 12) hx hb dL_act_467 (by decide) ?_
                  refine lv_ishr hx hb dL_act_469 ?_
                  refine lv_bipush (v := 40) hx hb dL_act_470 (by decide) ?_
                  refine z_callS (PX := fun _ _ => False) C I (as := [.int (p1 >>> ((12 : Int32) &&& 31)), .int (40 : Int32)]) (rest := [.int v44, .int (2 : Int32), .ref p0]) (m_L_low E EN hw) ks_L_66 rfl rfl hl36.1 (Nat.le_of_ble_eq_true rfl) ⟨Nat.le_of_ble_eq_true rfl, Nat.le_of_ble_eq_true rfl⟩ ⟨Nat.le_of_ble_eq_true rfl, Nat.le_of_ble_eq_true rfl⟩ dL_act_472 (fun _ _ _ _ _ _ _ hF => hF.elim) (fun v M45 _ _ I hv => ?_)
                  obtain ⟨v46, rfl, hw⟩ := hv
                  refine W.eq (g2 := F0 m 475 ls [.int v46, .int v44, .int (2 : Int32), .ref p0]) rfl ?_
                  refine z_callSX C I (as := [.ref p0, .int (2 : Int32), .int v44, .int v46]) (rest := []) (m_L_reads_2 E EN hw) kw_L_85 rfl rfl hl36.1 (Nat.le_of_ble_eq_true rfl) ⟨Nat.le_of_ble_eq_true rfl, Nat.le_of_ble_eq_true rfl⟩ ⟨Nat.le_of_ble_eq_true rfl, Nat.le_of_ble_eq_true rfl⟩ dL_act_475 (fun v M47 _ _ I hv => ?_)
                  obtain ⟨v48, rfl, hw⟩ := hv
                  refine W.eq (g2 := F0 m 478 ls [.int v48]) rfl ?_
                  refine lv_goto (tgt := 504) hx hb dL_act_478 (by decide) ?_
                  exact z_iret C I hr ⟨_, rfl, hw⟩ (Nat.le_of_ble_eq_true rfl) (Nat.le_of_ble_eq_true rfl) dL_act_504
              · replace hw := hw.2 c
                refine lv_iload_n hx hb dL_act_428 rfl (lv_at hl36 2 rfl) ?_
                refine lv_bipush (v := 8) hx hb dL_act_429 (by decide) ?_
                refine lv_ishr hx hb dL_act_431 ?_
                refine lv_iconst (v := 3) hx hb dL_act_432 (by decide) ?_
                refine lv_iand hx hb dL_act_433 ?_
                refine lv_if_ne (tgt := 444) hx hb dL_act_434 (by decide) (fun c => ?_) (fun c => ?_)
                · replace hw := hw.1 c
                  refine lv_aload_n hx hb dL_act_444 rfl (lv_at hl36 1 rfl) ?_
                  obtain ⟨hrc, hw⟩ := hw
                  refine z_callV (PX := fun _ _ => False) C I (as := []) (rest := []) (m_X5_clear E hw) kv_L_82 vc_6 hrc rfl rfl hl36.1 (Nat.le_of_ble_eq_true rfl) ⟨Nat.le_of_ble_eq_true rfl, Nat.le_of_ble_eq_true rfl⟩ ⟨Nat.le_of_ble_eq_true rfl, Nat.le_of_ble_eq_true rfl⟩ dL_act_445 (fun _ _ _ _ _ _ _ hF => hF.elim) (fun v M49 _ _ I hv => ?_)
                  obtain ⟨v50, rfl, hw⟩ := hv
                  refine W.eq (g2 := F0 m 448 ls [.int v50]) rfl ?_
                  refine lv_goto (tgt := 504) hx hb dL_act_448 (by decide) ?_
                  exact z_iret C I hr ⟨_, rfl, hw⟩ (Nat.le_of_ble_eq_true rfl) (Nat.le_of_ble_eq_true rfl) dL_act_504
                · replace hw := hw.2 c
                  refine lv_aload_n hx hb dL_act_437 rfl (lv_at hl36 1 rfl) ?_
                  obtain ⟨hrc, hw⟩ := hw
                  refine z_callV (PX := fun _ _ => False) C I (as := []) (rest := []) (m_X5_discard E hw) kv_L_78 vc_6 hrc rfl rfl hl36.1 (Nat.le_of_ble_eq_true rfl) ⟨Nat.le_of_ble_eq_true rfl, Nat.le_of_ble_eq_true rfl⟩ ⟨Nat.le_of_ble_eq_true rfl, Nat.le_of_ble_eq_true rfl⟩ dL_act_438 (fun _ _ _ _ _ _ _ hF => hF.elim) (fun v M51 _ _ I hv => ?_)
                  obtain ⟨v52, rfl, hw⟩ := hv
                  refine W.eq (g2 := F0 m 441 ls [.int v52]) rfl ?_
                  refine lv_goto (tgt := 504) hx hb dL_act_441 (by decide) ?_
                  exact z_iret C I hr ⟨_, rfl, hw⟩ (Nat.le_of_ble_eq_true rfl) (Nat.le_of_ble_eq_true rfl) dL_act_504
            · replace hw := hw.2 c
              refine lv_aload_n hx hb dL_act_397 rfl (lv_at hl36 1 rfl) ?_
              refine lv_bipush (v := 9) hx hb dL_act_398 (by decide) ?_
              refine lv_iload_n hx hb dL_act_400 rfl (lv_at hl36 4 rfl) ?_
              refine lv_if_eq (tgt := 408) hx hb dL_act_401 (by decide) (fun c => ?_) (fun c => ?_)
              · replace hw := hw.1 c
                refine lv_iload_n hx hb dL_act_408 rfl (lv_at hl36 2 rfl) ?_
                refine lv_bipush (v := 6) hx hb dL_act_409 (by decide) ?_
                refine lv_ishr hx hb dL_act_411 ?_
                refine lv_iconst (v := 3) hx hb dL_act_412 (by decide) ?_
                refine z_callS (PX := fun _ _ => False) C I (as := [.int (p1 >>> ((6 : Int32) &&& 31)), .int (3 : Int32)]) (rest := [.int (9 : Int32), .ref p0]) (m_L_low E EN hw) ks_L_66 rfl rfl hl36.1 (Nat.le_of_ble_eq_true rfl) ⟨Nat.le_of_ble_eq_true rfl, Nat.le_of_ble_eq_true rfl⟩ ⟨Nat.le_of_ble_eq_true rfl, Nat.le_of_ble_eq_true rfl⟩ dL_act_413 (fun _ _ _ _ _ _ _ hF => hF.elim) (fun v M53 _ _ I hv => ?_)
                obtain ⟨v54, rfl, hw⟩ := hv
                refine W.eq (g2 := F0 m 416 ls [.int v54, .int (9 : Int32), .ref p0]) rfl ?_
                refine W.widen (k := 0) (n := 0) (Nat.le_of_ble_eq_true rfl) (Nat.le_of_ble_eq_true rfl) ?_
                exact hb_416 v54 (9 : Int32) p0 _ _ _ ls I (lv_sub hl36 [] rfl) hw
              · replace hw := hw.2 c
                refine lv_iload_n hx hb dL_act_404 rfl (lv_at hl36 2 rfl) ?_
                refine lv_goto (tgt := 416) hx hb dL_act_405 (by decide) ?_
                refine W.widen (k := 0) (n := 0) (Nat.le_of_ble_eq_true rfl) (Nat.le_of_ble_eq_true rfl) ?_
                exact hb_416 p1 (9 : Int32) p0 _ _ _ ls I (lv_sub hl36 [] rfl) hw
          · replace hw := hw.2 c
            refine lv_iload hx hb dL_act_314 (lv_at hl36 5 rfl) ?_
            refine lv_bipush (v := 27) hx hb dL_act_316 (by decide) ?_
            refine lv_icmp_ge (tgt := 368) hx hb dL_act_318 (by decide) (fun c => ?_) (fun c => ?_)
            · replace hw := hw.1 c
              refine lv_aload_n hx hb dL_act_368 rfl (lv_at hl36 1 rfl) ?_
              refine lv_iload hx hb dL_act_369 (lv_at hl36 5 rfl) ?_
              refine lv_bipush (v := 27) hx hb dL_act_371 (by decide) ?_
              refine lv_icmp_ne (tgt := 380) hx hb dL_act_373 (by decide) (fun c => ?_) (fun c => ?_)
              · replace hw := hw.1 c
                refine lv_bipush (v := 6) hx hb dL_act_380 (by decide) ?_
                refine W.widen (k := 0) (n := 0) (Nat.le_of_ble_eq_true rfl) (Nat.le_of_ble_eq_true rfl) ?_
                exact hb_382 x5 y0 (6 : Int32) p0 _ _ _ ls I (lv_sub hl36 [6, 0] rfl) hw
              · replace hw := hw.2 c
                refine lv_iconst (v := 5) hx hb dL_act_376 (by decide) ?_
                refine lv_goto (tgt := 382) hx hb dL_act_377 (by decide) ?_
                refine W.widen (k := 0) (n := 0) (Nat.le_of_ble_eq_true rfl) (Nat.le_of_ble_eq_true rfl) ?_
                exact hb_382 x5 y0 (5 : Int32) p0 _ _ _ ls I (lv_sub hl36 [6, 0] rfl) hw
            · replace hw := hw.2 c
              refine lv_aload_n hx hb dL_act_321 rfl (lv_at hl36 1 rfl) ?_
              refine lv_iload hx hb dL_act_322 (lv_at hl36 5 rfl) ?_
              refine lv_bipush (v := 25) hx hb dL_act_324 (by decide) ?_
              refine lv_icmp_ne (tgt := 333) hx hb dL_act_326 (by decide) (fun c => ?_) (fun c => ?_)
              · replace hw := hw.1 c
                refine lv_iconst (v := 4) hx hb dL_act_333 (by decide) ?_
                refine W.widen (k := 0) (n := 0) (Nat.le_of_ble_eq_true rfl) (Nat.le_of_ble_eq_true rfl) ?_
                exact hb_334 x3 x5 (4 : Int32) p0 _ _ _ ls I (lv_sub hl36 [2, 4, 6] rfl) hw
              · replace hw := hw.2 c
                refine lv_iconst (v := 3) hx hb dL_act_329 (by decide) ?_
                refine lv_goto (tgt := 334) hx hb dL_act_330 (by decide) ?_
                refine W.widen (k := 0) (n := 0) (Nat.le_of_ble_eq_true rfl) (Nat.le_of_ble_eq_true rfl) ?_
                exact hb_334 x3 x5 (3 : Int32) p0 _ _ _ ls I (lv_sub hl36 [2, 4, 6] rfl) hw
        · replace hw := hw.2 c
          refine lv_iload_n hx hb dL_act_289 rfl (lv_at hl36 3 rfl) ?_
          refine lv_if_eq (tgt := 304) hx hb dL_act_290 (by decide) (fun c => ?_) (fun c => ?_)
          · replace hw := hw.1 c
            refine lv_iload hx hb dL_act_304 (lv_at hl36 6 rfl) ?_
            exact z_iret C I hr ⟨_, rfl, hw⟩ (Nat.le_of_ble_eq_true rfl) (Nat.le_of_ble_eq_true rfl) dL_act_306
          · replace hw := hw.2 c
            refine lv_aload_n hx hb dL_act_293 rfl (lv_at hl36 1 rfl) ?_
            refine lv_iconst (v := 2) hx hb dL_act_294 (by decide) ?_
            refine lv_iload hx hb dL_act_295 (lv_at hl36 6 rfl) ?_
            refine lv_iconst (v := 0) hx hb dL_act_297 (by decide) ?_
            refine z_callSX C I (as := [.ref p0, .int (2 : Int32), .int x5, .int (0 : Int32)]) (rest := []) (m_L_does E EN hw) kw_L_74 rfl rfl hl36.1 (Nat.le_of_ble_eq_true rfl) ⟨Nat.le_of_ble_eq_true rfl, Nat.le_of_ble_eq_true rfl⟩ ⟨Nat.le_of_ble_eq_true rfl, Nat.le_of_ble_eq_true rfl⟩ dL_act_298 (fun v M55 _ _ I hv => ?_)
            obtain ⟨v56, rfl, hw⟩ := hv
            refine W.eq (g2 := F0 m 301 ls [.int v56]) rfl ?_
            refine lv_goto (tgt := 306) hx hb dL_act_301 (by decide) ?_
            exact z_iret C I hr ⟨_, rfl, hw⟩ (Nat.le_of_ble_eq_true rfl) (Nat.le_of_ble_eq_true rfl) dL_act_306
      · replace hw := hw.2 c
        refine lv_aload_n hx hb dL_act_259 rfl (lv_at hl36 1 rfl) ?_
        refine lv_iconst (v := 0) hx hb dL_act_260 (by decide) ?_
        refine lv_iload_n hx hb dL_act_261 rfl (lv_at hl36 4 rfl) ?_
        refine lv_if_eq (tgt := 269) hx hb dL_act_262 (by decide) (fun c => ?_) (fun c => ?_)
        · replace hw := hw.1 c
          refine lv_iload_n hx hb dL_act_269 rfl (lv_at hl36 2 rfl) ?_
          refine lv_bipush (v := 6) hx hb dL_act_270 (by decide) ?_
          refine lv_ishr hx hb dL_act_272 ?_
          refine lv_iconst (v := 3) hx hb dL_act_273 (by decide) ?_
          refine z_callS (PX := fun _ _ => False) C I (as := [.int (p1 >>> ((6 : Int32) &&& 31)), .int (3 : Int32)]) (rest := [.int (0 : Int32), .ref p0]) (m_L_low E EN hw) ks_L_66 rfl rfl hl36.1 (Nat.le_of_ble_eq_true rfl) ⟨Nat.le_of_ble_eq_true rfl, Nat.le_of_ble_eq_true rfl⟩ ⟨Nat.le_of_ble_eq_true rfl, Nat.le_of_ble_eq_true rfl⟩ dL_act_274 (fun _ _ _ _ _ _ _ hF => hF.elim) (fun v M57 _ _ I hv => ?_)
          obtain ⟨v58, rfl, hw⟩ := hv
          refine W.eq (g2 := F0 m 277 ls [.int v58, .int (0 : Int32), .ref p0]) rfl ?_
          refine W.widen (k := 0) (n := 0) (Nat.le_of_ble_eq_true rfl) (Nat.le_of_ble_eq_true rfl) ?_
          exact hb_277 v58 (0 : Int32) p0 _ _ _ ls I (lv_sub hl36 [] rfl) hw
        · replace hw := hw.2 c
          refine lv_iload_n hx hb dL_act_265 rfl (lv_at hl36 2 rfl) ?_
          refine lv_goto (tgt := 277) hx hb dL_act_266 (by decide) ?_
          refine W.widen (k := 0) (n := 0) (Nat.le_of_ble_eq_true rfl) (Nat.le_of_ble_eq_true rfl) ?_
          exact hb_277 p1 (0 : Int32) p0 _ _ _ ls I (lv_sub hl36 [] rfl) hw
    · replace hw := hw.2 c
      refine lv_iload_n hx hb dL_act_90 rfl (lv_at hl36 4 rfl) ?_
      refine lv_if_eq (tgt := 108) hx hb dL_act_91 (by decide) (fun c => ?_) (fun c => ?_)
      · replace hw := hw.1 c
        refine lv_iload_n hx hb dL_act_108 rfl (lv_at hl36 2 rfl) ?_
        refine lv_bipush (v := 8) hx hb dL_act_109 (by decide) ?_
        refine lv_ishr hx hb dL_act_111 ?_
        refine lv_bipush (v := 11) hx hb dL_act_112 (by decide) ?_
        refine z_callS (PX := fun _ _ => False) C I (as := [.int (p1 >>> ((8 : Int32) &&& 31)), .int (11 : Int32)]) (rest := []) (m_L_low E EN hw) ks_L_66 rfl rfl hl36.1 (Nat.le_of_ble_eq_true rfl) ⟨Nat.le_of_ble_eq_true rfl, Nat.le_of_ble_eq_true rfl⟩ ⟨Nat.le_of_ble_eq_true rfl, Nat.le_of_ble_eq_true rfl⟩ dL_act_114 (fun _ _ _ _ _ _ _ hF => hF.elim) (fun v M59 _ _ I hv => ?_)
        obtain ⟨v60, rfl, hw⟩ := hv
        refine W.eq (g2 := F0 m 117 ls [.int v60]) rfl ?_
        refine lv_iconst (v := 5) hx hb dL_act_117 (by decide) ?_
        refine lv_irem hx hb dL_act_118 (by decide) ?_
        refine W.widen (k := 0) (n := 0) (Nat.le_of_ble_eq_true rfl) (Nat.le_of_ble_eq_true rfl) ?_
        exact hb_119 x3 (v60 - v60 / (5 : Int32) * (5 : Int32)) _ _ _ ls I (lv_sub hl36 [1, 2, 4] rfl) hw
      · replace hw := hw.2 c
        refine lv_iload_n hx hb dL_act_94 rfl (lv_at hl36 2 rfl) ?_
        refine lv_bipush (v := 8) hx hb dL_act_95 (by decide) ?_
        refine lv_ishr hx hb dL_act_97 ?_
        refine lv_bipush (v := 7) hx hb dL_act_98 (by decide) ?_
        refine z_callS (PX := fun _ _ => False) C I (as := [.int (p1 >>> ((8 : Int32) &&& 31)), .int (7 : Int32)]) (rest := []) (m_L_low E EN hw) ks_L_66 rfl rfl hl36.1 (Nat.le_of_ble_eq_true rfl) ⟨Nat.le_of_ble_eq_true rfl, Nat.le_of_ble_eq_true rfl⟩ ⟨Nat.le_of_ble_eq_true rfl, Nat.le_of_ble_eq_true rfl⟩ dL_act_100 (fun _ _ _ _ _ _ _ hF => hF.elim) (fun v M61 _ _ I hv => ?_)
        obtain ⟨v62, rfl, hw⟩ := hv
        refine W.eq (g2 := F0 m 103 ls [.int v62]) rfl ?_
        refine lv_iconst (v := 1) hx hb dL_act_103 (by decide) ?_
        refine lv_isub hx hb dL_act_104 ?_
        refine lv_goto (tgt := 119) hx hb dL_act_105 (by decide) ?_
        refine W.widen (k := 0) (n := 0) (Nat.le_of_ble_eq_true rfl) (Nat.le_of_ble_eq_true rfl) ?_
        exact hb_119 x3 (v62 - (1 : Int32)) _ _ _ ls I (lv_sub hl36 [1, 2, 4] rfl) hw
  have hb_52 : ∀ (x3 : Int32) (x4 : Int32) (y0 : Int32) (M : zM) (H : Heap) (locs : List Loc) (ls : Array Slot), zWk X s M H locs → lv_has ls 8 [(0, .ref p0), (1, .int p1), (2, .int p2), (3, .int x3), (4, .int x4)] → w_L_act_52 p0 p1 p2 P x3 x4 y0 M → W p l e (zRm 107 4916 9 242) s m args below meth c H locs 0 0 (vx_MQ below (zQc X (zPi P)) (zXc X PX) args s 9 242 (zBase X)) (F0 m 52 ls [.int y0]) := by
    intro x3 x4 y0 M H locs ls I hl hw
    unfold w_L_act_52 at hw
    refine lv_istore (lv' := [(5, .int y0), (0, .ref p0), (1, .int p1), (2, .int p2), (3, .int x3), (4, .int x4)]) hx hb dL_act_52 hl (by decide) rfl (fun ls hl63 => ?_)
    refine lv_iload_n hx hb dL_act_54 rfl (lv_at hl63 4 rfl) ?_
    refine lv_if_eq (tgt := 72) hx hb dL_act_55 (by decide) (fun c => ?_) (fun c => ?_)
    · replace hw := hw.1 c
      refine lv_iload_n hx hb dL_act_72 rfl (lv_at hl63 2 rfl) ?_
      refine lv_bipush (v := 9) hx hb dL_act_73 (by decide) ?_
      refine lv_ishr hx hb dL_act_75 ?_
      refine lv_bipush (v := 6) hx hb dL_act_76 (by decide) ?_
      refine z_callS (PX := fun _ _ => False) C I (as := [.int (p1 >>> ((9 : Int32) &&& 31)), .int (6 : Int32)]) (rest := []) (m_L_low E EN hw) ks_L_66 rfl rfl hl63.1 (Nat.le_of_ble_eq_true rfl) ⟨Nat.le_of_ble_eq_true rfl, Nat.le_of_ble_eq_true rfl⟩ ⟨Nat.le_of_ble_eq_true rfl, Nat.le_of_ble_eq_true rfl⟩ dL_act_78 (fun _ _ _ _ _ _ _ hF => hF.elim) (fun v M64 _ _ I hv => ?_)
      obtain ⟨v65, rfl, hw⟩ := hv
      refine W.eq (g2 := F0 m 81 ls [.int v65]) rfl ?_
      refine W.widen (k := 0) (n := 0) (Nat.le_of_ble_eq_true rfl) (Nat.le_of_ble_eq_true rfl) ?_
      exact hb_81 x3 x4 y0 v65 _ _ _ ls I (lv_sub hl63 [1, 2, 3, 4, 5, 0] rfl) hw
    · replace hw := hw.2 c
      refine lv_iload_n hx hb dL_act_58 rfl (lv_at hl63 2 rfl) ?_
      refine lv_bipush (v := 9) hx hb dL_act_59 (by decide) ?_
      refine lv_ishr hx hb dL_act_61 ?_
      refine lv_bipush (v := 9) hx hb dL_act_62 (by decide) ?_
      refine z_callS (PX := fun _ _ => False) C I (as := [.int (p1 >>> ((9 : Int32) &&& 31)), .int (9 : Int32)]) (rest := []) (m_L_low E EN hw) ks_L_66 rfl rfl hl63.1 (Nat.le_of_ble_eq_true rfl) ⟨Nat.le_of_ble_eq_true rfl, Nat.le_of_ble_eq_true rfl⟩ ⟨Nat.le_of_ble_eq_true rfl, Nat.le_of_ble_eq_true rfl⟩ dL_act_64 (fun _ _ _ _ _ _ _ hF => hF.elim) (fun v M66 _ _ I hv => ?_)
      obtain ⟨v67, rfl, hw⟩ := hv
      refine W.eq (g2 := F0 m 67 ls [.int v67]) rfl ?_
      refine lv_iconst (v := 1) hx hb dL_act_67 (by decide) ?_
      refine lv_isub hx hb dL_act_68 ?_
      refine lv_goto (tgt := 81) hx hb dL_act_69 (by decide) ?_
      refine W.widen (k := 0) (n := 0) (Nat.le_of_ble_eq_true rfl) (Nat.le_of_ble_eq_true rfl) ?_
      exact hb_81 x3 x4 y0 (v67 - (1 : Int32)) _ _ _ ls I (lv_sub hl63 [1, 2, 3, 4, 5, 0] rfl) hw
  have hb_17 : ∀ (y0 : Int32) (M : zM) (H : Heap) (locs : List Loc) (ls : Array Slot), zWk X s M H locs → lv_has ls 8 [(0, .ref p0), (1, .int p1), (2, .int p2)] → w_L_act_17 p0 p1 p2 P y0 M → W p l e (zRm 107 4916 9 242) s m args below meth c H locs 0 0 (vx_MQ below (zQc X (zPi P)) (zXc X PX) args s 9 242 (zBase X)) (F0 m 17 ls [.int y0]) := by
    intro y0 M H locs ls I hl hw
    unfold w_L_act_17 at hw
    refine lv_istore_n (lv' := [(3, .int y0), (0, .ref p0), (1, .int p1), (2, .int p2)]) hx hb dL_act_17 rfl hl (by decide) rfl (fun ls hl68 => ?_)
    refine lv_iload_n hx hb dL_act_18 rfl (lv_at hl68 2 rfl) ?_
    refine lv_bipush (v := 36) hx hb dL_act_19 (by decide) ?_
    refine z_callS (PX := fun _ _ => False) C I (as := [.int p1, .int (36 : Int32)]) (rest := []) (m_L_low E EN hw) ks_L_66 rfl rfl hl68.1 (Nat.le_of_ble_eq_true rfl) ⟨Nat.le_of_ble_eq_true rfl, Nat.le_of_ble_eq_true rfl⟩ ⟨Nat.le_of_ble_eq_true rfl, Nat.le_of_ble_eq_true rfl⟩ dL_act_21 (fun _ _ _ _ _ _ _ hF => hF.elim) (fun v M69 _ _ I hv => ?_)
    obtain ⟨v70, rfl, hw⟩ := hv
    refine W.eq (g2 := F0 m 24 ls [.int v70]) rfl ?_
    refine lv_istore (lv' := [(4, .int v70), (3, .int y0), (0, .ref p0), (1, .int p1), (2, .int p2)]) hx hb dL_act_24 hl68 (by decide) rfl (fun ls hl71 => ?_)
    refine lv_iload_n hx hb dL_act_26 rfl (lv_at hl71 1 rfl) ?_
    refine lv_if_eq (tgt := 44) hx hb dL_act_27 (by decide) (fun c => ?_) (fun c => ?_)
    · replace hw := hw.1 c
      refine lv_iload_n hx hb dL_act_44 rfl (lv_at hl71 3 rfl) ?_
      refine lv_bipush (v := 6) hx hb dL_act_45 (by decide) ?_
      refine lv_ishr hx hb dL_act_47 ?_
      refine lv_iconst (v := 3) hx hb dL_act_48 (by decide) ?_
      refine z_callS (PX := fun _ _ => False) C I (as := [.int (p1 >>> ((6 : Int32) &&& 31)), .int (3 : Int32)]) (rest := []) (m_L_low E EN hw) ks_L_66 rfl rfl hl71.1 (Nat.le_of_ble_eq_true rfl) ⟨Nat.le_of_ble_eq_true rfl, Nat.le_of_ble_eq_true rfl⟩ ⟨Nat.le_of_ble_eq_true rfl, Nat.le_of_ble_eq_true rfl⟩ dL_act_49 (fun _ _ _ _ _ _ _ hF => hF.elim) (fun v M72 _ _ I hv => ?_)
      obtain ⟨v73, rfl, hw⟩ := hv
      refine W.eq (g2 := F0 m 52 ls [.int v73]) rfl ?_
      refine W.widen (k := 0) (n := 0) (Nat.le_of_ble_eq_true rfl) (Nat.le_of_ble_eq_true rfl) ?_
      exact hb_52 y0 v70 v73 _ _ _ ls I (lv_sub hl71 [2, 3, 4, 1, 0] rfl) hw
    · replace hw := hw.2 c
      refine lv_iload_n hx hb dL_act_30 rfl (lv_at hl71 3 rfl) ?_
      refine lv_bipush (v := 6) hx hb dL_act_31 (by decide) ?_
      refine lv_ishr hx hb dL_act_33 ?_
      refine lv_bipush (v := 8) hx hb dL_act_34 (by decide) ?_
      refine z_callS (PX := fun _ _ => False) C I (as := [.int (p1 >>> ((6 : Int32) &&& 31)), .int (8 : Int32)]) (rest := []) (m_L_low E EN hw) ks_L_66 rfl rfl hl71.1 (Nat.le_of_ble_eq_true rfl) ⟨Nat.le_of_ble_eq_true rfl, Nat.le_of_ble_eq_true rfl⟩ ⟨Nat.le_of_ble_eq_true rfl, Nat.le_of_ble_eq_true rfl⟩ dL_act_36 (fun _ _ _ _ _ _ _ hF => hF.elim) (fun v M74 _ _ I hv => ?_)
      obtain ⟨v75, rfl, hw⟩ := hv
      refine W.eq (g2 := F0 m 39 ls [.int v75]) rfl ?_
      refine lv_iconst (v := 1) hx hb dL_act_39 (by decide) ?_
      refine lv_isub hx hb dL_act_40 ?_
      refine lv_goto (tgt := 52) hx hb dL_act_41 (by decide) ?_
      refine W.widen (k := 0) (n := 0) (Nat.le_of_ble_eq_true rfl) (Nat.le_of_ble_eq_true rfl) ?_
      exact hb_52 y0 v70 (v75 - (1 : Int32)) _ _ _ ls I (lv_sub hl71 [2, 3, 4, 1, 0] rfl) hw
  refine lv_iload_n hx hb dL_act_0 rfl (lv_at hl 1 rfl) ?_
  refine lv_bipush (v := 24) hx hb dL_act_1 (by decide) ?_
  refine lv_ishr hx hb dL_act_3 ?_
  refine lv_bipush (v := 8) hx hb dL_act_4 (by decide) ?_
  refine z_callS (PX := fun _ _ => False) C I (as := [.int (p1 >>> ((24 : Int32) &&& 31)), .int (8 : Int32)]) (rest := []) (m_L_low E EN hw) ks_L_66 rfl rfl hl.1 (Nat.le_of_ble_eq_true rfl) ⟨Nat.le_of_ble_eq_true rfl, Nat.le_of_ble_eq_true rfl⟩ ⟨Nat.le_of_ble_eq_true rfl, Nat.le_of_ble_eq_true rfl⟩ dL_act_6 (fun _ _ _ _ _ _ _ hF => hF.elim) (fun v M76 _ _ I hv => ?_)
  obtain ⟨v77, rfl, hw⟩ := hv
  refine W.eq (g2 := F0 m 9 ls [.int v77]) rfl ?_
  refine lv_if_ne (tgt := 16) hx hb dL_act_9 (by decide) (fun c => ?_) (fun c => ?_)
  · replace hw := hw.1 c
    refine lv_iconst (v := 0) hx hb dL_act_16 (by decide) ?_
    refine W.widen (k := 0) (n := 0) (Nat.le_of_ble_eq_true rfl) (Nat.le_of_ble_eq_true rfl) ?_
    exact hb_17 (0 : Int32) _ _ _ ls I (lv_sub hl [0, 1, 2] rfl) hw
  · replace hw := hw.2 c
    refine lv_iconst (v := 1) hx hb dL_act_12 (by decide) ?_
    refine lv_goto (tgt := 17) hx hb dL_act_13 (by decide) ?_
    refine W.widen (k := 0) (n := 0) (Nat.le_of_ble_eq_true rfl) (Nat.le_of_ble_eq_true rfl) ?_
    exact hb_17 (1 : Int32) _ _ _ ls I (lv_sub hl [0, 1, 2] rfl) hw
