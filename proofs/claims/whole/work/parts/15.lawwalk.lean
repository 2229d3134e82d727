set_option maxHeartbeats 4000000 in
set_option maxRecDepth 100000 in
theorem law_walk {X : zX} {p : Program} {l : Launch} {e : Env} {s : State} {m : MethodId} {args : Array Value} {below : List Frame} {meth : Method} {c : Code} {Q : State → Prop} (E : zEnv X l) (EN : zNcs X) {nm : String} (C : zCx X p l s m args meth c "SchemaSubjectsLaw" nm code 7) {M : zM} {b : Nat} (I : zWk X s M s.heap []) (z_lret : ∀ (M : zM) (H : Heap) (locs : List Loc) (cells slots pc : Nat) (ls : Array Slot), zWk X s M H locs → cells ≤ 601024 → slots ≤ 7293034 → decode code pc = .ok (.ireturn, 1) → W p l e room_1 s m args below meth c H locs cells slots Q (F0 m pc ls [.int 1])) (hw : w_L_law b M) : W p l e room_1 s m args below meth c s.heap [] 0 0 Q (entryFrame m #[Value.ref b] 7) := by
  have hx := C.1.1
  have hb := C.1.2.1
  obtain ⟨ls, he, hl⟩ := z_enter (m := m) (n := 7) (vs := [.ref b]) (l := [(0, .ref b)]) (Nat.le_of_ble_eq_true rfl) rfl
  rw [he]
  clear he
  unfold w_L_law at hw
  have hb_23 : ∀ (n : Nat), n ≤ 513 → ∀ (x1 : Nat) (x2 : Nat) (x3 : Nat) (x4 : Int32) (M : zM) (H : Heap) (locs : List Loc) (ls : Array Slot), zWk X s M H locs → lv_has ls 7 [(0, .ref b), (1, .ref x1), (2, .ref x2), (3, .ref x3), (4, .int x4)] → w_L_law_23 b n x1 x2 x3 x4 M → W p l e room_1 s m args below meth c H locs (56 + (513 - n) * 9) (3724 + (513 - n) * 242) Q (F0 m 23 ls []) := by
    intro n
    induction n with
    | zero => intro _ _ _ _ _ M H locs ls I hl hw; exact hw.elim
    | succ n ih =>
      intro hn x1 x2 x3 x4 M H locs ls I hl hw
      unfold w_L_law_23 at hw
      have hb_1353 : ∀ (x1 : Nat) (x2 : Nat) (x3 : Nat) (x4 : Int32) (M : zM) (H : Heap) (locs : List Loc) (ls : Array Slot), zWk X s M H locs → lv_has ls 7 [(0, .ref b), (1, .ref x1), (2, .ref x2), (3, .ref x3), (4, .int x4)] → w_L_law_1353 b (w_L_law_23 b n) x1 x2 x3 x4 M → W p l e room_1 s m args below meth c H locs (56 + (513 - (n + 1)) * 9 + 9) (3724 + (513 - (n + 1)) * 242 + 242) Q (F0 m 1353 ls []) := by
        intro x1 x2 x3 x4 M H locs ls I hl hw
        unfold w_L_law_1353 at hw
        refine lv_iinc (v := (x4 + 5)) (lv' := [(4, .int (x4 + 5)), (0, .ref b), (1, .ref x1), (2, .ref x2), (3, .ref x3)]) hx hb dL_law_1353 hl (k := 4) rfl (by rfl) (by decide) rfl (fun ls hl1 => ?_)
        refine lv_goto (tgt := 23) hx hb dL_law_1356 (by decide) ?_
        refine W.widen (k := 56 + (513 - n) * 9) (n := 3724 + (513 - n) * 242) (by omega) (by omega) ?_
        exact ih (by omega) x1 x2 x3 (x4 + 5) _ _ _ ls I (lv_sub hl1 [1, 2, 3, 4, 0] rfl) hw
      have hb_213 : ∀ (x1 : Nat) (x2 : Nat) (x3 : Nat) (x4 : Int32) (M : zM) (H : Heap) (locs : List Loc) (ls : Array Slot), zWk X s M H locs → lv_has ls 7 [(0, .ref b), (1, .ref x1), (2, .ref x2), (3, .ref x3), (4, .int x4)] → w_L_law_213 b (w_L_law_23 b n) x1 x2 x3 x4 M → W p l e room_1 s m args below meth c H locs (56 + (513 - (n + 1)) * 9 + 2) (3724 + (513 - (n + 1)) * 242 + 109) Q (F0 m 213 ls []) := by
        intro x1 x2 x3 x4 M H locs ls I hl hw
        unfold w_L_law_213 at hw
        refine lv_goto (tgt := 1353) hx hb dL_law_213 (by decide) ?_
        refine W.widen (k := (56 + (513 - (n + 1)) * 9 + 9)) (n := (3724 + (513 - (n + 1)) * 242 + 242)) (by first | omega | (simp only [room_1]; omega)) (by first | omega | (simp only [room_1]; omega)) ?_
        exact hb_1353 x1 x2 x3 x4 _ _ _ ls I (lv_sub hl [0, 1, 2, 3, 4] rfl) hw
      have hb_269 : ∀ (x1 : Nat) (x2 : Nat) (x3 : Nat) (x4 : Int32) (M : zM) (H : Heap) (locs : List Loc) (ls : Array Slot), zWk X s M H locs → lv_has ls 7 [(0, .ref b), (1, .ref x1), (2, .ref x2), (3, .ref x3), (4, .int x4)] → w_L_law_269 b (w_L_law_23 b n) x1 x2 x3 x4 M → W p l e room_1 s m args below meth c H locs (56 + (513 - (n + 1)) * 9 + 1) (3724 + (513 - (n + 1)) * 242 + 6) Q (F0 m 269 ls []) := by
        intro x1 x2 x3 x4 M H locs ls I hl hw
        unfold w_L_law_269 at hw
        refine lv_goto (tgt := 1353) hx hb dL_law_269 (by decide) ?_
        refine W.widen (k := (56 + (513 - (n + 1)) * 9 + 9)) (n := (3724 + (513 - (n + 1)) * 242 + 242)) (by first | omega | (simp only [room_1]; omega)) (by first | omega | (simp only [room_1]; omega)) ?_
        exact hb_1353 x1 x2 x3 x4 _ _ _ ls I (lv_sub hl [0, 1, 2, 3, 4] rfl) hw
      have hb_345 : ∀ (x1 : Nat) (x2 : Nat) (x3 : Nat) (x4 : Int32) (M : zM) (H : Heap) (locs : List Loc) (ls : Array Slot), zWk X s M H locs → lv_has ls 7 [(0, .ref b), (1, .ref x1), (2, .ref x2), (3, .ref x3), (4, .int x4)] → w_L_law_345 b (w_L_law_23 b n) x1 x2 x3 x4 M → W p l e room_1 s m args below meth c H locs (56 + (513 - (n + 1)) * 9 + 2) (3724 + (513 - (n + 1)) * 242 + 12) Q (F0 m 345 ls []) := by
        intro x1 x2 x3 x4 M H locs ls I hl hw
        unfold w_L_law_345 at hw
        refine lv_goto (tgt := 1353) hx hb dL_law_345 (by decide) ?_
        refine W.widen (k := (56 + (513 - (n + 1)) * 9 + 9)) (n := (3724 + (513 - (n + 1)) * 242 + 242)) (by first | omega | (simp only [room_1]; omega)) (by first | omega | (simp only [room_1]; omega)) ?_
        exact hb_1353 x1 x2 x3 x4 _ _ _ ls I (lv_sub hl [0, 1, 2, 3, 4] rfl) hw
      have hb_339 : ∀ (x1 : Nat) (x2 : Nat) (x3 : Nat) (x4 : Int32) (y0 : Int64) (y1 : Int64) (M : zM) (H : Heap) (locs : List Loc) (ls : Array Slot), zWk X s M H locs → lv_has ls 7 [(0, .ref b), (1, .ref x1), (2, .ref x2), (3, .ref x3), (4, .int x4)] → w_L_law_339 b (w_L_law_23 b n) x1 x2 x3 x4 y0 y1 M → W p l e room_1 s m args below meth c H locs (56 + (513 - (n + 1)) * 9 + 2) (3724 + (513 - (n + 1)) * 242 + 12) Q (F0 m 339 ls [.long y0, .long y1]) := by
        intro x1 x2 x3 x4 y0 y1 M H locs ls I hl hw
        unfold w_L_law_339 at hw
        refine W.lcmp hx hb dL_law_339 ?_
        refine lv_if_eq (tgt := 345) hx hb dL_law_340 (by decide) (fun c => ?_) (fun c => ?_)
        · replace hw := hw.1 c
          refine W.widen (k := (56 + (513 - (n + 1)) * 9 + 2)) (n := (3724 + (513 - (n + 1)) * 242 + 12)) (by first | omega | (simp only [room_1]; omega)) (by first | omega | (simp only [room_1]; omega)) ?_
          exact hb_345 x1 x2 x3 x4 _ _ _ ls I (lv_sub hl [0, 1, 2, 3, 4] rfl) hw
        · replace hw := hw.2 c
          refine lv_iconst (v := 0) hx hb dL_law_343 (by decide) ?_
          exact hw.elim
      have hb_401 : ∀ (x1 : Nat) (x2 : Nat) (x3 : Nat) (x4 : Int32) (M : zM) (H : Heap) (locs : List Loc) (ls : Array Slot), zWk X s M H locs → lv_has ls 7 [(0, .ref b), (1, .ref x1), (2, .ref x2), (3, .ref x3), (4, .int x4)] → w_L_law_401 b (w_L_law_23 b n) x1 x2 x3 x4 M → W p l e room_1 s m args below meth c H locs (56 + (513 - (n + 1)) * 9 + 9) (3724 + (513 - (n + 1)) * 242 + 242) Q (F0 m 401 ls []) := by
        intro x1 x2 x3 x4 M H locs ls I hl hw
        unfold w_L_law_401 at hw
        refine lv_goto (tgt := 1353) hx hb dL_law_401 (by decide) ?_
        refine W.widen (k := (56 + (513 - (n + 1)) * 9 + 9)) (n := (3724 + (513 - (n + 1)) * 242 + 242)) (by first | omega | (simp only [room_1]; omega)) (by first | omega | (simp only [room_1]; omega)) ?_
        exact hb_1353 x1 x2 x3 x4 _ _ _ ls I (lv_sub hl [0, 1, 2, 3, 4] rfl) hw
      have hb_497 : ∀ (x1 : Nat) (x2 : Nat) (x3 : Nat) (x4 : Int32) (M : zM) (H : Heap) (locs : List Loc) (ls : Array Slot), zWk X s M H locs → lv_has ls 7 [(0, .ref b), (1, .ref x1), (2, .ref x2), (3, .ref x3), (4, .int x4)] → w_L_law_497 b (w_L_law_23 b n) x1 x2 x3 x4 M → W p l e room_1 s m args below meth c H locs (56 + (513 - (n + 1)) * 9 + 2) (3724 + (513 - (n + 1)) * 242 + 12) Q (F0 m 497 ls []) := by
        intro x1 x2 x3 x4 M H locs ls I hl hw
        unfold w_L_law_497 at hw
        refine lv_goto (tgt := 1353) hx hb dL_law_497 (by decide) ?_
        refine W.widen (k := (56 + (513 - (n + 1)) * 9 + 9)) (n := (3724 + (513 - (n + 1)) * 242 + 242)) (by first | omega | (simp only [room_1]; omega)) (by first | omega | (simp only [room_1]; omega)) ?_
        exact hb_1353 x1 x2 x3 x4 _ _ _ ls I (lv_sub hl [0, 1, 2, 3, 4] rfl) hw
      have hb_464 : ∀ (x1 : Nat) (x2 : Nat) (x3 : Nat) (x4 : Int32) (x5 : Int32) (y0 : Int32) (y1 : Int32) (y2 : Int32) (y3 : Nat) (M : zM) (H : Heap) (locs : List Loc) (ls : Array Slot), zWk X s M H locs → lv_has ls 7 [(0, .ref b), (1, .ref x1), (2, .ref x2), (3, .ref x3), (4, .int x4), (5, .int x5)] → w_L_law_464 b (w_L_law_23 b n) x1 x2 x3 x4 x5 y0 y1 y2 y3 M → W p l e room_1 s m args below meth c H locs (56 + (513 - (n + 1)) * 9 + 2) (3724 + (513 - (n + 1)) * 242 + 12) Q (F0 m 464 ls [.int y0, .int y1, .int y2, .ref y3]) := by
        intro x1 x2 x3 x4 x5 y0 y1 y2 y3 M H locs ls I hl hw
        unfold w_L_law_464 at hw
        obtain ⟨hrc, hw⟩ := hw
        refine z_callV (PX := fun _ _ => False) C I (as := [.int y2, .int y1, .int y0]) (rest := []) (m_X6_setMode E hw) kv_L_101 vc_7 hrc rfl rfl hl.1 (Nat.le_of_ble_eq_true rfl) ⟨Nat.le_of_ble_eq_true rfl, Nat.le_of_ble_eq_true rfl⟩ ⟨(by first | omega | (simp only [room_1]; omega)), (by first | omega | (simp only [room_1]; omega))⟩ dL_law_464 (fun _ _ _ _ _ _ _ hF => hF.elim) (fun v M2 _ _ I hv => ?_)
        obtain ⟨v3, rfl, hw⟩ := hv
        refine W.eq (g2 := F0 m 467 ls [.int v3]) rfl ?_
        refine lv_istore (lv' := [(6, .int v3), (0, .ref b), (1, .ref x1), (2, .ref x2), (3, .ref x3), (4, .int x4), (5, .int x5)]) hx hb dL_law_467 hl (by decide) rfl (fun ls hl4 => ?_)
        refine lv_aload_n hx hb dL_law_469 rfl (lv_at hl4 3 rfl) ?_
        obtain ⟨hrc, hw⟩ := hw
        refine z_callV (PX := fun _ _ => False) C I (as := []) (rest := []) (m_X6_thrown E hw) kv_L_80 vc_7 hrc rfl rfl hl4.1 (Nat.le_of_ble_eq_true rfl) ⟨Nat.le_of_ble_eq_true rfl, Nat.le_of_ble_eq_true rfl⟩ ⟨(by first | omega | (simp only [room_1]; omega)), (by first | omega | (simp only [room_1]; omega))⟩ dL_law_470 (fun _ _ _ _ _ _ _ hF => hF.elim) (fun v M5 _ _ I hv => ?_)
        obtain ⟨v6, rfl, hw⟩ := hv
        refine W.eq (g2 := F0 m 473 ls [.int v6]) rfl ?_
        refine lv_iload hx hb dL_law_473 (lv_at hl4 6 rfl) ?_
        refine lv_icmp_eq (tgt := 480) hx hb dL_law_475 (by decide) (fun c => ?_) (fun c => ?_)
        · replace hw := hw.1 c
          refine lv_iload hx hb dL_law_480 (lv_at hl4 6 rfl) ?_
          refine lv_if_ne (tgt := 497) hx hb dL_law_482 (by decide) (fun c => ?_) (fun c => ?_)
          · replace hw := hw.1 c
            refine W.widen (k := (56 + (513 - (n + 1)) * 9 + 2)) (n := (3724 + (513 - (n + 1)) * 242 + 12)) (by first | omega | (simp only [room_1]; omega)) (by first | omega | (simp only [room_1]; omega)) ?_
            exact hb_497 x1 x2 x3 x4 _ _ _ ls I (lv_sub hl4 [1, 2, 3, 4, 5] rfl) hw
          · replace hw := hw.2 c
            refine lv_aload_n hx hb dL_law_485 rfl (lv_at hl4 4 rfl) ?_
            refine lv_iconst (v := 0) hx hb dL_law_486 (by decide) ?_
            refine z_lald C I hw dL_law_487 (fun v7 hw => ?_)
            refine lv_iload hx hb dL_law_488 (lv_at hl4 0 rfl) ?_
            refine lv_i2l hx hb dL_law_490 rfl ?_
            refine W.lcmp hx hb dL_law_491 ?_
            refine lv_if_eq (tgt := 497) hx hb dL_law_492 (by decide) (fun c => ?_) (fun c => ?_)
            · replace hw := hw.1 c
              refine W.widen (k := (56 + (513 - (n + 1)) * 9 + 2)) (n := (3724 + (513 - (n + 1)) * 242 + 12)) (by first | omega | (simp only [room_1]; omega)) (by first | omega | (simp only [room_1]; omega)) ?_
              exact hb_497 x1 x2 x3 x4 _ _ _ ls I (lv_sub hl4 [1, 2, 3, 4, 5] rfl) hw
            · replace hw := hw.2 c
              refine lv_iconst (v := 0) hx hb dL_law_495 (by decide) ?_
              exact hw.elim
        · replace hw := hw.2 c
          refine lv_iconst (v := 0) hx hb dL_law_478 (by decide) ?_
          exact hw.elim
      have hb_431 : ∀ (x1 : Nat) (x2 : Nat) (x3 : Nat) (x4 : Int32) (y0 : Int32) (y1 : Int32) (y2 : Int32) (y3 : Nat) (M : zM) (H : Heap) (locs : List Loc) (ls : Array Slot), zWk X s M H locs → lv_has ls 7 [(0, .ref b), (1, .ref x1), (2, .ref x2), (3, .ref x3), (4, .int x4)] → w_L_law_431 b (w_L_law_23 b n) x1 x2 x3 x4 y0 y1 y2 y3 M → W p l e room_1 s m args below meth c H locs (56 + (513 - (n + 1)) * 9 + 0) (3724 + (513 - (n + 1)) * 242 + 0) Q (F0 m 431 ls [.int y0, .int y1, .int y2, .ref y3]) := by
        intro x1 x2 x3 x4 y0 y1 y2 y3 M H locs ls I hl hw
        unfold w_L_law_431 at hw
        refine lv_aload_n hx hb dL_law_431 rfl (lv_at hl 3 rfl) ?_
        refine z_callSX C I (as := [.ref y3, .int y2, .int y1, .int y0, .ref x3]) (rest := []) (m_L_setMode E EN hw) kw_L_98 rfl rfl hl.1 (Nat.le_of_ble_eq_true rfl) ⟨Nat.le_of_ble_eq_true rfl, Nat.le_of_ble_eq_true rfl⟩ ⟨(by first | omega | (simp only [room_1]; omega)), (by first | omega | (simp only [room_1]; omega))⟩ dL_law_432 (fun v M8 _ _ I hv => ?_)
        obtain ⟨v9, rfl, hw⟩ := hv
        refine W.eq (g2 := F0 m 435 ls [.int v9]) rfl ?_
        refine lv_istore (lv' := [(5, .int v9), (0, .ref b), (1, .ref x1), (2, .ref x2), (3, .ref x3), (4, .int x4)]) hx hb dL_law_435 hl (by decide) rfl (fun ls hl10 => ?_)
        refine lv_aload_n hx hb dL_law_437 rfl (lv_at hl10 3 rfl) ?_
        refine lv_aload_n hx hb dL_law_438 rfl (lv_at hl10 1 rfl) ?_
        refine lv_iload hx hb dL_law_439 (lv_at hl10 5 rfl) ?_
        refine lv_iconst (v := 1) hx hb dL_law_441 (by decide) ?_
        refine lv_iadd hx hb dL_law_442 ?_
        refine z_sald C I hw dL_law_443 (fun v11 hw => ?_)
        refine lv_aload_n hx hb dL_law_444 rfl (lv_at hl10 1 rfl) ?_
        refine lv_iload hx hb dL_law_445 (lv_at hl10 5 rfl) ?_
        refine lv_iconst (v := 2) hx hb dL_law_447 (by decide) ?_
        refine lv_iadd hx hb dL_law_448 ?_
        refine z_sald C I hw dL_law_449 (fun v12 hw => ?_)
        refine lv_aload_n hx hb dL_law_450 rfl (lv_at hl10 1 rfl) ?_
        refine lv_iload hx hb dL_law_451 (lv_at hl10 5 rfl) ?_
        refine lv_iconst (v := 3) hx hb dL_law_453 (by decide) ?_
        refine lv_iadd hx hb dL_law_454 ?_
        refine z_sald C I hw dL_law_455 (fun v13 hw => ?_)
        refine lv_if_eq (tgt := 463) hx hb dL_law_456 (by decide) (fun c => ?_) (fun c => ?_)
        · replace hw := hw.1 c
          refine lv_iconst (v := 0) hx hb dL_law_463 (by decide) ?_
          refine W.widen (k := (56 + (513 - (n + 1)) * 9 + 2)) (n := (3724 + (513 - (n + 1)) * 242 + 12)) (by first | omega | (simp only [room_1]; omega)) (by first | omega | (simp only [room_1]; omega)) ?_
          exact hb_464 x1 x2 x3 x4 v9 (0 : Int32) v12 v11 x2 _ _ _ ls I (lv_sub hl10 [1, 2, 3, 4, 5, 0] rfl) hw
        · replace hw := hw.2 c
          refine lv_iconst (v := 1) hx hb dL_law_459 (by decide) ?_
          refine lv_goto (tgt := 464) hx hb dL_law_460 (by decide) ?_
          refine W.widen (k := (56 + (513 - (n + 1)) * 9 + 2)) (n := (3724 + (513 - (n + 1)) * 242 + 12)) (by first | omega | (simp only [room_1]; omega)) (by first | omega | (simp only [room_1]; omega)) ?_
          exact hb_464 x1 x2 x3 x4 v9 (1 : Int32) v12 v11 x2 _ _ _ ls I (lv_sub hl10 [1, 2, 3, 4, 5, 0] rfl) hw
      have hb_593 : ∀ (x1 : Nat) (x2 : Nat) (x3 : Nat) (x4 : Int32) (M : zM) (H : Heap) (locs : List Loc) (ls : Array Slot), zWk X s M H locs → lv_has ls 7 [(0, .ref b), (1, .ref x1), (2, .ref x2), (3, .ref x3), (4, .int x4)] → w_L_law_593 b (w_L_law_23 b n) x1 x2 x3 x4 M → W p l e room_1 s m args below meth c H locs (56 + (513 - (n + 1)) * 9 + 3) (3724 + (513 - (n + 1)) * 242 + 18) Q (F0 m 593 ls []) := by
        intro x1 x2 x3 x4 M H locs ls I hl hw
        unfold w_L_law_593 at hw
        refine lv_goto (tgt := 1353) hx hb dL_law_593 (by decide) ?_
        refine W.widen (k := (56 + (513 - (n + 1)) * 9 + 9)) (n := (3724 + (513 - (n + 1)) * 242 + 242)) (by first | omega | (simp only [room_1]; omega)) (by first | omega | (simp only [room_1]; omega)) ?_
        exact hb_1353 x1 x2 x3 x4 _ _ _ ls I (lv_sub hl [0, 1, 2, 3, 4] rfl) hw
      have hb_560 : ∀ (x1 : Nat) (x2 : Nat) (x3 : Nat) (x4 : Int32) (x5 : Int32) (y0 : Int32) (y1 : Int32) (y2 : Int32) (y3 : Nat) (M : zM) (H : Heap) (locs : List Loc) (ls : Array Slot), zWk X s M H locs → lv_has ls 7 [(0, .ref b), (1, .ref x1), (2, .ref x2), (3, .ref x3), (4, .int x4), (5, .int x5)] → w_L_law_560 b (w_L_law_23 b n) x1 x2 x3 x4 x5 y0 y1 y2 y3 M → W p l e room_1 s m args below meth c H locs (56 + (513 - (n + 1)) * 9 + 3) (3724 + (513 - (n + 1)) * 242 + 18) Q (F0 m 560 ls [.int y0, .int y1, .int y2, .ref y3]) := by
        intro x1 x2 x3 x4 x5 y0 y1 y2 y3 M H locs ls I hl hw
        unfold w_L_law_560 at hw
        obtain ⟨hrc, hw⟩ := hw
        refine z_callV (PX := fun _ _ => False) C I (as := [.int y2, .int y1, .int y0]) (rest := []) (m_X6_delete E hw) kv_L_104 vc_7 hrc rfl rfl hl.1 (Nat.le_of_ble_eq_true rfl) ⟨Nat.le_of_ble_eq_true rfl, Nat.le_of_ble_eq_true rfl⟩ ⟨(by first | omega | (simp only [room_1]; omega)), (by first | omega | (simp only [room_1]; omega))⟩ dL_law_560 (fun _ _ _ _ _ _ _ hF => hF.elim) (fun v M14 _ _ I hv => ?_)
        obtain ⟨v15, rfl, hw⟩ := hv
        refine W.eq (g2 := F0 m 563 ls [.int v15]) rfl ?_
        refine lv_istore (lv' := [(6, .int v15), (0, .ref b), (1, .ref x1), (2, .ref x2), (3, .ref x3), (4, .int x4), (5, .int x5)]) hx hb dL_law_563 hl (by decide) rfl (fun ls hl16 => ?_)
        refine lv_aload_n hx hb dL_law_565 rfl (lv_at hl16 3 rfl) ?_
        obtain ⟨hrc, hw⟩ := hw
        refine z_callV (PX := fun _ _ => False) C I (as := []) (rest := []) (m_X6_thrown E hw) kv_L_80 vc_7 hrc rfl rfl hl16.1 (Nat.le_of_ble_eq_true rfl) ⟨Nat.le_of_ble_eq_true rfl, Nat.le_of_ble_eq_true rfl⟩ ⟨(by first | omega | (simp only [room_1]; omega)), (by first | omega | (simp only [room_1]; omega))⟩ dL_law_566 (fun _ _ _ _ _ _ _ hF => hF.elim) (fun v M17 _ _ I hv => ?_)
        obtain ⟨v18, rfl, hw⟩ := hv
        refine W.eq (g2 := F0 m 569 ls [.int v18]) rfl ?_
        refine lv_iload hx hb dL_law_569 (lv_at hl16 6 rfl) ?_
        refine lv_icmp_eq (tgt := 576) hx hb dL_law_571 (by decide) (fun c => ?_) (fun c => ?_)
        · replace hw := hw.1 c
          refine lv_iload hx hb dL_law_576 (lv_at hl16 6 rfl) ?_
          refine lv_if_ne (tgt := 593) hx hb dL_law_578 (by decide) (fun c => ?_) (fun c => ?_)
          · replace hw := hw.1 c
            refine W.widen (k := (56 + (513 - (n + 1)) * 9 + 3)) (n := (3724 + (513 - (n + 1)) * 242 + 18)) (by first | omega | (simp only [room_1]; omega)) (by first | omega | (simp only [room_1]; omega)) ?_
            exact hb_593 x1 x2 x3 x4 _ _ _ ls I (lv_sub hl16 [1, 2, 3, 4, 5] rfl) hw
          · replace hw := hw.2 c
            refine lv_aload_n hx hb dL_law_581 rfl (lv_at hl16 4 rfl) ?_
            refine lv_iconst (v := 0) hx hb dL_law_582 (by decide) ?_
            refine z_lald C I hw dL_law_583 (fun v19 hw => ?_)
            refine lv_iload hx hb dL_law_584 (lv_at hl16 0 rfl) ?_
            refine lv_i2l hx hb dL_law_586 rfl ?_
            refine W.lcmp hx hb dL_law_587 ?_
            refine lv_if_eq (tgt := 593) hx hb dL_law_588 (by decide) (fun c => ?_) (fun c => ?_)
            · replace hw := hw.1 c
              refine W.widen (k := (56 + (513 - (n + 1)) * 9 + 3)) (n := (3724 + (513 - (n + 1)) * 242 + 18)) (by first | omega | (simp only [room_1]; omega)) (by first | omega | (simp only [room_1]; omega)) ?_
              exact hb_593 x1 x2 x3 x4 _ _ _ ls I (lv_sub hl16 [1, 2, 3, 4, 5] rfl) hw
            · replace hw := hw.2 c
              refine lv_iconst (v := 0) hx hb dL_law_591 (by decide) ?_
              exact hw.elim
        · replace hw := hw.2 c
          refine lv_iconst (v := 0) hx hb dL_law_574 (by decide) ?_
          exact hw.elim
      have hb_527 : ∀ (x1 : Nat) (x2 : Nat) (x3 : Nat) (x4 : Int32) (y0 : Int32) (y1 : Int32) (y2 : Int32) (y3 : Nat) (M : zM) (H : Heap) (locs : List Loc) (ls : Array Slot), zWk X s M H locs → lv_has ls 7 [(0, .ref b), (1, .ref x1), (2, .ref x2), (3, .ref x3), (4, .int x4)] → w_L_law_527 b (w_L_law_23 b n) x1 x2 x3 x4 y0 y1 y2 y3 M → W p l e room_1 s m args below meth c H locs (56 + (513 - (n + 1)) * 9 + 0) (3724 + (513 - (n + 1)) * 242 + 0) Q (F0 m 527 ls [.int y0, .int y1, .int y2, .ref y3]) := by
        intro x1 x2 x3 x4 y0 y1 y2 y3 M H locs ls I hl hw
        unfold w_L_law_527 at hw
        refine lv_aload_n hx hb dL_law_527 rfl (lv_at hl 3 rfl) ?_
        refine z_callSX C I (as := [.ref y3, .int y2, .int y1, .int y0, .ref x3]) (rest := []) (m_L_delete E EN hw) kw_L_102 rfl rfl hl.1 (Nat.le_of_ble_eq_true rfl) ⟨Nat.le_of_ble_eq_true rfl, Nat.le_of_ble_eq_true rfl⟩ ⟨(by first | omega | (simp only [room_1]; omega)), (by first | omega | (simp only [room_1]; omega))⟩ dL_law_528 (fun v M20 _ _ I hv => ?_)
        obtain ⟨v21, rfl, hw⟩ := hv
        refine W.eq (g2 := F0 m 531 ls [.int v21]) rfl ?_
        refine lv_istore (lv' := [(5, .int v21), (0, .ref b), (1, .ref x1), (2, .ref x2), (3, .ref x3), (4, .int x4)]) hx hb dL_law_531 hl (by decide) rfl (fun ls hl22 => ?_)
        refine lv_aload_n hx hb dL_law_533 rfl (lv_at hl22 3 rfl) ?_
        refine lv_aload_n hx hb dL_law_534 rfl (lv_at hl22 1 rfl) ?_
        refine lv_iload hx hb dL_law_535 (lv_at hl22 5 rfl) ?_
        refine lv_iconst (v := 1) hx hb dL_law_537 (by decide) ?_
        refine lv_iadd hx hb dL_law_538 ?_
        refine z_sald C I hw dL_law_539 (fun v23 hw => ?_)
        refine lv_aload_n hx hb dL_law_540 rfl (lv_at hl22 1 rfl) ?_
        refine lv_iload hx hb dL_law_541 (lv_at hl22 5 rfl) ?_
        refine lv_iconst (v := 2) hx hb dL_law_543 (by decide) ?_
        refine lv_iadd hx hb dL_law_544 ?_
        refine z_sald C I hw dL_law_545 (fun v24 hw => ?_)
        refine lv_aload_n hx hb dL_law_546 rfl (lv_at hl22 1 rfl) ?_
        refine lv_iload hx hb dL_law_547 (lv_at hl22 5 rfl) ?_
        refine lv_iconst (v := 3) hx hb dL_law_549 (by decide) ?_
        refine lv_iadd hx hb dL_law_550 ?_
        refine z_sald C I hw dL_law_551 (fun v25 hw => ?_)
        refine lv_if_eq (tgt := 559) hx hb dL_law_552 (by decide) (fun c => ?_) (fun c => ?_)
        · replace hw := hw.1 c
          refine lv_iconst (v := 0) hx hb dL_law_559 (by decide) ?_
          refine W.widen (k := (56 + (513 - (n + 1)) * 9 + 3)) (n := (3724 + (513 - (n + 1)) * 242 + 18)) (by first | omega | (simp only [room_1]; omega)) (by first | omega | (simp only [room_1]; omega)) ?_
          exact hb_560 x1 x2 x3 x4 v21 (0 : Int32) v24 v23 x2 _ _ _ ls I (lv_sub hl22 [1, 2, 3, 4, 5, 0] rfl) hw
        · replace hw := hw.2 c
          refine lv_iconst (v := 1) hx hb dL_law_555 (by decide) ?_
          refine lv_goto (tgt := 560) hx hb dL_law_556 (by decide) ?_
          refine W.widen (k := (56 + (513 - (n + 1)) * 9 + 3)) (n := (3724 + (513 - (n + 1)) * 242 + 18)) (by first | omega | (simp only [room_1]; omega)) (by first | omega | (simp only [room_1]; omega)) ?_
          exact hb_560 x1 x2 x3 x4 v21 (1 : Int32) v24 v23 x2 _ _ _ ls I (lv_sub hl22 [1, 2, 3, 4, 5, 0] rfl) hw
      have hb_649 : ∀ (x1 : Nat) (x2 : Nat) (x3 : Nat) (x4 : Int32) (M : zM) (H : Heap) (locs : List Loc) (ls : Array Slot), zWk X s M H locs → lv_has ls 7 [(0, .ref b), (1, .ref x1), (2, .ref x2), (3, .ref x3), (4, .int x4)] → w_L_law_649 b (w_L_law_23 b n) x1 x2 x3 x4 M → W p l e room_1 s m args below meth c H locs (56 + (513 - (n + 1)) * 9 + 1) (3724 + (513 - (n + 1)) * 242 + 6) Q (F0 m 649 ls []) := by
        intro x1 x2 x3 x4 M H locs ls I hl hw
        unfold w_L_law_649 at hw
        refine lv_goto (tgt := 1353) hx hb dL_law_649 (by decide) ?_
        refine W.widen (k := (56 + (513 - (n + 1)) * 9 + 9)) (n := (3724 + (513 - (n + 1)) * 242 + 242)) (by first | omega | (simp only [room_1]; omega)) (by first | omega | (simp only [room_1]; omega)) ?_
        exact hb_1353 x1 x2 x3 x4 _ _ _ ls I (lv_sub hl [0, 1, 2, 3, 4] rfl) hw
      have hb_717 : ∀ (x1 : Nat) (x2 : Nat) (x3 : Nat) (x4 : Int32) (M : zM) (H : Heap) (locs : List Loc) (ls : Array Slot), zWk X s M H locs → lv_has ls 7 [(0, .ref b), (1, .ref x1), (2, .ref x2), (3, .ref x3), (4, .int x4)] → w_L_law_717 b (w_L_law_23 b n) x1 x2 x3 x4 M → W p l e room_1 s m args below meth c H locs (56 + (513 - (n + 1)) * 9 + 2) (3724 + (513 - (n + 1)) * 242 + 12) Q (F0 m 717 ls []) := by
        intro x1 x2 x3 x4 M H locs ls I hl hw
        unfold w_L_law_717 at hw
        refine lv_goto (tgt := 1353) hx hb dL_law_717 (by decide) ?_
        refine W.widen (k := (56 + (513 - (n + 1)) * 9 + 9)) (n := (3724 + (513 - (n + 1)) * 242 + 242)) (by first | omega | (simp only [room_1]; omega)) (by first | omega | (simp only [room_1]; omega)) ?_
        exact hb_1353 x1 x2 x3 x4 _ _ _ ls I (lv_sub hl [0, 1, 2, 3, 4] rfl) hw
      have hb_792 : ∀ (x1 : Nat) (x2 : Nat) (x3 : Nat) (x4 : Int32) (M : zM) (H : Heap) (locs : List Loc) (ls : Array Slot), zWk X s M H locs → lv_has ls 7 [(0, .ref b), (1, .ref x1), (2, .ref x2), (3, .ref x3), (4, .int x4)] → w_L_law_792 b (w_L_law_23 b n) x1 x2 x3 x4 M → W p l e room_1 s m args below meth c H locs (56 + (513 - (n + 1)) * 9 + 2) (3724 + (513 - (n + 1)) * 242 + 12) Q (F0 m 792 ls []) := by
        intro x1 x2 x3 x4 M H locs ls I hl hw
        unfold w_L_law_792 at hw
        refine lv_goto (tgt := 1353) hx hb dL_law_792 (by decide) ?_
        refine W.widen (k := (56 + (513 - (n + 1)) * 9 + 9)) (n := (3724 + (513 - (n + 1)) * 242 + 242)) (by first | omega | (simp only [room_1]; omega)) (by first | omega | (simp only [room_1]; omega)) ?_
        exact hb_1353 x1 x2 x3 x4 _ _ _ ls I (lv_sub hl [0, 1, 2, 3, 4] rfl) hw
      have hb_786 : ∀ (x1 : Nat) (x2 : Nat) (x3 : Nat) (x4 : Int32) (y0 : Int64) (y1 : Int64) (M : zM) (H : Heap) (locs : List Loc) (ls : Array Slot), zWk X s M H locs → lv_has ls 7 [(0, .ref b), (1, .ref x1), (2, .ref x2), (3, .ref x3), (4, .int x4)] → w_L_law_786 b (w_L_law_23 b n) x1 x2 x3 x4 y0 y1 M → W p l e room_1 s m args below meth c H locs (56 + (513 - (n + 1)) * 9 + 2) (3724 + (513 - (n + 1)) * 242 + 12) Q (F0 m 786 ls [.long y0, .long y1]) := by
        intro x1 x2 x3 x4 y0 y1 M H locs ls I hl hw
        unfold w_L_law_786 at hw
        refine W.lcmp hx hb dL_law_786 ?_
        refine lv_if_eq (tgt := 792) hx hb dL_law_787 (by decide) (fun c => ?_) (fun c => ?_)
        · replace hw := hw.1 c
          refine W.widen (k := (56 + (513 - (n + 1)) * 9 + 2)) (n := (3724 + (513 - (n + 1)) * 242 + 12)) (by first | omega | (simp only [room_1]; omega)) (by first | omega | (simp only [room_1]; omega)) ?_
          exact hb_792 x1 x2 x3 x4 _ _ _ ls I (lv_sub hl [0, 1, 2, 3, 4] rfl) hw
        · replace hw := hw.2 c
          refine lv_iconst (v := 0) hx hb dL_law_790 (by decide) ?_
          exact hw.elim
      have hb_860 : ∀ (x1 : Nat) (x2 : Nat) (x3 : Nat) (x4 : Int32) (M : zM) (H : Heap) (locs : List Loc) (ls : Array Slot), zWk X s M H locs → lv_has ls 7 [(0, .ref b), (1, .ref x1), (2, .ref x2), (3, .ref x3), (4, .int x4)] → w_L_law_860 b (w_L_law_23 b n) x1 x2 x3 x4 M → W p l e room_1 s m args below meth c H locs (56 + (513 - (n + 1)) * 9 + 2) (3724 + (513 - (n + 1)) * 242 + 12) Q (F0 m 860 ls []) := by
        intro x1 x2 x3 x4 M H locs ls I hl hw
        unfold w_L_law_860 at hw
        refine lv_goto (tgt := 1353) hx hb dL_law_860 (by decide) ?_
        refine W.widen (k := (56 + (513 - (n + 1)) * 9 + 9)) (n := (3724 + (513 - (n + 1)) * 242 + 242)) (by first | omega | (simp only [room_1]; omega)) (by first | omega | (simp only [room_1]; omega)) ?_
        exact hb_1353 x1 x2 x3 x4 _ _ _ ls I (lv_sub hl [0, 1, 2, 3, 4] rfl) hw
      have hb_959 : ∀ (x1 : Nat) (x2 : Nat) (x3 : Nat) (x4 : Int32) (M : zM) (H : Heap) (locs : List Loc) (ls : Array Slot), zWk X s M H locs → lv_has ls 7 [(0, .ref b), (1, .ref x1), (2, .ref x2), (3, .ref x3), (4, .int x4)] → w_L_law_959 b (w_L_law_23 b n) x1 x2 x3 x4 M → W p l e room_1 s m args below meth c H locs (56 + (513 - (n + 1)) * 9 + 6) (3724 + (513 - (n + 1)) * 242 + 36) Q (F0 m 959 ls []) := by
        intro x1 x2 x3 x4 M H locs ls I hl hw
        unfold w_L_law_959 at hw
        refine lv_goto (tgt := 1353) hx hb dL_law_959 (by decide) ?_
        refine W.widen (k := (56 + (513 - (n + 1)) * 9 + 9)) (n := (3724 + (513 - (n + 1)) * 242 + 242)) (by first | omega | (simp only [room_1]; omega)) (by first | omega | (simp only [room_1]; omega)) ?_
        exact hb_1353 x1 x2 x3 x4 _ _ _ ls I (lv_sub hl [0, 1, 2, 3, 4] rfl) hw
      have hb_953 : ∀ (x1 : Nat) (x2 : Nat) (x3 : Nat) (x4 : Int32) (y0 : Int64) (y1 : Int64) (M : zM) (H : Heap) (locs : List Loc) (ls : Array Slot), zWk X s M H locs → lv_has ls 7 [(0, .ref b), (1, .ref x1), (2, .ref x2), (3, .ref x3), (4, .int x4)] → w_L_law_953 b (w_L_law_23 b n) x1 x2 x3 x4 y0 y1 M → W p l e room_1 s m args below meth c H locs (56 + (513 - (n + 1)) * 9 + 6) (3724 + (513 - (n + 1)) * 242 + 36) Q (F0 m 953 ls [.long y0, .long y1]) := by
        intro x1 x2 x3 x4 y0 y1 M H locs ls I hl hw
        unfold w_L_law_953 at hw
        refine W.lcmp hx hb dL_law_953 ?_
        refine lv_if_eq (tgt := 959) hx hb dL_law_954 (by decide) (fun c => ?_) (fun c => ?_)
        · replace hw := hw.1 c
          refine W.widen (k := (56 + (513 - (n + 1)) * 9 + 6)) (n := (3724 + (513 - (n + 1)) * 242 + 36)) (by first | omega | (simp only [room_1]; omega)) (by first | omega | (simp only [room_1]; omega)) ?_
          exact hb_959 x1 x2 x3 x4 _ _ _ ls I (lv_sub hl [0, 1, 2, 3, 4] rfl) hw
        · replace hw := hw.2 c
          refine lv_iconst (v := 0) hx hb dL_law_957 (by decide) ?_
          exact hw.elim
      have hb_1058 : ∀ (x1 : Nat) (x2 : Nat) (x3 : Nat) (x4 : Int32) (M : zM) (H : Heap) (locs : List Loc) (ls : Array Slot), zWk X s M H locs → lv_has ls 7 [(0, .ref b), (1, .ref x1), (2, .ref x2), (3, .ref x3), (4, .int x4)] → w_L_law_1058 b (w_L_law_23 b n) x1 x2 x3 x4 M → W p l e room_1 s m args below meth c H locs (56 + (513 - (n + 1)) * 9 + 7) (3724 + (513 - (n + 1)) * 242 + 42) Q (F0 m 1058 ls []) := by
        intro x1 x2 x3 x4 M H locs ls I hl hw
        unfold w_L_law_1058 at hw
        refine lv_goto (tgt := 1353) hx hb dL_law_1058 (by decide) ?_
        refine W.widen (k := (56 + (513 - (n + 1)) * 9 + 9)) (n := (3724 + (513 - (n + 1)) * 242 + 242)) (by first | omega | (simp only [room_1]; omega)) (by first | omega | (simp only [room_1]; omega)) ?_
        exact hb_1353 x1 x2 x3 x4 _ _ _ ls I (lv_sub hl [0, 1, 2, 3, 4] rfl) hw
      have hb_1052 : ∀ (x1 : Nat) (x2 : Nat) (x3 : Nat) (x4 : Int32) (y0 : Int64) (y1 : Int64) (M : zM) (H : Heap) (locs : List Loc) (ls : Array Slot), zWk X s M H locs → lv_has ls 7 [(0, .ref b), (1, .ref x1), (2, .ref x2), (3, .ref x3), (4, .int x4)] → w_L_law_1052 b (w_L_law_23 b n) x1 x2 x3 x4 y0 y1 M → W p l e room_1 s m args below meth c H locs (56 + (513 - (n + 1)) * 9 + 7) (3724 + (513 - (n + 1)) * 242 + 42) Q (F0 m 1052 ls [.long y0, .long y1]) := by
        intro x1 x2 x3 x4 y0 y1 M H locs ls I hl hw
        unfold w_L_law_1052 at hw
        refine W.lcmp hx hb dL_law_1052 ?_
        refine lv_if_eq (tgt := 1058) hx hb dL_law_1053 (by decide) (fun c => ?_) (fun c => ?_)
        · replace hw := hw.1 c
          refine W.widen (k := (56 + (513 - (n + 1)) * 9 + 7)) (n := (3724 + (513 - (n + 1)) * 242 + 42)) (by first | omega | (simp only [room_1]; omega)) (by first | omega | (simp only [room_1]; omega)) ?_
          exact hb_1058 x1 x2 x3 x4 _ _ _ ls I (lv_sub hl [0, 1, 2, 3, 4] rfl) hw
        · replace hw := hw.2 c
          refine lv_iconst (v := 0) hx hb dL_law_1056 (by decide) ?_
          exact hw.elim
      have hb_1114 : ∀ (x1 : Nat) (x2 : Nat) (x3 : Nat) (x4 : Int32) (M : zM) (H : Heap) (locs : List Loc) (ls : Array Slot), zWk X s M H locs → lv_has ls 7 [(0, .ref b), (1, .ref x1), (2, .ref x2), (3, .ref x3), (4, .int x4)] → w_L_law_1114 b (w_L_law_23 b n) x1 x2 x3 x4 M → W p l e room_1 s m args below meth c H locs (56 + (513 - (n + 1)) * 9 + 1) (3724 + (513 - (n + 1)) * 242 + 6) Q (F0 m 1114 ls []) := by
        intro x1 x2 x3 x4 M H locs ls I hl hw
        unfold w_L_law_1114 at hw
        refine lv_goto (tgt := 1353) hx hb dL_law_1114 (by decide) ?_
        refine W.widen (k := (56 + (513 - (n + 1)) * 9 + 9)) (n := (3724 + (513 - (n + 1)) * 242 + 242)) (by first | omega | (simp only [room_1]; omega)) (by first | omega | (simp only [room_1]; omega)) ?_
        exact hb_1353 x1 x2 x3 x4 _ _ _ ls I (lv_sub hl [0, 1, 2, 3, 4] rfl) hw
      have hb_1202 : ∀ (x1 : Nat) (x2 : Nat) (x3 : Nat) (x4 : Int32) (M : zM) (H : Heap) (locs : List Loc) (ls : Array Slot), zWk X s M H locs → lv_has ls 7 [(0, .ref b), (1, .ref x1), (2, .ref x2), (3, .ref x3), (4, .int x4)] → w_L_law_1202 b (w_L_law_23 b n) x1 x2 x3 x4 M → W p l e room_1 s m args below meth c H locs (56 + (513 - (n + 1)) * 9 + 2) (3724 + (513 - (n + 1)) * 242 + 12) Q (F0 m 1202 ls []) := by
        intro x1 x2 x3 x4 M H locs ls I hl hw
        unfold w_L_law_1202 at hw
        refine lv_goto (tgt := 1353) hx hb dL_law_1202 (by decide) ?_
        refine W.widen (k := (56 + (513 - (n + 1)) * 9 + 9)) (n := (3724 + (513 - (n + 1)) * 242 + 242)) (by first | omega | (simp only [room_1]; omega)) (by first | omega | (simp only [room_1]; omega)) ?_
        exact hb_1353 x1 x2 x3 x4 _ _ _ ls I (lv_sub hl [0, 1, 2, 3, 4] rfl) hw
      have hb_1196 : ∀ (x1 : Nat) (x2 : Nat) (x3 : Nat) (x4 : Int32) (y0 : Int64) (y1 : Int64) (M : zM) (H : Heap) (locs : List Loc) (ls : Array Slot), zWk X s M H locs → lv_has ls 7 [(0, .ref b), (1, .ref x1), (2, .ref x2), (3, .ref x3), (4, .int x4)] → w_L_law_1196 b (w_L_law_23 b n) x1 x2 x3 x4 y0 y1 M → W p l e room_1 s m args below meth c H locs (56 + (513 - (n + 1)) * 9 + 2) (3724 + (513 - (n + 1)) * 242 + 12) Q (F0 m 1196 ls [.long y0, .long y1]) := by
        intro x1 x2 x3 x4 y0 y1 M H locs ls I hl hw
        unfold w_L_law_1196 at hw
        refine W.lcmp hx hb dL_law_1196 ?_
        refine lv_if_eq (tgt := 1202) hx hb dL_law_1197 (by decide) (fun c => ?_) (fun c => ?_)
        · replace hw := hw.1 c
          refine W.widen (k := (56 + (513 - (n + 1)) * 9 + 2)) (n := (3724 + (513 - (n + 1)) * 242 + 12)) (by first | omega | (simp only [room_1]; omega)) (by first | omega | (simp only [room_1]; omega)) ?_
          exact hb_1202 x1 x2 x3 x4 _ _ _ ls I (lv_sub hl [0, 1, 2, 3, 4] rfl) hw
        · replace hw := hw.2 c
          refine lv_iconst (v := 0) hx hb dL_law_1200 (by decide) ?_
          exact hw.elim
      have hb_1294 : ∀ (x1 : Nat) (x2 : Nat) (x3 : Nat) (x4 : Int32) (M : zM) (H : Heap) (locs : List Loc) (ls : Array Slot), zWk X s M H locs → lv_has ls 7 [(0, .ref b), (1, .ref x1), (2, .ref x2), (3, .ref x3), (4, .int x4)] → w_L_law_1294 b (w_L_law_23 b n) x1 x2 x3 x4 M → W p l e room_1 s m args below meth c H locs (56 + (513 - (n + 1)) * 9 + 7) (3724 + (513 - (n + 1)) * 242 + 42) Q (F0 m 1294 ls []) := by
        intro x1 x2 x3 x4 M H locs ls I hl hw
        unfold w_L_law_1294 at hw
        refine lv_goto (tgt := 1353) hx hb dL_law_1294 (by decide) ?_
        refine W.widen (k := (56 + (513 - (n + 1)) * 9 + 9)) (n := (3724 + (513 - (n + 1)) * 242 + 242)) (by first | omega | (simp only [room_1]; omega)) (by first | omega | (simp only [room_1]; omega)) ?_
        exact hb_1353 x1 x2 x3 x4 _ _ _ ls I (lv_sub hl [0, 1, 2, 3, 4] rfl) hw
      have hb_1350 : ∀ (x1 : Nat) (x2 : Nat) (x3 : Nat) (x4 : Int32) (M : zM) (H : Heap) (locs : List Loc) (ls : Array Slot), zWk X s M H locs → lv_has ls 7 [(0, .ref b), (1, .ref x1), (2, .ref x2), (3, .ref x3), (4, .int x4)] → w_L_law_1350 b (w_L_law_23 b n) x1 x2 x3 x4 M → W p l e room_1 s m args below meth c H locs (56 + (513 - (n + 1)) * 9 + 1) (3724 + (513 - (n + 1)) * 242 + 6) Q (F0 m 1350 ls []) := by
        intro x1 x2 x3 x4 M H locs ls I hl hw
        unfold w_L_law_1350 at hw
        refine lv_goto (tgt := 1353) hx hb dL_law_1350 (by decide) ?_
        refine W.widen (k := (56 + (513 - (n + 1)) * 9 + 9)) (n := (3724 + (513 - (n + 1)) * 242 + 242)) (by first | omega | (simp only [room_1]; omega)) (by first | omega | (simp only [room_1]; omega)) ?_
        exact hb_1353 x1 x2 x3 x4 _ _ _ ls I (lv_sub hl [0, 1, 2, 3, 4] rfl) hw
      refine lv_iload hx hb dL_law_23 (lv_at hl 4 rfl) ?_
      refine lv_aload_n hx hb dL_law_25 rfl (lv_at hl 0 rfl) ?_
      refine z_alen C I hw dL_law_26 (fun v26 hw => ?_)
      refine lv_iconst (v := 5) hx hb dL_law_27 (by decide) ?_
      refine lv_isub hx hb dL_law_28 ?_
      refine lv_icmp_gt (tgt := 1359) hx hb dL_law_29 (by decide) (fun c => ?_) (fun c => ?_)
      · replace hw := hw.1 c
        refine lv_iconst (v := 1) hx hb dL_law_1359 (by decide) ?_
        exact z_lret _ _ _ _ _ _ ls I (by first | omega | (simp only [room_1]; omega)) (by first | omega | (simp only [room_1]; omega)) dL_law_1360
      · replace hw := hw.2 c
        refine lv_aload_n hx hb dL_law_32 rfl (lv_at hl 0 rfl) ?_
        refine lv_iload hx hb dL_law_33 (lv_at hl 4 rfl) ?_
        refine z_sald C I hw dL_law_35 (fun v27 hw => ?_)
        refine lv_bipush (v := 31) hx hb dL_law_36 (by decide) ?_
        refine lv_iand hx hb dL_law_38 ?_
        refine lv_topi (fun s28 hs => ?_)
        have hw := hw s28 hs
        clear hs
        by_cases hout : s28.toInt < 0 ∨ 17 < s28.toInt
        · have hw := hw.2.2.2.2.2.2.2.2.2.2.2.2.2.2.2.2.2.2 hout
          refine lv_tableOut (tgt := 1353) hx hb dL_law_39 hout (by decide) ?_
          refine W.widen (k := (56 + (513 - (n + 1)) * 9 + 9)) (n := (3724 + (513 - (n + 1)) * 242 + 242)) (by first | omega | (simp only [room_1]; omega)) (by first | omega | (simp only [room_1]; omega)) ?_
          exact hb_1353 x1 x2 x3 x4 _ _ _ ls I (lv_sub hl [0, 1, 2, 3, 4] rfl) hw
        · rcases z_sw18 hout with rfl | rfl | rfl | rfl | rfl | rfl | rfl | rfl | rfl | rfl | rfl | rfl | rfl | rfl | rfl | rfl | rfl | rfl
          · have hw := hw.1 rfl
            refine lv_tableIn (off := 85) (tgt := 124) hx hb dL_law_39 (by decide) (by decide) (by decide) (by decide) ?_
            refine lv_aload_n hx hb dL_law_124 rfl (lv_at hl 1 rfl) ?_
            refine lv_aload_n hx hb dL_law_125 rfl (lv_at hl 0 rfl) ?_
            refine lv_iload hx hb dL_law_126 (lv_at hl 4 rfl) ?_
            refine lv_iconst (v := 1) hx hb dL_law_128 (by decide) ?_
            refine lv_iadd hx hb dL_law_129 ?_
            refine z_sald C I hw dL_law_130 (fun v29 hw => ?_)
            refine lv_aload_n hx hb dL_law_131 rfl (lv_at hl 0 rfl) ?_
            refine lv_iload hx hb dL_law_132 (lv_at hl 4 rfl) ?_
            refine lv_iconst (v := 2) hx hb dL_law_134 (by decide) ?_
            refine lv_iadd hx hb dL_law_135 ?_
            refine z_sald C I hw dL_law_136 (fun v30 hw => ?_)
            refine lv_aload_n hx hb dL_law_137 rfl (lv_at hl 0 rfl) ?_
            refine lv_iload hx hb dL_law_138 (lv_at hl 4 rfl) ?_
            refine lv_iconst (v := 3) hx hb dL_law_140 (by decide) ?_
            refine lv_iadd hx hb dL_law_141 ?_
            refine z_sald C I hw dL_law_142 (fun v31 hw => ?_)
            refine lv_aload_n hx hb dL_law_143 rfl (lv_at hl 0 rfl) ?_
            refine lv_iload hx hb dL_law_144 (lv_at hl 4 rfl) ?_
            refine lv_iconst (v := 4) hx hb dL_law_146 (by decide) ?_
            refine lv_iadd hx hb dL_law_147 ?_
            refine z_sald C I hw dL_law_148 (fun v32 hw => ?_)
            refine lv_aload_n hx hb dL_law_149 rfl (lv_at hl 3 rfl) ?_
            refine z_callSX C I (as := [.ref x1, .int v29, .int v30, .int v31, .int v32, .ref x3]) (rest := []) (m_L_field E EN hw) kw_L_74 rfl rfl hl.1 (Nat.le_of_ble_eq_true rfl) ⟨Nat.le_of_ble_eq_true rfl, Nat.le_of_ble_eq_true rfl⟩ ⟨(by first | omega | (simp only [room_1]; omega)), (by first | omega | (simp only [room_1]; omega))⟩ dL_law_150 (fun v M33 _ _ I hv => ?_)
            obtain ⟨v34, rfl, hw⟩ := hv
            refine W.eq (g2 := F0 m 153 ls [.int v34]) rfl ?_
            refine lv_istore (lv' := [(5, .int v34), (0, .ref b), (1, .ref x1), (2, .ref x2), (3, .ref x3), (4, .int x4)]) hx hb dL_law_153 hl (by decide) rfl (fun ls hl35 => ?_)
            refine lv_aload_n hx hb dL_law_155 rfl (lv_at hl35 3 rfl) ?_
            refine lv_aload_n hx hb dL_law_156 rfl (lv_at hl35 1 rfl) ?_
            refine lv_iload hx hb dL_law_157 (lv_at hl35 5 rfl) ?_
            refine lv_iconst (v := 1) hx hb dL_law_159 (by decide) ?_
            refine lv_iadd hx hb dL_law_160 ?_
            refine z_sald C I hw dL_law_161 (fun v36 hw => ?_)
            refine lv_aload_n hx hb dL_law_162 rfl (lv_at hl35 1 rfl) ?_
            refine lv_iload hx hb dL_law_163 (lv_at hl35 5 rfl) ?_
            refine lv_iconst (v := 2) hx hb dL_law_165 (by decide) ?_
            refine lv_iadd hx hb dL_law_166 ?_
            refine z_sald C I hw dL_law_167 (fun v37 hw => ?_)
            refine lv_aload_n hx hb dL_law_168 rfl (lv_at hl35 1 rfl) ?_
            refine lv_iload hx hb dL_law_169 (lv_at hl35 5 rfl) ?_
            refine lv_iconst (v := 3) hx hb dL_law_171 (by decide) ?_
            refine lv_iadd hx hb dL_law_172 ?_
            refine z_sald C I hw dL_law_173 (fun v38 hw => ?_)
            refine lv_aload_n hx hb dL_law_174 rfl (lv_at hl35 1 rfl) ?_
            refine lv_iload hx hb dL_law_175 (lv_at hl35 5 rfl) ?_
            refine lv_iconst (v := 4) hx hb dL_law_177 (by decide) ?_
            refine lv_iadd hx hb dL_law_178 ?_
            refine z_sald C I hw dL_law_179 (fun v39 hw => ?_)
            obtain ⟨hrc, hw⟩ := hw
            refine z_callV (PX := fun _ _ => False) C I (as := [.int v36, .int v37, .int v38, .int v39]) (rest := []) (m_X6_field E hw) kv_L_79 vc_7 hrc rfl rfl hl35.1 (Nat.le_of_ble_eq_true rfl) ⟨Nat.le_of_ble_eq_true rfl, Nat.le_of_ble_eq_true rfl⟩ ⟨(by first | omega | (simp only [room_1]; omega)), (by first | omega | (simp only [room_1]; omega))⟩ dL_law_180 (fun _ _ _ _ _ _ _ hF => hF.elim) (fun v M40 _ _ I hv => ?_)
            obtain ⟨v41, rfl, hw⟩ := hv
            refine W.eq (g2 := F0 m 183 ls [.int v41]) rfl ?_
            refine lv_istore (lv' := [(6, .int v41), (5, .int v34), (0, .ref b), (1, .ref x1), (2, .ref x2), (3, .ref x3), (4, .int x4)]) hx hb dL_law_183 hl35 (by decide) rfl (fun ls hl42 => ?_)
            refine lv_aload_n hx hb dL_law_185 rfl (lv_at hl42 4 rfl) ?_
            obtain ⟨hrc, hw⟩ := hw
            refine z_callV (PX := fun _ _ => False) C I (as := []) (rest := []) (m_X6_thrown E hw) kv_L_80 vc_7 hrc rfl rfl hl42.1 (Nat.le_of_ble_eq_true rfl) ⟨Nat.le_of_ble_eq_true rfl, Nat.le_of_ble_eq_true rfl⟩ ⟨(by first | omega | (simp only [room_1]; omega)), (by first | omega | (simp only [room_1]; omega))⟩ dL_law_186 (fun _ _ _ _ _ _ _ hF => hF.elim) (fun v M43 _ _ I hv => ?_)
            obtain ⟨v44, rfl, hw⟩ := hv
            refine W.eq (g2 := F0 m 189 ls [.int v44]) rfl ?_
            refine lv_iload hx hb dL_law_189 (lv_at hl42 1 rfl) ?_
            refine lv_icmp_eq (tgt := 196) hx hb dL_law_191 (by decide) (fun c => ?_) (fun c => ?_)
            · replace hw := hw.1 c
              refine lv_iload hx hb dL_law_196 (lv_at hl42 1 rfl) ?_
              refine lv_if_ne (tgt := 213) hx hb dL_law_198 (by decide) (fun c => ?_) (fun c => ?_)
              · replace hw := hw.1 c
                refine W.widen (k := (56 + (513 - (n + 1)) * 9 + 2)) (n := (3724 + (513 - (n + 1)) * 242 + 109)) (by first | omega | (simp only [room_1]; omega)) (by first | omega | (simp only [room_1]; omega)) ?_
                exact hb_213 x1 x2 x3 x4 _ _ _ ls I (lv_sub hl42 [2, 3, 4, 5, 6] rfl) hw
              · replace hw := hw.2 c
                refine lv_aload_n hx hb dL_law_201 rfl (lv_at hl42 5 rfl) ?_
                refine lv_iconst (v := 0) hx hb dL_law_202 (by decide) ?_
                refine z_lald C I hw dL_law_203 (fun v45 hw => ?_)
                refine lv_iload hx hb dL_law_204 (lv_at hl42 0 rfl) ?_
                refine lv_i2l hx hb dL_law_206 rfl ?_
                refine W.lcmp hx hb dL_law_207 ?_
                refine lv_if_eq (tgt := 213) hx hb dL_law_208 (by decide) (fun c => ?_) (fun c => ?_)
                · replace hw := hw.1 c
                  refine W.widen (k := (56 + (513 - (n + 1)) * 9 + 2)) (n := (3724 + (513 - (n + 1)) * 242 + 109)) (by first | omega | (simp only [room_1]; omega)) (by first | omega | (simp only [room_1]; omega)) ?_
                  exact hb_213 x1 x2 x3 x4 _ _ _ ls I (lv_sub hl42 [2, 3, 4, 5, 6] rfl) hw
                · replace hw := hw.2 c
                  refine lv_iconst (v := 0) hx hb dL_law_211 (by decide) ?_
                  exact hw.elim
            · replace hw := hw.2 c
              refine lv_iconst (v := 0) hx hb dL_law_194 (by decide) ?_
              exact hw.elim
          · have hw := hw.2.1 rfl
            refine lv_tableIn (off := 177) (tgt := 216) hx hb dL_law_39 (by decide) (by decide) (by decide) (by decide) ?_
            refine lv_aload_n hx hb dL_law_216 rfl (lv_at hl 1 rfl) ?_
            refine lv_aload_n hx hb dL_law_217 rfl (lv_at hl 0 rfl) ?_
            refine lv_iload hx hb dL_law_218 (lv_at hl 4 rfl) ?_
            refine lv_iconst (v := 1) hx hb dL_law_220 (by decide) ?_
            refine lv_iadd hx hb dL_law_221 ?_
            refine z_sald C I hw dL_law_222 (fun v46 hw => ?_)
            refine lv_aload_n hx hb dL_law_223 rfl (lv_at hl 3 rfl) ?_
            refine z_callSX C I (as := [.ref x1, .int v46, .ref x3]) (rest := []) (m_L_byDefault E EN hw) kw_L_84 rfl rfl hl.1 (Nat.le_of_ble_eq_true rfl) ⟨Nat.le_of_ble_eq_true rfl, Nat.le_of_ble_eq_true rfl⟩ ⟨(by first | omega | (simp only [room_1]; omega)), (by first | omega | (simp only [room_1]; omega))⟩ dL_law_224 (fun v M47 _ _ I hv => ?_)
            obtain ⟨v48, rfl, hw⟩ := hv
            refine W.eq (g2 := F0 m 227 ls [.int v48]) rfl ?_
            refine lv_istore (lv' := [(5, .int v48), (0, .ref b), (1, .ref x1), (2, .ref x2), (3, .ref x3), (4, .int x4)]) hx hb dL_law_227 hl (by decide) rfl (fun ls hl49 => ?_)
            refine lv_aload_n hx hb dL_law_229 rfl (lv_at hl49 3 rfl) ?_
            refine lv_aload_n hx hb dL_law_230 rfl (lv_at hl49 1 rfl) ?_
            refine lv_iload hx hb dL_law_231 (lv_at hl49 5 rfl) ?_
            refine lv_iconst (v := 1) hx hb dL_law_233 (by decide) ?_
            refine lv_iadd hx hb dL_law_234 ?_
            refine z_sald C I hw dL_law_235 (fun v50 hw => ?_)
            obtain ⟨hrc, hw⟩ := hw
            refine z_callV (PX := fun _ _ => False) C I (as := [.int v50]) (rest := []) (m_X6_byDefault E hw) kv_L_87 vc_7 hrc rfl rfl hl49.1 (Nat.le_of_ble_eq_true rfl) ⟨Nat.le_of_ble_eq_true rfl, Nat.le_of_ble_eq_true rfl⟩ ⟨(by first | omega | (simp only [room_1]; omega)), (by first | omega | (simp only [room_1]; omega))⟩ dL_law_236 (fun _ _ _ _ _ _ _ hF => hF.elim) (fun v M51 _ _ I hv => ?_)
            obtain ⟨v52, rfl, hw⟩ := hv
            refine W.eq (g2 := F0 m 239 ls [.int v52]) rfl ?_
            refine lv_istore (lv' := [(6, .int v52), (5, .int v48), (0, .ref b), (1, .ref x1), (2, .ref x2), (3, .ref x3), (4, .int x4)]) hx hb dL_law_239 hl49 (by decide) rfl (fun ls hl53 => ?_)
            refine lv_aload_n hx hb dL_law_241 rfl (lv_at hl53 4 rfl) ?_
            obtain ⟨hrc, hw⟩ := hw
            refine z_callV (PX := fun _ _ => False) C I (as := []) (rest := []) (m_X6_thrown E hw) kv_L_80 vc_7 hrc rfl rfl hl53.1 (Nat.le_of_ble_eq_true rfl) ⟨Nat.le_of_ble_eq_true rfl, Nat.le_of_ble_eq_true rfl⟩ ⟨(by first | omega | (simp only [room_1]; omega)), (by first | omega | (simp only [room_1]; omega))⟩ dL_law_242 (fun _ _ _ _ _ _ _ hF => hF.elim) (fun v M54 _ _ I hv => ?_)
            obtain ⟨v55, rfl, hw⟩ := hv
            refine W.eq (g2 := F0 m 245 ls [.int v55]) rfl ?_
            refine lv_iload hx hb dL_law_245 (lv_at hl53 1 rfl) ?_
            refine lv_icmp_eq (tgt := 252) hx hb dL_law_247 (by decide) (fun c => ?_) (fun c => ?_)
            · replace hw := hw.1 c
              refine lv_iload hx hb dL_law_252 (lv_at hl53 1 rfl) ?_
              refine lv_if_ne (tgt := 269) hx hb dL_law_254 (by decide) (fun c => ?_) (fun c => ?_)
              · replace hw := hw.1 c
                refine W.widen (k := (56 + (513 - (n + 1)) * 9 + 1)) (n := (3724 + (513 - (n + 1)) * 242 + 6)) (by first | omega | (simp only [room_1]; omega)) (by first | omega | (simp only [room_1]; omega)) ?_
                exact hb_269 x1 x2 x3 x4 _ _ _ ls I (lv_sub hl53 [2, 3, 4, 5, 6] rfl) hw
              · replace hw := hw.2 c
                refine lv_aload_n hx hb dL_law_257 rfl (lv_at hl53 5 rfl) ?_
                refine lv_iconst (v := 0) hx hb dL_law_258 (by decide) ?_
                refine z_lald C I hw dL_law_259 (fun v56 hw => ?_)
                refine lv_iload hx hb dL_law_260 (lv_at hl53 0 rfl) ?_
                refine lv_i2l hx hb dL_law_262 rfl ?_
                refine W.lcmp hx hb dL_law_263 ?_
                refine lv_if_eq (tgt := 269) hx hb dL_law_264 (by decide) (fun c => ?_) (fun c => ?_)
                · replace hw := hw.1 c
                  refine W.widen (k := (56 + (513 - (n + 1)) * 9 + 1)) (n := (3724 + (513 - (n + 1)) * 242 + 6)) (by first | omega | (simp only [room_1]; omega)) (by first | omega | (simp only [room_1]; omega)) ?_
                  exact hb_269 x1 x2 x3 x4 _ _ _ ls I (lv_sub hl53 [2, 3, 4, 5, 6] rfl) hw
                · replace hw := hw.2 c
                  refine lv_iconst (v := 0) hx hb dL_law_267 (by decide) ?_
                  exact hw.elim
            · replace hw := hw.2 c
              refine lv_iconst (v := 0) hx hb dL_law_250 (by decide) ?_
              exact hw.elim
          · have hw := hw.2.2.1 rfl
            refine lv_tableIn (off := 233) (tgt := 272) hx hb dL_law_39 (by decide) (by decide) (by decide) (by decide) ?_
            refine lv_aload_n hx hb dL_law_272 rfl (lv_at hl 1 rfl) ?_
            obtain ⟨hrc, hw⟩ := hw
            refine z_callV (PX := fun _ _ => False) C I (as := []) (rest := []) (m_X5_discard E hw) kv_L_88 vc_6 hrc rfl rfl hl.1 (Nat.le_of_ble_eq_true rfl) ⟨Nat.le_of_ble_eq_true rfl, Nat.le_of_ble_eq_true rfl⟩ ⟨(by first | omega | (simp only [room_1]; omega)), (by first | omega | (simp only [room_1]; omega))⟩ dL_law_273 (fun _ _ _ _ _ _ _ hF => hF.elim) (fun v M57 _ _ I hv => ?_)
            obtain ⟨v58, rfl, hw⟩ := hv
            refine W.eq (g2 := F0 m 276 ls [.int v58]) rfl ?_
            refine lv_aload_n hx hb dL_law_276 rfl (lv_at hl 2 rfl) ?_
            obtain ⟨hrc, hw⟩ := hw
            refine z_callV (PX := fun _ _ => False) C I (as := []) (rest := [.int v58]) (m_X6_discard E hw) kv_L_91 vc_7 hrc rfl rfl hl.1 (Nat.le_of_ble_eq_true rfl) ⟨Nat.le_of_ble_eq_true rfl, Nat.le_of_ble_eq_true rfl⟩ ⟨(by first | omega | (simp only [room_1]; omega)), (by first | omega | (simp only [room_1]; omega))⟩ dL_law_277 (fun _ _ _ _ _ _ _ hF => hF.elim) (fun v M59 _ _ I hv => ?_)
            obtain ⟨v60, rfl, hw⟩ := hv
            refine W.eq (g2 := F0 m 280 ls [.int v60, .int v58]) rfl ?_
            refine lv_icmp_eq (tgt := 1353) hx hb dL_law_280 (by decide) (fun c => ?_) (fun c => ?_)
            · replace hw := hw.1 c
              refine W.widen (k := (56 + (513 - (n + 1)) * 9 + 9)) (n := (3724 + (513 - (n + 1)) * 242 + 242)) (by first | omega | (simp only [room_1]; omega)) (by first | omega | (simp only [room_1]; omega)) ?_
              exact hb_1353 x1 x2 x3 x4 _ _ _ ls I (lv_sub hl [0, 1, 2, 3, 4] rfl) hw
            · replace hw := hw.2 c
              refine lv_iconst (v := 0) hx hb dL_law_283 (by decide) ?_
              exact hw.elim
          · have hw := hw.2.2.2.1 rfl
            refine lv_tableIn (off := 246) (tgt := 285) hx hb dL_law_39 (by decide) (by decide) (by decide) (by decide) ?_
            refine lv_aload_n hx hb dL_law_285 rfl (lv_at hl 1 rfl) ?_
            refine lv_aload_n hx hb dL_law_286 rfl (lv_at hl 0 rfl) ?_
            refine lv_iload hx hb dL_law_287 (lv_at hl 4 rfl) ?_
            refine lv_iconst (v := 1) hx hb dL_law_289 (by decide) ?_
            refine lv_iadd hx hb dL_law_290 ?_
            refine z_sald C I hw dL_law_291 (fun v61 hw => ?_)
            refine lv_aload_n hx hb dL_law_292 rfl (lv_at hl 3 rfl) ?_
            refine z_callSX C I (as := [.ref x1, .int v61, .ref x3]) (rest := []) (m_L_isAccepted E EN hw) kw_L_92 rfl rfl hl.1 (Nat.le_of_ble_eq_true rfl) ⟨Nat.le_of_ble_eq_true rfl, Nat.le_of_ble_eq_true rfl⟩ ⟨(by first | omega | (simp only [room_1]; omega)), (by first | omega | (simp only [room_1]; omega))⟩ dL_law_293 (fun v M62 _ _ I hv => ?_)
            obtain ⟨v63, rfl, hw⟩ := hv
            refine W.eq (g2 := F0 m 296 ls [.int v63]) rfl ?_
            refine lv_istore (lv' := [(5, .int v63), (0, .ref b), (1, .ref x1), (2, .ref x2), (3, .ref x3), (4, .int x4)]) hx hb dL_law_296 hl (by decide) rfl (fun ls hl64 => ?_)
            refine lv_aload_n hx hb dL_law_298 rfl (lv_at hl64 3 rfl) ?_
            refine lv_aload_n hx hb dL_law_299 rfl (lv_at hl64 1 rfl) ?_
            refine lv_iload hx hb dL_law_300 (lv_at hl64 5 rfl) ?_
            refine lv_iconst (v := 1) hx hb dL_law_302 (by decide) ?_
            refine lv_iadd hx hb dL_law_303 ?_
            refine z_sald C I hw dL_law_304 (fun v65 hw => ?_)
            obtain ⟨hrc, hw⟩ := hw
            refine z_callV (PX := fun _ _ => False) C I (as := [.int v65]) (rest := []) (m_X6_isAccepted E hw) kv_L_94 vc_7 hrc rfl rfl hl64.1 (Nat.le_of_ble_eq_true rfl) ⟨Nat.le_of_ble_eq_true rfl, Nat.le_of_ble_eq_true rfl⟩ ⟨(by first | omega | (simp only [room_1]; omega)), (by first | omega | (simp only [room_1]; omega))⟩ dL_law_305 (fun _ _ _ _ _ _ _ hF => hF.elim) (fun v M66 _ _ I hv => ?_)
            obtain ⟨v67, rfl, hv67, hw⟩ := hv
            refine W.eq (g2 := F0 m 308 ls [.int v67]) rfl ?_
            refine lv_istore (lv' := [(6, .int v67), (5, .int v63), (0, .ref b), (1, .ref x1), (2, .ref x2), (3, .ref x3), (4, .int x4)]) hx hb dL_law_308 hl64 (by decide) rfl (fun ls hl68 => ?_)
            refine lv_aload_n hx hb dL_law_310 rfl (lv_at hl68 4 rfl) ?_
            obtain ⟨hrc, hw⟩ := hw
            refine z_callV (PX := fun _ _ => False) C I (as := []) (rest := []) (m_X6_thrown E hw) kv_L_80 vc_7 hrc rfl rfl hl68.1 (Nat.le_of_ble_eq_true rfl) ⟨Nat.le_of_ble_eq_true rfl, Nat.le_of_ble_eq_true rfl⟩ ⟨(by first | omega | (simp only [room_1]; omega)), (by first | omega | (simp only [room_1]; omega))⟩ dL_law_311 (fun _ _ _ _ _ _ _ hF => hF.elim) (fun v M69 _ _ I hv => ?_)
            obtain ⟨v70, rfl, hw⟩ := hv
            refine W.eq (g2 := F0 m 314 ls [.int v70]) rfl ?_
            refine lv_iload hx hb dL_law_314 (lv_at hl68 1 rfl) ?_
            refine lv_icmp_eq (tgt := 321) hx hb dL_law_316 (by decide) (fun c => ?_) (fun c => ?_)
            · replace hw := hw.1 c
              refine lv_iload hx hb dL_law_321 (lv_at hl68 1 rfl) ?_
              refine lv_if_ne (tgt := 345) hx hb dL_law_323 (by decide) (fun c => ?_) (fun c => ?_)
              · replace hw := hw.1 c
                refine W.widen (k := (56 + (513 - (n + 1)) * 9 + 2)) (n := (3724 + (513 - (n + 1)) * 242 + 12)) (by first | omega | (simp only [room_1]; omega)) (by first | omega | (simp only [room_1]; omega)) ?_
                exact hb_345 x1 x2 x3 x4 _ _ _ ls I (lv_sub hl68 [2, 3, 4, 5, 6] rfl) hw
              · replace hw := hw.2 c
                refine lv_aload_n hx hb dL_law_326 rfl (lv_at hl68 5 rfl) ?_
                refine lv_iconst (v := 0) hx hb dL_law_327 (by decide) ?_
                refine z_lald C I hw dL_law_328 (fun v71 hw => ?_)
                refine lv_iload hx hb dL_law_329 (lv_at hl68 0 rfl) ?_
                refine lv_if_eq (tgt := 338) hx hb dL_law_331 (by decide) (fun c => ?_) (fun c => ?_)
                · replace hw := hw.1 c
                  refine lv_lconst (v := 0) hx hb dL_law_338 (by decide) ?_
                  refine W.widen (k := (56 + (513 - (n + 1)) * 9 + 2)) (n := (3724 + (513 - (n + 1)) * 242 + 12)) (by first | omega | (simp only [room_1]; omega)) (by first | omega | (simp only [room_1]; omega)) ?_
                  exact hb_339 x1 x2 x3 x4 (0 : Int64) v71 _ _ _ ls I (lv_sub hl68 [2, 3, 4, 5, 6] rfl) hw
                · replace hw := hw.2 c
                  refine lv_lconst (v := 1) hx hb dL_law_334 (by decide) ?_
                  refine lv_goto (tgt := 339) hx hb dL_law_335 (by decide) ?_
                  refine W.widen (k := (56 + (513 - (n + 1)) * 9 + 2)) (n := (3724 + (513 - (n + 1)) * 242 + 12)) (by first | omega | (simp only [room_1]; omega)) (by first | omega | (simp only [room_1]; omega)) ?_
                  exact hb_339 x1 x2 x3 x4 (1 : Int64) v71 _ _ _ ls I (lv_sub hl68 [2, 3, 4, 5, 6] rfl) hw
            · replace hw := hw.2 c
              refine lv_iconst (v := 0) hx hb dL_law_319 (by decide) ?_
              exact hw.elim
          · have hw := hw.2.2.2.2.1 rfl
            refine lv_tableIn (off := 309) (tgt := 348) hx hb dL_law_39 (by decide) (by decide) (by decide) (by decide) ?_
            refine lv_aload_n hx hb dL_law_348 rfl (lv_at hl 1 rfl) ?_
            refine lv_aload_n hx hb dL_law_349 rfl (lv_at hl 0 rfl) ?_
            refine lv_iload hx hb dL_law_350 (lv_at hl 4 rfl) ?_
            refine lv_iconst (v := 1) hx hb dL_law_352 (by decide) ?_
            refine lv_iadd hx hb dL_law_353 ?_
            refine z_sald C I hw dL_law_354 (fun v72 hw => ?_)
            refine lv_aload_n hx hb dL_law_355 rfl (lv_at hl 3 rfl) ?_
            refine z_callSX C I (as := [.ref x1, .int v72, .ref x3]) (rest := []) (m_L_register E EN hw) kw_L_95 rfl rfl hl.1 (Nat.le_of_ble_eq_true rfl) ⟨Nat.le_of_ble_eq_true rfl, Nat.le_of_ble_eq_true rfl⟩ ⟨(by first | omega | (simp only [room_1]; omega)), (by first | omega | (simp only [room_1]; omega))⟩ dL_law_356 (fun v M73 _ _ I hv => ?_)
            obtain ⟨v74, rfl, hw⟩ := hv
            refine W.eq (g2 := F0 m 359 ls [.int v74]) rfl ?_
            refine lv_istore (lv' := [(5, .int v74), (0, .ref b), (1, .ref x1), (2, .ref x2), (3, .ref x3), (4, .int x4)]) hx hb dL_law_359 hl (by decide) rfl (fun ls hl75 => ?_)
            refine lv_aload_n hx hb dL_law_361 rfl (lv_at hl75 3 rfl) ?_
            refine lv_aload_n hx hb dL_law_362 rfl (lv_at hl75 1 rfl) ?_
            refine lv_iload hx hb dL_law_363 (lv_at hl75 5 rfl) ?_
            refine lv_iconst (v := 1) hx hb dL_law_365 (by decide) ?_
            refine lv_iadd hx hb dL_law_366 ?_
            refine z_sald C I hw dL_law_367 (fun v76 hw => ?_)
            obtain ⟨hrc, hw⟩ := hw
            refine z_callV (PX := fun _ _ => False) C I (as := [.int v76]) (rest := []) (m_X6_register E hw) kv_L_97 vc_7 hrc rfl rfl hl75.1 (Nat.le_of_ble_eq_true rfl) ⟨Nat.le_of_ble_eq_true rfl, Nat.le_of_ble_eq_true rfl⟩ ⟨(by first | omega | (simp only [room_1]; omega)), (by first | omega | (simp only [room_1]; omega))⟩ dL_law_368 (fun _ _ _ _ _ _ _ hF => hF.elim) (fun v M77 _ _ I hv => ?_)
            obtain ⟨v78, rfl, hw⟩ := hv
            refine W.eq (g2 := F0 m 371 ls [.int v78]) rfl ?_
            refine lv_istore (lv' := [(6, .int v78), (5, .int v74), (0, .ref b), (1, .ref x1), (2, .ref x2), (3, .ref x3), (4, .int x4)]) hx hb dL_law_371 hl75 (by decide) rfl (fun ls hl79 => ?_)
            refine lv_aload_n hx hb dL_law_373 rfl (lv_at hl79 4 rfl) ?_
            obtain ⟨hrc, hw⟩ := hw
            refine z_callV (PX := fun _ _ => False) C I (as := []) (rest := []) (m_X6_thrown E hw) kv_L_80 vc_7 hrc rfl rfl hl79.1 (Nat.le_of_ble_eq_true rfl) ⟨Nat.le_of_ble_eq_true rfl, Nat.le_of_ble_eq_true rfl⟩ ⟨(by first | omega | (simp only [room_1]; omega)), (by first | omega | (simp only [room_1]; omega))⟩ dL_law_374 (fun _ _ _ _ _ _ _ hF => hF.elim) (fun v M80 _ _ I hv => ?_)
            obtain ⟨v81, rfl, hw⟩ := hv
            refine W.eq (g2 := F0 m 377 ls [.int v81]) rfl ?_
            refine lv_iload hx hb dL_law_377 (lv_at hl79 1 rfl) ?_
            refine lv_icmp_eq (tgt := 384) hx hb dL_law_379 (by decide) (fun c => ?_) (fun c => ?_)
            · replace hw := hw.1 c
              refine lv_iload hx hb dL_law_384 (lv_at hl79 1 rfl) ?_
              refine lv_if_ne (tgt := 401) hx hb dL_law_386 (by decide) (fun c => ?_) (fun c => ?_)
              · replace hw := hw.1 c
                refine W.widen (k := (56 + (513 - (n + 1)) * 9 + 9)) (n := (3724 + (513 - (n + 1)) * 242 + 242)) (by first | omega | (simp only [room_1]; omega)) (by first | omega | (simp only [room_1]; omega)) ?_
                exact hb_401 x1 x2 x3 x4 _ _ _ ls I (lv_sub hl79 [2, 3, 4, 5, 6] rfl) hw
              · replace hw := hw.2 c
                refine lv_aload_n hx hb dL_law_389 rfl (lv_at hl79 5 rfl) ?_
                refine lv_iconst (v := 0) hx hb dL_law_390 (by decide) ?_
                refine z_lald C I hw dL_law_391 (fun v82 hw => ?_)
                refine lv_iload hx hb dL_law_392 (lv_at hl79 0 rfl) ?_
                refine lv_i2l hx hb dL_law_394 rfl ?_
                refine W.lcmp hx hb dL_law_395 ?_
                refine lv_if_eq (tgt := 401) hx hb dL_law_396 (by decide) (fun c => ?_) (fun c => ?_)
                · replace hw := hw.1 c
                  refine W.widen (k := (56 + (513 - (n + 1)) * 9 + 9)) (n := (3724 + (513 - (n + 1)) * 242 + 242)) (by first | omega | (simp only [room_1]; omega)) (by first | omega | (simp only [room_1]; omega)) ?_
                  exact hb_401 x1 x2 x3 x4 _ _ _ ls I (lv_sub hl79 [2, 3, 4, 5, 6] rfl) hw
                · replace hw := hw.2 c
                  refine lv_iconst (v := 0) hx hb dL_law_399 (by decide) ?_
                  exact hw.elim
            · replace hw := hw.2 c
              refine lv_iconst (v := 0) hx hb dL_law_382 (by decide) ?_
              exact hw.elim
          · have hw := hw.2.2.2.2.2.1 rfl
            refine lv_tableIn (off := 365) (tgt := 404) hx hb dL_law_39 (by decide) (by decide) (by decide) (by decide) ?_
            refine lv_aload_n hx hb dL_law_404 rfl (lv_at hl 1 rfl) ?_
            refine lv_aload_n hx hb dL_law_405 rfl (lv_at hl 0 rfl) ?_
            refine lv_iload hx hb dL_law_406 (lv_at hl 4 rfl) ?_
            refine lv_iconst (v := 1) hx hb dL_law_408 (by decide) ?_
            refine lv_iadd hx hb dL_law_409 ?_
            refine z_sald C I hw dL_law_410 (fun v83 hw => ?_)
            refine lv_aload_n hx hb dL_law_411 rfl (lv_at hl 0 rfl) ?_
            refine lv_iload hx hb dL_law_412 (lv_at hl 4 rfl) ?_
            refine lv_iconst (v := 2) hx hb dL_law_414 (by decide) ?_
            refine lv_iadd hx hb dL_law_415 ?_
            refine z_sald C I hw dL_law_416 (fun v84 hw => ?_)
            refine lv_aload_n hx hb dL_law_417 rfl (lv_at hl 0 rfl) ?_
            refine lv_iload hx hb dL_law_418 (lv_at hl 4 rfl) ?_
            refine lv_iconst (v := 3) hx hb dL_law_420 (by decide) ?_
            refine lv_iadd hx hb dL_law_421 ?_
            refine z_sald C I hw dL_law_422 (fun v85 hw => ?_)
            refine lv_if_eq (tgt := 430) hx hb dL_law_423 (by decide) (fun c => ?_) (fun c => ?_)
            · replace hw := hw.1 c
              refine lv_iconst (v := 0) hx hb dL_law_430 (by decide) ?_
              refine W.widen (k := (56 + (513 - (n + 1)) * 9 + 0)) (n := (3724 + (513 - (n + 1)) * 242 + 0)) (by first | omega | (simp only [room_1]; omega)) (by first | omega | (simp only [room_1]; omega)) ?_
              exact hb_431 x1 x2 x3 x4 (0 : Int32) v84 v83 x1 _ _ _ ls I (lv_sub hl [0, 1, 2, 3, 4] rfl) hw
            · replace hw := hw.2 c
              refine lv_iconst (v := 1) hx hb dL_law_426 (by decide) ?_
              refine lv_goto (tgt := 431) hx hb dL_law_427 (by decide) ?_
              refine W.widen (k := (56 + (513 - (n + 1)) * 9 + 0)) (n := (3724 + (513 - (n + 1)) * 242 + 0)) (by first | omega | (simp only [room_1]; omega)) (by first | omega | (simp only [room_1]; omega)) ?_
              exact hb_431 x1 x2 x3 x4 (1 : Int32) v84 v83 x1 _ _ _ ls I (lv_sub hl [0, 1, 2, 3, 4] rfl) hw
          · have hw := hw.2.2.2.2.2.2.1 rfl
            refine lv_tableIn (off := 461) (tgt := 500) hx hb dL_law_39 (by decide) (by decide) (by decide) (by decide) ?_
            refine lv_aload_n hx hb dL_law_500 rfl (lv_at hl 1 rfl) ?_
            refine lv_aload_n hx hb dL_law_501 rfl (lv_at hl 0 rfl) ?_
            refine lv_iload hx hb dL_law_502 (lv_at hl 4 rfl) ?_
            refine lv_iconst (v := 1) hx hb dL_law_504 (by decide) ?_
            refine lv_iadd hx hb dL_law_505 ?_
            refine z_sald C I hw dL_law_506 (fun v86 hw => ?_)
            refine lv_aload_n hx hb dL_law_507 rfl (lv_at hl 0 rfl) ?_
            refine lv_iload hx hb dL_law_508 (lv_at hl 4 rfl) ?_
            refine lv_iconst (v := 2) hx hb dL_law_510 (by decide) ?_
            refine lv_iadd hx hb dL_law_511 ?_
            refine z_sald C I hw dL_law_512 (fun v87 hw => ?_)
            refine lv_aload_n hx hb dL_law_513 rfl (lv_at hl 0 rfl) ?_
            refine lv_iload hx hb dL_law_514 (lv_at hl 4 rfl) ?_
            refine lv_iconst (v := 3) hx hb dL_law_516 (by decide) ?_
            refine lv_iadd hx hb dL_law_517 ?_
            refine z_sald C I hw dL_law_518 (fun v88 hw => ?_)
            refine lv_if_eq (tgt := 526) hx hb dL_law_519 (by decide) (fun c => ?_) (fun c => ?_)
            · replace hw := hw.1 c
              refine lv_iconst (v := 0) hx hb dL_law_526 (by decide) ?_
              refine W.widen (k := (56 + (513 - (n + 1)) * 9 + 0)) (n := (3724 + (513 - (n + 1)) * 242 + 0)) (by first | omega | (simp only [room_1]; omega)) (by first | omega | (simp only [room_1]; omega)) ?_
              exact hb_527 x1 x2 x3 x4 (0 : Int32) v87 v86 x1 _ _ _ ls I (lv_sub hl [0, 1, 2, 3, 4] rfl) hw
            · replace hw := hw.2 c
              refine lv_iconst (v := 1) hx hb dL_law_522 (by decide) ?_
              refine lv_goto (tgt := 527) hx hb dL_law_523 (by decide) ?_
              refine W.widen (k := (56 + (513 - (n + 1)) * 9 + 0)) (n := (3724 + (513 - (n + 1)) * 242 + 0)) (by first | omega | (simp only [room_1]; omega)) (by first | omega | (simp only [room_1]; omega)) ?_
              exact hb_527 x1 x2 x3 x4 (1 : Int32) v87 v86 x1 _ _ _ ls I (lv_sub hl [0, 1, 2, 3, 4] rfl) hw
          · have hw := hw.2.2.2.2.2.2.2.1 rfl
            refine lv_tableIn (off := 557) (tgt := 596) hx hb dL_law_39 (by decide) (by decide) (by decide) (by decide) ?_
            refine lv_aload_n hx hb dL_law_596 rfl (lv_at hl 1 rfl) ?_
            refine lv_aload_n hx hb dL_law_597 rfl (lv_at hl 0 rfl) ?_
            refine lv_iload hx hb dL_law_598 (lv_at hl 4 rfl) ?_
            refine lv_iconst (v := 1) hx hb dL_law_600 (by decide) ?_
            refine lv_iadd hx hb dL_law_601 ?_
            refine z_sald C I hw dL_law_602 (fun v89 hw => ?_)
            refine lv_aload_n hx hb dL_law_603 rfl (lv_at hl 3 rfl) ?_
            refine z_callSX C I (as := [.ref x1, .int v89, .ref x3]) (rest := []) (m_L_versions E EN hw) kw_L_105 rfl rfl hl.1 (Nat.le_of_ble_eq_true rfl) ⟨Nat.le_of_ble_eq_true rfl, Nat.le_of_ble_eq_true rfl⟩ ⟨(by first | omega | (simp only [room_1]; omega)), (by first | omega | (simp only [room_1]; omega))⟩ dL_law_604 (fun v M90 _ _ I hv => ?_)
            obtain ⟨v91, rfl, hw⟩ := hv
            refine W.eq (g2 := F0 m 607 ls [.int v91]) rfl ?_
            refine lv_istore (lv' := [(5, .int v91), (0, .ref b), (1, .ref x1), (2, .ref x2), (3, .ref x3), (4, .int x4)]) hx hb dL_law_607 hl (by decide) rfl (fun ls hl92 => ?_)
            refine lv_aload_n hx hb dL_law_609 rfl (lv_at hl92 3 rfl) ?_
            refine lv_aload_n hx hb dL_law_610 rfl (lv_at hl92 1 rfl) ?_
            refine lv_iload hx hb dL_law_611 (lv_at hl92 5 rfl) ?_
            refine lv_iconst (v := 1) hx hb dL_law_613 (by decide) ?_
            refine lv_iadd hx hb dL_law_614 ?_
            refine z_sald C I hw dL_law_615 (fun v93 hw => ?_)
            obtain ⟨hrc, hw⟩ := hw
            refine z_callV (PX := fun _ _ => False) C I (as := [.int v93]) (rest := []) (m_X6_versions E hw) kv_L_107 vc_7 hrc rfl rfl hl92.1 (Nat.le_of_ble_eq_true rfl) ⟨Nat.le_of_ble_eq_true rfl, Nat.le_of_ble_eq_true rfl⟩ ⟨(by first | omega | (simp only [room_1]; omega)), (by first | omega | (simp only [room_1]; omega))⟩ dL_law_616 (fun _ _ _ _ _ _ _ hF => hF.elim) (fun v M94 _ _ I hv => ?_)
            obtain ⟨v95, rfl, hw⟩ := hv
            refine W.eq (g2 := F0 m 619 ls [.int v95]) rfl ?_
            refine lv_istore (lv' := [(6, .int v95), (5, .int v91), (0, .ref b), (1, .ref x1), (2, .ref x2), (3, .ref x3), (4, .int x4)]) hx hb dL_law_619 hl92 (by decide) rfl (fun ls hl96 => ?_)
            refine lv_aload_n hx hb dL_law_621 rfl (lv_at hl96 4 rfl) ?_
            obtain ⟨hrc, hw⟩ := hw
            refine z_callV (PX := fun _ _ => False) C I (as := []) (rest := []) (m_X6_thrown E hw) kv_L_80 vc_7 hrc rfl rfl hl96.1 (Nat.le_of_ble_eq_true rfl) ⟨Nat.le_of_ble_eq_true rfl, Nat.le_of_ble_eq_true rfl⟩ ⟨(by first | omega | (simp only [room_1]; omega)), (by first | omega | (simp only [room_1]; omega))⟩ dL_law_622 (fun _ _ _ _ _ _ _ hF => hF.elim) (fun v M97 _ _ I hv => ?_)
            obtain ⟨v98, rfl, hw⟩ := hv
            refine W.eq (g2 := F0 m 625 ls [.int v98]) rfl ?_
            refine lv_iload hx hb dL_law_625 (lv_at hl96 1 rfl) ?_
            refine lv_icmp_eq (tgt := 632) hx hb dL_law_627 (by decide) (fun c => ?_) (fun c => ?_)
            · replace hw := hw.1 c
              refine lv_iload hx hb dL_law_632 (lv_at hl96 1 rfl) ?_
              refine lv_if_ne (tgt := 649) hx hb dL_law_634 (by decide) (fun c => ?_) (fun c => ?_)
              · replace hw := hw.1 c
                refine W.widen (k := (56 + (513 - (n + 1)) * 9 + 1)) (n := (3724 + (513 - (n + 1)) * 242 + 6)) (by first | omega | (simp only [room_1]; omega)) (by first | omega | (simp only [room_1]; omega)) ?_
                exact hb_649 x1 x2 x3 x4 _ _ _ ls I (lv_sub hl96 [2, 3, 4, 5, 6] rfl) hw
              · replace hw := hw.2 c
                refine lv_aload_n hx hb dL_law_637 rfl (lv_at hl96 5 rfl) ?_
                refine lv_iconst (v := 0) hx hb dL_law_638 (by decide) ?_
                refine z_lald C I hw dL_law_639 (fun v99 hw => ?_)
                refine lv_iload hx hb dL_law_640 (lv_at hl96 0 rfl) ?_
                refine lv_i2l hx hb dL_law_642 rfl ?_
                refine W.lcmp hx hb dL_law_643 ?_
                refine lv_if_eq (tgt := 649) hx hb dL_law_644 (by decide) (fun c => ?_) (fun c => ?_)
                · replace hw := hw.1 c
                  refine W.widen (k := (56 + (513 - (n + 1)) * 9 + 1)) (n := (3724 + (513 - (n + 1)) * 242 + 6)) (by first | omega | (simp only [room_1]; omega)) (by first | omega | (simp only [room_1]; omega)) ?_
                  exact hb_649 x1 x2 x3 x4 _ _ _ ls I (lv_sub hl96 [2, 3, 4, 5, 6] rfl) hw
                · replace hw := hw.2 c
                  refine lv_iconst (v := 0) hx hb dL_law_647 (by decide) ?_
                  exact hw.elim
            · replace hw := hw.2 c
              refine lv_iconst (v := 0) hx hb dL_law_630 (by decide) ?_
              exact hw.elim
          · have hw := hw.2.2.2.2.2.2.2.2.1 rfl
            refine lv_tableIn (off := 613) (tgt := 652) hx hb dL_law_39 (by decide) (by decide) (by decide) (by decide) ?_
            refine lv_aload_n hx hb dL_law_652 rfl (lv_at hl 1 rfl) ?_
            refine lv_aload_n hx hb dL_law_653 rfl (lv_at hl 0 rfl) ?_
            refine lv_iload hx hb dL_law_654 (lv_at hl 4 rfl) ?_
            refine lv_iconst (v := 1) hx hb dL_law_656 (by decide) ?_
            refine lv_iadd hx hb dL_law_657 ?_
            refine z_sald C I hw dL_law_658 (fun v100 hw => ?_)
            refine lv_aload_n hx hb dL_law_659 rfl (lv_at hl 0 rfl) ?_
            refine lv_iload hx hb dL_law_660 (lv_at hl 4 rfl) ?_
            refine lv_iconst (v := 2) hx hb dL_law_662 (by decide) ?_
            refine lv_iadd hx hb dL_law_663 ?_
            refine z_sald C I hw dL_law_664 (fun v101 hw => ?_)
            refine lv_aload_n hx hb dL_law_665 rfl (lv_at hl 3 rfl) ?_
            refine z_callSX C I (as := [.ref x1, .int v100, .int v101, .ref x3]) (rest := []) (m_L_number E EN hw) kw_L_108 rfl rfl hl.1 (Nat.le_of_ble_eq_true rfl) ⟨Nat.le_of_ble_eq_true rfl, Nat.le_of_ble_eq_true rfl⟩ ⟨(by first | omega | (simp only [room_1]; omega)), (by first | omega | (simp only [room_1]; omega))⟩ dL_law_666 (fun v M102 _ _ I hv => ?_)
            obtain ⟨v103, rfl, hw⟩ := hv
            refine W.eq (g2 := F0 m 669 ls [.int v103]) rfl ?_
            refine lv_istore (lv' := [(5, .int v103), (0, .ref b), (1, .ref x1), (2, .ref x2), (3, .ref x3), (4, .int x4)]) hx hb dL_law_669 hl (by decide) rfl (fun ls hl104 => ?_)
            refine lv_aload_n hx hb dL_law_671 rfl (lv_at hl104 3 rfl) ?_
            refine lv_aload_n hx hb dL_law_672 rfl (lv_at hl104 1 rfl) ?_
            refine lv_iload hx hb dL_law_673 (lv_at hl104 5 rfl) ?_
            refine lv_iconst (v := 1) hx hb dL_law_675 (by decide) ?_
            refine lv_iadd hx hb dL_law_676 ?_
            refine z_sald C I hw dL_law_677 (fun v105 hw => ?_)
            refine lv_aload_n hx hb dL_law_678 rfl (lv_at hl104 1 rfl) ?_
            refine lv_iload hx hb dL_law_679 (lv_at hl104 5 rfl) ?_
            refine lv_iconst (v := 2) hx hb dL_law_681 (by decide) ?_
            refine lv_iadd hx hb dL_law_682 ?_
            refine z_sald C I hw dL_law_683 (fun v106 hw => ?_)
            obtain ⟨hrc, hw⟩ := hw
            refine z_callV (PX := fun _ _ => False) C I (as := [.int v105, .int v106]) (rest := []) (m_X6_number E hw) kv_L_111 vc_7 hrc rfl rfl hl104.1 (Nat.le_of_ble_eq_true rfl) ⟨Nat.le_of_ble_eq_true rfl, Nat.le_of_ble_eq_true rfl⟩ ⟨(by first | omega | (simp only [room_1]; omega)), (by first | omega | (simp only [room_1]; omega))⟩ dL_law_684 (fun _ _ _ _ _ _ _ hF => hF.elim) (fun v M107 _ _ I hv => ?_)
            obtain ⟨v108, rfl, hw⟩ := hv
            refine W.eq (g2 := F0 m 687 ls [.int v108]) rfl ?_
            refine lv_istore (lv' := [(6, .int v108), (5, .int v103), (0, .ref b), (1, .ref x1), (2, .ref x2), (3, .ref x3), (4, .int x4)]) hx hb dL_law_687 hl104 (by decide) rfl (fun ls hl109 => ?_)
            refine lv_aload_n hx hb dL_law_689 rfl (lv_at hl109 4 rfl) ?_
            obtain ⟨hrc, hw⟩ := hw
            refine z_callV (PX := fun _ _ => False) C I (as := []) (rest := []) (m_X6_thrown E hw) kv_L_80 vc_7 hrc rfl rfl hl109.1 (Nat.le_of_ble_eq_true rfl) ⟨Nat.le_of_ble_eq_true rfl, Nat.le_of_ble_eq_true rfl⟩ ⟨(by first | omega | (simp only [room_1]; omega)), (by first | omega | (simp only [room_1]; omega))⟩ dL_law_690 (fun _ _ _ _ _ _ _ hF => hF.elim) (fun v M110 _ _ I hv => ?_)
            obtain ⟨v111, rfl, hw⟩ := hv
            refine W.eq (g2 := F0 m 693 ls [.int v111]) rfl ?_
            refine lv_iload hx hb dL_law_693 (lv_at hl109 1 rfl) ?_
            refine lv_icmp_eq (tgt := 700) hx hb dL_law_695 (by decide) (fun c => ?_) (fun c => ?_)
            · replace hw := hw.1 c
              refine lv_iload hx hb dL_law_700 (lv_at hl109 1 rfl) ?_
              refine lv_if_ne (tgt := 717) hx hb dL_law_702 (by decide) (fun c => ?_) (fun c => ?_)
              · replace hw := hw.1 c
                refine W.widen (k := (56 + (513 - (n + 1)) * 9 + 2)) (n := (3724 + (513 - (n + 1)) * 242 + 12)) (by first | omega | (simp only [room_1]; omega)) (by first | omega | (simp only [room_1]; omega)) ?_
                exact hb_717 x1 x2 x3 x4 _ _ _ ls I (lv_sub hl109 [2, 3, 4, 5, 6] rfl) hw
              · replace hw := hw.2 c
                refine lv_aload_n hx hb dL_law_705 rfl (lv_at hl109 5 rfl) ?_
                refine lv_iconst (v := 0) hx hb dL_law_706 (by decide) ?_
                refine z_lald C I hw dL_law_707 (fun v112 hw => ?_)
                refine lv_iload hx hb dL_law_708 (lv_at hl109 0 rfl) ?_
                refine lv_i2l hx hb dL_law_710 rfl ?_
                refine W.lcmp hx hb dL_law_711 ?_
                refine lv_if_eq (tgt := 717) hx hb dL_law_712 (by decide) (fun c => ?_) (fun c => ?_)
                · replace hw := hw.1 c
                  refine W.widen (k := (56 + (513 - (n + 1)) * 9 + 2)) (n := (3724 + (513 - (n + 1)) * 242 + 12)) (by first | omega | (simp only [room_1]; omega)) (by first | omega | (simp only [room_1]; omega)) ?_
                  exact hb_717 x1 x2 x3 x4 _ _ _ ls I (lv_sub hl109 [2, 3, 4, 5, 6] rfl) hw
                · replace hw := hw.2 c
                  refine lv_iconst (v := 0) hx hb dL_law_715 (by decide) ?_
                  exact hw.elim
            · replace hw := hw.2 c
              refine lv_iconst (v := 0) hx hb dL_law_698 (by decide) ?_
              exact hw.elim
          · have hw := hw.2.2.2.2.2.2.2.2.2.1 rfl
            refine lv_tableIn (off := 681) (tgt := 720) hx hb dL_law_39 (by decide) (by decide) (by decide) (by decide) ?_
            refine lv_aload_n hx hb dL_law_720 rfl (lv_at hl 1 rfl) ?_
            refine lv_aload_n hx hb dL_law_721 rfl (lv_at hl 0 rfl) ?_
            refine lv_iload hx hb dL_law_722 (lv_at hl 4 rfl) ?_
            refine lv_iconst (v := 1) hx hb dL_law_724 (by decide) ?_
            refine lv_iadd hx hb dL_law_725 ?_
            refine z_sald C I hw dL_law_726 (fun v113 hw => ?_)
            refine lv_aload_n hx hb dL_law_727 rfl (lv_at hl 0 rfl) ?_
            refine lv_iload hx hb dL_law_728 (lv_at hl 4 rfl) ?_
            refine lv_iconst (v := 2) hx hb dL_law_730 (by decide) ?_
            refine lv_iadd hx hb dL_law_731 ?_
            refine z_sald C I hw dL_law_732 (fun v114 hw => ?_)
            refine lv_aload_n hx hb dL_law_733 rfl (lv_at hl 3 rfl) ?_
            refine z_callSX C I (as := [.ref x1, .int v113, .int v114, .ref x3]) (rest := []) (m_L_isThere E EN hw) kw_L_112 rfl rfl hl.1 (Nat.le_of_ble_eq_true rfl) ⟨Nat.le_of_ble_eq_true rfl, Nat.le_of_ble_eq_true rfl⟩ ⟨(by first | omega | (simp only [room_1]; omega)), (by first | omega | (simp only [room_1]; omega))⟩ dL_law_734 (fun v M115 _ _ I hv => ?_)
            obtain ⟨v116, rfl, hw⟩ := hv
            refine W.eq (g2 := F0 m 737 ls [.int v116]) rfl ?_
            refine lv_istore (lv' := [(5, .int v116), (0, .ref b), (1, .ref x1), (2, .ref x2), (3, .ref x3), (4, .int x4)]) hx hb dL_law_737 hl (by decide) rfl (fun ls hl117 => ?_)
            refine lv_aload_n hx hb dL_law_739 rfl (lv_at hl117 3 rfl) ?_
            refine lv_aload_n hx hb dL_law_740 rfl (lv_at hl117 1 rfl) ?_
            refine lv_iload hx hb dL_law_741 (lv_at hl117 5 rfl) ?_
            refine lv_iconst (v := 1) hx hb dL_law_743 (by decide) ?_
            refine lv_iadd hx hb dL_law_744 ?_
            refine z_sald C I hw dL_law_745 (fun v118 hw => ?_)
            refine lv_aload_n hx hb dL_law_746 rfl (lv_at hl117 1 rfl) ?_
            refine lv_iload hx hb dL_law_747 (lv_at hl117 5 rfl) ?_
            refine lv_iconst (v := 2) hx hb dL_law_749 (by decide) ?_
            refine lv_iadd hx hb dL_law_750 ?_
            refine z_sald C I hw dL_law_751 (fun v119 hw => ?_)
            obtain ⟨hrc, hw⟩ := hw
            refine z_callV (PX := fun _ _ => False) C I (as := [.int v118, .int v119]) (rest := []) (m_X6_isThere E hw) kv_L_114 vc_7 hrc rfl rfl hl117.1 (Nat.le_of_ble_eq_true rfl) ⟨Nat.le_of_ble_eq_true rfl, Nat.le_of_ble_eq_true rfl⟩ ⟨(by first | omega | (simp only [room_1]; omega)), (by first | omega | (simp only [room_1]; omega))⟩ dL_law_752 (fun _ _ _ _ _ _ _ hF => hF.elim) (fun v M120 _ _ I hv => ?_)
            obtain ⟨v121, rfl, hv121, hw⟩ := hv
            refine W.eq (g2 := F0 m 755 ls [.int v121]) rfl ?_
            refine lv_istore (lv' := [(6, .int v121), (5, .int v116), (0, .ref b), (1, .ref x1), (2, .ref x2), (3, .ref x3), (4, .int x4)]) hx hb dL_law_755 hl117 (by decide) rfl (fun ls hl122 => ?_)
            refine lv_aload_n hx hb dL_law_757 rfl (lv_at hl122 4 rfl) ?_
            obtain ⟨hrc, hw⟩ := hw
            refine z_callV (PX := fun _ _ => False) C I (as := []) (rest := []) (m_X6_thrown E hw) kv_L_80 vc_7 hrc rfl rfl hl122.1 (Nat.le_of_ble_eq_true rfl) ⟨Nat.le_of_ble_eq_true rfl, Nat.le_of_ble_eq_true rfl⟩ ⟨(by first | omega | (simp only [room_1]; omega)), (by first | omega | (simp only [room_1]; omega))⟩ dL_law_758 (fun _ _ _ _ _ _ _ hF => hF.elim) (fun v M123 _ _ I hv => ?_)
            obtain ⟨v124, rfl, hw⟩ := hv
            refine W.eq (g2 := F0 m 761 ls [.int v124]) rfl ?_
            refine lv_iload hx hb dL_law_761 (lv_at hl122 1 rfl) ?_
            refine lv_icmp_eq (tgt := 768) hx hb dL_law_763 (by decide) (fun c => ?_) (fun c => ?_)
            · replace hw := hw.1 c
              refine lv_iload hx hb dL_law_768 (lv_at hl122 1 rfl) ?_
              refine lv_if_ne (tgt := 792) hx hb dL_law_770 (by decide) (fun c => ?_) (fun c => ?_)
              · replace hw := hw.1 c
                refine W.widen (k := (56 + (513 - (n + 1)) * 9 + 2)) (n := (3724 + (513 - (n + 1)) * 242 + 12)) (by first | omega | (simp only [room_1]; omega)) (by first | omega | (simp only [room_1]; omega)) ?_
                exact hb_792 x1 x2 x3 x4 _ _ _ ls I (lv_sub hl122 [2, 3, 4, 5, 6] rfl) hw
              · replace hw := hw.2 c
                refine lv_aload_n hx hb dL_law_773 rfl (lv_at hl122 5 rfl) ?_
                refine lv_iconst (v := 0) hx hb dL_law_774 (by decide) ?_
                refine z_lald C I hw dL_law_775 (fun v125 hw => ?_)
                refine lv_iload hx hb dL_law_776 (lv_at hl122 0 rfl) ?_
                refine lv_if_eq (tgt := 785) hx hb dL_law_778 (by decide) (fun c => ?_) (fun c => ?_)
                · replace hw := hw.1 c
                  refine lv_lconst (v := 0) hx hb dL_law_785 (by decide) ?_
                  refine W.widen (k := (56 + (513 - (n + 1)) * 9 + 2)) (n := (3724 + (513 - (n + 1)) * 242 + 12)) (by first | omega | (simp only [room_1]; omega)) (by first | omega | (simp only [room_1]; omega)) ?_
                  exact hb_786 x1 x2 x3 x4 (0 : Int64) v125 _ _ _ ls I (lv_sub hl122 [2, 3, 4, 5, 6] rfl) hw
                · replace hw := hw.2 c
                  refine lv_lconst (v := 1) hx hb dL_law_781 (by decide) ?_
                  refine lv_goto (tgt := 786) hx hb dL_law_782 (by decide) ?_
                  refine W.widen (k := (56 + (513 - (n + 1)) * 9 + 2)) (n := (3724 + (513 - (n + 1)) * 242 + 12)) (by first | omega | (simp only [room_1]; omega)) (by first | omega | (simp only [room_1]; omega)) ?_
                  exact hb_786 x1 x2 x3 x4 (1 : Int64) v125 _ _ _ ls I (lv_sub hl122 [2, 3, 4, 5, 6] rfl) hw
            · replace hw := hw.2 c
              refine lv_iconst (v := 0) hx hb dL_law_766 (by decide) ?_
              exact hw.elim
          · have hw := hw.2.2.2.2.2.2.2.2.2.2.1 rfl
            refine lv_tableIn (off := 756) (tgt := 795) hx hb dL_law_39 (by decide) (by decide) (by decide) (by decide) ?_
            refine lv_aload_n hx hb dL_law_795 rfl (lv_at hl 1 rfl) ?_
            refine lv_aload_n hx hb dL_law_796 rfl (lv_at hl 0 rfl) ?_
            refine lv_iload hx hb dL_law_797 (lv_at hl 4 rfl) ?_
            refine lv_iconst (v := 1) hx hb dL_law_799 (by decide) ?_
            refine lv_iadd hx hb dL_law_800 ?_
            refine z_sald C I hw dL_law_801 (fun v126 hw => ?_)
            refine lv_aload_n hx hb dL_law_802 rfl (lv_at hl 0 rfl) ?_
            refine lv_iload hx hb dL_law_803 (lv_at hl 4 rfl) ?_
            refine lv_iconst (v := 2) hx hb dL_law_805 (by decide) ?_
            refine lv_iadd hx hb dL_law_806 ?_
            refine z_sald C I hw dL_law_807 (fun v127 hw => ?_)
            refine lv_aload_n hx hb dL_law_808 rfl (lv_at hl 3 rfl) ?_
            refine z_callSX C I (as := [.ref x1, .int v126, .int v127, .ref x3]) (rest := []) (m_L_length E EN hw) kw_L_115 rfl rfl hl.1 (Nat.le_of_ble_eq_true rfl) ⟨Nat.le_of_ble_eq_true rfl, Nat.le_of_ble_eq_true rfl⟩ ⟨(by first | omega | (simp only [room_1]; omega)), (by first | omega | (simp only [room_1]; omega))⟩ dL_law_809 (fun v M128 _ _ I hv => ?_)
            obtain ⟨v129, rfl, hw⟩ := hv
            refine W.eq (g2 := F0 m 812 ls [.int v129]) rfl ?_
            refine lv_istore (lv' := [(5, .int v129), (0, .ref b), (1, .ref x1), (2, .ref x2), (3, .ref x3), (4, .int x4)]) hx hb dL_law_812 hl (by decide) rfl (fun ls hl130 => ?_)
            refine lv_aload_n hx hb dL_law_814 rfl (lv_at hl130 3 rfl) ?_
            refine lv_aload_n hx hb dL_law_815 rfl (lv_at hl130 1 rfl) ?_
            refine lv_iload hx hb dL_law_816 (lv_at hl130 5 rfl) ?_
            refine lv_iconst (v := 1) hx hb dL_law_818 (by decide) ?_
            refine lv_iadd hx hb dL_law_819 ?_
            refine z_sald C I hw dL_law_820 (fun v131 hw => ?_)
            refine lv_aload_n hx hb dL_law_821 rfl (lv_at hl130 1 rfl) ?_
            refine lv_iload hx hb dL_law_822 (lv_at hl130 5 rfl) ?_
            refine lv_iconst (v := 2) hx hb dL_law_824 (by decide) ?_
            refine lv_iadd hx hb dL_law_825 ?_
            refine z_sald C I hw dL_law_826 (fun v132 hw => ?_)
            obtain ⟨hrc, hw⟩ := hw
            refine z_callV (PX := fun _ _ => False) C I (as := [.int v131, .int v132]) (rest := []) (m_X6_length E hw) kv_L_117 vc_7 hrc rfl rfl hl130.1 (Nat.le_of_ble_eq_true rfl) ⟨Nat.le_of_ble_eq_true rfl, Nat.le_of_ble_eq_true rfl⟩ ⟨(by first | omega | (simp only [room_1]; omega)), (by first | omega | (simp only [room_1]; omega))⟩ dL_law_827 (fun _ _ _ _ _ _ _ hF => hF.elim) (fun v M133 _ _ I hv => ?_)
            obtain ⟨v134, rfl, hw⟩ := hv
            refine W.eq (g2 := F0 m 830 ls [.int v134]) rfl ?_
            refine lv_istore (lv' := [(6, .int v134), (5, .int v129), (0, .ref b), (1, .ref x1), (2, .ref x2), (3, .ref x3), (4, .int x4)]) hx hb dL_law_830 hl130 (by decide) rfl (fun ls hl135 => ?_)
            refine lv_aload_n hx hb dL_law_832 rfl (lv_at hl135 4 rfl) ?_
            obtain ⟨hrc, hw⟩ := hw
            refine z_callV (PX := fun _ _ => False) C I (as := []) (rest := []) (m_X6_thrown E hw) kv_L_80 vc_7 hrc rfl rfl hl135.1 (Nat.le_of_ble_eq_true rfl) ⟨Nat.le_of_ble_eq_true rfl, Nat.le_of_ble_eq_true rfl⟩ ⟨(by first | omega | (simp only [room_1]; omega)), (by first | omega | (simp only [room_1]; omega))⟩ dL_law_833 (fun _ _ _ _ _ _ _ hF => hF.elim) (fun v M136 _ _ I hv => ?_)
            obtain ⟨v137, rfl, hw⟩ := hv
            refine W.eq (g2 := F0 m 836 ls [.int v137]) rfl ?_
            refine lv_iload hx hb dL_law_836 (lv_at hl135 1 rfl) ?_
            refine lv_icmp_eq (tgt := 843) hx hb dL_law_838 (by decide) (fun c => ?_) (fun c => ?_)
            · replace hw := hw.1 c
              refine lv_iload hx hb dL_law_843 (lv_at hl135 1 rfl) ?_
              refine lv_if_ne (tgt := 860) hx hb dL_law_845 (by decide) (fun c => ?_) (fun c => ?_)
              · replace hw := hw.1 c
                refine W.widen (k := (56 + (513 - (n + 1)) * 9 + 2)) (n := (3724 + (513 - (n + 1)) * 242 + 12)) (by first | omega | (simp only [room_1]; omega)) (by first | omega | (simp only [room_1]; omega)) ?_
                exact hb_860 x1 x2 x3 x4 _ _ _ ls I (lv_sub hl135 [2, 3, 4, 5, 6] rfl) hw
              · replace hw := hw.2 c
                refine lv_aload_n hx hb dL_law_848 rfl (lv_at hl135 5 rfl) ?_
                refine lv_iconst (v := 0) hx hb dL_law_849 (by decide) ?_
                refine z_lald C I hw dL_law_850 (fun v138 hw => ?_)
                refine lv_iload hx hb dL_law_851 (lv_at hl135 0 rfl) ?_
                refine lv_i2l hx hb dL_law_853 rfl ?_
                refine W.lcmp hx hb dL_law_854 ?_
                refine lv_if_eq (tgt := 860) hx hb dL_law_855 (by decide) (fun c => ?_) (fun c => ?_)
                · replace hw := hw.1 c
                  refine W.widen (k := (56 + (513 - (n + 1)) * 9 + 2)) (n := (3724 + (513 - (n + 1)) * 242 + 12)) (by first | omega | (simp only [room_1]; omega)) (by first | omega | (simp only [room_1]; omega)) ?_
                  exact hb_860 x1 x2 x3 x4 _ _ _ ls I (lv_sub hl135 [2, 3, 4, 5, 6] rfl) hw
                · replace hw := hw.2 c
                  refine lv_iconst (v := 0) hx hb dL_law_858 (by decide) ?_
                  exact hw.elim
            · replace hw := hw.2 c
              refine lv_iconst (v := 0) hx hb dL_law_841 (by decide) ?_
              exact hw.elim
          · have hw := hw.2.2.2.2.2.2.2.2.2.2.2.1 rfl
            refine lv_tableIn (off := 824) (tgt := 863) hx hb dL_law_39 (by decide) (by decide) (by decide) (by decide) ?_
            refine lv_aload_n hx hb dL_law_863 rfl (lv_at hl 1 rfl) ?_
            refine lv_aload_n hx hb dL_law_864 rfl (lv_at hl 0 rfl) ?_
            refine lv_iload hx hb dL_law_865 (lv_at hl 4 rfl) ?_
            refine lv_iconst (v := 1) hx hb dL_law_867 (by decide) ?_
            refine lv_iadd hx hb dL_law_868 ?_
            refine z_sald C I hw dL_law_869 (fun v139 hw => ?_)
            refine lv_aload_n hx hb dL_law_870 rfl (lv_at hl 0 rfl) ?_
            refine lv_iload hx hb dL_law_871 (lv_at hl 4 rfl) ?_
            refine lv_iconst (v := 2) hx hb dL_law_873 (by decide) ?_
            refine lv_iadd hx hb dL_law_874 ?_
            refine z_sald C I hw dL_law_875 (fun v140 hw => ?_)
            refine lv_aload_n hx hb dL_law_876 rfl (lv_at hl 0 rfl) ?_
            refine lv_iload hx hb dL_law_877 (lv_at hl 4 rfl) ?_
            refine lv_iconst (v := 3) hx hb dL_law_879 (by decide) ?_
            refine lv_iadd hx hb dL_law_880 ?_
            refine z_sald C I hw dL_law_881 (fun v141 hw => ?_)
            refine lv_aload_n hx hb dL_law_882 rfl (lv_at hl 0 rfl) ?_
            refine lv_iload hx hb dL_law_883 (lv_at hl 4 rfl) ?_
            refine lv_iconst (v := 4) hx hb dL_law_885 (by decide) ?_
            refine lv_iadd hx hb dL_law_886 ?_
            refine z_sald C I hw dL_law_887 (fun v142 hw => ?_)
            refine lv_aload_n hx hb dL_law_888 rfl (lv_at hl 3 rfl) ?_
            refine z_callSX C I (as := [.ref x1, .int v139, .int v140, .int v141, .int v142, .ref x3]) (rest := []) (m_L_canRead E EN hw) kw_L_118 rfl rfl hl.1 (Nat.le_of_ble_eq_true rfl) ⟨Nat.le_of_ble_eq_true rfl, Nat.le_of_ble_eq_true rfl⟩ ⟨(by first | omega | (simp only [room_1]; omega)), (by first | omega | (simp only [room_1]; omega))⟩ dL_law_889 (fun v M143 _ _ I hv => ?_)
            obtain ⟨v144, rfl, hw⟩ := hv
            refine W.eq (g2 := F0 m 892 ls [.int v144]) rfl ?_
            refine lv_istore (lv' := [(5, .int v144), (0, .ref b), (1, .ref x1), (2, .ref x2), (3, .ref x3), (4, .int x4)]) hx hb dL_law_892 hl (by decide) rfl (fun ls hl145 => ?_)
            refine lv_aload_n hx hb dL_law_894 rfl (lv_at hl145 3 rfl) ?_
            refine lv_aload_n hx hb dL_law_895 rfl (lv_at hl145 1 rfl) ?_
            refine lv_iload hx hb dL_law_896 (lv_at hl145 5 rfl) ?_
            refine lv_iconst (v := 1) hx hb dL_law_898 (by decide) ?_
            refine lv_iadd hx hb dL_law_899 ?_
            refine z_sald C I hw dL_law_900 (fun v146 hw => ?_)
            refine lv_aload_n hx hb dL_law_901 rfl (lv_at hl145 1 rfl) ?_
            refine lv_iload hx hb dL_law_902 (lv_at hl145 5 rfl) ?_
            refine lv_iconst (v := 2) hx hb dL_law_904 (by decide) ?_
            refine lv_iadd hx hb dL_law_905 ?_
            refine z_sald C I hw dL_law_906 (fun v147 hw => ?_)
            refine lv_aload_n hx hb dL_law_907 rfl (lv_at hl145 1 rfl) ?_
            refine lv_iload hx hb dL_law_908 (lv_at hl145 5 rfl) ?_
            refine lv_iconst (v := 3) hx hb dL_law_910 (by decide) ?_
            refine lv_iadd hx hb dL_law_911 ?_
            refine z_sald C I hw dL_law_912 (fun v148 hw => ?_)
            refine lv_aload_n hx hb dL_law_913 rfl (lv_at hl145 1 rfl) ?_
            refine lv_iload hx hb dL_law_914 (lv_at hl145 5 rfl) ?_
            refine lv_iconst (v := 4) hx hb dL_law_916 (by decide) ?_
            refine lv_iadd hx hb dL_law_917 ?_
            refine z_sald C I hw dL_law_918 (fun v149 hw => ?_)
            obtain ⟨hrc, hw⟩ := hw
            refine z_callV (PX := fun _ _ => False) C I (as := [.int v146, .int v147, .int v148, .int v149]) (rest := []) (m_X6_canRead E hw) kv_L_120 vc_7 hrc rfl rfl hl145.1 (Nat.le_of_ble_eq_true rfl) ⟨Nat.le_of_ble_eq_true rfl, Nat.le_of_ble_eq_true rfl⟩ ⟨(by first | omega | (simp only [room_1]; omega)), (by first | omega | (simp only [room_1]; omega))⟩ dL_law_919 (fun _ _ _ _ _ _ _ hF => hF.elim) (fun v M150 _ _ I hv => ?_)
            obtain ⟨v151, rfl, hv151, hw⟩ := hv
            refine W.eq (g2 := F0 m 922 ls [.int v151]) rfl ?_
            refine lv_istore (lv' := [(6, .int v151), (5, .int v144), (0, .ref b), (1, .ref x1), (2, .ref x2), (3, .ref x3), (4, .int x4)]) hx hb dL_law_922 hl145 (by decide) rfl (fun ls hl152 => ?_)
            refine lv_aload_n hx hb dL_law_924 rfl (lv_at hl152 4 rfl) ?_
            obtain ⟨hrc, hw⟩ := hw
            refine z_callV (PX := fun _ _ => False) C I (as := []) (rest := []) (m_X6_thrown E hw) kv_L_80 vc_7 hrc rfl rfl hl152.1 (Nat.le_of_ble_eq_true rfl) ⟨Nat.le_of_ble_eq_true rfl, Nat.le_of_ble_eq_true rfl⟩ ⟨(by first | omega | (simp only [room_1]; omega)), (by first | omega | (simp only [room_1]; omega))⟩ dL_law_925 (fun _ _ _ _ _ _ _ hF => hF.elim) (fun v M153 _ _ I hv => ?_)
            obtain ⟨v154, rfl, hw⟩ := hv
            refine W.eq (g2 := F0 m 928 ls [.int v154]) rfl ?_
            refine lv_iload hx hb dL_law_928 (lv_at hl152 1 rfl) ?_
            refine lv_icmp_eq (tgt := 935) hx hb dL_law_930 (by decide) (fun c => ?_) (fun c => ?_)
            · replace hw := hw.1 c
              refine lv_iload hx hb dL_law_935 (lv_at hl152 1 rfl) ?_
              refine lv_if_ne (tgt := 959) hx hb dL_law_937 (by decide) (fun c => ?_) (fun c => ?_)
              · replace hw := hw.1 c
                refine W.widen (k := (56 + (513 - (n + 1)) * 9 + 6)) (n := (3724 + (513 - (n + 1)) * 242 + 36)) (by first | omega | (simp only [room_1]; omega)) (by first | omega | (simp only [room_1]; omega)) ?_
                exact hb_959 x1 x2 x3 x4 _ _ _ ls I (lv_sub hl152 [2, 3, 4, 5, 6] rfl) hw
              · replace hw := hw.2 c
                refine lv_aload_n hx hb dL_law_940 rfl (lv_at hl152 5 rfl) ?_
                refine lv_iconst (v := 0) hx hb dL_law_941 (by decide) ?_
                refine z_lald C I hw dL_law_942 (fun v155 hw => ?_)
                refine lv_iload hx hb dL_law_943 (lv_at hl152 0 rfl) ?_
                refine lv_if_eq (tgt := 952) hx hb dL_law_945 (by decide) (fun c => ?_) (fun c => ?_)
                · replace hw := hw.1 c
                  refine lv_lconst (v := 0) hx hb dL_law_952 (by decide) ?_
                  refine W.widen (k := (56 + (513 - (n + 1)) * 9 + 6)) (n := (3724 + (513 - (n + 1)) * 242 + 36)) (by first | omega | (simp only [room_1]; omega)) (by first | omega | (simp only [room_1]; omega)) ?_
                  exact hb_953 x1 x2 x3 x4 (0 : Int64) v155 _ _ _ ls I (lv_sub hl152 [2, 3, 4, 5, 6] rfl) hw
                · replace hw := hw.2 c
                  refine lv_lconst (v := 1) hx hb dL_law_948 (by decide) ?_
                  refine lv_goto (tgt := 953) hx hb dL_law_949 (by decide) ?_
                  refine W.widen (k := (56 + (513 - (n + 1)) * 9 + 6)) (n := (3724 + (513 - (n + 1)) * 242 + 36)) (by first | omega | (simp only [room_1]; omega)) (by first | omega | (simp only [room_1]; omega)) ?_
                  exact hb_953 x1 x2 x3 x4 (1 : Int64) v155 _ _ _ ls I (lv_sub hl152 [2, 3, 4, 5, 6] rfl) hw
            · replace hw := hw.2 c
              refine lv_iconst (v := 0) hx hb dL_law_933 (by decide) ?_
              exact hw.elim
          · have hw := hw.2.2.2.2.2.2.2.2.2.2.2.2.1 rfl
            refine lv_tableIn (off := 923) (tgt := 962) hx hb dL_law_39 (by decide) (by decide) (by decide) (by decide) ?_
            refine lv_aload_n hx hb dL_law_962 rfl (lv_at hl 1 rfl) ?_
            refine lv_aload_n hx hb dL_law_963 rfl (lv_at hl 0 rfl) ?_
            refine lv_iload hx hb dL_law_964 (lv_at hl 4 rfl) ?_
            refine lv_iconst (v := 1) hx hb dL_law_966 (by decide) ?_
            refine lv_iadd hx hb dL_law_967 ?_
            refine z_sald C I hw dL_law_968 (fun v156 hw => ?_)
            refine lv_aload_n hx hb dL_law_969 rfl (lv_at hl 0 rfl) ?_
            refine lv_iload hx hb dL_law_970 (lv_at hl 4 rfl) ?_
            refine lv_iconst (v := 2) hx hb dL_law_972 (by decide) ?_
            refine lv_iadd hx hb dL_law_973 ?_
            refine z_sald C I hw dL_law_974 (fun v157 hw => ?_)
            refine lv_aload_n hx hb dL_law_975 rfl (lv_at hl 0 rfl) ?_
            refine lv_iload hx hb dL_law_976 (lv_at hl 4 rfl) ?_
            refine lv_iconst (v := 3) hx hb dL_law_978 (by decide) ?_
            refine lv_iadd hx hb dL_law_979 ?_
            refine z_sald C I hw dL_law_980 (fun v158 hw => ?_)
            refine lv_aload_n hx hb dL_law_981 rfl (lv_at hl 0 rfl) ?_
            refine lv_iload hx hb dL_law_982 (lv_at hl 4 rfl) ?_
            refine lv_iconst (v := 4) hx hb dL_law_984 (by decide) ?_
            refine lv_iadd hx hb dL_law_985 ?_
            refine z_sald C I hw dL_law_986 (fun v159 hw => ?_)
            refine lv_aload_n hx hb dL_law_987 rfl (lv_at hl 3 rfl) ?_
            refine z_callSX C I (as := [.ref x1, .int v156, .int v157, .int v158, .int v159, .ref x3]) (rest := []) (m_L_readsAll E EN hw) kw_L_121 rfl rfl hl.1 (Nat.le_of_ble_eq_true rfl) ⟨Nat.le_of_ble_eq_true rfl, Nat.le_of_ble_eq_true rfl⟩ ⟨(by first | omega | (simp only [room_1]; omega)), (by first | omega | (simp only [room_1]; omega))⟩ dL_law_988 (fun v M160 _ _ I hv => ?_)
            obtain ⟨v161, rfl, hw⟩ := hv
            refine W.eq (g2 := F0 m 991 ls [.int v161]) rfl ?_
            refine lv_istore (lv' := [(5, .int v161), (0, .ref b), (1, .ref x1), (2, .ref x2), (3, .ref x3), (4, .int x4)]) hx hb dL_law_991 hl (by decide) rfl (fun ls hl162 => ?_)
            refine lv_aload_n hx hb dL_law_993 rfl (lv_at hl162 3 rfl) ?_
            refine lv_aload_n hx hb dL_law_994 rfl (lv_at hl162 1 rfl) ?_
            refine lv_iload hx hb dL_law_995 (lv_at hl162 5 rfl) ?_
            refine lv_iconst (v := 1) hx hb dL_law_997 (by decide) ?_
            refine lv_iadd hx hb dL_law_998 ?_
            refine z_sald C I hw dL_law_999 (fun v163 hw => ?_)
            refine lv_aload_n hx hb dL_law_1000 rfl (lv_at hl162 1 rfl) ?_
            refine lv_iload hx hb dL_law_1001 (lv_at hl162 5 rfl) ?_
            refine lv_iconst (v := 2) hx hb dL_law_1003 (by decide) ?_
            refine lv_iadd hx hb dL_law_1004 ?_
            refine z_sald C I hw dL_law_1005 (fun v164 hw => ?_)
            refine lv_aload_n hx hb dL_law_1006 rfl (lv_at hl162 1 rfl) ?_
            refine lv_iload hx hb dL_law_1007 (lv_at hl162 5 rfl) ?_
            refine lv_iconst (v := 3) hx hb dL_law_1009 (by decide) ?_
            refine lv_iadd hx hb dL_law_1010 ?_
            refine z_sald C I hw dL_law_1011 (fun v165 hw => ?_)
            refine lv_aload_n hx hb dL_law_1012 rfl (lv_at hl162 1 rfl) ?_
            refine lv_iload hx hb dL_law_1013 (lv_at hl162 5 rfl) ?_
            refine lv_iconst (v := 4) hx hb dL_law_1015 (by decide) ?_
            refine lv_iadd hx hb dL_law_1016 ?_
            refine z_sald C I hw dL_law_1017 (fun v166 hw => ?_)
            obtain ⟨hrc, hw⟩ := hw
            refine z_callV (PX := fun _ _ => False) C I (as := [.int v163, .int v164, .int v165, .int v166]) (rest := []) (m_X6_readsAll E hw) kv_L_123 vc_7 hrc rfl rfl hl162.1 (Nat.le_of_ble_eq_true rfl) ⟨Nat.le_of_ble_eq_true rfl, Nat.le_of_ble_eq_true rfl⟩ ⟨(by first | omega | (simp only [room_1]; omega)), (by first | omega | (simp only [room_1]; omega))⟩ dL_law_1018 (fun _ _ _ _ _ _ _ hF => hF.elim) (fun v M167 _ _ I hv => ?_)
            obtain ⟨v168, rfl, hv168, hw⟩ := hv
            refine W.eq (g2 := F0 m 1021 ls [.int v168]) rfl ?_
            refine lv_istore (lv' := [(6, .int v168), (5, .int v161), (0, .ref b), (1, .ref x1), (2, .ref x2), (3, .ref x3), (4, .int x4)]) hx hb dL_law_1021 hl162 (by decide) rfl (fun ls hl169 => ?_)
            refine lv_aload_n hx hb dL_law_1023 rfl (lv_at hl169 4 rfl) ?_
            obtain ⟨hrc, hw⟩ := hw
            refine z_callV (PX := fun _ _ => False) C I (as := []) (rest := []) (m_X6_thrown E hw) kv_L_80 vc_7 hrc rfl rfl hl169.1 (Nat.le_of_ble_eq_true rfl) ⟨Nat.le_of_ble_eq_true rfl, Nat.le_of_ble_eq_true rfl⟩ ⟨(by first | omega | (simp only [room_1]; omega)), (by first | omega | (simp only [room_1]; omega))⟩ dL_law_1024 (fun _ _ _ _ _ _ _ hF => hF.elim) (fun v M170 _ _ I hv => ?_)
            obtain ⟨v171, rfl, hw⟩ := hv
            refine W.eq (g2 := F0 m 1027 ls [.int v171]) rfl ?_
            refine lv_iload hx hb dL_law_1027 (lv_at hl169 1 rfl) ?_
            refine lv_icmp_eq (tgt := 1034) hx hb dL_law_1029 (by decide) (fun c => ?_) (fun c => ?_)
            · replace hw := hw.1 c
              refine lv_iload hx hb dL_law_1034 (lv_at hl169 1 rfl) ?_
              refine lv_if_ne (tgt := 1058) hx hb dL_law_1036 (by decide) (fun c => ?_) (fun c => ?_)
              · replace hw := hw.1 c
                refine W.widen (k := (56 + (513 - (n + 1)) * 9 + 7)) (n := (3724 + (513 - (n + 1)) * 242 + 42)) (by first | omega | (simp only [room_1]; omega)) (by first | omega | (simp only [room_1]; omega)) ?_
                exact hb_1058 x1 x2 x3 x4 _ _ _ ls I (lv_sub hl169 [2, 3, 4, 5, 6] rfl) hw
              · replace hw := hw.2 c
                refine lv_aload_n hx hb dL_law_1039 rfl (lv_at hl169 5 rfl) ?_
                refine lv_iconst (v := 0) hx hb dL_law_1040 (by decide) ?_
                refine z_lald C I hw dL_law_1041 (fun v172 hw => ?_)
                refine lv_iload hx hb dL_law_1042 (lv_at hl169 0 rfl) ?_
                refine lv_if_eq (tgt := 1051) hx hb dL_law_1044 (by decide) (fun c => ?_) (fun c => ?_)
                · replace hw := hw.1 c
                  refine lv_lconst (v := 0) hx hb dL_law_1051 (by decide) ?_
                  refine W.widen (k := (56 + (513 - (n + 1)) * 9 + 7)) (n := (3724 + (513 - (n + 1)) * 242 + 42)) (by first | omega | (simp only [room_1]; omega)) (by first | omega | (simp only [room_1]; omega)) ?_
                  exact hb_1052 x1 x2 x3 x4 (0 : Int64) v172 _ _ _ ls I (lv_sub hl169 [2, 3, 4, 5, 6] rfl) hw
                · replace hw := hw.2 c
                  refine lv_lconst (v := 1) hx hb dL_law_1047 (by decide) ?_
                  refine lv_goto (tgt := 1052) hx hb dL_law_1048 (by decide) ?_
                  refine W.widen (k := (56 + (513 - (n + 1)) * 9 + 7)) (n := (3724 + (513 - (n + 1)) * 242 + 42)) (by first | omega | (simp only [room_1]; omega)) (by first | omega | (simp only [room_1]; omega)) ?_
                  exact hb_1052 x1 x2 x3 x4 (1 : Int64) v172 _ _ _ ls I (lv_sub hl169 [2, 3, 4, 5, 6] rfl) hw
            · replace hw := hw.2 c
              refine lv_iconst (v := 0) hx hb dL_law_1032 (by decide) ?_
              exact hw.elim
          · have hw := hw.2.2.2.2.2.2.2.2.2.2.2.2.2.1 rfl
            refine lv_tableIn (off := 1022) (tgt := 1061) hx hb dL_law_39 (by decide) (by decide) (by decide) (by decide) ?_
            refine lv_aload_n hx hb dL_law_1061 rfl (lv_at hl 1 rfl) ?_
            refine lv_aload_n hx hb dL_law_1062 rfl (lv_at hl 0 rfl) ?_
            refine lv_iload hx hb dL_law_1063 (lv_at hl 4 rfl) ?_
            refine lv_iconst (v := 1) hx hb dL_law_1065 (by decide) ?_
            refine lv_iadd hx hb dL_law_1066 ?_
            refine z_sald C I hw dL_law_1067 (fun v173 hw => ?_)
            refine lv_aload_n hx hb dL_law_1068 rfl (lv_at hl 3 rfl) ?_
            refine z_callSX C I (as := [.ref x1, .int v173, .ref x3]) (rest := []) (m_L_value E EN hw) kw_L_124 rfl rfl hl.1 (Nat.le_of_ble_eq_true rfl) ⟨Nat.le_of_ble_eq_true rfl, Nat.le_of_ble_eq_true rfl⟩ ⟨(by first | omega | (simp only [room_1]; omega)), (by first | omega | (simp only [room_1]; omega))⟩ dL_law_1069 (fun v M174 _ _ I hv => ?_)
            obtain ⟨v175, rfl, hw⟩ := hv
            refine W.eq (g2 := F0 m 1072 ls [.int v175]) rfl ?_
            refine lv_istore (lv' := [(5, .int v175), (0, .ref b), (1, .ref x1), (2, .ref x2), (3, .ref x3), (4, .int x4)]) hx hb dL_law_1072 hl (by decide) rfl (fun ls hl176 => ?_)
            refine lv_aload_n hx hb dL_law_1074 rfl (lv_at hl176 3 rfl) ?_
            refine lv_aload_n hx hb dL_law_1075 rfl (lv_at hl176 1 rfl) ?_
            refine lv_iload hx hb dL_law_1076 (lv_at hl176 5 rfl) ?_
            refine lv_iconst (v := 1) hx hb dL_law_1078 (by decide) ?_
            refine lv_iadd hx hb dL_law_1079 ?_
            refine z_sald C I hw dL_law_1080 (fun v177 hw => ?_)
            obtain ⟨hrc, hw⟩ := hw
            refine z_callV (PX := fun _ _ => False) C I (as := [.int v177]) (rest := []) (m_X6_value E hw) kv_L_126 vc_7 hrc rfl rfl hl176.1 (Nat.le_of_ble_eq_true rfl) ⟨Nat.le_of_ble_eq_true rfl, Nat.le_of_ble_eq_true rfl⟩ ⟨(by first | omega | (simp only [room_1]; omega)), (by first | omega | (simp only [room_1]; omega))⟩ dL_law_1081 (fun _ _ _ _ _ _ _ hF => hF.elim) (fun v M178 _ _ I hv => ?_)
            obtain ⟨v179, rfl, hw⟩ := hv
            refine W.eq (g2 := F0 m 1084 ls [.int v179]) rfl ?_
            refine lv_istore (lv' := [(6, .int v179), (5, .int v175), (0, .ref b), (1, .ref x1), (2, .ref x2), (3, .ref x3), (4, .int x4)]) hx hb dL_law_1084 hl176 (by decide) rfl (fun ls hl180 => ?_)
            refine lv_aload_n hx hb dL_law_1086 rfl (lv_at hl180 4 rfl) ?_
            obtain ⟨hrc, hw⟩ := hw
            refine z_callV (PX := fun _ _ => False) C I (as := []) (rest := []) (m_X6_thrown E hw) kv_L_80 vc_7 hrc rfl rfl hl180.1 (Nat.le_of_ble_eq_true rfl) ⟨Nat.le_of_ble_eq_true rfl, Nat.le_of_ble_eq_true rfl⟩ ⟨(by first | omega | (simp only [room_1]; omega)), (by first | omega | (simp only [room_1]; omega))⟩ dL_law_1087 (fun _ _ _ _ _ _ _ hF => hF.elim) (fun v M181 _ _ I hv => ?_)
            obtain ⟨v182, rfl, hw⟩ := hv
            refine W.eq (g2 := F0 m 1090 ls [.int v182]) rfl ?_
            refine lv_iload hx hb dL_law_1090 (lv_at hl180 1 rfl) ?_
            refine lv_icmp_eq (tgt := 1097) hx hb dL_law_1092 (by decide) (fun c => ?_) (fun c => ?_)
            · replace hw := hw.1 c
              refine lv_iload hx hb dL_law_1097 (lv_at hl180 1 rfl) ?_
              refine lv_if_ne (tgt := 1114) hx hb dL_law_1099 (by decide) (fun c => ?_) (fun c => ?_)
              · replace hw := hw.1 c
                refine W.widen (k := (56 + (513 - (n + 1)) * 9 + 1)) (n := (3724 + (513 - (n + 1)) * 242 + 6)) (by first | omega | (simp only [room_1]; omega)) (by first | omega | (simp only [room_1]; omega)) ?_
                exact hb_1114 x1 x2 x3 x4 _ _ _ ls I (lv_sub hl180 [2, 3, 4, 5, 6] rfl) hw
              · replace hw := hw.2 c
                refine lv_aload_n hx hb dL_law_1102 rfl (lv_at hl180 5 rfl) ?_
                refine lv_iconst (v := 0) hx hb dL_law_1103 (by decide) ?_
                refine z_lald C I hw dL_law_1104 (fun v183 hw => ?_)
                refine lv_iload hx hb dL_law_1105 (lv_at hl180 0 rfl) ?_
                refine lv_i2l hx hb dL_law_1107 rfl ?_
                refine W.lcmp hx hb dL_law_1108 ?_
                refine lv_if_eq (tgt := 1114) hx hb dL_law_1109 (by decide) (fun c => ?_) (fun c => ?_)
                · replace hw := hw.1 c
                  refine W.widen (k := (56 + (513 - (n + 1)) * 9 + 1)) (n := (3724 + (513 - (n + 1)) * 242 + 6)) (by first | omega | (simp only [room_1]; omega)) (by first | omega | (simp only [room_1]; omega)) ?_
                  exact hb_1114 x1 x2 x3 x4 _ _ _ ls I (lv_sub hl180 [2, 3, 4, 5, 6] rfl) hw
                · replace hw := hw.2 c
                  refine lv_iconst (v := 0) hx hb dL_law_1112 (by decide) ?_
                  exact hw.elim
            · replace hw := hw.2 c
              refine lv_iconst (v := 0) hx hb dL_law_1095 (by decide) ?_
              exact hw.elim
          · have hw := hw.2.2.2.2.2.2.2.2.2.2.2.2.2.2.1 rfl
            refine lv_tableIn (off := 1078) (tgt := 1117) hx hb dL_law_39 (by decide) (by decide) (by decide) (by decide) ?_
            refine lv_aload_n hx hb dL_law_1117 rfl (lv_at hl 1 rfl) ?_
            obtain ⟨hrc, hw⟩ := hw
            refine z_callV (PX := fun _ _ => False) C I (as := []) (rest := []) (m_X5_clear E hw) kv_L_127 vc_6 hrc rfl rfl hl.1 (Nat.le_of_ble_eq_true rfl) ⟨Nat.le_of_ble_eq_true rfl, Nat.le_of_ble_eq_true rfl⟩ ⟨(by first | omega | (simp only [room_1]; omega)), (by first | omega | (simp only [room_1]; omega))⟩ dL_law_1118 (fun _ _ _ _ _ _ _ hF => hF.elim) (fun v M184 _ _ I hv => ?_)
            obtain ⟨v185, rfl, hw⟩ := hv
            refine W.eq (g2 := F0 m 1121 ls [.int v185]) rfl ?_
            refine lv_aload_n hx hb dL_law_1121 rfl (lv_at hl 2 rfl) ?_
            obtain ⟨hrc, hw⟩ := hw
            refine z_callV (PX := fun _ _ => False) C I (as := []) (rest := [.int v185]) (m_X6_clear E hw) kv_L_130 vc_7 hrc rfl rfl hl.1 (Nat.le_of_ble_eq_true rfl) ⟨Nat.le_of_ble_eq_true rfl, Nat.le_of_ble_eq_true rfl⟩ ⟨(by first | omega | (simp only [room_1]; omega)), (by first | omega | (simp only [room_1]; omega))⟩ dL_law_1122 (fun _ _ _ _ _ _ _ hF => hF.elim) (fun v M186 _ _ I hv => ?_)
            obtain ⟨v187, rfl, hw⟩ := hv
            refine W.eq (g2 := F0 m 1125 ls [.int v187, .int v185]) rfl ?_
            refine lv_icmp_eq (tgt := 1353) hx hb dL_law_1125 (by decide) (fun c => ?_) (fun c => ?_)
            · replace hw := hw.1 c
              refine W.widen (k := (56 + (513 - (n + 1)) * 9 + 9)) (n := (3724 + (513 - (n + 1)) * 242 + 242)) (by first | omega | (simp only [room_1]; omega)) (by first | omega | (simp only [room_1]; omega)) ?_
              exact hb_1353 x1 x2 x3 x4 _ _ _ ls I (lv_sub hl [0, 1, 2, 3, 4] rfl) hw
            · replace hw := hw.2 c
              refine lv_iconst (v := 0) hx hb dL_law_1128 (by decide) ?_
              exact hw.elim
          · have hw := hw.2.2.2.2.2.2.2.2.2.2.2.2.2.2.2.1 rfl
            refine lv_tableIn (off := 1091) (tgt := 1130) hx hb dL_law_39 (by decide) (by decide) (by decide) (by decide) ?_
            refine lv_aload_n hx hb dL_law_1130 rfl (lv_at hl 1 rfl) ?_
            refine lv_aload_n hx hb dL_law_1131 rfl (lv_at hl 0 rfl) ?_
            refine lv_iload hx hb dL_law_1132 (lv_at hl 4 rfl) ?_
            refine lv_iconst (v := 1) hx hb dL_law_1134 (by decide) ?_
            refine lv_iadd hx hb dL_law_1135 ?_
            refine z_sald C I hw dL_law_1136 (fun v188 hw => ?_)
            refine lv_aload_n hx hb dL_law_1137 rfl (lv_at hl 0 rfl) ?_
            refine lv_iload hx hb dL_law_1138 (lv_at hl 4 rfl) ?_
            refine lv_iconst (v := 2) hx hb dL_law_1140 (by decide) ?_
            refine lv_iadd hx hb dL_law_1141 ?_
            refine z_sald C I hw dL_law_1142 (fun v189 hw => ?_)
            refine lv_aload_n hx hb dL_law_1143 rfl (lv_at hl 3 rfl) ?_
            refine z_callSX C I (as := [.ref x1, .int v188, .int v189, .ref x3]) (rest := []) (m_L_isRecord E EN hw) kw_L_131 rfl rfl hl.1 (Nat.le_of_ble_eq_true rfl) ⟨Nat.le_of_ble_eq_true rfl, Nat.le_of_ble_eq_true rfl⟩ ⟨(by first | omega | (simp only [room_1]; omega)), (by first | omega | (simp only [room_1]; omega))⟩ dL_law_1144 (fun v M190 _ _ I hv => ?_)
            obtain ⟨v191, rfl, hw⟩ := hv
            refine W.eq (g2 := F0 m 1147 ls [.int v191]) rfl ?_
            refine lv_istore (lv' := [(5, .int v191), (0, .ref b), (1, .ref x1), (2, .ref x2), (3, .ref x3), (4, .int x4)]) hx hb dL_law_1147 hl (by decide) rfl (fun ls hl192 => ?_)
            refine lv_aload_n hx hb dL_law_1149 rfl (lv_at hl192 3 rfl) ?_
            refine lv_aload_n hx hb dL_law_1150 rfl (lv_at hl192 1 rfl) ?_
            refine lv_iload hx hb dL_law_1151 (lv_at hl192 5 rfl) ?_
            refine lv_iconst (v := 1) hx hb dL_law_1153 (by decide) ?_
            refine lv_iadd hx hb dL_law_1154 ?_
            refine z_sald C I hw dL_law_1155 (fun v193 hw => ?_)
            refine lv_aload_n hx hb dL_law_1156 rfl (lv_at hl192 1 rfl) ?_
            refine lv_iload hx hb dL_law_1157 (lv_at hl192 5 rfl) ?_
            refine lv_iconst (v := 2) hx hb dL_law_1159 (by decide) ?_
            refine lv_iadd hx hb dL_law_1160 ?_
            refine z_sald C I hw dL_law_1161 (fun v194 hw => ?_)
            obtain ⟨hrc, hw⟩ := hw
            refine z_callV (PX := fun _ _ => False) C I (as := [.int v193, .int v194]) (rest := []) (m_X6_isRecord E hw) kv_L_133 vc_7 hrc rfl rfl hl192.1 (Nat.le_of_ble_eq_true rfl) ⟨Nat.le_of_ble_eq_true rfl, Nat.le_of_ble_eq_true rfl⟩ ⟨(by first | omega | (simp only [room_1]; omega)), (by first | omega | (simp only [room_1]; omega))⟩ dL_law_1162 (fun _ _ _ _ _ _ _ hF => hF.elim) (fun v M195 _ _ I hv => ?_)
            obtain ⟨v196, rfl, hv196, hw⟩ := hv
            refine W.eq (g2 := F0 m 1165 ls [.int v196]) rfl ?_
            refine lv_istore (lv' := [(6, .int v196), (5, .int v191), (0, .ref b), (1, .ref x1), (2, .ref x2), (3, .ref x3), (4, .int x4)]) hx hb dL_law_1165 hl192 (by decide) rfl (fun ls hl197 => ?_)
            refine lv_aload_n hx hb dL_law_1167 rfl (lv_at hl197 4 rfl) ?_
            obtain ⟨hrc, hw⟩ := hw
            refine z_callV (PX := fun _ _ => False) C I (as := []) (rest := []) (m_X6_thrown E hw) kv_L_80 vc_7 hrc rfl rfl hl197.1 (Nat.le_of_ble_eq_true rfl) ⟨Nat.le_of_ble_eq_true rfl, Nat.le_of_ble_eq_true rfl⟩ ⟨(by first | omega | (simp only [room_1]; omega)), (by first | omega | (simp only [room_1]; omega))⟩ dL_law_1168 (fun _ _ _ _ _ _ _ hF => hF.elim) (fun v M198 _ _ I hv => ?_)
            obtain ⟨v199, rfl, hw⟩ := hv
            refine W.eq (g2 := F0 m 1171 ls [.int v199]) rfl ?_
            refine lv_iload hx hb dL_law_1171 (lv_at hl197 1 rfl) ?_
            refine lv_icmp_eq (tgt := 1178) hx hb dL_law_1173 (by decide) (fun c => ?_) (fun c => ?_)
            · replace hw := hw.1 c
              refine lv_iload hx hb dL_law_1178 (lv_at hl197 1 rfl) ?_
              refine lv_if_ne (tgt := 1202) hx hb dL_law_1180 (by decide) (fun c => ?_) (fun c => ?_)
              · replace hw := hw.1 c
                refine W.widen (k := (56 + (513 - (n + 1)) * 9 + 2)) (n := (3724 + (513 - (n + 1)) * 242 + 12)) (by first | omega | (simp only [room_1]; omega)) (by first | omega | (simp only [room_1]; omega)) ?_
                exact hb_1202 x1 x2 x3 x4 _ _ _ ls I (lv_sub hl197 [2, 3, 4, 5, 6] rfl) hw
              · replace hw := hw.2 c
                refine lv_aload_n hx hb dL_law_1183 rfl (lv_at hl197 5 rfl) ?_
                refine lv_iconst (v := 0) hx hb dL_law_1184 (by decide) ?_
                refine z_lald C I hw dL_law_1185 (fun v200 hw => ?_)
                refine lv_iload hx hb dL_law_1186 (lv_at hl197 0 rfl) ?_
                refine lv_if_eq (tgt := 1195) hx hb dL_law_1188 (by decide) (fun c => ?_) (fun c => ?_)
                · replace hw := hw.1 c
                  refine lv_lconst (v := 0) hx hb dL_law_1195 (by decide) ?_
                  refine W.widen (k := (56 + (513 - (n + 1)) * 9 + 2)) (n := (3724 + (513 - (n + 1)) * 242 + 12)) (by first | omega | (simp only [room_1]; omega)) (by first | omega | (simp only [room_1]; omega)) ?_
                  exact hb_1196 x1 x2 x3 x4 (0 : Int64) v200 _ _ _ ls I (lv_sub hl197 [2, 3, 4, 5, 6] rfl) hw
                · replace hw := hw.2 c
                  refine lv_lconst (v := 1) hx hb dL_law_1191 (by decide) ?_
                  refine lv_goto (tgt := 1196) hx hb dL_law_1192 (by decide) ?_
                  refine W.widen (k := (56 + (513 - (n + 1)) * 9 + 2)) (n := (3724 + (513 - (n + 1)) * 242 + 12)) (by first | omega | (simp only [room_1]; omega)) (by first | omega | (simp only [room_1]; omega)) ?_
                  exact hb_1196 x1 x2 x3 x4 (1 : Int64) v200 _ _ _ ls I (lv_sub hl197 [2, 3, 4, 5, 6] rfl) hw
            · replace hw := hw.2 c
              refine lv_iconst (v := 0) hx hb dL_law_1176 (by decide) ?_
              exact hw.elim
          · have hw := hw.2.2.2.2.2.2.2.2.2.2.2.2.2.2.2.2.1 rfl
            refine lv_tableIn (off := 1166) (tgt := 1205) hx hb dL_law_39 (by decide) (by decide) (by decide) (by decide) ?_
            refine lv_aload_n hx hb dL_law_1205 rfl (lv_at hl 1 rfl) ?_
            refine lv_aload_n hx hb dL_law_1206 rfl (lv_at hl 0 rfl) ?_
            refine lv_iload hx hb dL_law_1207 (lv_at hl 4 rfl) ?_
            refine lv_iconst (v := 1) hx hb dL_law_1209 (by decide) ?_
            refine lv_iadd hx hb dL_law_1210 ?_
            refine z_sald C I hw dL_law_1211 (fun v201 hw => ?_)
            refine lv_aload_n hx hb dL_law_1212 rfl (lv_at hl 0 rfl) ?_
            refine lv_iload hx hb dL_law_1213 (lv_at hl 4 rfl) ?_
            refine lv_iconst (v := 2) hx hb dL_law_1215 (by decide) ?_
            refine lv_iadd hx hb dL_law_1216 ?_
            refine z_sald C I hw dL_law_1217 (fun v202 hw => ?_)
            refine lv_aload_n hx hb dL_law_1218 rfl (lv_at hl 0 rfl) ?_
            refine lv_iload hx hb dL_law_1219 (lv_at hl 4 rfl) ?_
            refine lv_iconst (v := 3) hx hb dL_law_1221 (by decide) ?_
            refine lv_iadd hx hb dL_law_1222 ?_
            refine z_sald C I hw dL_law_1223 (fun v203 hw => ?_)
            refine lv_aload_n hx hb dL_law_1224 rfl (lv_at hl 0 rfl) ?_
            refine lv_iload hx hb dL_law_1225 (lv_at hl 4 rfl) ?_
            refine lv_iconst (v := 4) hx hb dL_law_1227 (by decide) ?_
            refine lv_iadd hx hb dL_law_1228 ?_
            refine z_sald C I hw dL_law_1229 (fun v204 hw => ?_)
            refine lv_aload_n hx hb dL_law_1230 rfl (lv_at hl 3 rfl) ?_
            refine z_callSX C I (as := [.ref x1, .int v201, .int v202, .int v203, .int v204, .ref x3]) (rest := []) (m_L_read E EN hw) kw_L_134 rfl rfl hl.1 (Nat.le_of_ble_eq_true rfl) ⟨Nat.le_of_ble_eq_true rfl, Nat.le_of_ble_eq_true rfl⟩ ⟨(by first | omega | (simp only [room_1]; omega)), (by first | omega | (simp only [room_1]; omega))⟩ dL_law_1231 (fun v M205 _ _ I hv => ?_)
            obtain ⟨v206, rfl, hw⟩ := hv
            refine W.eq (g2 := F0 m 1234 ls [.int v206]) rfl ?_
            refine lv_istore (lv' := [(5, .int v206), (0, .ref b), (1, .ref x1), (2, .ref x2), (3, .ref x3), (4, .int x4)]) hx hb dL_law_1234 hl (by decide) rfl (fun ls hl207 => ?_)
            refine lv_aload_n hx hb dL_law_1236 rfl (lv_at hl207 3 rfl) ?_
            refine lv_aload_n hx hb dL_law_1237 rfl (lv_at hl207 1 rfl) ?_
            refine lv_iload hx hb dL_law_1238 (lv_at hl207 5 rfl) ?_
            refine lv_iconst (v := 1) hx hb dL_law_1240 (by decide) ?_
            refine lv_iadd hx hb dL_law_1241 ?_
            refine z_sald C I hw dL_law_1242 (fun v208 hw => ?_)
            refine lv_aload_n hx hb dL_law_1243 rfl (lv_at hl207 1 rfl) ?_
            refine lv_iload hx hb dL_law_1244 (lv_at hl207 5 rfl) ?_
            refine lv_iconst (v := 2) hx hb dL_law_1246 (by decide) ?_
            refine lv_iadd hx hb dL_law_1247 ?_
            refine z_sald C I hw dL_law_1248 (fun v209 hw => ?_)
            refine lv_aload_n hx hb dL_law_1249 rfl (lv_at hl207 1 rfl) ?_
            refine lv_iload hx hb dL_law_1250 (lv_at hl207 5 rfl) ?_
            refine lv_iconst (v := 3) hx hb dL_law_1252 (by decide) ?_
            refine lv_iadd hx hb dL_law_1253 ?_
            refine z_sald C I hw dL_law_1254 (fun v210 hw => ?_)
            refine lv_aload_n hx hb dL_law_1255 rfl (lv_at hl207 1 rfl) ?_
            refine lv_iload hx hb dL_law_1256 (lv_at hl207 5 rfl) ?_
            refine lv_iconst (v := 4) hx hb dL_law_1258 (by decide) ?_
            refine lv_iadd hx hb dL_law_1259 ?_
            refine z_sald C I hw dL_law_1260 (fun v211 hw => ?_)
            obtain ⟨hrc, hw⟩ := hw
            refine z_callV (PX := fun _ _ => False) C I (as := [.int v208, .int v209, .int v210, .int v211]) (rest := []) (m_X6_read E hw) kv_L_136 vc_7 hrc rfl rfl hl207.1 (Nat.le_of_ble_eq_true rfl) ⟨Nat.le_of_ble_eq_true rfl, Nat.le_of_ble_eq_true rfl⟩ ⟨(by first | omega | (simp only [room_1]; omega)), (by first | omega | (simp only [room_1]; omega))⟩ dL_law_1261 (fun _ _ _ _ _ _ _ hF => hF.elim) (fun v M212 _ _ I hv => ?_)
            obtain ⟨v213, rfl, hw⟩ := hv
            refine W.eq (g2 := F0 m 1264 ls [.int v213]) rfl ?_
            refine lv_istore (lv' := [(6, .int v213), (5, .int v206), (0, .ref b), (1, .ref x1), (2, .ref x2), (3, .ref x3), (4, .int x4)]) hx hb dL_law_1264 hl207 (by decide) rfl (fun ls hl214 => ?_)
            refine lv_aload_n hx hb dL_law_1266 rfl (lv_at hl214 4 rfl) ?_
            obtain ⟨hrc, hw⟩ := hw
            refine z_callV (PX := fun _ _ => False) C I (as := []) (rest := []) (m_X6_thrown E hw) kv_L_80 vc_7 hrc rfl rfl hl214.1 (Nat.le_of_ble_eq_true rfl) ⟨Nat.le_of_ble_eq_true rfl, Nat.le_of_ble_eq_true rfl⟩ ⟨(by first | omega | (simp only [room_1]; omega)), (by first | omega | (simp only [room_1]; omega))⟩ dL_law_1267 (fun _ _ _ _ _ _ _ hF => hF.elim) (fun v M215 _ _ I hv => ?_)
            obtain ⟨v216, rfl, hw⟩ := hv
            refine W.eq (g2 := F0 m 1270 ls [.int v216]) rfl ?_
            refine lv_iload hx hb dL_law_1270 (lv_at hl214 1 rfl) ?_
            refine lv_icmp_eq (tgt := 1277) hx hb dL_law_1272 (by decide) (fun c => ?_) (fun c => ?_)
            · replace hw := hw.1 c
              refine lv_iload hx hb dL_law_1277 (lv_at hl214 1 rfl) ?_
              refine lv_if_ne (tgt := 1294) hx hb dL_law_1279 (by decide) (fun c => ?_) (fun c => ?_)
              · replace hw := hw.1 c
                refine W.widen (k := (56 + (513 - (n + 1)) * 9 + 7)) (n := (3724 + (513 - (n + 1)) * 242 + 42)) (by first | omega | (simp only [room_1]; omega)) (by first | omega | (simp only [room_1]; omega)) ?_
                exact hb_1294 x1 x2 x3 x4 _ _ _ ls I (lv_sub hl214 [2, 3, 4, 5, 6] rfl) hw
              · replace hw := hw.2 c
                refine lv_aload_n hx hb dL_law_1282 rfl (lv_at hl214 5 rfl) ?_
                refine lv_iconst (v := 0) hx hb dL_law_1283 (by decide) ?_
                refine z_lald C I hw dL_law_1284 (fun v217 hw => ?_)
                refine lv_iload hx hb dL_law_1285 (lv_at hl214 0 rfl) ?_
                refine lv_i2l hx hb dL_law_1287 rfl ?_
                refine W.lcmp hx hb dL_law_1288 ?_
                refine lv_if_eq (tgt := 1294) hx hb dL_law_1289 (by decide) (fun c => ?_) (fun c => ?_)
                · replace hw := hw.1 c
                  refine W.widen (k := (56 + (513 - (n + 1)) * 9 + 7)) (n := (3724 + (513 - (n + 1)) * 242 + 42)) (by first | omega | (simp only [room_1]; omega)) (by first | omega | (simp only [room_1]; omega)) ?_
                  exact hb_1294 x1 x2 x3 x4 _ _ _ ls I (lv_sub hl214 [2, 3, 4, 5, 6] rfl) hw
                · replace hw := hw.2 c
                  refine lv_iconst (v := 0) hx hb dL_law_1292 (by decide) ?_
                  exact hw.elim
            · replace hw := hw.2 c
              refine lv_iconst (v := 0) hx hb dL_law_1275 (by decide) ?_
              exact hw.elim
          · have hw := hw.2.2.2.2.2.2.2.2.2.2.2.2.2.2.2.2.2.1 rfl
            refine lv_tableIn (off := 1258) (tgt := 1297) hx hb dL_law_39 (by decide) (by decide) (by decide) (by decide) ?_
            refine lv_aload_n hx hb dL_law_1297 rfl (lv_at hl 1 rfl) ?_
            refine lv_aload_n hx hb dL_law_1298 rfl (lv_at hl 0 rfl) ?_
            refine lv_iload hx hb dL_law_1299 (lv_at hl 4 rfl) ?_
            refine lv_iconst (v := 1) hx hb dL_law_1301 (by decide) ?_
            refine lv_iadd hx hb dL_law_1302 ?_
            refine z_sald C I hw dL_law_1303 (fun v218 hw => ?_)
            refine lv_aload_n hx hb dL_law_1304 rfl (lv_at hl 3 rfl) ?_
            refine z_callSX C I (as := [.ref x1, .int v218, .ref x3]) (rest := []) (m_L_valueAt E EN hw) kw_L_137 rfl rfl hl.1 (Nat.le_of_ble_eq_true rfl) ⟨Nat.le_of_ble_eq_true rfl, Nat.le_of_ble_eq_true rfl⟩ ⟨(by first | omega | (simp only [room_1]; omega)), (by first | omega | (simp only [room_1]; omega))⟩ dL_law_1305 (fun v M219 _ _ I hv => ?_)
            obtain ⟨v220, rfl, hw⟩ := hv
            refine W.eq (g2 := F0 m 1308 ls [.int v220]) rfl ?_
            refine lv_istore (lv' := [(5, .int v220), (0, .ref b), (1, .ref x1), (2, .ref x2), (3, .ref x3), (4, .int x4)]) hx hb dL_law_1308 hl (by decide) rfl (fun ls hl221 => ?_)
            refine lv_aload_n hx hb dL_law_1310 rfl (lv_at hl221 3 rfl) ?_
            refine lv_aload_n hx hb dL_law_1311 rfl (lv_at hl221 1 rfl) ?_
            refine lv_iload hx hb dL_law_1312 (lv_at hl221 5 rfl) ?_
            refine lv_iconst (v := 1) hx hb dL_law_1314 (by decide) ?_
            refine lv_iadd hx hb dL_law_1315 ?_
            refine z_sald C I hw dL_law_1316 (fun v222 hw => ?_)
            obtain ⟨hrc, hw⟩ := hw
            refine z_callV (PX := fun _ _ => False) C I (as := [.int v222]) (rest := []) (m_X6_valueAt E hw) kv_L_139 vc_7 hrc rfl rfl hl221.1 (Nat.le_of_ble_eq_true rfl) ⟨Nat.le_of_ble_eq_true rfl, Nat.le_of_ble_eq_true rfl⟩ ⟨(by first | omega | (simp only [room_1]; omega)), (by first | omega | (simp only [room_1]; omega))⟩ dL_law_1317 (fun _ _ _ _ _ _ _ hF => hF.elim) (fun v M223 _ _ I hv => ?_)
            obtain ⟨v224, rfl, hw⟩ := hv
            refine W.eq (g2 := F0 m 1320 ls [.int v224]) rfl ?_
            refine lv_istore (lv' := [(6, .int v224), (5, .int v220), (0, .ref b), (1, .ref x1), (2, .ref x2), (3, .ref x3), (4, .int x4)]) hx hb dL_law_1320 hl221 (by decide) rfl (fun ls hl225 => ?_)
            refine lv_aload_n hx hb dL_law_1322 rfl (lv_at hl225 4 rfl) ?_
            obtain ⟨hrc, hw⟩ := hw
            refine z_callV (PX := fun _ _ => False) C I (as := []) (rest := []) (m_X6_thrown E hw) kv_L_80 vc_7 hrc rfl rfl hl225.1 (Nat.le_of_ble_eq_true rfl) ⟨Nat.le_of_ble_eq_true rfl, Nat.le_of_ble_eq_true rfl⟩ ⟨(by first | omega | (simp only [room_1]; omega)), (by first | omega | (simp only [room_1]; omega))⟩ dL_law_1323 (fun _ _ _ _ _ _ _ hF => hF.elim) (fun v M226 _ _ I hv => ?_)
            obtain ⟨v227, rfl, hw⟩ := hv
            refine W.eq (g2 := F0 m 1326 ls [.int v227]) rfl ?_
            refine lv_iload hx hb dL_law_1326 (lv_at hl225 1 rfl) ?_
            refine lv_icmp_eq (tgt := 1333) hx hb dL_law_1328 (by decide) (fun c => ?_) (fun c => ?_)
            · replace hw := hw.1 c
              refine lv_iload hx hb dL_law_1333 (lv_at hl225 1 rfl) ?_
              refine lv_if_ne (tgt := 1350) hx hb dL_law_1335 (by decide) (fun c => ?_) (fun c => ?_)
              · replace hw := hw.1 c
                refine W.widen (k := (56 + (513 - (n + 1)) * 9 + 1)) (n := (3724 + (513 - (n + 1)) * 242 + 6)) (by first | omega | (simp only [room_1]; omega)) (by first | omega | (simp only [room_1]; omega)) ?_
                exact hb_1350 x1 x2 x3 x4 _ _ _ ls I (lv_sub hl225 [2, 3, 4, 5, 6] rfl) hw
              · replace hw := hw.2 c
                refine lv_aload_n hx hb dL_law_1338 rfl (lv_at hl225 5 rfl) ?_
                refine lv_iconst (v := 0) hx hb dL_law_1339 (by decide) ?_
                refine z_lald C I hw dL_law_1340 (fun v228 hw => ?_)
                refine lv_iload hx hb dL_law_1341 (lv_at hl225 0 rfl) ?_
                refine lv_i2l hx hb dL_law_1343 rfl ?_
                refine W.lcmp hx hb dL_law_1344 ?_
                refine lv_if_eq (tgt := 1350) hx hb dL_law_1345 (by decide) (fun c => ?_) (fun c => ?_)
                · replace hw := hw.1 c
                  refine W.widen (k := (56 + (513 - (n + 1)) * 9 + 1)) (n := (3724 + (513 - (n + 1)) * 242 + 6)) (by first | omega | (simp only [room_1]; omega)) (by first | omega | (simp only [room_1]; omega)) ?_
                  exact hb_1350 x1 x2 x3 x4 _ _ _ ls I (lv_sub hl225 [2, 3, 4, 5, 6] rfl) hw
                · replace hw := hw.2 c
                  refine lv_iconst (v := 0) hx hb dL_law_1348 (by decide) ?_
                  exact hw.elim
            · replace hw := hw.2 c
              refine lv_iconst (v := 0) hx hb dL_law_1331 (by decide) ?_
              exact hw.elim
  refine z_new C I kn_L_8 (fs := [.null, .null, .null, .null, .null, .null]) zd_6 hw (Nat.le_of_ble_eq_true rfl) (Nat.le_of_ble_eq_true rfl) dL_law_0 (fun q229 M230 _ I hw => ?_)
  refine lv_dup hx hb dL_law_3 rfl ?_
  refine z_callI C I (as := []) (rest := [.ref q229]) (m_X5_init E hw) ki_L_70 rfl rfl hl.1 (Nat.le_of_ble_eq_true rfl) ⟨Nat.le_of_ble_eq_true rfl, Nat.le_of_ble_eq_true rfl⟩ ⟨Nat.le_of_ble_eq_true rfl, Nat.le_of_ble_eq_true rfl⟩ dL_law_4 (fun M231 _ _ I hw => ?_)
  refine W.eq (g2 := F0 m 7 ls [.ref q229]) rfl ?_
  refine lv_astore_n (lv' := [(1, .ref q229), (0, .ref b)]) hx hb dL_law_7 rfl hl (by decide) rfl (fun ls hl232 => ?_)
  refine z_new C I kn_L_71 (fs := [.int 0, .null, .null, .null, .null, .null, .null, .null, .null, .int 0, .null, .null, .null, .null, .null, .null, .int 0, .null, .null, .null, .null, .null, .null]) zd_7 hw (Nat.le_of_ble_eq_true rfl) (Nat.le_of_ble_eq_true rfl) dL_law_8 (fun q233 M234 _ I hw => ?_)
  refine lv_dup hx hb dL_law_11 rfl ?_
  refine z_callI C I (as := []) (rest := [.ref q233]) (m_X6_init E hw) ki_L_73 rfl rfl hl232.1 (Nat.le_of_ble_eq_true rfl) ⟨Nat.le_of_ble_eq_true rfl, Nat.le_of_ble_eq_true rfl⟩ ⟨Nat.le_of_ble_eq_true rfl, Nat.le_of_ble_eq_true rfl⟩ dL_law_12 (fun M235 _ _ I hw => ?_)
  refine W.eq (g2 := F0 m 15 ls [.ref q233]) rfl ?_
  refine lv_astore_n (lv' := [(2, .ref q233), (1, .ref q229), (0, .ref b)]) hx hb dL_law_15 rfl hl232 (by decide) rfl (fun ls hl236 => ?_)
  refine lv_iconst (v := 1) hx hb dL_law_16 (by decide) ?_
  refine z_newl C I zw999 (mx := 1) hw (Nat.le_of_ble_eq_true rfl) (Nat.le_of_ble_eq_true rfl) (Nat.le_of_ble_eq_true rfl) dL_law_17 (fun q237 M238 _ I hw => ?_)
  refine lv_astore_n (lv' := [(3, .ref q237), (2, .ref q233), (1, .ref q229), (0, .ref b)]) hx hb dL_law_19 rfl hl236 (by decide) rfl (fun ls hl239 => ?_)
  refine lv_iconst (v := 0) hx hb dL_law_20 (by decide) ?_
  refine lv_istore (lv' := [(4, .int (0 : Int32)), (3, .ref q237), (2, .ref q233), (1, .ref q229), (0, .ref b)]) hx hb dL_law_21 hl239 (by decide) rfl (fun ls hl240 => ?_)
  refine W.widen (k := 56 + (513 - 513) * 9) (n := 3724 + (513 - 513) * 242) (Nat.le_of_ble_eq_true rfl) (Nat.le_of_ble_eq_true rfl) ?_
  exact hb_23 513 (Nat.le_refl _) q229 q233 q237 (0 : Int32) _ _ _ ls I (lv_sub hl240 [4, 3, 2, 1, 0] rfl) hw
