set_option maxHeartbeats 4000000 in
set_option maxRecDepth 100000 in
theorem m_L_areAlike {X : zX} {l : Launch} (E : zEnv X l) (EN : zNcs X) {M : zM} {p0 : Nat} {p1 : Nat} {p2 : Int32} {P : Int32 → zM → Prop} {PX : Nat → zM → Prop} (hw : w_L_areAlike p0 p1 p2 M P) : zCT X l yL_areAlike cL_areAlike 5 (some .boolean) 107 4914 740 4440 M [.ref p0, .ref p1, .int p2] (zPz P) PX := by
  refine z_entry E (by decide) ?_
  intro p e s m args below meth c C hr htab I
  have hx := C.1.1
  have hb := C.1.2.1
  obtain ⟨ls, he, hl⟩ := z_enter (m := m) (n := 5) (vs := [.ref p0, .ref p1, .int p2]) (l := [(0, .ref p0), (1, .ref p1), (2, .int p2)]) (Nat.le_of_ble_eq_true rfl) rfl
  rw [he]
  clear he
  unfold w_L_areAlike at hw
  have hb_5 : ∀ (n : Nat), n ≤ 37 → ∀ (x3 : Int32) (x4 : Int32) (M : zM) (H : Heap) (locs : List Loc) (ls : Array Slot), zWk X s M H locs → lv_has ls 5 [(0, .ref p0), (1, .ref p1), (2, .int p2), (3, .int x3), (4, .int x4)] → w_L_areAlike_5 p0 p1 p2 P n x3 x4 M → W p l e (zRm 107 4914 740 4440) s m args below meth c H locs (0 + (37 - n) * 20) (0 + (37 - n) * 120) (vx_MQ below (zQc X (zPz P)) (zXc X PX) args s 740 4440 (zBase X)) (F0 m 5 ls []) := by
    intro n
    induction n with
    | zero => intro _ _ _ M H locs ls I hl hw; exact hw.elim
    | succ n ih =>
      intro hn x3 x4 M H locs ls I hl hw
      unfold w_L_areAlike_5 at hw
      have hb_219 : ∀ (x4 : Int32) (y0 : Int32) (M : zM) (H : Heap) (locs : List Loc) (ls : Array Slot), zWk X s M H locs → lv_has ls 5 [(0, .ref p0), (1, .ref p1), (2, .int p2), (4, .int x4)] → w_L_areAlike_219 p0 p1 p2 P (w_L_areAlike_5 p0 p1 p2 P n) x4 y0 M → W p l e (zRm 107 4914 740 4440) s m args below meth c H locs (0 + (37 - (n + 1)) * 20 + 20) (0 + (37 - (n + 1)) * 120 + 120) (vx_MQ below (zQc X (zPz P)) (zXc X PX) args s 740 4440 (zBase X)) (F0 m 219 ls [.int y0]) := by
        intro x4 y0 M H locs ls I hl hw
        unfold w_L_areAlike_219 at hw
        refine lv_istore_n (lv' := [(3, .int y0), (0, .ref p0), (1, .ref p1), (2, .int p2), (4, .int x4)]) hx hb dL_areAlike_219 rfl hl (by decide) rfl (fun ls hl1 => ?_)
        refine lv_iinc (v := (x4 + 1)) (lv' := [(4, .int (x4 + 1)), (3, .int y0), (0, .ref p0), (1, .ref p1), (2, .int p2)]) hx hb dL_areAlike_220 hl1 (k := 4) rfl (by rfl) (by decide) rfl (fun ls hl2 => ?_)
        refine lv_goto (tgt := 5) hx hb dL_areAlike_223 (by decide) ?_
        refine W.widen (k := 0 + (37 - n) * 20) (n := 0 + (37 - n) * 120) (by omega) (by omega) ?_
        exact ih (by omega) y0 (x4 + 1) _ _ _ ls I (lv_sub hl2 [2, 3, 4, 1, 0] rfl) hw
      have hb_218 : ∀ (x4 : Int32) (M : zM) (H : Heap) (locs : List Loc) (ls : Array Slot), zWk X s M H locs → lv_has ls 5 [(0, .ref p0), (1, .ref p1), (2, .int p2), (4, .int x4)] → w_L_areAlike_218 p0 p1 p2 P (w_L_areAlike_5 p0 p1 p2 P n) x4 M → W p l e (zRm 107 4914 740 4440) s m args below meth c H locs (0 + (37 - (n + 1)) * 20 + 20) (0 + (37 - (n + 1)) * 120 + 120) (vx_MQ below (zQc X (zPz P)) (zXc X PX) args s 740 4440 (zBase X)) (F0 m 218 ls []) := by
        intro x4 M H locs ls I hl hw
        unfold w_L_areAlike_218 at hw
        refine lv_iconst (v := 0) hx hb dL_areAlike_218 (by decide) ?_
        refine W.widen (k := (0 + (37 - (n + 1)) * 20 + 20)) (n := (0 + (37 - (n + 1)) * 120 + 120)) (by first | omega | (simp only [zRm]; omega)) (by first | omega | (simp only [zRm]; omega)) ?_
        exact hb_219 x4 (0 : Int32) _ _ _ ls I (lv_sub hl [0, 1, 2, 3] rfl) hw
      have hb_214 : ∀ (x4 : Int32) (M : zM) (H : Heap) (locs : List Loc) (ls : Array Slot), zWk X s M H locs → lv_has ls 5 [(0, .ref p0), (1, .ref p1), (2, .int p2), (4, .int x4)] → w_L_areAlike_214 p0 p1 p2 P (w_L_areAlike_5 p0 p1 p2 P n) x4 M → W p l e (zRm 107 4914 740 4440) s m args below meth c H locs (0 + (37 - (n + 1)) * 20 + 20) (0 + (37 - (n + 1)) * 120 + 120) (vx_MQ below (zQc X (zPz P)) (zXc X PX) args s 740 4440 (zBase X)) (F0 m 214 ls []) := by
        intro x4 M H locs ls I hl hw
        unfold w_L_areAlike_214 at hw
        refine lv_iconst (v := 1) hx hb dL_areAlike_214 (by decide) ?_
        refine lv_goto (tgt := 219) hx hb dL_areAlike_215 (by decide) ?_
        refine W.widen (k := (0 + (37 - (n + 1)) * 20 + 20)) (n := (0 + (37 - (n + 1)) * 120 + 120)) (by first | omega | (simp only [zRm]; omega)) (by first | omega | (simp only [zRm]; omega)) ?_
        exact hb_219 x4 (1 : Int32) _ _ _ ls I (lv_sub hl [0, 1, 2, 3] rfl) hw
      have hb_186 : ∀ (x4 : Int32) (M : zM) (H : Heap) (locs : List Loc) (ls : Array Slot), zWk X s M H locs → lv_has ls 5 [(0, .ref p0), (1, .ref p1), (2, .int p2), (4, .int x4)] → w_L_areAlike_186 p0 p1 p2 P (w_L_areAlike_5 p0 p1 p2 P n) x4 M → W p l e (zRm 107 4914 740 4440) s m args below meth c H locs (0 + (37 - (n + 1)) * 20 + 18) (0 + (37 - (n + 1)) * 120 + 108) (vx_MQ below (zQc X (zPz P)) (zXc X PX) args s 740 4440 (zBase X)) (F0 m 186 ls []) := by
        intro x4 M H locs ls I hl hw
        unfold w_L_areAlike_186 at hw
        refine lv_iload hx hb dL_areAlike_186 (lv_at hl 3 rfl) ?_
        refine lv_bipush (v := 20) hx hb dL_areAlike_188 (by decide) ?_
        refine lv_icmp_gt (tgt := 214) hx hb dL_areAlike_190 (by decide) (fun c => ?_) (fun c => ?_)
        · replace hw := hw.1 c
          refine W.widen (k := (0 + (37 - (n + 1)) * 20 + 20)) (n := (0 + (37 - (n + 1)) * 120 + 120)) (by first | omega | (simp only [zRm]; omega)) (by first | omega | (simp only [zRm]; omega)) ?_
          exact hb_214 x4 _ _ _ ls I (lv_sub hl [0, 1, 2, 3] rfl) hw
        · replace hw := hw.2 c
          refine lv_aload_n hx hb dL_areAlike_193 rfl (lv_at hl 0 rfl) ?_
          refine lv_bipush (v := 11) hx hb dL_areAlike_194 (by decide) ?_
          refine lv_iload hx hb dL_areAlike_196 (lv_at hl 3 rfl) ?_
          refine lv_iconst (v := 0) hx hb dL_areAlike_198 (by decide) ?_
          refine z_callSX C I (as := [.ref p0, .int (11 : Int32), .int x4, .int (0 : Int32)]) (rest := []) (m_L_does_11 E EN hw) kw_L_74 rfl rfl hl.1 (Nat.le_of_ble_eq_true rfl) ⟨Nat.le_of_ble_eq_true rfl, Nat.le_of_ble_eq_true rfl⟩ ⟨(by first | omega | (simp only [zRm]; omega)), (by first | omega | (simp only [zRm]; omega))⟩ dL_areAlike_199 (fun v M3 _ _ I hv => ?_)
          obtain ⟨v4, rfl, hw⟩ := hv
          refine W.eq (g2 := F0 m 202 ls [.int v4]) rfl ?_
          refine lv_aload_n hx hb dL_areAlike_202 rfl (lv_at hl 1 rfl) ?_
          refine lv_bipush (v := 11) hx hb dL_areAlike_203 (by decide) ?_
          refine lv_iload hx hb dL_areAlike_205 (lv_at hl 3 rfl) ?_
          refine lv_iconst (v := 0) hx hb dL_areAlike_207 (by decide) ?_
          refine z_callSX C I (as := [.ref p1, .int (11 : Int32), .int x4, .int (0 : Int32)]) (rest := [.int v4]) (m_L_does_11 E EN hw) kw_L_74 rfl rfl hl.1 (Nat.le_of_ble_eq_true rfl) ⟨Nat.le_of_ble_eq_true rfl, Nat.le_of_ble_eq_true rfl⟩ ⟨(by first | omega | (simp only [zRm]; omega)), (by first | omega | (simp only [zRm]; omega))⟩ dL_areAlike_208 (fun v M5 _ _ I hv => ?_)
          obtain ⟨v6, rfl, hw⟩ := hv
          refine W.eq (g2 := F0 m 211 ls [.int v6, .int v4]) rfl ?_
          refine lv_icmp_ne (tgt := 218) hx hb dL_areAlike_211 (by decide) (fun c => ?_) (fun c => ?_)
          · replace hw := hw.1 c
            refine W.widen (k := (0 + (37 - (n + 1)) * 20 + 20)) (n := (0 + (37 - (n + 1)) * 120 + 120)) (by first | omega | (simp only [zRm]; omega)) (by first | omega | (simp only [zRm]; omega)) ?_
            exact hb_218 x4 _ _ _ ls I (lv_sub hl [0, 1, 2, 3] rfl) hw
          · replace hw := hw.2 c
            refine W.widen (k := (0 + (37 - (n + 1)) * 20 + 20)) (n := (0 + (37 - (n + 1)) * 120 + 120)) (by first | omega | (simp only [zRm]; omega)) (by first | omega | (simp only [zRm]; omega)) ?_
            exact hb_214 x4 _ _ _ ls I (lv_sub hl [0, 1, 2, 3] rfl) hw
      have hb_135 : ∀ (x4 : Int32) (y0 : Int32) (M : zM) (H : Heap) (locs : List Loc) (ls : Array Slot), zWk X s M H locs → lv_has ls 5 [(0, .ref p0), (1, .ref p1), (2, .int p2), (4, .int x4)] → w_L_areAlike_135 p0 p1 p2 P (w_L_areAlike_5 p0 p1 p2 P n) x4 y0 M → W p l e (zRm 107 4914 740 4440) s m args below meth c H locs (0 + (37 - (n + 1)) * 20 + 12) (0 + (37 - (n + 1)) * 120 + 72) (vx_MQ below (zQc X (zPz P)) (zXc X PX) args s 740 4440 (zBase X)) (F0 m 135 ls [.int y0]) := by
        intro x4 y0 M H locs ls I hl hw
        unfold w_L_areAlike_135 at hw
        refine lv_istore_n (lv' := [(3, .int y0), (0, .ref p0), (1, .ref p1), (2, .int p2), (4, .int x4)]) hx hb dL_areAlike_135 rfl hl (by decide) rfl (fun ls hl7 => ?_)
        refine lv_iload_n hx hb dL_areAlike_136 rfl (lv_at hl7 0 rfl) ?_
        refine lv_if_eq (tgt := 218) hx hb dL_areAlike_137 (by decide) (fun c => ?_) (fun c => ?_)
        · replace hw := hw.1 c
          refine W.widen (k := (0 + (37 - (n + 1)) * 20 + 20)) (n := (0 + (37 - (n + 1)) * 120 + 120)) (by first | omega | (simp only [zRm]; omega)) (by first | omega | (simp only [zRm]; omega)) ?_
          exact hb_218 x4 _ _ _ ls I (lv_sub hl7 [1, 2, 3, 4] rfl) hw
        · replace hw := hw.2 c
          refine lv_iload hx hb dL_areAlike_140 (lv_at hl7 4 rfl) ?_
          refine lv_iconst (v := 5) hx hb dL_areAlike_142 (by decide) ?_
          refine lv_icmp_gt (tgt := 186) hx hb dL_areAlike_143 (by decide) (fun c => ?_) (fun c => ?_)
          · replace hw := hw.1 c
            refine W.widen (k := (0 + (37 - (n + 1)) * 20 + 18)) (n := (0 + (37 - (n + 1)) * 120 + 108)) (by first | omega | (simp only [zRm]; omega)) (by first | omega | (simp only [zRm]; omega)) ?_
            exact hb_186 x4 _ _ _ ls I (lv_sub hl7 [1, 2, 3, 4] rfl) hw
          · replace hw := hw.2 c
            refine lv_aload_n hx hb dL_areAlike_146 rfl (lv_at hl7 1 rfl) ?_
            refine lv_iload hx hb dL_areAlike_147 (lv_at hl7 4 rfl) ?_
            obtain ⟨hrc, hw⟩ := hw
            refine z_callV (PX := fun _ _ => False) C I (as := [.int x4]) (rest := []) (m_X5_versions E hw) kv_L_88 vc_6 hrc rfl rfl hl7.1 (Nat.le_of_ble_eq_true rfl) ⟨Nat.le_of_ble_eq_true rfl, Nat.le_of_ble_eq_true rfl⟩ ⟨(by first | omega | (simp only [zRm]; omega)), (by first | omega | (simp only [zRm]; omega))⟩ dL_areAlike_149 (fun _ _ _ _ _ _ _ hF => hF.elim) (fun v M8 _ _ I hv => ?_)
            obtain ⟨v9, rfl, hw⟩ := hv
            refine W.eq (g2 := F0 m 152 ls [.int v9]) rfl ?_
            refine lv_aload_n hx hb dL_areAlike_152 rfl (lv_at hl7 2 rfl) ?_
            refine lv_iload hx hb dL_areAlike_153 (lv_at hl7 4 rfl) ?_
            obtain ⟨hrc, hw⟩ := hw
            refine z_callV (PX := fun _ _ => False) C I (as := [.int x4]) (rest := [.int v9]) (m_X5_versions E hw) kv_L_88 vc_6 hrc rfl rfl hl7.1 (Nat.le_of_ble_eq_true rfl) ⟨Nat.le_of_ble_eq_true rfl, Nat.le_of_ble_eq_true rfl⟩ ⟨(by first | omega | (simp only [zRm]; omega)), (by first | omega | (simp only [zRm]; omega))⟩ dL_areAlike_155 (fun _ _ _ _ _ _ _ hF => hF.elim) (fun v M10 _ _ I hv => ?_)
            obtain ⟨v11, rfl, hw⟩ := hv
            refine W.eq (g2 := F0 m 158 ls [.int v11, .int v9]) rfl ?_
            refine lv_icmp_ne (tgt := 218) hx hb dL_areAlike_158 (by decide) (fun c => ?_) (fun c => ?_)
            · replace hw := hw.1 c
              refine W.widen (k := (0 + (37 - (n + 1)) * 20 + 20)) (n := (0 + (37 - (n + 1)) * 120 + 120)) (by first | omega | (simp only [zRm]; omega)) (by first | omega | (simp only [zRm]; omega)) ?_
              exact hb_218 x4 _ _ _ ls I (lv_sub hl7 [1, 2, 3, 4] rfl) hw
            · replace hw := hw.2 c
              refine lv_iload hx hb dL_areAlike_161 (lv_at hl7 4 rfl) ?_
              refine lv_iload_n hx hb dL_areAlike_163 rfl (lv_at hl7 3 rfl) ?_
              refine lv_icmp_ne (tgt := 186) hx hb dL_areAlike_164 (by decide) (fun c => ?_) (fun c => ?_)
              · replace hw := hw.1 c
                refine W.widen (k := (0 + (37 - (n + 1)) * 20 + 18)) (n := (0 + (37 - (n + 1)) * 120 + 108)) (by first | omega | (simp only [zRm]; omega)) (by first | omega | (simp only [zRm]; omega)) ?_
                exact hb_186 x4 _ _ _ ls I (lv_sub hl7 [1, 2, 3, 4] rfl) hw
              · replace hw := hw.2 c
                refine lv_aload_n hx hb dL_areAlike_167 rfl (lv_at hl7 1 rfl) ?_
                refine lv_iconst (v := 1) hx hb dL_areAlike_168 (by decide) ?_
                refine lv_iload hx hb dL_areAlike_169 (lv_at hl7 4 rfl) ?_
                refine lv_iconst (v := 0) hx hb dL_areAlike_171 (by decide) ?_
                refine z_callSX C I (as := [.ref p0, .int (1 : Int32), .int x4, .int (0 : Int32)]) (rest := []) (m_L_does_1 E EN hw) kw_L_74 rfl rfl hl7.1 (Nat.le_of_ble_eq_true rfl) ⟨Nat.le_of_ble_eq_true rfl, Nat.le_of_ble_eq_true rfl⟩ ⟨(by first | omega | (simp only [zRm]; omega)), (by first | omega | (simp only [zRm]; omega))⟩ dL_areAlike_172 (fun v M12 _ _ I hv => ?_)
                obtain ⟨v13, rfl, hw⟩ := hv
                refine W.eq (g2 := F0 m 175 ls [.int v13]) rfl ?_
                refine lv_aload_n hx hb dL_areAlike_175 rfl (lv_at hl7 2 rfl) ?_
                refine lv_iconst (v := 1) hx hb dL_areAlike_176 (by decide) ?_
                refine lv_iload hx hb dL_areAlike_177 (lv_at hl7 4 rfl) ?_
                refine lv_iconst (v := 0) hx hb dL_areAlike_179 (by decide) ?_
                refine z_callSX C I (as := [.ref p1, .int (1 : Int32), .int x4, .int (0 : Int32)]) (rest := [.int v13]) (m_L_does_1 E EN hw) kw_L_74 rfl rfl hl7.1 (Nat.le_of_ble_eq_true rfl) ⟨Nat.le_of_ble_eq_true rfl, Nat.le_of_ble_eq_true rfl⟩ ⟨(by first | omega | (simp only [zRm]; omega)), (by first | omega | (simp only [zRm]; omega))⟩ dL_areAlike_180 (fun v M14 _ _ I hv => ?_)
                obtain ⟨v15, rfl, hw⟩ := hv
                refine W.eq (g2 := F0 m 183 ls [.int v15, .int v13]) rfl ?_
                refine lv_icmp_ne (tgt := 218) hx hb dL_areAlike_183 (by decide) (fun c => ?_) (fun c => ?_)
                · replace hw := hw.1 c
                  refine W.widen (k := (0 + (37 - (n + 1)) * 20 + 20)) (n := (0 + (37 - (n + 1)) * 120 + 120)) (by first | omega | (simp only [zRm]; omega)) (by first | omega | (simp only [zRm]; omega)) ?_
                  exact hb_218 x4 _ _ _ ls I (lv_sub hl7 [1, 2, 3, 4] rfl) hw
                · replace hw := hw.2 c
                  refine W.widen (k := (0 + (37 - (n + 1)) * 20 + 18)) (n := (0 + (37 - (n + 1)) * 120 + 108)) (by first | omega | (simp only [zRm]; omega)) (by first | omega | (simp only [zRm]; omega)) ?_
                  exact hb_186 x4 _ _ _ ls I (lv_sub hl7 [1, 2, 3, 4] rfl) hw
      have hb_134 : ∀ (x4 : Int32) (M : zM) (H : Heap) (locs : List Loc) (ls : Array Slot), zWk X s M H locs → lv_has ls 5 [(0, .ref p0), (1, .ref p1), (2, .int p2), (4, .int x4)] → w_L_areAlike_134 p0 p1 p2 P (w_L_areAlike_5 p0 p1 p2 P n) x4 M → W p l e (zRm 107 4914 740 4440) s m args below meth c H locs (0 + (37 - (n + 1)) * 20 + 12) (0 + (37 - (n + 1)) * 120 + 72) (vx_MQ below (zQc X (zPz P)) (zXc X PX) args s 740 4440 (zBase X)) (F0 m 134 ls []) := by
        intro x4 M H locs ls I hl hw
        unfold w_L_areAlike_134 at hw
        refine lv_iconst (v := 0) hx hb dL_areAlike_134 (by decide) ?_
        refine W.widen (k := (0 + (37 - (n + 1)) * 20 + 12)) (n := (0 + (37 - (n + 1)) * 120 + 72)) (by first | omega | (simp only [zRm]; omega)) (by first | omega | (simp only [zRm]; omega)) ?_
        exact hb_135 x4 (0 : Int32) _ _ _ ls I (lv_sub hl [0, 1, 2, 3] rfl) hw
      have hb_130 : ∀ (x4 : Int32) (M : zM) (H : Heap) (locs : List Loc) (ls : Array Slot), zWk X s M H locs → lv_has ls 5 [(0, .ref p0), (1, .ref p1), (2, .int p2), (4, .int x4)] → w_L_areAlike_130 p0 p1 p2 P (w_L_areAlike_5 p0 p1 p2 P n) x4 M → W p l e (zRm 107 4914 740 4440) s m args below meth c H locs (0 + (37 - (n + 1)) * 20 + 12) (0 + (37 - (n + 1)) * 120 + 72) (vx_MQ below (zQc X (zPz P)) (zXc X PX) args s 740 4440 (zBase X)) (F0 m 130 ls []) := by
        intro x4 M H locs ls I hl hw
        unfold w_L_areAlike_130 at hw
        refine lv_iconst (v := 1) hx hb dL_areAlike_130 (by decide) ?_
        refine lv_goto (tgt := 135) hx hb dL_areAlike_131 (by decide) ?_
        refine W.widen (k := (0 + (37 - (n + 1)) * 20 + 12)) (n := (0 + (37 - (n + 1)) * 120 + 72)) (by first | omega | (simp only [zRm]; omega)) (by first | omega | (simp only [zRm]; omega)) ?_
        exact hb_135 x4 (1 : Int32) _ _ _ ls I (lv_sub hl [0, 1, 2, 3] rfl) hw
      refine lv_iload hx hb dL_areAlike_5 (lv_at hl 4 rfl) ?_
      refine lv_bipush (v := 36) hx hb dL_areAlike_7 (by decide) ?_
      refine lv_icmp_ge (tgt := 226) hx hb dL_areAlike_9 (by decide) (fun c => ?_) (fun c => ?_)
      · replace hw := hw.1 c
        refine lv_iload_n hx hb dL_areAlike_226 rfl (lv_at hl 3 rfl) ?_
        obtain ⟨h01, hw⟩ := hw
        exact z_zret C I hr h01 ⟨_, rfl, h01, hw⟩ (by first | omega | (simp only [zRm]; omega)) (by first | omega | (simp only [zRm]; omega)) dL_areAlike_227
      · replace hw := hw.2 c
        refine lv_iload_n hx hb dL_areAlike_12 rfl (lv_at hl 3 rfl) ?_
        refine lv_if_eq (tgt := 226) hx hb dL_areAlike_13 (by decide) (fun c => ?_) (fun c => ?_)
        · replace hw := hw.1 c
          refine lv_iload_n hx hb dL_areAlike_226 rfl (lv_at hl 3 rfl) ?_
          obtain ⟨h01, hw⟩ := hw
          exact z_zret C I hr h01 ⟨_, rfl, h01, hw⟩ (by first | omega | (simp only [zRm]; omega)) (by first | omega | (simp only [zRm]; omega)) dL_areAlike_227
        · replace hw := hw.2 c
          refine lv_aload_n hx hb dL_areAlike_16 rfl (lv_at hl 0 rfl) ?_
          refine lv_bipush (v := 7) hx hb dL_areAlike_17 (by decide) ?_
          refine lv_iload hx hb dL_areAlike_19 (lv_at hl 4 rfl) ?_
          refine lv_bipush (v := 6) hx hb dL_areAlike_21 (by decide) ?_
          refine lv_idiv hx hb dL_areAlike_23 (by decide) ?_
          refine lv_iload hx hb dL_areAlike_24 (lv_at hl 4 rfl) ?_
          refine lv_bipush (v := 6) hx hb dL_areAlike_26 (by decide) ?_
          refine lv_irem hx hb dL_areAlike_28 (by decide) ?_
          refine z_callSX C I (as := [.ref p0, .int (7 : Int32), .int (x4 / (6 : Int32)), .int (x4 - x4 / (6 : Int32) * (6 : Int32))]) (rest := []) (m_L_does_7 E EN hw) kw_L_74 rfl rfl hl.1 (Nat.le_of_ble_eq_true rfl) ⟨Nat.le_of_ble_eq_true rfl, Nat.le_of_ble_eq_true rfl⟩ ⟨(by first | omega | (simp only [zRm]; omega)), (by first | omega | (simp only [zRm]; omega))⟩ dL_areAlike_29 (fun v M16 _ _ I hv => ?_)
          obtain ⟨v17, rfl, hw⟩ := hv
          refine W.eq (g2 := F0 m 32 ls [.int v17]) rfl ?_
          refine lv_aload_n hx hb dL_areAlike_32 rfl (lv_at hl 1 rfl) ?_
          refine lv_bipush (v := 7) hx hb dL_areAlike_33 (by decide) ?_
          refine lv_iload hx hb dL_areAlike_35 (lv_at hl 4 rfl) ?_
          refine lv_bipush (v := 6) hx hb dL_areAlike_37 (by decide) ?_
          refine lv_idiv hx hb dL_areAlike_39 (by decide) ?_
          refine lv_iload hx hb dL_areAlike_40 (lv_at hl 4 rfl) ?_
          refine lv_bipush (v := 6) hx hb dL_areAlike_42 (by decide) ?_
          refine lv_irem hx hb dL_areAlike_44 (by decide) ?_
          refine z_callSX C I (as := [.ref p1, .int (7 : Int32), .int (x4 / (6 : Int32)), .int (x4 - x4 / (6 : Int32) * (6 : Int32))]) (rest := [.int v17]) (m_L_does_7 E EN hw) kw_L_74 rfl rfl hl.1 (Nat.le_of_ble_eq_true rfl) ⟨Nat.le_of_ble_eq_true rfl, Nat.le_of_ble_eq_true rfl⟩ ⟨(by first | omega | (simp only [zRm]; omega)), (by first | omega | (simp only [zRm]; omega))⟩ dL_areAlike_45 (fun v M18 _ _ I hv => ?_)
          obtain ⟨v19, rfl, hw⟩ := hv
          refine W.eq (g2 := F0 m 48 ls [.int v19, .int v17]) rfl ?_
          refine lv_icmp_ne (tgt := 134) hx hb dL_areAlike_48 (by decide) (fun c => ?_) (fun c => ?_)
          · replace hw := hw.1 c
            refine W.widen (k := (0 + (37 - (n + 1)) * 20 + 12)) (n := (0 + (37 - (n + 1)) * 120 + 72)) (by first | omega | (simp only [zRm]; omega)) (by first | omega | (simp only [zRm]; omega)) ?_
            exact hb_134 x4 _ _ _ ls I (lv_sub hl [0, 1, 2, 4] rfl) hw
          · replace hw := hw.2 c
            refine lv_aload_n hx hb dL_areAlike_51 rfl (lv_at hl 0 rfl) ?_
            refine lv_bipush (v := 8) hx hb dL_areAlike_52 (by decide) ?_
            refine lv_iload hx hb dL_areAlike_54 (lv_at hl 4 rfl) ?_
            refine lv_bipush (v := 6) hx hb dL_areAlike_56 (by decide) ?_
            refine lv_idiv hx hb dL_areAlike_58 (by decide) ?_
            refine lv_iload hx hb dL_areAlike_59 (lv_at hl 4 rfl) ?_
            refine lv_bipush (v := 6) hx hb dL_areAlike_61 (by decide) ?_
            refine lv_irem hx hb dL_areAlike_63 (by decide) ?_
            refine z_callSX C I (as := [.ref p0, .int (8 : Int32), .int (x4 / (6 : Int32)), .int (x4 - x4 / (6 : Int32) * (6 : Int32))]) (rest := []) (m_L_does_8 E EN hw) kw_L_74 rfl rfl hl.1 (Nat.le_of_ble_eq_true rfl) ⟨Nat.le_of_ble_eq_true rfl, Nat.le_of_ble_eq_true rfl⟩ ⟨(by first | omega | (simp only [zRm]; omega)), (by first | omega | (simp only [zRm]; omega))⟩ dL_areAlike_64 (fun v M20 _ _ I hv => ?_)
            obtain ⟨v21, rfl, hw⟩ := hv
            refine W.eq (g2 := F0 m 67 ls [.int v21]) rfl ?_
            refine lv_aload_n hx hb dL_areAlike_67 rfl (lv_at hl 1 rfl) ?_
            refine lv_bipush (v := 8) hx hb dL_areAlike_68 (by decide) ?_
            refine lv_iload hx hb dL_areAlike_70 (lv_at hl 4 rfl) ?_
            refine lv_bipush (v := 6) hx hb dL_areAlike_72 (by decide) ?_
            refine lv_idiv hx hb dL_areAlike_74 (by decide) ?_
            refine lv_iload hx hb dL_areAlike_75 (lv_at hl 4 rfl) ?_
            refine lv_bipush (v := 6) hx hb dL_areAlike_77 (by decide) ?_
            refine lv_irem hx hb dL_areAlike_79 (by decide) ?_
            refine z_callSX C I (as := [.ref p1, .int (8 : Int32), .int (x4 / (6 : Int32)), .int (x4 - x4 / (6 : Int32) * (6 : Int32))]) (rest := [.int v21]) (m_L_does_8 E EN hw) kw_L_74 rfl rfl hl.1 (Nat.le_of_ble_eq_true rfl) ⟨Nat.le_of_ble_eq_true rfl, Nat.le_of_ble_eq_true rfl⟩ ⟨(by first | omega | (simp only [zRm]; omega)), (by first | omega | (simp only [zRm]; omega))⟩ dL_areAlike_80 (fun v M22 _ _ I hv => ?_)
            obtain ⟨v23, rfl, hw⟩ := hv
            refine W.eq (g2 := F0 m 83 ls [.int v23, .int v21]) rfl ?_
            refine lv_icmp_ne (tgt := 134) hx hb dL_areAlike_83 (by decide) (fun c => ?_) (fun c => ?_)
            · replace hw := hw.1 c
              refine W.widen (k := (0 + (37 - (n + 1)) * 20 + 12)) (n := (0 + (37 - (n + 1)) * 120 + 72)) (by first | omega | (simp only [zRm]; omega)) (by first | omega | (simp only [zRm]; omega)) ?_
              exact hb_134 x4 _ _ _ ls I (lv_sub hl [0, 1, 2, 4] rfl) hw
            · replace hw := hw.2 c
              refine lv_iload hx hb dL_areAlike_86 (lv_at hl 4 rfl) ?_
              refine lv_bipush (v := 7) hx hb dL_areAlike_88 (by decide) ?_
              refine lv_irem hx hb dL_areAlike_90 (by decide) ?_
              refine lv_iload_n hx hb dL_areAlike_91 rfl (lv_at hl 2 rfl) ?_
              refine lv_icmp_ne (tgt := 130) hx hb dL_areAlike_92 (by decide) (fun c => ?_) (fun c => ?_)
              · replace hw := hw.1 c
                refine W.widen (k := (0 + (37 - (n + 1)) * 20 + 12)) (n := (0 + (37 - (n + 1)) * 120 + 72)) (by first | omega | (simp only [zRm]; omega)) (by first | omega | (simp only [zRm]; omega)) ?_
                exact hb_130 x4 _ _ _ ls I (lv_sub hl [0, 1, 2, 4] rfl) hw
              · replace hw := hw.2 c
                refine lv_aload_n hx hb dL_areAlike_95 rfl (lv_at hl 0 rfl) ?_
                refine lv_bipush (v := 10) hx hb dL_areAlike_96 (by decide) ?_
                refine lv_iload hx hb dL_areAlike_98 (lv_at hl 4 rfl) ?_
                refine lv_bipush (v := 6) hx hb dL_areAlike_100 (by decide) ?_
                refine lv_idiv hx hb dL_areAlike_102 (by decide) ?_
                refine lv_iload hx hb dL_areAlike_103 (lv_at hl 4 rfl) ?_
                refine lv_bipush (v := 6) hx hb dL_areAlike_105 (by decide) ?_
                refine lv_irem hx hb dL_areAlike_107 (by decide) ?_
                refine z_callSX C I (as := [.ref p0, .int (10 : Int32), .int (x4 / (6 : Int32)), .int (x4 - x4 / (6 : Int32) * (6 : Int32))]) (rest := []) (m_L_does_10 E EN hw) kw_L_74 rfl rfl hl.1 (Nat.le_of_ble_eq_true rfl) ⟨Nat.le_of_ble_eq_true rfl, Nat.le_of_ble_eq_true rfl⟩ ⟨(by first | omega | (simp only [zRm]; omega)), (by first | omega | (simp only [zRm]; omega))⟩ dL_areAlike_108 (fun v M24 _ _ I hv => ?_)
                obtain ⟨v25, rfl, hw⟩ := hv
                refine W.eq (g2 := F0 m 111 ls [.int v25]) rfl ?_
                refine lv_aload_n hx hb dL_areAlike_111 rfl (lv_at hl 1 rfl) ?_
                refine lv_bipush (v := 10) hx hb dL_areAlike_112 (by decide) ?_
                refine lv_iload hx hb dL_areAlike_114 (lv_at hl 4 rfl) ?_
                refine lv_bipush (v := 6) hx hb dL_areAlike_116 (by decide) ?_
                refine lv_idiv hx hb dL_areAlike_118 (by decide) ?_
                refine lv_iload hx hb dL_areAlike_119 (lv_at hl 4 rfl) ?_
                refine lv_bipush (v := 6) hx hb dL_areAlike_121 (by decide) ?_
                refine lv_irem hx hb dL_areAlike_123 (by decide) ?_
                refine z_callSX C I (as := [.ref p1, .int (10 : Int32), .int (x4 / (6 : Int32)), .int (x4 - x4 / (6 : Int32) * (6 : Int32))]) (rest := [.int v25]) (m_L_does_10 E EN hw) kw_L_74 rfl rfl hl.1 (Nat.le_of_ble_eq_true rfl) ⟨Nat.le_of_ble_eq_true rfl, Nat.le_of_ble_eq_true rfl⟩ ⟨(by first | omega | (simp only [zRm]; omega)), (by first | omega | (simp only [zRm]; omega))⟩ dL_areAlike_124 (fun v M26 _ _ I hv => ?_)
                obtain ⟨v27, rfl, hw⟩ := hv
                refine W.eq (g2 := F0 m 127 ls [.int v27, .int v25]) rfl ?_
                refine lv_icmp_ne (tgt := 134) hx hb dL_areAlike_127 (by decide) (fun c => ?_) (fun c => ?_)
                · replace hw := hw.1 c
                  refine W.widen (k := (0 + (37 - (n + 1)) * 20 + 12)) (n := (0 + (37 - (n + 1)) * 120 + 72)) (by first | omega | (simp only [zRm]; omega)) (by first | omega | (simp only [zRm]; omega)) ?_
                  exact hb_134 x4 _ _ _ ls I (lv_sub hl [0, 1, 2, 4] rfl) hw
                · replace hw := hw.2 c
                  refine W.widen (k := (0 + (37 - (n + 1)) * 20 + 12)) (n := (0 + (37 - (n + 1)) * 120 + 72)) (by first | omega | (simp only [zRm]; omega)) (by first | omega | (simp only [zRm]; omega)) ?_
                  exact hb_130 x4 _ _ _ ls I (lv_sub hl [0, 1, 2, 4] rfl) hw
  refine lv_iconst (v := 1) hx hb dL_areAlike_0 (by decide) ?_
  refine lv_istore_n (lv' := [(3, .int (1 : Int32)), (0, .ref p0), (1, .ref p1), (2, .int p2)]) hx hb dL_areAlike_1 rfl hl (by decide) rfl (fun ls hl28 => ?_)
  refine lv_iconst (v := 0) hx hb dL_areAlike_2 (by decide) ?_
  refine lv_istore (lv' := [(4, .int (0 : Int32)), (3, .int (1 : Int32)), (0, .ref p0), (1, .ref p1), (2, .int p2)]) hx hb dL_areAlike_3 hl28 (by decide) rfl (fun ls hl29 => ?_)
  refine W.widen (k := 0 + (37 - 37) * 20) (n := 0 + (37 - 37) * 120) (Nat.le_of_ble_eq_true rfl) (Nat.le_of_ble_eq_true rfl) ?_
  exact hb_5 37 (Nat.le_refl _) (1 : Int32) (0 : Int32) _ _ _ ls I (lv_sub hl29 [2, 3, 4, 1, 0] rfl) hw
