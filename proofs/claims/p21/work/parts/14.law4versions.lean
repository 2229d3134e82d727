set_option maxHeartbeats 4000000 in
set_option maxRecDepth 100000 in
theorem m_L_areVersionsSo {X : zX} {l : Launch} (E : zEnv X l) (EN : zNcs X) {M : zM} {p0 : Nat} {p1 : Int32} {p2 : Int32} {P : Int32 → zM → Prop} {PX : Nat → zM → Prop} (hw : w_L_areVersionsSo p0 p1 p2 M P) : zCT X l yL_areVersionsSo cL_areVersionsSo 10 (some .boolean) 105 4878 927 5562 M [.ref p0, .int p1, .int p2] (zPz P) PX := by
  refine z_entry E (by decide) ?_
  intro p e s m args below meth c C hr htab I
  have hx := C.1.1
  have hb := C.1.2.1
  obtain ⟨ls, he, hl⟩ := z_enter (m := m) (n := 10) (vs := [.ref p0, .int p1, .int p2]) (l := [(0, .ref p0), (1, .int p1), (2, .int p2)]) (Nat.le_of_ble_eq_true rfl) rfl
  rw [he]
  clear he
  unfold w_L_areVersionsSo at hw
  have hb_21 : ∀ (n : Nat), n ≤ 37 → ∀ (x3 : Int32) (x4 : Int32) (x5 : Int32) (M : zM) (H : Heap) (locs : List Loc) (ls : Array Slot), zWk X s M H locs → lv_has ls 10 [(0, .ref p0), (1, .int p1), (2, .int p2), (3, .int x3), (4, .int x4), (5, .int x5)] → w_L_areVersionsSo_21 p0 p1 p2 P n x3 x4 x5 M → W p l e (zRm 105 4878 927 5562) s m args below meth c H locs (2 + (37 - n) * 25) (12 + (37 - n) * 150) (vx_MQ below (zQc X (zPz P)) (zXc X PX) args s 927 5562 (zBase X)) (F0 m 21 ls []) := by
    intro n
    induction n with
    | zero => intro _ _ _ _ M H locs ls I hl hw; exact hw.elim
    | succ n ih =>
      intro hn x3 x4 x5 M H locs ls I hl hw
      unfold w_L_areVersionsSo_21 at hw
      have hb_257 : ∀ (x3 : Int32) (x4 : Int32) (x5 : Int32) (M : zM) (H : Heap) (locs : List Loc) (ls : Array Slot), zWk X s M H locs → lv_has ls 10 [(0, .ref p0), (1, .int p1), (2, .int p2), (3, .int x3), (4, .int x4), (5, .int x5)] → w_L_areVersionsSo_257 p0 p1 p2 P (w_L_areVersionsSo_21 p0 p1 p2 P n) x3 x4 x5 M → W p l e (zRm 105 4878 927 5562) s m args below meth c H locs (2 + (37 - (n + 1)) * 25 + 25) (12 + (37 - (n + 1)) * 150 + 150) (vx_MQ below (zQc X (zPz P)) (zXc X PX) args s 927 5562 (zBase X)) (F0 m 257 ls []) := by
        intro x3 x4 x5 M H locs ls I hl hw
        unfold w_L_areVersionsSo_257 at hw
        refine lv_iinc (v := (x5 + 1)) (lv' := [(5, .int (x5 + 1)), (0, .ref p0), (1, .int p1), (2, .int p2), (3, .int x3), (4, .int x4)]) hx hb dL_areVersionsSo_257 hl (k := 5) rfl (by rfl) (by decide) rfl (fun ls hl1 => ?_)
        refine lv_goto (tgt := 21) hx hb dL_areVersionsSo_260 (by decide) ?_
        refine W.widen (k := 2 + (37 - n) * 25) (n := 12 + (37 - n) * 150) (by omega) (by omega) ?_
        exact ih (by omega) x3 x4 (x5 + 1) _ _ _ ls I (lv_sub hl1 [1, 2, 3, 4, 5, 0] rfl) hw
      have hb_256 : ∀ (x4 : Int32) (x5 : Int32) (y0 : Int32) (M : zM) (H : Heap) (locs : List Loc) (ls : Array Slot), zWk X s M H locs → lv_has ls 10 [(0, .ref p0), (1, .int p1), (2, .int p2), (4, .int x4), (5, .int x5)] → w_L_areVersionsSo_256 p0 p1 p2 P (w_L_areVersionsSo_21 p0 p1 p2 P n) x4 x5 y0 M → W p l e (zRm 105 4878 927 5562) s m args below meth c H locs (2 + (37 - (n + 1)) * 25 + 25) (12 + (37 - (n + 1)) * 150 + 150) (vx_MQ below (zQc X (zPz P)) (zXc X PX) args s 927 5562 (zBase X)) (F0 m 256 ls [.int y0]) := by
        intro x4 x5 y0 M H locs ls I hl hw
        unfold w_L_areVersionsSo_256 at hw
        refine lv_istore_n (lv' := [(3, .int y0), (0, .ref p0), (1, .int p1), (2, .int p2), (4, .int x4), (5, .int x5)]) hx hb dL_areVersionsSo_256 rfl hl (by decide) rfl (fun ls hl2 => ?_)
        refine W.widen (k := (2 + (37 - (n + 1)) * 25 + 25)) (n := (12 + (37 - (n + 1)) * 150 + 150)) (by first | omega | (simp only [zRm]; omega)) (by first | omega | (simp only [zRm]; omega)) ?_
        exact hb_257 y0 x4 x5 _ _ _ ls I (lv_sub hl2 [1, 2, 3, 0, 4, 5] rfl) hw
      have hb_255 : ∀ (x4 : Int32) (x5 : Int32) (M : zM) (H : Heap) (locs : List Loc) (ls : Array Slot), zWk X s M H locs → lv_has ls 10 [(0, .ref p0), (1, .int p1), (2, .int p2), (4, .int x4), (5, .int x5)] → w_L_areVersionsSo_255 p0 p1 p2 P (w_L_areVersionsSo_21 p0 p1 p2 P n) x4 x5 M → W p l e (zRm 105 4878 927 5562) s m args below meth c H locs (2 + (37 - (n + 1)) * 25 + 25) (12 + (37 - (n + 1)) * 150 + 150) (vx_MQ below (zQc X (zPz P)) (zXc X PX) args s 927 5562 (zBase X)) (F0 m 255 ls []) := by
        intro x4 x5 M H locs ls I hl hw
        unfold w_L_areVersionsSo_255 at hw
        refine lv_iconst (v := 0) hx hb dL_areVersionsSo_255 (by decide) ?_
        refine W.widen (k := (2 + (37 - (n + 1)) * 25 + 25)) (n := (12 + (37 - (n + 1)) * 150 + 150)) (by first | omega | (simp only [zRm]; omega)) (by first | omega | (simp only [zRm]; omega)) ?_
        exact hb_256 x4 x5 (0 : Int32) _ _ _ ls I (lv_sub hl [0, 1, 2, 3, 4] rfl) hw
      have hb_251 : ∀ (x4 : Int32) (x5 : Int32) (M : zM) (H : Heap) (locs : List Loc) (ls : Array Slot), zWk X s M H locs → lv_has ls 10 [(0, .ref p0), (1, .int p1), (2, .int p2), (4, .int x4), (5, .int x5)] → w_L_areVersionsSo_251 p0 p1 p2 P (w_L_areVersionsSo_21 p0 p1 p2 P n) x4 x5 M → W p l e (zRm 105 4878 927 5562) s m args below meth c H locs (2 + (37 - (n + 1)) * 25 + 25) (12 + (37 - (n + 1)) * 150 + 150) (vx_MQ below (zQc X (zPz P)) (zXc X PX) args s 927 5562 (zBase X)) (F0 m 251 ls []) := by
        intro x4 x5 M H locs ls I hl hw
        unfold w_L_areVersionsSo_251 at hw
        refine lv_iconst (v := 1) hx hb dL_areVersionsSo_251 (by decide) ?_
        refine lv_goto (tgt := 256) hx hb dL_areVersionsSo_252 (by decide) ?_
        refine W.widen (k := (2 + (37 - (n + 1)) * 25 + 25)) (n := (12 + (37 - (n + 1)) * 150 + 150)) (by first | omega | (simp only [zRm]; omega)) (by first | omega | (simp only [zRm]; omega)) ?_
        exact hb_256 x4 x5 (1 : Int32) _ _ _ ls I (lv_sub hl [0, 1, 2, 3, 4] rfl) hw
      have hb_232 : ∀ (x4 : Int32) (x5 : Int32) (x9 : Int32) (M : zM) (H : Heap) (locs : List Loc) (ls : Array Slot), zWk X s M H locs → lv_has ls 10 [(0, .ref p0), (1, .int p1), (2, .int p2), (4, .int x4), (5, .int x5), (9, .int x9)] → w_L_areVersionsSo_232 p0 p1 p2 P (w_L_areVersionsSo_21 p0 p1 p2 P n) x4 x5 x9 M → W p l e (zRm 105 4878 927 5562) s m args below meth c H locs (2 + (37 - (n + 1)) * 25 + 23) (12 + (37 - (n + 1)) * 150 + 138) (vx_MQ below (zQc X (zPz P)) (zXc X PX) args s 927 5562 (zBase X)) (F0 m 232 ls []) := by
        intro x4 x5 x9 M H locs ls I hl hw
        unfold w_L_areVersionsSo_232 at hw
        refine lv_iload hx hb dL_areVersionsSo_232 (lv_at hl 5 rfl) ?_
        refine lv_aload_n hx hb dL_areVersionsSo_234 rfl (lv_at hl 0 rfl) ?_
        refine lv_bipush (v := 8) hx hb dL_areVersionsSo_235 (by decide) ?_
        refine lv_iload_n hx hb dL_areVersionsSo_237 rfl (lv_at hl 1 rfl) ?_
        refine lv_bipush (v := 6) hx hb dL_areVersionsSo_238 (by decide) ?_
        refine lv_idiv hx hb dL_areVersionsSo_240 (by decide) ?_
        refine lv_iload_n hx hb dL_areVersionsSo_241 rfl (lv_at hl 1 rfl) ?_
        refine lv_bipush (v := 6) hx hb dL_areVersionsSo_242 (by decide) ?_
        refine lv_irem hx hb dL_areVersionsSo_244 (by decide) ?_
        refine z_callSX C I (as := [.ref p0, .int (8 : Int32), .int (p1 / (6 : Int32)), .int (p1 - p1 / (6 : Int32) * (6 : Int32))]) (rest := [.int x9]) (m_L_does_8 E EN hw) kw_L_74 rfl rfl hl.1 (Nat.le_of_ble_eq_true rfl) ⟨Nat.le_of_ble_eq_true rfl, Nat.le_of_ble_eq_true rfl⟩ ⟨(by first | omega | (simp only [zRm]; omega)), (by first | omega | (simp only [zRm]; omega))⟩ dL_areVersionsSo_245 (fun v M3 _ _ I hv => ?_)
        obtain ⟨v4, rfl, hw⟩ := hv
        refine W.eq (g2 := F0 m 248 ls [.int v4, .int x9]) rfl ?_
        refine lv_icmp_ne (tgt := 255) hx hb dL_areVersionsSo_248 (by decide) (fun c => ?_) (fun c => ?_)
        · replace hw := hw.1 c
          refine W.widen (k := (2 + (37 - (n + 1)) * 25 + 25)) (n := (12 + (37 - (n + 1)) * 150 + 150)) (by first | omega | (simp only [zRm]; omega)) (by first | omega | (simp only [zRm]; omega)) ?_
          exact hb_255 x4 x5 _ _ _ ls I (lv_sub hl [0, 1, 2, 3, 4] rfl) hw
        · replace hw := hw.2 c
          refine W.widen (k := (2 + (37 - (n + 1)) * 25 + 25)) (n := (12 + (37 - (n + 1)) * 150 + 150)) (by first | omega | (simp only [zRm]; omega)) (by first | omega | (simp only [zRm]; omega)) ?_
          exact hb_251 x4 x5 _ _ _ ls I (lv_sub hl [0, 1, 2, 3, 4] rfl) hw
      have hb_210 : ∀ (x4 : Int32) (x5 : Int32) (x6 : Int32) (x7 : Int32) (x9 : Int32) (M : zM) (H : Heap) (locs : List Loc) (ls : Array Slot), zWk X s M H locs → lv_has ls 10 [(0, .ref p0), (1, .int p1), (2, .int p2), (4, .int x4), (5, .int x5), (6, .int x6), (7, .int x7), (9, .int x9)] → w_L_areVersionsSo_210 p0 p1 p2 P (w_L_areVersionsSo_21 p0 p1 p2 P n) x4 x5 x6 x7 x9 M → W p l e (zRm 105 4878 927 5562) s m args below meth c H locs (2 + (37 - (n + 1)) * 25 + 23) (12 + (37 - (n + 1)) * 150 + 138) (vx_MQ below (zQc X (zPz P)) (zXc X PX) args s 927 5562 (zBase X)) (F0 m 210 ls []) := by
        intro x4 x5 x6 x7 x9 M H locs ls I hl hw
        unfold w_L_areVersionsSo_210 at hw
        refine lv_iload hx hb dL_areVersionsSo_210 (lv_at hl 3 rfl) ?_
        refine lv_iload hx hb dL_areVersionsSo_212 (lv_at hl 5 rfl) ?_
        refine lv_icmp_ne (tgt := 251) hx hb dL_areVersionsSo_214 (by decide) (fun c => ?_) (fun c => ?_)
        · replace hw := hw.1 c
          refine W.widen (k := (2 + (37 - (n + 1)) * 25 + 25)) (n := (12 + (37 - (n + 1)) * 150 + 150)) (by first | omega | (simp only [zRm]; omega)) (by first | omega | (simp only [zRm]; omega)) ?_
          exact hb_251 x4 x5 _ _ _ ls I (lv_sub hl [0, 1, 2, 3, 4] rfl) hw
        · replace hw := hw.2 c
          refine lv_iload hx hb dL_areVersionsSo_217 (lv_at hl 4 rfl) ?_
          refine lv_bipush (v := 6) hx hb dL_areVersionsSo_219 (by decide) ?_
          refine lv_irem hx hb dL_areVersionsSo_221 (by decide) ?_
          refine lv_iload_n hx hb dL_areVersionsSo_222 rfl (lv_at hl 2 rfl) ?_
          refine lv_icmp_ne (tgt := 232) hx hb dL_areVersionsSo_223 (by decide) (fun c => ?_) (fun c => ?_)
          · replace hw := hw.1 c
            refine W.widen (k := (2 + (37 - (n + 1)) * 25 + 23)) (n := (12 + (37 - (n + 1)) * 150 + 138)) (by first | omega | (simp only [zRm]; omega)) (by first | omega | (simp only [zRm]; omega)) ?_
            exact hb_232 x4 x5 x9 _ _ _ ls I (lv_sub hl [0, 1, 2, 3, 4, 7] rfl) hw
          · replace hw := hw.2 c
            refine lv_iload hx hb dL_areVersionsSo_226 (lv_at hl 6 rfl) ?_
            refine lv_iconst (v := 1) hx hb dL_areVersionsSo_228 (by decide) ?_
            refine lv_icmp_ne (tgt := 255) hx hb dL_areVersionsSo_229 (by decide) (fun c => ?_) (fun c => ?_)
            · replace hw := hw.1 c
              refine W.widen (k := (2 + (37 - (n + 1)) * 25 + 25)) (n := (12 + (37 - (n + 1)) * 150 + 150)) (by first | omega | (simp only [zRm]; omega)) (by first | omega | (simp only [zRm]; omega)) ?_
              exact hb_255 x4 x5 _ _ _ ls I (lv_sub hl [0, 1, 2, 3, 4] rfl) hw
            · replace hw := hw.2 c
              refine W.widen (k := (2 + (37 - (n + 1)) * 25 + 23)) (n := (12 + (37 - (n + 1)) * 150 + 138)) (by first | omega | (simp only [zRm]; omega)) (by first | omega | (simp only [zRm]; omega)) ?_
              exact hb_232 x4 x5 x9 _ _ _ ls I (lv_sub hl [0, 1, 2, 3, 4, 7] rfl) hw
      have hb_112 : ∀ (x4 : Int32) (x5 : Int32) (x6 : Int32) (x7 : Int32) (y0 : Int32) (M : zM) (H : Heap) (locs : List Loc) (ls : Array Slot), zWk X s M H locs → lv_has ls 10 [(0, .ref p0), (1, .int p1), (2, .int p2), (4, .int x4), (5, .int x5), (6, .int x6), (7, .int x7)] → w_L_areVersionsSo_112 p0 p1 p2 P (w_L_areVersionsSo_21 p0 p1 p2 P n) x4 x5 x6 x7 y0 M → W p l e (zRm 105 4878 927 5562) s m args below meth c H locs (2 + (37 - (n + 1)) * 25 + 15) (12 + (37 - (n + 1)) * 150 + 90) (vx_MQ below (zQc X (zPz P)) (zXc X PX) args s 927 5562 (zBase X)) (F0 m 112 ls [.int y0]) := by
        intro x4 x5 x6 x7 y0 M H locs ls I hl hw
        unfold w_L_areVersionsSo_112 at hw
        refine lv_istore (lv' := [(8, .int y0), (0, .ref p0), (1, .int p1), (2, .int p2), (4, .int x4), (5, .int x5), (6, .int x6), (7, .int x7)]) hx hb dL_areVersionsSo_112 hl (by decide) rfl (fun ls hl5 => ?_)
        refine lv_aload_n hx hb dL_areVersionsSo_114 rfl (lv_at hl5 1 rfl) ?_
        refine lv_bipush (v := 8) hx hb dL_areVersionsSo_115 (by decide) ?_
        refine lv_iload hx hb dL_areVersionsSo_117 (lv_at hl5 5 rfl) ?_
        refine lv_bipush (v := 6) hx hb dL_areVersionsSo_119 (by decide) ?_
        refine lv_idiv hx hb dL_areVersionsSo_121 (by decide) ?_
        refine lv_iload hx hb dL_areVersionsSo_122 (lv_at hl5 5 rfl) ?_
        refine lv_bipush (v := 6) hx hb dL_areVersionsSo_124 (by decide) ?_
        refine lv_irem hx hb dL_areVersionsSo_126 (by decide) ?_
        refine z_callSX C I (as := [.ref p0, .int (8 : Int32), .int (x5 / (6 : Int32)), .int (x5 - x5 / (6 : Int32) * (6 : Int32))]) (rest := []) (m_L_does_8 E EN hw) kw_L_74 rfl rfl hl5.1 (Nat.le_of_ble_eq_true rfl) ⟨Nat.le_of_ble_eq_true rfl, Nat.le_of_ble_eq_true rfl⟩ ⟨(by first | omega | (simp only [zRm]; omega)), (by first | omega | (simp only [zRm]; omega))⟩ dL_areVersionsSo_127 (fun v M6 _ _ I hv => ?_)
        obtain ⟨v7, rfl, hw⟩ := hv
        refine W.eq (g2 := F0 m 130 ls [.int v7]) rfl ?_
        refine lv_istore (lv' := [(9, .int v7), (8, .int y0), (0, .ref p0), (1, .int p1), (2, .int p2), (4, .int x4), (5, .int x5), (6, .int x6), (7, .int x7)]) hx hb dL_areVersionsSo_130 hl5 (by decide) rfl (fun ls hl8 => ?_)
        refine lv_iload hx hb dL_areVersionsSo_132 (lv_at hl8 0 rfl) ?_
        refine lv_iconst (v := 1) hx hb dL_areVersionsSo_134 (by decide) ?_
        refine lv_icmp_lt (tgt := 255) hx hb dL_areVersionsSo_135 (by decide) (fun c => ?_) (fun c => ?_)
        · replace hw := hw.1 c
          refine W.widen (k := (2 + (37 - (n + 1)) * 25 + 25)) (n := (12 + (37 - (n + 1)) * 150 + 150)) (by first | omega | (simp only [zRm]; omega)) (by first | omega | (simp only [zRm]; omega)) ?_
          exact hb_255 x4 x5 _ _ _ ls I (lv_sub hl8 [2, 3, 4, 5, 6] rfl) hw
        · replace hw := hw.2 c
          refine lv_iload hx hb dL_areVersionsSo_138 (lv_at hl8 0 rfl) ?_
          refine lv_bipush (v := 20) hx hb dL_areVersionsSo_140 (by decide) ?_
          refine lv_icmp_gt (tgt := 255) hx hb dL_areVersionsSo_142 (by decide) (fun c => ?_) (fun c => ?_)
          · replace hw := hw.1 c
            refine W.widen (k := (2 + (37 - (n + 1)) * 25 + 25)) (n := (12 + (37 - (n + 1)) * 150 + 150)) (by first | omega | (simp only [zRm]; omega)) (by first | omega | (simp only [zRm]; omega)) ?_
            exact hb_255 x4 x5 _ _ _ ls I (lv_sub hl8 [2, 3, 4, 5, 6] rfl) hw
          · replace hw := hw.2 c
            refine lv_iload hx hb dL_areVersionsSo_145 (lv_at hl8 7 rfl) ?_
            refine lv_bipush (v := 36) hx hb dL_areVersionsSo_147 (by decide) ?_
            refine lv_icmp_ge (tgt := 255) hx hb dL_areVersionsSo_149 (by decide) (fun c => ?_) (fun c => ?_)
            · replace hw := hw.1 c
              refine W.widen (k := (2 + (37 - (n + 1)) * 25 + 25)) (n := (12 + (37 - (n + 1)) * 150 + 150)) (by first | omega | (simp only [zRm]; omega)) (by first | omega | (simp only [zRm]; omega)) ?_
              exact hb_255 x4 x5 _ _ _ ls I (lv_sub hl8 [2, 3, 4, 5, 6] rfl) hw
            · replace hw := hw.2 c
              refine lv_iload hx hb dL_areVersionsSo_152 (lv_at hl8 6 rfl) ?_
              refine lv_bipush (v := 6) hx hb dL_areVersionsSo_154 (by decide) ?_
              refine lv_irem hx hb dL_areVersionsSo_156 (by decide) ?_
              refine lv_iload_n hx hb dL_areVersionsSo_157 rfl (lv_at hl8 4 rfl) ?_
              refine lv_icmp_ne (tgt := 210) hx hb dL_areVersionsSo_158 (by decide) (fun c => ?_) (fun c => ?_)
              · replace hw := hw.1 c
                refine W.widen (k := (2 + (37 - (n + 1)) * 25 + 23)) (n := (12 + (37 - (n + 1)) * 150 + 138)) (by first | omega | (simp only [zRm]; omega)) (by first | omega | (simp only [zRm]; omega)) ?_
                exact hb_210 x4 x5 x6 x7 v7 _ _ _ ls I (lv_sub hl8 [2, 3, 4, 5, 6, 7, 8, 0] rfl) hw
              · replace hw := hw.2 c
                refine lv_aload_n hx hb dL_areVersionsSo_161 rfl (lv_at hl8 2 rfl) ?_
                refine lv_iconst (v := 0) hx hb dL_areVersionsSo_162 (by decide) ?_
                refine lv_iload hx hb dL_areVersionsSo_163 (lv_at hl8 6 rfl) ?_
                refine lv_iload hx hb dL_areVersionsSo_165 (lv_at hl8 6 rfl) ?_
                refine z_callSX C I (as := [.ref p0, .int (0 : Int32), .int x5, .int x5]) (rest := []) (m_L_reads_0 E EN hw) kw_L_85 rfl rfl hl8.1 (Nat.le_of_ble_eq_true rfl) ⟨Nat.le_of_ble_eq_true rfl, Nat.le_of_ble_eq_true rfl⟩ ⟨(by first | omega | (simp only [zRm]; omega)), (by first | omega | (simp only [zRm]; omega))⟩ dL_areVersionsSo_167 (fun v M9 _ _ I hv => ?_)
                obtain ⟨v10, rfl, hw⟩ := hv
                refine W.eq (g2 := F0 m 170 ls [.int v10]) rfl ?_
                refine lv_iconst (v := 1) hx hb dL_areVersionsSo_170 (by decide) ?_
                refine lv_icmp_ne (tgt := 255) hx hb dL_areVersionsSo_171 (by decide) (fun c => ?_) (fun c => ?_)
                · replace hw := hw.1 c
                  refine W.widen (k := (2 + (37 - (n + 1)) * 25 + 25)) (n := (12 + (37 - (n + 1)) * 150 + 150)) (by first | omega | (simp only [zRm]; omega)) (by first | omega | (simp only [zRm]; omega)) ?_
                  exact hb_255 x4 x5 _ _ _ ls I (lv_sub hl8 [2, 3, 4, 5, 6] rfl) hw
                · replace hw := hw.2 c
                  refine lv_iload hx hb dL_areVersionsSo_174 (lv_at hl8 5 rfl) ?_
                  refine lv_if_ge (tgt := 196) hx hb dL_areVersionsSo_176 (by decide) (fun c => ?_) (fun c => ?_)
                  · replace hw := hw.1 c
                    refine lv_iload hx hb dL_areVersionsSo_196 (lv_at hl8 1 rfl) ?_
                    refine lv_ldc (v := -99999) hx hb C.1.2.2.2.1 (z_word C.1 zw442) dL_areVersionsSo_198 ?_
                    refine lv_icmp_eq (tgt := 210) hx hb dL_areVersionsSo_200 (by decide) (fun c => ?_) (fun c => ?_)
                    · replace hw := hw.1 c
                      refine W.widen (k := (2 + (37 - (n + 1)) * 25 + 23)) (n := (12 + (37 - (n + 1)) * 150 + 138)) (by first | omega | (simp only [zRm]; omega)) (by first | omega | (simp only [zRm]; omega)) ?_
                      exact hb_210 x4 x5 x6 x7 v7 _ _ _ ls I (lv_sub hl8 [2, 3, 4, 5, 6, 7, 8, 0] rfl) hw
                    · replace hw := hw.2 c
                      refine lv_iload hx hb dL_areVersionsSo_203 (lv_at hl8 1 rfl) ?_
                      refine lv_iload hx hb dL_areVersionsSo_205 (lv_at hl8 8 rfl) ?_
                      refine lv_icmp_ne (tgt := 255) hx hb dL_areVersionsSo_207 (by decide) (fun c => ?_) (fun c => ?_)
                      · replace hw := hw.1 c
                        refine W.widen (k := (2 + (37 - (n + 1)) * 25 + 25)) (n := (12 + (37 - (n + 1)) * 150 + 150)) (by first | omega | (simp only [zRm]; omega)) (by first | omega | (simp only [zRm]; omega)) ?_
                        exact hb_255 x4 x5 _ _ _ ls I (lv_sub hl8 [2, 3, 4, 5, 6] rfl) hw
                      · replace hw := hw.2 c
                        refine W.widen (k := (2 + (37 - (n + 1)) * 25 + 23)) (n := (12 + (37 - (n + 1)) * 150 + 138)) (by first | omega | (simp only [zRm]; omega)) (by first | omega | (simp only [zRm]; omega)) ?_
                        exact hb_210 x4 x5 x6 x7 v7 _ _ _ ls I (lv_sub hl8 [2, 3, 4, 5, 6, 7, 8, 0] rfl) hw
                  · replace hw := hw.2 c
                    refine lv_iload hx hb dL_areVersionsSo_179 (lv_at hl8 8 rfl) ?_
                    refine lv_ldc (v := -99999) hx hb C.1.2.2.2.1 (z_word C.1 zw442) dL_areVersionsSo_181 ?_
                    refine lv_icmp_ne (tgt := 255) hx hb dL_areVersionsSo_183 (by decide) (fun c => ?_) (fun c => ?_)
                    · replace hw := hw.1 c
                      refine W.widen (k := (2 + (37 - (n + 1)) * 25 + 25)) (n := (12 + (37 - (n + 1)) * 150 + 150)) (by first | omega | (simp only [zRm]; omega)) (by first | omega | (simp only [zRm]; omega)) ?_
                      exact hb_255 x4 x5 _ _ _ ls I (lv_sub hl8 [2, 3, 4, 5, 6] rfl) hw
                    · replace hw := hw.2 c
                      refine lv_iload hx hb dL_areVersionsSo_186 (lv_at hl8 1 rfl) ?_
                      refine lv_ldc (v := -99999) hx hb C.1.2.2.2.1 (z_word C.1 zw442) dL_areVersionsSo_188 ?_
                      refine lv_icmp_ne (tgt := 255) hx hb dL_areVersionsSo_190 (by decide) (fun c => ?_) (fun c => ?_)
                      · replace hw := hw.1 c
                        refine W.widen (k := (2 + (37 - (n + 1)) * 25 + 25)) (n := (12 + (37 - (n + 1)) * 150 + 150)) (by first | omega | (simp only [zRm]; omega)) (by first | omega | (simp only [zRm]; omega)) ?_
                        exact hb_255 x4 x5 _ _ _ ls I (lv_sub hl8 [2, 3, 4, 5, 6] rfl) hw
                      · replace hw := hw.2 c
                        refine lv_goto (tgt := 210) hx hb dL_areVersionsSo_193 (by decide) ?_
                        refine W.widen (k := (2 + (37 - (n + 1)) * 25 + 23)) (n := (12 + (37 - (n + 1)) * 150 + 138)) (by first | omega | (simp only [zRm]; omega)) (by first | omega | (simp only [zRm]; omega)) ?_
                        exact hb_210 x4 x5 x6 x7 v7 _ _ _ ls I (lv_sub hl8 [2, 3, 4, 5, 6, 7, 8, 0] rfl) hw
      have hb_110 : ∀ (x4 : Int32) (x5 : Int32) (x6 : Int32) (x7 : Int32) (M : zM) (H : Heap) (locs : List Loc) (ls : Array Slot), zWk X s M H locs → lv_has ls 10 [(0, .ref p0), (1, .int p1), (2, .int p2), (4, .int x4), (5, .int x5), (6, .int x6), (7, .int x7)] → w_L_areVersionsSo_110 p0 p1 p2 P (w_L_areVersionsSo_21 p0 p1 p2 P n) x4 x5 x6 x7 M → W p l e (zRm 105 4878 927 5562) s m args below meth c H locs (2 + (37 - (n + 1)) * 25 + 8) (12 + (37 - (n + 1)) * 150 + 48) (vx_MQ below (zQc X (zPz P)) (zXc X PX) args s 927 5562 (zBase X)) (F0 m 110 ls []) := by
        intro x4 x5 x6 x7 M H locs ls I hl hw
        unfold w_L_areVersionsSo_110 at hw
        refine lv_iload hx hb dL_areVersionsSo_110 (lv_at hl 6 rfl) ?_
        refine W.widen (k := (2 + (37 - (n + 1)) * 25 + 15)) (n := (12 + (37 - (n + 1)) * 150 + 90)) (by first | omega | (simp only [zRm]; omega)) (by first | omega | (simp only [zRm]; omega)) ?_
        exact hb_112 x4 x5 x6 x7 x7 _ _ _ ls I (lv_sub hl [0, 1, 2, 3, 4, 5, 6] rfl) hw
      have hb_76 : ∀ (x4 : Int32) (x5 : Int32) (x6 : Int32) (y0 : Int32) (M : zM) (H : Heap) (locs : List Loc) (ls : Array Slot), zWk X s M H locs → lv_has ls 10 [(0, .ref p0), (1, .int p1), (2, .int p2), (4, .int x4), (5, .int x5), (6, .int x6)] → w_L_areVersionsSo_76 p0 p1 p2 P (w_L_areVersionsSo_21 p0 p1 p2 P n) x4 x5 x6 y0 M → W p l e (zRm 105 4878 927 5562) s m args below meth c H locs (2 + (37 - (n + 1)) * 25 + 8) (12 + (37 - (n + 1)) * 150 + 48) (vx_MQ below (zQc X (zPz P)) (zXc X PX) args s 927 5562 (zBase X)) (F0 m 76 ls [.int y0]) := by
        intro x4 x5 x6 y0 M H locs ls I hl hw
        unfold w_L_areVersionsSo_76 at hw
        refine lv_istore (lv' := [(7, .int y0), (0, .ref p0), (1, .int p1), (2, .int p2), (4, .int x4), (5, .int x5), (6, .int x6)]) hx hb dL_areVersionsSo_76 hl (by decide) rfl (fun ls hl11 => ?_)
        refine lv_iload hx hb dL_areVersionsSo_78 (lv_at hl11 5 rfl) ?_
        refine lv_bipush (v := 6) hx hb dL_areVersionsSo_80 (by decide) ?_
        refine lv_irem hx hb dL_areVersionsSo_82 (by decide) ?_
        refine lv_iload_n hx hb dL_areVersionsSo_83 rfl (lv_at hl11 3 rfl) ?_
        refine lv_icmp_ne (tgt := 110) hx hb dL_areVersionsSo_84 (by decide) (fun c => ?_) (fun c => ?_)
        · replace hw := hw.1 c
          refine W.widen (k := (2 + (37 - (n + 1)) * 25 + 8)) (n := (12 + (37 - (n + 1)) * 150 + 48)) (by first | omega | (simp only [zRm]; omega)) (by first | omega | (simp only [zRm]; omega)) ?_
          exact hb_110 x4 x5 x6 y0 _ _ _ ls I (lv_sub hl11 [1, 2, 3, 4, 5, 6, 0] rfl) hw
        · replace hw := hw.2 c
          refine lv_iload hx hb dL_areVersionsSo_87 (lv_at hl11 5 rfl) ?_
          refine lv_bipush (v := 6) hx hb dL_areVersionsSo_89 (by decide) ?_
          refine lv_idiv hx hb dL_areVersionsSo_91 (by decide) ?_
          refine lv_iload_n hx hb dL_areVersionsSo_92 rfl (lv_at hl11 2 rfl) ?_
          refine lv_bipush (v := 6) hx hb dL_areVersionsSo_93 (by decide) ?_
          refine lv_idiv hx hb dL_areVersionsSo_95 (by decide) ?_
          refine lv_icmp_ne (tgt := 110) hx hb dL_areVersionsSo_96 (by decide) (fun c => ?_) (fun c => ?_)
          · replace hw := hw.1 c
            refine W.widen (k := (2 + (37 - (n + 1)) * 25 + 8)) (n := (12 + (37 - (n + 1)) * 150 + 48)) (by first | omega | (simp only [zRm]; omega)) (by first | omega | (simp only [zRm]; omega)) ?_
            exact hb_110 x4 x5 x6 y0 _ _ _ ls I (lv_sub hl11 [1, 2, 3, 4, 5, 6, 0] rfl) hw
          · replace hw := hw.2 c
            refine lv_aload_n hx hb dL_areVersionsSo_99 rfl (lv_at hl11 1 rfl) ?_
            refine lv_iconst (v := 1) hx hb dL_areVersionsSo_100 (by decide) ?_
            refine lv_iload hx hb dL_areVersionsSo_101 (lv_at hl11 5 rfl) ?_
            refine lv_iload_n hx hb dL_areVersionsSo_103 rfl (lv_at hl11 2 rfl) ?_
            refine z_callSX C I (as := [.ref p0, .int (1 : Int32), .int x5, .int p1]) (rest := []) (m_L_reads_1 E EN hw) kw_L_85 rfl rfl hl11.1 (Nat.le_of_ble_eq_true rfl) ⟨Nat.le_of_ble_eq_true rfl, Nat.le_of_ble_eq_true rfl⟩ ⟨(by first | omega | (simp only [zRm]; omega)), (by first | omega | (simp only [zRm]; omega))⟩ dL_areVersionsSo_104 (fun v M12 _ _ I hv => ?_)
            obtain ⟨v13, rfl, hw⟩ := hv
            refine W.eq (g2 := F0 m 107 ls [.int v13]) rfl ?_
            refine lv_goto (tgt := 112) hx hb dL_areVersionsSo_107 (by decide) ?_
            refine W.widen (k := (2 + (37 - (n + 1)) * 25 + 15)) (n := (12 + (37 - (n + 1)) * 150 + 90)) (by first | omega | (simp only [zRm]; omega)) (by first | omega | (simp only [zRm]; omega)) ?_
            exact hb_112 x4 x5 x6 y0 v13 _ _ _ ls I (lv_sub hl11 [1, 2, 3, 4, 5, 6, 0] rfl) hw
      refine lv_iload hx hb dL_areVersionsSo_21 (lv_at hl 5 rfl) ?_
      refine lv_bipush (v := 36) hx hb dL_areVersionsSo_23 (by decide) ?_
      refine lv_icmp_ge (tgt := 263) hx hb dL_areVersionsSo_25 (by decide) (fun c => ?_) (fun c => ?_)
      · replace hw := hw.1 c
        refine lv_iload_n hx hb dL_areVersionsSo_263 rfl (lv_at hl 3 rfl) ?_
        obtain ⟨h01, hw⟩ := hw
        exact z_zret C I hr h01 ⟨_, rfl, h01, hw⟩ (by first | omega | (simp only [zRm]; omega)) (by first | omega | (simp only [zRm]; omega)) dL_areVersionsSo_264
      · replace hw := hw.2 c
        refine lv_iload_n hx hb dL_areVersionsSo_28 rfl (lv_at hl 3 rfl) ?_
        refine lv_if_eq (tgt := 263) hx hb dL_areVersionsSo_29 (by decide) (fun c => ?_) (fun c => ?_)
        · replace hw := hw.1 c
          refine lv_iload_n hx hb dL_areVersionsSo_263 rfl (lv_at hl 3 rfl) ?_
          obtain ⟨h01, hw⟩ := hw
          exact z_zret C I hr h01 ⟨_, rfl, h01, hw⟩ (by first | omega | (simp only [zRm]; omega)) (by first | omega | (simp only [zRm]; omega)) dL_areVersionsSo_264
        · replace hw := hw.2 c
          refine lv_aload_n hx hb dL_areVersionsSo_32 rfl (lv_at hl 0 rfl) ?_
          refine lv_bipush (v := 7) hx hb dL_areVersionsSo_33 (by decide) ?_
          refine lv_iload hx hb dL_areVersionsSo_35 (lv_at hl 5 rfl) ?_
          refine lv_bipush (v := 6) hx hb dL_areVersionsSo_37 (by decide) ?_
          refine lv_idiv hx hb dL_areVersionsSo_39 (by decide) ?_
          refine lv_iload hx hb dL_areVersionsSo_40 (lv_at hl 5 rfl) ?_
          refine lv_bipush (v := 6) hx hb dL_areVersionsSo_42 (by decide) ?_
          refine lv_irem hx hb dL_areVersionsSo_44 (by decide) ?_
          refine z_callSX C I (as := [.ref p0, .int (7 : Int32), .int (x5 / (6 : Int32)), .int (x5 - x5 / (6 : Int32) * (6 : Int32))]) (rest := []) (m_L_does_7 E EN hw) kw_L_74 rfl rfl hl.1 (Nat.le_of_ble_eq_true rfl) ⟨Nat.le_of_ble_eq_true rfl, Nat.le_of_ble_eq_true rfl⟩ ⟨(by first | omega | (simp only [zRm]; omega)), (by first | omega | (simp only [zRm]; omega))⟩ dL_areVersionsSo_45 (fun v M14 _ _ I hv => ?_)
          obtain ⟨v15, rfl, hw⟩ := hv
          refine W.eq (g2 := F0 m 48 ls [.int v15]) rfl ?_
          refine lv_istore (lv' := [(6, .int v15), (0, .ref p0), (1, .int p1), (2, .int p2), (3, .int x3), (4, .int x4), (5, .int x5)]) hx hb dL_areVersionsSo_48 hl (by decide) rfl (fun ls hl16 => ?_)
          refine lv_iload hx hb dL_areVersionsSo_50 (lv_at hl16 0 rfl) ?_
          refine lv_if_lt (tgt := 257) hx hb dL_areVersionsSo_52 (by decide) (fun c => ?_) (fun c => ?_)
          · replace hw := hw.1 c
            refine W.widen (k := (2 + (37 - (n + 1)) * 25 + 25)) (n := (12 + (37 - (n + 1)) * 150 + 150)) (by first | omega | (simp only [zRm]; omega)) (by first | omega | (simp only [zRm]; omega)) ?_
            exact hb_257 x3 x4 x5 _ _ _ ls I (lv_sub hl16 [1, 2, 3, 4, 5, 6] rfl) hw
          · replace hw := hw.2 c
            refine lv_iload hx hb dL_areVersionsSo_55 (lv_at hl16 6 rfl) ?_
            refine lv_bipush (v := 6) hx hb dL_areVersionsSo_57 (by decide) ?_
            refine lv_irem hx hb dL_areVersionsSo_59 (by decide) ?_
            refine lv_iload_n hx hb dL_areVersionsSo_60 rfl (lv_at hl16 3 rfl) ?_
            refine lv_icmp_ne (tgt := 75) hx hb dL_areVersionsSo_61 (by decide) (fun c => ?_) (fun c => ?_)
            · replace hw := hw.1 c
              refine lv_iconst (v := 0) hx hb dL_areVersionsSo_75 (by decide) ?_
              refine W.widen (k := (2 + (37 - (n + 1)) * 25 + 8)) (n := (12 + (37 - (n + 1)) * 150 + 48)) (by first | omega | (simp only [zRm]; omega)) (by first | omega | (simp only [zRm]; omega)) ?_
              exact hb_76 x4 x5 v15 (0 : Int32) _ _ _ ls I (lv_sub hl16 [1, 2, 3, 5, 6, 0] rfl) hw
            · replace hw := hw.2 c
              refine lv_aload_n hx hb dL_areVersionsSo_64 rfl (lv_at hl16 1 rfl) ?_
              refine lv_iconst (v := 0) hx hb dL_areVersionsSo_65 (by decide) ?_
              refine lv_iload hx hb dL_areVersionsSo_66 (lv_at hl16 6 rfl) ?_
              refine lv_iload_n hx hb dL_areVersionsSo_68 rfl (lv_at hl16 2 rfl) ?_
              refine z_callSX C I (as := [.ref p0, .int (0 : Int32), .int x5, .int p1]) (rest := []) (m_L_reads_0 E EN hw) kw_L_85 rfl rfl hl16.1 (Nat.le_of_ble_eq_true rfl) ⟨Nat.le_of_ble_eq_true rfl, Nat.le_of_ble_eq_true rfl⟩ ⟨(by first | omega | (simp only [zRm]; omega)), (by first | omega | (simp only [zRm]; omega))⟩ dL_areVersionsSo_69 (fun v M17 _ _ I hv => ?_)
              obtain ⟨v18, rfl, hw⟩ := hv
              refine W.eq (g2 := F0 m 72 ls [.int v18]) rfl ?_
              refine lv_goto (tgt := 76) hx hb dL_areVersionsSo_72 (by decide) ?_
              refine W.widen (k := (2 + (37 - (n + 1)) * 25 + 8)) (n := (12 + (37 - (n + 1)) * 150 + 48)) (by first | omega | (simp only [zRm]; omega)) (by first | omega | (simp only [zRm]; omega)) ?_
              exact hb_76 x4 x5 v15 v18 _ _ _ ls I (lv_sub hl16 [1, 2, 3, 5, 6, 0] rfl) hw
  refine lv_iconst (v := 1) hx hb dL_areVersionsSo_0 (by decide) ?_
  refine lv_istore_n (lv' := [(3, .int (1 : Int32)), (0, .ref p0), (1, .int p1), (2, .int p2)]) hx hb dL_areVersionsSo_1 rfl hl (by decide) rfl (fun ls hl19 => ?_)
  refine lv_aload_n hx hb dL_areVersionsSo_2 rfl (lv_at hl19 1 rfl) ?_
  refine lv_bipush (v := 7) hx hb dL_areVersionsSo_3 (by decide) ?_
  refine lv_iload_n hx hb dL_areVersionsSo_5 rfl (lv_at hl19 2 rfl) ?_
  refine lv_bipush (v := 6) hx hb dL_areVersionsSo_6 (by decide) ?_
  refine lv_idiv hx hb dL_areVersionsSo_8 (by decide) ?_
  refine lv_iload_n hx hb dL_areVersionsSo_9 rfl (lv_at hl19 2 rfl) ?_
  refine lv_bipush (v := 6) hx hb dL_areVersionsSo_10 (by decide) ?_
  refine lv_irem hx hb dL_areVersionsSo_12 (by decide) ?_
  refine z_callSX C I (as := [.ref p0, .int (7 : Int32), .int (p1 / (6 : Int32)), .int (p1 - p1 / (6 : Int32) * (6 : Int32))]) (rest := []) (m_L_does_7 E EN hw) kw_L_74 rfl rfl hl19.1 (Nat.le_of_ble_eq_true rfl) ⟨Nat.le_of_ble_eq_true rfl, Nat.le_of_ble_eq_true rfl⟩ ⟨Nat.le_of_ble_eq_true rfl, Nat.le_of_ble_eq_true rfl⟩ dL_areVersionsSo_13 (fun v M20 _ _ I hv => ?_)
  obtain ⟨v21, rfl, hw⟩ := hv
  refine W.eq (g2 := F0 m 16 ls [.int v21]) rfl ?_
  refine lv_istore (lv' := [(4, .int v21), (3, .int (1 : Int32)), (0, .ref p0), (1, .int p1), (2, .int p2)]) hx hb dL_areVersionsSo_16 hl19 (by decide) rfl (fun ls hl22 => ?_)
  refine lv_iconst (v := 0) hx hb dL_areVersionsSo_18 (by decide) ?_
  refine lv_istore (lv' := [(5, .int (0 : Int32)), (4, .int v21), (3, .int (1 : Int32)), (0, .ref p0), (1, .int p1), (2, .int p2)]) hx hb dL_areVersionsSo_19 hl22 (by decide) rfl (fun ls hl23 => ?_)
  refine W.widen (k := 2 + (37 - 37) * 25) (n := 12 + (37 - 37) * 150) (Nat.le_of_ble_eq_true rfl) (Nat.le_of_ble_eq_true rfl) ?_
  exact hb_21 37 (Nat.le_refl _) (1 : Int32) v21 (0 : Int32) _ _ _ ls I (lv_sub hl23 [3, 4, 5, 2, 1, 0] rfl) hw
