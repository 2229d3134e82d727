set_option maxHeartbeats 4000000 in
set_option maxRecDepth 100000 in
theorem law_walk {X : zX} {p : Program} {l : Launch} {e : Env} {s : State} {m : MethodId} {args : Array Value} {below : List Frame} {meth : Method} {c : Code} {Q : State → Prop} (E : zEnv X l) (EN : zNcs X) {nm : String} (C : zCx X p l s m args meth c "SchemaSubjectsLaw" nm code 6) {M : zM} {b : Nat} (I : zWk X s M s.heap []) (z_lret : ∀ (M : zM) (H : Heap) (locs : List Loc) (cells slots pc : Nat) (ls : Array Slot), zWk X s M H locs → cells ≤ 777227 → slots ≤ 6769943 → decode code pc = .ok (.ireturn, 1) → W p l e room_1 s m args below meth c H locs cells slots Q (F0 m pc ls [.int 1])) (hw : w_L_law b M) : W p l e room_1 s m args below meth c s.heap [] 0 0 Q (entryFrame m #[Value.ref b] 6) := by
  have hx := C.1.1
  have hb := C.1.2.1
  obtain ⟨ls, he, hl⟩ := z_enter (m := m) (n := 6) (vs := [.ref b]) (l := [(0, .ref b)]) (Nat.le_of_ble_eq_true rfl) rfl
  rw [he]
  clear he
  unfold w_L_law at hw
  have hb_18 : ∀ (n : Nat), n ≤ 91 → ∀ (x1 : Nat) (x2 : Nat) (x3 : Int32) (M : zM) (H : Heap) (locs : List Loc) (ls : Array Slot), zWk X s M H locs → lv_has ls 6 [(0, .ref b), (1, .ref x1), (2, .ref x2), (3, .int x3)] → w_L_law_18 b n x1 x2 x3 M → W p l e room_1 s m args below meth c H locs (68 + (91 - n) * 1787) (1714 + (91 - n) * 11098) Q (F0 m 18 ls []) := by
    intro n
    induction n with
    | zero => intro _ _ _ _ M H locs ls I hl hw; exact hw.elim
    | succ n ih =>
      intro hn x1 x2 x3 M H locs ls I hl hw
      unfold w_L_law_18 at hw
      have hb_194 : ∀ (x1 : Nat) (x2 : Nat) (x3 : Int32) (M : zM) (H : Heap) (locs : List Loc) (ls : Array Slot), zWk X s M H locs → lv_has ls 6 [(0, .ref b), (1, .ref x1), (2, .ref x2), (3, .int x3)] → w_L_law_194 b (w_L_law_18 b n) x1 x2 x3 M → W p l e room_1 s m args below meth c H locs (68 + (91 - (n + 1)) * 1787 + 1787) (1714 + (91 - (n + 1)) * 11098 + 11098) Q (F0 m 194 ls []) := by
        intro x1 x2 x3 M H locs ls I hl hw
        unfold w_L_law_194 at hw
        refine lv_iinc (v := (x3 + 1)) (lv' := [(3, .int (x3 + 1)), (0, .ref b), (1, .ref x1), (2, .ref x2)]) hx hb dL_law_194 hl (k := 3) rfl (by rfl) (by decide) rfl (fun ls hl1 => ?_)
        refine lv_goto (tgt := 18) hx hb dL_law_197 (by decide) ?_
        refine W.widen (k := 68 + (91 - n) * 1787) (n := 1714 + (91 - n) * 11098) (by omega) (by omega) ?_
        exact ih (by omega) x1 x2 (x3 + 1) _ _ _ ls I (lv_sub hl1 [1, 2, 3, 0] rfl) hw
      have hb_153 : ∀ (x1 : Nat) (x2 : Nat) (x3 : Int32) (x4 : Int32) (M : zM) (H : Heap) (locs : List Loc) (ls : Array Slot), zWk X s M H locs → lv_has ls 6 [(0, .ref b), (1, .ref x1), (2, .ref x2), (3, .int x3), (4, .int x4)] → w_L_law_153 b (w_L_law_18 b n) x1 x2 x3 x4 M → W p l e room_1 s m args below meth c H locs (68 + (91 - (n + 1)) * 1787 + 1685) (1714 + (91 - (n + 1)) * 11098 + 10486) Q (F0 m 153 ls []) := by
        intro x1 x2 x3 x4 M H locs ls I hl hw
        unfold w_L_law_153 at hw
        refine lv_iload_n hx hb dL_law_153 rfl (lv_at hl 3 rfl) ?_
        refine lv_iconst (v := 5) hx hb dL_law_154 (by decide) ?_
        refine lv_irem hx hb dL_law_155 (by decide) ?_
        refine lv_iconst (v := 4) hx hb dL_law_156 (by decide) ?_
        refine lv_icmp_ne (tgt := 194) hx hb dL_law_157 (by decide) (fun c => ?_) (fun c => ?_)
        · replace hw := hw.1 c
          refine W.widen (k := (68 + (91 - (n + 1)) * 1787 + 1787)) (n := (1714 + (91 - (n + 1)) * 11098 + 11098)) (by first | omega | (simp only [room_1]; omega)) (by first | omega | (simp only [room_1]; omega)) ?_
          exact hb_194 x1 x2 x3 _ _ _ ls I (lv_sub hl [0, 1, 2, 3] rfl) hw
        · replace hw := hw.2 c
          refine lv_aload_n hx hb dL_law_160 rfl (lv_at hl 1 rfl) ?_
          refine lv_aload_n hx hb dL_law_161 rfl (lv_at hl 2 rfl) ?_
          refine lv_iload hx hb dL_law_162 (lv_at hl 4 rfl) ?_
          refine lv_bipush (v := 6) hx hb dL_law_164 (by decide) ?_
          refine lv_ishr hx hb dL_law_166 ?_
          refine lv_bipush (v := 18) hx hb dL_law_167 (by decide) ?_
          refine z_callS (PX := fun _ _ => False) C I (as := [.int (x4 >>> ((6 : Int32) &&& 31)), .int (18 : Int32)]) (rest := [.ref x2, .ref x1]) (m_L_low E EN hw) ks_L_66 rfl rfl hl.1 (Nat.le_of_ble_eq_true rfl) ⟨Nat.le_of_ble_eq_true rfl, Nat.le_of_ble_eq_true rfl⟩ ⟨(by first | omega | (simp only [room_1]; omega)), (by first | omega | (simp only [room_1]; omega))⟩ dL_law_169 (fun _ _ _ _ _ _ _ hF => hF.elim) (fun v M2 _ _ I hv => ?_)
          obtain ⟨v3, rfl, hw⟩ := hv
          refine W.eq (g2 := F0 m 172 ls [.int v3, .ref x2, .ref x1]) rfl ?_
          refine lv_iload hx hb dL_law_172 (lv_at hl 4 rfl) ?_
          refine lv_bipush (v := 10) hx hb dL_law_174 (by decide) ?_
          refine lv_ishr hx hb dL_law_176 ?_
          refine lv_bipush (v := 18) hx hb dL_law_177 (by decide) ?_
          refine z_callS (PX := fun _ _ => False) C I (as := [.int (x4 >>> ((10 : Int32) &&& 31)), .int (18 : Int32)]) (rest := [.int v3, .ref x2, .ref x1]) (m_L_low E EN hw) ks_L_66 rfl rfl hl.1 (Nat.le_of_ble_eq_true rfl) ⟨Nat.le_of_ble_eq_true rfl, Nat.le_of_ble_eq_true rfl⟩ ⟨(by first | omega | (simp only [room_1]; omega)), (by first | omega | (simp only [room_1]; omega))⟩ dL_law_179 (fun _ _ _ _ _ _ _ hF => hF.elim) (fun v M4 _ _ I hv => ?_)
          obtain ⟨v5, rfl, hw⟩ := hv
          refine W.eq (g2 := F0 m 182 ls [.int v5, .int v3, .ref x2, .ref x1]) rfl ?_
          refine lv_iload hx hb dL_law_182 (lv_at hl 4 rfl) ?_
          refine lv_iconst (v := 3) hx hb dL_law_184 (by decide) ?_
          refine lv_ishr hx hb dL_law_185 ?_
          refine z_callS (PX := fun _ _ => False) C I (as := [.ref x1, .ref x2, .int v3, .int v5, .int (x4 >>> ((3 : Int32) &&& 31))]) (rest := []) (m_L_isReadSo E EN hw) ks_L_108 rfl rfl hl.1 (Nat.le_of_ble_eq_true rfl) ⟨Nat.le_of_ble_eq_true rfl, Nat.le_of_ble_eq_true rfl⟩ ⟨(by first | omega | (simp only [room_1]; omega)), (by first | omega | (simp only [room_1]; omega))⟩ dL_law_186 (fun _ _ _ _ _ _ _ hF => hF.elim) (fun v M6 _ _ I hv => ?_)
          obtain ⟨v7, rfl, hv7, hw⟩ := hv
          refine W.eq (g2 := F0 m 189 ls [.int v7]) rfl ?_
          refine lv_if_ne (tgt := 194) hx hb dL_law_189 (by decide) (fun c => ?_) (fun c => ?_)
          · replace hw := hw.1 c
            refine W.widen (k := (68 + (91 - (n + 1)) * 1787 + 1787)) (n := (1714 + (91 - (n + 1)) * 11098 + 11098)) (by first | omega | (simp only [room_1]; omega)) (by first | omega | (simp only [room_1]; omega)) ?_
            exact hb_194 x1 x2 x3 _ _ _ ls I (lv_sub hl [0, 1, 2, 3] rfl) hw
          · replace hw := hw.2 c
            refine lv_iconst (v := 0) hx hb dL_law_192 (by decide) ?_
            exact hw.elim
      have hb_117 : ∀ (x1 : Nat) (x2 : Nat) (x3 : Int32) (x4 : Int32) (M : zM) (H : Heap) (locs : List Loc) (ls : Array Slot), zWk X s M H locs → lv_has ls 6 [(0, .ref b), (1, .ref x1), (2, .ref x2), (3, .int x3), (4, .int x4)] → w_L_law_117 b (w_L_law_18 b n) x1 x2 x3 x4 M → W p l e room_1 s m args below meth c H locs (68 + (91 - (n + 1)) * 1787 + 758) (1714 + (91 - (n + 1)) * 11098 + 4924) Q (F0 m 117 ls []) := by
        intro x1 x2 x3 x4 M H locs ls I hl hw
        unfold w_L_law_117 at hw
        refine lv_iload_n hx hb dL_law_117 rfl (lv_at hl 3 rfl) ?_
        refine lv_bipush (v := 6) hx hb dL_law_118 (by decide) ?_
        refine lv_irem hx hb dL_law_120 (by decide) ?_
        refine lv_iconst (v := 1) hx hb dL_law_121 (by decide) ?_
        refine lv_icmp_ne (tgt := 153) hx hb dL_law_122 (by decide) (fun c => ?_) (fun c => ?_)
        · replace hw := hw.1 c
          refine W.widen (k := (68 + (91 - (n + 1)) * 1787 + 1685)) (n := (1714 + (91 - (n + 1)) * 11098 + 10486)) (by first | omega | (simp only [room_1]; omega)) (by first | omega | (simp only [room_1]; omega)) ?_
          exact hb_153 x1 x2 x3 x4 _ _ _ ls I (lv_sub hl [0, 1, 2, 3, 4] rfl) hw
        · replace hw := hw.2 c
          refine lv_aload_n hx hb dL_law_125 rfl (lv_at hl 1 rfl) ?_
          refine lv_iload hx hb dL_law_126 (lv_at hl 4 rfl) ?_
          refine lv_bipush (v := 7) hx hb dL_law_128 (by decide) ?_
          refine lv_ishr hx hb dL_law_130 ?_
          refine lv_bipush (v := 18) hx hb dL_law_131 (by decide) ?_
          refine z_callS (PX := fun _ _ => False) C I (as := [.int (x4 >>> ((7 : Int32) &&& 31)), .int (18 : Int32)]) (rest := [.ref x1]) (m_L_low E EN hw) ks_L_66 rfl rfl hl.1 (Nat.le_of_ble_eq_true rfl) ⟨Nat.le_of_ble_eq_true rfl, Nat.le_of_ble_eq_true rfl⟩ ⟨(by first | omega | (simp only [room_1]; omega)), (by first | omega | (simp only [room_1]; omega))⟩ dL_law_133 (fun _ _ _ _ _ _ _ hF => hF.elim) (fun v M8 _ _ I hv => ?_)
          obtain ⟨v9, rfl, hw⟩ := hv
          refine W.eq (g2 := F0 m 136 ls [.int v9, .ref x1]) rfl ?_
          refine lv_iload hx hb dL_law_136 (lv_at hl 4 rfl) ?_
          refine lv_iconst (v := 4) hx hb dL_law_138 (by decide) ?_
          refine lv_ishr hx hb dL_law_139 ?_
          refine lv_bipush (v := 6) hx hb dL_law_140 (by decide) ?_
          refine z_callS (PX := fun _ _ => False) C I (as := [.int (x4 >>> ((4 : Int32) &&& 31)), .int (6 : Int32)]) (rest := [.int v9, .ref x1]) (m_L_low E EN hw) ks_L_66 rfl rfl hl.1 (Nat.le_of_ble_eq_true rfl) ⟨Nat.le_of_ble_eq_true rfl, Nat.le_of_ble_eq_true rfl⟩ ⟨(by first | omega | (simp only [room_1]; omega)), (by first | omega | (simp only [room_1]; omega))⟩ dL_law_142 (fun _ _ _ _ _ _ _ hF => hF.elim) (fun v M10 _ _ I hv => ?_)
          obtain ⟨v11, rfl, hw⟩ := hv
          refine W.eq (g2 := F0 m 145 ls [.int v11, .int v9, .ref x1]) rfl ?_
          refine z_callS (PX := fun _ _ => False) C I (as := [.ref x1, .int v9, .int v11]) (rest := []) (m_L_areVersionsSo E EN hw) ks_L_104 rfl rfl hl.1 (Nat.le_of_ble_eq_true rfl) ⟨Nat.le_of_ble_eq_true rfl, Nat.le_of_ble_eq_true rfl⟩ ⟨(by first | omega | (simp only [room_1]; omega)), (by first | omega | (simp only [room_1]; omega))⟩ dL_law_145 (fun _ _ _ _ _ _ _ hF => hF.elim) (fun v M12 _ _ I hv => ?_)
          obtain ⟨v13, rfl, hv13, hw⟩ := hv
          refine W.eq (g2 := F0 m 148 ls [.int v13]) rfl ?_
          refine lv_if_ne (tgt := 153) hx hb dL_law_148 (by decide) (fun c => ?_) (fun c => ?_)
          · replace hw := hw.1 c
            refine W.widen (k := (68 + (91 - (n + 1)) * 1787 + 1685)) (n := (1714 + (91 - (n + 1)) * 11098 + 10486)) (by first | omega | (simp only [room_1]; omega)) (by first | omega | (simp only [room_1]; omega)) ?_
            exact hb_153 x1 x2 x3 x4 _ _ _ ls I (lv_sub hl [0, 1, 2, 3, 4] rfl) hw
          · replace hw := hw.2 c
            refine lv_iconst (v := 0) hx hb dL_law_151 (by decide) ?_
            exact hw.elim
      have hb_93 : ∀ (x1 : Nat) (x2 : Nat) (x3 : Int32) (x4 : Int32) (M : zM) (H : Heap) (locs : List Loc) (ls : Array Slot), zWk X s M H locs → lv_has ls 6 [(0, .ref b), (1, .ref x1), (2, .ref x2), (3, .int x3), (4, .int x4)] → w_L_law_93 b (w_L_law_18 b n) x1 x2 x3 x4 M → W p l e room_1 s m args below meth c H locs (68 + (91 - (n + 1)) * 1787 + 18) (1714 + (91 - (n + 1)) * 11098 + 484) Q (F0 m 93 ls []) := by
        intro x1 x2 x3 x4 M H locs ls I hl hw
        unfold w_L_law_93 at hw
        refine lv_iload_n hx hb dL_law_93 rfl (lv_at hl 3 rfl) ?_
        refine lv_bipush (v := 9) hx hb dL_law_94 (by decide) ?_
        refine lv_irem hx hb dL_law_96 (by decide) ?_
        refine lv_iconst (v := 3) hx hb dL_law_97 (by decide) ?_
        refine lv_icmp_ne (tgt := 117) hx hb dL_law_98 (by decide) (fun c => ?_) (fun c => ?_)
        · replace hw := hw.1 c
          refine W.widen (k := (68 + (91 - (n + 1)) * 1787 + 758)) (n := (1714 + (91 - (n + 1)) * 11098 + 4924)) (by first | omega | (simp only [room_1]; omega)) (by first | omega | (simp only [room_1]; omega)) ?_
          exact hb_117 x1 x2 x3 x4 _ _ _ ls I (lv_sub hl [0, 1, 2, 3, 4] rfl) hw
        · replace hw := hw.2 c
          refine lv_aload_n hx hb dL_law_101 rfl (lv_at hl 1 rfl) ?_
          refine lv_aload_n hx hb dL_law_102 rfl (lv_at hl 2 rfl) ?_
          refine lv_iload hx hb dL_law_103 (lv_at hl 4 rfl) ?_
          refine lv_iconst (v := 5) hx hb dL_law_105 (by decide) ?_
          refine lv_ishr hx hb dL_law_106 ?_
          refine lv_iconst (v := 3) hx hb dL_law_107 (by decide) ?_
          refine z_callS (PX := fun _ _ => False) C I (as := [.int (x4 >>> ((5 : Int32) &&& 31)), .int (3 : Int32)]) (rest := [.ref x2, .ref x1]) (m_L_low E EN hw) ks_L_66 rfl rfl hl.1 (Nat.le_of_ble_eq_true rfl) ⟨Nat.le_of_ble_eq_true rfl, Nat.le_of_ble_eq_true rfl⟩ ⟨(by first | omega | (simp only [room_1]; omega)), (by first | omega | (simp only [room_1]; omega))⟩ dL_law_108 (fun _ _ _ _ _ _ _ hF => hF.elim) (fun v M14 _ _ I hv => ?_)
          obtain ⟨v15, rfl, hw⟩ := hv
          refine W.eq (g2 := F0 m 111 ls [.int v15, .ref x2, .ref x1]) rfl ?_
          refine z_callS (PX := fun _ _ => False) C I (as := [.ref x1, .ref x2, .int v15]) (rest := []) (m_L_areAlike E EN hw) ks_L_100 rfl rfl hl.1 (Nat.le_of_ble_eq_true rfl) ⟨Nat.le_of_ble_eq_true rfl, Nat.le_of_ble_eq_true rfl⟩ ⟨(by first | omega | (simp only [room_1]; omega)), (by first | omega | (simp only [room_1]; omega))⟩ dL_law_111 (fun _ _ _ _ _ _ _ hF => hF.elim) (fun v M16 _ _ I hv => ?_)
          obtain ⟨v17, rfl, hv17, hw⟩ := hv
          refine W.eq (g2 := F0 m 114 ls [.int v17]) rfl ?_
          refine lv_if_eq (tgt := 151) hx hb dL_law_114 (by decide) (fun c => ?_) (fun c => ?_)
          · replace hw := hw.1 c
            refine lv_iconst (v := 0) hx hb dL_law_151 (by decide) ?_
            exact hw.elim
          · replace hw := hw.2 c
            refine W.widen (k := (68 + (91 - (n + 1)) * 1787 + 758)) (n := (1714 + (91 - (n + 1)) * 11098 + 4924)) (by first | omega | (simp only [room_1]; omega)) (by first | omega | (simp only [room_1]; omega)) ?_
            exact hb_117 x1 x2 x3 x4 _ _ _ ls I (lv_sub hl [0, 1, 2, 3, 4] rfl) hw
      have hb_85 : ∀ (x1 : Nat) (x2 : Nat) (x3 : Int32) (x4 : Int32) (x5 : Int32) (y0 : Int32) (y1 : Int32) (y2 : Nat) (M : zM) (H : Heap) (locs : List Loc) (ls : Array Slot), zWk X s M H locs → lv_has ls 6 [(0, .ref b), (1, .ref x1), (2, .ref x2), (3, .int x3), (4, .int x4), (5, .int x5)] → w_L_law_85 b (w_L_law_18 b n) x1 x2 x3 x4 x5 y0 y1 y2 M → W p l e room_1 s m args below meth c H locs (68 + (91 - (n + 1)) * 1787 + 9) (1714 + (91 - (n + 1)) * 11098 + 242) Q (F0 m 85 ls [.int y0, .int y1, .ref y2]) := by
        intro x1 x2 x3 x4 x5 y0 y1 y2 M H locs ls I hl hw
        unfold w_L_law_85 at hw
        refine z_callS (PX := fun _ _ => False) C I (as := [.ref y2, .int y1, .int y0]) (rest := []) (m_L_act E EN hw) ks_L_96 rfl rfl hl.1 (Nat.le_of_ble_eq_true rfl) ⟨Nat.le_of_ble_eq_true rfl, Nat.le_of_ble_eq_true rfl⟩ ⟨(by first | omega | (simp only [room_1]; omega)), (by first | omega | (simp only [room_1]; omega))⟩ dL_law_85 (fun _ _ _ _ _ _ _ hF => hF.elim) (fun v M18 _ _ I hv => ?_)
        obtain ⟨v19, rfl, hw⟩ := hv
        refine W.eq (g2 := F0 m 88 ls [.int v19]) rfl ?_
        refine lv_iload hx hb dL_law_88 (lv_at hl 5 rfl) ?_
        refine lv_icmp_ne (tgt := 151) hx hb dL_law_90 (by decide) (fun c => ?_) (fun c => ?_)
        · replace hw := hw.1 c
          refine lv_iconst (v := 0) hx hb dL_law_151 (by decide) ?_
          exact hw.elim
        · replace hw := hw.2 c
          refine W.widen (k := (68 + (91 - (n + 1)) * 1787 + 18)) (n := (1714 + (91 - (n + 1)) * 11098 + 484)) (by first | omega | (simp only [room_1]; omega)) (by first | omega | (simp only [room_1]; omega)) ?_
          exact hb_93 x1 x2 x3 x4 _ _ _ ls I (lv_sub hl [0, 1, 2, 3, 4] rfl) hw
      have hb_58 : ∀ (x1 : Nat) (x2 : Nat) (x3 : Int32) (x4 : Int32) (y0 : Int32) (y1 : Int32) (y2 : Nat) (M : zM) (H : Heap) (locs : List Loc) (ls : Array Slot), zWk X s M H locs → lv_has ls 6 [(0, .ref b), (1, .ref x1), (2, .ref x2), (3, .int x3), (4, .int x4)] → w_L_law_58 b (w_L_law_18 b n) x1 x2 x3 x4 y0 y1 y2 M → W p l e room_1 s m args below meth c H locs (68 + (91 - (n + 1)) * 1787 + 0) (1714 + (91 - (n + 1)) * 11098 + 0) Q (F0 m 58 ls [.int y0, .int y1, .ref y2]) := by
        intro x1 x2 x3 x4 y0 y1 y2 M H locs ls I hl hw
        unfold w_L_law_58 at hw
        refine z_callS (PX := fun _ _ => False) C I (as := [.ref y2, .int y1, .int y0]) (rest := []) (m_L_act E EN hw) ks_L_96 rfl rfl hl.1 (Nat.le_of_ble_eq_true rfl) ⟨Nat.le_of_ble_eq_true rfl, Nat.le_of_ble_eq_true rfl⟩ ⟨(by first | omega | (simp only [room_1]; omega)), (by first | omega | (simp only [room_1]; omega))⟩ dL_law_58 (fun _ _ _ _ _ _ _ hF => hF.elim) (fun v M20 _ _ I hv => ?_)
        obtain ⟨v21, rfl, hw⟩ := hv
        refine W.eq (g2 := F0 m 61 ls [.int v21]) rfl ?_
        refine lv_istore (lv' := [(5, .int v21), (0, .ref b), (1, .ref x1), (2, .ref x2), (3, .int x3), (4, .int x4)]) hx hb dL_law_61 hl (by decide) rfl (fun ls hl22 => ?_)
        refine lv_iload hx hb dL_law_63 (lv_at hl22 0 rfl) ?_
        refine lv_ldc (v := -99999) hx hb C.1.2.2.2.1 (z_word C.1 zw442) dL_law_65 ?_
        refine lv_icmp_eq (tgt := 93) hx hb dL_law_67 (by decide) (fun c => ?_) (fun c => ?_)
        · replace hw := hw.1 c
          refine W.widen (k := (68 + (91 - (n + 1)) * 1787 + 18)) (n := (1714 + (91 - (n + 1)) * 11098 + 484)) (by first | omega | (simp only [room_1]; omega)) (by first | omega | (simp only [room_1]; omega)) ?_
          exact hb_93 x1 x2 x3 x4 _ _ _ ls I (lv_sub hl22 [1, 2, 3, 4, 5] rfl) hw
        · replace hw := hw.2 c
          refine lv_aload_n hx hb dL_law_70 rfl (lv_at hl22 3 rfl) ?_
          refine lv_iload hx hb dL_law_71 (lv_at hl22 5 rfl) ?_
          refine lv_iload_n hx hb dL_law_73 rfl (lv_at hl22 4 rfl) ?_
          refine lv_iconst (v := 3) hx hb dL_law_74 (by decide) ?_
          refine lv_irem hx hb dL_law_75 (by decide) ?_
          refine lv_iconst (v := 2) hx hb dL_law_76 (by decide) ?_
          refine lv_icmp_ne (tgt := 84) hx hb dL_law_77 (by decide) (fun c => ?_) (fun c => ?_)
          · replace hw := hw.1 c
            refine lv_iconst (v := 0) hx hb dL_law_84 (by decide) ?_
            refine W.widen (k := (68 + (91 - (n + 1)) * 1787 + 9)) (n := (1714 + (91 - (n + 1)) * 11098 + 242)) (by first | omega | (simp only [room_1]; omega)) (by first | omega | (simp only [room_1]; omega)) ?_
            exact hb_85 x1 x2 x3 x4 v21 (0 : Int32) x4 x2 _ _ _ ls I (lv_sub hl22 [1, 2, 3, 4, 5, 0] rfl) hw
          · replace hw := hw.2 c
            refine lv_iconst (v := 1) hx hb dL_law_80 (by decide) ?_
            refine lv_goto (tgt := 85) hx hb dL_law_81 (by decide) ?_
            refine W.widen (k := (68 + (91 - (n + 1)) * 1787 + 9)) (n := (1714 + (91 - (n + 1)) * 11098 + 242)) (by first | omega | (simp only [room_1]; omega)) (by first | omega | (simp only [room_1]; omega)) ?_
            exact hb_85 x1 x2 x3 x4 v21 (1 : Int32) x4 x2 _ _ _ ls I (lv_sub hl22 [1, 2, 3, 4, 5, 0] rfl) hw
      refine lv_iload_n hx hb dL_law_18 rfl (lv_at hl 3 rfl) ?_
      refine lv_bipush (v := 90) hx hb dL_law_19 (by decide) ?_
      refine lv_icmp_ge (tgt := 200) hx hb dL_law_21 (by decide) (fun c => ?_) (fun c => ?_)
      · replace hw := hw.1 c
        refine lv_aload_n hx hb dL_law_200 rfl (lv_at hl 1 rfl) ?_
        refine lv_aload_n hx hb dL_law_201 rfl (lv_at hl 2 rfl) ?_
        refine lv_iconst (v := 0) hx hb dL_law_202 (by decide) ?_
        refine z_callS (PX := fun _ _ => False) C I (as := [.ref x1, .ref x2, .int (0 : Int32)]) (rest := []) (m_L_areAlike E EN hw) ks_L_100 rfl rfl hl.1 (Nat.le_of_ble_eq_true rfl) ⟨Nat.le_of_ble_eq_true rfl, Nat.le_of_ble_eq_true rfl⟩ ⟨(by first | omega | (simp only [room_1]; omega)), (by first | omega | (simp only [room_1]; omega))⟩ dL_law_203 (fun _ _ _ _ _ _ _ hF => hF.elim) (fun v M23 _ _ I hv => ?_)
        obtain ⟨v24, rfl, hv24, hw⟩ := hv
        refine W.eq (g2 := F0 m 206 ls [.int v24]) rfl ?_
        refine lv_if_eq (tgt := 222) hx hb dL_law_206 (by decide) (fun c => ?_) (fun c => ?_)
        · replace hw := hw.1 c
          refine lv_iconst (v := 0) hx hb dL_law_222 (by decide) ?_
          exact hw.elim
        · replace hw := hw.2 c
          refine lv_aload_n hx hb dL_law_209 rfl (lv_at hl 1 rfl) ?_
          refine lv_iconst (v := 0) hx hb dL_law_210 (by decide) ?_
          refine lv_iconst (v := 0) hx hb dL_law_211 (by decide) ?_
          refine z_callS (PX := fun _ _ => False) C I (as := [.ref x1, .int (0 : Int32), .int (0 : Int32)]) (rest := []) (m_L_areVersionsSo E EN hw) ks_L_104 rfl rfl hl.1 (Nat.le_of_ble_eq_true rfl) ⟨Nat.le_of_ble_eq_true rfl, Nat.le_of_ble_eq_true rfl⟩ ⟨(by first | omega | (simp only [room_1]; omega)), (by first | omega | (simp only [room_1]; omega))⟩ dL_law_212 (fun _ _ _ _ _ _ _ hF => hF.elim) (fun v M25 _ _ I hv => ?_)
          obtain ⟨v26, rfl, hv26, hw⟩ := hv
          refine W.eq (g2 := F0 m 215 ls [.int v26]) rfl ?_
          refine lv_if_eq (tgt := 222) hx hb dL_law_215 (by decide) (fun c => ?_) (fun c => ?_)
          · replace hw := hw.1 c
            refine lv_iconst (v := 0) hx hb dL_law_222 (by decide) ?_
            exact hw.elim
          · replace hw := hw.2 c
            refine lv_iconst (v := 1) hx hb dL_law_218 (by decide) ?_
            refine lv_goto (tgt := 223) hx hb dL_law_219 (by decide) ?_
            exact z_lret _ _ _ _ _ _ ls I (by first | omega | (simp only [room_1]; omega)) (by first | omega | (simp only [room_1]; omega)) dL_law_223
      · replace hw := hw.2 c
        refine lv_aload_n hx hb dL_law_24 rfl (lv_at hl 0 rfl) ?_
        refine lv_iload_n hx hb dL_law_25 rfl (lv_at hl 3 rfl) ?_
        refine lv_bipush (v := 61) hx hb dL_law_26 (by decide) ?_
        refine lv_irem hx hb dL_law_28 (by decide) ?_
        refine z_callS (PX := fun _ _ => False) C I (as := [.ref b, .int (x3 - x3 / (61 : Int32) * (61 : Int32))]) (rest := []) (m_L_cell E EN hw) ks_L_92 rfl rfl hl.1 (Nat.le_of_ble_eq_true rfl) ⟨Nat.le_of_ble_eq_true rfl, Nat.le_of_ble_eq_true rfl⟩ ⟨(by first | omega | (simp only [room_1]; omega)), (by first | omega | (simp only [room_1]; omega))⟩ dL_law_29 (fun _ _ _ _ _ _ _ hF => hF.elim) (fun v M27 _ _ I hv => ?_)
        obtain ⟨v28, rfl, hw⟩ := hv
        refine W.eq (g2 := F0 m 32 ls [.int v28]) rfl ?_
        refine lv_sipush (v := 1109) hx hb dL_law_32 (by decide) ?_
        refine lv_iload_n hx hb dL_law_35 rfl (lv_at hl 3 rfl) ?_
        refine lv_bipush (v := 61) hx hb dL_law_36 (by decide) ?_
        refine lv_idiv hx hb dL_law_38 (by decide) ?_
        refine lv_imul hx hb dL_law_39 ?_
        refine lv_iadd hx hb dL_law_40 ?_
        refine lv_istore (lv' := [(4, .int (v28 + ((1109 : Int32) * (x3 / (61 : Int32))))), (0, .ref b), (1, .ref x1), (2, .ref x2), (3, .int x3)]) hx hb dL_law_41 hl (by decide) rfl (fun ls hl29 => ?_)
        refine lv_aload_n hx hb dL_law_43 rfl (lv_at hl29 2 rfl) ?_
        refine lv_iload hx hb dL_law_44 (lv_at hl29 0 rfl) ?_
        refine lv_iload_n hx hb dL_law_46 rfl (lv_at hl29 4 rfl) ?_
        refine lv_iconst (v := 3) hx hb dL_law_47 (by decide) ?_
        refine lv_irem hx hb dL_law_48 (by decide) ?_
        refine lv_iconst (v := 2) hx hb dL_law_49 (by decide) ?_
        refine lv_icmp_ne (tgt := 57) hx hb dL_law_50 (by decide) (fun c => ?_) (fun c => ?_)
        · replace hw := hw.1 c
          refine lv_iconst (v := 0) hx hb dL_law_57 (by decide) ?_
          refine W.widen (k := (68 + (91 - (n + 1)) * 1787 + 0)) (n := (1714 + (91 - (n + 1)) * 11098 + 0)) (by first | omega | (simp only [room_1]; omega)) (by first | omega | (simp only [room_1]; omega)) ?_
          exact hb_58 x1 x2 x3 (v28 + ((1109 : Int32) * (x3 / (61 : Int32)))) (0 : Int32) (v28 + ((1109 : Int32) * (x3 / (61 : Int32)))) x1 _ _ _ ls I (lv_sub hl29 [1, 2, 3, 4, 0] rfl) hw
        · replace hw := hw.2 c
          refine lv_iconst (v := 1) hx hb dL_law_53 (by decide) ?_
          refine lv_goto (tgt := 58) hx hb dL_law_54 (by decide) ?_
          refine W.widen (k := (68 + (91 - (n + 1)) * 1787 + 0)) (n := (1714 + (91 - (n + 1)) * 11098 + 0)) (by first | omega | (simp only [room_1]; omega)) (by first | omega | (simp only [room_1]; omega)) ?_
          exact hb_58 x1 x2 x3 (v28 + ((1109 : Int32) * (x3 / (61 : Int32)))) (1 : Int32) (v28 + ((1109 : Int32) * (x3 / (61 : Int32)))) x1 _ _ _ ls I (lv_sub hl29 [1, 2, 3, 4, 0] rfl) hw
  refine z_new C I kn_L_9 (fs := [.null, .null, .null, .null, .null, .null]) zd_6 hw (Nat.le_of_ble_eq_true rfl) (Nat.le_of_ble_eq_true rfl) dL_law_0 (fun q30 M31 _ I hw => ?_)
  refine lv_dup hx hb dL_law_3 rfl ?_
  refine z_callI C I (as := []) (rest := [.ref q30]) (m_X5_init E hw) ki_L_91 rfl rfl hl.1 (Nat.le_of_ble_eq_true rfl) ⟨Nat.le_of_ble_eq_true rfl, Nat.le_of_ble_eq_true rfl⟩ ⟨Nat.le_of_ble_eq_true rfl, Nat.le_of_ble_eq_true rfl⟩ dL_law_4 (fun M32 _ _ I hw => ?_)
  refine W.eq (g2 := F0 m 7 ls [.ref q30]) rfl ?_
  refine lv_astore_n (lv' := [(1, .ref q30), (0, .ref b)]) hx hb dL_law_7 rfl hl (by decide) rfl (fun ls hl33 => ?_)
  refine z_new C I kn_L_9 (fs := [.null, .null, .null, .null, .null, .null]) zd_6 hw (Nat.le_of_ble_eq_true rfl) (Nat.le_of_ble_eq_true rfl) dL_law_8 (fun q34 M35 _ I hw => ?_)
  refine lv_dup hx hb dL_law_11 rfl ?_
  refine z_callI C I (as := []) (rest := [.ref q34]) (m_X5_init E hw) ki_L_91 rfl rfl hl33.1 (Nat.le_of_ble_eq_true rfl) ⟨Nat.le_of_ble_eq_true rfl, Nat.le_of_ble_eq_true rfl⟩ ⟨Nat.le_of_ble_eq_true rfl, Nat.le_of_ble_eq_true rfl⟩ dL_law_12 (fun M36 _ _ I hw => ?_)
  refine W.eq (g2 := F0 m 15 ls [.ref q34]) rfl ?_
  refine lv_astore_n (lv' := [(2, .ref q34), (1, .ref q30), (0, .ref b)]) hx hb dL_law_15 rfl hl33 (by decide) rfl (fun ls hl37 => ?_)
  refine lv_iconst (v := 0) hx hb dL_law_16 (by decide) ?_
  refine lv_istore_n (lv' := [(3, .int (0 : Int32)), (2, .ref q34), (1, .ref q30), (0, .ref b)]) hx hb dL_law_17 rfl hl37 (by decide) rfl (fun ls hl38 => ?_)
  refine W.widen (k := 68 + (91 - 91) * 1787) (n := 1714 + (91 - 91) * 11098) (Nat.le_of_ble_eq_true rfl) (Nat.le_of_ble_eq_true rfl) ?_
  exact hb_18 91 (Nat.le_refl _) q30 q34 (0 : Int32) _ _ _ ls I (lv_sub hl38 [3, 2, 1, 0] rfl) hw
