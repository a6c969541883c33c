section L_window
variable {p : Program} {l : Launch} {e : Env} {s : State} {m : MethodId} {args : Array Value} {below : List Frame} {meth : Method} {c : Code} {D : va_G} {A : Nat → Prop} {k : Nat → ClassId} {g : Nat → Nat} {N : Nat} {cd : Cond}
set_option maxHeartbeats 4000000 in
set_option maxRecDepth 100000 in
theorem lm_window_211 {r : St} (C : Cx p s m args c cX12_window RX12 (cd :: rW) D (TYs k) 15) (hr : meth.sig.returnType = none) (hlk : meth.locks = false) {rec53 : St → Int → Int → Int → Int → Int → Int → Int → Option St} (hrec53 : ∀ {ls : Array Slot} {H : Heap} {locs : List Loc} {σ : St} {x2 : Int} {x3 : Int} {x5 : Int} {x6 : Int} {x8 : Int} {x10 : Int} {x11 : Int}, lv_has ls 15 [(0, .ref (g 0)), (2, .int (Int32.ofInt x2)), (3, .long (Int64.ofInt x3)), (5, .int (Int32.ofInt x5)), (6, .long (Int64.ofInt x6)), (8, .long (Int64.ofInt x8)), (10, .int (Int32.ofInt x10)), (11, .int (Int32.ofInt x11))] → Hp D A s.heap H locs (mW k g σ) → rec53 σ x2 x3 x5 x6 x8 x10 x11 = some r → W p l e { frames := 2, cells := 0, slots := 0, locals := 48 } s m args below meth c H locs 0 0 (MQ below (va_Qv (fun (_ : Unit) => True) (fun _ t => PostW D (TYs k) A (mW k g r) t) A) args s 0 0 A) (F0 m 53 ls [])) {ls : Array Slot} {H : Heap} {locs : List Loc} {σ : St} {x2 : Int} {x3 : Int} {x5 : Int} {x6 : Int} {x8 : Int} {x10 : Int} {x11 : Int} (hl : lv_has ls 15 [(0, .ref (g 0)), (2, .int (Int32.ofInt x2)), (3, .long (Int64.ofInt x3)), (5, .int (Int32.ofInt x5)), (6, .long (Int64.ofInt x6)), (8, .long (Int64.ofInt x8)), (10, .int (Int32.ofInt x10)), (11, .int (Int32.ofInt x11))]) (h : Hp D A s.heap H locs (mW k g σ)) (hm : r_window_211 N rec53 σ x2 x3 x5 x6 x8 x10 x11 = some r) : W p l e { frames := 2, cells := 0, slots := 0, locals := 48 } s m args below meth c H locs 0 0 (MQ below (va_Qv (fun (_ : Unit) => True) (fun _ t => PostW D (TYs k) A (mW k g r) t) A) args s 0 0 A) (F0 m 211 ls []) := by
  rw [r_window_211] at hm
  refine lv_iinc (v := Int32.ofInt (x11 + 1)) (lv' := [(11, .int (Int32.ofInt (x11 + 1))), (0, .ref (g 0)), (2, .int (Int32.ofInt x2)), (3, .long (Int64.ofInt x3)), (5, .int (Int32.ofInt x5)), (6, .long (Int64.ofInt x6)), (8, .long (Int64.ofInt x8)), (10, .int (Int32.ofInt x10))]) C.1 C.2.1 dX12_window_211 hl (k := 7) rfl (c32_add _ _) (by decide) rfl (fun ls hl => ?_)
  refine lv_goto (tgt := 53) C.1 C.2.1 dX12_window_214 (by decide) ?_
  exact hrec53 (lv_sub hl [1, 2, 3, 4, 5, 6, 7, 0] rfl) h hm
set_option maxHeartbeats 4000000 in
set_option maxRecDepth 100000 in
theorem lm_window_188 {r : St} (C : Cx p s m args c cX12_window RX12 (cd :: rW) D (TYs k) 15) (hr : meth.sig.returnType = none) (hlk : meth.locks = false) {rec53 : St → Int → Int → Int → Int → Int → Int → Int → Option St} (hrec53 : ∀ {ls : Array Slot} {H : Heap} {locs : List Loc} {σ : St} {x2 : Int} {x3 : Int} {x5 : Int} {x6 : Int} {x8 : Int} {x10 : Int} {x11 : Int}, lv_has ls 15 [(0, .ref (g 0)), (2, .int (Int32.ofInt x2)), (3, .long (Int64.ofInt x3)), (5, .int (Int32.ofInt x5)), (6, .long (Int64.ofInt x6)), (8, .long (Int64.ofInt x8)), (10, .int (Int32.ofInt x10)), (11, .int (Int32.ofInt x11))] → Hp D A s.heap H locs (mW k g σ) → rec53 σ x2 x3 x5 x6 x8 x10 x11 = some r → W p l e { frames := 2, cells := 0, slots := 0, locals := 48 } s m args below meth c H locs 0 0 (MQ below (va_Qv (fun (_ : Unit) => True) (fun _ t => PostW D (TYs k) A (mW k g r) t) A) args s 0 0 A) (F0 m 53 ls [])) {ls : Array Slot} {H : Heap} {locs : List Loc} {σ : St} {x2 : Int} {x3 : Int} {x5 : Int} {x6 : Int} {x8 : Int} {x10 : Int} {x11 : Int} {s0 : Int} (hl : lv_has ls 15 [(0, .ref (g 0)), (2, .int (Int32.ofInt x2)), (3, .long (Int64.ofInt x3)), (5, .int (Int32.ofInt x5)), (6, .long (Int64.ofInt x6)), (8, .long (Int64.ofInt x8)), (10, .int (Int32.ofInt x10)), (11, .int (Int32.ofInt x11))]) (h : Hp D A s.heap H locs (mW k g σ)) (hm : r_window_188 N rec53 σ x2 x3 x5 x6 x8 x10 x11 s0 = some r) : W p l e { frames := 2, cells := 0, slots := 0, locals := 48 } s m args below meth c H locs 0 0 (MQ below (va_Qv (fun (_ : Unit) => True) (fun _ t => PostW D (TYs k) A (mW k g r) t) A) args s 0 0 A) (F0 m 188 ls [.int (Int32.ofInt s0)]) := by
  rw [r_window_188] at hm
  refine lv_istore (lv' := [(14, .int (Int32.ofInt s0)), (0, .ref (g 0)), (2, .int (Int32.ofInt x2)), (3, .long (Int64.ofInt x3)), (5, .int (Int32.ofInt x5)), (6, .long (Int64.ofInt x6)), (8, .long (Int64.ofInt x8)), (10, .int (Int32.ofInt x10)), (11, .int (Int32.ofInt x11))]) C.1 C.2.1 dX12_window_188 hl (by decide) rfl (fun ls hl => ?_)
  refine lv_iload C.1 C.2.1 dX12_window_190 (lv_at hl 0 rfl) ?_
  refine lv_iload C.1 C.2.1 dX12_window_192 (lv_at hl 4 rfl) ?_
  obtain ⟨g40, hm⟩ := grd_s hm
  obtain ⟨g41, hm⟩ := grd_s hm
  refine z_icmp_eq (tgt := 200) C dX12_window_194 (by decide) g40 g41 (fun c42 => ?_) (fun c42 => ?_)
  · have hm := ite_t c42 hm
    refine lv_aload_n C.1 C.2.1 dX12_window_200 rfl (lv_at hl 1 rfl) ?_
    refine lv_iload C.1 C.2.1 dX12_window_201 (lv_at hl 8 rfl) ?_
    refine lv_iload C.1 C.2.1 dX12_window_203 (lv_at hl 7 rfl) ?_
    obtain ⟨r43, e44, hm⟩ := obd_s hm
    refine q_callVv C h (rc_copy l D k g N σ x11 x10 r43 e44) (cwV 2 C.2.2.1 (gR_copy _) rfl rfl rfl hd_copy ⟨Nat.le_of_ble_eq_true rfl, Nat.le_of_ble_eq_true rfl⟩) rfl hl.1 rfl (Nat.le_of_ble_eq_true rfl) dX12_window_205 ⟨Nat.le_of_ble_eq_true rfl, Nat.le_of_ble_eq_true rfl⟩ (fun H locs h => ?_)
    refine lv_iinc (v := Int32.ofInt (x10 + 1)) (lv' := [(10, .int (Int32.ofInt (x10 + 1))), (14, .int (Int32.ofInt s0)), (0, .ref (g 0)), (2, .int (Int32.ofInt x2)), (3, .long (Int64.ofInt x3)), (5, .int (Int32.ofInt x5)), (6, .long (Int64.ofInt x6)), (8, .long (Int64.ofInt x8)), (11, .int (Int32.ofInt x11))]) C.1 C.2.1 dX12_window_208 hl (k := 7) rfl (c32_add _ _) (by decide) rfl (fun ls hl => ?_)
    exact lm_window_211 (N := N) C hr hlk hrec53 (lv_sub hl [2, 3, 4, 5, 6, 7, 0, 8] rfl) h hm
  · have hm := ite_f c42 hm
    refine lv_goto (tgt := 211) C.1 C.2.1 dX12_window_197 (by decide) ?_
    exact lm_window_211 (N := N) C hr hlk hrec53 (lv_sub hl [1, 2, 3, 4, 5, 6, 7, 8] rfl) h hm
set_option maxHeartbeats 4000000 in
set_option maxRecDepth 100000 in
theorem lm_window_131 {r : St} (C : Cx p s m args c cX12_window RX12 (cd :: rW) D (TYs k) 15) (hr : meth.sig.returnType = none) (hlk : meth.locks = false) {rec53 : St → Int → Int → Int → Int → Int → Int → Int → Option St} (hrec53 : ∀ {ls : Array Slot} {H : Heap} {locs : List Loc} {σ : St} {x2 : Int} {x3 : Int} {x5 : Int} {x6 : Int} {x8 : Int} {x10 : Int} {x11 : Int}, lv_has ls 15 [(0, .ref (g 0)), (2, .int (Int32.ofInt x2)), (3, .long (Int64.ofInt x3)), (5, .int (Int32.ofInt x5)), (6, .long (Int64.ofInt x6)), (8, .long (Int64.ofInt x8)), (10, .int (Int32.ofInt x10)), (11, .int (Int32.ofInt x11))] → Hp D A s.heap H locs (mW k g σ) → rec53 σ x2 x3 x5 x6 x8 x10 x11 = some r → W p l e { frames := 2, cells := 0, slots := 0, locals := 48 } s m args below meth c H locs 0 0 (MQ below (va_Qv (fun (_ : Unit) => True) (fun _ t => PostW D (TYs k) A (mW k g r) t) A) args s 0 0 A) (F0 m 53 ls [])) {ls : Array Slot} {H : Heap} {locs : List Loc} {σ : St} {x2 : Int} {x3 : Int} {x5 : Int} {x6 : Int} {x8 : Int} {x10 : Int} {x11 : Int} (hl : lv_has ls 15 [(0, .ref (g 0)), (2, .int (Int32.ofInt x2)), (3, .long (Int64.ofInt x3)), (5, .int (Int32.ofInt x5)), (6, .long (Int64.ofInt x6)), (8, .long (Int64.ofInt x8)), (10, .int (Int32.ofInt x10)), (11, .int (Int32.ofInt x11))]) (h : Hp D A s.heap H locs (mW k g σ)) (hm : r_window_131 N rec53 σ x2 x3 x5 x6 x8 x10 x11 = some r) : W p l e { frames := 2, cells := 0, slots := 0, locals := 48 } s m args below meth c H locs 0 0 (MQ below (va_Qv (fun (_ : Unit) => True) (fun _ t => PostW D (TYs k) A (mW k g r) t) A) args s 0 0 A) (F0 m 131 ls []) := by
  rw [r_window_131] at hm
  refine lv_iconst (v := Int32.ofInt 0) C.1 C.2.1 dX12_window_131 (by decide) ?_
  refine lv_goto (tgt := 188) C.1 C.2.1 dX12_window_132 (by decide) ?_
  exact lm_window_188 (N := N) C hr hlk hrec53 (lv_sub hl [0, 1, 2, 3, 4, 5, 6, 7] rfl) h hm
set_option maxHeartbeats 4000000 in
set_option maxRecDepth 100000 in
theorem lm_window_187 {r : St} (C : Cx p s m args c cX12_window RX12 (cd :: rW) D (TYs k) 15) (hr : meth.sig.returnType = none) (hlk : meth.locks = false) {rec53 : St → Int → Int → Int → Int → Int → Int → Int → Option St} (hrec53 : ∀ {ls : Array Slot} {H : Heap} {locs : List Loc} {σ : St} {x2 : Int} {x3 : Int} {x5 : Int} {x6 : Int} {x8 : Int} {x10 : Int} {x11 : Int}, lv_has ls 15 [(0, .ref (g 0)), (2, .int (Int32.ofInt x2)), (3, .long (Int64.ofInt x3)), (5, .int (Int32.ofInt x5)), (6, .long (Int64.ofInt x6)), (8, .long (Int64.ofInt x8)), (10, .int (Int32.ofInt x10)), (11, .int (Int32.ofInt x11))] → Hp D A s.heap H locs (mW k g σ) → rec53 σ x2 x3 x5 x6 x8 x10 x11 = some r → W p l e { frames := 2, cells := 0, slots := 0, locals := 48 } s m args below meth c H locs 0 0 (MQ below (va_Qv (fun (_ : Unit) => True) (fun _ t => PostW D (TYs k) A (mW k g r) t) A) args s 0 0 A) (F0 m 53 ls [])) {ls : Array Slot} {H : Heap} {locs : List Loc} {σ : St} {x2 : Int} {x3 : Int} {x5 : Int} {x6 : Int} {x8 : Int} {x10 : Int} {x11 : Int} (hl : lv_has ls 15 [(0, .ref (g 0)), (2, .int (Int32.ofInt x2)), (3, .long (Int64.ofInt x3)), (5, .int (Int32.ofInt x5)), (6, .long (Int64.ofInt x6)), (8, .long (Int64.ofInt x8)), (10, .int (Int32.ofInt x10)), (11, .int (Int32.ofInt x11))]) (h : Hp D A s.heap H locs (mW k g σ)) (hm : r_window_187 N rec53 σ x2 x3 x5 x6 x8 x10 x11 = some r) : W p l e { frames := 2, cells := 0, slots := 0, locals := 48 } s m args below meth c H locs 0 0 (MQ below (va_Qv (fun (_ : Unit) => True) (fun _ t => PostW D (TYs k) A (mW k g r) t) A) args s 0 0 A) (F0 m 187 ls []) := by
  rw [r_window_187] at hm
  refine lv_iconst (v := Int32.ofInt 0) C.1 C.2.1 dX12_window_187 (by decide) ?_
  exact lm_window_188 (N := N) C hr hlk hrec53 (lv_sub hl [0, 1, 2, 3, 4, 5, 6, 7] rfl) h hm
set_option maxHeartbeats 4000000 in
set_option maxRecDepth 100000 in
theorem lm_window_53 {r : St} (C : Cx p s m args c cX12_window RX12 (cd :: rW) D (TYs k) 15) (hr : meth.sig.returnType = none) (hlk : meth.locks = false)  (n : Nat) : ∀ {ls : Array Slot} {H : Heap} {locs : List Loc} {σ : St} {x2 : Int} {x3 : Int} {x5 : Int} {x6 : Int} {x8 : Int} {x10 : Int} {x11 : Int}, lv_has ls 15 [(0, .ref (g 0)), (2, .int (Int32.ofInt x2)), (3, .long (Int64.ofInt x3)), (5, .int (Int32.ofInt x5)), (6, .long (Int64.ofInt x6)), (8, .long (Int64.ofInt x8)), (10, .int (Int32.ofInt x10)), (11, .int (Int32.ofInt x11))] → Hp D A s.heap H locs (mW k g σ) → r_window_53 N  n σ x2 x3 x5 x6 x8 x10 x11 = some r → W p l e { frames := 2, cells := 0, slots := 0, locals := 48 } s m args below meth c H locs 0 0 (MQ below (va_Qv (fun (_ : Unit) => True) (fun _ t => PostW D (TYs k) A (mW k g r) t) A) args s 0 0 A) (F0 m 53 ls []) := by
  induction n with
  | zero => intro ls H locs σ x2 x3 x5 x6 x8 x10 x11 hl h hm; cases (show none = some r from hm)
  | succ n hrec53 =>
    intro ls H locs σ x2 x3 x5 x6 x8 x10 x11 hl h hm
    rw [r_window_53] at hm
    refine lv_iload C.1 C.2.1 dX12_window_53 (lv_at hl 7 rfl) ?_
    refine lv_aload_n C.1 C.2.1 dX12_window_55 rfl (lv_at hl 0 rfl) ?_
    refine fg_84 C h dX12_window_56 ?_
    obtain ⟨g15, hm⟩ := grd_s hm
    obtain ⟨g16, hm⟩ := grd_s hm
    refine z_icmp_ge (tgt := 217) C dX12_window_59 (by decide) g15 g16 (fun c17 => ?_) (fun c17 => ?_)
    · have hm := ite_f c17 hm
      refine lv_aload_n C.1 C.2.1 dX12_window_217 rfl (lv_at hl 0 rfl) ?_
      refine lv_iload C.1 C.2.1 dX12_window_218 (lv_at hl 6 rfl) ?_
      refine fp_84 C h dX12_window_220 (fun H locs h => ?_)
      cases hm
      exact q_vret C h hr hlk dX12_window_223
    · have hm := ite_t c17 hm
      refine lv_aload_n C.1 C.2.1 dX12_window_62 rfl (lv_at hl 0 rfl) ?_
      refine fg_85 C h dX12_window_63 ?_
      refine lv_iload C.1 C.2.1 dX12_window_66 (lv_at hl 7 rfl) ?_
      obtain ⟨g18, hm⟩ := grd_s hm
      refine al_52 C h dX12_window_68 g18 ?_
      refine lv_lload_n C.1 C.2.1 dX12_window_69 rfl (lv_at hl 2 rfl) ?_
      refine lv_lload C.1 C.2.1 dX12_window_70 (lv_at hl 4 rfl) ?_
      refine z_lmul C dX12_window_72 ?_
      refine z_lsub C dX12_window_73 ?_
      obtain ⟨v19, e20, hm⟩ := bnd_s hm
      rw [e20]
      refine lv_lstore (lv' := [(12, .long (Int64.ofInt v19)), (0, .ref (g 0)), (2, .int (Int32.ofInt x2)), (3, .long (Int64.ofInt x3)), (5, .int (Int32.ofInt x5)), (6, .long (Int64.ofInt x6)), (8, .long (Int64.ofInt x8)), (10, .int (Int32.ofInt x10)), (11, .int (Int32.ofInt x11))]) C.1 C.2.1 dX12_window_74 hl (by decide) rfl (fun ls hl => ?_)
      refine lv_aload_n C.1 C.2.1 dX12_window_76 rfl (lv_at hl 1 rfl) ?_
      refine fg_49 C h dX12_window_77 ?_
      refine lv_iload_n C.1 C.2.1 dX12_window_80 rfl (lv_at hl 2 rfl) ?_
      obtain ⟨g21, hm⟩ := grd_s hm
      refine al_70 C h dX12_window_81 g21 ?_
      refine lv_bipush (v := Int32.ofInt 15) C.1 C.2.1 dX12_window_82 (by decide) ?_
      obtain ⟨g22, hm⟩ := grd_s hm
      refine z_icmp_ne (tgt := 135) C dX12_window_84 (by decide) g22 (by decide) (fun c23 => ?_) (fun c23 => ?_)
      · have hm := ite_f c23 hm
        refine lv_lload C.1 C.2.1 dX12_window_135 (lv_at hl 0 rfl) ?_
        refine lv_aload_n C.1 C.2.1 dX12_window_137 rfl (lv_at hl 1 rfl) ?_
        refine fg_51 C h dX12_window_138 ?_
        refine lv_iload_n C.1 C.2.1 dX12_window_141 rfl (lv_at hl 2 rfl) ?_
        refine al_68 C h dX12_window_142 g21 ?_
        obtain ⟨g24, hm⟩ := grd_s hm
        refine z_i2l C dX12_window_143 g24 ?_
        refine z_lmul C dX12_window_144 ?_
        refine lv_aload_n C.1 C.2.1 dX12_window_145 rfl (lv_at hl 1 rfl) ?_
        refine fg_50 C h dX12_window_146 ?_
        refine lv_iload_n C.1 C.2.1 dX12_window_149 rfl (lv_at hl 2 rfl) ?_
        refine al_69 C h dX12_window_150 g21 ?_
        obtain ⟨g25, hm⟩ := grd_s hm
        refine z_i2l C dX12_window_151 g25 ?_
        refine lv_lload C.1 C.2.1 dX12_window_152 (lv_at hl 5 rfl) ?_
        refine z_lmul C dX12_window_154 ?_
        obtain ⟨g26, hm⟩ := grd_s hm
        obtain ⟨g27, hm⟩ := grd_s hm
        refine W.lcmp C.1 C.2.1 dX12_window_155 ?_
        refine z_lcmp_lt (tgt := 187) C dX12_window_156 (by decide) g26 g27 (fun c28 => ?_) (fun c28 => ?_)
        · have hm := ite_t c28 hm
          exact lm_window_187 (N := N) C hr hlk hrec53 (lv_sub hl [1, 2, 3, 4, 5, 6, 7, 8] rfl) h hm
        · have hm := ite_f c28 hm
          refine lv_lload C.1 C.2.1 dX12_window_159 (lv_at hl 0 rfl) ?_
          refine lv_aload_n C.1 C.2.1 dX12_window_161 rfl (lv_at hl 1 rfl) ?_
          refine fg_53 C h dX12_window_162 ?_
          refine lv_iload_n C.1 C.2.1 dX12_window_165 rfl (lv_at hl 2 rfl) ?_
          refine al_66 C h dX12_window_166 g21 ?_
          obtain ⟨g29, hm⟩ := grd_s hm
          refine z_i2l C dX12_window_167 g29 ?_
          refine z_lmul C dX12_window_168 ?_
          refine lv_aload_n C.1 C.2.1 dX12_window_169 rfl (lv_at hl 1 rfl) ?_
          refine fg_52 C h dX12_window_170 ?_
          refine lv_iload_n C.1 C.2.1 dX12_window_173 rfl (lv_at hl 2 rfl) ?_
          refine al_67 C h dX12_window_174 g21 ?_
          obtain ⟨g30, hm⟩ := grd_s hm
          refine z_i2l C dX12_window_175 g30 ?_
          refine lv_lload C.1 C.2.1 dX12_window_176 (lv_at hl 5 rfl) ?_
          refine z_lmul C dX12_window_178 ?_
          obtain ⟨g31, hm⟩ := grd_s hm
          obtain ⟨g32, hm⟩ := grd_s hm
          refine W.lcmp C.1 C.2.1 dX12_window_179 ?_
          refine z_lcmp_ge (tgt := 187) C dX12_window_180 (by decide) g31 g32 (fun c33 => ?_) (fun c33 => ?_)
          · have hm := ite_f c33 hm
            exact lm_window_187 (N := N) C hr hlk hrec53 (lv_sub hl [1, 2, 3, 4, 5, 6, 7, 8] rfl) h hm
          · have hm := ite_t c33 hm
            refine lv_iconst (v := Int32.ofInt 1) C.1 C.2.1 dX12_window_183 (by decide) ?_
            refine lv_goto (tgt := 188) C.1 C.2.1 dX12_window_184 (by decide) ?_
            exact lm_window_188 (N := N) C hr hlk hrec53 (lv_sub hl [1, 2, 3, 4, 5, 6, 7, 8] rfl) h hm
      · have hm := ite_t c23 hm
        refine lv_lload C.1 C.2.1 dX12_window_87 (lv_at hl 0 rfl) ?_
        refine lv_aload_n C.1 C.2.1 dX12_window_89 rfl (lv_at hl 1 rfl) ?_
        refine fg_50 C h dX12_window_90 ?_
        refine lv_iload_n C.1 C.2.1 dX12_window_93 rfl (lv_at hl 2 rfl) ?_
        refine al_69 C h dX12_window_94 g21 ?_
        obtain ⟨g34, hm⟩ := grd_s hm
        refine z_i2l C dX12_window_95 g34 ?_
        refine z_lmul C dX12_window_96 ?_
        refine lv_lload C.1 C.2.1 dX12_window_97 (lv_at hl 6 rfl) ?_
        refine lv_lload C.1 C.2.1 dX12_window_99 (lv_at hl 5 rfl) ?_
        refine z_lmul C dX12_window_101 ?_
        obtain ⟨g35, hm⟩ := grd_s hm
        obtain ⟨g36, hm⟩ := grd_s hm
        refine W.lcmp C.1 C.2.1 dX12_window_102 ?_
        refine z_lcmp_lt (tgt := 131) C dX12_window_103 (by decide) g35 g36 (fun c37 => ?_) (fun c37 => ?_)
        · have hm := ite_t c37 hm
          exact lm_window_131 (N := N) C hr hlk hrec53 (lv_sub hl [1, 2, 3, 4, 5, 6, 7, 8] rfl) h hm
        · have hm := ite_f c37 hm
          refine lv_lload C.1 C.2.1 dX12_window_106 (lv_at hl 0 rfl) ?_
          refine lv_aload_n C.1 C.2.1 dX12_window_108 rfl (lv_at hl 1 rfl) ?_
          refine fg_50 C h dX12_window_109 ?_
          refine lv_iload_n C.1 C.2.1 dX12_window_112 rfl (lv_at hl 2 rfl) ?_
          refine al_69 C h dX12_window_113 g21 ?_
          refine z_i2l C dX12_window_114 g34 ?_
          refine z_lmul C dX12_window_115 ?_
          refine lv_lload C.1 C.2.1 dX12_window_116 (lv_at hl 6 rfl) ?_
          refine lv_lconst (v := Int64.ofInt 1) C.1 C.2.1 dX12_window_118 (by decide) ?_
          refine z_ladd C dX12_window_119 ?_
          refine lv_lload C.1 C.2.1 dX12_window_120 (lv_at hl 5 rfl) ?_
          refine z_lmul C dX12_window_122 ?_
          obtain ⟨g38, hm⟩ := grd_s hm
          refine W.lcmp C.1 C.2.1 dX12_window_123 ?_
          refine z_lcmp_ge (tgt := 131) C dX12_window_124 (by decide) g35 g38 (fun c39 => ?_) (fun c39 => ?_)
          · have hm := ite_f c39 hm
            exact lm_window_131 (N := N) C hr hlk hrec53 (lv_sub hl [1, 2, 3, 4, 5, 6, 7, 8] rfl) h hm
          · have hm := ite_t c39 hm
            refine lv_iconst (v := Int32.ofInt 1) C.1 C.2.1 dX12_window_127 (by decide) ?_
            refine lv_goto (tgt := 188) C.1 C.2.1 dX12_window_128 (by decide) ?_
            exact lm_window_188 (N := N) C hr hlk hrec53 (lv_sub hl [1, 2, 3, 4, 5, 6, 7, 8] rfl) h hm
set_option maxHeartbeats 4000000 in
set_option maxRecDepth 100000 in
theorem lm_window_35 {r : St} (C : Cx p s m args c cX12_window RX12 (cd :: rW) D (TYs k) 15) (hr : meth.sig.returnType = none) (hlk : meth.locks = false)  {ls : Array Slot} {H : Heap} {locs : List Loc} {σ : St} {x1 : Int} {x2 : Int} {x3 : Int} {x5 : Int} {x6 : Int} {s0 : Int} (hl : lv_has ls 15 [(0, .ref (g 0)), (1, .int (Int32.ofInt x1)), (2, .int (Int32.ofInt x2)), (3, .long (Int64.ofInt x3)), (5, .int (Int32.ofInt x5)), (6, .long (Int64.ofInt x6))]) (h : Hp D A s.heap H locs (mW k g σ)) (hm : r_window_35 N  σ x1 x2 x3 x5 x6 s0 = some r) : W p l e { frames := 2, cells := 0, slots := 0, locals := 48 } s m args below meth c H locs 0 0 (MQ below (va_Qv (fun (_ : Unit) => True) (fun _ t => PostW D (TYs k) A (mW k g r) t) A) args s 0 0 A) (F0 m 35 ls [.long (Int64.ofInt s0)]) := by
  rw [r_window_35] at hm
  refine lv_lstore (lv' := [(8, .long (Int64.ofInt s0)), (0, .ref (g 0)), (1, .int (Int32.ofInt x1)), (2, .int (Int32.ofInt x2)), (3, .long (Int64.ofInt x3)), (5, .int (Int32.ofInt x5)), (6, .long (Int64.ofInt x6))]) C.1 C.2.1 dX12_window_35 hl (by decide) rfl (fun ls hl => ?_)
  refine lv_aload_n C.1 C.2.1 dX12_window_37 rfl (lv_at hl 1 rfl) ?_
  refine fg_101 C h dX12_window_38 ?_
  refine lv_iload_n C.1 C.2.1 dX12_window_41 rfl (lv_at hl 2 rfl) ?_
  obtain ⟨g10, hm⟩ := grd_s hm
  refine al_38 C h dX12_window_42 g10 ?_
  obtain ⟨v11, e12, hm⟩ := bnd_s hm
  rw [e12]
  refine lv_istore (lv' := [(10, .int (Int32.ofInt v11)), (8, .long (Int64.ofInt s0)), (0, .ref (g 0)), (1, .int (Int32.ofInt x1)), (2, .int (Int32.ofInt x2)), (3, .long (Int64.ofInt x3)), (5, .int (Int32.ofInt x5)), (6, .long (Int64.ofInt x6))]) C.1 C.2.1 dX12_window_43 hl (by decide) rfl (fun ls hl => ?_)
  refine lv_aload_n C.1 C.2.1 dX12_window_45 rfl (lv_at hl 2 rfl) ?_
  refine fg_101 C h dX12_window_46 ?_
  refine lv_iload_n C.1 C.2.1 dX12_window_49 rfl (lv_at hl 3 rfl) ?_
  refine al_38 C h dX12_window_50 g10 ?_
  obtain ⟨v13, e14, hm⟩ := bnd_s hm
  rw [e14]
  refine lv_istore (lv' := [(11, .int (Int32.ofInt v13)), (10, .int (Int32.ofInt v11)), (8, .long (Int64.ofInt s0)), (0, .ref (g 0)), (1, .int (Int32.ofInt x1)), (2, .int (Int32.ofInt x2)), (3, .long (Int64.ofInt x3)), (5, .int (Int32.ofInt x5)), (6, .long (Int64.ofInt x6))]) C.1 C.2.1 dX12_window_51 hl (by decide) rfl (fun ls hl => ?_)
  exact lm_window_53 (N := N) C hr hlk  N (lv_sub hl [3, 5, 6, 7, 8, 2, 1, 0] rfl) h hm
set_option maxHeartbeats 4000000 in
set_option maxRecDepth 100000 in
theorem rc_window (l : Launch) (D : va_G) (k : Nat → ClassId) (g : Nat → Nat) (N : Nat) (σ : St) (x1 : Int) (x2 : Int) (x3 : Int) (x5 : Int) (r : St) (hm : r_window N σ x1 x2 x3 x5 = some r) : Mv l yX12_window (.code yX12_window cX12_window 15 none :: rW) { frames := 2, cells := 0, slots := 0, locals := 48 } [.ref (g 0), .int (Int32.ofInt x1), .int (Int32.ofInt x2), .long (Int64.ofInt x3), .int (Int32.ofInt x5)] D (TYs k) (mW k g σ) (fun _ => True) Unit (fun _ => True) (fun _ => mW k g r) 0 0 := by
  intro sz
  refine x_met (cc := cX12_window) (maxL := 15) (ret := none) (by decide) rfl (Nat.le_of_ble_eq_true rfl) ?_
  intro p e s m below meth c ls C hX hsz hr hlk hmn hl h
  have hl : lv_has ls 15 [(0, .ref (g 0)), (1, .int (Int32.ofInt x1)), (2, .int (Int32.ofInt x2)), (3, .long (Int64.ofInt x3)), (5, .int (Int32.ofInt x5))] := hl
  rw [r_window] at hm
  refine lv_aload_n C.1 C.2.1 dX12_window_0 rfl (lv_at hl 0 rfl) ?_
  refine fg_56 C h dX12_window_1 ?_
  refine lv_iload_n C.1 C.2.1 dX12_window_4 rfl (lv_at hl 2 rfl) ?_
  obtain ⟨g1, hm⟩ := grd_s hm
  refine al_63 C h dX12_window_5 g1 ?_
  obtain ⟨g2, hm⟩ := grd_s hm
  refine z_i2l C dX12_window_6 g2 ?_
  obtain ⟨v3, e4, hm⟩ := bnd_s hm
  rw [e4]
  refine lv_lstore (lv' := [(6, .long (Int64.ofInt v3)), (0, .ref (g 0)), (1, .int (Int32.ofInt x1)), (2, .int (Int32.ofInt x2)), (3, .long (Int64.ofInt x3)), (5, .int (Int32.ofInt x5))]) C.1 C.2.1 dX12_window_7 hl (by decide) rfl (fun ls hl => ?_)
  refine lv_aload_n C.1 C.2.1 dX12_window_9 rfl (lv_at hl 1 rfl) ?_
  refine fg_49 C h dX12_window_10 ?_
  refine lv_iload_n C.1 C.2.1 dX12_window_13 rfl (lv_at hl 3 rfl) ?_
  refine al_70 C h dX12_window_14 g1 ?_
  refine lv_bipush (v := Int32.ofInt 15) C.1 C.2.1 dX12_window_15 (by decide) ?_
  obtain ⟨g5, hm⟩ := grd_s hm
  refine z_icmp_ne (tgt := 34) C dX12_window_17 (by decide) g5 (by decide) (fun c6 => ?_) (fun c6 => ?_)
  · have hm := ite_f c6 hm
    refine lv_lconst (v := Int64.ofInt 0) C.1 C.2.1 dX12_window_34 (by decide) ?_
    exact lm_window_35 (N := N) C hr hlk  (lv_sub hl [1, 2, 3, 4, 5, 0] rfl) h hm
  · have hm := ite_t c6 hm
    refine lv_lload_n C.1 C.2.1 dX12_window_20 rfl (lv_at hl 4 rfl) ?_
    refine lv_aload_n C.1 C.2.1 dX12_window_21 rfl (lv_at hl 1 rfl) ?_
    refine fg_50 C h dX12_window_22 ?_
    refine lv_iload_n C.1 C.2.1 dX12_window_25 rfl (lv_at hl 3 rfl) ?_
    refine al_69 C h dX12_window_26 g1 ?_
    obtain ⟨g7, hm⟩ := grd_s hm
    refine z_i2l C dX12_window_27 g7 ?_
    obtain ⟨r8, e9, hm⟩ := obd_s hm
    refine q_callSl C h (rc_mod l D k N x3 (el σ 69 x2) r8 e9) (cwS 2 C.2.2.1 (gR_mod _) rfl rfl rfl hd_mod ⟨Nat.le_of_ble_eq_true rfl, Nat.le_of_ble_eq_true rfl⟩) rfl hl.1 rfl (Nat.le_of_ble_eq_true rfl) dX12_window_28 ⟨Nat.le_of_ble_eq_true rfl, Nat.le_of_ble_eq_true rfl⟩ (fun H locs h => ?_)
    refine lv_goto (tgt := 35) C.1 C.2.1 dX12_window_31 (by decide) ?_
    exact lm_window_35 (N := N) C hr hlk  (lv_sub hl [1, 2, 3, 4, 5, 0] rfl) h hm
end L_window
section L_windows
variable {p : Program} {l : Launch} {e : Env} {s : State} {m : MethodId} {args : Array Value} {below : List Frame} {meth : Method} {c : Code} {D : va_G} {A : Nat → Prop} {k : Nat → ClassId} {g : Nat → Nat} {N : Nat} {cd : Cond}
set_option maxHeartbeats 4000000 in
set_option maxRecDepth 100000 in
theorem lm_windows_61 {r : St × Int} (C : Cx p s m args c cX12_windows RX12 (cd :: rW) D (TYs k) 5) (hr : meth.sig.returnType = (some .boolean)) (hlk : meth.locks = false)  {ls : Array Slot} {H : Heap} {locs : List Loc} {σ : St} {x1 : Int} {x3 : Int} {s0 : Int} {s1 : Int} {s2 : Int} {s3 : Int} (hl : lv_has ls 5 [(0, .ref (g 0)), (1, .int (Int32.ofInt x1)), (3, .long (Int64.ofInt x3))]) (h : Hp D A s.heap H locs (mW k g σ)) (hm : r_windows_61 N  σ x1 x3 s0 s1 s2 s3 = some r) : W p l e { frames := 3, cells := 0, slots := 0, locals := 82 } s m args below meth c H locs 0 0 (MQ below (va_Qi (fun v (_ : Unit) => v = Int32.ofInt r.2) (fun _ t => PostW D (TYs k) A (mW k g r.1) t) A) args s 0 0 A) (F0 m 61 ls [.int (Int32.ofInt s0), .long (Int64.ofInt s1), .int (Int32.ofInt s2), .int (Int32.ofInt s3), .ref (g 0)]) := by
  rw [r_windows_61] at hm
  obtain ⟨r17, e18, hm⟩ := obd_s hm
  refine q_callVv C h (rc_window l D k g N σ s3 s2 s1 s0 r17 e18) (cwV 4 C.2.2.1 (gR_window _) rfl rfl rfl hd_window ⟨Nat.le_of_ble_eq_true rfl, Nat.le_of_ble_eq_true rfl⟩) rfl hl.1 rfl (Nat.le_of_ble_eq_true rfl) dX12_windows_61 ⟨Nat.le_of_ble_eq_true rfl, Nat.le_of_ble_eq_true rfl⟩ (fun H locs h => ?_)
  refine lv_aload_n C.1 C.2.1 dX12_windows_64 rfl (lv_at hl 0 rfl) ?_
  refine fg_102 C h dX12_windows_65 ?_
  refine lv_iload_n C.1 C.2.1 dX12_windows_68 rfl (lv_at hl 1 rfl) ?_
  obtain ⟨g19, hm⟩ := grd_s hm
  refine al_37 C h dX12_windows_69 g19 ?_
  obtain ⟨g20, hm⟩ := grd_s hm
  refine z_if_ne (tgt := 82) C dX12_windows_70 (by decide) g20 (fun c21 => ?_) (fun c21 => ?_)
  · have hm := ite_f c21 hm
    refine lv_aload_n C.1 C.2.1 dX12_windows_82 rfl (lv_at hl 0 rfl) ?_
    refine lv_aload_n C.1 C.2.1 dX12_windows_83 rfl (lv_at hl 0 rfl) ?_
    refine fg_100 C h dX12_windows_84 ?_
    refine lv_iload_n C.1 C.2.1 dX12_windows_87 rfl (lv_at hl 1 rfl) ?_
    refine al_39 C h dX12_windows_88 g19 ?_
    obtain ⟨r22, e23, hm⟩ := obd_s hm
    refine q_callVv C h (rc_sort l D k g N r17 (el r17 39 x1) r22 e23) (cwV 1 C.2.2.1 (gR_sort _) rfl rfl rfl hd_sort ⟨Nat.le_of_ble_eq_true rfl, Nat.le_of_ble_eq_true rfl⟩) rfl hl.1 rfl (Nat.le_of_ble_eq_true rfl) dX12_windows_89 ⟨Nat.le_of_ble_eq_true rfl, Nat.le_of_ble_eq_true rfl⟩ (fun H locs h => ?_)
    refine lv_iconst (v := Int32.ofInt 0) C.1 C.2.1 dX12_windows_92 (by decide) ?_
    cases hm
    exact q_iret C h hr hlk dX12_windows_93 rfl
  · have hm := ite_t c21 hm
    refine lv_aload_n C.1 C.2.1 dX12_windows_73 rfl (lv_at hl 0 rfl) ?_
    refine lv_iload_n C.1 C.2.1 dX12_windows_74 rfl (lv_at hl 1 rfl) ?_
    refine lv_iconst (v := Int32.ofInt 1) C.1 C.2.1 dX12_windows_75 (by decide) ?_
    refine lv_lload_n C.1 C.2.1 dX12_windows_76 rfl (lv_at hl 2 rfl) ?_
    obtain ⟨r24, e25, hm⟩ := obd_s hm
    refine q_callVv C h (rc_callKid l D k g N r17 x1 1 x3 r24 e25) (cwV 3 C.2.2.1 (gR_callKid _) rfl rfl rfl hd_callKid ⟨Nat.le_of_ble_eq_true rfl, Nat.le_of_ble_eq_true rfl⟩) rfl hl.1 rfl (Nat.le_of_ble_eq_true rfl) dX12_windows_77 ⟨Nat.le_of_ble_eq_true rfl, Nat.le_of_ble_eq_true rfl⟩ (fun H locs h => ?_)
    refine lv_iconst (v := Int32.ofInt 1) C.1 C.2.1 dX12_windows_80 (by decide) ?_
    cases hm
    exact q_iret C h hr hlk dX12_windows_81 rfl
set_option maxHeartbeats 4000000 in
set_option maxRecDepth 100000 in
theorem rc_windows (l : Launch) (D : va_G) (k : Nat → ClassId) (g : Nat → Nat) (N : Nat) (σ : St) (x1 : Int) (x2 : Int) (x3 : Int) (r : St × Int) (hm : r_windows N σ x1 x2 x3 = some r) : Mi l yX12_windows (.code yX12_windows cX12_windows 5 (some .boolean) :: rW) { frames := 3, cells := 0, slots := 0, locals := 82 } [.ref (g 0), .int (Int32.ofInt x1), .int (Int32.ofInt x2), .long (Int64.ofInt x3)] D (TYs k) (mW k g σ) (fun _ => True) Unit (fun v _ => v = Int32.ofInt r.2) (fun _ => mW k g r.1) 0 0 := by
  intro sz
  refine x_met (cc := cX12_windows) (maxL := 5) (ret := (some .boolean)) (by decide) rfl (Nat.le_of_ble_eq_true rfl) ?_
  intro p e s m below meth c ls C hX hsz hr hlk hmn hl h
  have hl : lv_has ls 5 [(0, .ref (g 0)), (1, .int (Int32.ofInt x1)), (2, .int (Int32.ofInt x2)), (3, .long (Int64.ofInt x3))] := hl
  rw [r_windows] at hm
  refine lv_aload_n C.1 C.2.1 dX12_windows_0 rfl (lv_at hl 0 rfl) ?_
  refine fg_99 C h dX12_windows_1 ?_
  refine lv_iload_n C.1 C.2.1 dX12_windows_4 rfl (lv_at hl 1 rfl) ?_
  obtain ⟨g1, hm⟩ := grd_s hm
  refine al_40 C h dX12_windows_5 g1 ?_
  obtain ⟨g2, hm⟩ := grd_s hm
  refine z_if_ne (tgt := 18) C dX12_windows_6 (by decide) g2 (fun c3 => ?_) (fun c3 => ?_)
  · have hm := ite_f c3 hm
    refine lv_aload_n C.1 C.2.1 dX12_windows_18 rfl (lv_at hl 0 rfl) ?_
    refine lv_aload_n C.1 C.2.1 dX12_windows_19 rfl (lv_at hl 0 rfl) ?_
    refine fg_101 C h dX12_windows_20 ?_
    refine lv_iload_n C.1 C.2.1 dX12_windows_23 rfl (lv_at hl 1 rfl) ?_
    refine al_38 C h dX12_windows_24 g1 ?_
    refine lv_aload_n C.1 C.2.1 dX12_windows_25 rfl (lv_at hl 0 rfl) ?_
    refine fg_56 C h dX12_windows_26 ?_
    refine lv_iload_n C.1 C.2.1 dX12_windows_29 rfl (lv_at hl 2 rfl) ?_
    obtain ⟨g4, hm⟩ := grd_s hm
    refine al_63 C h dX12_windows_30 g4 ?_
    obtain ⟨g5, hm⟩ := grd_s hm
    refine z_i2l C dX12_windows_31 g5 ?_
    refine lv_aload_n C.1 C.2.1 dX12_windows_32 rfl (lv_at hl 0 rfl) ?_
    refine lv_iload_n C.1 C.2.1 dX12_windows_33 rfl (lv_at hl 1 rfl) ?_
    obtain ⟨r6, e7, hm⟩ := obd_s hm
    refine q_callVl C h (rc_grainOf l D k g N σ x1 r6 e7) (cwV 1 C.2.2.1 (gR_grainOf _) rfl rfl rfl hd_grainOf ⟨Nat.le_of_ble_eq_true rfl, Nat.le_of_ble_eq_true rfl⟩) rfl hl.1 rfl (Nat.le_of_ble_eq_true rfl) dX12_windows_34 ⟨Nat.le_of_ble_eq_true rfl, Nat.le_of_ble_eq_true rfl⟩ (fun H locs h => ?_)
    obtain ⟨g8, hm⟩ := grd_s hm
    obtain ⟨g9, hm⟩ := grd_s hm
    obtain ⟨g10, hm⟩ := grd_s hm
    refine z_ldiv C dX12_windows_37 g8 g9 g10 ?_
    refine lv_lconst (v := Int64.ofInt 0) C.1 C.2.1 dX12_windows_38 (by decide) ?_
    obtain ⟨r11, e12, hm⟩ := obd_s hm
    refine q_callVv C h (rc_move l D k g N r6.1 (el σ 38 x1) (Int.tdiv (el σ 63 x2) r6.2) 0 r11 e12) (cwV 3 C.2.2.1 (gR_move _) rfl rfl rfl hd_move ⟨Nat.le_of_ble_eq_true rfl, Nat.le_of_ble_eq_true rfl⟩) rfl hl.1 rfl (Nat.le_of_ble_eq_true rfl) dX12_windows_39 ⟨Nat.le_of_ble_eq_true rfl, Nat.le_of_ble_eq_true rfl⟩ (fun H locs h => ?_)
    refine lv_aload_n C.1 C.2.1 dX12_windows_42 rfl (lv_at hl 0 rfl) ?_
    refine lv_iload_n C.1 C.2.1 dX12_windows_43 rfl (lv_at hl 1 rfl) ?_
    refine lv_iload_n C.1 C.2.1 dX12_windows_44 rfl (lv_at hl 2 rfl) ?_
    refine lv_lload_n C.1 C.2.1 dX12_windows_45 rfl (lv_at hl 3 rfl) ?_
    refine lv_aload_n C.1 C.2.1 dX12_windows_46 rfl (lv_at hl 0 rfl) ?_
    refine fg_102 C h dX12_windows_47 ?_
    refine lv_iload_n C.1 C.2.1 dX12_windows_50 rfl (lv_at hl 1 rfl) ?_
    refine al_37 C h dX12_windows_51 g1 ?_
    refine lv_iconst (v := Int32.ofInt 1) C.1 C.2.1 dX12_windows_52 (by decide) ?_
    obtain ⟨g13, hm⟩ := grd_s hm
    refine z_icmp_ne (tgt := 60) C dX12_windows_53 (by decide) g13 (by decide) (fun c14 => ?_) (fun c14 => ?_)
    · have hm := ite_f c14 hm
      refine lv_iconst (v := Int32.ofInt 0) C.1 C.2.1 dX12_windows_60 (by decide) ?_
      exact lm_windows_61 (N := N) C hr hlk  (lv_sub hl [0, 1, 3] rfl) h hm
    · have hm := ite_t c14 hm
      refine lv_iconst (v := Int32.ofInt 1) C.1 C.2.1 dX12_windows_56 (by decide) ?_
      refine lv_goto (tgt := 61) C.1 C.2.1 dX12_windows_57 (by decide) ?_
      exact lm_windows_61 (N := N) C hr hlk  (lv_sub hl [0, 1, 3] rfl) h hm
  · have hm := ite_t c3 hm
    refine lv_aload_n C.1 C.2.1 dX12_windows_9 rfl (lv_at hl 0 rfl) ?_
    refine lv_iload_n C.1 C.2.1 dX12_windows_10 rfl (lv_at hl 1 rfl) ?_
    refine lv_iconst (v := Int32.ofInt 0) C.1 C.2.1 dX12_windows_11 (by decide) ?_
    refine lv_lload_n C.1 C.2.1 dX12_windows_12 rfl (lv_at hl 3 rfl) ?_
    obtain ⟨r15, e16, hm⟩ := obd_s hm
    refine q_callVv C h (rc_callKid l D k g N σ x1 0 x3 r15 e16) (cwV 3 C.2.2.1 (gR_callKid _) rfl rfl rfl hd_callKid ⟨Nat.le_of_ble_eq_true rfl, Nat.le_of_ble_eq_true rfl⟩) rfl hl.1 rfl (Nat.le_of_ble_eq_true rfl) dX12_windows_13 ⟨Nat.le_of_ble_eq_true rfl, Nat.le_of_ble_eq_true rfl⟩ (fun H locs h => ?_)
    refine lv_iconst (v := Int32.ofInt 1) C.1 C.2.1 dX12_windows_16 (by decide) ?_
    cases hm
    exact q_iret C h hr hlk dX12_windows_17 rfl
end L_windows
section L_step
variable {p : Program} {l : Launch} {e : Env} {s : State} {m : MethodId} {args : Array Value} {below : List Frame} {meth : Method} {c : Code} {D : va_G} {A : Nat → Prop} {k : Nat → ClassId} {g : Nat → Nat} {N : Nat} {cd : Cond}
set_option maxHeartbeats 4000000 in
set_option maxRecDepth 100000 in
theorem lm_step_292 {r : St} (C : Cx p s m args c cX12_step RX12 (cd :: rW) D (TYs k) 5) (hr : meth.sig.returnType = none) (hlk : meth.locks = false)  {ls : Array Slot} {H : Heap} {locs : List Loc} {σ : St}  (hl : lv_has ls 5 [(0, .ref (g 0))]) (h : Hp D A s.heap H locs (mW k g σ)) (hm : r_step_292 N  σ  = some r) : W p l e { frames := 4, cells := 0, slots := 0, locals := 106 } s m args below meth c H locs 0 0 (MQ below (va_Qv (fun (_ : Unit) => True) (fun _ t => PostW D (TYs k) A (mW k g r) t) A) args s 0 0 A) (F0 m 292 ls []) := by
  rw [r_step_292] at hm
  refine lv_aload_n C.1 C.2.1 dX12_step_292 rfl (lv_at hl 0 rfl) ?_
  refine lv_dup C.1 C.2.1 dX12_step_293 rfl ?_
  refine fg_96 C h dX12_step_294 ?_
  refine lv_iconst (v := Int32.ofInt 1) C.1 C.2.1 dX12_step_297 (by decide) ?_
  refine z_isub C dX12_step_298 ?_
  refine fp_96 C h dX12_step_299 (fun H locs h => ?_)
  cases hm
  exact q_vret C h hr hlk dX12_step_302
set_option maxHeartbeats 4000000 in
set_option maxRecDepth 100000 in
theorem rc_step (l : Launch) (D : va_G) (k : Nat → ClassId) (g : Nat → Nat) (N : Nat) (σ : St) (x1 : Int) (r : St) (hm : r_step N σ x1 = some r) : Mv l yX12_step (.code yX12_step cX12_step 5 none :: rW) { frames := 4, cells := 0, slots := 0, locals := 106 } [.ref (g 0), .int (Int32.ofInt x1)] D (TYs k) (mW k g σ) (fun _ => True) Unit (fun _ => True) (fun _ => mW k g r) 0 0 := by
  intro sz
  refine x_met (cc := cX12_step) (maxL := 5) (ret := none) (by decide) rfl (Nat.le_of_ble_eq_true rfl) ?_
  intro p e s m below meth c ls C hX hsz hr hlk hmn hl h
  have hl : lv_has ls 5 [(0, .ref (g 0)), (1, .int (Int32.ofInt x1))] := hl
  rw [r_step] at hm
  refine lv_aload_n C.1 C.2.1 dX12_step_0 rfl (lv_at hl 0 rfl) ?_
  refine fg_97 C h dX12_step_1 ?_
  refine lv_iload_n C.1 C.2.1 dX12_step_4 rfl (lv_at hl 1 rfl) ?_
  obtain ⟨g1, hm⟩ := grd_s hm
  refine al_42 C h dX12_step_5 g1 ?_
  obtain ⟨v2, e3, hm⟩ := bnd_s hm
  rw [e3]
  refine lv_istore_n (lv' := [(2, .int (Int32.ofInt v2)), (0, .ref (g 0)), (1, .int (Int32.ofInt x1))]) C.1 C.2.1 dX12_step_6 rfl hl (by decide) rfl (fun ls hl => ?_)
  refine lv_aload_n C.1 C.2.1 dX12_step_7 rfl (lv_at hl 1 rfl) ?_
  refine fg_98 C h dX12_step_8 ?_
  refine lv_iload_n C.1 C.2.1 dX12_step_11 rfl (lv_at hl 2 rfl) ?_
  refine al_41 C h dX12_step_12 g1 ?_
  obtain ⟨v4, e5, hm⟩ := bnd_s hm
  rw [e5]
  refine lv_lstore_n (lv' := [(3, .long (Int64.ofInt v4)), (2, .int (Int32.ofInt v2)), (0, .ref (g 0)), (1, .int (Int32.ofInt x1))]) C.1 C.2.1 dX12_step_13 rfl hl (by decide) rfl (fun ls hl => ?_)
  refine lv_aload_n C.1 C.2.1 dX12_step_14 rfl (lv_at hl 2 rfl) ?_
  refine fg_49 C h dX12_step_15 ?_
  refine lv_iload_n C.1 C.2.1 dX12_step_18 rfl (lv_at hl 1 rfl) ?_
  obtain ⟨g6, hm⟩ := grd_s hm
  refine al_70 C h dX12_step_19 g6 ?_
  obtain ⟨g7, hm⟩ := grd_s hm
  by_cases c8 : (el σ 70 v2) = 1
  · refine x_topi (congrArg Int32.ofInt c8) ?_
    have hm := ite_t c8 hm
    refine lv_tableIn (tgt := 136) C.1 C.2.1 dX12_step_20 (by decide) (by decide) rfl (by decide) ?_
    refine lv_aload_n C.1 C.2.1 dX12_step_136 rfl (lv_at hl 2 rfl) ?_
    refine lv_lload_n C.1 C.2.1 dX12_step_137 rfl (lv_at hl 0 rfl) ?_
    refine lv_lload_n C.1 C.2.1 dX12_step_138 rfl (lv_at hl 0 rfl) ?_
    refine lv_lconst (v := Int64.ofInt 1) C.1 C.2.1 dX12_step_139 (by decide) ?_
    refine z_ladd C dX12_step_140 ?_
    refine lv_aload_n C.1 C.2.1 dX12_step_141 rfl (lv_at hl 2 rfl) ?_
    refine fg_50 C h dX12_step_142 ?_
    refine lv_iload_n C.1 C.2.1 dX12_step_145 rfl (lv_at hl 1 rfl) ?_
    refine al_69 C h dX12_step_146 g6 ?_
    refine lv_aload_n C.1 C.2.1 dX12_step_147 rfl (lv_at hl 2 rfl) ?_
    refine fg_51 C h dX12_step_148 ?_
    refine lv_iload_n C.1 C.2.1 dX12_step_151 rfl (lv_at hl 1 rfl) ?_
    refine al_68 C h dX12_step_152 g6 ?_
    refine lv_iconst (v := Int32.ofInt 0) C.1 C.2.1 dX12_step_153 (by decide) ?_
    refine lv_iconst (v := Int32.ofInt 1) C.1 C.2.1 dX12_step_154 (by decide) ?_
    obtain ⟨r9, e10, hm⟩ := obd_s hm
    refine q_callVv C h (rc_emit l D k g N σ v4 (v4 + 1) (el σ 69 v2) (el σ 68 v2) 0 1 r9 e10) (cwV 6 C.2.2.1 (gR_emit _) rfl rfl rfl hd_emit ⟨Nat.le_of_ble_eq_true rfl, Nat.le_of_ble_eq_true rfl⟩) rfl hl.1 rfl (Nat.le_of_ble_eq_true rfl) dX12_step_155 ⟨Nat.le_of_ble_eq_true rfl, Nat.le_of_ble_eq_true rfl⟩ (fun H locs h => ?_)
    refine lv_goto (tgt := 292) C.1 C.2.1 dX12_step_158 (by decide) ?_
    exact lm_step_292 (N := N) C hr hlk  (lv_sub hl [2] rfl) h hm
  have hm := ite_f c8 hm
  by_cases c11 : (el σ 70 v2) = 2
  · refine x_topi (congrArg Int32.ofInt c11) ?_
    have hm := ite_t c11 hm
    refine lv_tableIn (tgt := 161) C.1 C.2.1 dX12_step_20 (by decide) (by decide) rfl (by decide) ?_
    refine lv_aload_n C.1 C.2.1 dX12_step_161 rfl (lv_at hl 2 rfl) ?_
    refine lv_lload_n C.1 C.2.1 dX12_step_162 rfl (lv_at hl 0 rfl) ?_
    refine lv_lload_n C.1 C.2.1 dX12_step_163 rfl (lv_at hl 0 rfl) ?_
    refine lv_lconst (v := Int64.ofInt 1) C.1 C.2.1 dX12_step_164 (by decide) ?_
    refine z_ladd C dX12_step_165 ?_
    refine lv_iconst (v := Int32.ofInt 0) C.1 C.2.1 dX12_step_166 (by decide) ?_
    refine lv_iconst (v := Int32.ofInt 0) C.1 C.2.1 dX12_step_167 (by decide) ?_
    refine lv_aload_n C.1 C.2.1 dX12_step_168 rfl (lv_at hl 2 rfl) ?_
    refine fg_50 C h dX12_step_169 ?_
    refine lv_iload_n C.1 C.2.1 dX12_step_172 rfl (lv_at hl 1 rfl) ?_
    refine al_69 C h dX12_step_173 g6 ?_
    refine lv_iconst (v := Int32.ofInt 2) C.1 C.2.1 dX12_step_174 (by decide) ?_
    obtain ⟨r12, e13, hm⟩ := obd_s hm
    refine q_callVv C h (rc_emit l D k g N σ v4 (v4 + 1) 0 0 (el σ 69 v2) 2 r12 e13) (cwV 6 C.2.2.1 (gR_emit _) rfl rfl rfl hd_emit ⟨Nat.le_of_ble_eq_true rfl, Nat.le_of_ble_eq_true rfl⟩) rfl hl.1 rfl (Nat.le_of_ble_eq_true rfl) dX12_step_175 ⟨Nat.le_of_ble_eq_true rfl, Nat.le_of_ble_eq_true rfl⟩ (fun H locs h => ?_)
    refine lv_goto (tgt := 292) C.1 C.2.1 dX12_step_178 (by decide) ?_
    exact lm_step_292 (N := N) C hr hlk  (lv_sub hl [2] rfl) h hm
  have hm := ite_f c11 hm
  by_cases c14 : (el σ 70 v2) = 3
  · refine x_topi (congrArg Int32.ofInt c14) ?_
    have hm := ite_t c14 hm
    refine lv_tableIn (tgt := 181) C.1 C.2.1 dX12_step_20 (by decide) (by decide) rfl (by decide) ?_
    refine lv_goto (tgt := 292) C.1 C.2.1 dX12_step_181 (by decide) ?_
    exact lm_step_292 (N := N) C hr hlk  (lv_sub hl [2] rfl) h hm
  have hm := ite_f c14 hm
  by_cases c15 : (el σ 70 v2) = 4
  · refine x_topi (congrArg Int32.ofInt c15) ?_
    have hm := ite_t c15 hm
    refine lv_tableIn (tgt := 184) C.1 C.2.1 dX12_step_20 (by decide) (by decide) rfl (by decide) ?_
    refine lv_aload_n C.1 C.2.1 dX12_step_184 rfl (lv_at hl 2 rfl) ?_
    refine lv_iload_n C.1 C.2.1 dX12_step_185 rfl (lv_at hl 3 rfl) ?_
    refine lv_iload_n C.1 C.2.1 dX12_step_186 rfl (lv_at hl 1 rfl) ?_
    refine lv_lload_n C.1 C.2.1 dX12_step_187 rfl (lv_at hl 0 rfl) ?_
    obtain ⟨r16, e17, hm⟩ := obd_s hm
    refine q_callVi C h (rc_sequence l D k g N σ x1 v2 v4 r16 e17) (cwV 3 C.2.2.1 (gR_sequence _) rfl rfl rfl hd_sequence ⟨Nat.le_of_ble_eq_true rfl, Nat.le_of_ble_eq_true rfl⟩) rfl hl.1 rfl (Nat.le_of_ble_eq_true rfl) dX12_step_188 ⟨Nat.le_of_ble_eq_true rfl, Nat.le_of_ble_eq_true rfl⟩ (fun H locs h => ?_)
    obtain ⟨g18, hm⟩ := grd_s hm
    refine z_if_eq (tgt := 292) C dX12_step_191 (by decide) g18 (fun c19 => ?_) (fun c19 => ?_)
    · have hm := ite_t c19 hm
      exact lm_step_292 (N := N) C hr hlk  (lv_sub hl [2] rfl) h hm
    · have hm := ite_f c19 hm
      cases hm
      exact q_vret C h hr hlk dX12_step_194
  have hm := ite_f c15 hm
  by_cases c20 : (el σ 70 v2) = 5
  · refine x_topi (congrArg Int32.ofInt c20) ?_
    have hm := ite_t c20 hm
    refine lv_tableIn (tgt := 195) C.1 C.2.1 dX12_step_20 (by decide) (by decide) rfl (by decide) ?_
    refine lv_aload_n C.1 C.2.1 dX12_step_195 rfl (lv_at hl 2 rfl) ?_
    refine lv_iload_n C.1 C.2.1 dX12_step_196 rfl (lv_at hl 3 rfl) ?_
    refine lv_iload_n C.1 C.2.1 dX12_step_197 rfl (lv_at hl 1 rfl) ?_
    refine lv_lload_n C.1 C.2.1 dX12_step_198 rfl (lv_at hl 0 rfl) ?_
    obtain ⟨r21, e22, hm⟩ := obd_s hm
    refine q_callVi C h (rc_together l D k g N σ x1 v2 v4 r21 e22) (cwV 3 C.2.2.1 (gR_together _) rfl rfl rfl hd_together ⟨Nat.le_of_ble_eq_true rfl, Nat.le_of_ble_eq_true rfl⟩) rfl hl.1 rfl (Nat.le_of_ble_eq_true rfl) dX12_step_199 ⟨Nat.le_of_ble_eq_true rfl, Nat.le_of_ble_eq_true rfl⟩ (fun H locs h => ?_)
    obtain ⟨g23, hm⟩ := grd_s hm
    refine z_if_eq (tgt := 292) C dX12_step_202 (by decide) g23 (fun c24 => ?_) (fun c24 => ?_)
    · have hm := ite_t c24 hm
      exact lm_step_292 (N := N) C hr hlk  (lv_sub hl [2] rfl) h hm
    · have hm := ite_f c24 hm
      cases hm
      exact q_vret C h hr hlk dX12_step_205
  have hm := ite_f c20 hm
  by_cases c25 : (el σ 70 v2) = 6
  · refine x_topi (congrArg Int32.ofInt c25) ?_
    have hm := ite_t c25 hm
    refine lv_tableIn (tgt := 206) C.1 C.2.1 dX12_step_20 (by decide) (by decide) rfl (by decide) ?_
    refine lv_aload_n C.1 C.2.1 dX12_step_206 rfl (lv_at hl 2 rfl) ?_
    refine lv_iload_n C.1 C.2.1 dX12_step_207 rfl (lv_at hl 3 rfl) ?_
    refine lv_iload_n C.1 C.2.1 dX12_step_208 rfl (lv_at hl 1 rfl) ?_
    refine lv_lload_n C.1 C.2.1 dX12_step_209 rfl (lv_at hl 0 rfl) ?_
    obtain ⟨r26, e27, hm⟩ := obd_s hm
    refine q_callVi C h (rc_turn l D k g N σ x1 v2 v4 r26 e27) (cwV 3 C.2.2.1 (gR_turn _) rfl rfl rfl hd_turn ⟨Nat.le_of_ble_eq_true rfl, Nat.le_of_ble_eq_true rfl⟩) rfl hl.1 rfl (Nat.le_of_ble_eq_true rfl) dX12_step_210 ⟨Nat.le_of_ble_eq_true rfl, Nat.le_of_ble_eq_true rfl⟩ (fun H locs h => ?_)
    obtain ⟨g28, hm⟩ := grd_s hm
    refine z_if_eq (tgt := 292) C dX12_step_213 (by decide) g28 (fun c29 => ?_) (fun c29 => ?_)
    · have hm := ite_t c29 hm
      exact lm_step_292 (N := N) C hr hlk  (lv_sub hl [2] rfl) h hm
    · have hm := ite_f c29 hm
      cases hm
      exact q_vret C h hr hlk dX12_step_216
  have hm := ite_f c25 hm
  by_cases c30 : (el σ 70 v2) = 7
  · refine x_topi (congrArg Int32.ofInt c30) ?_
    have hm := ite_t c30 hm
    refine lv_tableIn (tgt := 217) C.1 C.2.1 dX12_step_20 (by decide) (by decide) rfl (by decide) ?_
    refine lv_aload_n C.1 C.2.1 dX12_step_217 rfl (lv_at hl 2 rfl) ?_
    refine lv_iload_n C.1 C.2.1 dX12_step_218 rfl (lv_at hl 3 rfl) ?_
    refine lv_iload_n C.1 C.2.1 dX12_step_219 rfl (lv_at hl 1 rfl) ?_
    refine lv_lload_n C.1 C.2.1 dX12_step_220 rfl (lv_at hl 0 rfl) ?_
    obtain ⟨r31, e32, hm⟩ := obd_s hm
    refine q_callVi C h (rc_poly l D k g N σ x1 v2 v4 r31 e32) (cwV 3 C.2.2.1 (gR_poly _) rfl rfl rfl hd_poly ⟨Nat.le_of_ble_eq_true rfl, Nat.le_of_ble_eq_true rfl⟩) rfl hl.1 rfl (Nat.le_of_ble_eq_true rfl) dX12_step_221 ⟨Nat.le_of_ble_eq_true rfl, Nat.le_of_ble_eq_true rfl⟩ (fun H locs h => ?_)
    obtain ⟨g33, hm⟩ := grd_s hm
    refine z_if_eq (tgt := 292) C dX12_step_224 (by decide) g33 (fun c34 => ?_) (fun c34 => ?_)
    · have hm := ite_t c34 hm
      exact lm_step_292 (N := N) C hr hlk  (lv_sub hl [2] rfl) h hm
    · have hm := ite_f c34 hm
      cases hm
      exact q_vret C h hr hlk dX12_step_227
  have hm := ite_f c30 hm
  by_cases c35 : (el σ 70 v2) = 8
  · refine x_topi (congrArg Int32.ofInt c35) ?_
    have hm := ite_t c35 hm
    refine lv_tableIn (tgt := 228) C.1 C.2.1 dX12_step_20 (by decide) (by decide) rfl (by decide) ?_
    refine lv_aload_n C.1 C.2.1 dX12_step_228 rfl (lv_at hl 2 rfl) ?_
    refine fg_50 C h dX12_step_229 ?_
    refine lv_iload_n C.1 C.2.1 dX12_step_232 rfl (lv_at hl 1 rfl) ?_
    refine al_69 C h dX12_step_233 g6 ?_
    obtain ⟨g36, hm⟩ := grd_s hm
    refine z_if_le (tgt := 292) C dX12_step_234 (by decide) g36 (fun c37 => ?_) (fun c37 => ?_)
    · have hm := ite_f c37 hm
      exact lm_step_292 (N := N) C hr hlk  (lv_sub hl [2] rfl) h hm
    · have hm := ite_t c37 hm
      refine lv_aload_n C.1 C.2.1 dX12_step_237 rfl (lv_at hl 2 rfl) ?_
      refine lv_iload_n C.1 C.2.1 dX12_step_238 rfl (lv_at hl 3 rfl) ?_
      refine lv_iload_n C.1 C.2.1 dX12_step_239 rfl (lv_at hl 1 rfl) ?_
      refine lv_lload_n C.1 C.2.1 dX12_step_240 rfl (lv_at hl 0 rfl) ?_
      obtain ⟨r38, e39, hm⟩ := obd_s hm
      refine q_callVi C h (rc_spreads l D k g N σ x1 v2 v4 r38 e39) (cwV 3 C.2.2.1 (gR_spreads _) rfl rfl rfl hd_spreads ⟨Nat.le_of_ble_eq_true rfl, Nat.le_of_ble_eq_true rfl⟩) rfl hl.1 rfl (Nat.le_of_ble_eq_true rfl) dX12_step_241 ⟨Nat.le_of_ble_eq_true rfl, Nat.le_of_ble_eq_true rfl⟩ (fun H locs h => ?_)
      obtain ⟨g40, hm⟩ := grd_s hm
      refine z_if_eq (tgt := 292) C dX12_step_244 (by decide) g40 (fun c41 => ?_) (fun c41 => ?_)
      · have hm := ite_t c41 hm
        exact lm_step_292 (N := N) C hr hlk  (lv_sub hl [2] rfl) h hm
      · have hm := ite_f c41 hm
        cases hm
        exact q_vret C h hr hlk dX12_step_247
  have hm := ite_f c35 hm
  by_cases c42 : (el σ 70 v2) = 9
  · refine x_topi (congrArg Int32.ofInt c42) ?_
    have hm := ite_t c42 hm
    refine lv_tableIn (tgt := 248) C.1 C.2.1 dX12_step_20 (by decide) (by decide) rfl (by decide) ?_
    refine lv_aload_n C.1 C.2.1 dX12_step_248 rfl (lv_at hl 2 rfl) ?_
    refine lv_iload_n C.1 C.2.1 dX12_step_249 rfl (lv_at hl 3 rfl) ?_
    refine lv_iload_n C.1 C.2.1 dX12_step_250 rfl (lv_at hl 1 rfl) ?_
    refine lv_lload_n C.1 C.2.1 dX12_step_251 rfl (lv_at hl 0 rfl) ?_
    obtain ⟨r43, e44, hm⟩ := obd_s hm
    refine q_callVi C h (rc_rows l D k g N σ x1 v2 v4 r43 e44) (cwV 3 C.2.2.1 (gR_rows _) rfl rfl rfl hd_rows ⟨Nat.le_of_ble_eq_true rfl, Nat.le_of_ble_eq_true rfl⟩) rfl hl.1 rfl (Nat.le_of_ble_eq_true rfl) dX12_step_252 ⟨Nat.le_of_ble_eq_true rfl, Nat.le_of_ble_eq_true rfl⟩ (fun H locs h => ?_)
    obtain ⟨g45, hm⟩ := grd_s hm
    refine z_if_eq (tgt := 292) C dX12_step_255 (by decide) g45 (fun c46 => ?_) (fun c46 => ?_)
    · have hm := ite_t c46 hm
      exact lm_step_292 (N := N) C hr hlk  (lv_sub hl [2] rfl) h hm
    · have hm := ite_f c46 hm
      cases hm
      exact q_vret C h hr hlk dX12_step_258
  have hm := ite_f c42 hm
  by_cases c47 : (el σ 70 v2) = 10
  · refine x_topi (congrArg Int32.ofInt c47) ?_
    have hm := ite_t c47 hm
    refine lv_tableIn (tgt := 248) C.1 C.2.1 dX12_step_20 (by decide) (by decide) rfl (by decide) ?_
    refine lv_aload_n C.1 C.2.1 dX12_step_248 rfl (lv_at hl 2 rfl) ?_
    refine lv_iload_n C.1 C.2.1 dX12_step_249 rfl (lv_at hl 3 rfl) ?_
    refine lv_iload_n C.1 C.2.1 dX12_step_250 rfl (lv_at hl 1 rfl) ?_
    refine lv_lload_n C.1 C.2.1 dX12_step_251 rfl (lv_at hl 0 rfl) ?_
    obtain ⟨r48, e49, hm⟩ := obd_s hm
    refine q_callVi C h (rc_rows l D k g N σ x1 v2 v4 r48 e49) (cwV 3 C.2.2.1 (gR_rows _) rfl rfl rfl hd_rows ⟨Nat.le_of_ble_eq_true rfl, Nat.le_of_ble_eq_true rfl⟩) rfl hl.1 rfl (Nat.le_of_ble_eq_true rfl) dX12_step_252 ⟨Nat.le_of_ble_eq_true rfl, Nat.le_of_ble_eq_true rfl⟩ (fun H locs h => ?_)
    obtain ⟨g50, hm⟩ := grd_s hm
    refine z_if_eq (tgt := 292) C dX12_step_255 (by decide) g50 (fun c51 => ?_) (fun c51 => ?_)
    · have hm := ite_t c51 hm
      exact lm_step_292 (N := N) C hr hlk  (lv_sub hl [2] rfl) h hm
    · have hm := ite_f c51 hm
      cases hm
      exact q_vret C h hr hlk dX12_step_258
  have hm := ite_f c47 hm
  by_cases c52 : (el σ 70 v2) = 11
  · refine x_topi (congrArg Int32.ofInt c52) ?_
    have hm := ite_t c52 hm
    refine lv_tableIn (tgt := 248) C.1 C.2.1 dX12_step_20 (by decide) (by decide) rfl (by decide) ?_
    refine lv_aload_n C.1 C.2.1 dX12_step_248 rfl (lv_at hl 2 rfl) ?_
    refine lv_iload_n C.1 C.2.1 dX12_step_249 rfl (lv_at hl 3 rfl) ?_
    refine lv_iload_n C.1 C.2.1 dX12_step_250 rfl (lv_at hl 1 rfl) ?_
    refine lv_lload_n C.1 C.2.1 dX12_step_251 rfl (lv_at hl 0 rfl) ?_
    obtain ⟨r53, e54, hm⟩ := obd_s hm
    refine q_callVi C h (rc_rows l D k g N σ x1 v2 v4 r53 e54) (cwV 3 C.2.2.1 (gR_rows _) rfl rfl rfl hd_rows ⟨Nat.le_of_ble_eq_true rfl, Nat.le_of_ble_eq_true rfl⟩) rfl hl.1 rfl (Nat.le_of_ble_eq_true rfl) dX12_step_252 ⟨Nat.le_of_ble_eq_true rfl, Nat.le_of_ble_eq_true rfl⟩ (fun H locs h => ?_)
    obtain ⟨g55, hm⟩ := grd_s hm
    refine z_if_eq (tgt := 292) C dX12_step_255 (by decide) g55 (fun c56 => ?_) (fun c56 => ?_)
    · have hm := ite_t c56 hm
      exact lm_step_292 (N := N) C hr hlk  (lv_sub hl [2] rfl) h hm
    · have hm := ite_f c56 hm
      cases hm
      exact q_vret C h hr hlk dX12_step_258
  have hm := ite_f c52 hm
  by_cases c57 : (el σ 70 v2) = 12
  · refine x_topi (congrArg Int32.ofInt c57) ?_
    have hm := ite_t c57 hm
    refine lv_tableIn (tgt := 281) C.1 C.2.1 dX12_step_20 (by decide) (by decide) rfl (by decide) ?_
    refine lv_aload_n C.1 C.2.1 dX12_step_281 rfl (lv_at hl 2 rfl) ?_
    refine lv_iload_n C.1 C.2.1 dX12_step_282 rfl (lv_at hl 3 rfl) ?_
    refine lv_iload_n C.1 C.2.1 dX12_step_283 rfl (lv_at hl 1 rfl) ?_
    refine lv_lload_n C.1 C.2.1 dX12_step_284 rfl (lv_at hl 0 rfl) ?_
    obtain ⟨r58, e59, hm⟩ := obd_s hm
    refine q_callVi C h (rc_single l D k g N σ x1 v2 v4 r58 e59) (cwV 3 C.2.2.1 (gR_single _) rfl rfl rfl hd_single ⟨Nat.le_of_ble_eq_true rfl, Nat.le_of_ble_eq_true rfl⟩) rfl hl.1 rfl (Nat.le_of_ble_eq_true rfl) dX12_step_285 ⟨Nat.le_of_ble_eq_true rfl, Nat.le_of_ble_eq_true rfl⟩ (fun H locs h => ?_)
    obtain ⟨g60, hm⟩ := grd_s hm
    refine z_if_eq (tgt := 292) C dX12_step_288 (by decide) g60 (fun c61 => ?_) (fun c61 => ?_)
    · have hm := ite_t c61 hm
      exact lm_step_292 (N := N) C hr hlk  (lv_sub hl [2] rfl) h hm
    · have hm := ite_f c61 hm
      cases hm
      exact q_vret C h hr hlk dX12_step_291
  have hm := ite_f c57 hm
  by_cases c62 : (el σ 70 v2) = 13
  · refine x_topi (congrArg Int32.ofInt c62) ?_
    have hm := ite_t c62 hm
    refine lv_tableIn (tgt := 281) C.1 C.2.1 dX12_step_20 (by decide) (by decide) rfl (by decide) ?_
    refine lv_aload_n C.1 C.2.1 dX12_step_281 rfl (lv_at hl 2 rfl) ?_
    refine lv_iload_n C.1 C.2.1 dX12_step_282 rfl (lv_at hl 3 rfl) ?_
    refine lv_iload_n C.1 C.2.1 dX12_step_283 rfl (lv_at hl 1 rfl) ?_
    refine lv_lload_n C.1 C.2.1 dX12_step_284 rfl (lv_at hl 0 rfl) ?_
    obtain ⟨r63, e64, hm⟩ := obd_s hm
    refine q_callVi C h (rc_single l D k g N σ x1 v2 v4 r63 e64) (cwV 3 C.2.2.1 (gR_single _) rfl rfl rfl hd_single ⟨Nat.le_of_ble_eq_true rfl, Nat.le_of_ble_eq_true rfl⟩) rfl hl.1 rfl (Nat.le_of_ble_eq_true rfl) dX12_step_285 ⟨Nat.le_of_ble_eq_true rfl, Nat.le_of_ble_eq_true rfl⟩ (fun H locs h => ?_)
    obtain ⟨g65, hm⟩ := grd_s hm
    refine z_if_eq (tgt := 292) C dX12_step_288 (by decide) g65 (fun c66 => ?_) (fun c66 => ?_)
    · have hm := ite_t c66 hm
      exact lm_step_292 (N := N) C hr hlk  (lv_sub hl [2] rfl) h hm
    · have hm := ite_f c66 hm
      cases hm
      exact q_vret C h hr hlk dX12_step_291
  have hm := ite_f c62 hm
  by_cases c67 : (el σ 70 v2) = 14
  · refine x_topi (congrArg Int32.ofInt c67) ?_
    have hm := ite_t c67 hm
    refine lv_tableIn (tgt := 281) C.1 C.2.1 dX12_step_20 (by decide) (by decide) rfl (by decide) ?_
    refine lv_aload_n C.1 C.2.1 dX12_step_281 rfl (lv_at hl 2 rfl) ?_
    refine lv_iload_n C.1 C.2.1 dX12_step_282 rfl (lv_at hl 3 rfl) ?_
    refine lv_iload_n C.1 C.2.1 dX12_step_283 rfl (lv_at hl 1 rfl) ?_
    refine lv_lload_n C.1 C.2.1 dX12_step_284 rfl (lv_at hl 0 rfl) ?_
    obtain ⟨r68, e69, hm⟩ := obd_s hm
    refine q_callVi C h (rc_single l D k g N σ x1 v2 v4 r68 e69) (cwV 3 C.2.2.1 (gR_single _) rfl rfl rfl hd_single ⟨Nat.le_of_ble_eq_true rfl, Nat.le_of_ble_eq_true rfl⟩) rfl hl.1 rfl (Nat.le_of_ble_eq_true rfl) dX12_step_285 ⟨Nat.le_of_ble_eq_true rfl, Nat.le_of_ble_eq_true rfl⟩ (fun H locs h => ?_)
    obtain ⟨g70, hm⟩ := grd_s hm
    refine z_if_eq (tgt := 292) C dX12_step_288 (by decide) g70 (fun c71 => ?_) (fun c71 => ?_)
    · have hm := ite_t c71 hm
      exact lm_step_292 (N := N) C hr hlk  (lv_sub hl [2] rfl) h hm
    · have hm := ite_f c71 hm
      cases hm
      exact q_vret C h hr hlk dX12_step_291
  have hm := ite_f c67 hm
  by_cases c72 : (el σ 70 v2) = 15
  · refine x_topi (congrArg Int32.ofInt c72) ?_
    have hm := ite_t c72 hm
    refine lv_tableIn (tgt := 259) C.1 C.2.1 dX12_step_20 (by decide) (by decide) rfl (by decide) ?_
    refine lv_aload_n C.1 C.2.1 dX12_step_259 rfl (lv_at hl 2 rfl) ?_
    refine lv_iload_n C.1 C.2.1 dX12_step_260 rfl (lv_at hl 3 rfl) ?_
    refine lv_iload_n C.1 C.2.1 dX12_step_261 rfl (lv_at hl 1 rfl) ?_
    refine lv_lload_n C.1 C.2.1 dX12_step_262 rfl (lv_at hl 0 rfl) ?_
    obtain ⟨r73, e74, hm⟩ := obd_s hm
    refine q_callVi C h (rc_windows l D k g N σ x1 v2 v4 r73 e74) (cwV 3 C.2.2.1 (gR_windows _) rfl rfl rfl hd_windows ⟨Nat.le_of_ble_eq_true rfl, Nat.le_of_ble_eq_true rfl⟩) rfl hl.1 rfl (Nat.le_of_ble_eq_true rfl) dX12_step_263 ⟨Nat.le_of_ble_eq_true rfl, Nat.le_of_ble_eq_true rfl⟩ (fun H locs h => ?_)
    obtain ⟨g75, hm⟩ := grd_s hm
    refine z_if_eq (tgt := 292) C dX12_step_266 (by decide) g75 (fun c76 => ?_) (fun c76 => ?_)
    · have hm := ite_t c76 hm
      exact lm_step_292 (N := N) C hr hlk  (lv_sub hl [2] rfl) h hm
    · have hm := ite_f c76 hm
      cases hm
      exact q_vret C h hr hlk dX12_step_269
  have hm := ite_f c72 hm
  by_cases c77 : (el σ 70 v2) = 16
  · refine x_topi (congrArg Int32.ofInt c77) ?_
    have hm := ite_t c77 hm
    refine lv_tableIn (tgt := 259) C.1 C.2.1 dX12_step_20 (by decide) (by decide) rfl (by decide) ?_
    refine lv_aload_n C.1 C.2.1 dX12_step_259 rfl (lv_at hl 2 rfl) ?_
    refine lv_iload_n C.1 C.2.1 dX12_step_260 rfl (lv_at hl 3 rfl) ?_
    refine lv_iload_n C.1 C.2.1 dX12_step_261 rfl (lv_at hl 1 rfl) ?_
    refine lv_lload_n C.1 C.2.1 dX12_step_262 rfl (lv_at hl 0 rfl) ?_
    obtain ⟨r78, e79, hm⟩ := obd_s hm
    refine q_callVi C h (rc_windows l D k g N σ x1 v2 v4 r78 e79) (cwV 3 C.2.2.1 (gR_windows _) rfl rfl rfl hd_windows ⟨Nat.le_of_ble_eq_true rfl, Nat.le_of_ble_eq_true rfl⟩) rfl hl.1 rfl (Nat.le_of_ble_eq_true rfl) dX12_step_263 ⟨Nat.le_of_ble_eq_true rfl, Nat.le_of_ble_eq_true rfl⟩ (fun H locs h => ?_)
    obtain ⟨g80, hm⟩ := grd_s hm
    refine z_if_eq (tgt := 292) C dX12_step_266 (by decide) g80 (fun c81 => ?_) (fun c81 => ?_)
    · have hm := ite_t c81 hm
      exact lm_step_292 (N := N) C hr hlk  (lv_sub hl [2] rfl) h hm
    · have hm := ite_f c81 hm
      cases hm
      exact q_vret C h hr hlk dX12_step_269
  have hm := ite_f c77 hm
  by_cases c82 : (el σ 70 v2) = 17
  · refine x_topi (congrArg Int32.ofInt c82) ?_
    have hm := ite_t c82 hm
    refine lv_tableIn (tgt := 248) C.1 C.2.1 dX12_step_20 (by decide) (by decide) rfl (by decide) ?_
    refine lv_aload_n C.1 C.2.1 dX12_step_248 rfl (lv_at hl 2 rfl) ?_
    refine lv_iload_n C.1 C.2.1 dX12_step_249 rfl (lv_at hl 3 rfl) ?_
    refine lv_iload_n C.1 C.2.1 dX12_step_250 rfl (lv_at hl 1 rfl) ?_
    refine lv_lload_n C.1 C.2.1 dX12_step_251 rfl (lv_at hl 0 rfl) ?_
    obtain ⟨r83, e84, hm⟩ := obd_s hm
    refine q_callVi C h (rc_rows l D k g N σ x1 v2 v4 r83 e84) (cwV 3 C.2.2.1 (gR_rows _) rfl rfl rfl hd_rows ⟨Nat.le_of_ble_eq_true rfl, Nat.le_of_ble_eq_true rfl⟩) rfl hl.1 rfl (Nat.le_of_ble_eq_true rfl) dX12_step_252 ⟨Nat.le_of_ble_eq_true rfl, Nat.le_of_ble_eq_true rfl⟩ (fun H locs h => ?_)
    obtain ⟨g85, hm⟩ := grd_s hm
    refine z_if_eq (tgt := 292) C dX12_step_255 (by decide) g85 (fun c86 => ?_) (fun c86 => ?_)
    · have hm := ite_t c86 hm
      exact lm_step_292 (N := N) C hr hlk  (lv_sub hl [2] rfl) h hm
    · have hm := ite_f c86 hm
      cases hm
      exact q_vret C h hr hlk dX12_step_258
  have hm := ite_f c82 hm
  by_cases c87 : (el σ 70 v2) = 18
  · refine x_topi (congrArg Int32.ofInt c87) ?_
    have hm := ite_t c87 hm
    refine lv_tableIn (tgt := 248) C.1 C.2.1 dX12_step_20 (by decide) (by decide) rfl (by decide) ?_
    refine lv_aload_n C.1 C.2.1 dX12_step_248 rfl (lv_at hl 2 rfl) ?_
    refine lv_iload_n C.1 C.2.1 dX12_step_249 rfl (lv_at hl 3 rfl) ?_
    refine lv_iload_n C.1 C.2.1 dX12_step_250 rfl (lv_at hl 1 rfl) ?_
    refine lv_lload_n C.1 C.2.1 dX12_step_251 rfl (lv_at hl 0 rfl) ?_
    obtain ⟨r88, e89, hm⟩ := obd_s hm
    refine q_callVi C h (rc_rows l D k g N σ x1 v2 v4 r88 e89) (cwV 3 C.2.2.1 (gR_rows _) rfl rfl rfl hd_rows ⟨Nat.le_of_ble_eq_true rfl, Nat.le_of_ble_eq_true rfl⟩) rfl hl.1 rfl (Nat.le_of_ble_eq_true rfl) dX12_step_252 ⟨Nat.le_of_ble_eq_true rfl, Nat.le_of_ble_eq_true rfl⟩ (fun H locs h => ?_)
    obtain ⟨g90, hm⟩ := grd_s hm
    refine z_if_eq (tgt := 292) C dX12_step_255 (by decide) g90 (fun c91 => ?_) (fun c91 => ?_)
    · have hm := ite_t c91 hm
      exact lm_step_292 (N := N) C hr hlk  (lv_sub hl [2] rfl) h hm
    · have hm := ite_f c91 hm
      cases hm
      exact q_vret C h hr hlk dX12_step_258
  have hm := ite_f c87 hm
  by_cases c92 : (el σ 70 v2) = 19
  · refine x_topi (congrArg Int32.ofInt c92) ?_
    have hm := ite_t c92 hm
    refine lv_tableIn (tgt := 281) C.1 C.2.1 dX12_step_20 (by decide) (by decide) rfl (by decide) ?_
    refine lv_aload_n C.1 C.2.1 dX12_step_281 rfl (lv_at hl 2 rfl) ?_
    refine lv_iload_n C.1 C.2.1 dX12_step_282 rfl (lv_at hl 3 rfl) ?_
    refine lv_iload_n C.1 C.2.1 dX12_step_283 rfl (lv_at hl 1 rfl) ?_
    refine lv_lload_n C.1 C.2.1 dX12_step_284 rfl (lv_at hl 0 rfl) ?_
    obtain ⟨r93, e94, hm⟩ := obd_s hm
    refine q_callVi C h (rc_single l D k g N σ x1 v2 v4 r93 e94) (cwV 3 C.2.2.1 (gR_single _) rfl rfl rfl hd_single ⟨Nat.le_of_ble_eq_true rfl, Nat.le_of_ble_eq_true rfl⟩) rfl hl.1 rfl (Nat.le_of_ble_eq_true rfl) dX12_step_285 ⟨Nat.le_of_ble_eq_true rfl, Nat.le_of_ble_eq_true rfl⟩ (fun H locs h => ?_)
    obtain ⟨g95, hm⟩ := grd_s hm
    refine z_if_eq (tgt := 292) C dX12_step_288 (by decide) g95 (fun c96 => ?_) (fun c96 => ?_)
    · have hm := ite_t c96 hm
      exact lm_step_292 (N := N) C hr hlk  (lv_sub hl [2] rfl) h hm
    · have hm := ite_f c96 hm
      cases hm
      exact q_vret C h hr hlk dX12_step_291
  have hm := ite_f c92 hm
  by_cases c97 : (el σ 70 v2) = 20
  · refine x_topi (congrArg Int32.ofInt c97) ?_
    have hm := ite_t c97 hm
    refine lv_tableIn (tgt := 281) C.1 C.2.1 dX12_step_20 (by decide) (by decide) rfl (by decide) ?_
    refine lv_aload_n C.1 C.2.1 dX12_step_281 rfl (lv_at hl 2 rfl) ?_
    refine lv_iload_n C.1 C.2.1 dX12_step_282 rfl (lv_at hl 3 rfl) ?_
    refine lv_iload_n C.1 C.2.1 dX12_step_283 rfl (lv_at hl 1 rfl) ?_
    refine lv_lload_n C.1 C.2.1 dX12_step_284 rfl (lv_at hl 0 rfl) ?_
    obtain ⟨r98, e99, hm⟩ := obd_s hm
    refine q_callVi C h (rc_single l D k g N σ x1 v2 v4 r98 e99) (cwV 3 C.2.2.1 (gR_single _) rfl rfl rfl hd_single ⟨Nat.le_of_ble_eq_true rfl, Nat.le_of_ble_eq_true rfl⟩) rfl hl.1 rfl (Nat.le_of_ble_eq_true rfl) dX12_step_285 ⟨Nat.le_of_ble_eq_true rfl, Nat.le_of_ble_eq_true rfl⟩ (fun H locs h => ?_)
    obtain ⟨g100, hm⟩ := grd_s hm
    refine z_if_eq (tgt := 292) C dX12_step_288 (by decide) g100 (fun c101 => ?_) (fun c101 => ?_)
    · have hm := ite_t c101 hm
      exact lm_step_292 (N := N) C hr hlk  (lv_sub hl [2] rfl) h hm
    · have hm := ite_f c101 hm
      cases hm
      exact q_vret C h hr hlk dX12_step_291
  have hm := ite_f c97 hm
  by_cases c102 : (el σ 70 v2) = 21
  · refine x_topi (congrArg Int32.ofInt c102) ?_
    have hm := ite_t c102 hm
    refine lv_tableIn (tgt := 281) C.1 C.2.1 dX12_step_20 (by decide) (by decide) rfl (by decide) ?_
    refine lv_aload_n C.1 C.2.1 dX12_step_281 rfl (lv_at hl 2 rfl) ?_
    refine lv_iload_n C.1 C.2.1 dX12_step_282 rfl (lv_at hl 3 rfl) ?_
    refine lv_iload_n C.1 C.2.1 dX12_step_283 rfl (lv_at hl 1 rfl) ?_
    refine lv_lload_n C.1 C.2.1 dX12_step_284 rfl (lv_at hl 0 rfl) ?_
    obtain ⟨r103, e104, hm⟩ := obd_s hm
    refine q_callVi C h (rc_single l D k g N σ x1 v2 v4 r103 e104) (cwV 3 C.2.2.1 (gR_single _) rfl rfl rfl hd_single ⟨Nat.le_of_ble_eq_true rfl, Nat.le_of_ble_eq_true rfl⟩) rfl hl.1 rfl (Nat.le_of_ble_eq_true rfl) dX12_step_285 ⟨Nat.le_of_ble_eq_true rfl, Nat.le_of_ble_eq_true rfl⟩ (fun H locs h => ?_)
    obtain ⟨g105, hm⟩ := grd_s hm
    refine z_if_eq (tgt := 292) C dX12_step_288 (by decide) g105 (fun c106 => ?_) (fun c106 => ?_)
    · have hm := ite_t c106 hm
      exact lm_step_292 (N := N) C hr hlk  (lv_sub hl [2] rfl) h hm
    · have hm := ite_f c106 hm
      cases hm
      exact q_vret C h hr hlk dX12_step_291
  have hm := ite_f c102 hm
  by_cases c107 : (el σ 70 v2) = 22
  · refine x_topi (congrArg Int32.ofInt c107) ?_
    have hm := ite_t c107 hm
    refine lv_tableIn (tgt := 281) C.1 C.2.1 dX12_step_20 (by decide) (by decide) rfl (by decide) ?_
    refine lv_aload_n C.1 C.2.1 dX12_step_281 rfl (lv_at hl 2 rfl) ?_
    refine lv_iload_n C.1 C.2.1 dX12_step_282 rfl (lv_at hl 3 rfl) ?_
    refine lv_iload_n C.1 C.2.1 dX12_step_283 rfl (lv_at hl 1 rfl) ?_
    refine lv_lload_n C.1 C.2.1 dX12_step_284 rfl (lv_at hl 0 rfl) ?_
    obtain ⟨r108, e109, hm⟩ := obd_s hm
    refine q_callVi C h (rc_single l D k g N σ x1 v2 v4 r108 e109) (cwV 3 C.2.2.1 (gR_single _) rfl rfl rfl hd_single ⟨Nat.le_of_ble_eq_true rfl, Nat.le_of_ble_eq_true rfl⟩) rfl hl.1 rfl (Nat.le_of_ble_eq_true rfl) dX12_step_285 ⟨Nat.le_of_ble_eq_true rfl, Nat.le_of_ble_eq_true rfl⟩ (fun H locs h => ?_)
    obtain ⟨g110, hm⟩ := grd_s hm
    refine z_if_eq (tgt := 292) C dX12_step_288 (by decide) g110 (fun c111 => ?_) (fun c111 => ?_)
    · have hm := ite_t c111 hm
      exact lm_step_292 (N := N) C hr hlk  (lv_sub hl [2] rfl) h hm
    · have hm := ite_f c111 hm
      cases hm
      exact q_vret C h hr hlk dX12_step_291
  have hm := ite_f c107 hm
  by_cases c112 : (el σ 70 v2) = 23
  · refine x_topi (congrArg Int32.ofInt c112) ?_
    have hm := ite_t c112 hm
    refine lv_tableIn (tgt := 270) C.1 C.2.1 dX12_step_20 (by decide) (by decide) rfl (by decide) ?_
    refine lv_aload_n C.1 C.2.1 dX12_step_270 rfl (lv_at hl 2 rfl) ?_
    refine lv_iload_n C.1 C.2.1 dX12_step_271 rfl (lv_at hl 3 rfl) ?_
    refine lv_iload_n C.1 C.2.1 dX12_step_272 rfl (lv_at hl 1 rfl) ?_
    refine lv_lload_n C.1 C.2.1 dX12_step_273 rfl (lv_at hl 0 rfl) ?_
    obtain ⟨r113, e114, hm⟩ := obd_s hm
    refine q_callVi C h (rc_sounds l D k g N σ x1 v2 v4 r113 e114) (cwV 3 C.2.2.1 (gR_sounds _) rfl rfl rfl hd_sounds ⟨Nat.le_of_ble_eq_true rfl, Nat.le_of_ble_eq_true rfl⟩) rfl hl.1 rfl (Nat.le_of_ble_eq_true rfl) dX12_step_274 ⟨Nat.le_of_ble_eq_true rfl, Nat.le_of_ble_eq_true rfl⟩ (fun H locs h => ?_)
    obtain ⟨g115, hm⟩ := grd_s hm
    refine z_if_eq (tgt := 292) C dX12_step_277 (by decide) g115 (fun c116 => ?_) (fun c116 => ?_)
    · have hm := ite_t c116 hm
      exact lm_step_292 (N := N) C hr hlk  (lv_sub hl [2] rfl) h hm
    · have hm := ite_f c116 hm
      cases hm
      exact q_vret C h hr hlk dX12_step_280
  have hm := ite_f c112 hm
  by_cases c117 : (el σ 70 v2) = 24
  · refine x_topi (congrArg Int32.ofInt c117) ?_
    have hm := ite_t c117 hm
    refine lv_tableIn (tgt := 270) C.1 C.2.1 dX12_step_20 (by decide) (by decide) rfl (by decide) ?_
    refine lv_aload_n C.1 C.2.1 dX12_step_270 rfl (lv_at hl 2 rfl) ?_
    refine lv_iload_n C.1 C.2.1 dX12_step_271 rfl (lv_at hl 3 rfl) ?_
    refine lv_iload_n C.1 C.2.1 dX12_step_272 rfl (lv_at hl 1 rfl) ?_
    refine lv_lload_n C.1 C.2.1 dX12_step_273 rfl (lv_at hl 0 rfl) ?_
    obtain ⟨r118, e119, hm⟩ := obd_s hm
    refine q_callVi C h (rc_sounds l D k g N σ x1 v2 v4 r118 e119) (cwV 3 C.2.2.1 (gR_sounds _) rfl rfl rfl hd_sounds ⟨Nat.le_of_ble_eq_true rfl, Nat.le_of_ble_eq_true rfl⟩) rfl hl.1 rfl (Nat.le_of_ble_eq_true rfl) dX12_step_274 ⟨Nat.le_of_ble_eq_true rfl, Nat.le_of_ble_eq_true rfl⟩ (fun H locs h => ?_)
    obtain ⟨g120, hm⟩ := grd_s hm
    refine z_if_eq (tgt := 292) C dX12_step_277 (by decide) g120 (fun c121 => ?_) (fun c121 => ?_)
    · have hm := ite_t c121 hm
      exact lm_step_292 (N := N) C hr hlk  (lv_sub hl [2] rfl) h hm
    · have hm := ite_f c121 hm
      cases hm
      exact q_vret C h hr hlk dX12_step_280
  have hm := ite_f c117 hm
  by_cases c122 : (el σ 70 v2) = 25
  · refine x_topi (congrArg Int32.ofInt c122) ?_
    have hm := ite_t c122 hm
    refine lv_tableIn (tgt := 270) C.1 C.2.1 dX12_step_20 (by decide) (by decide) rfl (by decide) ?_
    refine lv_aload_n C.1 C.2.1 dX12_step_270 rfl (lv_at hl 2 rfl) ?_
    refine lv_iload_n C.1 C.2.1 dX12_step_271 rfl (lv_at hl 3 rfl) ?_
    refine lv_iload_n C.1 C.2.1 dX12_step_272 rfl (lv_at hl 1 rfl) ?_
    refine lv_lload_n C.1 C.2.1 dX12_step_273 rfl (lv_at hl 0 rfl) ?_
    obtain ⟨r123, e124, hm⟩ := obd_s hm
    refine q_callVi C h (rc_sounds l D k g N σ x1 v2 v4 r123 e124) (cwV 3 C.2.2.1 (gR_sounds _) rfl rfl rfl hd_sounds ⟨Nat.le_of_ble_eq_true rfl, Nat.le_of_ble_eq_true rfl⟩) rfl hl.1 rfl (Nat.le_of_ble_eq_true rfl) dX12_step_274 ⟨Nat.le_of_ble_eq_true rfl, Nat.le_of_ble_eq_true rfl⟩ (fun H locs h => ?_)
    obtain ⟨g125, hm⟩ := grd_s hm
    refine z_if_eq (tgt := 292) C dX12_step_277 (by decide) g125 (fun c126 => ?_) (fun c126 => ?_)
    · have hm := ite_t c126 hm
      exact lm_step_292 (N := N) C hr hlk  (lv_sub hl [2] rfl) h hm
    · have hm := ite_f c126 hm
      cases hm
      exact q_vret C h hr hlk dX12_step_280
  have hm := ite_f c122 hm
  refine lv_tableOut (tgt := 281) C.1 C.2.1 dX12_step_20 (by rw [c32_ti g7]; omega) (by decide) ?_
  refine lv_aload_n C.1 C.2.1 dX12_step_281 rfl (lv_at hl 2 rfl) ?_
  refine lv_iload_n C.1 C.2.1 dX12_step_282 rfl (lv_at hl 3 rfl) ?_
  refine lv_iload_n C.1 C.2.1 dX12_step_283 rfl (lv_at hl 1 rfl) ?_
  refine lv_lload_n C.1 C.2.1 dX12_step_284 rfl (lv_at hl 0 rfl) ?_
  obtain ⟨r127, e128, hm⟩ := obd_s hm
  refine q_callVi C h (rc_single l D k g N σ x1 v2 v4 r127 e128) (cwV 3 C.2.2.1 (gR_single _) rfl rfl rfl hd_single ⟨Nat.le_of_ble_eq_true rfl, Nat.le_of_ble_eq_true rfl⟩) rfl hl.1 rfl (Nat.le_of_ble_eq_true rfl) dX12_step_285 ⟨Nat.le_of_ble_eq_true rfl, Nat.le_of_ble_eq_true rfl⟩ (fun H locs h => ?_)
  obtain ⟨g129, hm⟩ := grd_s hm
  refine z_if_eq (tgt := 292) C dX12_step_288 (by decide) g129 (fun c130 => ?_) (fun c130 => ?_)
  · have hm := ite_t c130 hm
    exact lm_step_292 (N := N) C hr hlk  (lv_sub hl [2] rfl) h hm
  · have hm := ite_f c130 hm
    cases hm
    exact q_vret C h hr hlk dX12_step_291
end L_step
section L_rowOf
variable {p : Program} {l : Launch} {e : Env} {s : State} {m : MethodId} {args : Array Value} {below : List Frame} {meth : Method} {c : Code} {D : va_G} {A : Nat → Prop} {k : Nat → ClassId} {g : Nat → Nat} {N : Nat} {cd : Cond}
set_option maxHeartbeats 4000000 in
set_option maxRecDepth 100000 in
theorem lm_rowOf_16 {r : St} (C : Cx p s m args c cX12_rowOf RX12 (cd :: rW) D (TYs k) 4) (hr : meth.sig.returnType = none) (hlk : meth.locks = false)  (n : Nat) : ∀ {ls : Array Slot} {H : Heap} {locs : List Loc} {σ : St} , lv_has ls 4 [(0, .ref (g 0))] → Hp D A s.heap H locs (mW k g σ) → r_rowOf_16 N  n σ  = some r → W p l e { frames := 5, cells := 0, slots := 0, locals := 130 } s m args below meth c H locs 0 0 (MQ below (va_Qv (fun (_ : Unit) => True) (fun _ t => PostW D (TYs k) A (mW k g r) t) A) args s 0 0 A) (F0 m 16 ls []) := by
  induction n with
  | zero => intro ls H locs σ hl h hm; cases (show none = some r from hm)
  | succ n hrec16 =>
    intro ls H locs σ hl h hm
    rw [r_rowOf_16] at hm
    refine lv_aload_n C.1 C.2.1 dX12_rowOf_16 rfl (lv_at hl 0 rfl) ?_
    refine fg_96 C h dX12_rowOf_17 ?_
    obtain ⟨g5, hm⟩ := grd_s hm
    refine z_if_le (tgt := 36) C dX12_rowOf_20 (by decide) g5 (fun c6 => ?_) (fun c6 => ?_)
    · have hm := ite_f c6 hm
      cases hm
      exact q_vret C h hr hlk dX12_rowOf_36
    · have hm := ite_t c6 hm
      refine lv_aload_n C.1 C.2.1 dX12_rowOf_23 rfl (lv_at hl 0 rfl) ?_
      refine lv_aload_n C.1 C.2.1 dX12_rowOf_24 rfl (lv_at hl 0 rfl) ?_
      refine fg_96 C h dX12_rowOf_25 ?_
      refine lv_iconst (v := Int32.ofInt 1) C.1 C.2.1 dX12_rowOf_28 (by decide) ?_
      refine z_isub C dX12_rowOf_29 ?_
      obtain ⟨r7, e8, hm⟩ := obd_s hm
      refine q_callVv C h (rc_step l D k g N σ ((fl σ 96 0) - 1) r7 e8) (cwV 1 C.2.2.1 (gR_step _) rfl rfl rfl hd_step ⟨Nat.le_of_ble_eq_true rfl, Nat.le_of_ble_eq_true rfl⟩) rfl hl.1 rfl (Nat.le_of_ble_eq_true rfl) dX12_rowOf_30 ⟨Nat.le_of_ble_eq_true rfl, Nat.le_of_ble_eq_true rfl⟩ (fun H locs h => ?_)
      refine lv_goto (tgt := 16) C.1 C.2.1 dX12_rowOf_33 (by decide) ?_
      exact hrec16 (lv_sub hl [0] rfl) h hm
set_option maxHeartbeats 4000000 in
set_option maxRecDepth 100000 in
theorem rc_rowOf (l : Launch) (D : va_G) (k : Nat → ClassId) (g : Nat → Nat) (N : Nat) (σ : St) (x1 : Int) (x2 : Int) (r : St) (hm : r_rowOf N σ x1 x2 = some r) : Mv l yX12_rowOf (.code yX12_rowOf cX12_rowOf 4 none :: rW) { frames := 5, cells := 0, slots := 0, locals := 130 } [.ref (g 0), .int (Int32.ofInt x1), .long (Int64.ofInt x2)] D (TYs k) (mW k g σ) (fun _ => True) Unit (fun _ => True) (fun _ => mW k g r) 0 0 := by
  intro sz
  refine x_met (cc := cX12_rowOf) (maxL := 4) (ret := none) (by decide) rfl (Nat.le_of_ble_eq_true rfl) ?_
  intro p e s m below meth c ls C hX hsz hr hlk hmn hl h
  have hl : lv_has ls 4 [(0, .ref (g 0)), (1, .int (Int32.ofInt x1)), (2, .long (Int64.ofInt x2))] := hl
  rw [r_rowOf] at hm
  refine lv_aload_n C.1 C.2.1 dX12_rowOf_0 rfl (lv_at hl 0 rfl) ?_
  refine lv_iconst (v := Int32.ofInt 0) C.1 C.2.1 dX12_rowOf_1 (by decide) ?_
  refine fp_84 C h dX12_rowOf_2 (fun H locs h => ?_)
  refine lv_aload_n C.1 C.2.1 dX12_rowOf_5 rfl (lv_at hl 0 rfl) ?_
  refine lv_iconst (v := Int32.ofInt 0) C.1 C.2.1 dX12_rowOf_6 (by decide) ?_
  refine fp_96 C h dX12_rowOf_7 (fun H locs h => ?_)
  refine lv_aload_n C.1 C.2.1 dX12_rowOf_10 rfl (lv_at hl 0 rfl) ?_
  refine lv_iload_n C.1 C.2.1 dX12_rowOf_11 rfl (lv_at hl 1 rfl) ?_
  refine lv_lload_n C.1 C.2.1 dX12_rowOf_12 rfl (lv_at hl 2 rfl) ?_
  obtain ⟨σ1, e2, hm⟩ := bnd_s hm
  rw [e2] at h
  obtain ⟨r3, e4, hm⟩ := obd_s hm
  refine q_callVv C h (rc_call l D k g N σ1 x1 x2 r3 e4) (cwV 2 C.2.2.1 (gR_call _) rfl rfl rfl hd_call ⟨Nat.le_of_ble_eq_true rfl, Nat.le_of_ble_eq_true rfl⟩) rfl hl.1 rfl (Nat.le_of_ble_eq_true rfl) dX12_rowOf_13 ⟨Nat.le_of_ble_eq_true rfl, Nat.le_of_ble_eq_true rfl⟩ (fun H locs h => ?_)
  exact lm_rowOf_16 (N := N) C hr hlk  N (lv_sub hl [0] rfl) h hm
end L_rowOf
section L_feed
variable {p : Program} {l : Launch} {e : Env} {s : State} {m : MethodId} {args : Array Value} {below : List Frame} {meth : Method} {c : Code} {D : va_G} {A : Nat → Prop} {k : Nat → ClassId} {g : Nat → Nat} {N : Nat} {cd : Cond}
set_option maxHeartbeats 4000000 in
set_option maxRecDepth 100000 in
theorem lm_feed_68 {r : St × Int} (C : Cx p s m args c cX12_feed RX12 (cd :: rW) D (TYs k) 8) (hr : meth.sig.returnType = (some .boolean)) (hlk : meth.locks = false) {rec15 : St → Int → Int → Int → Int → Int → Int → Option (St × Int)} (hrec15 : ∀ {ls : Array Slot} {H : Heap} {locs : List Loc} {σ : St} {x1 : Int} {x2 : Int} {x3 : Int} {x4 : Int} {x5 : Int} {x6 : Int}, lv_has ls 8 [(0, .ref (g 0)), (1, .int (Int32.ofInt x1)), (2, .int (Int32.ofInt x2)), (3, .int (Int32.ofInt x3)), (4, .int (Int32.ofInt x4)), (5, .int (Int32.ofInt x5)), (6, .int (Int32.ofInt x6))] → Hp D A s.heap H locs (mW k g σ) → rec15 σ x1 x2 x3 x4 x5 x6 = some r → W p l e { frames := 0, cells := 0, slots := 0, locals := 0 } s m args below meth c H locs 0 0 (MQ below (va_Qi (fun v (_ : Unit) => v = Int32.ofInt r.2) (fun _ t => PostW D (TYs k) A (mW k g r.1) t) A) args s 0 0 A) (F0 m 15 ls [])) {ls : Array Slot} {H : Heap} {locs : List Loc} {σ : St} {x1 : Int} {x2 : Int} {x3 : Int} {x4 : Int} {x5 : Int} {x6 : Int} {s0 : Int} (hl : lv_has ls 8 [(0, .ref (g 0)), (1, .int (Int32.ofInt x1)), (2, .int (Int32.ofInt x2)), (3, .int (Int32.ofInt x3)), (4, .int (Int32.ofInt x4)), (5, .int (Int32.ofInt x5)), (6, .int (Int32.ofInt x6))]) (h : Hp D A s.heap H locs (mW k g σ)) (hm : r_feed_68 N rec15 σ x1 x2 x3 x4 x5 x6 s0 = some r) : W p l e { frames := 0, cells := 0, slots := 0, locals := 0 } s m args below meth c H locs 0 0 (MQ below (va_Qi (fun v (_ : Unit) => v = Int32.ofInt r.2) (fun _ t => PostW D (TYs k) A (mW k g r.1) t) A) args s 0 0 A) (F0 m 68 ls [.int (Int32.ofInt s0)]) := by
  rw [r_feed_68] at hm
  refine lv_istore (lv' := [(7, .int (Int32.ofInt s0)), (0, .ref (g 0)), (1, .int (Int32.ofInt x1)), (2, .int (Int32.ofInt x2)), (3, .int (Int32.ofInt x3)), (4, .int (Int32.ofInt x4)), (5, .int (Int32.ofInt x5)), (6, .int (Int32.ofInt x6))]) C.1 C.2.1 dX12_feed_68 hl (by decide) rfl (fun ls hl => ?_)
  refine lv_aload_n C.1 C.2.1 dX12_feed_70 rfl (lv_at hl 1 rfl) ?_
  refine fg_0 C h dX12_feed_71 ?_
  refine lv_aload_n C.1 C.2.1 dX12_feed_74 rfl (lv_at hl 1 rfl) ?_
  refine fg_1 C h dX12_feed_75 ?_
  refine lv_iload C.1 C.2.1 dX12_feed_78 (lv_at hl 7 rfl) ?_
  refine z_iadd C dX12_feed_80 ?_
  refine lv_iload C.1 C.2.1 dX12_feed_81 (lv_at hl 0 rfl) ?_
  refine lv_bipush (v := Int32.ofInt 24) C.1 C.2.1 dX12_feed_83 (by decide) ?_
  refine lv_bipush (v := Int32.ofInt 8) C.1 C.2.1 dX12_feed_85 (by decide) ?_
  refine lv_iload C.1 C.2.1 dX12_feed_87 (lv_at hl 7 rfl) ?_
  refine lv_iconst (v := Int32.ofInt 4) C.1 C.2.1 dX12_feed_89 (by decide) ?_
  obtain ⟨g9, hm⟩ := grd_s hm
  refine z_irem C dX12_feed_90 g9 (by decide) (by decide) ?_
  refine z_imul C dX12_feed_91 ?_
  refine z_isub C dX12_feed_92 ?_
  refine z_ishr C dX12_feed_93 ?_
  refine z_i2b C dX12_feed_94 ?_
  obtain ⟨g10, hm⟩ := grd_s hm
  refine as_97 C h dX12_feed_95 g10 (fun H locs h => ?_)
  refine lv_iinc (v := Int32.ofInt (x6 + 1)) (lv' := [(6, .int (Int32.ofInt (x6 + 1))), (7, .int (Int32.ofInt s0)), (0, .ref (g 0)), (1, .int (Int32.ofInt x1)), (2, .int (Int32.ofInt x2)), (3, .int (Int32.ofInt x3)), (4, .int (Int32.ofInt x4)), (5, .int (Int32.ofInt x5))]) C.1 C.2.1 dX12_feed_96 hl (k := 7) rfl (c32_add _ _) (by decide) rfl (fun ls hl => ?_)
  refine lv_goto (tgt := 15) C.1 C.2.1 dX12_feed_99 (by decide) ?_
  exact hrec15 (lv_sub hl [2, 3, 4, 5, 6, 7, 0] rfl) h hm
set_option maxHeartbeats 4000000 in
set_option maxRecDepth 100000 in
theorem lm_feed_15 {r : St × Int} (C : Cx p s m args c cX12_feed RX12 (cd :: rW) D (TYs k) 8) (hr : meth.sig.returnType = (some .boolean)) (hlk : meth.locks = false)  (n : Nat) : ∀ {ls : Array Slot} {H : Heap} {locs : List Loc} {σ : St} {x1 : Int} {x2 : Int} {x3 : Int} {x4 : Int} {x5 : Int} {x6 : Int}, lv_has ls 8 [(0, .ref (g 0)), (1, .int (Int32.ofInt x1)), (2, .int (Int32.ofInt x2)), (3, .int (Int32.ofInt x3)), (4, .int (Int32.ofInt x4)), (5, .int (Int32.ofInt x5)), (6, .int (Int32.ofInt x6))] → Hp D A s.heap H locs (mW k g σ) → r_feed_15 N  n σ x1 x2 x3 x4 x5 x6 = some r → W p l e { frames := 0, cells := 0, slots := 0, locals := 0 } s m args below meth c H locs 0 0 (MQ below (va_Qi (fun v (_ : Unit) => v = Int32.ofInt r.2) (fun _ t => PostW D (TYs k) A (mW k g r.1) t) A) args s 0 0 A) (F0 m 15 ls []) := by
  induction n with
  | zero => intro ls H locs σ x1 x2 x3 x4 x5 x6 hl h hm; cases (show none = some r from hm)
  | succ n hrec15 =>
    intro ls H locs σ x1 x2 x3 x4 x5 x6 hl h hm
    rw [r_feed_15] at hm
    refine lv_iload C.1 C.2.1 dX12_feed_15 (lv_at hl 6 rfl) ?_
    refine lv_bipush (v := Int32.ofInt 20) C.1 C.2.1 dX12_feed_17 (by decide) ?_
    obtain ⟨g3, hm⟩ := grd_s hm
    refine z_icmp_ge (tgt := 102) C dX12_feed_19 (by decide) g3 (by decide) (fun c4 => ?_) (fun c4 => ?_)
    · have hm := ite_f c4 hm
      refine lv_aload_n C.1 C.2.1 dX12_feed_102 rfl (lv_at hl 0 rfl) ?_
      refine lv_dup C.1 C.2.1 dX12_feed_103 rfl ?_
      refine fg_1 C h dX12_feed_104 ?_
      refine lv_bipush (v := Int32.ofInt 20) C.1 C.2.1 dX12_feed_107 (by decide) ?_
      refine z_iadd C dX12_feed_109 ?_
      refine fp_1 C h dX12_feed_110 (fun H locs h => ?_)
      refine lv_iconst (v := Int32.ofInt 1) C.1 C.2.1 dX12_feed_113 (by decide) ?_
      cases hm
      exact q_iret C h hr hlk dX12_feed_114 rfl
    · have hm := ite_t c4 hm
      refine lv_iload C.1 C.2.1 dX12_feed_22 (lv_at hl 6 rfl) ?_
      refine lv_iconst (v := Int32.ofInt 4) C.1 C.2.1 dX12_feed_24 (by decide) ?_
      refine z_icmp_ge (tgt := 32) C dX12_feed_25 (by decide) g3 (by decide) (fun c5 => ?_) (fun c5 => ?_)
      · have hm := ite_f c5 hm
        refine lv_iload C.1 C.2.1 dX12_feed_32 (lv_at hl 6 rfl) ?_
        refine lv_bipush (v := Int32.ofInt 8) C.1 C.2.1 dX12_feed_34 (by decide) ?_
        refine z_icmp_ge (tgt := 43) C dX12_feed_36 (by decide) g3 (by decide) (fun c6 => ?_) (fun c6 => ?_)
        · have hm := ite_f c6 hm
          refine lv_iload C.1 C.2.1 dX12_feed_43 (lv_at hl 6 rfl) ?_
          refine lv_bipush (v := Int32.ofInt 12) C.1 C.2.1 dX12_feed_45 (by decide) ?_
          refine z_icmp_ge (tgt := 54) C dX12_feed_47 (by decide) g3 (by decide) (fun c7 => ?_) (fun c7 => ?_)
          · have hm := ite_f c7 hm
            refine lv_iload C.1 C.2.1 dX12_feed_54 (lv_at hl 6 rfl) ?_
            refine lv_bipush (v := Int32.ofInt 16) C.1 C.2.1 dX12_feed_56 (by decide) ?_
            refine z_icmp_ge (tgt := 66) C dX12_feed_58 (by decide) g3 (by decide) (fun c8 => ?_) (fun c8 => ?_)
            · have hm := ite_f c8 hm
              refine lv_iload C.1 C.2.1 dX12_feed_66 (lv_at hl 5 rfl) ?_
              exact lm_feed_68 (N := N) C hr hlk hrec15 (lv_sub hl [0, 1, 2, 3, 4, 5, 6] rfl) h hm
            · have hm := ite_t c8 hm
              refine lv_iload C.1 C.2.1 dX12_feed_61 (lv_at hl 4 rfl) ?_
              refine lv_goto (tgt := 68) C.1 C.2.1 dX12_feed_63 (by decide) ?_
              exact lm_feed_68 (N := N) C hr hlk hrec15 (lv_sub hl [0, 1, 2, 3, 4, 5, 6] rfl) h hm
          · have hm := ite_t c7 hm
            refine lv_iload_n C.1 C.2.1 dX12_feed_50 rfl (lv_at hl 3 rfl) ?_
            refine lv_goto (tgt := 68) C.1 C.2.1 dX12_feed_51 (by decide) ?_
            exact lm_feed_68 (N := N) C hr hlk hrec15 (lv_sub hl [0, 1, 2, 3, 4, 5, 6] rfl) h hm
        · have hm := ite_t c6 hm
          refine lv_iload_n C.1 C.2.1 dX12_feed_39 rfl (lv_at hl 2 rfl) ?_
          refine lv_goto (tgt := 68) C.1 C.2.1 dX12_feed_40 (by decide) ?_
          exact lm_feed_68 (N := N) C hr hlk hrec15 (lv_sub hl [0, 1, 2, 3, 4, 5, 6] rfl) h hm
      · have hm := ite_t c5 hm
        refine lv_iload_n C.1 C.2.1 dX12_feed_28 rfl (lv_at hl 1 rfl) ?_
        refine lv_goto (tgt := 68) C.1 C.2.1 dX12_feed_29 (by decide) ?_
        exact lm_feed_68 (N := N) C hr hlk hrec15 (lv_sub hl [0, 1, 2, 3, 4, 5, 6] rfl) h hm
set_option maxHeartbeats 4000000 in
set_option maxRecDepth 100000 in
theorem rc_feed (l : Launch) (D : va_G) (k : Nat → ClassId) (g : Nat → Nat) (N : Nat) (σ : St) (x1 : Int) (x2 : Int) (x3 : Int) (x4 : Int) (x5 : Int) (r : St × Int) (hm : r_feed N σ x1 x2 x3 x4 x5 = some r) : Mi l yX12_feed (.code yX12_feed cX12_feed 8 (some .boolean) :: rW) { frames := 0, cells := 0, slots := 0, locals := 0 } [.ref (g 0), .int (Int32.ofInt x1), .int (Int32.ofInt x2), .int (Int32.ofInt x3), .int (Int32.ofInt x4), .int (Int32.ofInt x5)] D (TYs k) (mW k g σ) (fun _ => True) Unit (fun v _ => v = Int32.ofInt r.2) (fun _ => mW k g r.1) 0 0 := by
  intro sz
  refine x_met (cc := cX12_feed) (maxL := 8) (ret := (some .boolean)) (by decide) rfl (Nat.le_of_ble_eq_true rfl) ?_
  intro p e s m below meth c ls C hX hsz hr hlk hmn hl h
  have hl : lv_has ls 8 [(0, .ref (g 0)), (1, .int (Int32.ofInt x1)), (2, .int (Int32.ofInt x2)), (3, .int (Int32.ofInt x3)), (4, .int (Int32.ofInt x4)), (5, .int (Int32.ofInt x5))] := hl
  rw [r_feed] at hm
  refine lv_aload_n C.1 C.2.1 dX12_feed_0 rfl (lv_at hl 0 rfl) ?_
  refine fg_1 C h dX12_feed_1 ?_
  refine lv_sipush (v := Int32.ofInt 1980) C.1 C.2.1 dX12_feed_4 (by decide) ?_
  obtain ⟨g1, hm⟩ := grd_s hm
  refine z_icmp_le (tgt := 12) C dX12_feed_7 (by decide) g1 (by decide) (fun c2 => ?_) (fun c2 => ?_)
  · have hm := ite_f c2 hm
    refine lv_iconst (v := Int32.ofInt 0) C.1 C.2.1 dX12_feed_12 (by decide) ?_
    refine lv_istore (lv' := [(6, .int (Int32.ofInt 0)), (0, .ref (g 0)), (1, .int (Int32.ofInt x1)), (2, .int (Int32.ofInt x2)), (3, .int (Int32.ofInt x3)), (4, .int (Int32.ofInt x4)), (5, .int (Int32.ofInt x5))]) C.1 C.2.1 dX12_feed_13 hl (by decide) rfl (fun ls hl => ?_)
    exact lm_feed_15 (N := N) C hr hlk  N (lv_sub hl [1, 2, 3, 4, 5, 6, 0] rfl) h hm
  · have hm := ite_t c2 hm
    refine lv_iconst (v := Int32.ofInt 0) C.1 C.2.1 dX12_feed_10 (by decide) ?_
    cases hm
    exact q_iret C h hr hlk dX12_feed_11 rfl
end L_feed
section L_end
variable {p : Program} {l : Launch} {e : Env} {s : State} {m : MethodId} {args : Array Value} {below : List Frame} {meth : Method} {c : Code} {D : va_G} {A : Nat → Prop} {k : Nat → ClassId} {g : Nat → Nat} {N : Nat} {cd : Cond}
set_option maxHeartbeats 4000000 in
set_option maxRecDepth 100000 in
theorem rc_end (l : Launch) (D : va_G) (k : Nat → ClassId) (g : Nat → Nat) (N : Nat) (σ : St) (x1 : Int) (r : St × Int) (hm : r_end N σ x1 = some r) : Mi l yX12_end (.code yX12_end cX12_end 2 (some .boolean) :: rW) { frames := 0, cells := 0, slots := 0, locals := 0 } [.ref (g 0), .int (Int32.ofInt x1)] D (TYs k) (mW k g σ) (fun _ => True) Unit (fun v _ => v = Int32.ofInt r.2) (fun _ => mW k g r.1) 0 0 := by
  intro sz
  refine x_met (cc := cX12_end) (maxL := 2) (ret := (some .boolean)) (by decide) rfl (Nat.le_of_ble_eq_true rfl) ?_
  intro p e s m below meth c ls C hX hsz hr hlk hmn hl h
  have hl : lv_has ls 2 [(0, .ref (g 0)), (1, .int (Int32.ofInt x1))] := hl
  rw [r_end] at hm
  refine lv_iload_n C.1 C.2.1 dX12_end_0 rfl (lv_at hl 1 rfl) ?_
  obtain ⟨g1, hm⟩ := grd_s hm
  refine z_if_lt (tgt := 12) C dX12_end_1 (by decide) g1 (fun c2 => ?_) (fun c2 => ?_)
  · have hm := ite_t c2 hm
    refine lv_iconst (v := Int32.ofInt 0) C.1 C.2.1 dX12_end_12 (by decide) ?_
    cases hm
    exact q_iret C h hr hlk dX12_end_13 rfl
  · have hm := ite_f c2 hm
    refine lv_iload_n C.1 C.2.1 dX12_end_4 rfl (lv_at hl 1 rfl) ?_
    refine lv_aload_n C.1 C.2.1 dX12_end_5 rfl (lv_at hl 0 rfl) ?_
    refine fg_1 C h dX12_end_6 ?_
    obtain ⟨g3, hm⟩ := grd_s hm
    refine z_icmp_le (tgt := 14) C dX12_end_9 (by decide) g1 g3 (fun c4 => ?_) (fun c4 => ?_)
    · have hm := ite_f c4 hm
      refine lv_aload_n C.1 C.2.1 dX12_end_14 rfl (lv_at hl 0 rfl) ?_
      refine lv_iload_n C.1 C.2.1 dX12_end_15 rfl (lv_at hl 1 rfl) ?_
      refine fp_1 C h dX12_end_16 (fun H locs h => ?_)
      refine lv_iconst (v := Int32.ofInt 1) C.1 C.2.1 dX12_end_19 (by decide) ?_
      cases hm
      exact q_iret C h hr hlk dX12_end_20 rfl
    · have hm := ite_t c4 hm
      refine lv_iconst (v := Int32.ofInt 0) C.1 C.2.1 dX12_end_12 (by decide) ?_
      cases hm
      exact q_iret C h hr hlk dX12_end_13 rfl
end L_end
section L_begins
variable {p : Program} {l : Launch} {e : Env} {s : State} {m : MethodId} {args : Array Value} {below : List Frame} {meth : Method} {c : Code} {D : va_G} {A : Nat → Prop} {k : Nat → ClassId} {g : Nat → Nat} {N : Nat} {cd : Cond}
set_option maxHeartbeats 4000000 in
set_option maxRecDepth 100000 in
theorem lm_begins_62 {r : St} (C : Cx p s m args c cX12_begins RX12 (cd :: rW) D (TYs k) 2) (hr : meth.sig.returnType = none) (hlk : meth.locks = false)  (n : Nat) : ∀ {ls : Array Slot} {H : Heap} {locs : List Loc} {σ : St} {x1 : Int}, lv_has ls 2 [(0, .ref (g 0)), (1, .int (Int32.ofInt x1))] → Hp D A s.heap H locs (mW k g σ) → r_begins_62 N  n σ x1 = some r → W p l e { frames := 3, cells := 0, slots := 0, locals := 69 } s m args below meth c H locs 0 0 (MQ below (va_Qv (fun (_ : Unit) => True) (fun _ t => PostW D (TYs k) A (mW k g r) t) A) args s 0 0 A) (F0 m 62 ls []) := by
  induction n with
  | zero => intro ls H locs σ x1 hl h hm; cases (show none = some r from hm)
  | succ n hrec62 =>
    intro ls H locs σ x1 hl h hm
    rw [r_begins_62] at hm
    refine lv_iload_n C.1 C.2.1 dX12_begins_62 rfl (lv_at hl 1 rfl) ?_
    refine lv_aload_n C.1 C.2.1 dX12_begins_63 rfl (lv_at hl 0 rfl) ?_
    refine fg_34 C h dX12_begins_64 ?_
    obtain ⟨g1, hm⟩ := grd_s hm
    obtain ⟨g2, hm⟩ := grd_s hm
    refine z_icmp_ge (tgt := 88) C dX12_begins_67 (by decide) g1 g2 (fun c3 => ?_) (fun c3 => ?_)
    · have hm := ite_f c3 hm
      refine lv_aload_n C.1 C.2.1 dX12_begins_88 rfl (lv_at hl 0 rfl) ?_
      refine lv_iconst (v := Int32.ofInt 0) C.1 C.2.1 dX12_begins_89 (by decide) ?_
      obtain ⟨r4, e5, hm⟩ := obd_s hm
      refine q_callVv C h (rc_look l D k g N σ 0 r4 e5) (cwV 1 C.2.2.1 (gR_look _) rfl rfl rfl hd_look ⟨Nat.le_of_ble_eq_true rfl, Nat.le_of_ble_eq_true rfl⟩) rfl hl.1 rfl (Nat.le_of_ble_eq_true rfl) dX12_begins_90 ⟨Nat.le_of_ble_eq_true rfl, Nat.le_of_ble_eq_true rfl⟩ (fun H locs h => ?_)
      cases hm
      exact q_vret C h hr hlk dX12_begins_93
    · have hm := ite_t c3 hm
      refine lv_aload_n C.1 C.2.1 dX12_begins_70 rfl (lv_at hl 0 rfl) ?_
      refine fg_37 C h dX12_begins_71 ?_
      refine lv_iload_n C.1 C.2.1 dX12_begins_74 rfl (lv_at hl 1 rfl) ?_
      refine lv_aload_n C.1 C.2.1 dX12_begins_75 rfl (lv_at hl 0 rfl) ?_
      refine fg_35 C h dX12_begins_76 ?_
      refine lv_iload_n C.1 C.2.1 dX12_begins_79 rfl (lv_at hl 1 rfl) ?_
      obtain ⟨g6, hm⟩ := grd_s hm
      refine al_78 C h dX12_begins_80 g6 ?_
      obtain ⟨g7, hm⟩ := grd_s hm
      refine as_77 C h dX12_begins_81 g7 (fun H locs h => ?_)
      refine lv_iinc (v := Int32.ofInt (x1 + 1)) (lv' := [(1, .int (Int32.ofInt (x1 + 1))), (0, .ref (g 0))]) C.1 C.2.1 dX12_begins_82 hl (k := 1) rfl (c32_add _ _) (by decide) rfl (fun ls hl => ?_)
      refine lv_goto (tgt := 62) C.1 C.2.1 dX12_begins_85 (by decide) ?_
      exact hrec62 (lv_sub hl [1, 0] rfl) h hm
set_option maxHeartbeats 4000000 in
set_option maxRecDepth 100000 in
theorem rc_begins (l : Launch) (D : va_G) (k : Nat → ClassId) (g : Nat → Nat) (N : Nat) (σ : St)  (r : St) (hm : r_begins N σ  = some r) : Mv l yX12_begins (.code yX12_begins cX12_begins 2 none :: rW) { frames := 3, cells := 0, slots := 0, locals := 69 } [.ref (g 0)] D (TYs k) (mW k g σ) (fun _ => True) Unit (fun _ => True) (fun _ => mW k g r) 0 0 := by
  intro sz
  refine x_met (cc := cX12_begins) (maxL := 2) (ret := none) (by decide) rfl (Nat.le_of_ble_eq_true rfl) ?_
  intro p e s m below meth c ls C hX hsz hr hlk hmn hl h
  have hl : lv_has ls 2 [(0, .ref (g 0))] := hl
  rw [r_begins] at hm
  refine lv_aload_n C.1 C.2.1 dX12_begins_0 rfl (lv_at hl 0 rfl) ?_
  refine lv_iconst (v := Int32.ofInt 0) C.1 C.2.1 dX12_begins_1 (by decide) ?_
  refine fp_11 C h dX12_begins_2 (fun H locs h => ?_)
  refine lv_aload_n C.1 C.2.1 dX12_begins_5 rfl (lv_at hl 0 rfl) ?_
  refine lv_iconst (v := Int32.ofInt (-1)) C.1 C.2.1 dX12_begins_6 (by decide) ?_
  refine fp_12 C h dX12_begins_7 (fun H locs h => ?_)
  refine lv_aload_n C.1 C.2.1 dX12_begins_10 rfl (lv_at hl 0 rfl) ?_
  refine lv_iconst (v := Int32.ofInt 0) C.1 C.2.1 dX12_begins_11 (by decide) ?_
  refine fp_64 C h dX12_begins_12 (fun H locs h => ?_)
  refine lv_aload_n C.1 C.2.1 dX12_begins_15 rfl (lv_at hl 0 rfl) ?_
  refine lv_iconst (v := Int32.ofInt 0) C.1 C.2.1 dX12_begins_16 (by decide) ?_
  refine fp_38 C h dX12_begins_17 (fun H locs h => ?_)
  refine lv_aload_n C.1 C.2.1 dX12_begins_20 rfl (lv_at hl 0 rfl) ?_
  refine lv_aload_n C.1 C.2.1 dX12_begins_21 rfl (lv_at hl 0 rfl) ?_
  refine fg_16 C h dX12_begins_22 ?_
  refine x_topi (y := Int32.ofInt (fl σ 16 0)) rfl ?_
  refine fp_149 C h dX12_begins_25 (fun H locs h => ?_)
  refine lv_aload_n C.1 C.2.1 dX12_begins_28 rfl (lv_at hl 0 rfl) ?_
  refine lv_aload_n C.1 C.2.1 dX12_begins_29 rfl (lv_at hl 0 rfl) ?_
  refine fg_48 C h dX12_begins_30 ?_
  refine x_topi (y := Int32.ofInt (fl σ 48 0)) rfl ?_
  refine fp_150 C h dX12_begins_33 (fun H locs h => ?_)
  refine lv_aload_n C.1 C.2.1 dX12_begins_36 rfl (lv_at hl 0 rfl) ?_
  refine lv_aload_n C.1 C.2.1 dX12_begins_37 rfl (lv_at hl 0 rfl) ?_
  refine fg_61 C h dX12_begins_38 ?_
  refine x_topi (y := Int32.ofInt (fl σ 61 0)) rfl ?_
  refine fp_151 C h dX12_begins_41 (fun H locs h => ?_)
  refine lv_aload_n C.1 C.2.1 dX12_begins_44 rfl (lv_at hl 0 rfl) ?_
  refine lv_aload_n C.1 C.2.1 dX12_begins_45 rfl (lv_at hl 0 rfl) ?_
  refine fg_28 C h dX12_begins_46 ?_
  refine x_topi (y := Int32.ofInt (fl σ 28 0)) rfl ?_
  refine fp_152 C h dX12_begins_49 (fun H locs h => ?_)
  refine lv_aload_n C.1 C.2.1 dX12_begins_52 rfl (lv_at hl 0 rfl) ?_
  refine lv_aload_n C.1 C.2.1 dX12_begins_53 rfl (lv_at hl 0 rfl) ?_
  refine fg_34 C h dX12_begins_54 ?_
  refine x_topi (y := Int32.ofInt (fl σ 34 0)) rfl ?_
  refine fp_36 C h dX12_begins_57 (fun H locs h => ?_)
  refine lv_iconst (v := Int32.ofInt 0) C.1 C.2.1 dX12_begins_60 (by decide) ?_
  refine lv_istore_n (lv' := [(1, .int (Int32.ofInt 0)), (0, .ref (g 0))]) C.1 C.2.1 dX12_begins_61 rfl hl (by decide) rfl (fun ls hl => ?_)
  exact lm_begins_62 (N := N) C hr hlk  N (lv_sub hl [1, 0] rfl) h hm
end L_begins
section L_over
variable {p : Program} {l : Launch} {e : Env} {s : State} {m : MethodId} {args : Array Value} {below : List Frame} {meth : Method} {c : Code} {D : va_G} {A : Nat → Prop} {k : Nat → ClassId} {g : Nat → Nat} {N : Nat} {cd : Cond}
set_option maxHeartbeats 4000000 in
set_option maxRecDepth 100000 in
theorem lm_over_33 {r : St × Int} (C : Cx p s m args c cX12_over RX12 (cd :: rW) D (TYs k) 1) (hr : meth.sig.returnType = (some .int)) (hlk : meth.locks = false)  {ls : Array Slot} {H : Heap} {locs : List Loc} {σ : St} {s0 : Int} (hl : lv_has ls 1 [(0, .ref (g 0))]) (h : Hp D A s.heap H locs (mW k g σ)) (hm : r_over_33 N  σ s0 = some r) : W p l e { frames := 0, cells := 0, slots := 0, locals := 0 } s m args below meth c H locs 0 0 (MQ below (va_Qi (fun v (_ : Unit) => v = Int32.ofInt r.2) (fun _ t => PostW D (TYs k) A (mW k g r.1) t) A) args s 0 0 A) (F0 m 33 ls [.int (Int32.ofInt s0), .ref (g 0)]) := by
  rw [r_over_33] at hm
  refine fp_119 C h dX12_over_33 (fun H locs h => ?_)
  refine lv_aload_n C.1 C.2.1 dX12_over_36 rfl (lv_at hl 0 rfl) ?_
  refine lv_aload_n C.1 C.2.1 dX12_over_37 rfl (lv_at hl 0 rfl) ?_
  refine fg_64 C h dX12_over_38 ?_
  refine x_topi (y := Int32.ofInt (fl σ 64 0)) rfl ?_
  refine fp_120 C h dX12_over_41 (fun H locs h => ?_)
  refine lv_aload_n C.1 C.2.1 dX12_over_44 rfl (lv_at hl 0 rfl) ?_
  refine lv_iconst (v := Int32.ofInt 0) C.1 C.2.1 dX12_over_45 (by decide) ?_
  refine fp_1 C h dX12_over_46 (fun H locs h => ?_)
  refine lv_aload_n C.1 C.2.1 dX12_over_49 rfl (lv_at hl 0 rfl) ?_
  refine fg_11 C h dX12_over_50 ?_
  refine x_topi (y := Int32.ofInt (fl σ 11 0)) rfl ?_
  obtain ⟨g4, hm⟩ := grd_s hm
  refine z_if_ne (tgt := 58) C dX12_over_53 (by decide) g4 (fun c5 => ?_) (fun c5 => ?_)
  · have hm := ite_f c5 hm
    refine lv_aload_n C.1 C.2.1 dX12_over_58 rfl (lv_at hl 0 rfl) ?_
    refine lv_aload_n C.1 C.2.1 dX12_over_59 rfl (lv_at hl 0 rfl) ?_
    refine fg_149 C h dX12_over_60 ?_
    refine x_topi (y := Int32.ofInt (fl σ 149 0)) rfl ?_
    refine fp_16 C h dX12_over_63 (fun H locs h => ?_)
    refine lv_aload_n C.1 C.2.1 dX12_over_66 rfl (lv_at hl 0 rfl) ?_
    refine lv_aload_n C.1 C.2.1 dX12_over_67 rfl (lv_at hl 0 rfl) ?_
    refine fg_150 C h dX12_over_68 ?_
    refine x_topi (y := Int32.ofInt (fl σ 150 0)) rfl ?_
    refine fp_48 C h dX12_over_71 (fun H locs h => ?_)
    refine lv_aload_n C.1 C.2.1 dX12_over_74 rfl (lv_at hl 0 rfl) ?_
    refine lv_aload_n C.1 C.2.1 dX12_over_75 rfl (lv_at hl 0 rfl) ?_
    refine fg_151 C h dX12_over_76 ?_
    refine x_topi (y := Int32.ofInt (fl σ 151 0)) rfl ?_
    refine fp_61 C h dX12_over_79 (fun H locs h => ?_)
    refine lv_aload_n C.1 C.2.1 dX12_over_82 rfl (lv_at hl 0 rfl) ?_
    refine lv_aload_n C.1 C.2.1 dX12_over_83 rfl (lv_at hl 0 rfl) ?_
    refine fg_152 C h dX12_over_84 ?_
    refine x_topi (y := Int32.ofInt (fl σ 152 0)) rfl ?_
    refine fp_28 C h dX12_over_87 (fun H locs h => ?_)
    refine lv_aload_n C.1 C.2.1 dX12_over_90 rfl (lv_at hl 0 rfl) ?_
    refine fg_11 C h dX12_over_91 ?_
    refine x_topi (y := Int32.ofInt (fl σ 11 0)) rfl ?_
    cases hm
    exact q_iret C h hr hlk dX12_over_94 rfl
  · have hm := ite_t c5 hm
    refine lv_iconst (v := Int32.ofInt 0) C.1 C.2.1 dX12_over_56 (by decide) ?_
    cases hm
    exact q_iret C h hr hlk dX12_over_57 rfl
set_option maxHeartbeats 4000000 in
set_option maxRecDepth 100000 in
theorem lm_over_25 {r : St × Int} (C : Cx p s m args c cX12_over RX12 (cd :: rW) D (TYs k) 1) (hr : meth.sig.returnType = (some .int)) (hlk : meth.locks = false)  {ls : Array Slot} {H : Heap} {locs : List Loc} {σ : St}  (hl : lv_has ls 1 [(0, .ref (g 0))]) (h : Hp D A s.heap H locs (mW k g σ)) (hm : r_over_25 N  σ  = some r) : W p l e { frames := 0, cells := 0, slots := 0, locals := 0 } s m args below meth c H locs 0 0 (MQ below (va_Qi (fun v (_ : Unit) => v = Int32.ofInt r.2) (fun _ t => PostW D (TYs k) A (mW k g r.1) t) A) args s 0 0 A) (F0 m 25 ls [.ref (g 0)]) := by
  rw [r_over_25] at hm
  refine lv_iconst (v := Int32.ofInt (-1)) C.1 C.2.1 dX12_over_25 (by decide) ?_
  refine lv_goto (tgt := 33) C.1 C.2.1 dX12_over_26 (by decide) ?_
  exact lm_over_33 (N := N) C hr hlk  (lv_sub hl [0] rfl) h hm
set_option maxHeartbeats 4000000 in
set_option maxRecDepth 100000 in
theorem rc_over (l : Launch) (D : va_G) (k : Nat → ClassId) (g : Nat → Nat) (N : Nat) (σ : St)  (r : St × Int) (hm : r_over N σ  = some r) : Mi l yX12_over (.code yX12_over cX12_over 1 (some .int) :: rW) { frames := 0, cells := 0, slots := 0, locals := 0 } [.ref (g 0)] D (TYs k) (mW k g σ) (fun _ => True) Unit (fun v _ => v = Int32.ofInt r.2) (fun _ => mW k g r.1) 0 0 := by
  intro sz
  refine x_met (cc := cX12_over) (maxL := 1) (ret := (some .int)) (by decide) rfl (Nat.le_of_ble_eq_true rfl) ?_
  intro p e s m below meth c ls C hX hsz hr hlk hmn hl h
  have hl : lv_has ls 1 [(0, .ref (g 0))] := hl
  rw [r_over] at hm
  refine lv_aload_n C.1 C.2.1 dX12_over_0 rfl (lv_at hl 0 rfl) ?_
  refine lv_aload_n C.1 C.2.1 dX12_over_1 rfl (lv_at hl 0 rfl) ?_
  refine fg_11 C h dX12_over_2 ?_
  refine fp_118 C h dX12_over_5 (fun H locs h => ?_)
  refine lv_aload_n C.1 C.2.1 dX12_over_8 rfl (lv_at hl 0 rfl) ?_
  refine lv_aload_n C.1 C.2.1 dX12_over_9 rfl (lv_at hl 0 rfl) ?_
  refine fg_11 C h dX12_over_10 ?_
  refine x_topi (y := Int32.ofInt (fl σ 11 0)) rfl ?_
  obtain ⟨g1, hm⟩ := grd_s hm
  refine z_if_eq (tgt := 25) C dX12_over_13 (by decide) g1 (fun c2 => ?_) (fun c2 => ?_)
  · have hm := ite_t c2 hm
    exact lm_over_25 (N := N) C hr hlk  (lv_sub hl [0] rfl) h hm
  · have hm := ite_f c2 hm
    refine lv_aload_n C.1 C.2.1 dX12_over_16 rfl (lv_at hl 0 rfl) ?_
    refine fg_11 C h dX12_over_17 ?_
    refine x_topi (y := Int32.ofInt (fl σ 11 0)) rfl ?_
    refine lv_bipush (v := Int32.ofInt 11) C.1 C.2.1 dX12_over_20 (by decide) ?_
    refine z_icmp_ne (tgt := 29) C dX12_over_22 (by decide) g1 (by decide) (fun c3 => ?_) (fun c3 => ?_)
    · have hm := ite_f c3 hm
      refine lv_aload_n C.1 C.2.1 dX12_over_29 rfl (lv_at hl 0 rfl) ?_
      refine fg_12 C h dX12_over_30 ?_
      refine x_topi (y := Int32.ofInt (fl σ 12 0)) rfl ?_
      exact lm_over_33 (N := N) C hr hlk  (lv_sub hl [0] rfl) h hm
    · have hm := ite_t c3 hm
      exact lm_over_25 (N := N) C hr hlk  (lv_sub hl [0] rfl) h hm
end L_over
section L_head
variable {p : Program} {l : Launch} {e : Env} {s : State} {m : MethodId} {args : Array Value} {below : List Frame} {meth : Method} {c : Code} {D : va_G} {A : Nat → Prop} {k : Nat → ClassId} {g : Nat → Nat} {N : Nat} {cd : Cond}
set_option maxHeartbeats 4000000 in
set_option maxRecDepth 100000 in
theorem lm_head_140 {r : St} (C : Cx p s m args c cX12_head RX12 (cd :: rW) D (TYs k) 2) (hr : meth.sig.returnType = none) (hlk : meth.locks = false)  {ls : Array Slot} {H : Heap} {locs : List Loc} {σ : St}  (hl : lv_has ls 2 [(0, .ref (g 0))]) (h : Hp D A s.heap H locs (mW k g σ)) (hm : r_head_140 N  σ  = some r) : W p l e { frames := 4, cells := 0, slots := 0, locals := 89 } s m args below meth c H locs 0 0 (MQ below (va_Qv (fun (_ : Unit) => True) (fun _ t => PostW D (TYs k) A (mW k g r) t) A) args s 0 0 A) (F0 m 140 ls []) := by
  rw [r_head_140] at hm
  refine lv_aload_n C.1 C.2.1 dX12_head_140 rfl (lv_at hl 0 rfl) ?_
  refine lv_iconst (v := Int32.ofInt 2) C.1 C.2.1 dX12_head_141 (by decide) ?_
  refine lv_aload_n C.1 C.2.1 dX12_head_142 rfl (lv_at hl 0 rfl) ?_
  refine fg_4 C h dX12_head_143 ?_
  obtain ⟨r47, e48, hm⟩ := obd_s hm
  refine q_callVv C h (rc_fail l D k g N σ 2 (fl σ 4 0) r47 e48) (cwV 2 C.2.2.1 (gR_fail _) rfl rfl rfl hd_fail ⟨Nat.le_of_ble_eq_true rfl, Nat.le_of_ble_eq_true rfl⟩) rfl hl.1 rfl (Nat.le_of_ble_eq_true rfl) dX12_head_146 ⟨Nat.le_of_ble_eq_true rfl, Nat.le_of_ble_eq_true rfl⟩ (fun H locs h => ?_)
  cases hm
  exact q_vret C h hr hlk dX12_head_149
set_option maxHeartbeats 4000000 in
set_option maxRecDepth 100000 in
theorem lm_head_125 {r : St} (C : Cx p s m args c cX12_head RX12 (cd :: rW) D (TYs k) 2) (hr : meth.sig.returnType = none) (hlk : meth.locks = false) {rec75 : St → Int → Option St} (hrec75 : ∀ {ls : Array Slot} {H : Heap} {locs : List Loc} {σ : St} {x1 : Int}, lv_has ls 2 [(0, .ref (g 0)), (1, .int (Int32.ofInt x1))] → Hp D A s.heap H locs (mW k g σ) → rec75 σ x1 = some r → W p l e { frames := 4, cells := 0, slots := 0, locals := 89 } s m args below meth c H locs 0 0 (MQ below (va_Qv (fun (_ : Unit) => True) (fun _ t => PostW D (TYs k) A (mW k g r) t) A) args s 0 0 A) (F0 m 75 ls [])) {ls : Array Slot} {H : Heap} {locs : List Loc} {σ : St} {x1 : Int} (hl : lv_has ls 2 [(0, .ref (g 0)), (1, .int (Int32.ofInt x1))]) (h : Hp D A s.heap H locs (mW k g σ)) (hm : r_head_125 N rec75 σ x1 = some r) : W p l e { frames := 4, cells := 0, slots := 0, locals := 89 } s m args below meth c H locs 0 0 (MQ below (va_Qv (fun (_ : Unit) => True) (fun _ t => PostW D (TYs k) A (mW k g r) t) A) args s 0 0 A) (F0 m 125 ls []) := by
  rw [r_head_125] at hm
  refine lv_aload_n C.1 C.2.1 dX12_head_125 rfl (lv_at hl 0 rfl) ?_
  obtain ⟨r49, e50, hm⟩ := obd_s hm
  refine q_callVi C h (rc_paramHere l D k g N σ  r49 e50) (cwV 0 C.2.2.1 (gR_paramHere _) rfl rfl rfl hd_paramHere ⟨Nat.le_of_ble_eq_true rfl, Nat.le_of_ble_eq_true rfl⟩) rfl hl.1 rfl (Nat.le_of_ble_eq_true rfl) dX12_head_126 ⟨Nat.le_of_ble_eq_true rfl, Nat.le_of_ble_eq_true rfl⟩ (fun H locs h => ?_)
  obtain ⟨g51, hm⟩ := grd_s hm
  refine z_if_ge (tgt := 140) C dX12_head_129 (by decide) g51 (fun c52 => ?_) (fun c52 => ?_)
  · have hm := ite_f c52 hm
    exact lm_head_140 (N := N) C hr hlk  (lv_sub hl [0] rfl) h hm
  · have hm := ite_t c52 hm
    refine lv_aload_n C.1 C.2.1 dX12_head_132 rfl (lv_at hl 0 rfl) ?_
    refine fg_38 C h dX12_head_133 ?_
    refine lv_iconst (v := Int32.ofInt 4) C.1 C.2.1 dX12_head_136 (by decide) ?_
    obtain ⟨g53, hm⟩ := grd_s hm
    refine z_icmp_ne (tgt := 150) C dX12_head_137 (by decide) g53 (by decide) (fun c54 => ?_) (fun c54 => ?_)
    · have hm := ite_f c54 hm
      refine lv_aload_n C.1 C.2.1 dX12_head_150 rfl (lv_at hl 0 rfl) ?_
      refine fg_39 C h dX12_head_151 ?_
      refine lv_aload_n C.1 C.2.1 dX12_head_154 rfl (lv_at hl 0 rfl) ?_
      refine fg_38 C h dX12_head_155 ?_
      refine lv_aload_n C.1 C.2.1 dX12_head_158 rfl (lv_at hl 0 rfl) ?_
      refine fg_7 C h dX12_head_159 ?_
      obtain ⟨g55, hm⟩ := grd_s hm
      refine as_76 C h dX12_head_162 g55 (fun H locs h => ?_)
      refine lv_aload_n C.1 C.2.1 dX12_head_163 rfl (lv_at hl 0 rfl) ?_
      refine fg_40 C h dX12_head_164 ?_
      refine lv_aload_n C.1 C.2.1 dX12_head_167 rfl (lv_at hl 0 rfl) ?_
      refine fg_38 C h dX12_head_168 ?_
      refine x_topi (y := Int32.ofInt (fl r49.1 38 0)) rfl ?_
      refine lv_aload_n C.1 C.2.1 dX12_head_171 rfl (lv_at hl 0 rfl) ?_
      refine fg_8 C h dX12_head_172 ?_
      refine x_topl (y := Int64.ofInt (fl r49.1 8 0)) rfl ?_
      refine as_75 C h dX12_head_175 g55 (fun H locs h => ?_)
      refine lv_aload_n C.1 C.2.1 dX12_head_176 rfl (lv_at hl 0 rfl) ?_
      refine lv_dup C.1 C.2.1 dX12_head_177 rfl ?_
      refine fg_38 C h dX12_head_178 ?_
      refine x_topi (y := Int32.ofInt (fl r49.1 38 0)) rfl ?_
      refine lv_iconst (v := Int32.ofInt 1) C.1 C.2.1 dX12_head_181 (by decide) ?_
      refine z_iadd C dX12_head_182 ?_
      refine fp_38 C h dX12_head_183 (fun H locs h => ?_)
      refine lv_aload_n C.1 C.2.1 dX12_head_186 rfl (lv_at hl 0 rfl) ?_
      obtain ⟨σ56, e57, hm⟩ := bnd_s hm
      rw [e57] at h
      obtain ⟨r58, e59, hm⟩ := obd_s hm
      refine q_callVv C h (rc_advance l D k g N σ56  r58 e59) (cwV 0 C.2.2.1 (gR_advance _) rfl rfl rfl hd_advance ⟨Nat.le_of_ble_eq_true rfl, Nat.le_of_ble_eq_true rfl⟩) rfl hl.1 rfl (Nat.le_of_ble_eq_true rfl) dX12_head_187 ⟨Nat.le_of_ble_eq_true rfl, Nat.le_of_ble_eq_true rfl⟩ (fun H locs h => ?_)
      refine lv_goto (tgt := 75) C.1 C.2.1 dX12_head_190 (by decide) ?_
      exact hrec75 (lv_sub hl [0, 1] rfl) h hm
    · have hm := ite_t c54 hm
      exact lm_head_140 (N := N) C hr hlk  (lv_sub hl [0] rfl) h hm
set_option maxHeartbeats 4000000 in
set_option maxRecDepth 100000 in
theorem lm_head_193 {r : St} (C : Cx p s m args c cX12_head RX12 (cd :: rW) D (TYs k) 2) (hr : meth.sig.returnType = none) (hlk : meth.locks = false)  {ls : Array Slot} {H : Heap} {locs : List Loc} {σ : St}  (hl : lv_has ls 2 [(0, .ref (g 0))]) (h : Hp D A s.heap H locs (mW k g σ)) (hm : r_head_193 N  σ  = some r) : W p l e { frames := 4, cells := 0, slots := 0, locals := 89 } s m args below meth c H locs 0 0 (MQ below (va_Qv (fun (_ : Unit) => True) (fun _ t => PostW D (TYs k) A (mW k g r) t) A) args s 0 0 A) (F0 m 193 ls []) := by
  rw [r_head_193] at hm
  refine lv_aload_n C.1 C.2.1 dX12_head_193 rfl (lv_at hl 0 rfl) ?_
  refine fg_11 C h dX12_head_194 ?_
  obtain ⟨g37, hm⟩ := grd_s hm
  refine z_if_eq (tgt := 201) C dX12_head_197 (by decide) g37 (fun c38 => ?_) (fun c38 => ?_)
  · have hm := ite_t c38 hm
    refine lv_aload_n C.1 C.2.1 dX12_head_201 rfl (lv_at hl 0 rfl) ?_
    refine lv_bipush (v := Int32.ofInt 61) C.1 C.2.1 dX12_head_202 (by decide) ?_
    obtain ⟨r39, e40, hm⟩ := obd_s hm
    refine q_callVi C h (rc_isSign l D k g N σ 61 r39 e40) (cwV 1 C.2.2.1 (gR_isSign _) rfl rfl rfl hd_isSign ⟨Nat.le_of_ble_eq_true rfl, Nat.le_of_ble_eq_true rfl⟩) rfl hl.1 rfl (Nat.le_of_ble_eq_true rfl) dX12_head_204 ⟨Nat.le_of_ble_eq_true rfl, Nat.le_of_ble_eq_true rfl⟩ (fun H locs h => ?_)
    obtain ⟨g41, hm⟩ := grd_s hm
    refine z_if_ne (tgt := 222) C dX12_head_207 (by decide) g41 (fun c42 => ?_) (fun c42 => ?_)
    · have hm := ite_f c42 hm
      refine lv_aload_n C.1 C.2.1 dX12_head_222 rfl (lv_at hl 0 rfl) ?_
      obtain ⟨r43, e44, hm⟩ := obd_s hm
      refine q_callVv C h (rc_advance l D k g N r39.1  r43 e44) (cwV 0 C.2.2.1 (gR_advance _) rfl rfl rfl hd_advance ⟨Nat.le_of_ble_eq_true rfl, Nat.le_of_ble_eq_true rfl⟩) rfl hl.1 rfl (Nat.le_of_ble_eq_true rfl) dX12_head_223 ⟨Nat.le_of_ble_eq_true rfl, Nat.le_of_ble_eq_true rfl⟩ (fun H locs h => ?_)
      cases hm
      exact q_vret C h hr hlk dX12_head_226
    · have hm := ite_t c42 hm
      refine lv_aload_n C.1 C.2.1 dX12_head_210 rfl (lv_at hl 0 rfl) ?_
      refine lv_iconst (v := Int32.ofInt 1) C.1 C.2.1 dX12_head_211 (by decide) ?_
      refine lv_aload_n C.1 C.2.1 dX12_head_212 rfl (lv_at hl 0 rfl) ?_
      refine fg_4 C h dX12_head_213 ?_
      obtain ⟨r45, e46, hm⟩ := obd_s hm
      refine q_callVv C h (rc_fail l D k g N r39.1 1 (fl r39.1 4 0) r45 e46) (cwV 2 C.2.2.1 (gR_fail _) rfl rfl rfl hd_fail ⟨Nat.le_of_ble_eq_true rfl, Nat.le_of_ble_eq_true rfl⟩) rfl hl.1 rfl (Nat.le_of_ble_eq_true rfl) dX12_head_216 ⟨Nat.le_of_ble_eq_true rfl, Nat.le_of_ble_eq_true rfl⟩ (fun H locs h => ?_)
      refine lv_goto (tgt := 226) C.1 C.2.1 dX12_head_219 (by decide) ?_
      cases hm
      exact q_vret C h hr hlk dX12_head_226
  · have hm := ite_f c38 hm
    cases hm
    exact q_vret C h hr hlk dX12_head_200
set_option maxHeartbeats 4000000 in
set_option maxRecDepth 100000 in
theorem lm_head_75 {r : St} (C : Cx p s m args c cX12_head RX12 (cd :: rW) D (TYs k) 2) (hr : meth.sig.returnType = none) (hlk : meth.locks = false)  (n : Nat) : ∀ {ls : Array Slot} {H : Heap} {locs : List Loc} {σ : St} {x1 : Int}, lv_has ls 2 [(0, .ref (g 0)), (1, .int (Int32.ofInt x1))] → Hp D A s.heap H locs (mW k g σ) → r_head_75 N  n σ x1 = some r → W p l e { frames := 4, cells := 0, slots := 0, locals := 89 } s m args below meth c H locs 0 0 (MQ below (va_Qv (fun (_ : Unit) => True) (fun _ t => PostW D (TYs k) A (mW k g r) t) A) args s 0 0 A) (F0 m 75 ls []) := by
  induction n with
  | zero => intro ls H locs σ x1 hl h hm; cases (show none = some r from hm)
  | succ n hrec75 =>
    intro ls H locs σ x1 hl h hm
    rw [r_head_75] at hm
    refine lv_aload_n C.1 C.2.1 dX12_head_75 rfl (lv_at hl 0 rfl) ?_
    refine fg_11 C h dX12_head_76 ?_
    obtain ⟨g22, hm⟩ := grd_s hm
    refine z_if_ne (tgt := 193) C dX12_head_79 (by decide) g22 (fun c23 => ?_) (fun c23 => ?_)
    · have hm := ite_f c23 hm
      exact lm_head_193 (N := N) C hr hlk  (lv_sub hl [0] rfl) h hm
    · have hm := ite_t c23 hm
      refine lv_aload_n C.1 C.2.1 dX12_head_82 rfl (lv_at hl 0 rfl) ?_
      refine fg_3 C h dX12_head_83 ?_
      refine lv_iconst (v := Int32.ofInt 2) C.1 C.2.1 dX12_head_86 (by decide) ?_
      obtain ⟨g24, hm⟩ := grd_s hm
      refine z_icmp_ne (tgt := 193) C dX12_head_87 (by decide) g24 (by decide) (fun c25 => ?_) (fun c25 => ?_)
      · have hm := ite_f c25 hm
        exact lm_head_193 (N := N) C hr hlk  (lv_sub hl [0] rfl) h hm
      · have hm := ite_t c25 hm
        refine lv_aload_n C.1 C.2.1 dX12_head_90 rfl (lv_at hl 0 rfl) ?_
        obtain ⟨r26, e27, hm⟩ := obd_s hm
        refine q_callVi C h (rc_functionHere l D k g N σ  r26 e27) (cwV 0 C.2.2.1 (gR_functionHere _) rfl rfl rfl hd_functionHere ⟨Nat.le_of_ble_eq_true rfl, Nat.le_of_ble_eq_true rfl⟩) rfl hl.1 rfl (Nat.le_of_ble_eq_true rfl) dX12_head_91 ⟨Nat.le_of_ble_eq_true rfl, Nat.le_of_ble_eq_true rfl⟩ (fun H locs h => ?_)
        obtain ⟨g28, hm⟩ := grd_s hm
        refine z_if_ge (tgt := 140) C dX12_head_94 (by decide) g28 (fun c29 => ?_) (fun c29 => ?_)
        · have hm := ite_f c29 hm
          exact lm_head_140 (N := N) C hr hlk  (lv_sub hl [0] rfl) h hm
        · have hm := ite_t c29 hm
          refine lv_aload_n C.1 C.2.1 dX12_head_97 rfl (lv_at hl 0 rfl) ?_
          refine fg_7 C h dX12_head_98 ?_
          refine lv_aload_n C.1 C.2.1 dX12_head_101 rfl (lv_at hl 0 rfl) ?_
          refine fg_29 C h dX12_head_102 ?_
          refine lv_iload_n C.1 C.2.1 dX12_head_105 rfl (lv_at hl 1 rfl) ?_
          obtain ⟨g30, hm⟩ := grd_s hm
          refine al_83 C h dX12_head_106 g30 ?_
          obtain ⟨g31, hm⟩ := grd_s hm
          obtain ⟨g32, hm⟩ := grd_s hm
          refine W.lcmp C.1 C.2.1 dX12_head_107 ?_
          refine z_lcmp_ne (tgt := 125) C dX12_head_108 (by decide) g31 g32 (fun c33 => ?_) (fun c33 => ?_)
          · have hm := ite_f c33 hm
            exact lm_head_125 (N := N) C hr hlk hrec75 (lv_sub hl [0, 1] rfl) h hm
          · have hm := ite_t c33 hm
            refine lv_aload_n C.1 C.2.1 dX12_head_111 rfl (lv_at hl 0 rfl) ?_
            refine fg_8 C h dX12_head_112 ?_
            refine lv_aload_n C.1 C.2.1 dX12_head_115 rfl (lv_at hl 0 rfl) ?_
            refine fg_30 C h dX12_head_116 ?_
            refine lv_iload_n C.1 C.2.1 dX12_head_119 rfl (lv_at hl 1 rfl) ?_
            refine al_82 C h dX12_head_120 g30 ?_
            obtain ⟨g34, hm⟩ := grd_s hm
            obtain ⟨g35, hm⟩ := grd_s hm
            refine W.lcmp C.1 C.2.1 dX12_head_121 ?_
            refine z_lcmp_eq (tgt := 140) C dX12_head_122 (by decide) g34 g35 (fun c36 => ?_) (fun c36 => ?_)
            · have hm := ite_t c36 hm
              exact lm_head_140 (N := N) C hr hlk  (lv_sub hl [0] rfl) h hm
            · have hm := ite_f c36 hm
              exact lm_head_125 (N := N) C hr hlk hrec75 (lv_sub hl [0, 1] rfl) h hm
set_option maxHeartbeats 4000000 in
set_option maxRecDepth 100000 in
theorem lm_head_44 {r : St} (C : Cx p s m args c cX12_head RX12 (cd :: rW) D (TYs k) 2) (hr : meth.sig.returnType = none) (hlk : meth.locks = false)  {ls : Array Slot} {H : Heap} {locs : List Loc} {σ : St} {x1 : Int} (hl : lv_has ls 2 [(0, .ref (g 0)), (1, .int (Int32.ofInt x1))]) (h : Hp D A s.heap H locs (mW k g σ)) (hm : r_head_44 N  σ x1 = some r) : W p l e { frames := 4, cells := 0, slots := 0, locals := 89 } s m args below meth c H locs 0 0 (MQ below (va_Qv (fun (_ : Unit) => True) (fun _ t => PostW D (TYs k) A (mW k g r) t) A) args s 0 0 A) (F0 m 44 ls []) := by
  rw [r_head_44] at hm
  refine lv_aload_n C.1 C.2.1 dX12_head_44 rfl (lv_at hl 0 rfl) ?_
  refine fg_29 C h dX12_head_45 ?_
  refine lv_iload_n C.1 C.2.1 dX12_head_48 rfl (lv_at hl 1 rfl) ?_
  refine lv_aload_n C.1 C.2.1 dX12_head_49 rfl (lv_at hl 0 rfl) ?_
  refine fg_7 C h dX12_head_50 ?_
  obtain ⟨g15, hm⟩ := grd_s hm
  refine as_83 C h dX12_head_53 g15 (fun H locs h => ?_)
  refine lv_aload_n C.1 C.2.1 dX12_head_54 rfl (lv_at hl 0 rfl) ?_
  refine fg_30 C h dX12_head_55 ?_
  refine lv_iload_n C.1 C.2.1 dX12_head_58 rfl (lv_at hl 1 rfl) ?_
  refine lv_aload_n C.1 C.2.1 dX12_head_59 rfl (lv_at hl 0 rfl) ?_
  refine fg_8 C h dX12_head_60 ?_
  refine x_topl (y := Int64.ofInt (fl σ 8 0)) rfl ?_
  refine as_82 C h dX12_head_63 g15 (fun H locs h => ?_)
  refine lv_aload_n C.1 C.2.1 dX12_head_64 rfl (lv_at hl 0 rfl) ?_
  refine fg_11 C h dX12_head_65 ?_
  refine x_topi (y := Int32.ofInt (fl σ 11 0)) rfl ?_
  obtain ⟨g16, hm⟩ := grd_s hm
  refine z_if_ne (tgt := 75) C dX12_head_68 (by decide) g16 (fun c17 => ?_) (fun c17 => ?_)
  · have hm := ite_f c17 hm
    exact lm_head_75 (N := N) C hr hlk  N (lv_sub hl [0, 1] rfl) h hm
  · have hm := ite_t c17 hm
    refine lv_aload_n C.1 C.2.1 dX12_head_71 rfl (lv_at hl 0 rfl) ?_
    obtain ⟨σ18, e19, hm⟩ := bnd_s hm
    rw [e19] at h
    obtain ⟨r20, e21, hm⟩ := obd_s hm
    refine q_callVv C h (rc_advance l D k g N σ18  r20 e21) (cwV 0 C.2.2.1 (gR_advance _) rfl rfl rfl hd_advance ⟨Nat.le_of_ble_eq_true rfl, Nat.le_of_ble_eq_true rfl⟩) rfl hl.1 rfl (Nat.le_of_ble_eq_true rfl) dX12_head_72 ⟨Nat.le_of_ble_eq_true rfl, Nat.le_of_ble_eq_true rfl⟩ (fun H locs h => ?_)
    exact lm_head_75 (N := N) C hr hlk  N (lv_sub hl [0, 1] rfl) h hm
set_option maxHeartbeats 4000000 in
set_option maxRecDepth 100000 in
theorem rc_head (l : Launch) (D : va_G) (k : Nat → ClassId) (g : Nat → Nat) (N : Nat) (σ : St)  (r : St) (hm : r_head N σ  = some r) : Mv l yX12_head (.code yX12_head cX12_head 2 none :: rW) { frames := 4, cells := 0, slots := 0, locals := 89 } [.ref (g 0)] D (TYs k) (mW k g σ) (fun _ => True) Unit (fun _ => True) (fun _ => mW k g r) 0 0 := by
  intro sz
  refine x_met (cc := cX12_head) (maxL := 2) (ret := none) (by decide) rfl (Nat.le_of_ble_eq_true rfl) ?_
  intro p e s m below meth c ls C hX hsz hr hlk hmn hl h
  have hl : lv_has ls 2 [(0, .ref (g 0))] := hl
  rw [r_head] at hm
  refine lv_aload_n C.1 C.2.1 dX12_head_0 rfl (lv_at hl 0 rfl) ?_
  refine fg_28 C h dX12_head_1 ?_
  refine lv_istore_n (lv' := [(1, .int (Int32.ofInt (fl σ 28 0))), (0, .ref (g 0))]) C.1 C.2.1 dX12_head_4 rfl hl (by decide) rfl (fun ls hl => ?_)
  refine lv_aload_n C.1 C.2.1 dX12_head_5 rfl (lv_at hl 1 rfl) ?_
  refine lv_iconst (v := Int32.ofInt 0) C.1 C.2.1 dX12_head_6 (by decide) ?_
  refine fp_38 C h dX12_head_7 (fun H locs h => ?_)
  refine lv_aload_n C.1 C.2.1 dX12_head_10 rfl (lv_at hl 1 rfl) ?_
  refine fg_3 C h dX12_head_11 ?_
  refine x_topi (y := Int32.ofInt (fl σ 3 0)) rfl ?_
  refine lv_iconst (v := Int32.ofInt 2) C.1 C.2.1 dX12_head_14 (by decide) ?_
  obtain ⟨g1, hm⟩ := grd_s hm
  refine z_icmp_eq (tgt := 28) C dX12_head_15 (by decide) g1 (by decide) (fun c2 => ?_) (fun c2 => ?_)
  · have hm := ite_t c2 hm
    refine lv_aload_n C.1 C.2.1 dX12_head_28 rfl (lv_at hl 1 rfl) ?_
    obtain ⟨σ3, e4, hm⟩ := bnd_s hm
    rw [e4] at h
    obtain ⟨r5, e6, hm⟩ := obd_s hm
    refine q_callVi C h (rc_functionHere l D k g N σ3  r5 e6) (cwV 0 C.2.2.1 (gR_functionHere _) rfl rfl rfl hd_functionHere ⟨Nat.le_of_ble_eq_true rfl, Nat.le_of_ble_eq_true rfl⟩) rfl hl.1 rfl (Nat.le_of_ble_eq_true rfl) dX12_head_29 ⟨Nat.le_of_ble_eq_true rfl, Nat.le_of_ble_eq_true rfl⟩ (fun H locs h => ?_)
    obtain ⟨g7, hm⟩ := grd_s hm
    refine z_if_lt (tgt := 44) C dX12_head_32 (by decide) g7 (fun c8 => ?_) (fun c8 => ?_)
    · have hm := ite_t c8 hm
      exact lm_head_44 (N := N) C hr hlk  (lv_sub hl [1, 0] rfl) h hm
    · have hm := ite_f c8 hm
      refine lv_aload_n C.1 C.2.1 dX12_head_35 rfl (lv_at hl 1 rfl) ?_
      refine lv_iconst (v := Int32.ofInt 2) C.1 C.2.1 dX12_head_36 (by decide) ?_
      refine lv_aload_n C.1 C.2.1 dX12_head_37 rfl (lv_at hl 1 rfl) ?_
      refine fg_4 C h dX12_head_38 ?_
      obtain ⟨r9, e10, hm⟩ := obd_s hm
      refine q_callVv C h (rc_fail l D k g N r5.1 2 (fl r5.1 4 0) r9 e10) (cwV 2 C.2.2.1 (gR_fail _) rfl rfl rfl hd_fail ⟨Nat.le_of_ble_eq_true rfl, Nat.le_of_ble_eq_true rfl⟩) rfl hl.1 rfl (Nat.le_of_ble_eq_true rfl) dX12_head_41 ⟨Nat.le_of_ble_eq_true rfl, Nat.le_of_ble_eq_true rfl⟩ (fun H locs h => ?_)
      exact lm_head_44 (N := N) C hr hlk  (lv_sub hl [1, 0] rfl) h hm
  · have hm := ite_f c2 hm
    refine lv_aload_n C.1 C.2.1 dX12_head_18 rfl (lv_at hl 1 rfl) ?_
    refine lv_iconst (v := Int32.ofInt 1) C.1 C.2.1 dX12_head_19 (by decide) ?_
    refine lv_aload_n C.1 C.2.1 dX12_head_20 rfl (lv_at hl 1 rfl) ?_
    refine fg_4 C h dX12_head_21 ?_
    refine x_topi (y := Int32.ofInt (fl σ 4 0)) rfl ?_
    obtain ⟨σ11, e12, hm⟩ := bnd_s hm
    rw [e12] at h
    obtain ⟨r13, e14, hm⟩ := obd_s hm
    refine q_callVv C h (rc_fail l D k g N σ11 1 (fl σ 4 0) r13 e14) (cwV 2 C.2.2.1 (gR_fail _) rfl rfl rfl hd_fail ⟨Nat.le_of_ble_eq_true rfl, Nat.le_of_ble_eq_true rfl⟩) rfl hl.1 rfl (Nat.le_of_ble_eq_true rfl) dX12_head_24 ⟨Nat.le_of_ble_eq_true rfl, Nat.le_of_ble_eq_true rfl⟩ (fun H locs h => ?_)
    cases hm
    exact q_vret C h hr hlk dX12_head_27
end L_head
section L_line
variable {p : Program} {l : Launch} {e : Env} {s : State} {m : MethodId} {args : Array Value} {below : List Frame} {meth : Method} {c : Code} {D : va_G} {A : Nat → Prop} {k : Nat → ClassId} {g : Nat → Nat} {N : Nat} {cd : Cond}
set_option maxHeartbeats 4000000 in
set_option maxRecDepth 100000 in
theorem lm_line_188 {r : St} (C : Cx p s m args c cX12_line RX12 (cd :: rW) D (TYs k) 4) (hr : meth.sig.returnType = none) (hlk : meth.locks = false) {rec138 : St → Int → Int → Option St} (hrec138 : ∀ {ls : Array Slot} {H : Heap} {locs : List Loc} {σ : St} {x2 : Int} {x3 : Int}, lv_has ls 4 [(0, .ref (g 0)), (2, .int (Int32.ofInt x2)), (3, .int (Int32.ofInt x3))] → Hp D A s.heap H locs (mW k g σ) → rec138 σ x2 x3 = some r → W p l e { frames := 10, cells := 0, slots := 0, locals := 246 } s m args below meth c H locs 0 0 (MQ below (va_Qv (fun (_ : Unit) => True) (fun _ t => PostW D (TYs k) A (mW k g r) t) A) args s 0 0 A) (F0 m 138 ls [])) {ls : Array Slot} {H : Heap} {locs : List Loc} {σ : St} {x2 : Int} {x3 : Int} (hl : lv_has ls 4 [(0, .ref (g 0)), (2, .int (Int32.ofInt x2)), (3, .int (Int32.ofInt x3))]) (h : Hp D A s.heap H locs (mW k g σ)) (hm : r_line_188 N rec138 σ x2 x3 = some r) : W p l e { frames := 10, cells := 0, slots := 0, locals := 246 } s m args below meth c H locs 0 0 (MQ below (va_Qv (fun (_ : Unit) => True) (fun _ t => PostW D (TYs k) A (mW k g r) t) A) args s 0 0 A) (F0 m 188 ls []) := by
  rw [r_line_188] at hm
  refine lv_iinc (v := Int32.ofInt (x3 + 1)) (lv' := [(3, .int (Int32.ofInt (x3 + 1))), (0, .ref (g 0)), (2, .int (Int32.ofInt x2))]) C.1 C.2.1 dX12_line_188 hl (k := 2) rfl (c32_add _ _) (by decide) rfl (fun ls hl => ?_)
  refine lv_goto (tgt := 138) C.1 C.2.1 dX12_line_191 (by decide) ?_
  exact hrec138 (lv_sub hl [1, 2, 0] rfl) h hm
set_option maxHeartbeats 4000000 in
set_option maxRecDepth 100000 in
theorem lm_line_194 {r : St} (C : Cx p s m args c cX12_line RX12 (cd :: rW) D (TYs k) 4) (hr : meth.sig.returnType = none) (hlk : meth.locks = false)  {ls : Array Slot} {H : Heap} {locs : List Loc} {σ : St} {x2 : Int} {x3 : Int} (hl : lv_has ls 4 [(0, .ref (g 0)), (2, .int (Int32.ofInt x2)), (3, .int (Int32.ofInt x3))]) (h : Hp D A s.heap H locs (mW k g σ)) (hm : r_line_194 N  σ x2 x3 = some r) : W p l e { frames := 10, cells := 0, slots := 0, locals := 246 } s m args below meth c H locs 0 0 (MQ below (va_Qv (fun (_ : Unit) => True) (fun _ t => PostW D (TYs k) A (mW k g r) t) A) args s 0 0 A) (F0 m 194 ls []) := by
  rw [r_line_194] at hm
  refine lv_aload_n C.1 C.2.1 dX12_line_194 rfl (lv_at hl 0 rfl) ?_
  refine fg_37 C h dX12_line_195 ?_
  refine lv_iload_n C.1 C.2.1 dX12_line_198 rfl (lv_at hl 2 rfl) ?_
  refine lv_iload_n C.1 C.2.1 dX12_line_199 rfl (lv_at hl 1 rfl) ?_
  obtain ⟨g37, hm⟩ := grd_s hm
  refine as_77 C h dX12_line_200 g37 (fun H locs h => ?_)
  refine lv_iload_n C.1 C.2.1 dX12_line_201 rfl (lv_at hl 2 rfl) ?_
  refine lv_aload_n C.1 C.2.1 dX12_line_202 rfl (lv_at hl 0 rfl) ?_
  refine fg_36 C h dX12_line_203 ?_
  refine x_topi (y := Int32.ofInt (fl σ 36 0)) rfl ?_
  obtain ⟨g38, hm⟩ := grd_s hm
  refine z_icmp_ne (tgt := 219) C dX12_line_206 (by decide) (inb_i32 (n := 700) (by decide) g37) g38 (fun c39 => ?_) (fun c39 => ?_)
  · have hm := ite_f c39 hm
    cases hm
    exact q_vret C h hr hlk dX12_line_219
  · have hm := ite_t c39 hm
    refine lv_aload_n C.1 C.2.1 dX12_line_209 rfl (lv_at hl 0 rfl) ?_
    refine lv_dup C.1 C.2.1 dX12_line_210 rfl ?_
    refine fg_36 C h dX12_line_211 ?_
    refine x_topi (y := Int32.ofInt (fl σ 36 0)) rfl ?_
    refine lv_iconst (v := Int32.ofInt 1) C.1 C.2.1 dX12_line_214 (by decide) ?_
    refine z_iadd C dX12_line_215 ?_
    refine fp_36 C h dX12_line_216 (fun H locs h => ?_)
    cases hm
    exact q_vret C h hr hlk dX12_line_219
set_option maxHeartbeats 4000000 in
set_option maxRecDepth 100000 in
theorem lm_line_138 {r : St} (C : Cx p s m args c cX12_line RX12 (cd :: rW) D (TYs k) 4) (hr : meth.sig.returnType = none) (hlk : meth.locks = false)  (n : Nat) : ∀ {ls : Array Slot} {H : Heap} {locs : List Loc} {σ : St} {x2 : Int} {x3 : Int}, lv_has ls 4 [(0, .ref (g 0)), (2, .int (Int32.ofInt x2)), (3, .int (Int32.ofInt x3))] → Hp D A s.heap H locs (mW k g σ) → r_line_138 N  n σ x2 x3 = some r → W p l e { frames := 10, cells := 0, slots := 0, locals := 246 } s m args below meth c H locs 0 0 (MQ below (va_Qv (fun (_ : Unit) => True) (fun _ t => PostW D (TYs k) A (mW k g r) t) A) args s 0 0 A) (F0 m 138 ls []) := by
  induction n with
  | zero => intro ls H locs σ x2 x3 hl h hm; cases (show none = some r from hm)
  | succ n hrec138 =>
    intro ls H locs σ x2 x3 hl h hm
    rw [r_line_138] at hm
    refine lv_iload_n C.1 C.2.1 dX12_line_138 rfl (lv_at hl 2 rfl) ?_
    refine lv_aload_n C.1 C.2.1 dX12_line_139 rfl (lv_at hl 0 rfl) ?_
    refine fg_36 C h dX12_line_140 ?_
    obtain ⟨g25, hm⟩ := grd_s hm
    obtain ⟨g26, hm⟩ := grd_s hm
    refine z_icmp_ge (tgt := 194) C dX12_line_143 (by decide) g25 g26 (fun c27 => ?_) (fun c27 => ?_)
    · have hm := ite_f c27 hm
      exact lm_line_194 (N := N) C hr hlk  (lv_sub hl [0, 1, 2] rfl) h hm
    · have hm := ite_t c27 hm
      refine lv_aload_n C.1 C.2.1 dX12_line_146 rfl (lv_at hl 0 rfl) ?_
      refine fg_29 C h dX12_line_147 ?_
      refine lv_aload_n C.1 C.2.1 dX12_line_150 rfl (lv_at hl 0 rfl) ?_
      refine fg_37 C h dX12_line_151 ?_
      refine lv_iload_n C.1 C.2.1 dX12_line_154 rfl (lv_at hl 2 rfl) ?_
      obtain ⟨g28, hm⟩ := grd_s hm
      refine al_77 C h dX12_line_155 g28 ?_
      obtain ⟨g29, hm⟩ := grd_s hm
      refine al_83 C h dX12_line_156 g29 ?_
      refine lv_aload_n C.1 C.2.1 dX12_line_157 rfl (lv_at hl 0 rfl) ?_
      refine fg_29 C h dX12_line_158 ?_
      refine lv_iload_n C.1 C.2.1 dX12_line_161 rfl (lv_at hl 1 rfl) ?_
      obtain ⟨g30, hm⟩ := grd_s hm
      refine al_83 C h dX12_line_162 g30 ?_
      obtain ⟨g31, hm⟩ := grd_s hm
      obtain ⟨g32, hm⟩ := grd_s hm
      refine W.lcmp C.1 C.2.1 dX12_line_163 ?_
      refine z_lcmp_ne (tgt := 188) C dX12_line_164 (by decide) g31 g32 (fun c33 => ?_) (fun c33 => ?_)
      · have hm := ite_f c33 hm
        exact lm_line_188 (N := N) C hr hlk hrec138 (lv_sub hl [0, 1, 2] rfl) h hm
      · have hm := ite_t c33 hm
        refine lv_aload_n C.1 C.2.1 dX12_line_167 rfl (lv_at hl 0 rfl) ?_
        refine fg_30 C h dX12_line_168 ?_
        refine lv_aload_n C.1 C.2.1 dX12_line_171 rfl (lv_at hl 0 rfl) ?_
        refine fg_37 C h dX12_line_172 ?_
        refine lv_iload_n C.1 C.2.1 dX12_line_175 rfl (lv_at hl 2 rfl) ?_
        refine al_77 C h dX12_line_176 g28 ?_
        refine al_82 C h dX12_line_177 g29 ?_
        refine lv_aload_n C.1 C.2.1 dX12_line_178 rfl (lv_at hl 0 rfl) ?_
        refine fg_30 C h dX12_line_179 ?_
        refine lv_iload_n C.1 C.2.1 dX12_line_182 rfl (lv_at hl 1 rfl) ?_
        refine al_82 C h dX12_line_183 g30 ?_
        obtain ⟨g34, hm⟩ := grd_s hm
        obtain ⟨g35, hm⟩ := grd_s hm
        refine W.lcmp C.1 C.2.1 dX12_line_184 ?_
        refine z_lcmp_eq (tgt := 194) C dX12_line_185 (by decide) g34 g35 (fun c36 => ?_) (fun c36 => ?_)
        · have hm := ite_t c36 hm
          exact lm_line_194 (N := N) C hr hlk  (lv_sub hl [0, 1, 2] rfl) h hm
        · have hm := ite_f c36 hm
          exact lm_line_188 (N := N) C hr hlk hrec138 (lv_sub hl [0, 1, 2] rfl) h hm
set_option maxHeartbeats 4000000 in
set_option maxRecDepth 100000 in
theorem lm_line_118 {r : St} (C : Cx p s m args c cX12_line RX12 (cd :: rW) D (TYs k) 4) (hr : meth.sig.returnType = none) (hlk : meth.locks = false)  {ls : Array Slot} {H : Heap} {locs : List Loc} {σ : St} {x2 : Int} (hl : lv_has ls 4 [(0, .ref (g 0)), (2, .int (Int32.ofInt x2))]) (h : Hp D A s.heap H locs (mW k g σ)) (hm : r_line_118 N  σ x2 = some r) : W p l e { frames := 10, cells := 0, slots := 0, locals := 246 } s m args below meth c H locs 0 0 (MQ below (va_Qv (fun (_ : Unit) => True) (fun _ t => PostW D (TYs k) A (mW k g r) t) A) args s 0 0 A) (F0 m 118 ls []) := by
  rw [r_line_118] at hm
  refine lv_aload_n C.1 C.2.1 dX12_line_118 rfl (lv_at hl 0 rfl) ?_
  refine fg_11 C h dX12_line_119 ?_
  obtain ⟨g23, hm⟩ := grd_s hm
  refine z_if_eq (tgt := 126) C dX12_line_122 (by decide) g23 (fun c24 => ?_) (fun c24 => ?_)
  · have hm := ite_t c24 hm
    refine lv_aload_n C.1 C.2.1 dX12_line_126 rfl (lv_at hl 0 rfl) ?_
    refine lv_dup C.1 C.2.1 dX12_line_127 rfl ?_
    refine fg_28 C h dX12_line_128 ?_
    refine lv_iconst (v := Int32.ofInt 1) C.1 C.2.1 dX12_line_131 (by decide) ?_
    refine z_iadd C dX12_line_132 ?_
    refine fp_28 C h dX12_line_133 (fun H locs h => ?_)
    refine lv_iconst (v := Int32.ofInt 0) C.1 C.2.1 dX12_line_136 (by decide) ?_
    refine lv_istore_n (lv' := [(3, .int (Int32.ofInt 0)), (0, .ref (g 0)), (2, .int (Int32.ofInt x2))]) C.1 C.2.1 dX12_line_137 rfl hl (by decide) rfl (fun ls hl => ?_)
    exact lm_line_138 (N := N) C hr hlk  N (lv_sub hl [1, 2, 0] rfl) h hm
  · have hm := ite_f c24 hm
    cases hm
    exact q_vret C h hr hlk dX12_line_125
set_option maxHeartbeats 4000000 in
set_option maxRecDepth 100000 in
theorem lm_line_52 {r : St} (C : Cx p s m args c cX12_line RX12 (cd :: rW) D (TYs k) 4) (hr : meth.sig.returnType = none) (hlk : meth.locks = false)  {ls : Array Slot} {H : Heap} {locs : List Loc} {σ : St} {x1 : Int} (hl : lv_has ls 4 [(0, .ref (g 0)), (1, .int (Int32.ofInt x1))]) (h : Hp D A s.heap H locs (mW k g σ)) (hm : r_line_52 N  σ x1 = some r) : W p l e { frames := 10, cells := 0, slots := 0, locals := 246 } s m args below meth c H locs 0 0 (MQ below (va_Qv (fun (_ : Unit) => True) (fun _ t => PostW D (TYs k) A (mW k g r) t) A) args s 0 0 A) (F0 m 52 ls []) := by
  rw [r_line_52] at hm
  refine lv_aload_n C.1 C.2.1 dX12_line_52 rfl (lv_at hl 0 rfl) ?_
  refine fg_11 C h dX12_line_53 ?_
  obtain ⟨g14, hm⟩ := grd_s hm
  refine z_if_eq (tgt := 60) C dX12_line_56 (by decide) g14 (fun c15 => ?_) (fun c15 => ?_)
  · have hm := ite_t c15 hm
    refine lv_aload_n C.1 C.2.1 dX12_line_60 rfl (lv_at hl 0 rfl) ?_
    refine fg_28 C h dX12_line_61 ?_
    refine lv_istore_n (lv' := [(2, .int (Int32.ofInt (fl σ 28 0))), (0, .ref (g 0)), (1, .int (Int32.ofInt x1))]) C.1 C.2.1 dX12_line_64 rfl hl (by decide) rfl (fun ls hl => ?_)
    refine lv_aload_n C.1 C.2.1 dX12_line_65 rfl (lv_at hl 1 rfl) ?_
    refine fg_31 C h dX12_line_66 ?_
    refine lv_iload_n C.1 C.2.1 dX12_line_69 rfl (lv_at hl 0 rfl) ?_
    refine lv_aload_n C.1 C.2.1 dX12_line_70 rfl (lv_at hl 1 rfl) ?_
    refine fg_38 C h dX12_line_71 ?_
    obtain ⟨g16, hm⟩ := grd_s hm
    refine as_81 C h dX12_line_74 g16 (fun H locs h => ?_)
    refine lv_aload_n C.1 C.2.1 dX12_line_75 rfl (lv_at hl 1 rfl) ?_
    refine fg_32 C h dX12_line_76 ?_
    refine lv_iload_n C.1 C.2.1 dX12_line_79 rfl (lv_at hl 0 rfl) ?_
    refine lv_aload_n C.1 C.2.1 dX12_line_80 rfl (lv_at hl 1 rfl) ?_
    refine fg_46 C h dX12_line_81 ?_
    refine x_topi (y := Int32.ofInt (fl σ 46 0)) rfl ?_
    refine as_80 C h dX12_line_84 g16 (fun H locs h => ?_)
    refine lv_aload_n C.1 C.2.1 dX12_line_85 rfl (lv_at hl 1 rfl) ?_
    refine fg_33 C h dX12_line_86 ?_
    refine lv_iload_n C.1 C.2.1 dX12_line_89 rfl (lv_at hl 0 rfl) ?_
    refine lv_iconst (v := Int32.ofInt (-1)) C.1 C.2.1 dX12_line_90 (by decide) ?_
    refine as_79 C h dX12_line_91 g16 (fun H locs h => ?_)
    refine lv_aload_n C.1 C.2.1 dX12_line_92 rfl (lv_at hl 1 rfl) ?_
    refine fg_38 C h dX12_line_93 ?_
    refine x_topi (y := Int32.ofInt (fl σ 38 0)) rfl ?_
    obtain ⟨g17, hm⟩ := grd_s hm
    refine z_if_ne (tgt := 118) C dX12_line_96 (by decide) g17 (fun c18 => ?_) (fun c18 => ?_)
    · have hm := ite_f c18 hm
      exact lm_line_118 (N := N) C hr hlk  (lv_sub hl [1, 0] rfl) h hm
    · have hm := ite_t c18 hm
      refine lv_aload_n C.1 C.2.1 dX12_line_99 rfl (lv_at hl 1 rfl) ?_
      refine fg_33 C h dX12_line_100 ?_
      refine lv_iload_n C.1 C.2.1 dX12_line_103 rfl (lv_at hl 0 rfl) ?_
      refine lv_aload_n C.1 C.2.1 dX12_line_104 rfl (lv_at hl 1 rfl) ?_
      refine lv_aload_n C.1 C.2.1 dX12_line_105 rfl (lv_at hl 1 rfl) ?_
      refine fg_46 C h dX12_line_106 ?_
      refine x_topi (y := Int32.ofInt (fl σ 46 0)) rfl ?_
      obtain ⟨σ19, e20, hm⟩ := bnd_s hm
      rw [e20] at h
      obtain ⟨r21, e22, hm⟩ := obd_s hm
      refine q_callVi C h (rc_makes l D k g N σ19 (fl σ 46 0) r21 e22) (cwV 1 C.2.2.1 (gR_makes _) rfl rfl rfl hd_makes ⟨Nat.le_of_ble_eq_true rfl, Nat.le_of_ble_eq_true rfl⟩) rfl hl.1 rfl (Nat.le_of_ble_eq_true rfl) dX12_line_109 ⟨Nat.le_of_ble_eq_true rfl, Nat.le_of_ble_eq_true rfl⟩ (fun H locs h => ?_)
      refine as_79 C h dX12_line_112 g16 (fun H locs h => ?_)
      refine lv_aload_n C.1 C.2.1 dX12_line_113 rfl (lv_at hl 1 rfl) ?_
      refine lv_iload_n C.1 C.2.1 dX12_line_114 rfl (lv_at hl 2 rfl) ?_
      refine fp_16 C h dX12_line_115 (fun H locs h => ?_)
      exact lm_line_118 (N := N) C hr hlk  (lv_sub hl [1, 0] rfl) h hm
  · have hm := ite_f c15 hm
    cases hm
    exact q_vret C h hr hlk dX12_line_59
set_option maxHeartbeats 4000000 in
set_option maxRecDepth 100000 in
theorem rc_line (l : Launch) (D : va_G) (k : Nat → ClassId) (g : Nat → Nat) (N : Nat) (σ : St)  (r : St) (hm : r_line N σ  = some r) : Mv l yX12_line (.code yX12_line cX12_line 4 none :: rW) { frames := 10, cells := 0, slots := 0, locals := 246 } [.ref (g 0)] D (TYs k) (mW k g σ) (fun _ => True) Unit (fun _ => True) (fun _ => mW k g r) 0 0 := by
  intro sz
  refine x_met (cc := cX12_line) (maxL := 4) (ret := none) (by decide) rfl (Nat.le_of_ble_eq_true rfl) ?_
  intro p e s m below meth c ls C hX hsz hr hlk hmn hl h
  have hl : lv_has ls 4 [(0, .ref (g 0))] := hl
  rw [r_line] at hm
  refine lv_aload_n C.1 C.2.1 dX12_line_0 rfl (lv_at hl 0 rfl) ?_
  refine fg_16 C h dX12_line_1 ?_
  refine lv_istore_n (lv' := [(1, .int (Int32.ofInt (fl σ 16 0))), (0, .ref (g 0))]) C.1 C.2.1 dX12_line_4 rfl hl (by decide) rfl (fun ls hl => ?_)
  refine lv_aload_n C.1 C.2.1 dX12_line_5 rfl (lv_at hl 1 rfl) ?_
  obtain ⟨r1, e2, hm⟩ := obd_s hm
  refine q_callVv C h (rc_head l D k g N σ  r1 e2) (cwV 0 C.2.2.1 (gR_head _) rfl rfl rfl hd_head ⟨Nat.le_of_ble_eq_true rfl, Nat.le_of_ble_eq_true rfl⟩) rfl hl.1 rfl (Nat.le_of_ble_eq_true rfl) dX12_line_6 ⟨Nat.le_of_ble_eq_true rfl, Nat.le_of_ble_eq_true rfl⟩ (fun H locs h => ?_)
  refine lv_aload_n C.1 C.2.1 dX12_line_9 rfl (lv_at hl 1 rfl) ?_
  refine fg_11 C h dX12_line_10 ?_
  obtain ⟨g3, hm⟩ := grd_s hm
  refine z_if_eq (tgt := 17) C dX12_line_13 (by decide) g3 (fun c4 => ?_) (fun c4 => ?_)
  · have hm := ite_t c4 hm
    refine lv_aload_n C.1 C.2.1 dX12_line_17 rfl (lv_at hl 1 rfl) ?_
    obtain ⟨r5, e6, hm⟩ := obd_s hm
    refine q_callVv C h (rc_readExp l D k g N r1  r5 e6) (cwV 0 C.2.2.1 (gR_readExp _) rfl rfl rfl hd_readExp ⟨Nat.le_of_ble_eq_true rfl, Nat.le_of_ble_eq_true rfl⟩) rfl hl.1 rfl (Nat.le_of_ble_eq_true rfl) dX12_line_18 ⟨Nat.le_of_ble_eq_true rfl, Nat.le_of_ble_eq_true rfl⟩ (fun H locs h => ?_)
    refine lv_aload_n C.1 C.2.1 dX12_line_21 rfl (lv_at hl 1 rfl) ?_
    refine fg_11 C h dX12_line_22 ?_
    obtain ⟨g7, hm⟩ := grd_s hm
    refine z_if_ne (tgt := 52) C dX12_line_25 (by decide) g7 (fun c8 => ?_) (fun c8 => ?_)
    · have hm := ite_f c8 hm
      exact lm_line_52 (N := N) C hr hlk  (lv_sub hl [1, 0] rfl) h hm
    · have hm := ite_t c8 hm
      refine lv_aload_n C.1 C.2.1 dX12_line_28 rfl (lv_at hl 1 rfl) ?_
      refine fg_3 C h dX12_line_29 ?_
      refine lv_iconst (v := Int32.ofInt 1) C.1 C.2.1 dX12_line_32 (by decide) ?_
      obtain ⟨g9, hm⟩ := grd_s hm
      refine z_icmp_eq (tgt := 52) C dX12_line_33 (by decide) g9 (by decide) (fun c10 => ?_) (fun c10 => ?_)
      · have hm := ite_t c10 hm
        exact lm_line_52 (N := N) C hr hlk  (lv_sub hl [1, 0] rfl) h hm
      · have hm := ite_f c10 hm
        refine lv_aload_n C.1 C.2.1 dX12_line_36 rfl (lv_at hl 1 rfl) ?_
        refine fg_3 C h dX12_line_37 ?_
        refine z_if_eq (tgt := 52) C dX12_line_40 (by decide) g9 (fun c11 => ?_) (fun c11 => ?_)
        · have hm := ite_t c11 hm
          exact lm_line_52 (N := N) C hr hlk  (lv_sub hl [1, 0] rfl) h hm
        · have hm := ite_f c11 hm
          refine lv_aload_n C.1 C.2.1 dX12_line_43 rfl (lv_at hl 1 rfl) ?_
          refine lv_iconst (v := Int32.ofInt 1) C.1 C.2.1 dX12_line_44 (by decide) ?_
          refine lv_aload_n C.1 C.2.1 dX12_line_45 rfl (lv_at hl 1 rfl) ?_
          refine fg_4 C h dX12_line_46 ?_
          obtain ⟨r12, e13, hm⟩ := obd_s hm
          refine q_callVv C h (rc_fail l D k g N r5 1 (fl r5 4 0) r12 e13) (cwV 2 C.2.2.1 (gR_fail _) rfl rfl rfl hd_fail ⟨Nat.le_of_ble_eq_true rfl, Nat.le_of_ble_eq_true rfl⟩) rfl hl.1 rfl (Nat.le_of_ble_eq_true rfl) dX12_line_49 ⟨Nat.le_of_ble_eq_true rfl, Nat.le_of_ble_eq_true rfl⟩ (fun H locs h => ?_)
          exact lm_line_52 (N := N) C hr hlk  (lv_sub hl [1, 0] rfl) h hm
  · have hm := ite_f c4 hm
    cases hm
    exact q_vret C h hr hlk dX12_line_16
end L_line
section L_read
variable {p : Program} {l : Launch} {e : Env} {s : State} {m : MethodId} {args : Array Value} {below : List Frame} {meth : Method} {c : Code} {D : va_G} {A : Nat → Prop} {k : Nat → ClassId} {g : Nat → Nat} {N : Nat} {cd : Cond}
set_option maxHeartbeats 4000000 in
set_option maxRecDepth 100000 in
theorem lm_read_106 {r : St × Int} (C : Cx p s m args c cX12_read RX12 (cd :: rW) D (TYs k) 2) (hr : meth.sig.returnType = (some .int)) (hlk : meth.locks = false)  {ls : Array Slot} {H : Heap} {locs : List Loc} {σ : St}  (hl : lv_has ls 2 [(0, .ref (g 0))]) (h : Hp D A s.heap H locs (mW k g σ)) (hm : r_read_106 N  σ  = some r) : W p l e { frames := 11, cells := 0, slots := 0, locals := 269 } s m args below meth c H locs 0 0 (MQ below (va_Qi (fun v (_ : Unit) => v = Int32.ofInt r.2) (fun _ t => PostW D (TYs k) A (mW k g r.1) t) A) args s 0 0 A) (F0 m 106 ls []) := by
  rw [r_read_106] at hm
  refine lv_aload_n C.1 C.2.1 dX12_read_106 rfl (lv_at hl 0 rfl) ?_
  obtain ⟨r20, e21, hm⟩ := obd_s hm
  refine q_callVi C h (rc_over l D k g N σ  r20 e21) (cwV 0 C.2.2.1 (gR_over _) rfl rfl rfl hd_over ⟨Nat.le_of_ble_eq_true rfl, Nat.le_of_ble_eq_true rfl⟩) rfl hl.1 rfl (Nat.le_of_ble_eq_true rfl) dX12_read_107 ⟨Nat.le_of_ble_eq_true rfl, Nat.le_of_ble_eq_true rfl⟩ (fun H locs h => ?_)
  cases hm
  exact q_iret C h hr hlk dX12_read_110 rfl
set_option maxHeartbeats 4000000 in
set_option maxRecDepth 100000 in
theorem lm_read_80 {r : St × Int} (C : Cx p s m args c cX12_read RX12 (cd :: rW) D (TYs k) 2) (hr : meth.sig.returnType = (some .int)) (hlk : meth.locks = false)  (n : Nat) : ∀ {ls : Array Slot} {H : Heap} {locs : List Loc} {σ : St} {x1 : Int}, lv_has ls 2 [(0, .ref (g 0)), (1, .int (Int32.ofInt x1))] → Hp D A s.heap H locs (mW k g σ) → r_read_80 N  n σ x1 = some r → W p l e { frames := 11, cells := 0, slots := 0, locals := 269 } s m args below meth c H locs 0 0 (MQ below (va_Qi (fun v (_ : Unit) => v = Int32.ofInt r.2) (fun _ t => PostW D (TYs k) A (mW k g r.1) t) A) args s 0 0 A) (F0 m 80 ls []) := by
  induction n with
  | zero => intro ls H locs σ x1 hl h hm; cases (show none = some r from hm)
  | succ n hrec80 =>
    intro ls H locs σ x1 hl h hm
    rw [r_read_80] at hm
    refine lv_iload_n C.1 C.2.1 dX12_read_80 rfl (lv_at hl 1 rfl) ?_
    refine lv_aload_n C.1 C.2.1 dX12_read_81 rfl (lv_at hl 0 rfl) ?_
    refine fg_34 C h dX12_read_82 ?_
    obtain ⟨g22, hm⟩ := grd_s hm
    obtain ⟨g23, hm⟩ := grd_s hm
    refine z_icmp_ge (tgt := 106) C dX12_read_85 (by decide) g22 g23 (fun c24 => ?_) (fun c24 => ?_)
    · have hm := ite_f c24 hm
      exact lm_read_106 (N := N) C hr hlk  (lv_sub hl [0] rfl) h hm
    · have hm := ite_t c24 hm
      refine lv_aload_n C.1 C.2.1 dX12_read_88 rfl (lv_at hl 0 rfl) ?_
      refine fg_35 C h dX12_read_89 ?_
      refine lv_iload_n C.1 C.2.1 dX12_read_92 rfl (lv_at hl 1 rfl) ?_
      refine lv_aload_n C.1 C.2.1 dX12_read_93 rfl (lv_at hl 0 rfl) ?_
      refine fg_37 C h dX12_read_94 ?_
      refine lv_iload_n C.1 C.2.1 dX12_read_97 rfl (lv_at hl 1 rfl) ?_
      obtain ⟨g25, hm⟩ := grd_s hm
      refine al_77 C h dX12_read_98 g25 ?_
      obtain ⟨g26, hm⟩ := grd_s hm
      refine as_78 C h dX12_read_99 g26 (fun H locs h => ?_)
      refine lv_iinc (v := Int32.ofInt (x1 + 1)) (lv' := [(1, .int (Int32.ofInt (x1 + 1))), (0, .ref (g 0))]) C.1 C.2.1 dX12_read_100 hl (k := 1) rfl (c32_add _ _) (by decide) rfl (fun ls hl => ?_)
      refine lv_goto (tgt := 80) C.1 C.2.1 dX12_read_103 (by decide) ?_
      exact hrec80 (lv_sub hl [1, 0] rfl) h hm
set_option maxHeartbeats 4000000 in
set_option maxRecDepth 100000 in
theorem lm_read_63 {r : St × Int} (C : Cx p s m args c cX12_read RX12 (cd :: rW) D (TYs k) 2) (hr : meth.sig.returnType = (some .int)) (hlk : meth.locks = false)  {ls : Array Slot} {H : Heap} {locs : List Loc} {σ : St}  (hl : lv_has ls 2 [(0, .ref (g 0))]) (h : Hp D A s.heap H locs (mW k g σ)) (hm : r_read_63 N  σ  = some r) : W p l e { frames := 11, cells := 0, slots := 0, locals := 269 } s m args below meth c H locs 0 0 (MQ below (va_Qi (fun v (_ : Unit) => v = Int32.ofInt r.2) (fun _ t => PostW D (TYs k) A (mW k g r.1) t) A) args s 0 0 A) (F0 m 63 ls []) := by
  rw [r_read_63] at hm
  refine lv_aload_n C.1 C.2.1 dX12_read_63 rfl (lv_at hl 0 rfl) ?_
  refine fg_11 C h dX12_read_64 ?_
  obtain ⟨g18, hm⟩ := grd_s hm
  refine z_if_ne (tgt := 106) C dX12_read_67 (by decide) g18 (fun c19 => ?_) (fun c19 => ?_)
  · have hm := ite_f c19 hm
    exact lm_read_106 (N := N) C hr hlk  (lv_sub hl [0] rfl) h hm
  · have hm := ite_t c19 hm
    refine lv_aload_n C.1 C.2.1 dX12_read_70 rfl (lv_at hl 0 rfl) ?_
    refine lv_aload_n C.1 C.2.1 dX12_read_71 rfl (lv_at hl 0 rfl) ?_
    refine fg_36 C h dX12_read_72 ?_
    refine fp_34 C h dX12_read_75 (fun H locs h => ?_)
    refine lv_iconst (v := Int32.ofInt 0) C.1 C.2.1 dX12_read_78 (by decide) ?_
    refine lv_istore_n (lv' := [(1, .int (Int32.ofInt 0)), (0, .ref (g 0))]) C.1 C.2.1 dX12_read_79 rfl hl (by decide) rfl (fun ls hl => ?_)
    exact lm_read_80 (N := N) C hr hlk  N (lv_sub hl [1, 0] rfl) h hm
set_option maxHeartbeats 4000000 in
set_option maxRecDepth 100000 in
theorem lm_read_40 {r : St × Int} (C : Cx p s m args c cX12_read RX12 (cd :: rW) D (TYs k) 2) (hr : meth.sig.returnType = (some .int)) (hlk : meth.locks = false)  {ls : Array Slot} {H : Heap} {locs : List Loc} {σ : St}  (hl : lv_has ls 2 [(0, .ref (g 0))]) (h : Hp D A s.heap H locs (mW k g σ)) (hm : r_read_40 N  σ  = some r) : W p l e { frames := 11, cells := 0, slots := 0, locals := 269 } s m args below meth c H locs 0 0 (MQ below (va_Qi (fun v (_ : Unit) => v = Int32.ofInt r.2) (fun _ t => PostW D (TYs k) A (mW k g r.1) t) A) args s 0 0 A) (F0 m 40 ls []) := by
  rw [r_read_40] at hm
  refine lv_aload_n C.1 C.2.1 dX12_read_40 rfl (lv_at hl 0 rfl) ?_
  refine fg_11 C h dX12_read_41 ?_
  obtain ⟨g12, hm⟩ := grd_s hm
  refine z_if_ne (tgt := 63) C dX12_read_44 (by decide) g12 (fun c13 => ?_) (fun c13 => ?_)
  · have hm := ite_f c13 hm
    exact lm_read_63 (N := N) C hr hlk  (lv_sub hl [0] rfl) h hm
  · have hm := ite_t c13 hm
    refine lv_aload_n C.1 C.2.1 dX12_read_47 rfl (lv_at hl 0 rfl) ?_
    refine fg_36 C h dX12_read_48 ?_
    refine lv_bipush (v := Int32.ofInt 40) C.1 C.2.1 dX12_read_51 (by decide) ?_
    obtain ⟨g14, hm⟩ := grd_s hm
    refine z_icmp_le (tgt := 63) C dX12_read_53 (by decide) g14 (by decide) (fun c15 => ?_) (fun c15 => ?_)
    · have hm := ite_f c15 hm
      exact lm_read_63 (N := N) C hr hlk  (lv_sub hl [0] rfl) h hm
    · have hm := ite_t c15 hm
      refine lv_aload_n C.1 C.2.1 dX12_read_56 rfl (lv_at hl 0 rfl) ?_
      refine lv_bipush (v := Int32.ofInt 11) C.1 C.2.1 dX12_read_57 (by decide) ?_
      refine lv_iconst (v := Int32.ofInt (-1)) C.1 C.2.1 dX12_read_59 (by decide) ?_
      obtain ⟨r16, e17, hm⟩ := obd_s hm
      refine q_callVv C h (rc_fail l D k g N σ 11 (-1) r16 e17) (cwV 2 C.2.2.1 (gR_fail _) rfl rfl rfl hd_fail ⟨Nat.le_of_ble_eq_true rfl, Nat.le_of_ble_eq_true rfl⟩) rfl hl.1 rfl (Nat.le_of_ble_eq_true rfl) dX12_read_60 ⟨Nat.le_of_ble_eq_true rfl, Nat.le_of_ble_eq_true rfl⟩ (fun H locs h => ?_)
      exact lm_read_63 (N := N) C hr hlk  (lv_sub hl [0] rfl) h hm
set_option maxHeartbeats 4000000 in
set_option maxRecDepth 100000 in
theorem lm_read_4 {r : St × Int} (C : Cx p s m args c cX12_read RX12 (cd :: rW) D (TYs k) 2) (hr : meth.sig.returnType = (some .int)) (hlk : meth.locks = false)  (n : Nat) : ∀ {ls : Array Slot} {H : Heap} {locs : List Loc} {σ : St} , lv_has ls 2 [(0, .ref (g 0))] → Hp D A s.heap H locs (mW k g σ) → r_read_4 N  n σ  = some r → W p l e { frames := 11, cells := 0, slots := 0, locals := 269 } s m args below meth c H locs 0 0 (MQ below (va_Qi (fun v (_ : Unit) => v = Int32.ofInt r.2) (fun _ t => PostW D (TYs k) A (mW k g r.1) t) A) args s 0 0 A) (F0 m 4 ls []) := by
  induction n with
  | zero => intro ls H locs σ hl h hm; cases (show none = some r from hm)
  | succ n hrec4 =>
    intro ls H locs σ hl h hm
    rw [r_read_4] at hm
    refine lv_aload_n C.1 C.2.1 dX12_read_4 rfl (lv_at hl 0 rfl) ?_
    refine fg_11 C h dX12_read_5 ?_
    obtain ⟨g3, hm⟩ := grd_s hm
    refine z_if_ne (tgt := 40) C dX12_read_8 (by decide) g3 (fun c4 => ?_) (fun c4 => ?_)
    · have hm := ite_f c4 hm
      exact lm_read_40 (N := N) C hr hlk  (lv_sub hl [0] rfl) h hm
    · have hm := ite_t c4 hm
      refine lv_aload_n C.1 C.2.1 dX12_read_11 rfl (lv_at hl 0 rfl) ?_
      refine fg_3 C h dX12_read_12 ?_
      obtain ⟨g5, hm⟩ := grd_s hm
      refine z_if_eq (tgt := 40) C dX12_read_15 (by decide) g5 (fun c6 => ?_) (fun c6 => ?_)
      · have hm := ite_t c6 hm
        exact lm_read_40 (N := N) C hr hlk  (lv_sub hl [0] rfl) h hm
      · have hm := ite_f c6 hm
        refine lv_aload_n C.1 C.2.1 dX12_read_18 rfl (lv_at hl 0 rfl) ?_
        refine fg_3 C h dX12_read_19 ?_
        refine lv_iconst (v := Int32.ofInt 1) C.1 C.2.1 dX12_read_22 (by decide) ?_
        refine z_icmp_ne (tgt := 33) C dX12_read_23 (by decide) g5 (by decide) (fun c7 => ?_) (fun c7 => ?_)
        · have hm := ite_f c7 hm
          refine lv_aload_n C.1 C.2.1 dX12_read_33 rfl (lv_at hl 0 rfl) ?_
          obtain ⟨r8, e9, hm⟩ := obd_s hm
          refine q_callVv C h (rc_line l D k g N σ  r8 e9) (cwV 0 C.2.2.1 (gR_line _) rfl rfl rfl hd_line ⟨Nat.le_of_ble_eq_true rfl, Nat.le_of_ble_eq_true rfl⟩) rfl hl.1 rfl (Nat.le_of_ble_eq_true rfl) dX12_read_34 ⟨Nat.le_of_ble_eq_true rfl, Nat.le_of_ble_eq_true rfl⟩ (fun H locs h => ?_)
          refine lv_goto (tgt := 4) C.1 C.2.1 dX12_read_37 (by decide) ?_
          exact hrec4 (lv_sub hl [0] rfl) h hm
        · have hm := ite_t c7 hm
          refine lv_aload_n C.1 C.2.1 dX12_read_26 rfl (lv_at hl 0 rfl) ?_
          obtain ⟨r10, e11, hm⟩ := obd_s hm
          refine q_callVv C h (rc_advance l D k g N σ  r10 e11) (cwV 0 C.2.2.1 (gR_advance _) rfl rfl rfl hd_advance ⟨Nat.le_of_ble_eq_true rfl, Nat.le_of_ble_eq_true rfl⟩) rfl hl.1 rfl (Nat.le_of_ble_eq_true rfl) dX12_read_27 ⟨Nat.le_of_ble_eq_true rfl, Nat.le_of_ble_eq_true rfl⟩ (fun H locs h => ?_)
          refine lv_goto (tgt := 4) C.1 C.2.1 dX12_read_30 (by decide) ?_
          exact hrec4 (lv_sub hl [0] rfl) h hm
set_option maxHeartbeats 4000000 in
set_option maxRecDepth 100000 in
theorem rc_read (l : Launch) (D : va_G) (k : Nat → ClassId) (g : Nat → Nat) (N : Nat) (σ : St)  (r : St × Int) (hm : r_read N σ  = some r) : Mi l yX12_read (.code yX12_read cX12_read 2 (some .int) :: rW) { frames := 11, cells := 0, slots := 0, locals := 269 } [.ref (g 0)] D (TYs k) (mW k g σ) (fun _ => True) Unit (fun v _ => v = Int32.ofInt r.2) (fun _ => mW k g r.1) 0 0 := by
  intro sz
  refine x_met (cc := cX12_read) (maxL := 2) (ret := (some .int)) (by decide) rfl (Nat.le_of_ble_eq_true rfl) ?_
  intro p e s m below meth c ls C hX hsz hr hlk hmn hl h
  have hl : lv_has ls 2 [(0, .ref (g 0))] := hl
  rw [r_read] at hm
  refine lv_aload_n C.1 C.2.1 dX12_read_0 rfl (lv_at hl 0 rfl) ?_
  obtain ⟨r1, e2, hm⟩ := obd_s hm
  refine q_callVv C h (rc_begins l D k g N σ  r1 e2) (cwV 0 C.2.2.1 (gR_begins _) rfl rfl rfl hd_begins ⟨Nat.le_of_ble_eq_true rfl, Nat.le_of_ble_eq_true rfl⟩) rfl hl.1 rfl (Nat.le_of_ble_eq_true rfl) dX12_read_1 ⟨Nat.le_of_ble_eq_true rfl, Nat.le_of_ble_eq_true rfl⟩ (fun H locs h => ?_)
  exact lm_read_4 (N := N) C hr hlk  N (lv_sub hl [0] rfl) h hm
end L_read
section L_becomes
variable {p : Program} {l : Launch} {e : Env} {s : State} {m : MethodId} {args : Array Value} {below : List Frame} {meth : Method} {c : Code} {D : va_G} {A : Nat → Prop} {k : Nat → ClassId} {g : Nat → Nat} {N : Nat} {cd : Cond}
set_option maxHeartbeats 4000000 in
set_option maxRecDepth 100000 in
theorem rc_becomes (l : Launch) (D : va_G) (k : Nat → ClassId) (g : Nat → Nat) (N : Nat) (σ : St) (x1 : Int) (x2 : Int) (r : St) (hm : r_becomes N σ x1 x2 = some r) : Mv l yX12_becomes (.code yX12_becomes cX12_becomes 3 none :: rW) { frames := 0, cells := 0, slots := 0, locals := 0 } [.ref (g 0), .int (Int32.ofInt x1), .int (Int32.ofInt x2)] D (TYs k) (mW k g σ) (fun _ => True) Unit (fun _ => True) (fun _ => mW k g r) 0 0 := by
  intro sz
  refine x_met (cc := cX12_becomes) (maxL := 3) (ret := none) (by decide) rfl (Nat.le_of_ble_eq_true rfl) ?_
  intro p e s m below meth c ls C hX hsz hr hlk hmn hl h
  have hl : lv_has ls 3 [(0, .ref (g 0)), (1, .int (Int32.ofInt x1)), (2, .int (Int32.ofInt x2))] := hl
  rw [r_becomes] at hm
  refine lv_aload_n C.1 C.2.1 dX12_becomes_0 rfl (lv_at hl 0 rfl) ?_
  refine fg_116 C h dX12_becomes_1 ?_
  obtain ⟨g1, hm⟩ := grd_s hm
  refine z_if_ne (tgt := 25) C dX12_becomes_4 (by decide) g1 (fun c2 => ?_) (fun c2 => ?_)
  · have hm := ite_f c2 hm
    refine lv_aload_n C.1 C.2.1 dX12_becomes_25 rfl (lv_at hl 0 rfl) ?_
    refine fg_112 C h dX12_becomes_26 ?_
    refine lv_iload_n C.1 C.2.1 dX12_becomes_29 rfl (lv_at hl 1 rfl) ?_
    refine lv_iload_n C.1 C.2.1 dX12_becomes_30 rfl (lv_at hl 2 rfl) ?_
    obtain ⟨g3, hm⟩ := grd_s hm
    refine as_27 C h dX12_becomes_31 g3 (fun H locs h => ?_)
    cases hm
    exact q_vret C h hr hlk dX12_becomes_32
  · have hm := ite_t c2 hm
    refine lv_aload_n C.1 C.2.1 dX12_becomes_7 rfl (lv_at hl 0 rfl) ?_
    refine fg_111 C h dX12_becomes_8 ?_
    refine lv_iload_n C.1 C.2.1 dX12_becomes_11 rfl (lv_at hl 1 rfl) ?_
    refine lv_iload_n C.1 C.2.1 dX12_becomes_12 rfl (lv_at hl 2 rfl) ?_
    obtain ⟨g4, hm⟩ := grd_s hm
    refine as_28 C h dX12_becomes_13 g4 (fun H locs h => ?_)
    refine lv_aload_n C.1 C.2.1 dX12_becomes_14 rfl (lv_at hl 0 rfl) ?_
    refine fg_112 C h dX12_becomes_15 ?_
    refine lv_iload_n C.1 C.2.1 dX12_becomes_18 rfl (lv_at hl 1 rfl) ?_
    refine lv_bipush (v := Int32.ofInt (-2)) C.1 C.2.1 dX12_becomes_19 (by decide) ?_
    refine as_27 C h dX12_becomes_21 g4 (fun H locs h => ?_)
    refine lv_goto (tgt := 32) C.1 C.2.1 dX12_becomes_22 (by decide) ?_
    cases hm
    exact q_vret C h hr hlk dX12_becomes_32
end L_becomes
section L_hang
variable {p : Program} {l : Launch} {e : Env} {s : State} {m : MethodId} {args : Array Value} {below : List Frame} {meth : Method} {c : Code} {D : va_G} {A : Nat → Prop} {k : Nat → ClassId} {g : Nat → Nat} {N : Nat} {cd : Cond}
set_option maxHeartbeats 4000000 in
set_option maxRecDepth 100000 in
theorem lm_hang_106 {r : St × Int} (C : Cx p s m args c cX12_hang RX12 (cd :: rW) D (TYs k) 3) (hr : meth.sig.returnType = (some .int)) (hlk : meth.locks = false)  {ls : Array Slot} {H : Heap} {locs : List Loc} {σ : St}  (hl : lv_has ls 3 [(0, .ref (g 0))]) (h : Hp D A s.heap H locs (mW k g σ)) (hm : r_hang_106 N  σ  = some r) : W p l e { frames := 10, cells := 0, slots := 0, locals := 246 } s m args below meth c H locs 0 0 (MQ below (va_Qi (fun v (_ : Unit) => v = Int32.ofInt r.2) (fun _ t => PostW D (TYs k) A (mW k g r.1) t) A) args s 0 0 A) (F0 m 106 ls []) := by
  rw [r_hang_106] at hm
  refine lv_aload_n C.1 C.2.1 dX12_hang_106 rfl (lv_at hl 0 rfl) ?_
  obtain ⟨r30, e31, hm⟩ := obd_s hm
  refine q_callVi C h (rc_over l D k g N σ  r30 e31) (cwV 0 C.2.2.1 (gR_over _) rfl rfl rfl hd_over ⟨Nat.le_of_ble_eq_true rfl, Nat.le_of_ble_eq_true rfl⟩) rfl hl.1 rfl (Nat.le_of_ble_eq_true rfl) dX12_hang_107 ⟨Nat.le_of_ble_eq_true rfl, Nat.le_of_ble_eq_true rfl⟩ (fun H locs h => ?_)
  cases hm
  exact q_iret C h hr hlk dX12_hang_110 rfl
set_option maxHeartbeats 4000000 in
set_option maxRecDepth 100000 in
theorem lm_hang_84 {r : St × Int} (C : Cx p s m args c cX12_hang RX12 (cd :: rW) D (TYs k) 3) (hr : meth.sig.returnType = (some .int)) (hlk : meth.locks = false)  {ls : Array Slot} {H : Heap} {locs : List Loc} {σ : St} {x1 : Int} {s0 : Int} (hl : lv_has ls 3 [(0, .ref (g 0)), (1, .int (Int32.ofInt x1))]) (h : Hp D A s.heap H locs (mW k g σ)) (hm : r_hang_84 N  σ x1 s0 = some r) : W p l e { frames := 10, cells := 0, slots := 0, locals := 246 } s m args below meth c H locs 0 0 (MQ below (va_Qi (fun v (_ : Unit) => v = Int32.ofInt r.2) (fun _ t => PostW D (TYs k) A (mW k g r.1) t) A) args s 0 0 A) (F0 m 84 ls [.int (Int32.ofInt s0)]) := by
  rw [r_hang_84] at hm
  refine lv_istore_n (lv' := [(2, .int (Int32.ofInt s0)), (0, .ref (g 0)), (1, .int (Int32.ofInt x1))]) C.1 C.2.1 dX12_hang_84 rfl hl (by decide) rfl (fun ls hl => ?_)
  refine lv_aload_n C.1 C.2.1 dX12_hang_85 rfl (lv_at hl 1 rfl) ?_
  refine lv_aload_n C.1 C.2.1 dX12_hang_86 rfl (lv_at hl 1 rfl) ?_
  refine fg_149 C h dX12_hang_87 ?_
  refine fp_16 C h dX12_hang_90 (fun H locs h => ?_)
  refine lv_aload_n C.1 C.2.1 dX12_hang_93 rfl (lv_at hl 1 rfl) ?_
  refine fg_11 C h dX12_hang_94 ?_
  refine x_topi (y := Int32.ofInt (fl σ 11 0)) rfl ?_
  obtain ⟨g24, hm⟩ := grd_s hm
  refine z_if_ne (tgt := 106) C dX12_hang_97 (by decide) g24 (fun c25 => ?_) (fun c25 => ?_)
  · have hm := ite_f c25 hm
    exact lm_hang_106 (N := N) C hr hlk  (lv_sub hl [1] rfl) h hm
  · have hm := ite_t c25 hm
    refine lv_aload_n C.1 C.2.1 dX12_hang_100 rfl (lv_at hl 1 rfl) ?_
    refine lv_iload_n C.1 C.2.1 dX12_hang_101 rfl (lv_at hl 2 rfl) ?_
    refine lv_iload_n C.1 C.2.1 dX12_hang_102 rfl (lv_at hl 0 rfl) ?_
    obtain ⟨σ26, e27, hm⟩ := bnd_s hm
    rw [e27] at h
    obtain ⟨r28, e29, hm⟩ := obd_s hm
    refine q_callVv C h (rc_becomes l D k g N σ26 x1 s0 r28 e29) (cwV 2 C.2.2.1 (gR_becomes _) rfl rfl rfl hd_becomes ⟨Nat.le_of_ble_eq_true rfl, Nat.le_of_ble_eq_true rfl⟩) rfl hl.1 rfl (Nat.le_of_ble_eq_true rfl) dX12_hang_103 ⟨Nat.le_of_ble_eq_true rfl, Nat.le_of_ble_eq_true rfl⟩ (fun H locs h => ?_)
    exact lm_hang_106 (N := N) C hr hlk  (lv_sub hl [1] rfl) h hm
set_option maxHeartbeats 4000000 in
set_option maxRecDepth 100000 in
theorem lm_hang_65 {r : St × Int} (C : Cx p s m args c cX12_hang RX12 (cd :: rW) D (TYs k) 3) (hr : meth.sig.returnType = (some .int)) (hlk : meth.locks = false)  {ls : Array Slot} {H : Heap} {locs : List Loc} {σ : St} {x1 : Int} (hl : lv_has ls 3 [(0, .ref (g 0)), (1, .int (Int32.ofInt x1))]) (h : Hp D A s.heap H locs (mW k g σ)) (hm : r_hang_65 N  σ x1 = some r) : W p l e { frames := 10, cells := 0, slots := 0, locals := 246 } s m args below meth c H locs 0 0 (MQ below (va_Qi (fun v (_ : Unit) => v = Int32.ofInt r.2) (fun _ t => PostW D (TYs k) A (mW k g r.1) t) A) args s 0 0 A) (F0 m 65 ls []) := by
  rw [r_hang_65] at hm
  refine lv_aload_n C.1 C.2.1 dX12_hang_65 rfl (lv_at hl 0 rfl) ?_
  refine fg_11 C h dX12_hang_66 ?_
  obtain ⟨g20, hm⟩ := grd_s hm
  refine z_if_ne (tgt := 83) C dX12_hang_69 (by decide) g20 (fun c21 => ?_) (fun c21 => ?_)
  · have hm := ite_f c21 hm
    refine lv_iconst (v := Int32.ofInt (-1)) C.1 C.2.1 dX12_hang_83 (by decide) ?_
    exact lm_hang_84 (N := N) C hr hlk  (lv_sub hl [0, 1] rfl) h hm
  · have hm := ite_t c21 hm
    refine lv_aload_n C.1 C.2.1 dX12_hang_72 rfl (lv_at hl 0 rfl) ?_
    refine lv_aload_n C.1 C.2.1 dX12_hang_73 rfl (lv_at hl 0 rfl) ?_
    refine fg_46 C h dX12_hang_74 ?_
    obtain ⟨r22, e23, hm⟩ := obd_s hm
    refine q_callVi C h (rc_makes l D k g N σ (fl σ 46 0) r22 e23) (cwV 1 C.2.2.1 (gR_makes _) rfl rfl rfl hd_makes ⟨Nat.le_of_ble_eq_true rfl, Nat.le_of_ble_eq_true rfl⟩) rfl hl.1 rfl (Nat.le_of_ble_eq_true rfl) dX12_hang_77 ⟨Nat.le_of_ble_eq_true rfl, Nat.le_of_ble_eq_true rfl⟩ (fun H locs h => ?_)
    refine lv_goto (tgt := 84) C.1 C.2.1 dX12_hang_80 (by decide) ?_
    exact lm_hang_84 (N := N) C hr hlk  (lv_sub hl [0, 1] rfl) h hm
set_option maxHeartbeats 4000000 in
set_option maxRecDepth 100000 in
theorem lm_hang_42 {r : St × Int} (C : Cx p s m args c cX12_hang RX12 (cd :: rW) D (TYs k) 3) (hr : meth.sig.returnType = (some .int)) (hlk : meth.locks = false)  {ls : Array Slot} {H : Heap} {locs : List Loc} {σ : St} {x1 : Int} (hl : lv_has ls 3 [(0, .ref (g 0)), (1, .int (Int32.ofInt x1))]) (h : Hp D A s.heap H locs (mW k g σ)) (hm : r_hang_42 N  σ x1 = some r) : W p l e { frames := 10, cells := 0, slots := 0, locals := 246 } s m args below meth c H locs 0 0 (MQ below (va_Qi (fun v (_ : Unit) => v = Int32.ofInt r.2) (fun _ t => PostW D (TYs k) A (mW k g r.1) t) A) args s 0 0 A) (F0 m 42 ls []) := by
  rw [r_hang_42] at hm
  refine lv_aload_n C.1 C.2.1 dX12_hang_42 rfl (lv_at hl 0 rfl) ?_
  refine fg_11 C h dX12_hang_43 ?_
  obtain ⟨g14, hm⟩ := grd_s hm
  refine z_if_ne (tgt := 65) C dX12_hang_46 (by decide) g14 (fun c15 => ?_) (fun c15 => ?_)
  · have hm := ite_f c15 hm
    exact lm_hang_65 (N := N) C hr hlk  (lv_sub hl [0, 1] rfl) h hm
  · have hm := ite_t c15 hm
    refine lv_aload_n C.1 C.2.1 dX12_hang_49 rfl (lv_at hl 0 rfl) ?_
    refine fg_3 C h dX12_hang_50 ?_
    obtain ⟨g16, hm⟩ := grd_s hm
    refine z_if_eq (tgt := 65) C dX12_hang_53 (by decide) g16 (fun c17 => ?_) (fun c17 => ?_)
    · have hm := ite_t c17 hm
      exact lm_hang_65 (N := N) C hr hlk  (lv_sub hl [0, 1] rfl) h hm
    · have hm := ite_f c17 hm
      refine lv_aload_n C.1 C.2.1 dX12_hang_56 rfl (lv_at hl 0 rfl) ?_
      refine lv_iconst (v := Int32.ofInt 1) C.1 C.2.1 dX12_hang_57 (by decide) ?_
      refine lv_aload_n C.1 C.2.1 dX12_hang_58 rfl (lv_at hl 0 rfl) ?_
      refine fg_4 C h dX12_hang_59 ?_
      obtain ⟨r18, e19, hm⟩ := obd_s hm
      refine q_callVv C h (rc_fail l D k g N σ 1 (fl σ 4 0) r18 e19) (cwV 2 C.2.2.1 (gR_fail _) rfl rfl rfl hd_fail ⟨Nat.le_of_ble_eq_true rfl, Nat.le_of_ble_eq_true rfl⟩) rfl hl.1 rfl (Nat.le_of_ble_eq_true rfl) dX12_hang_62 ⟨Nat.le_of_ble_eq_true rfl, Nat.le_of_ble_eq_true rfl⟩ (fun H locs h => ?_)
      exact lm_hang_65 (N := N) C hr hlk  (lv_sub hl [0, 1] rfl) h hm
set_option maxHeartbeats 4000000 in
set_option maxRecDepth 100000 in
theorem lm_hang_20 {r : St × Int} (C : Cx p s m args c cX12_hang RX12 (cd :: rW) D (TYs k) 3) (hr : meth.sig.returnType = (some .int)) (hlk : meth.locks = false)  (n : Nat) : ∀ {ls : Array Slot} {H : Heap} {locs : List Loc} {σ : St} {x1 : Int}, lv_has ls 3 [(0, .ref (g 0)), (1, .int (Int32.ofInt x1))] → Hp D A s.heap H locs (mW k g σ) → r_hang_20 N  n σ x1 = some r → W p l e { frames := 10, cells := 0, slots := 0, locals := 246 } s m args below meth c H locs 0 0 (MQ below (va_Qi (fun v (_ : Unit) => v = Int32.ofInt r.2) (fun _ t => PostW D (TYs k) A (mW k g r.1) t) A) args s 0 0 A) (F0 m 20 ls []) := by
  induction n with
  | zero => intro ls H locs σ x1 hl h hm; cases (show none = some r from hm)
  | succ n hrec20 =>
    intro ls H locs σ x1 hl h hm
    rw [r_hang_20] at hm
    refine lv_aload_n C.1 C.2.1 dX12_hang_20 rfl (lv_at hl 0 rfl) ?_
    refine fg_11 C h dX12_hang_21 ?_
    obtain ⟨g8, hm⟩ := grd_s hm
    refine z_if_ne (tgt := 42) C dX12_hang_24 (by decide) g8 (fun c9 => ?_) (fun c9 => ?_)
    · have hm := ite_f c9 hm
      exact lm_hang_42 (N := N) C hr hlk  (lv_sub hl [0, 1] rfl) h hm
    · have hm := ite_t c9 hm
      refine lv_aload_n C.1 C.2.1 dX12_hang_27 rfl (lv_at hl 0 rfl) ?_
      refine fg_3 C h dX12_hang_28 ?_
      refine lv_iconst (v := Int32.ofInt 1) C.1 C.2.1 dX12_hang_31 (by decide) ?_
      obtain ⟨g10, hm⟩ := grd_s hm
      refine z_icmp_ne (tgt := 42) C dX12_hang_32 (by decide) g10 (by decide) (fun c11 => ?_) (fun c11 => ?_)
      · have hm := ite_f c11 hm
        exact lm_hang_42 (N := N) C hr hlk  (lv_sub hl [0, 1] rfl) h hm
      · have hm := ite_t c11 hm
        refine lv_aload_n C.1 C.2.1 dX12_hang_35 rfl (lv_at hl 0 rfl) ?_
        obtain ⟨r12, e13, hm⟩ := obd_s hm
        refine q_callVv C h (rc_advance l D k g N σ  r12 e13) (cwV 0 C.2.2.1 (gR_advance _) rfl rfl rfl hd_advance ⟨Nat.le_of_ble_eq_true rfl, Nat.le_of_ble_eq_true rfl⟩) rfl hl.1 rfl (Nat.le_of_ble_eq_true rfl) dX12_hang_36 ⟨Nat.le_of_ble_eq_true rfl, Nat.le_of_ble_eq_true rfl⟩ (fun H locs h => ?_)
        refine lv_goto (tgt := 20) C.1 C.2.1 dX12_hang_39 (by decide) ?_
        exact hrec20 (lv_sub hl [0, 1] rfl) h hm
set_option maxHeartbeats 4000000 in
set_option maxRecDepth 100000 in
theorem rc_hang (l : Launch) (D : va_G) (k : Nat → ClassId) (g : Nat → Nat) (N : Nat) (σ : St) (x1 : Int) (r : St × Int) (hm : r_hang N σ x1 = some r) : Mi l yX12_hang (.code yX12_hang cX12_hang 3 (some .int) :: rW) { frames := 10, cells := 0, slots := 0, locals := 246 } [.ref (g 0), .int (Int32.ofInt x1)] D (TYs k) (mW k g σ) (fun _ => True) Unit (fun v _ => v = Int32.ofInt r.2) (fun _ => mW k g r.1) 0 0 := by
  intro sz
  refine x_met (cc := cX12_hang) (maxL := 3) (ret := (some .int)) (by decide) rfl (Nat.le_of_ble_eq_true rfl) ?_
  intro p e s m below meth c ls C hX hsz hr hlk hmn hl h
  have hl : lv_has ls 3 [(0, .ref (g 0)), (1, .int (Int32.ofInt x1))] := hl
  rw [r_hang] at hm
  refine lv_iload_n C.1 C.2.1 dX12_hang_0 rfl (lv_at hl 1 rfl) ?_
  obtain ⟨g1, hm⟩ := grd_s hm
  refine z_if_lt (tgt := 10) C dX12_hang_1 (by decide) g1 (fun c2 => ?_) (fun c2 => ?_)
  · have hm := ite_t c2 hm
    refine lv_iconst (v := Int32.ofInt (-1)) C.1 C.2.1 dX12_hang_10 (by decide) ?_
    cases hm
    exact q_iret C h hr hlk dX12_hang_11 rfl
  · have hm := ite_f c2 hm
    refine lv_iload_n C.1 C.2.1 dX12_hang_4 rfl (lv_at hl 1 rfl) ?_
    refine lv_bipush (v := Int32.ofInt 8) C.1 C.2.1 dX12_hang_5 (by decide) ?_
    refine z_icmp_lt (tgt := 12) C dX12_hang_7 (by decide) g1 (by decide) (fun c3 => ?_) (fun c3 => ?_)
    · have hm := ite_t c3 hm
      refine lv_aload_n C.1 C.2.1 dX12_hang_12 rfl (lv_at hl 0 rfl) ?_
      obtain ⟨r4, e5, hm⟩ := obd_s hm
      refine q_callVv C h (rc_begins l D k g N σ  r4 e5) (cwV 0 C.2.2.1 (gR_begins _) rfl rfl rfl hd_begins ⟨Nat.le_of_ble_eq_true rfl, Nat.le_of_ble_eq_true rfl⟩) rfl hl.1 rfl (Nat.le_of_ble_eq_true rfl) dX12_hang_13 ⟨Nat.le_of_ble_eq_true rfl, Nat.le_of_ble_eq_true rfl⟩ (fun H locs h => ?_)
      refine lv_aload_n C.1 C.2.1 dX12_hang_16 rfl (lv_at hl 0 rfl) ?_
      obtain ⟨r6, e7, hm⟩ := obd_s hm
      refine q_callVv C h (rc_readExp l D k g N r4  r6 e7) (cwV 0 C.2.2.1 (gR_readExp _) rfl rfl rfl hd_readExp ⟨Nat.le_of_ble_eq_true rfl, Nat.le_of_ble_eq_true rfl⟩) rfl hl.1 rfl (Nat.le_of_ble_eq_true rfl) dX12_hang_17 ⟨Nat.le_of_ble_eq_true rfl, Nat.le_of_ble_eq_true rfl⟩ (fun H locs h => ?_)
      exact lm_hang_20 (N := N) C hr hlk  N (lv_sub hl [0, 1] rfl) h hm
    · have hm := ite_f c3 hm
      refine lv_iconst (v := Int32.ofInt (-1)) C.1 C.2.1 dX12_hang_10 (by decide) ?_
      cases hm
      exact q_iret C h hr hlk dX12_hang_11 rfl
end L_hang
section L_hush
variable {p : Program} {l : Launch} {e : Env} {s : State} {m : MethodId} {args : Array Value} {below : List Frame} {meth : Method} {c : Code} {D : va_G} {A : Nat → Prop} {k : Nat → ClassId} {g : Nat → Nat} {N : Nat} {cd : Cond}
set_option maxHeartbeats 4000000 in
set_option maxRecDepth 100000 in
theorem rc_hush (l : Launch) (D : va_G) (k : Nat → ClassId) (g : Nat → Nat) (N : Nat) (σ : St) (x1 : Int) (r : St × Int) (hm : r_hush N σ x1 = some r) : Mi l yX12_hush (.code yX12_hush cX12_hush 2 (some .boolean) :: rW) { frames := 1, cells := 0, slots := 0, locals := 22 } [.ref (g 0), .int (Int32.ofInt x1)] D (TYs k) (mW k g σ) (fun _ => True) Unit (fun v _ => v = Int32.ofInt r.2) (fun _ => mW k g r.1) 0 0 := by
  intro sz
  refine x_met (cc := cX12_hush) (maxL := 2) (ret := (some .boolean)) (by decide) rfl (Nat.le_of_ble_eq_true rfl) ?_
  intro p e s m below meth c ls C hX hsz hr hlk hmn hl h
  have hl : lv_has ls 2 [(0, .ref (g 0)), (1, .int (Int32.ofInt x1))] := hl
  rw [r_hush] at hm
  refine lv_iload_n C.1 C.2.1 dX12_hush_0 rfl (lv_at hl 1 rfl) ?_
  obtain ⟨g1, hm⟩ := grd_s hm
  refine z_if_lt (tgt := 10) C dX12_hush_1 (by decide) g1 (fun c2 => ?_) (fun c2 => ?_)
  · have hm := ite_t c2 hm
    refine lv_iconst (v := Int32.ofInt 0) C.1 C.2.1 dX12_hush_10 (by decide) ?_
    cases hm
    exact q_iret C h hr hlk dX12_hush_11 rfl
  · have hm := ite_f c2 hm
    refine lv_iload_n C.1 C.2.1 dX12_hush_4 rfl (lv_at hl 1 rfl) ?_
    refine lv_bipush (v := Int32.ofInt 8) C.1 C.2.1 dX12_hush_5 (by decide) ?_
    refine z_icmp_lt (tgt := 12) C dX12_hush_7 (by decide) g1 (by decide) (fun c3 => ?_) (fun c3 => ?_)
    · have hm := ite_t c3 hm
      refine lv_aload_n C.1 C.2.1 dX12_hush_12 rfl (lv_at hl 0 rfl) ?_
      refine lv_iload_n C.1 C.2.1 dX12_hush_13 rfl (lv_at hl 1 rfl) ?_
      refine lv_iconst (v := Int32.ofInt (-1)) C.1 C.2.1 dX12_hush_14 (by decide) ?_
      obtain ⟨r4, e5, hm⟩ := obd_s hm
      refine q_callVv C h (rc_becomes l D k g N σ x1 (-1) r4 e5) (cwV 2 C.2.2.1 (gR_becomes _) rfl rfl rfl hd_becomes ⟨Nat.le_of_ble_eq_true rfl, Nat.le_of_ble_eq_true rfl⟩) rfl hl.1 rfl (Nat.le_of_ble_eq_true rfl) dX12_hush_15 ⟨Nat.le_of_ble_eq_true rfl, Nat.le_of_ble_eq_true rfl⟩ (fun H locs h => ?_)
      refine lv_iconst (v := Int32.ofInt 1) C.1 C.2.1 dX12_hush_18 (by decide) ?_
      cases hm
      exact q_iret C h hr hlk dX12_hush_19 rfl
    · have hm := ite_f c3 hm
      refine lv_iconst (v := Int32.ofInt 0) C.1 C.2.1 dX12_hush_10 (by decide) ?_
      cases hm
      exact q_iret C h hr hlk dX12_hush_11 rfl
end L_hush
section L_told
variable {p : Program} {l : Launch} {e : Env} {s : State} {m : MethodId} {args : Array Value} {below : List Frame} {meth : Method} {c : Code} {D : va_G} {A : Nat → Prop} {k : Nat → ClassId} {g : Nat → Nat} {N : Nat} {cd : Cond}
set_option maxHeartbeats 4000000 in
set_option maxRecDepth 100000 in
theorem rc_told (l : Launch) (D : va_G) (k : Nat → ClassId) (g : Nat → Nat) (N : Nat) (σ : St) (x1 : Int) (r : St × Int) (hm : r_told N σ x1 = some r) : Mi l yX12_told (.code yX12_told cX12_told 2 (some .int) :: rW) { frames := 0, cells := 0, slots := 0, locals := 0 } [.ref (g 0), .int (Int32.ofInt x1)] D (TYs k) (mW k g σ) (fun _ => True) Unit (fun v _ => v = Int32.ofInt r.2) (fun _ => mW k g r.1) 0 0 := by
  intro sz
  refine x_met (cc := cX12_told) (maxL := 2) (ret := (some .int)) (by decide) rfl (Nat.le_of_ble_eq_true rfl) ?_
  intro p e s m below meth c ls C hX hsz hr hlk hmn hl h
  have hl : lv_has ls 2 [(0, .ref (g 0)), (1, .int (Int32.ofInt x1))] := hl
  rw [r_told] at hm
  refine lv_iload_n C.1 C.2.1 dX12_told_0 rfl (lv_at hl 1 rfl) ?_
  obtain ⟨g1, hm⟩ := grd_s hm
  refine z_if_ne (tgt := 11) C dX12_told_1 (by decide) g1 (fun c2 => ?_) (fun c2 => ?_)
  · have hm := ite_f c2 hm
    refine lv_iload_n C.1 C.2.1 dX12_told_11 rfl (lv_at hl 1 rfl) ?_
    refine lv_iconst (v := Int32.ofInt 1) C.1 C.2.1 dX12_told_12 (by decide) ?_
    refine z_icmp_ne (tgt := 23) C dX12_told_13 (by decide) g1 (by decide) (fun c3 => ?_) (fun c3 => ?_)
    · have hm := ite_f c3 hm
      refine lv_iload_n C.1 C.2.1 dX12_told_23 rfl (lv_at hl 1 rfl) ?_
      refine lv_iconst (v := Int32.ofInt 2) C.1 C.2.1 dX12_told_24 (by decide) ?_
      refine z_icmp_ne (tgt := 35) C dX12_told_25 (by decide) g1 (by decide) (fun c4 => ?_) (fun c4 => ?_)
      · have hm := ite_f c4 hm
        refine lv_iconst (v := Int32.ofInt (-1)) C.1 C.2.1 dX12_told_35 (by decide) ?_
        cases hm
        exact q_iret C h hr hlk dX12_told_36 rfl
      · have hm := ite_t c4 hm
        refine lv_aload_n C.1 C.2.1 dX12_told_28 rfl (lv_at hl 0 rfl) ?_
        refine fg_120 C h dX12_told_29 ?_
        refine lv_goto (tgt := 36) C.1 C.2.1 dX12_told_32 (by decide) ?_
        cases hm
        exact q_iret C h hr hlk dX12_told_36 rfl
    · have hm := ite_t c3 hm
      refine lv_aload_n C.1 C.2.1 dX12_told_16 rfl (lv_at hl 0 rfl) ?_
      refine fg_119 C h dX12_told_17 ?_
      refine lv_goto (tgt := 36) C.1 C.2.1 dX12_told_20 (by decide) ?_
      cases hm
      exact q_iret C h hr hlk dX12_told_36 rfl
  · have hm := ite_t c2 hm
    refine lv_aload_n C.1 C.2.1 dX12_told_4 rfl (lv_at hl 0 rfl) ?_
    refine fg_118 C h dX12_told_5 ?_
    refine lv_goto (tgt := 36) C.1 C.2.1 dX12_told_8 (by decide) ?_
    cases hm
    exact q_iret C h hr hlk dX12_told_36 rfl
end L_told
section L_isTrack
variable {p : Program} {l : Launch} {e : Env} {s : State} {m : MethodId} {args : Array Value} {below : List Frame} {meth : Method} {c : Code} {D : va_G} {A : Nat → Prop} {k : Nat → ClassId} {g : Nat → Nat} {N : Nat} {cd : Cond}
set_option maxHeartbeats 4000000 in
set_option maxRecDepth 100000 in
theorem rc_isTrack (l : Launch) (D : va_G) (k : Nat → ClassId) (g : Nat → Nat) (N : Nat) (σ : St) (x1 : Int) (r : St × Int) (hm : r_isTrack N σ x1 = some r) : Mi l yX12_isTrack (.code yX12_isTrack cX12_isTrack 2 (some .boolean) :: rW) { frames := 0, cells := 0, slots := 0, locals := 0 } [.ref (g 0), .int (Int32.ofInt x1)] D (TYs k) (mW k g σ) (fun _ => True) Unit (fun v _ => v = Int32.ofInt r.2) (fun _ => mW k g r.1) 0 0 := by
  intro sz
  refine x_met (cc := cX12_isTrack) (maxL := 2) (ret := (some .boolean)) (by decide) rfl (Nat.le_of_ble_eq_true rfl) ?_
  intro p e s m below meth c ls C hX hsz hr hlk hmn hl h
  have hl : lv_has ls 2 [(0, .ref (g 0)), (1, .int (Int32.ofInt x1))] := hl
  rw [r_isTrack] at hm
  refine lv_iload_n C.1 C.2.1 dX12_isTrack_0 rfl (lv_at hl 1 rfl) ?_
  obtain ⟨g1, hm⟩ := grd_s hm
  refine z_if_lt (tgt := 14) C dX12_isTrack_1 (by decide) g1 (fun c2 => ?_) (fun c2 => ?_)
  · have hm := ite_t c2 hm
    refine lv_iconst (v := Int32.ofInt 0) C.1 C.2.1 dX12_isTrack_14 (by decide) ?_
    cases hm
    exact q_iret C h hr hlk dX12_isTrack_15 rfl
  · have hm := ite_f c2 hm
    refine lv_iload_n C.1 C.2.1 dX12_isTrack_4 rfl (lv_at hl 1 rfl) ?_
    refine lv_bipush (v := Int32.ofInt 8) C.1 C.2.1 dX12_isTrack_5 (by decide) ?_
    refine z_icmp_ge (tgt := 14) C dX12_isTrack_7 (by decide) g1 (by decide) (fun c3 => ?_) (fun c3 => ?_)
    · have hm := ite_f c3 hm
      refine lv_iconst (v := Int32.ofInt 0) C.1 C.2.1 dX12_isTrack_14 (by decide) ?_
      cases hm
      exact q_iret C h hr hlk dX12_isTrack_15 rfl
    · have hm := ite_t c3 hm
      refine lv_iconst (v := Int32.ofInt 1) C.1 C.2.1 dX12_isTrack_10 (by decide) ?_
      refine lv_goto (tgt := 15) C.1 C.2.1 dX12_isTrack_11 (by decide) ?_
      cases hm
      exact q_iret C h hr hlk dX12_isTrack_15 rfl
end L_isTrack
