section L_single
variable {p : Program} {l : Launch} {e : Env} {s : State} {m : MethodId} {args : Array Value} {below : List Frame} {meth : Method} {c : Code} {D : va_G} {A : Nat → Prop} {k : Nat → ClassId} {g : Nat → Nat} {N : Nat} {cd : Cond}
set_option maxHeartbeats 4000000 in
set_option maxRecDepth 100000 in
theorem lm_single_96 {r : St × Int} (C : Cx p s m args c cX12_single RX12 (cd :: rW) D (TYs k) 12) (hr : meth.sig.returnType = (some .boolean)) (hlk : meth.locks = false)  {ls : Array Slot} {H : Heap} {locs : List Loc} {σ : St} {x3 : Int} {s0 : Int} {s1 : Int} (hl : lv_has ls 12 [(3, .long (Int64.ofInt x3))]) (h : Hp D A s.heap H locs (mW k g σ)) (hm : r_single_96 N  σ x3 s0 s1 = some r) : W p l e { frames := 2, cells := 0, slots := 0, locals := 61 } s m args below meth c H locs 0 0 (MQ below (va_Qi (fun v (_ : Unit) => v = Int32.ofInt r.2) (fun _ t => PostW D (TYs k) A (mW k g r.1) t) A) args s 0 0 A) (F0 m 96 ls [.int (Int32.ofInt s0), .int (Int32.ofInt s1), .ref (g 0)]) := by
  rw [r_single_96] at hm
  refine lv_lload_n C.1 C.2.1 dX12_single_96 rfl (lv_at hl 0 rfl) ?_
  obtain ⟨r129, e130, hm⟩ := obd_s hm
  refine q_callVv C h (rc_callKid l D k g N σ s1 s0 x3 r129 e130) (cwV 3 C.2.2.1 (gR_callKid _) rfl rfl rfl hd_callKid ⟨Nat.le_of_ble_eq_true rfl, Nat.le_of_ble_eq_true rfl⟩) rfl hl.1 rfl (Nat.le_of_ble_eq_true rfl) dX12_single_97 ⟨Nat.le_of_ble_eq_true rfl, Nat.le_of_ble_eq_true rfl⟩ (fun H locs h => ?_)
  refine lv_iconst (v := Int32.ofInt 1) C.1 C.2.1 dX12_single_100 (by decide) ?_
  cases hm
  exact q_iret C h hr hlk dX12_single_101 rfl
set_option maxHeartbeats 4000000 in
set_option maxRecDepth 100000 in
theorem lm_single_82 {r : St × Int} (C : Cx p s m args c cX12_single RX12 (cd :: rW) D (TYs k) 12) (hr : meth.sig.returnType = (some .boolean)) (hlk : meth.locks = false)  {ls : Array Slot} {H : Heap} {locs : List Loc} {σ : St} {x1 : Int} {x3 : Int} {s0 : Int} (hl : lv_has ls 12 [(0, .ref (g 0)), (1, .int (Int32.ofInt x1)), (3, .long (Int64.ofInt x3))]) (h : Hp D A s.heap H locs (mW k g σ)) (hm : r_single_82 N  σ x1 x3 s0 = some r) : W p l e { frames := 2, cells := 0, slots := 0, locals := 61 } s m args below meth c H locs 0 0 (MQ below (va_Qi (fun v (_ : Unit) => v = Int32.ofInt r.2) (fun _ t => PostW D (TYs k) A (mW k g r.1) t) A) args s 0 0 A) (F0 m 82 ls [.int (Int32.ofInt s0)]) := by
  rw [r_single_82] at hm
  refine lv_istore (lv' := [(5, .int (Int32.ofInt s0)), (0, .ref (g 0)), (1, .int (Int32.ofInt x1)), (3, .long (Int64.ofInt x3))]) C.1 C.2.1 dX12_single_82 hl (by decide) rfl (fun ls hl => ?_)
  refine lv_aload_n C.1 C.2.1 dX12_single_84 rfl (lv_at hl 1 rfl) ?_
  refine lv_iload_n C.1 C.2.1 dX12_single_85 rfl (lv_at hl 2 rfl) ?_
  refine lv_iload C.1 C.2.1 dX12_single_86 (lv_at hl 0 rfl) ?_
  obtain ⟨g126, hm⟩ := grd_s hm
  refine z_if_eq (tgt := 95) C dX12_single_88 (by decide) g126 (fun c127 => ?_) (fun c127 => ?_)
  · have hm := ite_t c127 hm
    refine lv_iconst (v := Int32.ofInt 0) C.1 C.2.1 dX12_single_95 (by decide) ?_
    exact lm_single_96 (N := N) C hr hlk  (lv_sub hl [3] rfl) h hm
  · have hm := ite_f c127 hm
    refine lv_iconst (v := Int32.ofInt 1) C.1 C.2.1 dX12_single_91 (by decide) ?_
    refine lv_goto (tgt := 96) C.1 C.2.1 dX12_single_92 (by decide) ?_
    exact lm_single_96 (N := N) C hr hlk  (lv_sub hl [3] rfl) h hm
set_option maxHeartbeats 4000000 in
set_option maxRecDepth 100000 in
theorem lm_single_81 {r : St × Int} (C : Cx p s m args c cX12_single RX12 (cd :: rW) D (TYs k) 12) (hr : meth.sig.returnType = (some .boolean)) (hlk : meth.locks = false)  {ls : Array Slot} {H : Heap} {locs : List Loc} {σ : St} {x1 : Int} {x3 : Int} (hl : lv_has ls 12 [(0, .ref (g 0)), (1, .int (Int32.ofInt x1)), (3, .long (Int64.ofInt x3))]) (h : Hp D A s.heap H locs (mW k g σ)) (hm : r_single_81 N  σ x1 x3 = some r) : W p l e { frames := 2, cells := 0, slots := 0, locals := 61 } s m args below meth c H locs 0 0 (MQ below (va_Qi (fun v (_ : Unit) => v = Int32.ofInt r.2) (fun _ t => PostW D (TYs k) A (mW k g r.1) t) A) args s 0 0 A) (F0 m 81 ls []) := by
  rw [r_single_81] at hm
  refine lv_iconst (v := Int32.ofInt 0) C.1 C.2.1 dX12_single_81 (by decide) ?_
  exact lm_single_82 (N := N) C hr hlk  (lv_sub hl [0, 1, 2] rfl) h hm
set_option maxHeartbeats 4000000 in
set_option maxRecDepth 100000 in
theorem lm_single_235 {r : St × Int} (C : Cx p s m args c cX12_single RX12 (cd :: rW) D (TYs k) 12) (hr : meth.sig.returnType = (some .boolean)) (hlk : meth.locks = false) {rec184 : St → Int → Int → Int → Int → Option (St × Int)} (hrec184 : ∀ {ls : Array Slot} {H : Heap} {locs : List Loc} {σ : St} {x1 : Int} {x3 : Int} {x5 : Int} {x7 : Int}, lv_has ls 12 [(0, .ref (g 0)), (1, .int (Int32.ofInt x1)), (3, .long (Int64.ofInt x3)), (5, .long (Int64.ofInt x5)), (7, .int (Int32.ofInt x7))] → Hp D A s.heap H locs (mW k g σ) → rec184 σ x1 x3 x5 x7 = some r → W p l e { frames := 2, cells := 0, slots := 0, locals := 61 } s m args below meth c H locs 0 0 (MQ below (va_Qi (fun v (_ : Unit) => v = Int32.ofInt r.2) (fun _ t => PostW D (TYs k) A (mW k g r.1) t) A) args s 0 0 A) (F0 m 184 ls [])) {ls : Array Slot} {H : Heap} {locs : List Loc} {σ : St} {x1 : Int} {x3 : Int} {x5 : Int} {x7 : Int} {x8 : Int} {s0 : Int} (hl : lv_has ls 12 [(0, .ref (g 0)), (1, .int (Int32.ofInt x1)), (3, .long (Int64.ofInt x3)), (5, .long (Int64.ofInt x5)), (7, .int (Int32.ofInt x7)), (8, .long (Int64.ofInt x8))]) (h : Hp D A s.heap H locs (mW k g σ)) (hm : r_single_235 N rec184 σ x1 x3 x5 x7 x8 s0 = some r) : W p l e { frames := 2, cells := 0, slots := 0, locals := 61 } s m args below meth c H locs 0 0 (MQ below (va_Qi (fun v (_ : Unit) => v = Int32.ofInt r.2) (fun _ t => PostW D (TYs k) A (mW k g r.1) t) A) args s 0 0 A) (F0 m 235 ls [.long (Int64.ofInt s0)]) := by
  rw [r_single_235] at hm
  refine lv_lstore (lv' := [(10, .long (Int64.ofInt s0)), (0, .ref (g 0)), (1, .int (Int32.ofInt x1)), (3, .long (Int64.ofInt x3)), (5, .long (Int64.ofInt x5)), (7, .int (Int32.ofInt x7)), (8, .long (Int64.ofInt x8))]) C.1 C.2.1 dX12_single_235 hl (by decide) rfl (fun ls hl => ?_)
  refine lv_aload_n C.1 C.2.1 dX12_single_237 rfl (lv_at hl 1 rfl) ?_
  refine fg_85 C h dX12_single_238 ?_
  refine lv_iload C.1 C.2.1 dX12_single_241 (lv_at hl 5 rfl) ?_
  refine lv_ldc2 (v := 2) C.1 C.2.1 C.2.2.2.1 (C.2.2.1 _ (List.mem_cons_of_mem _ wk_433)) dX12_single_243 ?_
  refine x_topl (y := Int64.ofInt 2) (by decide) ?_
  refine lv_lload_n C.1 C.2.1 dX12_single_246 rfl (lv_at hl 3 rfl) ?_
  refine z_lmul C dX12_single_247 ?_
  refine lv_lconst (v := Int64.ofInt 1) C.1 C.2.1 dX12_single_248 (by decide) ?_
  refine z_ladd C dX12_single_249 ?_
  refine lv_lload C.1 C.2.1 dX12_single_250 (lv_at hl 4 rfl) ?_
  refine z_lmul C dX12_single_252 ?_
  refine lv_lload C.1 C.2.1 dX12_single_253 (lv_at hl 0 rfl) ?_
  refine z_lsub C dX12_single_255 ?_
  obtain ⟨g128, hm⟩ := grd_s hm
  refine as_52 C h dX12_single_256 g128 (fun H locs h => ?_)
  refine lv_aload_n C.1 C.2.1 dX12_single_257 rfl (lv_at hl 1 rfl) ?_
  refine fg_86 C h dX12_single_258 ?_
  refine lv_iload C.1 C.2.1 dX12_single_261 (lv_at hl 5 rfl) ?_
  refine lv_ldc2 (v := 2) C.1 C.2.1 C.2.2.2.1 (C.2.2.1 _ (List.mem_cons_of_mem _ wk_433)) dX12_single_263 ?_
  refine x_topl (y := Int64.ofInt 2) (by decide) ?_
  refine lv_lload_n C.1 C.2.1 dX12_single_266 rfl (lv_at hl 3 rfl) ?_
  refine z_lmul C dX12_single_267 ?_
  refine lv_lconst (v := Int64.ofInt 1) C.1 C.2.1 dX12_single_268 (by decide) ?_
  refine z_ladd C dX12_single_269 ?_
  refine lv_lload C.1 C.2.1 dX12_single_270 (lv_at hl 4 rfl) ?_
  refine z_lmul C dX12_single_272 ?_
  refine lv_lload C.1 C.2.1 dX12_single_273 (lv_at hl 6 rfl) ?_
  refine z_lsub C dX12_single_275 ?_
  refine as_51 C h dX12_single_276 g128 (fun H locs h => ?_)
  refine lv_iinc (v := Int32.ofInt (x7 + 1)) (lv' := [(7, .int (Int32.ofInt (x7 + 1))), (10, .long (Int64.ofInt s0)), (0, .ref (g 0)), (1, .int (Int32.ofInt x1)), (3, .long (Int64.ofInt x3)), (5, .long (Int64.ofInt x5)), (8, .long (Int64.ofInt x8))]) C.1 C.2.1 dX12_single_277 hl (k := 5) rfl (c32_add _ _) (by decide) rfl (fun ls hl => ?_)
  refine lv_goto (tgt := 184) C.1 C.2.1 dX12_single_280 (by decide) ?_
  exact hrec184 (lv_sub hl [2, 3, 4, 5, 0] rfl) h hm
set_option maxHeartbeats 4000000 in
set_option maxRecDepth 100000 in
theorem lm_single_184 {r : St × Int} (C : Cx p s m args c cX12_single RX12 (cd :: rW) D (TYs k) 12) (hr : meth.sig.returnType = (some .boolean)) (hlk : meth.locks = false)  (n : Nat) : ∀ {ls : Array Slot} {H : Heap} {locs : List Loc} {σ : St} {x1 : Int} {x3 : Int} {x5 : Int} {x7 : Int}, lv_has ls 12 [(0, .ref (g 0)), (1, .int (Int32.ofInt x1)), (3, .long (Int64.ofInt x3)), (5, .long (Int64.ofInt x5)), (7, .int (Int32.ofInt x7))] → Hp D A s.heap H locs (mW k g σ) → r_single_184 N  n σ x1 x3 x5 x7 = some r → W p l e { frames := 2, cells := 0, slots := 0, locals := 61 } s m args below meth c H locs 0 0 (MQ below (va_Qi (fun v (_ : Unit) => v = Int32.ofInt r.2) (fun _ t => PostW D (TYs k) A (mW k g r.1) t) A) args s 0 0 A) (F0 m 184 ls []) := by
  induction n with
  | zero => intro ls H locs σ x1 x3 x5 x7 hl h hm; cases (show none = some r from hm)
  | succ n hrec184 =>
    intro ls H locs σ x1 x3 x5 x7 hl h hm
    rw [r_single_184] at hm
    refine lv_iload C.1 C.2.1 dX12_single_184 (lv_at hl 4 rfl) ?_
    refine lv_aload_n C.1 C.2.1 dX12_single_186 rfl (lv_at hl 0 rfl) ?_
    refine fg_84 C h dX12_single_187 ?_
    obtain ⟨g114, hm⟩ := grd_s hm
    obtain ⟨g115, hm⟩ := grd_s hm
    refine z_icmp_ge (tgt := 283) C dX12_single_190 (by decide) g114 g115 (fun c116 => ?_) (fun c116 => ?_)
    · have hm := ite_f c116 hm
      refine lv_aload_n C.1 C.2.1 dX12_single_283 rfl (lv_at hl 0 rfl) ?_
      refine lv_aload_n C.1 C.2.1 dX12_single_284 rfl (lv_at hl 0 rfl) ?_
      refine fg_101 C h dX12_single_285 ?_
      refine lv_iload_n C.1 C.2.1 dX12_single_288 rfl (lv_at hl 1 rfl) ?_
      obtain ⟨g117, hm⟩ := grd_s hm
      refine al_38 C h dX12_single_289 g117 ?_
      obtain ⟨r118, e119, hm⟩ := obd_s hm
      refine q_callVv C h (rc_sort l D k g N σ (el σ 38 x1) r118 e119) (cwV 1 C.2.2.1 (gR_sort _) rfl rfl rfl hd_sort ⟨Nat.le_of_ble_eq_true rfl, Nat.le_of_ble_eq_true rfl⟩) rfl hl.1 rfl (Nat.le_of_ble_eq_true rfl) dX12_single_290 ⟨Nat.le_of_ble_eq_true rfl, Nat.le_of_ble_eq_true rfl⟩ (fun H locs h => ?_)
      refine lv_goto (tgt := 417) C.1 C.2.1 dX12_single_293 (by decide) ?_
      refine lv_iconst (v := Int32.ofInt 0) C.1 C.2.1 dX12_single_417 (by decide) ?_
      cases hm
      exact q_iret C h hr hlk dX12_single_418 rfl
    · have hm := ite_t c116 hm
      refine lv_aload_n C.1 C.2.1 dX12_single_193 rfl (lv_at hl 0 rfl) ?_
      refine fg_85 C h dX12_single_194 ?_
      refine lv_iload C.1 C.2.1 dX12_single_197 (lv_at hl 4 rfl) ?_
      obtain ⟨g120, hm⟩ := grd_s hm
      refine al_52 C h dX12_single_199 g120 ?_
      obtain ⟨v121, e122, hm⟩ := bnd_s hm
      rw [e122]
      refine lv_lstore (lv' := [(8, .long (Int64.ofInt v121)), (0, .ref (g 0)), (1, .int (Int32.ofInt x1)), (3, .long (Int64.ofInt x3)), (5, .long (Int64.ofInt x5)), (7, .int (Int32.ofInt x7))]) C.1 C.2.1 dX12_single_200 hl (by decide) rfl (fun ls hl => ?_)
      refine lv_aload_n C.1 C.2.1 dX12_single_202 rfl (lv_at hl 1 rfl) ?_
      refine fg_86 C h dX12_single_203 ?_
      refine lv_iload C.1 C.2.1 dX12_single_206 (lv_at hl 5 rfl) ?_
      refine al_51 C h dX12_single_208 g120 ?_
      refine lv_lload_n C.1 C.2.1 dX12_single_209 rfl (lv_at hl 3 rfl) ?_
      refine lv_lconst (v := Int64.ofInt 1) C.1 C.2.1 dX12_single_210 (by decide) ?_
      refine z_ladd C dX12_single_211 ?_
      refine lv_lload C.1 C.2.1 dX12_single_212 (lv_at hl 4 rfl) ?_
      refine z_lmul C dX12_single_214 ?_
      obtain ⟨g123, hm⟩ := grd_s hm
      obtain ⟨g124, hm⟩ := grd_s hm
      refine W.lcmp C.1 C.2.1 dX12_single_215 ?_
      refine z_lcmp_ge (tgt := 229) C dX12_single_216 (by decide) g123 g124 (fun c125 => ?_) (fun c125 => ?_)
      · have hm := ite_f c125 hm
        refine lv_lload_n C.1 C.2.1 dX12_single_229 rfl (lv_at hl 3 rfl) ?_
        refine lv_lconst (v := Int64.ofInt 1) C.1 C.2.1 dX12_single_230 (by decide) ?_
        refine z_ladd C dX12_single_231 ?_
        refine lv_lload C.1 C.2.1 dX12_single_232 (lv_at hl 4 rfl) ?_
        refine z_lmul C dX12_single_234 ?_
        exact lm_single_235 (N := N) C hr hlk hrec184 (lv_sub hl [1, 2, 3, 4, 5, 0] rfl) h hm
      · have hm := ite_t c125 hm
        refine lv_aload_n C.1 C.2.1 dX12_single_219 rfl (lv_at hl 1 rfl) ?_
        refine fg_86 C h dX12_single_220 ?_
        refine lv_iload C.1 C.2.1 dX12_single_223 (lv_at hl 5 rfl) ?_
        refine al_51 C h dX12_single_225 g120 ?_
        refine lv_goto (tgt := 235) C.1 C.2.1 dX12_single_226 (by decide) ?_
        exact lm_single_235 (N := N) C hr hlk hrec184 (lv_sub hl [1, 2, 3, 4, 5, 0] rfl) h hm
set_option maxHeartbeats 4000000 in
set_option maxRecDepth 100000 in
theorem rc_single (l : Launch) (D : va_G) (k : Nat → ClassId) (g : Nat → Nat) (N : Nat) (σ : St) (x1 : Int) (x2 : Int) (x3 : Int) (r : St × Int) (hm : r_single N σ x1 x2 x3 = some r) : Mi l yX12_single (.code yX12_single cX12_single 12 (some .boolean) :: rW) { frames := 2, cells := 0, slots := 0, locals := 61 } [.ref (g 0), .int (Int32.ofInt x1), .int (Int32.ofInt x2), .long (Int64.ofInt x3)] D (TYs k) (mW k g σ) (fun _ => True) Unit (fun v _ => v = Int32.ofInt r.2) (fun _ => mW k g r.1) 0 0 := by
  intro sz
  refine x_met (cc := cX12_single) (maxL := 12) (ret := (some .boolean)) (by decide) rfl (Nat.le_of_ble_eq_true rfl) ?_
  intro p e s m below meth c ls C hX hsz hr hlk hmn hl h
  have hl : lv_has ls 12 [(0, .ref (g 0)), (1, .int (Int32.ofInt x1)), (2, .int (Int32.ofInt x2)), (3, .long (Int64.ofInt x3))] := hl
  rw [r_single] at hm
  refine lv_aload_n C.1 C.2.1 dX12_single_0 rfl (lv_at hl 0 rfl) ?_
  refine fg_99 C h dX12_single_1 ?_
  refine lv_iload_n C.1 C.2.1 dX12_single_4 rfl (lv_at hl 1 rfl) ?_
  obtain ⟨g1, hm⟩ := grd_s hm
  refine al_40 C h dX12_single_5 g1 ?_
  obtain ⟨g2, hm⟩ := grd_s hm
  refine z_if_ne (tgt := 102) C dX12_single_6 (by decide) g2 (fun c3 => ?_) (fun c3 => ?_)
  · have hm := ite_f c3 hm
    refine lv_aload_n C.1 C.2.1 dX12_single_102 rfl (lv_at hl 0 rfl) ?_
    refine fg_56 C h dX12_single_103 ?_
    refine lv_iload_n C.1 C.2.1 dX12_single_106 rfl (lv_at hl 2 rfl) ?_
    obtain ⟨g4, hm⟩ := grd_s hm
    refine al_63 C h dX12_single_107 g4 ?_
    obtain ⟨g5, hm⟩ := grd_s hm
    refine z_i2l C dX12_single_108 g5 ?_
    obtain ⟨v6, e7, hm⟩ := bnd_s hm
    rw [e7]
    refine lv_lstore (lv' := [(5, .long (Int64.ofInt v6)), (0, .ref (g 0)), (1, .int (Int32.ofInt x1)), (2, .int (Int32.ofInt x2)), (3, .long (Int64.ofInt x3))]) C.1 C.2.1 dX12_single_109 hl (by decide) rfl (fun ls hl => ?_)
    refine lv_aload_n C.1 C.2.1 dX12_single_111 rfl (lv_at hl 1 rfl) ?_
    refine fg_49 C h dX12_single_112 ?_
    refine lv_iload_n C.1 C.2.1 dX12_single_115 rfl (lv_at hl 3 rfl) ?_
    refine al_70 C h dX12_single_116 g4 ?_
    obtain ⟨g8, hm⟩ := grd_s hm
    by_cases c9 : (el σ 70 x2) = 12
    · refine x_topi (congrArg Int32.ofInt c9) ?_
      have hm := ite_t c9 hm
      refine lv_tableIn (tgt := 176) C.1 C.2.1 dX12_single_117 (by decide) (by decide) rfl (by decide) ?_
      refine lv_aload_n C.1 C.2.1 dX12_single_176 rfl (lv_at hl 1 rfl) ?_
      refine fg_101 C h dX12_single_177 ?_
      refine lv_iload_n C.1 C.2.1 dX12_single_180 rfl (lv_at hl 2 rfl) ?_
      refine al_38 C h dX12_single_181 g1 ?_
      obtain ⟨v10, e11, hm⟩ := bnd_s hm
      rw [e11]
      refine lv_istore (lv' := [(7, .int (Int32.ofInt v10)), (5, .long (Int64.ofInt v6)), (0, .ref (g 0)), (1, .int (Int32.ofInt x1)), (2, .int (Int32.ofInt x2)), (3, .long (Int64.ofInt x3))]) C.1 C.2.1 dX12_single_182 hl (by decide) rfl (fun ls hl => ?_)
      exact lm_single_184 (N := N) C hr hlk  N (lv_sub hl [2, 3, 5, 1, 0] rfl) h hm
    have hm := ite_f c9 hm
    by_cases c12 : (el σ 70 x2) = 13
    · refine x_topi (congrArg Int32.ofInt c12) ?_
      have hm := ite_t c12 hm
      refine lv_tableIn (tgt := 398) C.1 C.2.1 dX12_single_117 (by decide) (by decide) rfl (by decide) ?_
      refine lv_aload_n C.1 C.2.1 dX12_single_398 rfl (lv_at hl 1 rfl) ?_
      refine lv_aload_n C.1 C.2.1 dX12_single_399 rfl (lv_at hl 1 rfl) ?_
      refine fg_101 C h dX12_single_400 ?_
      refine lv_iload_n C.1 C.2.1 dX12_single_403 rfl (lv_at hl 2 rfl) ?_
      refine al_38 C h dX12_single_404 g1 ?_
      refine lv_lload C.1 C.2.1 dX12_single_405 (lv_at hl 0 rfl) ?_
      refine lv_aload_n C.1 C.2.1 dX12_single_407 rfl (lv_at hl 1 rfl) ?_
      refine lv_iload_n C.1 C.2.1 dX12_single_408 rfl (lv_at hl 2 rfl) ?_
      obtain ⟨r13, e14, hm⟩ := obd_s hm
      refine q_callVl C h (rc_grainOf l D k g N σ x1 r13 e14) (cwV 1 C.2.2.1 (gR_grainOf _) rfl rfl rfl hd_grainOf ⟨Nat.le_of_ble_eq_true rfl, Nat.le_of_ble_eq_true rfl⟩) rfl hl.1 rfl (Nat.le_of_ble_eq_true rfl) dX12_single_409 ⟨Nat.le_of_ble_eq_true rfl, Nat.le_of_ble_eq_true rfl⟩ (fun H locs h => ?_)
      obtain ⟨g15, hm⟩ := grd_s hm
      obtain ⟨g16, hm⟩ := grd_s hm
      obtain ⟨g17, hm⟩ := grd_s hm
      refine z_ldiv C dX12_single_412 g15 g16 g17 ?_
      refine lv_lconst (v := Int64.ofInt 0) C.1 C.2.1 dX12_single_413 (by decide) ?_
      obtain ⟨r18, e19, hm⟩ := obd_s hm
      refine q_callVv C h (rc_move l D k g N r13.1 (el σ 38 x1) (Int.tdiv v6 r13.2) 0 r18 e19) (cwV 3 C.2.2.1 (gR_move _) rfl rfl rfl hd_move ⟨Nat.le_of_ble_eq_true rfl, Nat.le_of_ble_eq_true rfl⟩) rfl hl.1 rfl (Nat.le_of_ble_eq_true rfl) dX12_single_414 ⟨Nat.le_of_ble_eq_true rfl, Nat.le_of_ble_eq_true rfl⟩ (fun H locs h => ?_)
      refine lv_iconst (v := Int32.ofInt 0) C.1 C.2.1 dX12_single_417 (by decide) ?_
      cases hm
      exact q_iret C h hr hlk dX12_single_418 rfl
    have hm := ite_f c12 hm
    by_cases c20 : (el σ 70 x2) = 14
    · refine x_topi (congrArg Int32.ofInt c20) ?_
      have hm := ite_t c20 hm
      refine lv_tableIn (tgt := 398) C.1 C.2.1 dX12_single_117 (by decide) (by decide) rfl (by decide) ?_
      refine lv_aload_n C.1 C.2.1 dX12_single_398 rfl (lv_at hl 1 rfl) ?_
      refine lv_aload_n C.1 C.2.1 dX12_single_399 rfl (lv_at hl 1 rfl) ?_
      refine fg_101 C h dX12_single_400 ?_
      refine lv_iload_n C.1 C.2.1 dX12_single_403 rfl (lv_at hl 2 rfl) ?_
      refine al_38 C h dX12_single_404 g1 ?_
      refine lv_lload C.1 C.2.1 dX12_single_405 (lv_at hl 0 rfl) ?_
      refine lv_aload_n C.1 C.2.1 dX12_single_407 rfl (lv_at hl 1 rfl) ?_
      refine lv_iload_n C.1 C.2.1 dX12_single_408 rfl (lv_at hl 2 rfl) ?_
      obtain ⟨r21, e22, hm⟩ := obd_s hm
      refine q_callVl C h (rc_grainOf l D k g N σ x1 r21 e22) (cwV 1 C.2.2.1 (gR_grainOf _) rfl rfl rfl hd_grainOf ⟨Nat.le_of_ble_eq_true rfl, Nat.le_of_ble_eq_true rfl⟩) rfl hl.1 rfl (Nat.le_of_ble_eq_true rfl) dX12_single_409 ⟨Nat.le_of_ble_eq_true rfl, Nat.le_of_ble_eq_true rfl⟩ (fun H locs h => ?_)
      obtain ⟨g23, hm⟩ := grd_s hm
      obtain ⟨g24, hm⟩ := grd_s hm
      obtain ⟨g25, hm⟩ := grd_s hm
      refine z_ldiv C dX12_single_412 g23 g24 g25 ?_
      refine lv_lconst (v := Int64.ofInt 0) C.1 C.2.1 dX12_single_413 (by decide) ?_
      obtain ⟨r26, e27, hm⟩ := obd_s hm
      refine q_callVv C h (rc_move l D k g N r21.1 (el σ 38 x1) (Int.tdiv v6 r21.2) 0 r26 e27) (cwV 3 C.2.2.1 (gR_move _) rfl rfl rfl hd_move ⟨Nat.le_of_ble_eq_true rfl, Nat.le_of_ble_eq_true rfl⟩) rfl hl.1 rfl (Nat.le_of_ble_eq_true rfl) dX12_single_414 ⟨Nat.le_of_ble_eq_true rfl, Nat.le_of_ble_eq_true rfl⟩ (fun H locs h => ?_)
      refine lv_iconst (v := Int32.ofInt 0) C.1 C.2.1 dX12_single_417 (by decide) ?_
      cases hm
      exact q_iret C h hr hlk dX12_single_418 rfl
    have hm := ite_f c20 hm
    by_cases c28 : (el σ 70 x2) = 15
    · refine x_topi (congrArg Int32.ofInt c28) ?_
      have hm := ite_t c28 hm
      refine lv_tableIn (tgt := 398) C.1 C.2.1 dX12_single_117 (by decide) (by decide) rfl (by decide) ?_
      refine lv_aload_n C.1 C.2.1 dX12_single_398 rfl (lv_at hl 1 rfl) ?_
      refine lv_aload_n C.1 C.2.1 dX12_single_399 rfl (lv_at hl 1 rfl) ?_
      refine fg_101 C h dX12_single_400 ?_
      refine lv_iload_n C.1 C.2.1 dX12_single_403 rfl (lv_at hl 2 rfl) ?_
      refine al_38 C h dX12_single_404 g1 ?_
      refine lv_lload C.1 C.2.1 dX12_single_405 (lv_at hl 0 rfl) ?_
      refine lv_aload_n C.1 C.2.1 dX12_single_407 rfl (lv_at hl 1 rfl) ?_
      refine lv_iload_n C.1 C.2.1 dX12_single_408 rfl (lv_at hl 2 rfl) ?_
      obtain ⟨r29, e30, hm⟩ := obd_s hm
      refine q_callVl C h (rc_grainOf l D k g N σ x1 r29 e30) (cwV 1 C.2.2.1 (gR_grainOf _) rfl rfl rfl hd_grainOf ⟨Nat.le_of_ble_eq_true rfl, Nat.le_of_ble_eq_true rfl⟩) rfl hl.1 rfl (Nat.le_of_ble_eq_true rfl) dX12_single_409 ⟨Nat.le_of_ble_eq_true rfl, Nat.le_of_ble_eq_true rfl⟩ (fun H locs h => ?_)
      obtain ⟨g31, hm⟩ := grd_s hm
      obtain ⟨g32, hm⟩ := grd_s hm
      obtain ⟨g33, hm⟩ := grd_s hm
      refine z_ldiv C dX12_single_412 g31 g32 g33 ?_
      refine lv_lconst (v := Int64.ofInt 0) C.1 C.2.1 dX12_single_413 (by decide) ?_
      obtain ⟨r34, e35, hm⟩ := obd_s hm
      refine q_callVv C h (rc_move l D k g N r29.1 (el σ 38 x1) (Int.tdiv v6 r29.2) 0 r34 e35) (cwV 3 C.2.2.1 (gR_move _) rfl rfl rfl hd_move ⟨Nat.le_of_ble_eq_true rfl, Nat.le_of_ble_eq_true rfl⟩) rfl hl.1 rfl (Nat.le_of_ble_eq_true rfl) dX12_single_414 ⟨Nat.le_of_ble_eq_true rfl, Nat.le_of_ble_eq_true rfl⟩ (fun H locs h => ?_)
      refine lv_iconst (v := Int32.ofInt 0) C.1 C.2.1 dX12_single_417 (by decide) ?_
      cases hm
      exact q_iret C h hr hlk dX12_single_418 rfl
    have hm := ite_f c28 hm
    by_cases c36 : (el σ 70 x2) = 16
    · refine x_topi (congrArg Int32.ofInt c36) ?_
      have hm := ite_t c36 hm
      refine lv_tableIn (tgt := 398) C.1 C.2.1 dX12_single_117 (by decide) (by decide) rfl (by decide) ?_
      refine lv_aload_n C.1 C.2.1 dX12_single_398 rfl (lv_at hl 1 rfl) ?_
      refine lv_aload_n C.1 C.2.1 dX12_single_399 rfl (lv_at hl 1 rfl) ?_
      refine fg_101 C h dX12_single_400 ?_
      refine lv_iload_n C.1 C.2.1 dX12_single_403 rfl (lv_at hl 2 rfl) ?_
      refine al_38 C h dX12_single_404 g1 ?_
      refine lv_lload C.1 C.2.1 dX12_single_405 (lv_at hl 0 rfl) ?_
      refine lv_aload_n C.1 C.2.1 dX12_single_407 rfl (lv_at hl 1 rfl) ?_
      refine lv_iload_n C.1 C.2.1 dX12_single_408 rfl (lv_at hl 2 rfl) ?_
      obtain ⟨r37, e38, hm⟩ := obd_s hm
      refine q_callVl C h (rc_grainOf l D k g N σ x1 r37 e38) (cwV 1 C.2.2.1 (gR_grainOf _) rfl rfl rfl hd_grainOf ⟨Nat.le_of_ble_eq_true rfl, Nat.le_of_ble_eq_true rfl⟩) rfl hl.1 rfl (Nat.le_of_ble_eq_true rfl) dX12_single_409 ⟨Nat.le_of_ble_eq_true rfl, Nat.le_of_ble_eq_true rfl⟩ (fun H locs h => ?_)
      obtain ⟨g39, hm⟩ := grd_s hm
      obtain ⟨g40, hm⟩ := grd_s hm
      obtain ⟨g41, hm⟩ := grd_s hm
      refine z_ldiv C dX12_single_412 g39 g40 g41 ?_
      refine lv_lconst (v := Int64.ofInt 0) C.1 C.2.1 dX12_single_413 (by decide) ?_
      obtain ⟨r42, e43, hm⟩ := obd_s hm
      refine q_callVv C h (rc_move l D k g N r37.1 (el σ 38 x1) (Int.tdiv v6 r37.2) 0 r42 e43) (cwV 3 C.2.2.1 (gR_move _) rfl rfl rfl hd_move ⟨Nat.le_of_ble_eq_true rfl, Nat.le_of_ble_eq_true rfl⟩) rfl hl.1 rfl (Nat.le_of_ble_eq_true rfl) dX12_single_414 ⟨Nat.le_of_ble_eq_true rfl, Nat.le_of_ble_eq_true rfl⟩ (fun H locs h => ?_)
      refine lv_iconst (v := Int32.ofInt 0) C.1 C.2.1 dX12_single_417 (by decide) ?_
      cases hm
      exact q_iret C h hr hlk dX12_single_418 rfl
    have hm := ite_f c36 hm
    by_cases c44 : (el σ 70 x2) = 17
    · refine x_topi (congrArg Int32.ofInt c44) ?_
      have hm := ite_t c44 hm
      refine lv_tableIn (tgt := 398) C.1 C.2.1 dX12_single_117 (by decide) (by decide) rfl (by decide) ?_
      refine lv_aload_n C.1 C.2.1 dX12_single_398 rfl (lv_at hl 1 rfl) ?_
      refine lv_aload_n C.1 C.2.1 dX12_single_399 rfl (lv_at hl 1 rfl) ?_
      refine fg_101 C h dX12_single_400 ?_
      refine lv_iload_n C.1 C.2.1 dX12_single_403 rfl (lv_at hl 2 rfl) ?_
      refine al_38 C h dX12_single_404 g1 ?_
      refine lv_lload C.1 C.2.1 dX12_single_405 (lv_at hl 0 rfl) ?_
      refine lv_aload_n C.1 C.2.1 dX12_single_407 rfl (lv_at hl 1 rfl) ?_
      refine lv_iload_n C.1 C.2.1 dX12_single_408 rfl (lv_at hl 2 rfl) ?_
      obtain ⟨r45, e46, hm⟩ := obd_s hm
      refine q_callVl C h (rc_grainOf l D k g N σ x1 r45 e46) (cwV 1 C.2.2.1 (gR_grainOf _) rfl rfl rfl hd_grainOf ⟨Nat.le_of_ble_eq_true rfl, Nat.le_of_ble_eq_true rfl⟩) rfl hl.1 rfl (Nat.le_of_ble_eq_true rfl) dX12_single_409 ⟨Nat.le_of_ble_eq_true rfl, Nat.le_of_ble_eq_true rfl⟩ (fun H locs h => ?_)
      obtain ⟨g47, hm⟩ := grd_s hm
      obtain ⟨g48, hm⟩ := grd_s hm
      obtain ⟨g49, hm⟩ := grd_s hm
      refine z_ldiv C dX12_single_412 g47 g48 g49 ?_
      refine lv_lconst (v := Int64.ofInt 0) C.1 C.2.1 dX12_single_413 (by decide) ?_
      obtain ⟨r50, e51, hm⟩ := obd_s hm
      refine q_callVv C h (rc_move l D k g N r45.1 (el σ 38 x1) (Int.tdiv v6 r45.2) 0 r50 e51) (cwV 3 C.2.2.1 (gR_move _) rfl rfl rfl hd_move ⟨Nat.le_of_ble_eq_true rfl, Nat.le_of_ble_eq_true rfl⟩) rfl hl.1 rfl (Nat.le_of_ble_eq_true rfl) dX12_single_414 ⟨Nat.le_of_ble_eq_true rfl, Nat.le_of_ble_eq_true rfl⟩ (fun H locs h => ?_)
      refine lv_iconst (v := Int32.ofInt 0) C.1 C.2.1 dX12_single_417 (by decide) ?_
      cases hm
      exact q_iret C h hr hlk dX12_single_418 rfl
    have hm := ite_f c44 hm
    by_cases c52 : (el σ 70 x2) = 18
    · refine x_topi (congrArg Int32.ofInt c52) ?_
      have hm := ite_t c52 hm
      refine lv_tableIn (tgt := 398) C.1 C.2.1 dX12_single_117 (by decide) (by decide) rfl (by decide) ?_
      refine lv_aload_n C.1 C.2.1 dX12_single_398 rfl (lv_at hl 1 rfl) ?_
      refine lv_aload_n C.1 C.2.1 dX12_single_399 rfl (lv_at hl 1 rfl) ?_
      refine fg_101 C h dX12_single_400 ?_
      refine lv_iload_n C.1 C.2.1 dX12_single_403 rfl (lv_at hl 2 rfl) ?_
      refine al_38 C h dX12_single_404 g1 ?_
      refine lv_lload C.1 C.2.1 dX12_single_405 (lv_at hl 0 rfl) ?_
      refine lv_aload_n C.1 C.2.1 dX12_single_407 rfl (lv_at hl 1 rfl) ?_
      refine lv_iload_n C.1 C.2.1 dX12_single_408 rfl (lv_at hl 2 rfl) ?_
      obtain ⟨r53, e54, hm⟩ := obd_s hm
      refine q_callVl C h (rc_grainOf l D k g N σ x1 r53 e54) (cwV 1 C.2.2.1 (gR_grainOf _) rfl rfl rfl hd_grainOf ⟨Nat.le_of_ble_eq_true rfl, Nat.le_of_ble_eq_true rfl⟩) rfl hl.1 rfl (Nat.le_of_ble_eq_true rfl) dX12_single_409 ⟨Nat.le_of_ble_eq_true rfl, Nat.le_of_ble_eq_true rfl⟩ (fun H locs h => ?_)
      obtain ⟨g55, hm⟩ := grd_s hm
      obtain ⟨g56, hm⟩ := grd_s hm
      obtain ⟨g57, hm⟩ := grd_s hm
      refine z_ldiv C dX12_single_412 g55 g56 g57 ?_
      refine lv_lconst (v := Int64.ofInt 0) C.1 C.2.1 dX12_single_413 (by decide) ?_
      obtain ⟨r58, e59, hm⟩ := obd_s hm
      refine q_callVv C h (rc_move l D k g N r53.1 (el σ 38 x1) (Int.tdiv v6 r53.2) 0 r58 e59) (cwV 3 C.2.2.1 (gR_move _) rfl rfl rfl hd_move ⟨Nat.le_of_ble_eq_true rfl, Nat.le_of_ble_eq_true rfl⟩) rfl hl.1 rfl (Nat.le_of_ble_eq_true rfl) dX12_single_414 ⟨Nat.le_of_ble_eq_true rfl, Nat.le_of_ble_eq_true rfl⟩ (fun H locs h => ?_)
      refine lv_iconst (v := Int32.ofInt 0) C.1 C.2.1 dX12_single_417 (by decide) ?_
      cases hm
      exact q_iret C h hr hlk dX12_single_418 rfl
    have hm := ite_f c52 hm
    by_cases c60 : (el σ 70 x2) = 19
    · refine x_topi (congrArg Int32.ofInt c60) ?_
      have hm := ite_t c60 hm
      refine lv_tableIn (tgt := 369) C.1 C.2.1 dX12_single_117 (by decide) (by decide) rfl (by decide) ?_
      refine lv_aload_n C.1 C.2.1 dX12_single_369 rfl (lv_at hl 1 rfl) ?_
      refine lv_aload_n C.1 C.2.1 dX12_single_370 rfl (lv_at hl 1 rfl) ?_
      refine fg_101 C h dX12_single_371 ?_
      refine lv_iload_n C.1 C.2.1 dX12_single_374 rfl (lv_at hl 2 rfl) ?_
      refine al_38 C h dX12_single_375 g1 ?_
      refine lv_aload_n C.1 C.2.1 dX12_single_376 rfl (lv_at hl 1 rfl) ?_
      refine fg_50 C h dX12_single_377 ?_
      refine lv_iload_n C.1 C.2.1 dX12_single_380 rfl (lv_at hl 3 rfl) ?_
      refine al_69 C h dX12_single_381 g4 ?_
      obtain ⟨r61, e62, hm⟩ := obd_s hm
      refine q_callVv C h (rc_rotate l D k g N σ (el σ 38 x1) (el σ 69 x2) r61 e62) (cwV 2 C.2.2.1 (gR_rotate _) rfl rfl rfl hd_rotate ⟨Nat.le_of_ble_eq_true rfl, Nat.le_of_ble_eq_true rfl⟩) rfl hl.1 rfl (Nat.le_of_ble_eq_true rfl) dX12_single_382 ⟨Nat.le_of_ble_eq_true rfl, Nat.le_of_ble_eq_true rfl⟩ (fun H locs h => ?_)
      refine lv_goto (tgt := 417) C.1 C.2.1 dX12_single_385 (by decide) ?_
      refine lv_iconst (v := Int32.ofInt 0) C.1 C.2.1 dX12_single_417 (by decide) ?_
      cases hm
      exact q_iret C h hr hlk dX12_single_418 rfl
    have hm := ite_f c60 hm
    by_cases c63 : (el σ 70 x2) = 20
    · refine x_topi (congrArg Int32.ofInt c63) ?_
      have hm := ite_t c63 hm
      refine lv_tableIn (tgt := 296) C.1 C.2.1 dX12_single_117 (by decide) (by decide) rfl (by decide) ?_
      refine lv_aload_n C.1 C.2.1 dX12_single_296 rfl (lv_at hl 1 rfl) ?_
      refine lv_iload_n C.1 C.2.1 dX12_single_297 rfl (lv_at hl 3 rfl) ?_
      obtain ⟨r64, e65, hm⟩ := obd_s hm
      refine q_callVi C h (rc_spanAbove l D k g N σ x2 r64 e65) (cwV 1 C.2.2.1 (gR_spanAbove _) rfl rfl rfl hd_spanAbove ⟨Nat.le_of_ble_eq_true rfl, Nat.le_of_ble_eq_true rfl⟩) rfl hl.1 rfl (Nat.le_of_ble_eq_true rfl) dX12_single_298 ⟨Nat.le_of_ble_eq_true rfl, Nat.le_of_ble_eq_true rfl⟩ (fun H locs h => ?_)
      obtain ⟨g66, hm⟩ := grd_s hm
      refine z_i2l C dX12_single_301 g66 ?_
      refine lv_lload C.1 C.2.1 dX12_single_302 (lv_at hl 0 rfl) ?_
      refine lv_aload_n C.1 C.2.1 dX12_single_304 rfl (lv_at hl 1 rfl) ?_
      refine lv_iload_n C.1 C.2.1 dX12_single_305 rfl (lv_at hl 3 rfl) ?_
      obtain ⟨r67, e68, hm⟩ := obd_s hm
      refine q_callVi C h (rc_spanBelow l D k g N r64.1 x2 r67 e68) (cwV 1 C.2.2.1 (gR_spanBelow _) rfl rfl rfl hd_spanBelow ⟨Nat.le_of_ble_eq_true rfl, Nat.le_of_ble_eq_true rfl⟩) rfl hl.1 rfl (Nat.le_of_ble_eq_true rfl) dX12_single_306 ⟨Nat.le_of_ble_eq_true rfl, Nat.le_of_ble_eq_true rfl⟩ (fun H locs h => ?_)
      obtain ⟨g69, hm⟩ := grd_s hm
      refine z_i2l C dX12_single_309 g69 ?_
      refine lv_aload_n C.1 C.2.1 dX12_single_310 rfl (lv_at hl 1 rfl) ?_
      refine lv_iload_n C.1 C.2.1 dX12_single_311 rfl (lv_at hl 2 rfl) ?_
      obtain ⟨r70, e71, hm⟩ := obd_s hm
      refine q_callVl C h (rc_grainOf l D k g N r67.1 x1 r70 e71) (cwV 1 C.2.2.1 (gR_grainOf _) rfl rfl rfl hd_grainOf ⟨Nat.le_of_ble_eq_true rfl, Nat.le_of_ble_eq_true rfl⟩) rfl hl.1 rfl (Nat.le_of_ble_eq_true rfl) dX12_single_312 ⟨Nat.le_of_ble_eq_true rfl, Nat.le_of_ble_eq_true rfl⟩ (fun H locs h => ?_)
      refine z_lmul C dX12_single_315 ?_
      obtain ⟨g72, hm⟩ := grd_s hm
      obtain ⟨g73, hm⟩ := grd_s hm
      obtain ⟨g74, hm⟩ := grd_s hm
      refine z_ldiv C dX12_single_316 g72 g73 g74 ?_
      refine z_lmul C dX12_single_317 ?_
      obtain ⟨v75, e76, hm⟩ := bnd_s hm
      rw [e76]
      refine lv_lstore (lv' := [(7, .long (Int64.ofInt v75)), (5, .long (Int64.ofInt v6)), (0, .ref (g 0)), (1, .int (Int32.ofInt x1)), (2, .int (Int32.ofInt x2)), (3, .long (Int64.ofInt x3))]) C.1 C.2.1 dX12_single_318 hl (by decide) rfl (fun ls hl => ?_)
      refine lv_aload_n C.1 C.2.1 dX12_single_320 rfl (lv_at hl 2 rfl) ?_
      refine lv_aload_n C.1 C.2.1 dX12_single_321 rfl (lv_at hl 2 rfl) ?_
      refine fg_101 C h dX12_single_322 ?_
      refine lv_iload_n C.1 C.2.1 dX12_single_325 rfl (lv_at hl 3 rfl) ?_
      refine al_38 C h dX12_single_326 g1 ?_
      refine lv_lload C.1 C.2.1 dX12_single_327 (lv_at hl 0 rfl) ?_
      refine lv_lload_n C.1 C.2.1 dX12_single_329 rfl (lv_at hl 5 rfl) ?_
      refine lv_lload C.1 C.2.1 dX12_single_330 (lv_at hl 1 rfl) ?_
      refine z_lmul C dX12_single_332 ?_
      refine lv_aload_n C.1 C.2.1 dX12_single_333 rfl (lv_at hl 2 rfl) ?_
      refine fg_50 C h dX12_single_334 ?_
      refine lv_iload_n C.1 C.2.1 dX12_single_337 rfl (lv_at hl 4 rfl) ?_
      refine al_69 C h dX12_single_338 g4 ?_
      obtain ⟨g77, hm⟩ := grd_s hm
      refine z_i2l C dX12_single_339 g77 ?_
      refine lv_lload C.1 C.2.1 dX12_single_340 (lv_at hl 1 rfl) ?_
      refine lv_aload_n C.1 C.2.1 dX12_single_342 rfl (lv_at hl 2 rfl) ?_
      refine fg_51 C h dX12_single_343 ?_
      refine lv_iload_n C.1 C.2.1 dX12_single_346 rfl (lv_at hl 4 rfl) ?_
      refine al_68 C h dX12_single_347 g4 ?_
      obtain ⟨g78, hm⟩ := grd_s hm
      refine z_i2l C dX12_single_348 g78 ?_
      obtain ⟨g79, hm⟩ := grd_s hm
      obtain ⟨g80, hm⟩ := grd_s hm
      refine z_ldiv C dX12_single_349 g72 g79 g80 ?_
      refine z_lmul C dX12_single_350 ?_
      refine z_ladd C dX12_single_351 ?_
      refine lv_lload_n C.1 C.2.1 dX12_single_352 rfl (lv_at hl 5 rfl) ?_
      refine lv_aload_n C.1 C.2.1 dX12_single_353 rfl (lv_at hl 2 rfl) ?_
      refine lv_iload_n C.1 C.2.1 dX12_single_354 rfl (lv_at hl 3 rfl) ?_
      obtain ⟨r81, e82, hm⟩ := obd_s hm
      refine q_callVl C h (rc_grainOf l D k g N r70.1 x1 r81 e82) (cwV 1 C.2.2.1 (gR_grainOf _) rfl rfl rfl hd_grainOf ⟨Nat.le_of_ble_eq_true rfl, Nat.le_of_ble_eq_true rfl⟩) rfl hl.1 rfl (Nat.le_of_ble_eq_true rfl) dX12_single_355 ⟨Nat.le_of_ble_eq_true rfl, Nat.le_of_ble_eq_true rfl⟩ (fun H locs h => ?_)
      refine z_lmul C dX12_single_358 ?_
      refine lv_lload C.1 C.2.1 dX12_single_359 (lv_at hl 0 rfl) ?_
      refine z_lmul C dX12_single_361 ?_
      refine z_lsub C dX12_single_362 ?_
      obtain ⟨r83, e84, hm⟩ := obd_s hm
      refine q_callVv C h (rc_move l D k g N r81.1 (el r70.1 38 x1) v75 (((x3 * v6) + ((el r70.1 69 x2) * (Int.tdiv v6 (el r70.1 68 x2)))) - ((x3 * r81.2) * v75)) r83 e84) (cwV 3 C.2.2.1 (gR_move _) rfl rfl rfl hd_move ⟨Nat.le_of_ble_eq_true rfl, Nat.le_of_ble_eq_true rfl⟩) rfl hl.1 rfl (Nat.le_of_ble_eq_true rfl) dX12_single_363 ⟨Nat.le_of_ble_eq_true rfl, Nat.le_of_ble_eq_true rfl⟩ (fun H locs h => ?_)
      refine lv_goto (tgt := 417) C.1 C.2.1 dX12_single_366 (by decide) ?_
      refine lv_iconst (v := Int32.ofInt 0) C.1 C.2.1 dX12_single_417 (by decide) ?_
      cases hm
      exact q_iret C h hr hlk dX12_single_418 rfl
    have hm := ite_f c63 hm
    by_cases c85 : (el σ 70 x2) = 21
    · refine x_topi (congrArg Int32.ofInt c85) ?_
      have hm := ite_t c85 hm
      refine lv_tableIn (tgt := 388) C.1 C.2.1 dX12_single_117 (by decide) (by decide) rfl (by decide) ?_
      refine lv_aload_n C.1 C.2.1 dX12_single_388 rfl (lv_at hl 1 rfl) ?_
      refine lv_iload_n C.1 C.2.1 dX12_single_389 rfl (lv_at hl 2 rfl) ?_
      refine lv_iload_n C.1 C.2.1 dX12_single_390 rfl (lv_at hl 3 rfl) ?_
      refine lv_lload_n C.1 C.2.1 dX12_single_391 rfl (lv_at hl 4 rfl) ?_
      obtain ⟨r86, e87, hm⟩ := obd_s hm
      refine q_callVv C h (rc_draw l D k g N σ x1 x2 x3 r86 e87) (cwV 3 C.2.2.1 (gR_draw _) rfl rfl rfl hd_draw ⟨Nat.le_of_ble_eq_true rfl, Nat.le_of_ble_eq_true rfl⟩) rfl hl.1 rfl (Nat.le_of_ble_eq_true rfl) dX12_single_392 ⟨Nat.le_of_ble_eq_true rfl, Nat.le_of_ble_eq_true rfl⟩ (fun H locs h => ?_)
      refine lv_goto (tgt := 417) C.1 C.2.1 dX12_single_395 (by decide) ?_
      refine lv_iconst (v := Int32.ofInt 0) C.1 C.2.1 dX12_single_417 (by decide) ?_
      cases hm
      exact q_iret C h hr hlk dX12_single_418 rfl
    have hm := ite_f c85 hm
    by_cases c88 : (el σ 70 x2) = 22
    · refine x_topi (congrArg Int32.ofInt c88) ?_
      have hm := ite_t c88 hm
      refine lv_tableIn (tgt := 388) C.1 C.2.1 dX12_single_117 (by decide) (by decide) rfl (by decide) ?_
      refine lv_aload_n C.1 C.2.1 dX12_single_388 rfl (lv_at hl 1 rfl) ?_
      refine lv_iload_n C.1 C.2.1 dX12_single_389 rfl (lv_at hl 2 rfl) ?_
      refine lv_iload_n C.1 C.2.1 dX12_single_390 rfl (lv_at hl 3 rfl) ?_
      refine lv_lload_n C.1 C.2.1 dX12_single_391 rfl (lv_at hl 4 rfl) ?_
      obtain ⟨r89, e90, hm⟩ := obd_s hm
      refine q_callVv C h (rc_draw l D k g N σ x1 x2 x3 r89 e90) (cwV 3 C.2.2.1 (gR_draw _) rfl rfl rfl hd_draw ⟨Nat.le_of_ble_eq_true rfl, Nat.le_of_ble_eq_true rfl⟩) rfl hl.1 rfl (Nat.le_of_ble_eq_true rfl) dX12_single_392 ⟨Nat.le_of_ble_eq_true rfl, Nat.le_of_ble_eq_true rfl⟩ (fun H locs h => ?_)
      refine lv_goto (tgt := 417) C.1 C.2.1 dX12_single_395 (by decide) ?_
      refine lv_iconst (v := Int32.ofInt 0) C.1 C.2.1 dX12_single_417 (by decide) ?_
      cases hm
      exact q_iret C h hr hlk dX12_single_418 rfl
    have hm := ite_f c88 hm
    refine lv_tableOut (tgt := 398) C.1 C.2.1 dX12_single_117 (by rw [c32_ti g8]; omega) (by decide) ?_
    refine lv_aload_n C.1 C.2.1 dX12_single_398 rfl (lv_at hl 1 rfl) ?_
    refine lv_aload_n C.1 C.2.1 dX12_single_399 rfl (lv_at hl 1 rfl) ?_
    refine fg_101 C h dX12_single_400 ?_
    refine lv_iload_n C.1 C.2.1 dX12_single_403 rfl (lv_at hl 2 rfl) ?_
    refine al_38 C h dX12_single_404 g1 ?_
    refine lv_lload C.1 C.2.1 dX12_single_405 (lv_at hl 0 rfl) ?_
    refine lv_aload_n C.1 C.2.1 dX12_single_407 rfl (lv_at hl 1 rfl) ?_
    refine lv_iload_n C.1 C.2.1 dX12_single_408 rfl (lv_at hl 2 rfl) ?_
    obtain ⟨r91, e92, hm⟩ := obd_s hm
    refine q_callVl C h (rc_grainOf l D k g N σ x1 r91 e92) (cwV 1 C.2.2.1 (gR_grainOf _) rfl rfl rfl hd_grainOf ⟨Nat.le_of_ble_eq_true rfl, Nat.le_of_ble_eq_true rfl⟩) rfl hl.1 rfl (Nat.le_of_ble_eq_true rfl) dX12_single_409 ⟨Nat.le_of_ble_eq_true rfl, Nat.le_of_ble_eq_true rfl⟩ (fun H locs h => ?_)
    obtain ⟨g93, hm⟩ := grd_s hm
    obtain ⟨g94, hm⟩ := grd_s hm
    obtain ⟨g95, hm⟩ := grd_s hm
    refine z_ldiv C dX12_single_412 g93 g94 g95 ?_
    refine lv_lconst (v := Int64.ofInt 0) C.1 C.2.1 dX12_single_413 (by decide) ?_
    obtain ⟨r96, e97, hm⟩ := obd_s hm
    refine q_callVv C h (rc_move l D k g N r91.1 (el σ 38 x1) (Int.tdiv v6 r91.2) 0 r96 e97) (cwV 3 C.2.2.1 (gR_move _) rfl rfl rfl hd_move ⟨Nat.le_of_ble_eq_true rfl, Nat.le_of_ble_eq_true rfl⟩) rfl hl.1 rfl (Nat.le_of_ble_eq_true rfl) dX12_single_414 ⟨Nat.le_of_ble_eq_true rfl, Nat.le_of_ble_eq_true rfl⟩ (fun H locs h => ?_)
    refine lv_iconst (v := Int32.ofInt 0) C.1 C.2.1 dX12_single_417 (by decide) ?_
    cases hm
    exact q_iret C h hr hlk dX12_single_418 rfl
  · have hm := ite_t c3 hm
    refine lv_aload_n C.1 C.2.1 dX12_single_9 rfl (lv_at hl 0 rfl) ?_
    refine fg_49 C h dX12_single_10 ?_
    refine lv_iload_n C.1 C.2.1 dX12_single_13 rfl (lv_at hl 2 rfl) ?_
    obtain ⟨g98, hm⟩ := grd_s hm
    refine al_70 C h dX12_single_14 g98 ?_
    refine lv_bipush (v := Int32.ofInt 13) C.1 C.2.1 dX12_single_15 (by decide) ?_
    obtain ⟨g99, hm⟩ := grd_s hm
    refine z_icmp_ne (tgt := 44) C dX12_single_17 (by decide) g99 (by decide) (fun c100 => ?_) (fun c100 => ?_)
    · have hm := ite_f c100 hm
      refine lv_aload_n C.1 C.2.1 dX12_single_44 rfl (lv_at hl 0 rfl) ?_
      refine fg_49 C h dX12_single_45 ?_
      refine lv_iload_n C.1 C.2.1 dX12_single_48 rfl (lv_at hl 2 rfl) ?_
      refine al_70 C h dX12_single_49 g98 ?_
      refine lv_bipush (v := Int32.ofInt 14) C.1 C.2.1 dX12_single_50 (by decide) ?_
      refine z_icmp_ne (tgt := 81) C dX12_single_52 (by decide) g99 (by decide) (fun c101 => ?_) (fun c101 => ?_)
      · have hm := ite_f c101 hm
        exact lm_single_81 (N := N) C hr hlk  (lv_sub hl [0, 1, 3] rfl) h hm
      · have hm := ite_t c101 hm
        refine lv_lload_n C.1 C.2.1 dX12_single_55 rfl (lv_at hl 3 rfl) ?_
        refine lv_aload_n C.1 C.2.1 dX12_single_56 rfl (lv_at hl 0 rfl) ?_
        refine fg_50 C h dX12_single_57 ?_
        refine lv_iload_n C.1 C.2.1 dX12_single_60 rfl (lv_at hl 2 rfl) ?_
        refine al_69 C h dX12_single_61 g98 ?_
        obtain ⟨g102, hm⟩ := grd_s hm
        refine z_i2l C dX12_single_62 g102 ?_
        obtain ⟨r103, e104, hm⟩ := obd_s hm
        refine q_callSl C h (rc_mod l D k N x3 (el σ 69 x2) r103 e104) (cwS 2 C.2.2.1 (gR_mod _) rfl rfl rfl hd_mod ⟨Nat.le_of_ble_eq_true rfl, Nat.le_of_ble_eq_true rfl⟩) rfl hl.1 rfl (Nat.le_of_ble_eq_true rfl) dX12_single_63 ⟨Nat.le_of_ble_eq_true rfl, Nat.le_of_ble_eq_true rfl⟩ (fun H locs h => ?_)
        refine lv_aload_n C.1 C.2.1 dX12_single_66 rfl (lv_at hl 0 rfl) ?_
        refine fg_51 C h dX12_single_67 ?_
        refine lv_iload_n C.1 C.2.1 dX12_single_70 rfl (lv_at hl 2 rfl) ?_
        refine al_68 C h dX12_single_71 g98 ?_
        obtain ⟨g105, hm⟩ := grd_s hm
        refine z_i2l C dX12_single_72 g105 ?_
        obtain ⟨g106, hm⟩ := grd_s hm
        obtain ⟨g107, hm⟩ := grd_s hm
        refine W.lcmp C.1 C.2.1 dX12_single_73 ?_
        refine z_lcmp_lt (tgt := 81) C dX12_single_74 (by decide) g106 g107 (fun c108 => ?_) (fun c108 => ?_)
        · have hm := ite_t c108 hm
          exact lm_single_81 (N := N) C hr hlk  (lv_sub hl [0, 1, 3] rfl) h hm
        · have hm := ite_f c108 hm
          refine lv_iconst (v := Int32.ofInt 1) C.1 C.2.1 dX12_single_77 (by decide) ?_
          refine lv_goto (tgt := 82) C.1 C.2.1 dX12_single_78 (by decide) ?_
          exact lm_single_82 (N := N) C hr hlk  (lv_sub hl [0, 1, 3] rfl) h hm
    · have hm := ite_t c100 hm
      refine lv_lload_n C.1 C.2.1 dX12_single_20 rfl (lv_at hl 3 rfl) ?_
      refine lv_aload_n C.1 C.2.1 dX12_single_21 rfl (lv_at hl 0 rfl) ?_
      refine fg_50 C h dX12_single_22 ?_
      refine lv_iload_n C.1 C.2.1 dX12_single_25 rfl (lv_at hl 2 rfl) ?_
      refine al_69 C h dX12_single_26 g98 ?_
      obtain ⟨g109, hm⟩ := grd_s hm
      refine z_i2l C dX12_single_27 g109 ?_
      obtain ⟨r110, e111, hm⟩ := obd_s hm
      refine q_callSl C h (rc_mod l D k N x3 (el σ 69 x2) r110 e111) (cwS 2 C.2.2.1 (gR_mod _) rfl rfl rfl hd_mod ⟨Nat.le_of_ble_eq_true rfl, Nat.le_of_ble_eq_true rfl⟩) rfl hl.1 rfl (Nat.le_of_ble_eq_true rfl) dX12_single_28 ⟨Nat.le_of_ble_eq_true rfl, Nat.le_of_ble_eq_true rfl⟩ (fun H locs h => ?_)
      refine lv_lconst (v := Int64.ofInt 0) C.1 C.2.1 dX12_single_31 (by decide) ?_
      obtain ⟨g112, hm⟩ := grd_s hm
      refine W.lcmp C.1 C.2.1 dX12_single_32 ?_
      refine z_lcmp_ne (tgt := 40) C dX12_single_33 (by decide) g112 (by decide) (fun c113 => ?_) (fun c113 => ?_)
      · have hm := ite_f c113 hm
        refine lv_iconst (v := Int32.ofInt 0) C.1 C.2.1 dX12_single_40 (by decide) ?_
        refine lv_goto (tgt := 82) C.1 C.2.1 dX12_single_41 (by decide) ?_
        exact lm_single_82 (N := N) C hr hlk  (lv_sub hl [0, 1, 3] rfl) h hm
      · have hm := ite_t c113 hm
        refine lv_iconst (v := Int32.ofInt 1) C.1 C.2.1 dX12_single_36 (by decide) ?_
        refine lv_goto (tgt := 82) C.1 C.2.1 dX12_single_37 (by decide) ?_
        exact lm_single_82 (N := N) C hr hlk  (lv_sub hl [0, 1, 3] rfl) h hm
end L_single
section L_isLoud
variable {p : Program} {l : Launch} {e : Env} {s : State} {m : MethodId} {args : Array Value} {below : List Frame} {meth : Method} {c : Code} {D : va_G} {A : Nat → Prop} {k : Nat → ClassId} {g : Nat → Nat} {N : Nat} {cd : Cond}
set_option maxHeartbeats 4000000 in
set_option maxRecDepth 100000 in
theorem lm_isLoud_16 {r : Int} (C : Cx p s m args c cX12_isLoud RX12 (cd :: rW) D (TYs k) 2) (hr : meth.sig.returnType = (some .boolean)) (hlk : meth.locks = false)  {ls : Array Slot} {H : Heap} {locs : List Loc}  (hl : lv_has ls 2 []) (h : Hp D A s.heap H locs []) (hm : r_isLoud_16 N   = some r) : W p l e { frames := 0, cells := 0, slots := 0, locals := 0 } s m args below meth c H locs 0 0 (MQ below (va_Qi (fun v (_ : Unit) => v = Int32.ofInt r) (fun _ t => PostW D (TYs k) A [] t) A) args s 0 0 A) (F0 m 16 ls []) := by
  rw [r_isLoud_16] at hm
  refine lv_iconst (v := Int32.ofInt 1) C.1 C.2.1 dX12_isLoud_16 (by decide) ?_
  refine lv_goto (tgt := 21) C.1 C.2.1 dX12_isLoud_17 (by decide) ?_
  cases hm
  exact q_iretS C h hr hlk dX12_isLoud_21 rfl
set_option maxHeartbeats 4000000 in
set_option maxRecDepth 100000 in
theorem rc_isLoud (l : Launch) (D : va_G) (k : Nat → ClassId) (N : Nat) (x0 : Int) (x1 : Int) (r : Int) (hm : r_isLoud N x0 x1 = some r) : Mi l yX12_isLoud (.code yX12_isLoud cX12_isLoud 2 (some .boolean) :: rW) { frames := 0, cells := 0, slots := 0, locals := 0 } [.int (Int32.ofInt x0), .int (Int32.ofInt x1)] D (TYs k) [] (fun _ => True) Unit (fun v _ => v = Int32.ofInt r) (fun _ => []) 0 0 := by
  intro sz
  refine x_met (cc := cX12_isLoud) (maxL := 2) (ret := (some .boolean)) (by decide) rfl (Nat.le_of_ble_eq_true rfl) ?_
  intro p e s m below meth c ls C hX hsz hr hlk hmn hl h
  have hl : lv_has ls 2 [(0, .int (Int32.ofInt x0)), (1, .int (Int32.ofInt x1))] := hl
  rw [r_isLoud] at hm
  refine lv_iload_n C.1 C.2.1 dX12_isLoud_0 rfl (lv_at hl 0 rfl) ?_
  refine lv_iconst (v := Int32.ofInt 1) C.1 C.2.1 dX12_isLoud_1 (by decide) ?_
  refine z_iand C dX12_isLoud_2 ?_
  refine lv_iconst (v := Int32.ofInt 1) C.1 C.2.1 dX12_isLoud_3 (by decide) ?_
  obtain ⟨g1, hm⟩ := grd_s hm
  refine z_icmp_eq (tgt := 16) C dX12_isLoud_4 (by decide) g1 (by decide) (fun c2 => ?_) (fun c2 => ?_)
  · have hm := ite_t c2 hm
    exact lm_isLoud_16 (N := N) C hr hlk  (lv_sub hl [] rfl) h hm
  · have hm := ite_f c2 hm
    refine lv_iload_n C.1 C.2.1 dX12_isLoud_7 rfl (lv_at hl 0 rfl) ?_
    refine lv_iconst (v := Int32.ofInt 2) C.1 C.2.1 dX12_isLoud_8 (by decide) ?_
    obtain ⟨g3, hm⟩ := grd_s hm
    refine z_icmp_ne (tgt := 20) C dX12_isLoud_9 (by decide) g3 (by decide) (fun c4 => ?_) (fun c4 => ?_)
    · have hm := ite_f c4 hm
      refine lv_iconst (v := Int32.ofInt 0) C.1 C.2.1 dX12_isLoud_20 (by decide) ?_
      cases hm
      exact q_iretS C h hr hlk dX12_isLoud_21 rfl
    · have hm := ite_t c4 hm
      refine lv_iload_n C.1 C.2.1 dX12_isLoud_12 rfl (lv_at hl 1 rfl) ?_
      obtain ⟨g5, hm⟩ := grd_s hm
      refine z_if_eq (tgt := 20) C dX12_isLoud_13 (by decide) g5 (fun c6 => ?_) (fun c6 => ?_)
      · have hm := ite_t c6 hm
        refine lv_iconst (v := Int32.ofInt 0) C.1 C.2.1 dX12_isLoud_20 (by decide) ?_
        cases hm
        exact q_iretS C h hr hlk dX12_isLoud_21 rfl
      · have hm := ite_f c6 hm
        exact lm_isLoud_16 (N := N) C hr hlk  (lv_sub hl [] rfl) h hm
end L_isLoud
section L_beginSounds
variable {p : Program} {l : Launch} {e : Env} {s : State} {m : MethodId} {args : Array Value} {below : List Frame} {meth : Method} {c : Code} {D : va_G} {A : Nat → Prop} {k : Nat → ClassId} {g : Nat → Nat} {N : Nat} {cd : Cond}
set_option maxHeartbeats 4000000 in
set_option maxRecDepth 100000 in
theorem lm_beginSounds_75 {r : St} (C : Cx p s m args c cX12_beginSounds RX12 (cd :: rW) D (TYs k) 5) (hr : meth.sig.returnType = none) (hlk : meth.locks = false) {rec15 : St → Int → Int → Int → Option St} (hrec15 : ∀ {ls : Array Slot} {H : Heap} {locs : List Loc} {σ : St} {x2 : Int} {x3 : Int} {x4 : Int}, lv_has ls 5 [(0, .ref (g 0)), (2, .int (Int32.ofInt x2)), (3, .int (Int32.ofInt x3)), (4, .int (Int32.ofInt x4))] → Hp D A s.heap H locs (mW k g σ) → rec15 σ x2 x3 x4 = some r → W p l e { frames := 1, cells := 0, slots := 0, locals := 22 } s m args below meth c H locs 0 0 (MQ below (va_Qv (fun (_ : Unit) => True) (fun _ t => PostW D (TYs k) A (mW k g r) t) A) args s 0 0 A) (F0 m 15 ls [])) {ls : Array Slot} {H : Heap} {locs : List Loc} {σ : St} {x2 : Int} {x3 : Int} {x4 : Int} (hl : lv_has ls 5 [(0, .ref (g 0)), (2, .int (Int32.ofInt x2)), (3, .int (Int32.ofInt x3)), (4, .int (Int32.ofInt x4))]) (h : Hp D A s.heap H locs (mW k g σ)) (hm : r_beginSounds_75 N rec15 σ x2 x3 x4 = some r) : W p l e { frames := 1, cells := 0, slots := 0, locals := 22 } s m args below meth c H locs 0 0 (MQ below (va_Qv (fun (_ : Unit) => True) (fun _ t => PostW D (TYs k) A (mW k g r) t) A) args s 0 0 A) (F0 m 75 ls []) := by
  rw [r_beginSounds_75] at hm
  refine lv_iinc (v := Int32.ofInt (x4 + 1)) (lv' := [(4, .int (Int32.ofInt (x4 + 1))), (0, .ref (g 0)), (2, .int (Int32.ofInt x2)), (3, .int (Int32.ofInt x3))]) C.1 C.2.1 dX12_beginSounds_75 hl (k := 3) rfl (c32_add _ _) (by decide) rfl (fun ls hl => ?_)
  refine lv_goto (tgt := 15) C.1 C.2.1 dX12_beginSounds_78 (by decide) ?_
  exact hrec15 (lv_sub hl [1, 2, 3, 0] rfl) h hm
set_option maxHeartbeats 4000000 in
set_option maxRecDepth 100000 in
theorem lm_beginSounds_58 {r : St} (C : Cx p s m args c cX12_beginSounds RX12 (cd :: rW) D (TYs k) 5) (hr : meth.sig.returnType = none) (hlk : meth.locks = false) {rec15 : St → Int → Int → Int → Option St} (hrec15 : ∀ {ls : Array Slot} {H : Heap} {locs : List Loc} {σ : St} {x2 : Int} {x3 : Int} {x4 : Int}, lv_has ls 5 [(0, .ref (g 0)), (2, .int (Int32.ofInt x2)), (3, .int (Int32.ofInt x3)), (4, .int (Int32.ofInt x4))] → Hp D A s.heap H locs (mW k g σ) → rec15 σ x2 x3 x4 = some r → W p l e { frames := 1, cells := 0, slots := 0, locals := 22 } s m args below meth c H locs 0 0 (MQ below (va_Qv (fun (_ : Unit) => True) (fun _ t => PostW D (TYs k) A (mW k g r) t) A) args s 0 0 A) (F0 m 15 ls [])) {ls : Array Slot} {H : Heap} {locs : List Loc} {σ : St} {x2 : Int} {x3 : Int} {x4 : Int} (hl : lv_has ls 5 [(0, .ref (g 0)), (2, .int (Int32.ofInt x2)), (3, .int (Int32.ofInt x3)), (4, .int (Int32.ofInt x4))]) (h : Hp D A s.heap H locs (mW k g σ)) (hm : r_beginSounds_58 N rec15 σ x2 x3 x4 = some r) : W p l e { frames := 1, cells := 0, slots := 0, locals := 22 } s m args below meth c H locs 0 0 (MQ below (va_Qv (fun (_ : Unit) => True) (fun _ t => PostW D (TYs k) A (mW k g r) t) A) args s 0 0 A) (F0 m 58 ls []) := by
  rw [r_beginSounds_58] at hm
  refine lv_aload_n C.1 C.2.1 dX12_beginSounds_58 rfl (lv_at hl 0 rfl) ?_
  refine lv_iload C.1 C.2.1 dX12_beginSounds_59 (lv_at hl 3 rfl) ?_
  refine lv_iload_n C.1 C.2.1 dX12_beginSounds_61 rfl (lv_at hl 2 rfl) ?_
  obtain ⟨r17, e18, hm⟩ := obd_s hm
  refine q_callVv C h (rc_copy l D k g N σ x4 x3 r17 e18) (cwV 2 C.2.2.1 (gR_copy _) rfl rfl rfl hd_copy ⟨Nat.le_of_ble_eq_true rfl, Nat.le_of_ble_eq_true rfl⟩) rfl hl.1 rfl (Nat.le_of_ble_eq_true rfl) dX12_beginSounds_62 ⟨Nat.le_of_ble_eq_true rfl, Nat.le_of_ble_eq_true rfl⟩ (fun H locs h => ?_)
  refine lv_aload_n C.1 C.2.1 dX12_beginSounds_65 rfl (lv_at hl 0 rfl) ?_
  refine fg_91 C h dX12_beginSounds_66 ?_
  refine lv_iload_n C.1 C.2.1 dX12_beginSounds_69 rfl (lv_at hl 2 rfl) ?_
  refine lv_iconst (v := Int32.ofInt (-1)) C.1 C.2.1 dX12_beginSounds_70 (by decide) ?_
  obtain ⟨g19, hm⟩ := grd_s hm
  refine as_46 C h dX12_beginSounds_71 g19 (fun H locs h => ?_)
  refine lv_iinc (v := Int32.ofInt (x3 + 1)) (lv' := [(3, .int (Int32.ofInt (x3 + 1))), (0, .ref (g 0)), (2, .int (Int32.ofInt x2)), (4, .int (Int32.ofInt x4))]) C.1 C.2.1 dX12_beginSounds_72 hl (k := 2) rfl (c32_add _ _) (by decide) rfl (fun ls hl => ?_)
  exact lm_beginSounds_75 (N := N) C hr hlk hrec15 (lv_sub hl [1, 2, 0, 3] rfl) h hm
set_option maxHeartbeats 4000000 in
set_option maxRecDepth 100000 in
theorem lm_beginSounds_15 {r : St} (C : Cx p s m args c cX12_beginSounds RX12 (cd :: rW) D (TYs k) 5) (hr : meth.sig.returnType = none) (hlk : meth.locks = false)  (n : Nat) : ∀ {ls : Array Slot} {H : Heap} {locs : List Loc} {σ : St} {x2 : Int} {x3 : Int} {x4 : Int}, lv_has ls 5 [(0, .ref (g 0)), (2, .int (Int32.ofInt x2)), (3, .int (Int32.ofInt x3)), (4, .int (Int32.ofInt x4))] → Hp D A s.heap H locs (mW k g σ) → r_beginSounds_15 N  n σ x2 x3 x4 = some r → W p l e { frames := 1, cells := 0, slots := 0, locals := 22 } s m args below meth c H locs 0 0 (MQ below (va_Qv (fun (_ : Unit) => True) (fun _ t => PostW D (TYs k) A (mW k g r) t) A) args s 0 0 A) (F0 m 15 ls []) := by
  induction n with
  | zero => intro ls H locs σ x2 x3 x4 hl h hm; cases (show none = some r from hm)
  | succ n hrec15 =>
    intro ls H locs σ x2 x3 x4 hl h hm
    rw [r_beginSounds_15] at hm
    refine lv_iload C.1 C.2.1 dX12_beginSounds_15 (lv_at hl 3 rfl) ?_
    refine lv_aload_n C.1 C.2.1 dX12_beginSounds_17 rfl (lv_at hl 0 rfl) ?_
    refine fg_84 C h dX12_beginSounds_18 ?_
    obtain ⟨g6, hm⟩ := grd_s hm
    obtain ⟨g7, hm⟩ := grd_s hm
    refine z_icmp_ge (tgt := 81) C dX12_beginSounds_21 (by decide) g6 g7 (fun c8 => ?_) (fun c8 => ?_)
    · have hm := ite_f c8 hm
      refine lv_aload_n C.1 C.2.1 dX12_beginSounds_81 rfl (lv_at hl 0 rfl) ?_
      refine lv_iload_n C.1 C.2.1 dX12_beginSounds_82 rfl (lv_at hl 2 rfl) ?_
      refine fp_84 C h dX12_beginSounds_83 (fun H locs h => ?_)
      cases hm
      exact q_vret C h hr hlk dX12_beginSounds_86
    · have hm := ite_t c8 hm
      refine lv_aload_n C.1 C.2.1 dX12_beginSounds_24 rfl (lv_at hl 0 rfl) ?_
      refine fg_49 C h dX12_beginSounds_25 ?_
      refine lv_iload_n C.1 C.2.1 dX12_beginSounds_28 rfl (lv_at hl 1 rfl) ?_
      obtain ⟨g9, hm⟩ := grd_s hm
      refine al_70 C h dX12_beginSounds_29 g9 ?_
      refine lv_bipush (v := Int32.ofInt 23) C.1 C.2.1 dX12_beginSounds_30 (by decide) ?_
      obtain ⟨g10, hm⟩ := grd_s hm
      refine z_icmp_ne (tgt := 58) C dX12_beginSounds_32 (by decide) g10 (by decide) (fun c11 => ?_) (fun c11 => ?_)
      · have hm := ite_f c11 hm
        exact lm_beginSounds_58 (N := N) C hr hlk hrec15 (lv_sub hl [0, 1, 2, 3] rfl) h hm
      · have hm := ite_t c11 hm
        refine lv_aload_n C.1 C.2.1 dX12_beginSounds_35 rfl (lv_at hl 0 rfl) ?_
        refine fg_90 C h dX12_beginSounds_36 ?_
        refine lv_iload C.1 C.2.1 dX12_beginSounds_39 (lv_at hl 3 rfl) ?_
        obtain ⟨g12, hm⟩ := grd_s hm
        refine al_47 C h dX12_beginSounds_41 g12 ?_
        refine lv_aload_n C.1 C.2.1 dX12_beginSounds_42 rfl (lv_at hl 0 rfl) ?_
        refine fg_89 C h dX12_beginSounds_43 ?_
        refine lv_iload C.1 C.2.1 dX12_beginSounds_46 (lv_at hl 3 rfl) ?_
        refine al_48 C h dX12_beginSounds_48 g12 ?_
        obtain ⟨r13, e14, hm⟩ := obd_s hm
        refine q_callSi C h (rc_isLoud l D k N (el σ 47 x4) (el σ 48 x4) r13 e14) (cwS 2 C.2.2.1 (gR_isLoud _) rfl rfl rfl hd_isLoud ⟨Nat.le_of_ble_eq_true rfl, Nat.le_of_ble_eq_true rfl⟩) rfl hl.1 rfl (Nat.le_of_ble_eq_true rfl) dX12_beginSounds_49 ⟨Nat.le_of_ble_eq_true rfl, Nat.le_of_ble_eq_true rfl⟩ (fun H locs h => ?_)
        obtain ⟨g15, hm⟩ := grd_s hm
        refine z_if_ne (tgt := 58) C dX12_beginSounds_52 (by decide) g15 (fun c16 => ?_) (fun c16 => ?_)
        · have hm := ite_f c16 hm
          exact lm_beginSounds_58 (N := N) C hr hlk hrec15 (lv_sub hl [0, 1, 2, 3] rfl) h hm
        · have hm := ite_t c16 hm
          refine lv_goto (tgt := 75) C.1 C.2.1 dX12_beginSounds_55 (by decide) ?_
          exact lm_beginSounds_75 (N := N) C hr hlk hrec15 (lv_sub hl [0, 1, 2, 3] rfl) h hm
set_option maxHeartbeats 4000000 in
set_option maxRecDepth 100000 in
theorem rc_beginSounds (l : Launch) (D : va_G) (k : Nat → ClassId) (g : Nat → Nat) (N : Nat) (σ : St) (x1 : Int) (x2 : Int) (r : St) (hm : r_beginSounds N σ x1 x2 = some r) : Mv l yX12_beginSounds (.code yX12_beginSounds cX12_beginSounds 5 none :: rW) { frames := 1, cells := 0, slots := 0, locals := 22 } [.ref (g 0), .int (Int32.ofInt x1), .int (Int32.ofInt x2)] D (TYs k) (mW k g σ) (fun _ => True) Unit (fun _ => True) (fun _ => mW k g r) 0 0 := by
  intro sz
  refine x_met (cc := cX12_beginSounds) (maxL := 5) (ret := none) (by decide) rfl (Nat.le_of_ble_eq_true rfl) ?_
  intro p e s m below meth c ls C hX hsz hr hlk hmn hl h
  have hl : lv_has ls 5 [(0, .ref (g 0)), (1, .int (Int32.ofInt x1)), (2, .int (Int32.ofInt x2))] := hl
  rw [r_beginSounds] at hm
  refine lv_aload_n C.1 C.2.1 dX12_beginSounds_0 rfl (lv_at hl 0 rfl) ?_
  refine fg_100 C h dX12_beginSounds_1 ?_
  refine lv_iload_n C.1 C.2.1 dX12_beginSounds_4 rfl (lv_at hl 1 rfl) ?_
  obtain ⟨g1, hm⟩ := grd_s hm
  refine al_39 C h dX12_beginSounds_5 g1 ?_
  obtain ⟨v2, e3, hm⟩ := bnd_s hm
  rw [e3]
  refine lv_istore_n (lv' := [(3, .int (Int32.ofInt v2)), (0, .ref (g 0)), (1, .int (Int32.ofInt x1)), (2, .int (Int32.ofInt x2))]) C.1 C.2.1 dX12_beginSounds_6 rfl hl (by decide) rfl (fun ls hl => ?_)
  refine lv_aload_n C.1 C.2.1 dX12_beginSounds_7 rfl (lv_at hl 1 rfl) ?_
  refine fg_100 C h dX12_beginSounds_8 ?_
  refine lv_iload_n C.1 C.2.1 dX12_beginSounds_11 rfl (lv_at hl 2 rfl) ?_
  refine al_39 C h dX12_beginSounds_12 g1 ?_
  obtain ⟨v4, e5, hm⟩ := bnd_s hm
  rw [e5]
  refine lv_istore (lv' := [(4, .int (Int32.ofInt v4)), (3, .int (Int32.ofInt v2)), (0, .ref (g 0)), (1, .int (Int32.ofInt x1)), (2, .int (Int32.ofInt x2))]) C.1 C.2.1 dX12_beginSounds_13 hl (by decide) rfl (fun ls hl => ?_)
  exact lm_beginSounds_15 (N := N) C hr hlk  N (lv_sub hl [2, 4, 1, 0] rfl) h hm
end L_beginSounds
section L_takes
variable {p : Program} {l : Launch} {e : Env} {s : State} {m : MethodId} {args : Array Value} {below : List Frame} {meth : Method} {c : Code} {D : va_G} {A : Nat → Prop} {k : Nat → ClassId} {g : Nat → Nat} {N : Nat} {cd : Cond}
set_option maxHeartbeats 4000000 in
set_option maxRecDepth 100000 in
theorem lm_takes_147 {r : St} (C : Cx p s m args c cX12_takes RX12 (cd :: rW) D (TYs k) 3) (hr : meth.sig.returnType = none) (hlk : meth.locks = false)  {ls : Array Slot} {H : Heap} {locs : List Loc} {σ : St} {s0 : Int} {s1 : Int} (hl : lv_has ls 3 []) (h : Hp D A s.heap H locs (mW k g σ)) (hm : r_takes_147 N  σ s0 s1 = some r) : W p l e { frames := 0, cells := 0, slots := 0, locals := 0 } s m args below meth c H locs 0 0 (MQ below (va_Qv (fun (_ : Unit) => True) (fun _ t => PostW D (TYs k) A (mW k g r) t) A) args s 0 0 A) (F0 m 147 ls [.int (Int32.ofInt s0), .int (Int32.ofInt s1), .ref (g 47)]) := by
  rw [r_takes_147] at hm
  obtain ⟨g27, hm⟩ := grd_s hm
  refine as_47 C h dX12_takes_147 g27 (fun H locs h => ?_)
  cases hm
  exact q_vret C h hr hlk dX12_takes_148
set_option maxHeartbeats 4000000 in
set_option maxRecDepth 100000 in
theorem lm_takes_116 {r : St} (C : Cx p s m args c cX12_takes RX12 (cd :: rW) D (TYs k) 3) (hr : meth.sig.returnType = none) (hlk : meth.locks = false)  {ls : Array Slot} {H : Heap} {locs : List Loc} {σ : St} {x1 : Int} {x2 : Int} (hl : lv_has ls 3 [(0, .ref (g 0)), (1, .int (Int32.ofInt x1)), (2, .int (Int32.ofInt x2))]) (h : Hp D A s.heap H locs (mW k g σ)) (hm : r_takes_116 N  σ x1 x2 = some r) : W p l e { frames := 0, cells := 0, slots := 0, locals := 0 } s m args below meth c H locs 0 0 (MQ below (va_Qv (fun (_ : Unit) => True) (fun _ t => PostW D (TYs k) A (mW k g r) t) A) args s 0 0 A) (F0 m 116 ls []) := by
  rw [r_takes_116] at hm
  refine lv_aload_n C.1 C.2.1 dX12_takes_116 rfl (lv_at hl 0 rfl) ?_
  refine fg_90 C h dX12_takes_117 ?_
  refine lv_iload_n C.1 C.2.1 dX12_takes_120 rfl (lv_at hl 1 rfl) ?_
  refine lv_iload_n C.1 C.2.1 dX12_takes_121 rfl (lv_at hl 2 rfl) ?_
  obtain ⟨g21, hm⟩ := grd_s hm
  refine z_if_eq (tgt := 134) C dX12_takes_122 (by decide) g21 (fun c22 => ?_) (fun c22 => ?_)
  · have hm := ite_t c22 hm
    refine lv_aload_n C.1 C.2.1 dX12_takes_134 rfl (lv_at hl 0 rfl) ?_
    refine fg_90 C h dX12_takes_135 ?_
    refine lv_iload_n C.1 C.2.1 dX12_takes_138 rfl (lv_at hl 1 rfl) ?_
    obtain ⟨g23, hm⟩ := grd_s hm
    refine al_47 C h dX12_takes_139 g23 ?_
    refine lv_aload_n C.1 C.2.1 dX12_takes_140 rfl (lv_at hl 0 rfl) ?_
    refine fg_91 C h dX12_takes_141 ?_
    refine lv_iload_n C.1 C.2.1 dX12_takes_144 rfl (lv_at hl 1 rfl) ?_
    refine al_46 C h dX12_takes_145 g23 ?_
    refine z_ior C dX12_takes_146 ?_
    exact lm_takes_147 (N := N) C hr hlk  (lv_sub hl [] rfl) h hm
  · have hm := ite_f c22 hm
    refine lv_aload_n C.1 C.2.1 dX12_takes_125 rfl (lv_at hl 0 rfl) ?_
    refine fg_91 C h dX12_takes_126 ?_
    refine lv_iload_n C.1 C.2.1 dX12_takes_129 rfl (lv_at hl 1 rfl) ?_
    obtain ⟨g24, hm⟩ := grd_s hm
    refine al_46 C h dX12_takes_130 g24 ?_
    refine lv_goto (tgt := 147) C.1 C.2.1 dX12_takes_131 (by decide) ?_
    exact lm_takes_147 (N := N) C hr hlk  (lv_sub hl [] rfl) h hm
set_option maxHeartbeats 4000000 in
set_option maxRecDepth 100000 in
theorem lm_takes_115 {r : St} (C : Cx p s m args c cX12_takes RX12 (cd :: rW) D (TYs k) 3) (hr : meth.sig.returnType = none) (hlk : meth.locks = false)  {ls : Array Slot} {H : Heap} {locs : List Loc} {σ : St} {x1 : Int} {x2 : Int} {s0 : Int} {s1 : Int} (hl : lv_has ls 3 [(0, .ref (g 0)), (1, .int (Int32.ofInt x1)), (2, .int (Int32.ofInt x2))]) (h : Hp D A s.heap H locs (mW k g σ)) (hm : r_takes_115 N  σ x1 x2 s0 s1 = some r) : W p l e { frames := 0, cells := 0, slots := 0, locals := 0 } s m args below meth c H locs 0 0 (MQ below (va_Qv (fun (_ : Unit) => True) (fun _ t => PostW D (TYs k) A (mW k g r) t) A) args s 0 0 A) (F0 m 115 ls [.int (Int32.ofInt s0), .int (Int32.ofInt s1), .ref (g 48)]) := by
  rw [r_takes_115] at hm
  obtain ⟨g26, hm⟩ := grd_s hm
  refine as_48 C h dX12_takes_115 g26 (fun H locs h => ?_)
  exact lm_takes_116 (N := N) C hr hlk  (lv_sub hl [0, 1, 2] rfl) h hm
set_option maxHeartbeats 4000000 in
set_option maxRecDepth 100000 in
theorem lm_takes_88 {r : St} (C : Cx p s m args c cX12_takes RX12 (cd :: rW) D (TYs k) 3) (hr : meth.sig.returnType = none) (hlk : meth.locks = false)  {ls : Array Slot} {H : Heap} {locs : List Loc} {σ : St} {x1 : Int} {x2 : Int} (hl : lv_has ls 3 [(0, .ref (g 0)), (1, .int (Int32.ofInt x1)), (2, .int (Int32.ofInt x2))]) (h : Hp D A s.heap H locs (mW k g σ)) (hm : r_takes_88 N  σ x1 x2 = some r) : W p l e { frames := 0, cells := 0, slots := 0, locals := 0 } s m args below meth c H locs 0 0 (MQ below (va_Qv (fun (_ : Unit) => True) (fun _ t => PostW D (TYs k) A (mW k g r) t) A) args s 0 0 A) (F0 m 88 ls []) := by
  rw [r_takes_88] at hm
  refine lv_aload_n C.1 C.2.1 dX12_takes_88 rfl (lv_at hl 0 rfl) ?_
  refine fg_89 C h dX12_takes_89 ?_
  refine lv_iload_n C.1 C.2.1 dX12_takes_92 rfl (lv_at hl 1 rfl) ?_
  refine lv_aload_n C.1 C.2.1 dX12_takes_93 rfl (lv_at hl 0 rfl) ?_
  refine fg_91 C h dX12_takes_94 ?_
  refine lv_iload_n C.1 C.2.1 dX12_takes_97 rfl (lv_at hl 1 rfl) ?_
  obtain ⟨g18, hm⟩ := grd_s hm
  refine al_46 C h dX12_takes_98 g18 ?_
  refine lv_iconst (v := Int32.ofInt 2) C.1 C.2.1 dX12_takes_99 (by decide) ?_
  refine z_iand C dX12_takes_100 ?_
  refine lv_iconst (v := Int32.ofInt 2) C.1 C.2.1 dX12_takes_101 (by decide) ?_
  obtain ⟨g19, hm⟩ := grd_s hm
  refine z_icmp_ne (tgt := 114) C dX12_takes_102 (by decide) g19 (by decide) (fun c20 => ?_) (fun c20 => ?_)
  · have hm := ite_f c20 hm
    refine lv_iconst (v := Int32.ofInt 0) C.1 C.2.1 dX12_takes_114 (by decide) ?_
    exact lm_takes_115 (N := N) C hr hlk  (lv_sub hl [0, 1, 2] rfl) h hm
  · have hm := ite_t c20 hm
    refine lv_aload_n C.1 C.2.1 dX12_takes_105 rfl (lv_at hl 0 rfl) ?_
    refine fg_94 C h dX12_takes_106 ?_
    refine lv_iload_n C.1 C.2.1 dX12_takes_109 rfl (lv_at hl 1 rfl) ?_
    refine al_43 C h dX12_takes_110 g18 ?_
    refine lv_goto (tgt := 115) C.1 C.2.1 dX12_takes_111 (by decide) ?_
    exact lm_takes_115 (N := N) C hr hlk  (lv_sub hl [0, 1, 2] rfl) h hm
set_option maxHeartbeats 4000000 in
set_option maxRecDepth 100000 in
theorem lm_takes_72 {r : St} (C : Cx p s m args c cX12_takes RX12 (cd :: rW) D (TYs k) 3) (hr : meth.sig.returnType = none) (hlk : meth.locks = false)  {ls : Array Slot} {H : Heap} {locs : List Loc} {σ : St} {x1 : Int} {x2 : Int} (hl : lv_has ls 3 [(0, .ref (g 0)), (1, .int (Int32.ofInt x1)), (2, .int (Int32.ofInt x2))]) (h : Hp D A s.heap H locs (mW k g σ)) (hm : r_takes_72 N  σ x1 x2 = some r) : W p l e { frames := 0, cells := 0, slots := 0, locals := 0 } s m args below meth c H locs 0 0 (MQ below (va_Qv (fun (_ : Unit) => True) (fun _ t => PostW D (TYs k) A (mW k g r) t) A) args s 0 0 A) (F0 m 72 ls []) := by
  rw [r_takes_72] at hm
  refine lv_aload_n C.1 C.2.1 dX12_takes_72 rfl (lv_at hl 0 rfl) ?_
  refine fg_91 C h dX12_takes_73 ?_
  refine lv_iload_n C.1 C.2.1 dX12_takes_76 rfl (lv_at hl 1 rfl) ?_
  obtain ⟨g9, hm⟩ := grd_s hm
  refine al_46 C h dX12_takes_77 g9 ?_
  refine lv_iconst (v := Int32.ofInt 2) C.1 C.2.1 dX12_takes_78 (by decide) ?_
  refine z_iand C dX12_takes_79 ?_
  refine lv_iconst (v := Int32.ofInt 2) C.1 C.2.1 dX12_takes_80 (by decide) ?_
  obtain ⟨g10, hm⟩ := grd_s hm
  refine z_icmp_eq (tgt := 88) C dX12_takes_81 (by decide) g10 (by decide) (fun c11 => ?_) (fun c11 => ?_)
  · have hm := ite_t c11 hm
    exact lm_takes_88 (N := N) C hr hlk  (lv_sub hl [0, 1, 2] rfl) h hm
  · have hm := ite_f c11 hm
    refine lv_iload_n C.1 C.2.1 dX12_takes_84 rfl (lv_at hl 2 rfl) ?_
    obtain ⟨g12, hm⟩ := grd_s hm
    refine z_if_eq (tgt := 116) C dX12_takes_85 (by decide) g12 (fun c13 => ?_) (fun c13 => ?_)
    · have hm := ite_t c13 hm
      exact lm_takes_116 (N := N) C hr hlk  (lv_sub hl [0, 1, 2] rfl) h hm
    · have hm := ite_f c13 hm
      exact lm_takes_88 (N := N) C hr hlk  (lv_sub hl [0, 1, 2] rfl) h hm
set_option maxHeartbeats 4000000 in
set_option maxRecDepth 100000 in
theorem lm_takes_71 {r : St} (C : Cx p s m args c cX12_takes RX12 (cd :: rW) D (TYs k) 3) (hr : meth.sig.returnType = none) (hlk : meth.locks = false)  {ls : Array Slot} {H : Heap} {locs : List Loc} {σ : St} {x1 : Int} {x2 : Int} {s0 : Int} {s1 : Int} (hl : lv_has ls 3 [(0, .ref (g 0)), (1, .int (Int32.ofInt x1)), (2, .int (Int32.ofInt x2))]) (h : Hp D A s.heap H locs (mW k g σ)) (hm : r_takes_71 N  σ x1 x2 s0 s1 = some r) : W p l e { frames := 0, cells := 0, slots := 0, locals := 0 } s m args below meth c H locs 0 0 (MQ below (va_Qv (fun (_ : Unit) => True) (fun _ t => PostW D (TYs k) A (mW k g r) t) A) args s 0 0 A) (F0 m 71 ls [.int (Int32.ofInt s0), .int (Int32.ofInt s1), .ref (g 49)]) := by
  rw [r_takes_71] at hm
  obtain ⟨g25, hm⟩ := grd_s hm
  refine as_49 C h dX12_takes_71 g25 (fun H locs h => ?_)
  exact lm_takes_72 (N := N) C hr hlk  (lv_sub hl [0, 1, 2] rfl) h hm
set_option maxHeartbeats 4000000 in
set_option maxRecDepth 100000 in
theorem lm_takes_43 {r : St} (C : Cx p s m args c cX12_takes RX12 (cd :: rW) D (TYs k) 3) (hr : meth.sig.returnType = none) (hlk : meth.locks = false)  {ls : Array Slot} {H : Heap} {locs : List Loc} {σ : St} {x1 : Int} {x2 : Int} {s0 : Int} {s1 : Int} (hl : lv_has ls 3 [(0, .ref (g 0)), (1, .int (Int32.ofInt x1)), (2, .int (Int32.ofInt x2))]) (h : Hp D A s.heap H locs (mW k g σ)) (hm : r_takes_43 N  σ x1 x2 s0 s1 = some r) : W p l e { frames := 0, cells := 0, slots := 0, locals := 0 } s m args below meth c H locs 0 0 (MQ below (va_Qv (fun (_ : Unit) => True) (fun _ t => PostW D (TYs k) A (mW k g r) t) A) args s 0 0 A) (F0 m 43 ls [.int (Int32.ofInt s0), .int (Int32.ofInt s1), .ref (g 50)]) := by
  rw [r_takes_43] at hm
  obtain ⟨g14, hm⟩ := grd_s hm
  refine as_50 C h dX12_takes_43 g14 (fun H locs h => ?_)
  refine lv_aload_n C.1 C.2.1 dX12_takes_44 rfl (lv_at hl 0 rfl) ?_
  refine fg_88 C h dX12_takes_45 ?_
  refine lv_iload_n C.1 C.2.1 dX12_takes_48 rfl (lv_at hl 1 rfl) ?_
  refine lv_aload_n C.1 C.2.1 dX12_takes_49 rfl (lv_at hl 0 rfl) ?_
  refine fg_91 C h dX12_takes_50 ?_
  refine lv_iload_n C.1 C.2.1 dX12_takes_53 rfl (lv_at hl 1 rfl) ?_
  obtain ⟨g15, hm⟩ := grd_s hm
  refine al_46 C h dX12_takes_54 g15 ?_
  refine x_topi (y := Int32.ofInt (el σ 46 x1)) rfl ?_
  refine lv_iconst (v := Int32.ofInt 1) C.1 C.2.1 dX12_takes_55 (by decide) ?_
  refine z_iand C dX12_takes_56 ?_
  refine lv_iconst (v := Int32.ofInt 1) C.1 C.2.1 dX12_takes_57 (by decide) ?_
  obtain ⟨g16, hm⟩ := grd_s hm
  refine z_icmp_ne (tgt := 70) C dX12_takes_58 (by decide) g16 (by decide) (fun c17 => ?_) (fun c17 => ?_)
  · have hm := ite_f c17 hm
    refine lv_iconst (v := Int32.ofInt 0) C.1 C.2.1 dX12_takes_70 (by decide) ?_
    exact lm_takes_71 (N := N) C hr hlk  (lv_sub hl [0, 1, 2] rfl) h hm
  · have hm := ite_t c17 hm
    refine lv_aload_n C.1 C.2.1 dX12_takes_61 rfl (lv_at hl 0 rfl) ?_
    refine fg_93 C h dX12_takes_62 ?_
    refine lv_iload_n C.1 C.2.1 dX12_takes_65 rfl (lv_at hl 1 rfl) ?_
    refine al_44 C h dX12_takes_66 g15 ?_
    refine x_topi (y := Int32.ofInt (el σ 44 x1)) rfl ?_
    refine lv_goto (tgt := 71) C.1 C.2.1 dX12_takes_67 (by decide) ?_
    exact lm_takes_71 (N := N) C hr hlk  (lv_sub hl [0, 1, 2] rfl) h hm
set_option maxHeartbeats 4000000 in
set_option maxRecDepth 100000 in
theorem lm_takes_16 {r : St} (C : Cx p s m args c cX12_takes RX12 (cd :: rW) D (TYs k) 3) (hr : meth.sig.returnType = none) (hlk : meth.locks = false)  {ls : Array Slot} {H : Heap} {locs : List Loc} {σ : St} {x1 : Int} {x2 : Int} (hl : lv_has ls 3 [(0, .ref (g 0)), (1, .int (Int32.ofInt x1)), (2, .int (Int32.ofInt x2))]) (h : Hp D A s.heap H locs (mW k g σ)) (hm : r_takes_16 N  σ x1 x2 = some r) : W p l e { frames := 0, cells := 0, slots := 0, locals := 0 } s m args below meth c H locs 0 0 (MQ below (va_Qv (fun (_ : Unit) => True) (fun _ t => PostW D (TYs k) A (mW k g r) t) A) args s 0 0 A) (F0 m 16 ls []) := by
  rw [r_takes_16] at hm
  refine lv_aload_n C.1 C.2.1 dX12_takes_16 rfl (lv_at hl 0 rfl) ?_
  refine fg_87 C h dX12_takes_17 ?_
  refine lv_iload_n C.1 C.2.1 dX12_takes_20 rfl (lv_at hl 1 rfl) ?_
  refine lv_aload_n C.1 C.2.1 dX12_takes_21 rfl (lv_at hl 0 rfl) ?_
  refine fg_91 C h dX12_takes_22 ?_
  refine lv_iload_n C.1 C.2.1 dX12_takes_25 rfl (lv_at hl 1 rfl) ?_
  obtain ⟨g6, hm⟩ := grd_s hm
  refine al_46 C h dX12_takes_26 g6 ?_
  refine lv_iconst (v := Int32.ofInt 1) C.1 C.2.1 dX12_takes_27 (by decide) ?_
  refine z_iand C dX12_takes_28 ?_
  refine lv_iconst (v := Int32.ofInt 1) C.1 C.2.1 dX12_takes_29 (by decide) ?_
  obtain ⟨g7, hm⟩ := grd_s hm
  refine z_icmp_ne (tgt := 42) C dX12_takes_30 (by decide) g7 (by decide) (fun c8 => ?_) (fun c8 => ?_)
  · have hm := ite_f c8 hm
    refine lv_iconst (v := Int32.ofInt 0) C.1 C.2.1 dX12_takes_42 (by decide) ?_
    exact lm_takes_43 (N := N) C hr hlk  (lv_sub hl [0, 1, 2] rfl) h hm
  · have hm := ite_t c8 hm
    refine lv_aload_n C.1 C.2.1 dX12_takes_33 rfl (lv_at hl 0 rfl) ?_
    refine fg_92 C h dX12_takes_34 ?_
    refine lv_iload_n C.1 C.2.1 dX12_takes_37 rfl (lv_at hl 1 rfl) ?_
    refine al_45 C h dX12_takes_38 g6 ?_
    refine lv_goto (tgt := 43) C.1 C.2.1 dX12_takes_39 (by decide) ?_
    exact lm_takes_43 (N := N) C hr hlk  (lv_sub hl [0, 1, 2] rfl) h hm
set_option maxHeartbeats 4000000 in
set_option maxRecDepth 100000 in
theorem rc_takes (l : Launch) (D : va_G) (k : Nat → ClassId) (g : Nat → Nat) (N : Nat) (σ : St) (x1 : Int) (x2 : Int) (r : St) (hm : r_takes N σ x1 x2 = some r) : Mv l yX12_takes (.code yX12_takes cX12_takes 3 none :: rW) { frames := 0, cells := 0, slots := 0, locals := 0 } [.ref (g 0), .int (Int32.ofInt x1), .int (Int32.ofInt x2)] D (TYs k) (mW k g σ) (fun _ => True) Unit (fun _ => True) (fun _ => mW k g r) 0 0 := by
  intro sz
  refine x_met (cc := cX12_takes) (maxL := 3) (ret := none) (by decide) rfl (Nat.le_of_ble_eq_true rfl) ?_
  intro p e s m below meth c ls C hX hsz hr hlk hmn hl h
  have hl : lv_has ls 3 [(0, .ref (g 0)), (1, .int (Int32.ofInt x1)), (2, .int (Int32.ofInt x2))] := hl
  rw [r_takes] at hm
  refine lv_aload_n C.1 C.2.1 dX12_takes_0 rfl (lv_at hl 0 rfl) ?_
  refine fg_91 C h dX12_takes_1 ?_
  refine lv_iload_n C.1 C.2.1 dX12_takes_4 rfl (lv_at hl 1 rfl) ?_
  obtain ⟨g1, hm⟩ := grd_s hm
  refine al_46 C h dX12_takes_5 g1 ?_
  refine lv_iconst (v := Int32.ofInt 1) C.1 C.2.1 dX12_takes_6 (by decide) ?_
  refine z_iand C dX12_takes_7 ?_
  refine lv_iconst (v := Int32.ofInt 1) C.1 C.2.1 dX12_takes_8 (by decide) ?_
  obtain ⟨g2, hm⟩ := grd_s hm
  refine z_icmp_eq (tgt := 16) C dX12_takes_9 (by decide) g2 (by decide) (fun c3 => ?_) (fun c3 => ?_)
  · have hm := ite_t c3 hm
    exact lm_takes_16 (N := N) C hr hlk  (lv_sub hl [0, 1, 2] rfl) h hm
  · have hm := ite_f c3 hm
    refine lv_iload_n C.1 C.2.1 dX12_takes_12 rfl (lv_at hl 2 rfl) ?_
    obtain ⟨g4, hm⟩ := grd_s hm
    refine z_if_eq (tgt := 72) C dX12_takes_13 (by decide) g4 (fun c5 => ?_) (fun c5 => ?_)
    · have hm := ite_t c5 hm
      exact lm_takes_72 (N := N) C hr hlk  (lv_sub hl [0, 1, 2] rfl) h hm
    · have hm := ite_f c5 hm
      exact lm_takes_16 (N := N) C hr hlk  (lv_sub hl [0, 1, 2] rfl) h hm
end L_takes
section L_endSounds
variable {p : Program} {l : Launch} {e : Env} {s : State} {m : MethodId} {args : Array Value} {below : List Frame} {meth : Method} {c : Code} {D : va_G} {A : Nat → Prop} {k : Nat → ClassId} {g : Nat → Nat} {N : Nat} {cd : Cond}
set_option maxHeartbeats 4000000 in
set_option maxRecDepth 100000 in
theorem lm_endSounds_286 {r : St} (C : Cx p s m args c cX12_endSounds RX12 (cd :: rW) D (TYs k) 6) (hr : meth.sig.returnType = none) (hlk : meth.locks = false) {rec15 : St → Int → Int → Int → Option St} (hrec15 : ∀ {ls : Array Slot} {H : Heap} {locs : List Loc} {σ : St} {x2 : Int} {x3 : Int} {x4 : Int}, lv_has ls 6 [(0, .ref (g 0)), (2, .int (Int32.ofInt x2)), (3, .int (Int32.ofInt x3)), (4, .int (Int32.ofInt x4))] → Hp D A s.heap H locs (mW k g σ) → rec15 σ x2 x3 x4 = some r → W p l e { frames := 1, cells := 0, slots := 0, locals := 22 } s m args below meth c H locs 0 0 (MQ below (va_Qv (fun (_ : Unit) => True) (fun _ t => PostW D (TYs k) A (mW k g r) t) A) args s 0 0 A) (F0 m 15 ls [])) {ls : Array Slot} {H : Heap} {locs : List Loc} {σ : St} {x2 : Int} {x3 : Int} {x4 : Int} (hl : lv_has ls 6 [(0, .ref (g 0)), (2, .int (Int32.ofInt x2)), (3, .int (Int32.ofInt x3)), (4, .int (Int32.ofInt x4))]) (h : Hp D A s.heap H locs (mW k g σ)) (hm : r_endSounds_286 N rec15 σ x2 x3 x4 = some r) : W p l e { frames := 1, cells := 0, slots := 0, locals := 22 } s m args below meth c H locs 0 0 (MQ below (va_Qv (fun (_ : Unit) => True) (fun _ t => PostW D (TYs k) A (mW k g r) t) A) args s 0 0 A) (F0 m 286 ls []) := by
  rw [r_endSounds_286] at hm
  refine lv_iinc (v := Int32.ofInt (x4 + 1)) (lv' := [(4, .int (Int32.ofInt (x4 + 1))), (0, .ref (g 0)), (2, .int (Int32.ofInt x2)), (3, .int (Int32.ofInt x3))]) C.1 C.2.1 dX12_endSounds_286 hl (k := 3) rfl (c32_add _ _) (by decide) rfl (fun ls hl => ?_)
  refine lv_goto (tgt := 15) C.1 C.2.1 dX12_endSounds_289 (by decide) ?_
  exact hrec15 (lv_sub hl [1, 2, 3, 0] rfl) h hm
set_option maxHeartbeats 4000000 in
set_option maxRecDepth 100000 in
theorem lm_endSounds_276 {r : St} (C : Cx p s m args c cX12_endSounds RX12 (cd :: rW) D (TYs k) 6) (hr : meth.sig.returnType = none) (hlk : meth.locks = false) {rec15 : St → Int → Int → Int → Option St} (hrec15 : ∀ {ls : Array Slot} {H : Heap} {locs : List Loc} {σ : St} {x2 : Int} {x3 : Int} {x4 : Int}, lv_has ls 6 [(0, .ref (g 0)), (2, .int (Int32.ofInt x2)), (3, .int (Int32.ofInt x3)), (4, .int (Int32.ofInt x4))] → Hp D A s.heap H locs (mW k g σ) → rec15 σ x2 x3 x4 = some r → W p l e { frames := 1, cells := 0, slots := 0, locals := 22 } s m args below meth c H locs 0 0 (MQ below (va_Qv (fun (_ : Unit) => True) (fun _ t => PostW D (TYs k) A (mW k g r) t) A) args s 0 0 A) (F0 m 15 ls [])) {ls : Array Slot} {H : Heap} {locs : List Loc} {σ : St} {x2 : Int} {x3 : Int} {x4 : Int} (hl : lv_has ls 6 [(0, .ref (g 0)), (2, .int (Int32.ofInt x2)), (3, .int (Int32.ofInt x3)), (4, .int (Int32.ofInt x4))]) (h : Hp D A s.heap H locs (mW k g σ)) (hm : r_endSounds_276 N rec15 σ x2 x3 x4 = some r) : W p l e { frames := 1, cells := 0, slots := 0, locals := 22 } s m args below meth c H locs 0 0 (MQ below (va_Qv (fun (_ : Unit) => True) (fun _ t => PostW D (TYs k) A (mW k g r) t) A) args s 0 0 A) (F0 m 276 ls []) := by
  rw [r_endSounds_276] at hm
  refine lv_aload_n C.1 C.2.1 dX12_endSounds_276 rfl (lv_at hl 0 rfl) ?_
  refine lv_iload C.1 C.2.1 dX12_endSounds_277 (lv_at hl 3 rfl) ?_
  refine lv_iload_n C.1 C.2.1 dX12_endSounds_279 rfl (lv_at hl 2 rfl) ?_
  obtain ⟨r51, e52, hm⟩ := obd_s hm
  refine q_callVv C h (rc_copy l D k g N σ x4 x3 r51 e52) (cwV 2 C.2.2.1 (gR_copy _) rfl rfl rfl hd_copy ⟨Nat.le_of_ble_eq_true rfl, Nat.le_of_ble_eq_true rfl⟩) rfl hl.1 rfl (Nat.le_of_ble_eq_true rfl) dX12_endSounds_280 ⟨Nat.le_of_ble_eq_true rfl, Nat.le_of_ble_eq_true rfl⟩ (fun H locs h => ?_)
  refine lv_iinc (v := Int32.ofInt (x3 + 1)) (lv' := [(3, .int (Int32.ofInt (x3 + 1))), (0, .ref (g 0)), (2, .int (Int32.ofInt x2)), (4, .int (Int32.ofInt x4))]) C.1 C.2.1 dX12_endSounds_283 hl (k := 2) rfl (c32_add _ _) (by decide) rfl (fun ls hl => ?_)
  exact lm_endSounds_286 (N := N) C hr hlk hrec15 (lv_sub hl [1, 2, 0, 3] rfl) h hm
set_option maxHeartbeats 4000000 in
set_option maxRecDepth 100000 in
theorem lm_endSounds_153 {r : St} (C : Cx p s m args c cX12_endSounds RX12 (cd :: rW) D (TYs k) 6) (hr : meth.sig.returnType = none) (hlk : meth.locks = false) {rec15 : St → Int → Int → Int → Option St} (hrec15 : ∀ {ls : Array Slot} {H : Heap} {locs : List Loc} {σ : St} {x2 : Int} {x3 : Int} {x4 : Int}, lv_has ls 6 [(0, .ref (g 0)), (2, .int (Int32.ofInt x2)), (3, .int (Int32.ofInt x3)), (4, .int (Int32.ofInt x4))] → Hp D A s.heap H locs (mW k g σ) → rec15 σ x2 x3 x4 = some r → W p l e { frames := 1, cells := 0, slots := 0, locals := 22 } s m args below meth c H locs 0 0 (MQ below (va_Qv (fun (_ : Unit) => True) (fun _ t => PostW D (TYs k) A (mW k g r) t) A) args s 0 0 A) (F0 m 15 ls [])) {ls : Array Slot} {H : Heap} {locs : List Loc} {σ : St} {x2 : Int} {x3 : Int} {x4 : Int} {s0 : Int} {s1 : Int} (hl : lv_has ls 6 [(0, .ref (g 0)), (2, .int (Int32.ofInt x2)), (3, .int (Int32.ofInt x3)), (4, .int (Int32.ofInt x4))]) (h : Hp D A s.heap H locs (mW k g σ)) (hm : r_endSounds_153 N rec15 σ x2 x3 x4 s0 s1 = some r) : W p l e { frames := 1, cells := 0, slots := 0, locals := 22 } s m args below meth c H locs 0 0 (MQ below (va_Qv (fun (_ : Unit) => True) (fun _ t => PostW D (TYs k) A (mW k g r) t) A) args s 0 0 A) (F0 m 153 ls [.int (Int32.ofInt s0), .int (Int32.ofInt s1), .ref (g 0)]) := by
  rw [r_endSounds_153] at hm
  obtain ⟨r49, e50, hm⟩ := obd_s hm
  refine q_callVv C h (rc_takes l D k g N σ s1 s0 r49 e50) (cwV 2 C.2.2.1 (gR_takes _) rfl rfl rfl hd_takes ⟨Nat.le_of_ble_eq_true rfl, Nat.le_of_ble_eq_true rfl⟩) rfl hl.1 rfl (Nat.le_of_ble_eq_true rfl) dX12_endSounds_153 ⟨Nat.le_of_ble_eq_true rfl, Nat.le_of_ble_eq_true rfl⟩ (fun H locs h => ?_)
  refine lv_goto (tgt := 276) C.1 C.2.1 dX12_endSounds_156 (by decide) ?_
  exact lm_endSounds_276 (N := N) C hr hlk hrec15 (lv_sub hl [0, 1, 2, 3] rfl) h hm
set_option maxHeartbeats 4000000 in
set_option maxRecDepth 100000 in
theorem lm_endSounds_134 {r : St} (C : Cx p s m args c cX12_endSounds RX12 (cd :: rW) D (TYs k) 6) (hr : meth.sig.returnType = none) (hlk : meth.locks = false) {rec15 : St → Int → Int → Int → Option St} (hrec15 : ∀ {ls : Array Slot} {H : Heap} {locs : List Loc} {σ : St} {x2 : Int} {x3 : Int} {x4 : Int}, lv_has ls 6 [(0, .ref (g 0)), (2, .int (Int32.ofInt x2)), (3, .int (Int32.ofInt x3)), (4, .int (Int32.ofInt x4))] → Hp D A s.heap H locs (mW k g σ) → rec15 σ x2 x3 x4 = some r → W p l e { frames := 1, cells := 0, slots := 0, locals := 22 } s m args below meth c H locs 0 0 (MQ below (va_Qv (fun (_ : Unit) => True) (fun _ t => PostW D (TYs k) A (mW k g r) t) A) args s 0 0 A) (F0 m 15 ls [])) {ls : Array Slot} {H : Heap} {locs : List Loc} {σ : St} {x2 : Int} {x3 : Int} {x4 : Int} (hl : lv_has ls 6 [(0, .ref (g 0)), (2, .int (Int32.ofInt x2)), (3, .int (Int32.ofInt x3)), (4, .int (Int32.ofInt x4))]) (h : Hp D A s.heap H locs (mW k g σ)) (hm : r_endSounds_134 N rec15 σ x2 x3 x4 = some r) : W p l e { frames := 1, cells := 0, slots := 0, locals := 22 } s m args below meth c H locs 0 0 (MQ below (va_Qv (fun (_ : Unit) => True) (fun _ t => PostW D (TYs k) A (mW k g r) t) A) args s 0 0 A) (F0 m 134 ls []) := by
  rw [r_endSounds_134] at hm
  refine lv_aload_n C.1 C.2.1 dX12_endSounds_134 rfl (lv_at hl 0 rfl) ?_
  refine lv_iload C.1 C.2.1 dX12_endSounds_135 (lv_at hl 3 rfl) ?_
  refine lv_aload_n C.1 C.2.1 dX12_endSounds_137 rfl (lv_at hl 0 rfl) ?_
  refine fg_49 C h dX12_endSounds_138 ?_
  refine lv_iload_n C.1 C.2.1 dX12_endSounds_141 rfl (lv_at hl 1 rfl) ?_
  obtain ⟨g35, hm⟩ := grd_s hm
  refine al_70 C h dX12_endSounds_142 g35 ?_
  refine lv_bipush (v := Int32.ofInt 23) C.1 C.2.1 dX12_endSounds_143 (by decide) ?_
  obtain ⟨g36, hm⟩ := grd_s hm
  refine z_icmp_ne (tgt := 152) C dX12_endSounds_145 (by decide) g36 (by decide) (fun c37 => ?_) (fun c37 => ?_)
  · have hm := ite_f c37 hm
    refine lv_iconst (v := Int32.ofInt 0) C.1 C.2.1 dX12_endSounds_152 (by decide) ?_
    exact lm_endSounds_153 (N := N) C hr hlk hrec15 (lv_sub hl [0, 1, 2, 3] rfl) h hm
  · have hm := ite_t c37 hm
    refine lv_iconst (v := Int32.ofInt 1) C.1 C.2.1 dX12_endSounds_148 (by decide) ?_
    refine lv_goto (tgt := 153) C.1 C.2.1 dX12_endSounds_149 (by decide) ?_
    exact lm_endSounds_153 (N := N) C hr hlk hrec15 (lv_sub hl [0, 1, 2, 3] rfl) h hm
set_option maxHeartbeats 4000000 in
set_option maxRecDepth 100000 in
theorem lm_endSounds_275 {r : St} (C : Cx p s m args c cX12_endSounds RX12 (cd :: rW) D (TYs k) 6) (hr : meth.sig.returnType = none) (hlk : meth.locks = false) {rec15 : St → Int → Int → Int → Option St} (hrec15 : ∀ {ls : Array Slot} {H : Heap} {locs : List Loc} {σ : St} {x2 : Int} {x3 : Int} {x4 : Int}, lv_has ls 6 [(0, .ref (g 0)), (2, .int (Int32.ofInt x2)), (3, .int (Int32.ofInt x3)), (4, .int (Int32.ofInt x4))] → Hp D A s.heap H locs (mW k g σ) → rec15 σ x2 x3 x4 = some r → W p l e { frames := 1, cells := 0, slots := 0, locals := 22 } s m args below meth c H locs 0 0 (MQ below (va_Qv (fun (_ : Unit) => True) (fun _ t => PostW D (TYs k) A (mW k g r) t) A) args s 0 0 A) (F0 m 15 ls [])) {ls : Array Slot} {H : Heap} {locs : List Loc} {σ : St} {x2 : Int} {x3 : Int} {x4 : Int} {s0 : Int} {s1 : Int} (hl : lv_has ls 6 [(0, .ref (g 0)), (2, .int (Int32.ofInt x2)), (3, .int (Int32.ofInt x3)), (4, .int (Int32.ofInt x4))]) (h : Hp D A s.heap H locs (mW k g σ)) (hm : r_endSounds_275 N rec15 σ x2 x3 x4 s0 s1 = some r) : W p l e { frames := 1, cells := 0, slots := 0, locals := 22 } s m args below meth c H locs 0 0 (MQ below (va_Qv (fun (_ : Unit) => True) (fun _ t => PostW D (TYs k) A (mW k g r) t) A) args s 0 0 A) (F0 m 275 ls [.int (Int32.ofInt s0), .int (Int32.ofInt s1), .ref (g 48)]) := by
  rw [r_endSounds_275] at hm
  obtain ⟨g53, hm⟩ := grd_s hm
  rw [← c32_w s0]
  refine as_48 C h dX12_endSounds_275 g53 (fun H locs h => ?_)
  exact lm_endSounds_276 (N := N) C hr hlk hrec15 (lv_sub hl [0, 1, 2, 3] rfl) h hm
set_option maxHeartbeats 4000000 in
set_option maxRecDepth 100000 in
theorem lm_endSounds_159 {r : St} (C : Cx p s m args c cX12_endSounds RX12 (cd :: rW) D (TYs k) 6) (hr : meth.sig.returnType = none) (hlk : meth.locks = false) {rec15 : St → Int → Int → Int → Option St} (hrec15 : ∀ {ls : Array Slot} {H : Heap} {locs : List Loc} {σ : St} {x2 : Int} {x3 : Int} {x4 : Int}, lv_has ls 6 [(0, .ref (g 0)), (2, .int (Int32.ofInt x2)), (3, .int (Int32.ofInt x3)), (4, .int (Int32.ofInt x4))] → Hp D A s.heap H locs (mW k g σ) → rec15 σ x2 x3 x4 = some r → W p l e { frames := 1, cells := 0, slots := 0, locals := 22 } s m args below meth c H locs 0 0 (MQ below (va_Qv (fun (_ : Unit) => True) (fun _ t => PostW D (TYs k) A (mW k g r) t) A) args s 0 0 A) (F0 m 15 ls [])) {ls : Array Slot} {H : Heap} {locs : List Loc} {σ : St} {x2 : Int} {x3 : Int} {x4 : Int} {x5 : Int} (hl : lv_has ls 6 [(0, .ref (g 0)), (2, .int (Int32.ofInt x2)), (3, .int (Int32.ofInt x3)), (4, .int (Int32.ofInt x4)), (5, .int (Int32.ofInt x5))]) (h : Hp D A s.heap H locs (mW k g σ)) (hm : r_endSounds_159 N rec15 σ x2 x3 x4 x5 = some r) : W p l e { frames := 1, cells := 0, slots := 0, locals := 22 } s m args below meth c H locs 0 0 (MQ below (va_Qv (fun (_ : Unit) => True) (fun _ t => PostW D (TYs k) A (mW k g r) t) A) args s 0 0 A) (F0 m 159 ls []) := by
  rw [r_endSounds_159] at hm
  refine lv_aload_n C.1 C.2.1 dX12_endSounds_159 rfl (lv_at hl 0 rfl) ?_
  refine fg_49 C h dX12_endSounds_160 ?_
  refine lv_iload_n C.1 C.2.1 dX12_endSounds_163 rfl (lv_at hl 1 rfl) ?_
  obtain ⟨g38, hm⟩ := grd_s hm
  refine al_70 C h dX12_endSounds_164 g38 ?_
  refine lv_bipush (v := Int32.ofInt 25) C.1 C.2.1 dX12_endSounds_165 (by decide) ?_
  obtain ⟨g39, hm⟩ := grd_s hm
  refine z_icmp_ne (tgt := 276) C dX12_endSounds_167 (by decide) g39 (by decide) (fun c40 => ?_) (fun c40 => ?_)
  · have hm := ite_f c40 hm
    exact lm_endSounds_276 (N := N) C hr hlk hrec15 (lv_sub hl [0, 1, 2, 3] rfl) h hm
  · have hm := ite_t c40 hm
    refine lv_iload C.1 C.2.1 dX12_endSounds_170 (lv_at hl 4 rfl) ?_
    obtain ⟨g41, hm⟩ := grd_s hm
    refine z_if_eq (tgt := 276) C dX12_endSounds_172 (by decide) g41 (fun c42 => ?_) (fun c42 => ?_)
    · have hm := ite_t c42 hm
      exact lm_endSounds_276 (N := N) C hr hlk hrec15 (lv_sub hl [0, 1, 2, 3] rfl) h hm
    · have hm := ite_f c42 hm
      refine lv_aload_n C.1 C.2.1 dX12_endSounds_175 rfl (lv_at hl 0 rfl) ?_
      refine fg_90 C h dX12_endSounds_176 ?_
      refine lv_iload C.1 C.2.1 dX12_endSounds_179 (lv_at hl 3 rfl) ?_
      obtain ⟨g43, hm⟩ := grd_s hm
      refine al_47 C h dX12_endSounds_181 g43 ?_
      refine lv_aload_n C.1 C.2.1 dX12_endSounds_182 rfl (lv_at hl 0 rfl) ?_
      refine fg_91 C h dX12_endSounds_183 ?_
      refine lv_iload C.1 C.2.1 dX12_endSounds_186 (lv_at hl 3 rfl) ?_
      refine al_46 C h dX12_endSounds_188 g43 ?_
      refine z_iand C dX12_endSounds_189 ?_
      refine lv_iconst (v := Int32.ofInt 2) C.1 C.2.1 dX12_endSounds_190 (by decide) ?_
      refine z_iand C dX12_endSounds_191 ?_
      refine lv_iconst (v := Int32.ofInt 2) C.1 C.2.1 dX12_endSounds_192 (by decide) ?_
      obtain ⟨g44, hm⟩ := grd_s hm
      refine z_icmp_ne (tgt := 276) C dX12_endSounds_193 (by decide) g44 (by decide) (fun c45 => ?_) (fun c45 => ?_)
      · have hm := ite_f c45 hm
        exact lm_endSounds_276 (N := N) C hr hlk hrec15 (lv_sub hl [0, 1, 2, 3] rfl) h hm
      · have hm := ite_t c45 hm
        refine lv_aload_n C.1 C.2.1 dX12_endSounds_196 rfl (lv_at hl 0 rfl) ?_
        refine fg_89 C h dX12_endSounds_197 ?_
        refine lv_iload C.1 C.2.1 dX12_endSounds_200 (lv_at hl 3 rfl) ?_
        refine lv_aload_n C.1 C.2.1 dX12_endSounds_202 rfl (lv_at hl 0 rfl) ?_
        refine fg_50 C h dX12_endSounds_203 ?_
        refine lv_iload_n C.1 C.2.1 dX12_endSounds_206 rfl (lv_at hl 1 rfl) ?_
        refine al_69 C h dX12_endSounds_207 g38 ?_
        refine lv_bipush (v := Int32.ofInt 43) C.1 C.2.1 dX12_endSounds_208 (by decide) ?_
        obtain ⟨g46, hm⟩ := grd_s hm
        refine z_icmp_ne (tgt := 231) C dX12_endSounds_210 (by decide) g46 (by decide) (fun c47 => ?_) (fun c47 => ?_)
        · have hm := ite_f c47 hm
          refine lv_aload_n C.1 C.2.1 dX12_endSounds_231 rfl (lv_at hl 0 rfl) ?_
          refine fg_50 C h dX12_endSounds_232 ?_
          refine lv_iload_n C.1 C.2.1 dX12_endSounds_235 rfl (lv_at hl 1 rfl) ?_
          refine al_69 C h dX12_endSounds_236 g38 ?_
          refine lv_bipush (v := Int32.ofInt 45) C.1 C.2.1 dX12_endSounds_237 (by decide) ?_
          refine z_icmp_ne (tgt := 260) C dX12_endSounds_239 (by decide) g46 (by decide) (fun c48 => ?_) (fun c48 => ?_)
          · have hm := ite_f c48 hm
            refine lv_aload_n C.1 C.2.1 dX12_endSounds_260 rfl (lv_at hl 0 rfl) ?_
            refine fg_89 C h dX12_endSounds_261 ?_
            refine lv_iload C.1 C.2.1 dX12_endSounds_264 (lv_at hl 3 rfl) ?_
            refine al_48 C h dX12_endSounds_266 g43 ?_
            refine lv_aload_n C.1 C.2.1 dX12_endSounds_267 rfl (lv_at hl 0 rfl) ?_
            refine fg_94 C h dX12_endSounds_268 ?_
            refine lv_iload C.1 C.2.1 dX12_endSounds_271 (lv_at hl 3 rfl) ?_
            refine al_43 C h dX12_endSounds_273 g43 ?_
            refine z_imul C dX12_endSounds_274 ?_
            exact lm_endSounds_275 (N := N) C hr hlk hrec15 (lv_sub hl [0, 1, 2, 3] rfl) h hm
          · have hm := ite_t c48 hm
            refine lv_aload_n C.1 C.2.1 dX12_endSounds_242 rfl (lv_at hl 0 rfl) ?_
            refine fg_89 C h dX12_endSounds_243 ?_
            refine lv_iload C.1 C.2.1 dX12_endSounds_246 (lv_at hl 3 rfl) ?_
            refine al_48 C h dX12_endSounds_248 g43 ?_
            refine lv_aload_n C.1 C.2.1 dX12_endSounds_249 rfl (lv_at hl 0 rfl) ?_
            refine fg_94 C h dX12_endSounds_250 ?_
            refine lv_iload C.1 C.2.1 dX12_endSounds_253 (lv_at hl 3 rfl) ?_
            refine al_43 C h dX12_endSounds_255 g43 ?_
            refine z_isub C dX12_endSounds_256 ?_
            refine lv_goto (tgt := 275) C.1 C.2.1 dX12_endSounds_257 (by decide) ?_
            exact lm_endSounds_275 (N := N) C hr hlk hrec15 (lv_sub hl [0, 1, 2, 3] rfl) h hm
        · have hm := ite_t c47 hm
          refine lv_aload_n C.1 C.2.1 dX12_endSounds_213 rfl (lv_at hl 0 rfl) ?_
          refine fg_89 C h dX12_endSounds_214 ?_
          refine lv_iload C.1 C.2.1 dX12_endSounds_217 (lv_at hl 3 rfl) ?_
          refine al_48 C h dX12_endSounds_219 g43 ?_
          refine lv_aload_n C.1 C.2.1 dX12_endSounds_220 rfl (lv_at hl 0 rfl) ?_
          refine fg_94 C h dX12_endSounds_221 ?_
          refine lv_iload C.1 C.2.1 dX12_endSounds_224 (lv_at hl 3 rfl) ?_
          refine al_43 C h dX12_endSounds_226 g43 ?_
          refine z_iadd C dX12_endSounds_227 ?_
          refine lv_goto (tgt := 275) C.1 C.2.1 dX12_endSounds_228 (by decide) ?_
          exact lm_endSounds_275 (N := N) C hr hlk hrec15 (lv_sub hl [0, 1, 2, 3] rfl) h hm
set_option maxHeartbeats 4000000 in
set_option maxRecDepth 100000 in
theorem lm_endSounds_96 {r : St} (C : Cx p s m args c cX12_endSounds RX12 (cd :: rW) D (TYs k) 6) (hr : meth.sig.returnType = none) (hlk : meth.locks = false) {rec15 : St → Int → Int → Int → Option St} (hrec15 : ∀ {ls : Array Slot} {H : Heap} {locs : List Loc} {σ : St} {x2 : Int} {x3 : Int} {x4 : Int}, lv_has ls 6 [(0, .ref (g 0)), (2, .int (Int32.ofInt x2)), (3, .int (Int32.ofInt x3)), (4, .int (Int32.ofInt x4))] → Hp D A s.heap H locs (mW k g σ) → rec15 σ x2 x3 x4 = some r → W p l e { frames := 1, cells := 0, slots := 0, locals := 22 } s m args below meth c H locs 0 0 (MQ below (va_Qv (fun (_ : Unit) => True) (fun _ t => PostW D (TYs k) A (mW k g r) t) A) args s 0 0 A) (F0 m 15 ls [])) {ls : Array Slot} {H : Heap} {locs : List Loc} {σ : St} {x2 : Int} {x3 : Int} {x4 : Int} {x5 : Int} (hl : lv_has ls 6 [(0, .ref (g 0)), (2, .int (Int32.ofInt x2)), (3, .int (Int32.ofInt x3)), (4, .int (Int32.ofInt x4)), (5, .int (Int32.ofInt x5))]) (h : Hp D A s.heap H locs (mW k g σ)) (hm : r_endSounds_96 N rec15 σ x2 x3 x4 x5 = some r) : W p l e { frames := 1, cells := 0, slots := 0, locals := 22 } s m args below meth c H locs 0 0 (MQ below (va_Qv (fun (_ : Unit) => True) (fun _ t => PostW D (TYs k) A (mW k g r) t) A) args s 0 0 A) (F0 m 96 ls []) := by
  rw [r_endSounds_96] at hm
  refine lv_aload_n C.1 C.2.1 dX12_endSounds_96 rfl (lv_at hl 0 rfl) ?_
  refine fg_49 C h dX12_endSounds_97 ?_
  refine lv_iload_n C.1 C.2.1 dX12_endSounds_100 rfl (lv_at hl 1 rfl) ?_
  obtain ⟨g27, hm⟩ := grd_s hm
  refine al_70 C h dX12_endSounds_101 g27 ?_
  refine lv_bipush (v := Int32.ofInt 23) C.1 C.2.1 dX12_endSounds_102 (by decide) ?_
  obtain ⟨g28, hm⟩ := grd_s hm
  refine z_icmp_eq (tgt := 134) C dX12_endSounds_104 (by decide) g28 (by decide) (fun c29 => ?_) (fun c29 => ?_)
  · have hm := ite_t c29 hm
    exact lm_endSounds_134 (N := N) C hr hlk hrec15 (lv_sub hl [0, 1, 2, 3] rfl) h hm
  · have hm := ite_f c29 hm
    refine lv_aload_n C.1 C.2.1 dX12_endSounds_107 rfl (lv_at hl 0 rfl) ?_
    refine fg_49 C h dX12_endSounds_108 ?_
    refine lv_iload_n C.1 C.2.1 dX12_endSounds_111 rfl (lv_at hl 1 rfl) ?_
    refine al_70 C h dX12_endSounds_112 g27 ?_
    refine lv_bipush (v := Int32.ofInt 25) C.1 C.2.1 dX12_endSounds_113 (by decide) ?_
    refine z_icmp_ne (tgt := 159) C dX12_endSounds_115 (by decide) g28 (by decide) (fun c30 => ?_) (fun c30 => ?_)
    · have hm := ite_f c30 hm
      exact lm_endSounds_159 (N := N) C hr hlk hrec15 (lv_sub hl [0, 1, 2, 3, 4] rfl) h hm
    · have hm := ite_t c30 hm
      refine lv_aload_n C.1 C.2.1 dX12_endSounds_118 rfl (lv_at hl 0 rfl) ?_
      refine fg_50 C h dX12_endSounds_119 ?_
      refine lv_iload_n C.1 C.2.1 dX12_endSounds_122 rfl (lv_at hl 1 rfl) ?_
      refine al_69 C h dX12_endSounds_123 g27 ?_
      refine lv_bipush (v := Int32.ofInt 35) C.1 C.2.1 dX12_endSounds_124 (by decide) ?_
      obtain ⟨g31, hm⟩ := grd_s hm
      refine z_icmp_ne (tgt := 159) C dX12_endSounds_126 (by decide) g31 (by decide) (fun c32 => ?_) (fun c32 => ?_)
      · have hm := ite_f c32 hm
        exact lm_endSounds_159 (N := N) C hr hlk hrec15 (lv_sub hl [0, 1, 2, 3, 4] rfl) h hm
      · have hm := ite_t c32 hm
        refine lv_iload C.1 C.2.1 dX12_endSounds_129 (lv_at hl 4 rfl) ?_
        obtain ⟨g33, hm⟩ := grd_s hm
        refine z_if_eq (tgt := 159) C dX12_endSounds_131 (by decide) g33 (fun c34 => ?_) (fun c34 => ?_)
        · have hm := ite_t c34 hm
          exact lm_endSounds_159 (N := N) C hr hlk hrec15 (lv_sub hl [0, 1, 2, 3, 4] rfl) h hm
        · have hm := ite_f c34 hm
          exact lm_endSounds_134 (N := N) C hr hlk hrec15 (lv_sub hl [0, 1, 2, 3] rfl) h hm
set_option maxHeartbeats 4000000 in
set_option maxRecDepth 100000 in
theorem lm_endSounds_57 {r : St} (C : Cx p s m args c cX12_endSounds RX12 (cd :: rW) D (TYs k) 6) (hr : meth.sig.returnType = none) (hlk : meth.locks = false) {rec15 : St → Int → Int → Int → Option St} (hrec15 : ∀ {ls : Array Slot} {H : Heap} {locs : List Loc} {σ : St} {x2 : Int} {x3 : Int} {x4 : Int}, lv_has ls 6 [(0, .ref (g 0)), (2, .int (Int32.ofInt x2)), (3, .int (Int32.ofInt x3)), (4, .int (Int32.ofInt x4))] → Hp D A s.heap H locs (mW k g σ) → rec15 σ x2 x3 x4 = some r → W p l e { frames := 1, cells := 0, slots := 0, locals := 22 } s m args below meth c H locs 0 0 (MQ below (va_Qv (fun (_ : Unit) => True) (fun _ t => PostW D (TYs k) A (mW k g r) t) A) args s 0 0 A) (F0 m 15 ls [])) {ls : Array Slot} {H : Heap} {locs : List Loc} {σ : St} {x2 : Int} {x3 : Int} {x4 : Int} {x5 : Int} (hl : lv_has ls 6 [(0, .ref (g 0)), (2, .int (Int32.ofInt x2)), (3, .int (Int32.ofInt x3)), (4, .int (Int32.ofInt x4)), (5, .int (Int32.ofInt x5))]) (h : Hp D A s.heap H locs (mW k g σ)) (hm : r_endSounds_57 N rec15 σ x2 x3 x4 x5 = some r) : W p l e { frames := 1, cells := 0, slots := 0, locals := 22 } s m args below meth c H locs 0 0 (MQ below (va_Qv (fun (_ : Unit) => True) (fun _ t => PostW D (TYs k) A (mW k g r) t) A) args s 0 0 A) (F0 m 57 ls []) := by
  rw [r_endSounds_57] at hm
  refine lv_aload_n C.1 C.2.1 dX12_endSounds_57 rfl (lv_at hl 0 rfl) ?_
  refine fg_49 C h dX12_endSounds_58 ?_
  refine lv_iload_n C.1 C.2.1 dX12_endSounds_61 rfl (lv_at hl 1 rfl) ?_
  obtain ⟨g17, hm⟩ := grd_s hm
  refine al_70 C h dX12_endSounds_62 g17 ?_
  refine lv_bipush (v := Int32.ofInt 24) C.1 C.2.1 dX12_endSounds_63 (by decide) ?_
  obtain ⟨g18, hm⟩ := grd_s hm
  refine z_icmp_ne (tgt := 96) C dX12_endSounds_65 (by decide) g18 (by decide) (fun c19 => ?_) (fun c19 => ?_)
  · have hm := ite_f c19 hm
    exact lm_endSounds_96 (N := N) C hr hlk hrec15 (lv_sub hl [0, 1, 2, 3, 4] rfl) h hm
  · have hm := ite_t c19 hm
    refine lv_iload C.1 C.2.1 dX12_endSounds_68 (lv_at hl 4 rfl) ?_
    obtain ⟨g20, hm⟩ := grd_s hm
    refine z_if_eq (tgt := 286) C dX12_endSounds_70 (by decide) g20 (fun c21 => ?_) (fun c21 => ?_)
    · have hm := ite_t c21 hm
      exact lm_endSounds_286 (N := N) C hr hlk hrec15 (lv_sub hl [0, 1, 2, 3] rfl) h hm
    · have hm := ite_f c21 hm
      refine lv_aload_n C.1 C.2.1 dX12_endSounds_73 rfl (lv_at hl 0 rfl) ?_
      refine fg_91 C h dX12_endSounds_74 ?_
      refine lv_iload C.1 C.2.1 dX12_endSounds_77 (lv_at hl 3 rfl) ?_
      obtain ⟨g22, hm⟩ := grd_s hm
      refine al_46 C h dX12_endSounds_79 g22 ?_
      refine lv_aload_n C.1 C.2.1 dX12_endSounds_80 rfl (lv_at hl 0 rfl) ?_
      refine fg_94 C h dX12_endSounds_81 ?_
      refine lv_iload C.1 C.2.1 dX12_endSounds_84 (lv_at hl 3 rfl) ?_
      refine al_43 C h dX12_endSounds_86 g22 ?_
      obtain ⟨r23, e24, hm⟩ := obd_s hm
      refine q_callSi C h (rc_isLoud l D k N (el σ 46 x4) (el σ 43 x4) r23 e24) (cwS 2 C.2.2.1 (gR_isLoud _) rfl rfl rfl hd_isLoud ⟨Nat.le_of_ble_eq_true rfl, Nat.le_of_ble_eq_true rfl⟩) rfl hl.1 rfl (Nat.le_of_ble_eq_true rfl) dX12_endSounds_87 ⟨Nat.le_of_ble_eq_true rfl, Nat.le_of_ble_eq_true rfl⟩ (fun H locs h => ?_)
      obtain ⟨g25, hm⟩ := grd_s hm
      refine z_if_ne (tgt := 96) C dX12_endSounds_90 (by decide) g25 (fun c26 => ?_) (fun c26 => ?_)
      · have hm := ite_f c26 hm
        exact lm_endSounds_96 (N := N) C hr hlk hrec15 (lv_sub hl [0, 1, 2, 3, 4] rfl) h hm
      · have hm := ite_t c26 hm
        refine lv_goto (tgt := 286) C.1 C.2.1 dX12_endSounds_93 (by decide) ?_
        exact lm_endSounds_286 (N := N) C hr hlk hrec15 (lv_sub hl [0, 1, 2, 3] rfl) h hm
set_option maxHeartbeats 4000000 in
set_option maxRecDepth 100000 in
theorem lm_endSounds_39 {r : St} (C : Cx p s m args c cX12_endSounds RX12 (cd :: rW) D (TYs k) 6) (hr : meth.sig.returnType = none) (hlk : meth.locks = false) {rec15 : St → Int → Int → Int → Option St} (hrec15 : ∀ {ls : Array Slot} {H : Heap} {locs : List Loc} {σ : St} {x2 : Int} {x3 : Int} {x4 : Int}, lv_has ls 6 [(0, .ref (g 0)), (2, .int (Int32.ofInt x2)), (3, .int (Int32.ofInt x3)), (4, .int (Int32.ofInt x4))] → Hp D A s.heap H locs (mW k g σ) → rec15 σ x2 x3 x4 = some r → W p l e { frames := 1, cells := 0, slots := 0, locals := 22 } s m args below meth c H locs 0 0 (MQ below (va_Qv (fun (_ : Unit) => True) (fun _ t => PostW D (TYs k) A (mW k g r) t) A) args s 0 0 A) (F0 m 15 ls [])) {ls : Array Slot} {H : Heap} {locs : List Loc} {σ : St} {x2 : Int} {x3 : Int} {x4 : Int} {s0 : Int} (hl : lv_has ls 6 [(0, .ref (g 0)), (2, .int (Int32.ofInt x2)), (3, .int (Int32.ofInt x3)), (4, .int (Int32.ofInt x4))]) (h : Hp D A s.heap H locs (mW k g σ)) (hm : r_endSounds_39 N rec15 σ x2 x3 x4 s0 = some r) : W p l e { frames := 1, cells := 0, slots := 0, locals := 22 } s m args below meth c H locs 0 0 (MQ below (va_Qv (fun (_ : Unit) => True) (fun _ t => PostW D (TYs k) A (mW k g r) t) A) args s 0 0 A) (F0 m 39 ls [.int (Int32.ofInt s0)]) := by
  rw [r_endSounds_39] at hm
  refine lv_istore (lv' := [(5, .int (Int32.ofInt s0)), (0, .ref (g 0)), (2, .int (Int32.ofInt x2)), (3, .int (Int32.ofInt x3)), (4, .int (Int32.ofInt x4))]) C.1 C.2.1 dX12_endSounds_39 hl (by decide) rfl (fun ls hl => ?_)
  refine lv_aload_n C.1 C.2.1 dX12_endSounds_41 rfl (lv_at hl 1 rfl) ?_
  refine fg_49 C h dX12_endSounds_42 ?_
  refine lv_iload_n C.1 C.2.1 dX12_endSounds_45 rfl (lv_at hl 2 rfl) ?_
  obtain ⟨g12, hm⟩ := grd_s hm
  refine al_70 C h dX12_endSounds_46 g12 ?_
  refine lv_bipush (v := Int32.ofInt 23) C.1 C.2.1 dX12_endSounds_47 (by decide) ?_
  obtain ⟨g13, hm⟩ := grd_s hm
  refine z_icmp_ne (tgt := 57) C dX12_endSounds_49 (by decide) g13 (by decide) (fun c14 => ?_) (fun c14 => ?_)
  · have hm := ite_f c14 hm
    exact lm_endSounds_57 (N := N) C hr hlk hrec15 (lv_sub hl [1, 2, 3, 4, 0] rfl) h hm
  · have hm := ite_t c14 hm
    refine lv_iload C.1 C.2.1 dX12_endSounds_52 (lv_at hl 0 rfl) ?_
    obtain ⟨g15, hm⟩ := grd_s hm
    refine z_if_eq (tgt := 286) C dX12_endSounds_54 (by decide) g15 (fun c16 => ?_) (fun c16 => ?_)
    · have hm := ite_t c16 hm
      exact lm_endSounds_286 (N := N) C hr hlk hrec15 (lv_sub hl [1, 2, 3, 4] rfl) h hm
    · have hm := ite_f c16 hm
      exact lm_endSounds_57 (N := N) C hr hlk hrec15 (lv_sub hl [1, 2, 3, 4, 0] rfl) h hm
set_option maxHeartbeats 4000000 in
set_option maxRecDepth 100000 in
theorem lm_endSounds_15 {r : St} (C : Cx p s m args c cX12_endSounds RX12 (cd :: rW) D (TYs k) 6) (hr : meth.sig.returnType = none) (hlk : meth.locks = false)  (n : Nat) : ∀ {ls : Array Slot} {H : Heap} {locs : List Loc} {σ : St} {x2 : Int} {x3 : Int} {x4 : Int}, lv_has ls 6 [(0, .ref (g 0)), (2, .int (Int32.ofInt x2)), (3, .int (Int32.ofInt x3)), (4, .int (Int32.ofInt x4))] → Hp D A s.heap H locs (mW k g σ) → r_endSounds_15 N  n σ x2 x3 x4 = some r → W p l e { frames := 1, cells := 0, slots := 0, locals := 22 } s m args below meth c H locs 0 0 (MQ below (va_Qv (fun (_ : Unit) => True) (fun _ t => PostW D (TYs k) A (mW k g r) t) A) args s 0 0 A) (F0 m 15 ls []) := by
  induction n with
  | zero => intro ls H locs σ x2 x3 x4 hl h hm; cases (show none = some r from hm)
  | succ n hrec15 =>
    intro ls H locs σ x2 x3 x4 hl h hm
    rw [r_endSounds_15] at hm
    refine lv_iload C.1 C.2.1 dX12_endSounds_15 (lv_at hl 3 rfl) ?_
    refine lv_aload_n C.1 C.2.1 dX12_endSounds_17 rfl (lv_at hl 0 rfl) ?_
    refine fg_84 C h dX12_endSounds_18 ?_
    obtain ⟨g6, hm⟩ := grd_s hm
    obtain ⟨g7, hm⟩ := grd_s hm
    refine z_icmp_ge (tgt := 292) C dX12_endSounds_21 (by decide) g6 g7 (fun c8 => ?_) (fun c8 => ?_)
    · have hm := ite_f c8 hm
      refine lv_aload_n C.1 C.2.1 dX12_endSounds_292 rfl (lv_at hl 0 rfl) ?_
      refine lv_iload_n C.1 C.2.1 dX12_endSounds_293 rfl (lv_at hl 2 rfl) ?_
      refine fp_84 C h dX12_endSounds_294 (fun H locs h => ?_)
      cases hm
      exact q_vret C h hr hlk dX12_endSounds_297
    · have hm := ite_t c8 hm
      refine lv_aload_n C.1 C.2.1 dX12_endSounds_24 rfl (lv_at hl 0 rfl) ?_
      refine fg_91 C h dX12_endSounds_25 ?_
      refine lv_iload C.1 C.2.1 dX12_endSounds_28 (lv_at hl 3 rfl) ?_
      obtain ⟨g9, hm⟩ := grd_s hm
      refine al_46 C h dX12_endSounds_30 g9 ?_
      obtain ⟨g10, hm⟩ := grd_s hm
      refine z_if_lt (tgt := 38) C dX12_endSounds_31 (by decide) g10 (fun c11 => ?_) (fun c11 => ?_)
      · have hm := ite_t c11 hm
        refine lv_iconst (v := Int32.ofInt 0) C.1 C.2.1 dX12_endSounds_38 (by decide) ?_
        exact lm_endSounds_39 (N := N) C hr hlk hrec15 (lv_sub hl [0, 1, 2, 3] rfl) h hm
      · have hm := ite_f c11 hm
        refine lv_iconst (v := Int32.ofInt 1) C.1 C.2.1 dX12_endSounds_34 (by decide) ?_
        refine lv_goto (tgt := 39) C.1 C.2.1 dX12_endSounds_35 (by decide) ?_
        exact lm_endSounds_39 (N := N) C hr hlk hrec15 (lv_sub hl [0, 1, 2, 3] rfl) h hm
set_option maxHeartbeats 4000000 in
set_option maxRecDepth 100000 in
theorem rc_endSounds (l : Launch) (D : va_G) (k : Nat → ClassId) (g : Nat → Nat) (N : Nat) (σ : St) (x1 : Int) (x2 : Int) (r : St) (hm : r_endSounds N σ x1 x2 = some r) : Mv l yX12_endSounds (.code yX12_endSounds cX12_endSounds 6 none :: rW) { frames := 1, cells := 0, slots := 0, locals := 22 } [.ref (g 0), .int (Int32.ofInt x1), .int (Int32.ofInt x2)] D (TYs k) (mW k g σ) (fun _ => True) Unit (fun _ => True) (fun _ => mW k g r) 0 0 := by
  intro sz
  refine x_met (cc := cX12_endSounds) (maxL := 6) (ret := none) (by decide) rfl (Nat.le_of_ble_eq_true rfl) ?_
  intro p e s m below meth c ls C hX hsz hr hlk hmn hl h
  have hl : lv_has ls 6 [(0, .ref (g 0)), (1, .int (Int32.ofInt x1)), (2, .int (Int32.ofInt x2))] := hl
  rw [r_endSounds] at hm
  refine lv_aload_n C.1 C.2.1 dX12_endSounds_0 rfl (lv_at hl 0 rfl) ?_
  refine fg_100 C h dX12_endSounds_1 ?_
  refine lv_iload_n C.1 C.2.1 dX12_endSounds_4 rfl (lv_at hl 1 rfl) ?_
  obtain ⟨g1, hm⟩ := grd_s hm
  refine al_39 C h dX12_endSounds_5 g1 ?_
  obtain ⟨v2, e3, hm⟩ := bnd_s hm
  rw [e3]
  refine lv_istore_n (lv' := [(3, .int (Int32.ofInt v2)), (0, .ref (g 0)), (1, .int (Int32.ofInt x1)), (2, .int (Int32.ofInt x2))]) C.1 C.2.1 dX12_endSounds_6 rfl hl (by decide) rfl (fun ls hl => ?_)
  refine lv_aload_n C.1 C.2.1 dX12_endSounds_7 rfl (lv_at hl 1 rfl) ?_
  refine fg_100 C h dX12_endSounds_8 ?_
  refine lv_iload_n C.1 C.2.1 dX12_endSounds_11 rfl (lv_at hl 2 rfl) ?_
  refine al_39 C h dX12_endSounds_12 g1 ?_
  obtain ⟨v4, e5, hm⟩ := bnd_s hm
  rw [e5]
  refine lv_istore (lv' := [(4, .int (Int32.ofInt v4)), (3, .int (Int32.ofInt v2)), (0, .ref (g 0)), (1, .int (Int32.ofInt x1)), (2, .int (Int32.ofInt x2))]) C.1 C.2.1 dX12_endSounds_13 hl (by decide) rfl (fun ls hl => ?_)
  exact lm_endSounds_15 (N := N) C hr hlk  N (lv_sub hl [2, 4, 1, 0] rfl) h hm
end L_endSounds
section L_find
variable {p : Program} {l : Launch} {e : Env} {s : State} {m : MethodId} {args : Array Value} {below : List Frame} {meth : Method} {c : Code} {D : va_G} {A : Nat → Prop} {k : Nat → ClassId} {g : Nat → Nat} {N : Nat} {cd : Cond}
set_option maxHeartbeats 4000000 in
set_option maxRecDepth 100000 in
theorem lm_find_211 {r : St} (C : Cx p s m args c cX12_find RX12 (cd :: rW) D (TYs k) 16) (hr : meth.sig.returnType = none) (hlk : meth.locks = false) {rec53 : St → Int → Int → Int → Int → Int → Int → Option St} (hrec53 : ∀ {ls : Array Slot} {H : Heap} {locs : List Loc} {σ : St} {x3 : Int} {x5 : Int} {x7 : Int} {x9 : Int} {x11 : Int} {x12 : Int}, lv_has ls 16 [(0, .ref (g 0)), (3, .long (Int64.ofInt x3)), (5, .long (Int64.ofInt x5)), (7, .long (Int64.ofInt x7)), (9, .long (Int64.ofInt x9)), (11, .int (Int32.ofInt x11)), (12, .int (Int32.ofInt x12))] → Hp D A s.heap H locs (mW k g σ) → rec53 σ x3 x5 x7 x9 x11 x12 = some r → W p l e { frames := 1, cells := 0, slots := 0, locals := 21 } s m args below meth c H locs 0 0 (MQ below (va_Qv (fun (_ : Unit) => True) (fun _ t => PostW D (TYs k) A (mW k g r) t) A) args s 0 0 A) (F0 m 53 ls [])) {ls : Array Slot} {H : Heap} {locs : List Loc} {σ : St} {x3 : Int} {x5 : Int} {x7 : Int} {x9 : Int} {x11 : Int} {x12 : Int} (hl : lv_has ls 16 [(0, .ref (g 0)), (3, .long (Int64.ofInt x3)), (5, .long (Int64.ofInt x5)), (7, .long (Int64.ofInt x7)), (9, .long (Int64.ofInt x9)), (11, .int (Int32.ofInt x11)), (12, .int (Int32.ofInt x12))]) (h : Hp D A s.heap H locs (mW k g σ)) (hm : r_find_211 N rec53 σ x3 x5 x7 x9 x11 x12 = some r) : W p l e { frames := 1, cells := 0, slots := 0, locals := 21 } s m args below meth c H locs 0 0 (MQ below (va_Qv (fun (_ : Unit) => True) (fun _ t => PostW D (TYs k) A (mW k g r) t) A) args s 0 0 A) (F0 m 211 ls []) := by
  rw [r_find_211] at hm
  refine lv_iinc (v := Int32.ofInt (x12 + 1)) (lv' := [(12, .int (Int32.ofInt (x12 + 1))), (0, .ref (g 0)), (3, .long (Int64.ofInt x3)), (5, .long (Int64.ofInt x5)), (7, .long (Int64.ofInt x7)), (9, .long (Int64.ofInt x9)), (11, .int (Int32.ofInt x11))]) C.1 C.2.1 dX12_find_211 hl (k := 6) rfl (c32_add _ _) (by decide) rfl (fun ls hl => ?_)
  refine lv_goto (tgt := 53) C.1 C.2.1 dX12_find_214 (by decide) ?_
  exact hrec53 (lv_sub hl [1, 2, 3, 4, 5, 6, 0] rfl) h hm
set_option maxHeartbeats 4000000 in
set_option maxRecDepth 100000 in
theorem lm_find_139 {r : St} (C : Cx p s m args c cX12_find RX12 (cd :: rW) D (TYs k) 16) (hr : meth.sig.returnType = none) (hlk : meth.locks = false) {rec53 : St → Int → Int → Int → Int → Int → Int → Option St} (hrec53 : ∀ {ls : Array Slot} {H : Heap} {locs : List Loc} {σ : St} {x3 : Int} {x5 : Int} {x7 : Int} {x9 : Int} {x11 : Int} {x12 : Int}, lv_has ls 16 [(0, .ref (g 0)), (3, .long (Int64.ofInt x3)), (5, .long (Int64.ofInt x5)), (7, .long (Int64.ofInt x7)), (9, .long (Int64.ofInt x9)), (11, .int (Int32.ofInt x11)), (12, .int (Int32.ofInt x12))] → Hp D A s.heap H locs (mW k g σ) → rec53 σ x3 x5 x7 x9 x11 x12 = some r → W p l e { frames := 1, cells := 0, slots := 0, locals := 21 } s m args below meth c H locs 0 0 (MQ below (va_Qv (fun (_ : Unit) => True) (fun _ t => PostW D (TYs k) A (mW k g r) t) A) args s 0 0 A) (F0 m 53 ls [])) {rec96 : St → Int → Int → Int → Int → Int → Int → Int → Int → Option St} (hrec96 : ∀ {ls : Array Slot} {H : Heap} {locs : List Loc} {σ : St} {x3 : Int} {x5 : Int} {x7 : Int} {x9 : Int} {x11 : Int} {x12 : Int} {x13 : Int} {x15 : Int}, lv_has ls 16 [(0, .ref (g 0)), (3, .long (Int64.ofInt x3)), (5, .long (Int64.ofInt x5)), (7, .long (Int64.ofInt x7)), (9, .long (Int64.ofInt x9)), (11, .int (Int32.ofInt x11)), (12, .int (Int32.ofInt x12)), (13, .long (Int64.ofInt x13)), (15, .int (Int32.ofInt x15))] → Hp D A s.heap H locs (mW k g σ) → rec96 σ x3 x5 x7 x9 x11 x12 x13 x15 = some r → W p l e { frames := 1, cells := 0, slots := 0, locals := 21 } s m args below meth c H locs 0 0 (MQ below (va_Qv (fun (_ : Unit) => True) (fun _ t => PostW D (TYs k) A (mW k g r) t) A) args s 0 0 A) (F0 m 96 ls [])) {ls : Array Slot} {H : Heap} {locs : List Loc} {σ : St} {x3 : Int} {x5 : Int} {x7 : Int} {x9 : Int} {x11 : Int} {x12 : Int} {x13 : Int} {x15 : Int} (hl : lv_has ls 16 [(0, .ref (g 0)), (3, .long (Int64.ofInt x3)), (5, .long (Int64.ofInt x5)), (7, .long (Int64.ofInt x7)), (9, .long (Int64.ofInt x9)), (11, .int (Int32.ofInt x11)), (12, .int (Int32.ofInt x12)), (13, .long (Int64.ofInt x13)), (15, .int (Int32.ofInt x15))]) (h : Hp D A s.heap H locs (mW k g σ)) (hm : r_find_139 N rec53 rec96 σ x3 x5 x7 x9 x11 x12 x13 x15 = some r) : W p l e { frames := 1, cells := 0, slots := 0, locals := 21 } s m args below meth c H locs 0 0 (MQ below (va_Qv (fun (_ : Unit) => True) (fun _ t => PostW D (TYs k) A (mW k g r) t) A) args s 0 0 A) (F0 m 139 ls []) := by
  rw [r_find_139] at hm
  refine lv_iinc (v := Int32.ofInt (x15 + (-1))) (lv' := [(15, .int (Int32.ofInt (x15 + (-1)))), (0, .ref (g 0)), (3, .long (Int64.ofInt x3)), (5, .long (Int64.ofInt x5)), (7, .long (Int64.ofInt x7)), (9, .long (Int64.ofInt x9)), (11, .int (Int32.ofInt x11)), (12, .int (Int32.ofInt x12)), (13, .long (Int64.ofInt x13))]) C.1 C.2.1 dX12_find_139 hl (k := 8) rfl (c32_add _ _) (by decide) rfl (fun ls hl => ?_)
  refine lv_goto (tgt := 96) C.1 C.2.1 dX12_find_142 (by decide) ?_
  exact hrec96 (lv_sub hl [1, 2, 3, 4, 5, 6, 7, 8, 0] rfl) h hm
set_option maxHeartbeats 4000000 in
set_option maxRecDepth 100000 in
theorem lm_find_145 {r : St} (C : Cx p s m args c cX12_find RX12 (cd :: rW) D (TYs k) 16) (hr : meth.sig.returnType = none) (hlk : meth.locks = false) {rec53 : St → Int → Int → Int → Int → Int → Int → Option St} (hrec53 : ∀ {ls : Array Slot} {H : Heap} {locs : List Loc} {σ : St} {x3 : Int} {x5 : Int} {x7 : Int} {x9 : Int} {x11 : Int} {x12 : Int}, lv_has ls 16 [(0, .ref (g 0)), (3, .long (Int64.ofInt x3)), (5, .long (Int64.ofInt x5)), (7, .long (Int64.ofInt x7)), (9, .long (Int64.ofInt x9)), (11, .int (Int32.ofInt x11)), (12, .int (Int32.ofInt x12))] → Hp D A s.heap H locs (mW k g σ) → rec53 σ x3 x5 x7 x9 x11 x12 = some r → W p l e { frames := 1, cells := 0, slots := 0, locals := 21 } s m args below meth c H locs 0 0 (MQ below (va_Qv (fun (_ : Unit) => True) (fun _ t => PostW D (TYs k) A (mW k g r) t) A) args s 0 0 A) (F0 m 53 ls [])) {ls : Array Slot} {H : Heap} {locs : List Loc} {σ : St} {x3 : Int} {x5 : Int} {x7 : Int} {x9 : Int} {x11 : Int} {x12 : Int} {x15 : Int} (hl : lv_has ls 16 [(0, .ref (g 0)), (3, .long (Int64.ofInt x3)), (5, .long (Int64.ofInt x5)), (7, .long (Int64.ofInt x7)), (9, .long (Int64.ofInt x9)), (11, .int (Int32.ofInt x11)), (12, .int (Int32.ofInt x12)), (15, .int (Int32.ofInt x15))]) (h : Hp D A s.heap H locs (mW k g σ)) (hm : r_find_145 N rec53 σ x3 x5 x7 x9 x11 x12 x15 = some r) : W p l e { frames := 1, cells := 0, slots := 0, locals := 21 } s m args below meth c H locs 0 0 (MQ below (va_Qv (fun (_ : Unit) => True) (fun _ t => PostW D (TYs k) A (mW k g r) t) A) args s 0 0 A) (F0 m 145 ls []) := by
  rw [r_find_145] at hm
  refine lv_iload C.1 C.2.1 dX12_find_145 (lv_at hl 7 rfl) ?_
  refine lv_iload C.1 C.2.1 dX12_find_147 (lv_at hl 5 rfl) ?_
  obtain ⟨g35, hm⟩ := grd_s hm
  obtain ⟨g36, hm⟩ := grd_s hm
  refine z_icmp_ge (tgt := 155) C dX12_find_149 (by decide) g35 g36 (fun c37 => ?_) (fun c37 => ?_)
  · have hm := ite_f c37 hm
    refine lv_aload_n C.1 C.2.1 dX12_find_155 rfl (lv_at hl 0 rfl) ?_
    refine fg_91 C h dX12_find_156 ?_
    refine lv_iload C.1 C.2.1 dX12_find_159 (lv_at hl 6 rfl) ?_
    refine lv_aload_n C.1 C.2.1 dX12_find_161 rfl (lv_at hl 0 rfl) ?_
    refine fg_90 C h dX12_find_162 ?_
    refine lv_iload C.1 C.2.1 dX12_find_165 (lv_at hl 7 rfl) ?_
    obtain ⟨g38, hm⟩ := grd_s hm
    refine al_47 C h dX12_find_167 g38 ?_
    obtain ⟨g39, hm⟩ := grd_s hm
    refine as_46 C h dX12_find_168 g39 (fun H locs h => ?_)
    refine lv_aload_n C.1 C.2.1 dX12_find_169 rfl (lv_at hl 0 rfl) ?_
    refine fg_92 C h dX12_find_170 ?_
    refine lv_iload C.1 C.2.1 dX12_find_173 (lv_at hl 6 rfl) ?_
    refine lv_aload_n C.1 C.2.1 dX12_find_175 rfl (lv_at hl 0 rfl) ?_
    refine fg_87 C h dX12_find_176 ?_
    refine lv_iload C.1 C.2.1 dX12_find_179 (lv_at hl 7 rfl) ?_
    refine al_50 C h dX12_find_181 g38 ?_
    refine x_topi (y := Int32.ofInt (el σ 50 x15)) rfl ?_
    refine as_45 C h dX12_find_182 g39 (fun H locs h => ?_)
    refine lv_aload_n C.1 C.2.1 dX12_find_183 rfl (lv_at hl 0 rfl) ?_
    refine fg_93 C h dX12_find_184 ?_
    refine lv_iload C.1 C.2.1 dX12_find_187 (lv_at hl 6 rfl) ?_
    refine lv_aload_n C.1 C.2.1 dX12_find_189 rfl (lv_at hl 0 rfl) ?_
    refine fg_88 C h dX12_find_190 ?_
    refine lv_iload C.1 C.2.1 dX12_find_193 (lv_at hl 7 rfl) ?_
    refine al_49 C h dX12_find_195 g38 ?_
    refine x_topi (y := Int32.ofInt (el σ 49 x15)) rfl ?_
    refine as_44 C h dX12_find_196 g39 (fun H locs h => ?_)
    refine lv_aload_n C.1 C.2.1 dX12_find_197 rfl (lv_at hl 0 rfl) ?_
    refine fg_94 C h dX12_find_198 ?_
    refine lv_iload C.1 C.2.1 dX12_find_201 (lv_at hl 6 rfl) ?_
    refine lv_aload_n C.1 C.2.1 dX12_find_203 rfl (lv_at hl 0 rfl) ?_
    refine fg_89 C h dX12_find_204 ?_
    refine lv_iload C.1 C.2.1 dX12_find_207 (lv_at hl 7 rfl) ?_
    refine al_48 C h dX12_find_209 g38 ?_
    refine x_topi (y := Int32.ofInt (el σ 48 x15)) rfl ?_
    refine as_43 C h dX12_find_210 g39 (fun H locs h => ?_)
    exact lm_find_211 (N := N) C hr hlk hrec53 (lv_sub hl [0, 1, 2, 3, 4, 5, 6] rfl) h hm
  · have hm := ite_t c37 hm
    refine lv_goto (tgt := 211) C.1 C.2.1 dX12_find_152 (by decide) ?_
    exact lm_find_211 (N := N) C hr hlk hrec53 (lv_sub hl [0, 1, 2, 3, 4, 5, 6] rfl) h hm
set_option maxHeartbeats 4000000 in
set_option maxRecDepth 100000 in
theorem lm_find_96 {r : St} (C : Cx p s m args c cX12_find RX12 (cd :: rW) D (TYs k) 16) (hr : meth.sig.returnType = none) (hlk : meth.locks = false) {rec53 : St → Int → Int → Int → Int → Int → Int → Option St} (hrec53 : ∀ {ls : Array Slot} {H : Heap} {locs : List Loc} {σ : St} {x3 : Int} {x5 : Int} {x7 : Int} {x9 : Int} {x11 : Int} {x12 : Int}, lv_has ls 16 [(0, .ref (g 0)), (3, .long (Int64.ofInt x3)), (5, .long (Int64.ofInt x5)), (7, .long (Int64.ofInt x7)), (9, .long (Int64.ofInt x9)), (11, .int (Int32.ofInt x11)), (12, .int (Int32.ofInt x12))] → Hp D A s.heap H locs (mW k g σ) → rec53 σ x3 x5 x7 x9 x11 x12 = some r → W p l e { frames := 1, cells := 0, slots := 0, locals := 21 } s m args below meth c H locs 0 0 (MQ below (va_Qv (fun (_ : Unit) => True) (fun _ t => PostW D (TYs k) A (mW k g r) t) A) args s 0 0 A) (F0 m 53 ls [])) (n : Nat) : ∀ {ls : Array Slot} {H : Heap} {locs : List Loc} {σ : St} {x3 : Int} {x5 : Int} {x7 : Int} {x9 : Int} {x11 : Int} {x12 : Int} {x13 : Int} {x15 : Int}, lv_has ls 16 [(0, .ref (g 0)), (3, .long (Int64.ofInt x3)), (5, .long (Int64.ofInt x5)), (7, .long (Int64.ofInt x7)), (9, .long (Int64.ofInt x9)), (11, .int (Int32.ofInt x11)), (12, .int (Int32.ofInt x12)), (13, .long (Int64.ofInt x13)), (15, .int (Int32.ofInt x15))] → Hp D A s.heap H locs (mW k g σ) → r_find_96 N rec53 n σ x3 x5 x7 x9 x11 x12 x13 x15 = some r → W p l e { frames := 1, cells := 0, slots := 0, locals := 21 } s m args below meth c H locs 0 0 (MQ below (va_Qv (fun (_ : Unit) => True) (fun _ t => PostW D (TYs k) A (mW k g r) t) A) args s 0 0 A) (F0 m 96 ls []) := by
  induction n with
  | zero => intro ls H locs σ x3 x5 x7 x9 x11 x12 x13 x15 hl h hm; cases (show none = some r from hm)
  | succ n hrec96 =>
    intro ls H locs σ x3 x5 x7 x9 x11 x12 x13 x15 hl h hm
    rw [r_find_96] at hm
    refine lv_iload C.1 C.2.1 dX12_find_96 (lv_at hl 8 rfl) ?_
    refine lv_iload C.1 C.2.1 dX12_find_98 (lv_at hl 5 rfl) ?_
    obtain ⟨g26, hm⟩ := grd_s hm
    obtain ⟨g27, hm⟩ := grd_s hm
    refine z_icmp_lt (tgt := 145) C dX12_find_100 (by decide) g26 g27 (fun c28 => ?_) (fun c28 => ?_)
    · have hm := ite_t c28 hm
      exact lm_find_145 (N := N) C hr hlk hrec53 (lv_sub hl [0, 1, 2, 3, 4, 5, 6, 8] rfl) h hm
    · have hm := ite_f c28 hm
      refine lv_aload_n C.1 C.2.1 dX12_find_103 rfl (lv_at hl 0 rfl) ?_
      refine fg_85 C h dX12_find_104 ?_
      refine lv_iload C.1 C.2.1 dX12_find_107 (lv_at hl 8 rfl) ?_
      obtain ⟨g29, hm⟩ := grd_s hm
      refine al_52 C h dX12_find_109 g29 ?_
      refine lv_lload C.1 C.2.1 dX12_find_110 (lv_at hl 4 rfl) ?_
      refine z_lsub C dX12_find_112 ?_
      refine lv_lload_n C.1 C.2.1 dX12_find_113 rfl (lv_at hl 1 rfl) ?_
      refine z_lmul C dX12_find_114 ?_
      refine lv_lload C.1 C.2.1 dX12_find_115 (lv_at hl 7 rfl) ?_
      obtain ⟨g30, hm⟩ := grd_s hm
      obtain ⟨g31, hm⟩ := grd_s hm
      refine W.lcmp C.1 C.2.1 dX12_find_117 ?_
      refine z_lcmp_gt (tgt := 139) C dX12_find_118 (by decide) g30 g31 (fun c32 => ?_) (fun c32 => ?_)
      · have hm := ite_t c32 hm
        exact lm_find_139 (N := N) C hr hlk hrec53 hrec96 (lv_sub hl [0, 1, 2, 3, 4, 5, 6, 7, 8] rfl) h hm
      · have hm := ite_f c32 hm
        refine lv_aload_n C.1 C.2.1 dX12_find_121 rfl (lv_at hl 0 rfl) ?_
        refine fg_86 C h dX12_find_122 ?_
        refine lv_iload C.1 C.2.1 dX12_find_125 (lv_at hl 8 rfl) ?_
        refine al_51 C h dX12_find_127 g29 ?_
        refine lv_lload C.1 C.2.1 dX12_find_128 (lv_at hl 4 rfl) ?_
        refine z_lsub C dX12_find_130 ?_
        refine lv_lload_n C.1 C.2.1 dX12_find_131 rfl (lv_at hl 1 rfl) ?_
        refine z_lmul C dX12_find_132 ?_
        refine lv_lload C.1 C.2.1 dX12_find_133 (lv_at hl 7 rfl) ?_
        obtain ⟨g33, hm⟩ := grd_s hm
        refine W.lcmp C.1 C.2.1 dX12_find_135 ?_
        refine z_lcmp_gt (tgt := 145) C dX12_find_136 (by decide) g33 g31 (fun c34 => ?_) (fun c34 => ?_)
        · have hm := ite_t c34 hm
          exact lm_find_145 (N := N) C hr hlk hrec53 (lv_sub hl [0, 1, 2, 3, 4, 5, 6, 8] rfl) h hm
        · have hm := ite_f c34 hm
          exact lm_find_139 (N := N) C hr hlk hrec53 hrec96 (lv_sub hl [0, 1, 2, 3, 4, 5, 6, 7, 8] rfl) h hm
set_option maxHeartbeats 4000000 in
set_option maxRecDepth 100000 in
theorem lm_find_53 {r : St} (C : Cx p s m args c cX12_find RX12 (cd :: rW) D (TYs k) 16) (hr : meth.sig.returnType = none) (hlk : meth.locks = false)  (n : Nat) : ∀ {ls : Array Slot} {H : Heap} {locs : List Loc} {σ : St} {x3 : Int} {x5 : Int} {x7 : Int} {x9 : Int} {x11 : Int} {x12 : Int}, lv_has ls 16 [(0, .ref (g 0)), (3, .long (Int64.ofInt x3)), (5, .long (Int64.ofInt x5)), (7, .long (Int64.ofInt x7)), (9, .long (Int64.ofInt x9)), (11, .int (Int32.ofInt x11)), (12, .int (Int32.ofInt x12))] → Hp D A s.heap H locs (mW k g σ) → r_find_53 N  n σ x3 x5 x7 x9 x11 x12 = some r → W p l e { frames := 1, cells := 0, slots := 0, locals := 21 } s m args below meth c H locs 0 0 (MQ below (va_Qv (fun (_ : Unit) => True) (fun _ t => PostW D (TYs k) A (mW k g r) t) A) args s 0 0 A) (F0 m 53 ls []) := by
  induction n with
  | zero => intro ls H locs σ x3 x5 x7 x9 x11 x12 hl h hm; cases (show none = some r from hm)
  | succ n hrec53 =>
    intro ls H locs σ x3 x5 x7 x9 x11 x12 hl h hm
    rw [r_find_53] at hm
    refine lv_iload C.1 C.2.1 dX12_find_53 (lv_at hl 6 rfl) ?_
    refine lv_iload C.1 C.2.1 dX12_find_55 (lv_at hl 5 rfl) ?_
    obtain ⟨g16, hm⟩ := grd_s hm
    obtain ⟨g17, hm⟩ := grd_s hm
    refine z_icmp_ge (tgt := 217) C dX12_find_57 (by decide) g16 g17 (fun c18 => ?_) (fun c18 => ?_)
    · have hm := ite_f c18 hm
      cases hm
      exact q_vret C h hr hlk dX12_find_217
    · have hm := ite_t c18 hm
      refine lv_aload_n C.1 C.2.1 dX12_find_60 rfl (lv_at hl 0 rfl) ?_
      refine fg_91 C h dX12_find_61 ?_
      refine lv_iload C.1 C.2.1 dX12_find_64 (lv_at hl 6 rfl) ?_
      obtain ⟨g19, hm⟩ := grd_s hm
      refine al_46 C h dX12_find_66 g19 ?_
      obtain ⟨g20, hm⟩ := grd_s hm
      refine z_if_lt (tgt := 73) C dX12_find_67 (by decide) g20 (fun c21 => ?_) (fun c21 => ?_)
      · have hm := ite_t c21 hm
        refine lv_aload_n C.1 C.2.1 dX12_find_73 rfl (lv_at hl 0 rfl) ?_
        refine fg_85 C h dX12_find_74 ?_
        refine lv_iload C.1 C.2.1 dX12_find_77 (lv_at hl 6 rfl) ?_
        refine al_52 C h dX12_find_79 g19 ?_
        refine lv_lload C.1 C.2.1 dX12_find_80 (lv_at hl 3 rfl) ?_
        refine z_lsub C dX12_find_82 ?_
        refine lv_lload C.1 C.2.1 dX12_find_83 (lv_at hl 2 rfl) ?_
        refine z_lmul C dX12_find_85 ?_
        obtain ⟨v22, e23, hm⟩ := bnd_s hm
        rw [e23]
        refine lv_lstore (lv' := [(13, .long (Int64.ofInt v22)), (0, .ref (g 0)), (3, .long (Int64.ofInt x3)), (5, .long (Int64.ofInt x5)), (7, .long (Int64.ofInt x7)), (9, .long (Int64.ofInt x9)), (11, .int (Int32.ofInt x11)), (12, .int (Int32.ofInt x12))]) C.1 C.2.1 dX12_find_86 hl (by decide) rfl (fun ls hl => ?_)
        refine lv_aload_n C.1 C.2.1 dX12_find_88 rfl (lv_at hl 1 rfl) ?_
        refine fg_84 C h dX12_find_89 ?_
        refine lv_iconst (v := Int32.ofInt 1) C.1 C.2.1 dX12_find_92 (by decide) ?_
        refine z_isub C dX12_find_93 ?_
        obtain ⟨v24, e25, hm⟩ := bnd_s hm
        rw [e25]
        refine lv_istore (lv' := [(15, .int (Int32.ofInt v24)), (13, .long (Int64.ofInt v22)), (0, .ref (g 0)), (3, .long (Int64.ofInt x3)), (5, .long (Int64.ofInt x5)), (7, .long (Int64.ofInt x7)), (9, .long (Int64.ofInt x9)), (11, .int (Int32.ofInt x11)), (12, .int (Int32.ofInt x12))]) C.1 C.2.1 dX12_find_94 hl (by decide) rfl (fun ls hl => ?_)
        exact lm_find_96 (N := N) C hr hlk hrec53 N (lv_sub hl [2, 3, 4, 5, 6, 7, 8, 1, 0] rfl) h hm
      · have hm := ite_f c21 hm
        refine lv_goto (tgt := 211) C.1 C.2.1 dX12_find_70 (by decide) ?_
        exact lm_find_211 (N := N) C hr hlk hrec53 (lv_sub hl [0, 1, 2, 3, 4, 5, 6] rfl) h hm
set_option maxHeartbeats 4000000 in
set_option maxRecDepth 100000 in
theorem rc_find (l : Launch) (D : va_G) (k : Nat → ClassId) (g : Nat → Nat) (N : Nat) (σ : St) (x1 : Int) (x2 : Int) (r : St) (hm : r_find N σ x1 x2 = some r) : Mv l yX12_find (.code yX12_find cX12_find 16 none :: rW) { frames := 1, cells := 0, slots := 0, locals := 21 } [.ref (g 0), .int (Int32.ofInt x1), .int (Int32.ofInt x2)] D (TYs k) (mW k g σ) (fun _ => True) Unit (fun _ => True) (fun _ => mW k g r) 0 0 := by
  intro sz
  refine x_met (cc := cX12_find) (maxL := 16) (ret := none) (by decide) rfl (Nat.le_of_ble_eq_true rfl) ?_
  intro p e s m below meth c ls C hX hsz hr hlk hmn hl h
  have hl : lv_has ls 16 [(0, .ref (g 0)), (1, .int (Int32.ofInt x1)), (2, .int (Int32.ofInt x2))] := hl
  rw [r_find] at hm
  refine lv_aload_n C.1 C.2.1 dX12_find_0 rfl (lv_at hl 0 rfl) ?_
  refine fg_56 C h dX12_find_1 ?_
  refine lv_iload_n C.1 C.2.1 dX12_find_4 rfl (lv_at hl 2 rfl) ?_
  obtain ⟨g1, hm⟩ := grd_s hm
  refine al_63 C h dX12_find_5 g1 ?_
  obtain ⟨g2, hm⟩ := grd_s hm
  refine z_i2l C dX12_find_6 g2 ?_
  obtain ⟨v3, e4, hm⟩ := bnd_s hm
  rw [e4]
  refine lv_lstore_n (lv' := [(3, .long (Int64.ofInt v3)), (0, .ref (g 0)), (1, .int (Int32.ofInt x1)), (2, .int (Int32.ofInt x2))]) C.1 C.2.1 dX12_find_7 rfl hl (by decide) rfl (fun ls hl => ?_)
  refine lv_aload_n C.1 C.2.1 dX12_find_8 rfl (lv_at hl 1 rfl) ?_
  refine lv_iload_n C.1 C.2.1 dX12_find_9 rfl (lv_at hl 2 rfl) ?_
  obtain ⟨r5, e6, hm⟩ := obd_s hm
  refine q_callVl C h (rc_grainOf l D k g N σ x1 r5 e6) (cwV 1 C.2.2.1 (gR_grainOf _) rfl rfl rfl hd_grainOf ⟨Nat.le_of_ble_eq_true rfl, Nat.le_of_ble_eq_true rfl⟩) rfl hl.1 rfl (Nat.le_of_ble_eq_true rfl) dX12_find_10 ⟨Nat.le_of_ble_eq_true rfl, Nat.le_of_ble_eq_true rfl⟩ (fun H locs h => ?_)
  refine lv_lstore (lv' := [(5, .long (Int64.ofInt r5.2)), (3, .long (Int64.ofInt v3)), (0, .ref (g 0)), (1, .int (Int32.ofInt x1)), (2, .int (Int32.ofInt x2))]) C.1 C.2.1 dX12_find_13 hl (by decide) rfl (fun ls hl => ?_)
  refine lv_aload_n C.1 C.2.1 dX12_find_15 rfl (lv_at hl 2 rfl) ?_
  refine fg_98 C h dX12_find_16 ?_
  refine lv_iload_n C.1 C.2.1 dX12_find_19 rfl (lv_at hl 3 rfl) ?_
  obtain ⟨g7, hm⟩ := grd_s hm
  refine al_41 C h dX12_find_20 g7 ?_
  refine lv_lload_n C.1 C.2.1 dX12_find_21 rfl (lv_at hl 1 rfl) ?_
  refine z_lmul C dX12_find_22 ?_
  obtain ⟨v8, e9, hm⟩ := bnd_s hm
  rw [e9]
  refine lv_lstore (lv' := [(7, .long (Int64.ofInt v8)), (5, .long (Int64.ofInt r5.2)), (3, .long (Int64.ofInt v3)), (0, .ref (g 0)), (1, .int (Int32.ofInt x1)), (2, .int (Int32.ofInt x2))]) C.1 C.2.1 dX12_find_23 hl (by decide) rfl (fun ls hl => ?_)
  refine lv_aload_n C.1 C.2.1 dX12_find_25 rfl (lv_at hl 3 rfl) ?_
  refine fg_98 C h dX12_find_26 ?_
  refine lv_iload_n C.1 C.2.1 dX12_find_29 rfl (lv_at hl 4 rfl) ?_
  refine al_41 C h dX12_find_30 g7 ?_
  refine lv_lload C.1 C.2.1 dX12_find_31 (lv_at hl 1 rfl) ?_
  refine z_lmul C dX12_find_33 ?_
  obtain ⟨v10, e11, hm⟩ := bnd_s hm
  rw [e11]
  refine lv_lstore (lv' := [(9, .long (Int64.ofInt v10)), (7, .long (Int64.ofInt v8)), (5, .long (Int64.ofInt r5.2)), (3, .long (Int64.ofInt v3)), (0, .ref (g 0)), (1, .int (Int32.ofInt x1)), (2, .int (Int32.ofInt x2))]) C.1 C.2.1 dX12_find_34 hl (by decide) rfl (fun ls hl => ?_)
  refine lv_aload_n C.1 C.2.1 dX12_find_36 rfl (lv_at hl 4 rfl) ?_
  refine fg_104 C h dX12_find_37 ?_
  refine lv_iload_n C.1 C.2.1 dX12_find_40 rfl (lv_at hl 5 rfl) ?_
  refine al_35 C h dX12_find_41 g7 ?_
  refine z_l2i C dX12_find_42 ?_
  obtain ⟨v12, e13, hm⟩ := bnd_s hm
  rw [e13]
  refine lv_istore (lv' := [(11, .int (Int32.ofInt v12)), (9, .long (Int64.ofInt v10)), (7, .long (Int64.ofInt v8)), (5, .long (Int64.ofInt r5.2)), (3, .long (Int64.ofInt v3)), (0, .ref (g 0)), (1, .int (Int32.ofInt x1)), (2, .int (Int32.ofInt x2))]) C.1 C.2.1 dX12_find_43 hl (by decide) rfl (fun ls hl => ?_)
  refine lv_aload_n C.1 C.2.1 dX12_find_45 rfl (lv_at hl 5 rfl) ?_
  refine fg_100 C h dX12_find_46 ?_
  refine lv_iload_n C.1 C.2.1 dX12_find_49 rfl (lv_at hl 6 rfl) ?_
  refine al_39 C h dX12_find_50 g7 ?_
  obtain ⟨v14, e15, hm⟩ := bnd_s hm
  rw [e15]
  refine lv_istore (lv' := [(12, .int (Int32.ofInt v14)), (11, .int (Int32.ofInt v12)), (9, .long (Int64.ofInt v10)), (7, .long (Int64.ofInt v8)), (5, .long (Int64.ofInt r5.2)), (3, .long (Int64.ofInt v3)), (0, .ref (g 0)), (1, .int (Int32.ofInt x1)), (2, .int (Int32.ofInt x2))]) C.1 C.2.1 dX12_find_51 hl (by decide) rfl (fun ls hl => ?_)
  exact lm_find_53 (N := N) C hr hlk  N (lv_sub hl [6, 5, 4, 3, 2, 1, 0] rfl) h hm
end L_find
section L_sounds
variable {p : Program} {l : Launch} {e : Env} {s : State} {m : MethodId} {args : Array Value} {below : List Frame} {meth : Method} {c : Code} {D : va_G} {A : Nat → Prop} {k : Nat → ClassId} {g : Nat → Nat} {N : Nat} {cd : Cond}
set_option maxHeartbeats 4000000 in
set_option maxRecDepth 100000 in
theorem lm_sounds_188 {r : St × Int} (C : Cx p s m args c cX12_sounds RX12 (cd :: rW) D (TYs k) 8) (hr : meth.sig.returnType = (some .boolean)) (hlk : meth.locks = false) {rec159 : St → Int → Int → Int → Int → Int → Option (St × Int)} (hrec159 : ∀ {ls : Array Slot} {H : Heap} {locs : List Loc} {σ : St} {x1 : Int} {x2 : Int} {x5 : Int} {x6 : Int} {x7 : Int}, lv_has ls 8 [(0, .ref (g 0)), (1, .int (Int32.ofInt x1)), (2, .int (Int32.ofInt x2)), (5, .int (Int32.ofInt x5)), (6, .int (Int32.ofInt x6)), (7, .int (Int32.ofInt x7))] → Hp D A s.heap H locs (mW k g σ) → rec159 σ x1 x2 x5 x6 x7 = some r → W p l e { frames := 2, cells := 0, slots := 0, locals := 56 } s m args below meth c H locs 0 0 (MQ below (va_Qi (fun v (_ : Unit) => v = Int32.ofInt r.2) (fun _ t => PostW D (TYs k) A (mW k g r.1) t) A) args s 0 0 A) (F0 m 159 ls [])) {ls : Array Slot} {H : Heap} {locs : List Loc} {σ : St} {x1 : Int} {x2 : Int} {x5 : Int} {x7 : Int} {s0 : Int} (hl : lv_has ls 8 [(0, .ref (g 0)), (1, .int (Int32.ofInt x1)), (2, .int (Int32.ofInt x2)), (5, .int (Int32.ofInt x5)), (7, .int (Int32.ofInt x7))]) (h : Hp D A s.heap H locs (mW k g σ)) (hm : r_sounds_188 N rec159 σ x1 x2 x5 x7 s0 = some r) : W p l e { frames := 2, cells := 0, slots := 0, locals := 56 } s m args below meth c H locs 0 0 (MQ below (va_Qi (fun v (_ : Unit) => v = Int32.ofInt r.2) (fun _ t => PostW D (TYs k) A (mW k g r.1) t) A) args s 0 0 A) (F0 m 188 ls [.int (Int32.ofInt s0)]) := by
  rw [r_sounds_188] at hm
  refine lv_istore (lv' := [(6, .int (Int32.ofInt s0)), (0, .ref (g 0)), (1, .int (Int32.ofInt x1)), (2, .int (Int32.ofInt x2)), (5, .int (Int32.ofInt x5)), (7, .int (Int32.ofInt x7))]) C.1 C.2.1 dX12_sounds_188 hl (by decide) rfl (fun ls hl => ?_)
  refine lv_iinc (v := Int32.ofInt (x7 + 1)) (lv' := [(7, .int (Int32.ofInt (x7 + 1))), (6, .int (Int32.ofInt s0)), (0, .ref (g 0)), (1, .int (Int32.ofInt x1)), (2, .int (Int32.ofInt x2)), (5, .int (Int32.ofInt x5))]) C.1 C.2.1 dX12_sounds_190 hl (k := 5) rfl (c32_add _ _) (by decide) rfl (fun ls hl => ?_)
  refine lv_goto (tgt := 159) C.1 C.2.1 dX12_sounds_193 (by decide) ?_
  exact hrec159 (lv_sub hl [2, 3, 4, 5, 1, 0] rfl) h hm
set_option maxHeartbeats 4000000 in
set_option maxRecDepth 100000 in
theorem lm_sounds_234 {r : St × Int} (C : Cx p s m args c cX12_sounds RX12 (cd :: rW) D (TYs k) 8) (hr : meth.sig.returnType = (some .boolean)) (hlk : meth.locks = false)  {ls : Array Slot} {H : Heap} {locs : List Loc} {σ : St} {x1 : Int} {x2 : Int} (hl : lv_has ls 8 [(0, .ref (g 0)), (1, .int (Int32.ofInt x1)), (2, .int (Int32.ofInt x2))]) (h : Hp D A s.heap H locs (mW k g σ)) (hm : r_sounds_234 N  σ x1 x2 = some r) : W p l e { frames := 2, cells := 0, slots := 0, locals := 56 } s m args below meth c H locs 0 0 (MQ below (va_Qi (fun v (_ : Unit) => v = Int32.ofInt r.2) (fun _ t => PostW D (TYs k) A (mW k g r.1) t) A) args s 0 0 A) (F0 m 234 ls []) := by
  rw [r_sounds_234] at hm
  refine lv_aload_n C.1 C.2.1 dX12_sounds_234 rfl (lv_at hl 0 rfl) ?_
  refine lv_iload_n C.1 C.2.1 dX12_sounds_235 rfl (lv_at hl 1 rfl) ?_
  refine lv_iload_n C.1 C.2.1 dX12_sounds_236 rfl (lv_at hl 2 rfl) ?_
  obtain ⟨r43, e44, hm⟩ := obd_s hm
  refine q_callVv C h (rc_endSounds l D k g N σ x1 x2 r43 e44) (cwV 2 C.2.2.1 (gR_endSounds _) rfl rfl rfl hd_endSounds ⟨Nat.le_of_ble_eq_true rfl, Nat.le_of_ble_eq_true rfl⟩) rfl hl.1 rfl (Nat.le_of_ble_eq_true rfl) dX12_sounds_237 ⟨Nat.le_of_ble_eq_true rfl, Nat.le_of_ble_eq_true rfl⟩ (fun H locs h => ?_)
  refine lv_iconst (v := Int32.ofInt 0) C.1 C.2.1 dX12_sounds_240 (by decide) ?_
  cases hm
  exact q_iret C h hr hlk dX12_sounds_241 rfl
set_option maxHeartbeats 4000000 in
set_option maxRecDepth 100000 in
theorem lm_sounds_196 {r : St × Int} (C : Cx p s m args c cX12_sounds RX12 (cd :: rW) D (TYs k) 8) (hr : meth.sig.returnType = (some .boolean)) (hlk : meth.locks = false)  {ls : Array Slot} {H : Heap} {locs : List Loc} {σ : St} {x1 : Int} {x2 : Int} {x5 : Int} {x6 : Int} (hl : lv_has ls 8 [(0, .ref (g 0)), (1, .int (Int32.ofInt x1)), (2, .int (Int32.ofInt x2)), (5, .int (Int32.ofInt x5)), (6, .int (Int32.ofInt x6))]) (h : Hp D A s.heap H locs (mW k g σ)) (hm : r_sounds_196 N  σ x1 x2 x5 x6 = some r) : W p l e { frames := 2, cells := 0, slots := 0, locals := 56 } s m args below meth c H locs 0 0 (MQ below (va_Qi (fun v (_ : Unit) => v = Int32.ofInt r.2) (fun _ t => PostW D (TYs k) A (mW k g r.1) t) A) args s 0 0 A) (F0 m 196 ls []) := by
  rw [r_sounds_196] at hm
  refine lv_iload C.1 C.2.1 dX12_sounds_196 (lv_at hl 4 rfl) ?_
  obtain ⟨g35, hm⟩ := grd_s hm
  refine z_if_eq (tgt := 234) C dX12_sounds_198 (by decide) g35 (fun c36 => ?_) (fun c36 => ?_)
  · have hm := ite_t c36 hm
    exact lm_sounds_234 (N := N) C hr hlk  (lv_sub hl [0, 1, 2] rfl) h hm
  · have hm := ite_f c36 hm
    refine lv_aload_n C.1 C.2.1 dX12_sounds_201 rfl (lv_at hl 0 rfl) ?_
    refine fg_105 C h dX12_sounds_202 ?_
    refine lv_iload_n C.1 C.2.1 dX12_sounds_205 rfl (lv_at hl 1 rfl) ?_
    obtain ⟨g37, hm⟩ := grd_s hm
    refine al_34 C h dX12_sounds_206 g37 ?_
    refine lv_aload_n C.1 C.2.1 dX12_sounds_207 rfl (lv_at hl 0 rfl) ?_
    refine fg_106 C h dX12_sounds_208 ?_
    refine lv_iload_n C.1 C.2.1 dX12_sounds_211 rfl (lv_at hl 1 rfl) ?_
    refine al_33 C h dX12_sounds_212 g37 ?_
    obtain ⟨g38, hm⟩ := grd_s hm
    obtain ⟨g39, hm⟩ := grd_s hm
    refine W.lcmp C.1 C.2.1 dX12_sounds_213 ?_
    refine z_lcmp_lt (tgt := 234) C dX12_sounds_214 (by decide) g38 g39 (fun c40 => ?_) (fun c40 => ?_)
    · have hm := ite_t c40 hm
      exact lm_sounds_234 (N := N) C hr hlk  (lv_sub hl [0, 1, 2] rfl) h hm
    · have hm := ite_f c40 hm
      refine lv_aload_n C.1 C.2.1 dX12_sounds_217 rfl (lv_at hl 0 rfl) ?_
      refine lv_iload_n C.1 C.2.1 dX12_sounds_218 rfl (lv_at hl 1 rfl) ?_
      refine lv_iconst (v := Int32.ofInt 1) C.1 C.2.1 dX12_sounds_219 (by decide) ?_
      refine lv_iload C.1 C.2.1 dX12_sounds_220 (lv_at hl 3 rfl) ?_
      refine z_isub C dX12_sounds_222 ?_
      refine lv_aload_n C.1 C.2.1 dX12_sounds_223 rfl (lv_at hl 0 rfl) ?_
      refine fg_105 C h dX12_sounds_224 ?_
      refine lv_iload_n C.1 C.2.1 dX12_sounds_227 rfl (lv_at hl 1 rfl) ?_
      refine al_34 C h dX12_sounds_228 g37 ?_
      obtain ⟨r41, e42, hm⟩ := obd_s hm
      refine q_callVv C h (rc_callKid l D k g N σ x1 (1 - x5) (el σ 34 x1) r41 e42) (cwV 3 C.2.2.1 (gR_callKid _) rfl rfl rfl hd_callKid ⟨Nat.le_of_ble_eq_true rfl, Nat.le_of_ble_eq_true rfl⟩) rfl hl.1 rfl (Nat.le_of_ble_eq_true rfl) dX12_sounds_229 ⟨Nat.le_of_ble_eq_true rfl, Nat.le_of_ble_eq_true rfl⟩ (fun H locs h => ?_)
      refine lv_iconst (v := Int32.ofInt 1) C.1 C.2.1 dX12_sounds_232 (by decide) ?_
      cases hm
      exact q_iret C h hr hlk dX12_sounds_233 rfl
set_option maxHeartbeats 4000000 in
set_option maxRecDepth 100000 in
theorem lm_sounds_159 {r : St × Int} (C : Cx p s m args c cX12_sounds RX12 (cd :: rW) D (TYs k) 8) (hr : meth.sig.returnType = (some .boolean)) (hlk : meth.locks = false)  (n : Nat) : ∀ {ls : Array Slot} {H : Heap} {locs : List Loc} {σ : St} {x1 : Int} {x2 : Int} {x5 : Int} {x6 : Int} {x7 : Int}, lv_has ls 8 [(0, .ref (g 0)), (1, .int (Int32.ofInt x1)), (2, .int (Int32.ofInt x2)), (5, .int (Int32.ofInt x5)), (6, .int (Int32.ofInt x6)), (7, .int (Int32.ofInt x7))] → Hp D A s.heap H locs (mW k g σ) → r_sounds_159 N  n σ x1 x2 x5 x6 x7 = some r → W p l e { frames := 2, cells := 0, slots := 0, locals := 56 } s m args below meth c H locs 0 0 (MQ below (va_Qi (fun v (_ : Unit) => v = Int32.ofInt r.2) (fun _ t => PostW D (TYs k) A (mW k g r.1) t) A) args s 0 0 A) (F0 m 159 ls []) := by
  induction n with
  | zero => intro ls H locs σ x1 x2 x5 x6 x7 hl h hm; cases (show none = some r from hm)
  | succ n hrec159 =>
    intro ls H locs σ x1 x2 x5 x6 x7 hl h hm
    rw [r_sounds_159] at hm
    refine lv_iload C.1 C.2.1 dX12_sounds_159 (lv_at hl 5 rfl) ?_
    refine lv_aload_n C.1 C.2.1 dX12_sounds_161 rfl (lv_at hl 0 rfl) ?_
    refine fg_84 C h dX12_sounds_162 ?_
    obtain ⟨g27, hm⟩ := grd_s hm
    obtain ⟨g28, hm⟩ := grd_s hm
    refine z_icmp_ge (tgt := 196) C dX12_sounds_165 (by decide) g27 g28 (fun c29 => ?_) (fun c29 => ?_)
    · have hm := ite_f c29 hm
      exact lm_sounds_196 (N := N) C hr hlk  (lv_sub hl [0, 1, 2, 3, 4] rfl) h hm
    · have hm := ite_t c29 hm
      refine lv_iload C.1 C.2.1 dX12_sounds_168 (lv_at hl 4 rfl) ?_
      obtain ⟨g30, hm⟩ := grd_s hm
      refine z_if_ne (tgt := 196) C dX12_sounds_170 (by decide) g30 (fun c31 => ?_) (fun c31 => ?_)
      · have hm := ite_f c31 hm
        exact lm_sounds_196 (N := N) C hr hlk  (lv_sub hl [0, 1, 2, 3, 4] rfl) h hm
      · have hm := ite_t c31 hm
        refine lv_aload_n C.1 C.2.1 dX12_sounds_173 rfl (lv_at hl 0 rfl) ?_
        refine fg_91 C h dX12_sounds_174 ?_
        refine lv_iload C.1 C.2.1 dX12_sounds_177 (lv_at hl 5 rfl) ?_
        obtain ⟨g32, hm⟩ := grd_s hm
        refine al_46 C h dX12_sounds_179 g32 ?_
        obtain ⟨g33, hm⟩ := grd_s hm
        refine z_if_ge (tgt := 187) C dX12_sounds_180 (by decide) g33 (fun c34 => ?_) (fun c34 => ?_)
        · have hm := ite_f c34 hm
          refine lv_iconst (v := Int32.ofInt 0) C.1 C.2.1 dX12_sounds_187 (by decide) ?_
          exact lm_sounds_188 (N := N) C hr hlk hrec159 (lv_sub hl [0, 1, 2, 3, 5] rfl) h hm
        · have hm := ite_t c34 hm
          refine lv_iconst (v := Int32.ofInt 1) C.1 C.2.1 dX12_sounds_183 (by decide) ?_
          refine lv_goto (tgt := 188) C.1 C.2.1 dX12_sounds_184 (by decide) ?_
          exact lm_sounds_188 (N := N) C hr hlk hrec159 (lv_sub hl [0, 1, 2, 3, 5] rfl) h hm
set_option maxHeartbeats 4000000 in
set_option maxRecDepth 100000 in
theorem lm_sounds_148 {r : St × Int} (C : Cx p s m args c cX12_sounds RX12 (cd :: rW) D (TYs k) 8) (hr : meth.sig.returnType = (some .boolean)) (hlk : meth.locks = false)  {ls : Array Slot} {H : Heap} {locs : List Loc} {σ : St} {x1 : Int} {x2 : Int} {x5 : Int} (hl : lv_has ls 8 [(0, .ref (g 0)), (1, .int (Int32.ofInt x1)), (2, .int (Int32.ofInt x2)), (5, .int (Int32.ofInt x5))]) (h : Hp D A s.heap H locs (mW k g σ)) (hm : r_sounds_148 N  σ x1 x2 x5 = some r) : W p l e { frames := 2, cells := 0, slots := 0, locals := 56 } s m args below meth c H locs 0 0 (MQ below (va_Qi (fun v (_ : Unit) => v = Int32.ofInt r.2) (fun _ t => PostW D (TYs k) A (mW k g r.1) t) A) args s 0 0 A) (F0 m 148 ls []) := by
  rw [r_sounds_148] at hm
  refine lv_iconst (v := Int32.ofInt 0) C.1 C.2.1 dX12_sounds_148 (by decide) ?_
  refine lv_istore (lv' := [(6, .int (Int32.ofInt 0)), (0, .ref (g 0)), (1, .int (Int32.ofInt x1)), (2, .int (Int32.ofInt x2)), (5, .int (Int32.ofInt x5))]) C.1 C.2.1 dX12_sounds_149 hl (by decide) rfl (fun ls hl => ?_)
  refine lv_aload_n C.1 C.2.1 dX12_sounds_151 rfl (lv_at hl 1 rfl) ?_
  refine fg_100 C h dX12_sounds_152 ?_
  refine lv_iload_n C.1 C.2.1 dX12_sounds_155 rfl (lv_at hl 2 rfl) ?_
  obtain ⟨g24, hm⟩ := grd_s hm
  refine al_39 C h dX12_sounds_156 g24 ?_
  obtain ⟨v25, e26, hm⟩ := bnd_s hm
  rw [e26]
  refine lv_istore (lv' := [(7, .int (Int32.ofInt v25)), (6, .int (Int32.ofInt 0)), (0, .ref (g 0)), (1, .int (Int32.ofInt x1)), (2, .int (Int32.ofInt x2)), (5, .int (Int32.ofInt x5))]) C.1 C.2.1 dX12_sounds_157 hl (by decide) rfl (fun ls hl => ?_)
  exact lm_sounds_159 (N := N) C hr hlk  N (lv_sub hl [2, 3, 4, 5, 1, 0] rfl) h hm
set_option maxHeartbeats 4000000 in
set_option maxRecDepth 100000 in
theorem lm_sounds_121 {r : St × Int} (C : Cx p s m args c cX12_sounds RX12 (cd :: rW) D (TYs k) 8) (hr : meth.sig.returnType = (some .boolean)) (hlk : meth.locks = false)  {ls : Array Slot} {H : Heap} {locs : List Loc} {σ : St} {x1 : Int} {x2 : Int} {x5 : Int} (hl : lv_has ls 8 [(0, .ref (g 0)), (1, .int (Int32.ofInt x1)), (2, .int (Int32.ofInt x2)), (5, .int (Int32.ofInt x5))]) (h : Hp D A s.heap H locs (mW k g σ)) (hm : r_sounds_121 N  σ x1 x2 x5 = some r) : W p l e { frames := 2, cells := 0, slots := 0, locals := 56 } s m args below meth c H locs 0 0 (MQ below (va_Qi (fun v (_ : Unit) => v = Int32.ofInt r.2) (fun _ t => PostW D (TYs k) A (mW k g r.1) t) A) args s 0 0 A) (F0 m 121 ls []) := by
  rw [r_sounds_121] at hm
  refine lv_aload_n C.1 C.2.1 dX12_sounds_121 rfl (lv_at hl 0 rfl) ?_
  refine lv_iload_n C.1 C.2.1 dX12_sounds_122 rfl (lv_at hl 1 rfl) ?_
  refine lv_iload_n C.1 C.2.1 dX12_sounds_123 rfl (lv_at hl 2 rfl) ?_
  obtain ⟨r21, e22, hm⟩ := obd_s hm
  refine q_callVv C h (rc_find l D k g N σ x1 x2 r21 e22) (cwV 2 C.2.2.1 (gR_find _) rfl rfl rfl hd_find ⟨Nat.le_of_ble_eq_true rfl, Nat.le_of_ble_eq_true rfl⟩) rfl hl.1 rfl (Nat.le_of_ble_eq_true rfl) dX12_sounds_124 ⟨Nat.le_of_ble_eq_true rfl, Nat.le_of_ble_eq_true rfl⟩ (fun H locs h => ?_)
  refine lv_aload_n C.1 C.2.1 dX12_sounds_127 rfl (lv_at hl 0 rfl) ?_
  refine lv_aload_n C.1 C.2.1 dX12_sounds_128 rfl (lv_at hl 0 rfl) ?_
  refine fg_104 C h dX12_sounds_129 ?_
  refine lv_iload_n C.1 C.2.1 dX12_sounds_132 rfl (lv_at hl 1 rfl) ?_
  obtain ⟨g23, hm⟩ := grd_s hm
  refine al_35 C h dX12_sounds_133 g23 ?_
  refine z_l2i C dX12_sounds_134 ?_
  refine fp_84 C h dX12_sounds_135 (fun H locs h => ?_)
  refine lv_aload_n C.1 C.2.1 dX12_sounds_138 rfl (lv_at hl 0 rfl) ?_
  refine fg_105 C h dX12_sounds_139 ?_
  refine lv_iload_n C.1 C.2.1 dX12_sounds_142 rfl (lv_at hl 1 rfl) ?_
  refine lv_dup2_11 C.1 C.2.1 dX12_sounds_143 rfl rfl ?_
  refine al_34 C h dX12_sounds_144 g23 ?_
  refine x_topl (y := Int64.ofInt (el r21 34 x1)) rfl ?_
  refine lv_lconst (v := Int64.ofInt 1) C.1 C.2.1 dX12_sounds_145 (by decide) ?_
  refine z_lsub C dX12_sounds_146 ?_
  refine as_34 C h dX12_sounds_147 g23 (fun H locs h => ?_)
  exact lm_sounds_148 (N := N) C hr hlk  (lv_sub hl [0, 1, 2, 3] rfl) h hm
set_option maxHeartbeats 4000000 in
set_option maxRecDepth 100000 in
theorem lm_sounds_16 {r : St × Int} (C : Cx p s m args c cX12_sounds RX12 (cd :: rW) D (TYs k) 8) (hr : meth.sig.returnType = (some .boolean)) (hlk : meth.locks = false)  {ls : Array Slot} {H : Heap} {locs : List Loc} {σ : St} {x1 : Int} {x2 : Int} {x3 : Int} {s0 : Int} (hl : lv_has ls 8 [(0, .ref (g 0)), (1, .int (Int32.ofInt x1)), (2, .int (Int32.ofInt x2)), (3, .long (Int64.ofInt x3))]) (h : Hp D A s.heap H locs (mW k g σ)) (hm : r_sounds_16 N  σ x1 x2 x3 s0 = some r) : W p l e { frames := 2, cells := 0, slots := 0, locals := 56 } s m args below meth c H locs 0 0 (MQ below (va_Qi (fun v (_ : Unit) => v = Int32.ofInt r.2) (fun _ t => PostW D (TYs k) A (mW k g r.1) t) A) args s 0 0 A) (F0 m 16 ls [.int (Int32.ofInt s0)]) := by
  rw [r_sounds_16] at hm
  refine lv_istore (lv' := [(5, .int (Int32.ofInt s0)), (0, .ref (g 0)), (1, .int (Int32.ofInt x1)), (2, .int (Int32.ofInt x2)), (3, .long (Int64.ofInt x3))]) C.1 C.2.1 dX12_sounds_16 hl (by decide) rfl (fun ls hl => ?_)
  refine lv_aload_n C.1 C.2.1 dX12_sounds_18 rfl (lv_at hl 1 rfl) ?_
  refine fg_99 C h dX12_sounds_19 ?_
  refine lv_iload_n C.1 C.2.1 dX12_sounds_22 rfl (lv_at hl 2 rfl) ?_
  obtain ⟨g4, hm⟩ := grd_s hm
  refine al_40 C h dX12_sounds_23 g4 ?_
  obtain ⟨g5, hm⟩ := grd_s hm
  refine z_if_ne (tgt := 37) C dX12_sounds_24 (by decide) g5 (fun c6 => ?_) (fun c6 => ?_)
  · have hm := ite_f c6 hm
    refine lv_aload_n C.1 C.2.1 dX12_sounds_37 rfl (lv_at hl 1 rfl) ?_
    refine fg_102 C h dX12_sounds_38 ?_
    refine lv_iload_n C.1 C.2.1 dX12_sounds_41 rfl (lv_at hl 2 rfl) ?_
    refine al_37 C h dX12_sounds_42 g4 ?_
    refine lv_iload C.1 C.2.1 dX12_sounds_43 (lv_at hl 0 rfl) ?_
    obtain ⟨g7, hm⟩ := grd_s hm
    obtain ⟨g8, hm⟩ := grd_s hm
    refine z_icmp_ne (tgt := 121) C dX12_sounds_45 (by decide) g7 g8 (fun c9 => ?_) (fun c9 => ?_)
    · have hm := ite_f c9 hm
      exact lm_sounds_121 (N := N) C hr hlk  (lv_sub hl [1, 2, 3, 0] rfl) h hm
    · have hm := ite_t c9 hm
      refine lv_aload_n C.1 C.2.1 dX12_sounds_48 rfl (lv_at hl 1 rfl) ?_
      refine fg_103 C h dX12_sounds_49 ?_
      refine lv_iload_n C.1 C.2.1 dX12_sounds_52 rfl (lv_at hl 2 rfl) ?_
      refine al_36 C h dX12_sounds_53 g4 ?_
      obtain ⟨g10, hm⟩ := grd_s hm
      refine z_if_ne (tgt := 121) C dX12_sounds_54 (by decide) g10 (fun c11 => ?_) (fun c11 => ?_)
      · have hm := ite_f c11 hm
        exact lm_sounds_121 (N := N) C hr hlk  (lv_sub hl [1, 2, 3, 0] rfl) h hm
      · have hm := ite_t c11 hm
        refine lv_aload_n C.1 C.2.1 dX12_sounds_57 rfl (lv_at hl 1 rfl) ?_
        refine lv_iload_n C.1 C.2.1 dX12_sounds_58 rfl (lv_at hl 2 rfl) ?_
        refine lv_iload_n C.1 C.2.1 dX12_sounds_59 rfl (lv_at hl 3 rfl) ?_
        obtain ⟨r12, e13, hm⟩ := obd_s hm
        refine q_callVv C h (rc_beginSounds l D k g N σ x1 x2 r12 e13) (cwV 2 C.2.2.1 (gR_beginSounds _) rfl rfl rfl hd_beginSounds ⟨Nat.le_of_ble_eq_true rfl, Nat.le_of_ble_eq_true rfl⟩) rfl hl.1 rfl (Nat.le_of_ble_eq_true rfl) dX12_sounds_60 ⟨Nat.le_of_ble_eq_true rfl, Nat.le_of_ble_eq_true rfl⟩ (fun H locs h => ?_)
        refine lv_aload_n C.1 C.2.1 dX12_sounds_63 rfl (lv_at hl 1 rfl) ?_
        refine fg_105 C h dX12_sounds_64 ?_
        refine lv_iload_n C.1 C.2.1 dX12_sounds_67 rfl (lv_at hl 2 rfl) ?_
        refine lv_lload_n C.1 C.2.1 dX12_sounds_68 rfl (lv_at hl 4 rfl) ?_
        refine as_34 C h dX12_sounds_69 g4 (fun H locs h => ?_)
        refine lv_aload_n C.1 C.2.1 dX12_sounds_70 rfl (lv_at hl 1 rfl) ?_
        refine fg_106 C h dX12_sounds_71 ?_
        refine lv_iload_n C.1 C.2.1 dX12_sounds_74 rfl (lv_at hl 2 rfl) ?_
        refine lv_lload_n C.1 C.2.1 dX12_sounds_75 rfl (lv_at hl 4 rfl) ?_
        refine lv_aload_n C.1 C.2.1 dX12_sounds_76 rfl (lv_at hl 1 rfl) ?_
        refine fg_58 C h dX12_sounds_77 ?_
        refine lv_aload_n C.1 C.2.1 dX12_sounds_80 rfl (lv_at hl 1 rfl) ?_
        refine fg_62 C h dX12_sounds_81 ?_
        refine lv_aload_n C.1 C.2.1 dX12_sounds_84 rfl (lv_at hl 1 rfl) ?_
        refine fg_54 C h dX12_sounds_85 ?_
        refine lv_iload_n C.1 C.2.1 dX12_sounds_88 rfl (lv_at hl 3 rfl) ?_
        obtain ⟨g14, hm⟩ := grd_s hm
        refine al_65 C h dX12_sounds_89 g14 ?_
        refine x_topi (y := Int32.ofInt (el r12 65 x2)) rfl ?_
        refine lv_iconst (v := Int32.ofInt 1) C.1 C.2.1 dX12_sounds_90 (by decide) ?_
        refine z_iadd C dX12_sounds_91 ?_
        refine lv_iload C.1 C.2.1 dX12_sounds_92 (lv_at hl 0 rfl) ?_
        refine z_isub C dX12_sounds_94 ?_
        obtain ⟨g15, hm⟩ := grd_s hm
        refine al_58 C h dX12_sounds_95 g15 ?_
        refine x_topi (y := Int32.ofInt (el r12 58 (((el r12 65 x2) + 1) - s0))) rfl ?_
        obtain ⟨g16, hm⟩ := grd_s hm
        refine al_61 C h dX12_sounds_96 g16 ?_
        refine x_topi (y := Int32.ofInt (el r12 61 (el r12 58 (((el r12 65 x2) + 1) - s0)))) rfl ?_
        obtain ⟨g17, hm⟩ := grd_s hm
        refine z_i2l C dX12_sounds_97 g17 ?_
        refine z_lsub C dX12_sounds_98 ?_
        refine as_33 C h dX12_sounds_99 g4 (fun H locs h => ?_)
        refine lv_aload_n C.1 C.2.1 dX12_sounds_100 rfl (lv_at hl 1 rfl) ?_
        refine fg_103 C h dX12_sounds_101 ?_
        refine lv_iload_n C.1 C.2.1 dX12_sounds_104 rfl (lv_at hl 2 rfl) ?_
        refine lv_iconst (v := Int32.ofInt 1) C.1 C.2.1 dX12_sounds_105 (by decide) ?_
        refine as_36 C h dX12_sounds_106 g4 (fun H locs h => ?_)
        refine lv_aload_n C.1 C.2.1 dX12_sounds_107 rfl (lv_at hl 1 rfl) ?_
        refine fg_104 C h dX12_sounds_108 ?_
        refine lv_iload_n C.1 C.2.1 dX12_sounds_111 rfl (lv_at hl 2 rfl) ?_
        refine lv_aload_n C.1 C.2.1 dX12_sounds_112 rfl (lv_at hl 1 rfl) ?_
        refine fg_84 C h dX12_sounds_113 ?_
        refine x_topi (y := Int32.ofInt (fl r12 84 0)) rfl ?_
        obtain ⟨g18, hm⟩ := grd_s hm
        refine z_i2l C dX12_sounds_116 g18 ?_
        refine as_35 C h dX12_sounds_117 g4 (fun H locs h => ?_)
        refine lv_goto (tgt := 148) C.1 C.2.1 dX12_sounds_118 (by decide) ?_
        exact lm_sounds_148 (N := N) C hr hlk  (lv_sub hl [1, 2, 3, 0] rfl) h hm
  · have hm := ite_t c6 hm
    refine lv_aload_n C.1 C.2.1 dX12_sounds_27 rfl (lv_at hl 1 rfl) ?_
    refine lv_iload_n C.1 C.2.1 dX12_sounds_28 rfl (lv_at hl 2 rfl) ?_
    refine lv_iload C.1 C.2.1 dX12_sounds_29 (lv_at hl 0 rfl) ?_
    refine lv_lload_n C.1 C.2.1 dX12_sounds_31 rfl (lv_at hl 4 rfl) ?_
    obtain ⟨r19, e20, hm⟩ := obd_s hm
    refine q_callVv C h (rc_callKid l D k g N σ x1 s0 x3 r19 e20) (cwV 3 C.2.2.1 (gR_callKid _) rfl rfl rfl hd_callKid ⟨Nat.le_of_ble_eq_true rfl, Nat.le_of_ble_eq_true rfl⟩) rfl hl.1 rfl (Nat.le_of_ble_eq_true rfl) dX12_sounds_32 ⟨Nat.le_of_ble_eq_true rfl, Nat.le_of_ble_eq_true rfl⟩ (fun H locs h => ?_)
    refine lv_iconst (v := Int32.ofInt 1) C.1 C.2.1 dX12_sounds_35 (by decide) ?_
    cases hm
    exact q_iret C h hr hlk dX12_sounds_36 rfl
set_option maxHeartbeats 4000000 in
set_option maxRecDepth 100000 in
theorem rc_sounds (l : Launch) (D : va_G) (k : Nat → ClassId) (g : Nat → Nat) (N : Nat) (σ : St) (x1 : Int) (x2 : Int) (x3 : Int) (r : St × Int) (hm : r_sounds N σ x1 x2 x3 = some r) : Mi l yX12_sounds (.code yX12_sounds cX12_sounds 8 (some .boolean) :: rW) { frames := 2, cells := 0, slots := 0, locals := 56 } [.ref (g 0), .int (Int32.ofInt x1), .int (Int32.ofInt x2), .long (Int64.ofInt x3)] D (TYs k) (mW k g σ) (fun _ => True) Unit (fun v _ => v = Int32.ofInt r.2) (fun _ => mW k g r.1) 0 0 := by
  intro sz
  refine x_met (cc := cX12_sounds) (maxL := 8) (ret := (some .boolean)) (by decide) rfl (Nat.le_of_ble_eq_true rfl) ?_
  intro p e s m below meth c ls C hX hsz hr hlk hmn hl h
  have hl : lv_has ls 8 [(0, .ref (g 0)), (1, .int (Int32.ofInt x1)), (2, .int (Int32.ofInt x2)), (3, .long (Int64.ofInt x3))] := hl
  rw [r_sounds] at hm
  refine lv_aload_n C.1 C.2.1 dX12_sounds_0 rfl (lv_at hl 0 rfl) ?_
  refine fg_49 C h dX12_sounds_1 ?_
  refine lv_iload_n C.1 C.2.1 dX12_sounds_4 rfl (lv_at hl 2 rfl) ?_
  obtain ⟨g1, hm⟩ := grd_s hm
  refine al_70 C h dX12_sounds_5 g1 ?_
  refine lv_bipush (v := Int32.ofInt 24) C.1 C.2.1 dX12_sounds_6 (by decide) ?_
  obtain ⟨g2, hm⟩ := grd_s hm
  refine z_icmp_ne (tgt := 15) C dX12_sounds_8 (by decide) g2 (by decide) (fun c3 => ?_) (fun c3 => ?_)
  · have hm := ite_f c3 hm
    refine lv_iconst (v := Int32.ofInt 0) C.1 C.2.1 dX12_sounds_15 (by decide) ?_
    exact lm_sounds_16 (N := N) C hr hlk  (lv_sub hl [0, 1, 2, 3] rfl) h hm
  · have hm := ite_t c3 hm
    refine lv_iconst (v := Int32.ofInt 1) C.1 C.2.1 dX12_sounds_11 (by decide) ?_
    refine lv_goto (tgt := 16) C.1 C.2.1 dX12_sounds_12 (by decide) ?_
    exact lm_sounds_16 (N := N) C hr hlk  (lv_sub hl [0, 1, 2, 3] rfl) h hm
end L_sounds
section L_spreads
variable {p : Program} {l : Launch} {e : Env} {s : State} {m : MethodId} {args : Array Value} {below : List Frame} {meth : Method} {c : Code} {D : va_G} {A : Nat → Prop} {k : Nat → ClassId} {g : Nat → Nat} {N : Nat} {cd : Cond}
set_option maxHeartbeats 4000000 in
set_option maxRecDepth 100000 in
theorem lm_spreads_152 {r : St × Int} (C : Cx p s m args c cX12_spreads RX12 (cd :: rW) D (TYs k) 10) (hr : meth.sig.returnType = (some .boolean)) (hlk : meth.locks = false)  {ls : Array Slot} {H : Heap} {locs : List Loc} {σ : St} {x1 : Int} {x3 : Int} {x5 : Int} (hl : lv_has ls 10 [(0, .ref (g 0)), (1, .int (Int32.ofInt x1)), (3, .long (Int64.ofInt x3)), (5, .int (Int32.ofInt x5))]) (h : Hp D A s.heap H locs (mW k g σ)) (hm : r_spreads_152 N  σ x1 x3 x5 = some r) : W p l e { frames := 2, cells := 0, slots := 0, locals := 48 } s m args below meth c H locs 0 0 (MQ below (va_Qi (fun v (_ : Unit) => v = Int32.ofInt r.2) (fun _ t => PostW D (TYs k) A (mW k g r.1) t) A) args s 0 0 A) (F0 m 152 ls []) := by
  rw [r_spreads_152] at hm
  refine lv_aload_n C.1 C.2.1 dX12_spreads_152 rfl (lv_at hl 0 rfl) ?_
  refine fg_103 C h dX12_spreads_153 ?_
  refine lv_iload_n C.1 C.2.1 dX12_spreads_156 rfl (lv_at hl 1 rfl) ?_
  obtain ⟨g37, hm⟩ := grd_s hm
  refine al_36 C h dX12_spreads_157 g37 ?_
  refine lv_iload C.1 C.2.1 dX12_spreads_158 (lv_at hl 3 rfl) ?_
  obtain ⟨g38, hm⟩ := grd_s hm
  obtain ⟨g39, hm⟩ := grd_s hm
  refine z_icmp_ne (tgt := 165) C dX12_spreads_160 (by decide) g38 g39 (fun c40 => ?_) (fun c40 => ?_)
  · have hm := ite_f c40 hm
    refine lv_aload_n C.1 C.2.1 dX12_spreads_165 rfl (lv_at hl 0 rfl) ?_
    refine lv_iload_n C.1 C.2.1 dX12_spreads_166 rfl (lv_at hl 1 rfl) ?_
    refine lv_iconst (v := Int32.ofInt 0) C.1 C.2.1 dX12_spreads_167 (by decide) ?_
    refine lv_lload_n C.1 C.2.1 dX12_spreads_168 rfl (lv_at hl 2 rfl) ?_
    obtain ⟨r41, e42, hm⟩ := obd_s hm
    refine q_callVv C h (rc_callKid l D k g N σ x1 0 x3 r41 e42) (cwV 3 C.2.2.1 (gR_callKid _) rfl rfl rfl hd_callKid ⟨Nat.le_of_ble_eq_true rfl, Nat.le_of_ble_eq_true rfl⟩) rfl hl.1 rfl (Nat.le_of_ble_eq_true rfl) dX12_spreads_169 ⟨Nat.le_of_ble_eq_true rfl, Nat.le_of_ble_eq_true rfl⟩ (fun H locs h => ?_)
    refine lv_iconst (v := Int32.ofInt 1) C.1 C.2.1 dX12_spreads_172 (by decide) ?_
    cases hm
    exact q_iret C h hr hlk dX12_spreads_173 rfl
  · have hm := ite_t c40 hm
    refine lv_iconst (v := Int32.ofInt 0) C.1 C.2.1 dX12_spreads_163 (by decide) ?_
    cases hm
    exact q_iret C h hr hlk dX12_spreads_164 rfl
set_option maxHeartbeats 4000000 in
set_option maxRecDepth 100000 in
theorem lm_spreads_93 {r : St × Int} (C : Cx p s m args c cX12_spreads RX12 (cd :: rW) D (TYs k) 10) (hr : meth.sig.returnType = (some .boolean)) (hlk : meth.locks = false)  (n : Nat) : ∀ {ls : Array Slot} {H : Heap} {locs : List Loc} {σ : St} {x1 : Int} {x2 : Int} {x3 : Int} {x5 : Int}, lv_has ls 10 [(0, .ref (g 0)), (1, .int (Int32.ofInt x1)), (2, .int (Int32.ofInt x2)), (3, .long (Int64.ofInt x3)), (5, .int (Int32.ofInt x5))] → Hp D A s.heap H locs (mW k g σ) → r_spreads_93 N  n σ x1 x2 x3 x5 = some r → W p l e { frames := 2, cells := 0, slots := 0, locals := 48 } s m args below meth c H locs 0 0 (MQ below (va_Qi (fun v (_ : Unit) => v = Int32.ofInt r.2) (fun _ t => PostW D (TYs k) A (mW k g r.1) t) A) args s 0 0 A) (F0 m 93 ls []) := by
  induction n with
  | zero => intro ls H locs σ x1 x2 x3 x5 hl h hm; cases (show none = some r from hm)
  | succ n hrec93 =>
    intro ls H locs σ x1 x2 x3 x5 hl h hm
    rw [r_spreads_93] at hm
    refine lv_aload_n C.1 C.2.1 dX12_spreads_93 rfl (lv_at hl 0 rfl) ?_
    refine fg_103 C h dX12_spreads_94 ?_
    refine lv_iload_n C.1 C.2.1 dX12_spreads_97 rfl (lv_at hl 1 rfl) ?_
    obtain ⟨g26, hm⟩ := grd_s hm
    refine al_36 C h dX12_spreads_98 g26 ?_
    refine lv_iload C.1 C.2.1 dX12_spreads_99 (lv_at hl 4 rfl) ?_
    obtain ⟨g27, hm⟩ := grd_s hm
    obtain ⟨g28, hm⟩ := grd_s hm
    refine z_icmp_ge (tgt := 152) C dX12_spreads_101 (by decide) g27 g28 (fun c29 => ?_) (fun c29 => ?_)
    · have hm := ite_f c29 hm
      exact lm_spreads_152 (N := N) C hr hlk  (lv_sub hl [0, 1, 3, 4] rfl) h hm
    · have hm := ite_t c29 hm
      refine lv_aload_n C.1 C.2.1 dX12_spreads_104 rfl (lv_at hl 0 rfl) ?_
      refine fg_103 C h dX12_spreads_105 ?_
      refine lv_iload_n C.1 C.2.1 dX12_spreads_108 rfl (lv_at hl 1 rfl) ?_
      refine al_36 C h dX12_spreads_109 g26 ?_
      refine lv_aload_n C.1 C.2.1 dX12_spreads_110 rfl (lv_at hl 0 rfl) ?_
      refine fg_52 C h dX12_spreads_111 ?_
      refine lv_iload_n C.1 C.2.1 dX12_spreads_114 rfl (lv_at hl 2 rfl) ?_
      obtain ⟨g30, hm⟩ := grd_s hm
      refine al_67 C h dX12_spreads_115 g30 ?_
      refine z_iadd C dX12_spreads_116 ?_
      refine lv_iload C.1 C.2.1 dX12_spreads_117 (lv_at hl 4 rfl) ?_
      obtain ⟨g31, hm⟩ := grd_s hm
      obtain ⟨g32, hm⟩ := grd_s hm
      refine z_irem C dX12_spreads_119 g31 g28 g32 ?_
      refine lv_aload_n C.1 C.2.1 dX12_spreads_120 rfl (lv_at hl 0 rfl) ?_
      refine fg_50 C h dX12_spreads_121 ?_
      refine lv_iload_n C.1 C.2.1 dX12_spreads_124 rfl (lv_at hl 2 rfl) ?_
      refine al_69 C h dX12_spreads_125 g30 ?_
      refine z_imul C dX12_spreads_126 ?_
      refine lv_iload C.1 C.2.1 dX12_spreads_127 (lv_at hl 4 rfl) ?_
      obtain ⟨g33, hm⟩ := grd_s hm
      refine z_irem C dX12_spreads_129 g33 g28 g32 ?_
      refine lv_aload_n C.1 C.2.1 dX12_spreads_130 rfl (lv_at hl 0 rfl) ?_
      refine fg_50 C h dX12_spreads_131 ?_
      refine lv_iload_n C.1 C.2.1 dX12_spreads_134 rfl (lv_at hl 2 rfl) ?_
      refine al_69 C h dX12_spreads_135 g30 ?_
      obtain ⟨g34, hm⟩ := grd_s hm
      obtain ⟨g35, hm⟩ := grd_s hm
      refine z_icmp_lt (tgt := 152) C dX12_spreads_136 (by decide) g34 g35 (fun c36 => ?_) (fun c36 => ?_)
      · have hm := ite_t c36 hm
        exact lm_spreads_152 (N := N) C hr hlk  (lv_sub hl [0, 1, 3, 4] rfl) h hm
      · have hm := ite_f c36 hm
        refine lv_aload_n C.1 C.2.1 dX12_spreads_139 rfl (lv_at hl 0 rfl) ?_
        refine fg_103 C h dX12_spreads_140 ?_
        refine lv_iload_n C.1 C.2.1 dX12_spreads_143 rfl (lv_at hl 1 rfl) ?_
        refine lv_dup2_11 C.1 C.2.1 dX12_spreads_144 rfl rfl ?_
        refine al_36 C h dX12_spreads_145 g26 ?_
        refine lv_iconst (v := Int32.ofInt 1) C.1 C.2.1 dX12_spreads_146 (by decide) ?_
        refine z_iadd C dX12_spreads_147 ?_
        refine as_36 C h dX12_spreads_148 g26 (fun H locs h => ?_)
        refine lv_goto (tgt := 93) C.1 C.2.1 dX12_spreads_149 (by decide) ?_
        exact hrec93 (lv_sub hl [0, 1, 2, 3, 4] rfl) h hm
set_option maxHeartbeats 4000000 in
set_option maxRecDepth 100000 in
theorem rc_spreads (l : Launch) (D : va_G) (k : Nat → ClassId) (g : Nat → Nat) (N : Nat) (σ : St) (x1 : Int) (x2 : Int) (x3 : Int) (r : St × Int) (hm : r_spreads N σ x1 x2 x3 = some r) : Mi l yX12_spreads (.code yX12_spreads cX12_spreads 10 (some .boolean) :: rW) { frames := 2, cells := 0, slots := 0, locals := 48 } [.ref (g 0), .int (Int32.ofInt x1), .int (Int32.ofInt x2), .long (Int64.ofInt x3)] D (TYs k) (mW k g σ) (fun _ => True) Unit (fun v _ => v = Int32.ofInt r.2) (fun _ => mW k g r.1) 0 0 := by
  intro sz
  refine x_met (cc := cX12_spreads) (maxL := 10) (ret := (some .boolean)) (by decide) rfl (Nat.le_of_ble_eq_true rfl) ?_
  intro p e s m below meth c ls C hX hsz hr hlk hmn hl h
  have hl : lv_has ls 10 [(0, .ref (g 0)), (1, .int (Int32.ofInt x1)), (2, .int (Int32.ofInt x2)), (3, .long (Int64.ofInt x3))] := hl
  rw [r_spreads] at hm
  refine lv_aload_n C.1 C.2.1 dX12_spreads_0 rfl (lv_at hl 0 rfl) ?_
  refine fg_51 C h dX12_spreads_1 ?_
  refine lv_iload_n C.1 C.2.1 dX12_spreads_4 rfl (lv_at hl 2 rfl) ?_
  obtain ⟨g1, hm⟩ := grd_s hm
  refine al_68 C h dX12_spreads_5 g1 ?_
  obtain ⟨v2, e3, hm⟩ := bnd_s hm
  rw [e3]
  refine lv_istore (lv' := [(5, .int (Int32.ofInt v2)), (0, .ref (g 0)), (1, .int (Int32.ofInt x1)), (2, .int (Int32.ofInt x2)), (3, .long (Int64.ofInt x3))]) C.1 C.2.1 dX12_spreads_6 hl (by decide) rfl (fun ls hl => ?_)
  refine lv_aload_n C.1 C.2.1 dX12_spreads_8 rfl (lv_at hl 1 rfl) ?_
  refine fg_56 C h dX12_spreads_9 ?_
  refine lv_iload_n C.1 C.2.1 dX12_spreads_12 rfl (lv_at hl 3 rfl) ?_
  refine al_63 C h dX12_spreads_13 g1 ?_
  refine lv_iload C.1 C.2.1 dX12_spreads_14 (lv_at hl 0 rfl) ?_
  obtain ⟨g4, hm⟩ := grd_s hm
  obtain ⟨g5, hm⟩ := grd_s hm
  obtain ⟨g6, hm⟩ := grd_s hm
  refine z_idiv C dX12_spreads_16 g4 g5 g6 ?_
  obtain ⟨g7, hm⟩ := grd_s hm
  refine z_i2l C dX12_spreads_17 g7 ?_
  obtain ⟨v8, e9, hm⟩ := bnd_s hm
  rw [e9]
  refine lv_lstore (lv' := [(6, .long (Int64.ofInt v8)), (5, .int (Int32.ofInt v2)), (0, .ref (g 0)), (1, .int (Int32.ofInt x1)), (2, .int (Int32.ofInt x2)), (3, .long (Int64.ofInt x3))]) C.1 C.2.1 dX12_spreads_18 hl (by decide) rfl (fun ls hl => ?_)
  refine lv_aload_n C.1 C.2.1 dX12_spreads_20 rfl (lv_at hl 2 rfl) ?_
  refine fg_99 C h dX12_spreads_21 ?_
  refine lv_iload_n C.1 C.2.1 dX12_spreads_24 rfl (lv_at hl 3 rfl) ?_
  obtain ⟨g10, hm⟩ := grd_s hm
  refine al_40 C h dX12_spreads_25 g10 ?_
  refine lv_iconst (v := Int32.ofInt 1) C.1 C.2.1 dX12_spreads_26 (by decide) ?_
  obtain ⟨g11, hm⟩ := grd_s hm
  refine z_icmp_ne (tgt := 93) C dX12_spreads_27 (by decide) g11 (by decide) (fun c12 => ?_) (fun c12 => ?_)
  · have hm := ite_f c12 hm
    exact lm_spreads_93 (N := N) C hr hlk  N (lv_sub hl [2, 3, 4, 5, 1] rfl) h hm
  · have hm := ite_t c12 hm
    refine lv_lload C.1 C.2.1 dX12_spreads_30 (lv_at hl 0 rfl) ?_
    refine lv_aload_n C.1 C.2.1 dX12_spreads_32 rfl (lv_at hl 2 rfl) ?_
    refine lv_iload_n C.1 C.2.1 dX12_spreads_33 rfl (lv_at hl 3 rfl) ?_
    obtain ⟨r13, e14, hm⟩ := obd_s hm
    refine q_callVl C h (rc_grainOf l D k g N σ x1 r13 e14) (cwV 1 C.2.2.1 (gR_grainOf _) rfl rfl rfl hd_grainOf ⟨Nat.le_of_ble_eq_true rfl, Nat.le_of_ble_eq_true rfl⟩) rfl hl.1 rfl (Nat.le_of_ble_eq_true rfl) dX12_spreads_34 ⟨Nat.le_of_ble_eq_true rfl, Nat.le_of_ble_eq_true rfl⟩ (fun H locs h => ?_)
    obtain ⟨g15, hm⟩ := grd_s hm
    obtain ⟨g16, hm⟩ := grd_s hm
    obtain ⟨g17, hm⟩ := grd_s hm
    refine z_ldiv C dX12_spreads_37 g15 g16 g17 ?_
    obtain ⟨v18, e19, hm⟩ := bnd_s hm
    rw [e19]
    refine lv_lstore (lv' := [(8, .long (Int64.ofInt v18)), (6, .long (Int64.ofInt v8)), (5, .int (Int32.ofInt v2)), (0, .ref (g 0)), (1, .int (Int32.ofInt x1)), (2, .int (Int32.ofInt x2)), (3, .long (Int64.ofInt x3))]) C.1 C.2.1 dX12_spreads_38 hl (by decide) rfl (fun ls hl => ?_)
    refine lv_aload_n C.1 C.2.1 dX12_spreads_40 rfl (lv_at hl 3 rfl) ?_
    refine lv_aload_n C.1 C.2.1 dX12_spreads_41 rfl (lv_at hl 3 rfl) ?_
    refine fg_101 C h dX12_spreads_42 ?_
    refine lv_iload_n C.1 C.2.1 dX12_spreads_45 rfl (lv_at hl 4 rfl) ?_
    refine al_38 C h dX12_spreads_46 g10 ?_
    refine lv_lload C.1 C.2.1 dX12_spreads_47 (lv_at hl 0 rfl) ?_
    refine lv_lload_n C.1 C.2.1 dX12_spreads_49 rfl (lv_at hl 6 rfl) ?_
    refine lv_aload_n C.1 C.2.1 dX12_spreads_50 rfl (lv_at hl 3 rfl) ?_
    refine fg_56 C h dX12_spreads_51 ?_
    refine lv_iload_n C.1 C.2.1 dX12_spreads_54 rfl (lv_at hl 5 rfl) ?_
    refine al_63 C h dX12_spreads_55 g1 ?_
    obtain ⟨g20, hm⟩ := grd_s hm
    refine z_i2l C dX12_spreads_56 g20 ?_
    refine z_lmul C dX12_spreads_57 ?_
    refine lv_aload_n C.1 C.2.1 dX12_spreads_58 rfl (lv_at hl 3 rfl) ?_
    refine fg_103 C h dX12_spreads_59 ?_
    refine lv_iload_n C.1 C.2.1 dX12_spreads_62 rfl (lv_at hl 4 rfl) ?_
    refine al_36 C h dX12_spreads_63 g10 ?_
    obtain ⟨g21, hm⟩ := grd_s hm
    refine z_i2l C dX12_spreads_64 g21 ?_
    refine lv_lload C.1 C.2.1 dX12_spreads_65 (lv_at hl 1 rfl) ?_
    refine z_lmul C dX12_spreads_67 ?_
    refine z_ladd C dX12_spreads_68 ?_
    refine lv_lload_n C.1 C.2.1 dX12_spreads_69 rfl (lv_at hl 6 rfl) ?_
    refine lv_aload_n C.1 C.2.1 dX12_spreads_70 rfl (lv_at hl 3 rfl) ?_
    refine lv_iload_n C.1 C.2.1 dX12_spreads_71 rfl (lv_at hl 4 rfl) ?_
    obtain ⟨r22, e23, hm⟩ := obd_s hm
    refine q_callVl C h (rc_grainOf l D k g N r13.1 x1 r22 e23) (cwV 1 C.2.2.1 (gR_grainOf _) rfl rfl rfl hd_grainOf ⟨Nat.le_of_ble_eq_true rfl, Nat.le_of_ble_eq_true rfl⟩) rfl hl.1 rfl (Nat.le_of_ble_eq_true rfl) dX12_spreads_72 ⟨Nat.le_of_ble_eq_true rfl, Nat.le_of_ble_eq_true rfl⟩ (fun H locs h => ?_)
    refine z_lmul C dX12_spreads_75 ?_
    refine lv_lload C.1 C.2.1 dX12_spreads_76 (lv_at hl 0 rfl) ?_
    refine z_lmul C dX12_spreads_78 ?_
    refine z_lsub C dX12_spreads_79 ?_
    obtain ⟨r24, e25, hm⟩ := obd_s hm
    refine q_callVv C h (rc_move l D k g N r22.1 (el r13.1 38 x1) v18 (((x3 * (el r13.1 63 x2)) + ((el r13.1 36 x1) * v8)) - ((x3 * r22.2) * v18)) r24 e25) (cwV 3 C.2.2.1 (gR_move _) rfl rfl rfl hd_move ⟨Nat.le_of_ble_eq_true rfl, Nat.le_of_ble_eq_true rfl⟩) rfl hl.1 rfl (Nat.le_of_ble_eq_true rfl) dX12_spreads_80 ⟨Nat.le_of_ble_eq_true rfl, Nat.le_of_ble_eq_true rfl⟩ (fun H locs h => ?_)
    refine lv_aload_n C.1 C.2.1 dX12_spreads_83 rfl (lv_at hl 3 rfl) ?_
    refine fg_103 C h dX12_spreads_84 ?_
    refine lv_iload_n C.1 C.2.1 dX12_spreads_87 rfl (lv_at hl 4 rfl) ?_
    refine lv_dup2_11 C.1 C.2.1 dX12_spreads_88 rfl rfl ?_
    refine al_36 C h dX12_spreads_89 g10 ?_
    refine lv_iconst (v := Int32.ofInt 1) C.1 C.2.1 dX12_spreads_90 (by decide) ?_
    refine z_iadd C dX12_spreads_91 ?_
    refine as_36 C h dX12_spreads_92 g10 (fun H locs h => ?_)
    exact lm_spreads_93 (N := N) C hr hlk  N (lv_sub hl [3, 4, 5, 6, 2] rfl) h hm
end L_spreads
section L_together
variable {p : Program} {l : Launch} {e : Env} {s : State} {m : MethodId} {args : Array Value} {below : List Frame} {meth : Method} {c : Code} {D : va_G} {A : Nat → Prop} {k : Nat → ClassId} {g : Nat → Nat} {N : Nat} {cd : Cond}
set_option maxHeartbeats 4000000 in
set_option maxRecDepth 100000 in
theorem lm_together_44 {r : St × Int} (C : Cx p s m args c cX12_together RX12 (cd :: rW) D (TYs k) 5) (hr : meth.sig.returnType = (some .boolean)) (hlk : meth.locks = false)  {ls : Array Slot} {H : Heap} {locs : List Loc} {σ : St} {x1 : Int} {x2 : Int} {x3 : Int} (hl : lv_has ls 5 [(0, .ref (g 0)), (1, .int (Int32.ofInt x1)), (2, .int (Int32.ofInt x2)), (3, .long (Int64.ofInt x3))]) (h : Hp D A s.heap H locs (mW k g σ)) (hm : r_together_44 N  σ x1 x2 x3 = some r) : W p l e { frames := 2, cells := 0, slots := 0, locals := 48 } s m args below meth c H locs 0 0 (MQ below (va_Qi (fun v (_ : Unit) => v = Int32.ofInt r.2) (fun _ t => PostW D (TYs k) A (mW k g r.1) t) A) args s 0 0 A) (F0 m 44 ls []) := by
  rw [r_together_44] at hm
  refine lv_aload_n C.1 C.2.1 dX12_together_44 rfl (lv_at hl 0 rfl) ?_
  refine fg_102 C h dX12_together_45 ?_
  refine lv_iload_n C.1 C.2.1 dX12_together_48 rfl (lv_at hl 1 rfl) ?_
  obtain ⟨g13, hm⟩ := grd_s hm
  refine al_37 C h dX12_together_49 g13 ?_
  refine lv_aload_n C.1 C.2.1 dX12_together_50 rfl (lv_at hl 0 rfl) ?_
  refine fg_55 C h dX12_together_51 ?_
  refine lv_iload_n C.1 C.2.1 dX12_together_54 rfl (lv_at hl 2 rfl) ?_
  obtain ⟨g14, hm⟩ := grd_s hm
  refine al_64 C h dX12_together_55 g14 ?_
  obtain ⟨g15, hm⟩ := grd_s hm
  obtain ⟨g16, hm⟩ := grd_s hm
  refine z_icmp_ge (tgt := 73) C dX12_together_56 (by decide) g15 g16 (fun c17 => ?_) (fun c17 => ?_)
  · have hm := ite_f c17 hm
    refine lv_aload_n C.1 C.2.1 dX12_together_73 rfl (lv_at hl 0 rfl) ?_
    refine lv_aload_n C.1 C.2.1 dX12_together_74 rfl (lv_at hl 0 rfl) ?_
    refine fg_100 C h dX12_together_75 ?_
    refine lv_iload_n C.1 C.2.1 dX12_together_78 rfl (lv_at hl 1 rfl) ?_
    refine al_39 C h dX12_together_79 g13 ?_
    obtain ⟨r18, e19, hm⟩ := obd_s hm
    refine q_callVv C h (rc_sort l D k g N σ (el σ 39 x1) r18 e19) (cwV 1 C.2.2.1 (gR_sort _) rfl rfl rfl hd_sort ⟨Nat.le_of_ble_eq_true rfl, Nat.le_of_ble_eq_true rfl⟩) rfl hl.1 rfl (Nat.le_of_ble_eq_true rfl) dX12_together_80 ⟨Nat.le_of_ble_eq_true rfl, Nat.le_of_ble_eq_true rfl⟩ (fun H locs h => ?_)
    refine lv_iconst (v := Int32.ofInt 0) C.1 C.2.1 dX12_together_83 (by decide) ?_
    cases hm
    exact q_iret C h hr hlk dX12_together_84 rfl
  · have hm := ite_t c17 hm
    refine lv_aload_n C.1 C.2.1 dX12_together_59 rfl (lv_at hl 0 rfl) ?_
    refine lv_iload_n C.1 C.2.1 dX12_together_60 rfl (lv_at hl 1 rfl) ?_
    refine lv_aload_n C.1 C.2.1 dX12_together_61 rfl (lv_at hl 0 rfl) ?_
    refine fg_102 C h dX12_together_62 ?_
    refine lv_iload_n C.1 C.2.1 dX12_together_65 rfl (lv_at hl 1 rfl) ?_
    refine al_37 C h dX12_together_66 g13 ?_
    refine lv_lload_n C.1 C.2.1 dX12_together_67 rfl (lv_at hl 3 rfl) ?_
    obtain ⟨r20, e21, hm⟩ := obd_s hm
    refine q_callVv C h (rc_callKid l D k g N σ x1 (el σ 37 x1) x3 r20 e21) (cwV 3 C.2.2.1 (gR_callKid _) rfl rfl rfl hd_callKid ⟨Nat.le_of_ble_eq_true rfl, Nat.le_of_ble_eq_true rfl⟩) rfl hl.1 rfl (Nat.le_of_ble_eq_true rfl) dX12_together_68 ⟨Nat.le_of_ble_eq_true rfl, Nat.le_of_ble_eq_true rfl⟩ (fun H locs h => ?_)
    refine lv_iconst (v := Int32.ofInt 1) C.1 C.2.1 dX12_together_71 (by decide) ?_
    cases hm
    exact q_iret C h hr hlk dX12_together_72 rfl
set_option maxHeartbeats 4000000 in
set_option maxRecDepth 100000 in
theorem rc_together (l : Launch) (D : va_G) (k : Nat → ClassId) (g : Nat → Nat) (N : Nat) (σ : St) (x1 : Int) (x2 : Int) (x3 : Int) (r : St × Int) (hm : r_together N σ x1 x2 x3 = some r) : Mi l yX12_together (.code yX12_together cX12_together 5 (some .boolean) :: rW) { frames := 2, cells := 0, slots := 0, locals := 48 } [.ref (g 0), .int (Int32.ofInt x1), .int (Int32.ofInt x2), .long (Int64.ofInt x3)] D (TYs k) (mW k g σ) (fun _ => True) Unit (fun v _ => v = Int32.ofInt r.2) (fun _ => mW k g r.1) 0 0 := by
  intro sz
  refine x_met (cc := cX12_together) (maxL := 5) (ret := (some .boolean)) (by decide) rfl (Nat.le_of_ble_eq_true rfl) ?_
  intro p e s m below meth c ls C hX hsz hr hlk hmn hl h
  have hl : lv_has ls 5 [(0, .ref (g 0)), (1, .int (Int32.ofInt x1)), (2, .int (Int32.ofInt x2)), (3, .long (Int64.ofInt x3))] := hl
  rw [r_together] at hm
  refine lv_aload_n C.1 C.2.1 dX12_together_0 rfl (lv_at hl 0 rfl) ?_
  refine fg_99 C h dX12_together_1 ?_
  refine lv_iload_n C.1 C.2.1 dX12_together_4 rfl (lv_at hl 1 rfl) ?_
  obtain ⟨g1, hm⟩ := grd_s hm
  refine al_40 C h dX12_together_5 g1 ?_
  refine lv_iconst (v := Int32.ofInt 1) C.1 C.2.1 dX12_together_6 (by decide) ?_
  obtain ⟨g2, hm⟩ := grd_s hm
  refine z_icmp_ne (tgt := 44) C dX12_together_7 (by decide) g2 (by decide) (fun c3 => ?_) (fun c3 => ?_)
  · have hm := ite_f c3 hm
    exact lm_together_44 (N := N) C hr hlk  (lv_sub hl [0, 1, 2, 3] rfl) h hm
  · have hm := ite_t c3 hm
    refine lv_aload_n C.1 C.2.1 dX12_together_10 rfl (lv_at hl 0 rfl) ?_
    refine lv_aload_n C.1 C.2.1 dX12_together_11 rfl (lv_at hl 0 rfl) ?_
    refine fg_101 C h dX12_together_12 ?_
    refine lv_iload_n C.1 C.2.1 dX12_together_15 rfl (lv_at hl 1 rfl) ?_
    refine al_38 C h dX12_together_16 g1 ?_
    refine lv_aload_n C.1 C.2.1 dX12_together_17 rfl (lv_at hl 0 rfl) ?_
    refine fg_56 C h dX12_together_18 ?_
    refine lv_iload_n C.1 C.2.1 dX12_together_21 rfl (lv_at hl 2 rfl) ?_
    obtain ⟨g4, hm⟩ := grd_s hm
    refine al_63 C h dX12_together_22 g4 ?_
    obtain ⟨g5, hm⟩ := grd_s hm
    refine z_i2l C dX12_together_23 g5 ?_
    refine lv_aload_n C.1 C.2.1 dX12_together_24 rfl (lv_at hl 0 rfl) ?_
    refine lv_iload_n C.1 C.2.1 dX12_together_25 rfl (lv_at hl 1 rfl) ?_
    obtain ⟨r6, e7, hm⟩ := obd_s hm
    refine q_callVl C h (rc_grainOf l D k g N σ x1 r6 e7) (cwV 1 C.2.2.1 (gR_grainOf _) rfl rfl rfl hd_grainOf ⟨Nat.le_of_ble_eq_true rfl, Nat.le_of_ble_eq_true rfl⟩) rfl hl.1 rfl (Nat.le_of_ble_eq_true rfl) dX12_together_26 ⟨Nat.le_of_ble_eq_true rfl, Nat.le_of_ble_eq_true rfl⟩ (fun H locs h => ?_)
    obtain ⟨g8, hm⟩ := grd_s hm
    obtain ⟨g9, hm⟩ := grd_s hm
    obtain ⟨g10, hm⟩ := grd_s hm
    refine z_ldiv C dX12_together_29 g8 g9 g10 ?_
    refine lv_lconst (v := Int64.ofInt 0) C.1 C.2.1 dX12_together_30 (by decide) ?_
    obtain ⟨r11, e12, hm⟩ := obd_s hm
    refine q_callVv C h (rc_move l D k g N r6.1 (el σ 38 x1) (Int.tdiv (el σ 63 x2) r6.2) 0 r11 e12) (cwV 3 C.2.2.1 (gR_move _) rfl rfl rfl hd_move ⟨Nat.le_of_ble_eq_true rfl, Nat.le_of_ble_eq_true rfl⟩) rfl hl.1 rfl (Nat.le_of_ble_eq_true rfl) dX12_together_31 ⟨Nat.le_of_ble_eq_true rfl, Nat.le_of_ble_eq_true rfl⟩ (fun H locs h => ?_)
    refine lv_aload_n C.1 C.2.1 dX12_together_34 rfl (lv_at hl 0 rfl) ?_
    refine fg_102 C h dX12_together_35 ?_
    refine lv_iload_n C.1 C.2.1 dX12_together_38 rfl (lv_at hl 1 rfl) ?_
    refine lv_dup2_11 C.1 C.2.1 dX12_together_39 rfl rfl ?_
    refine al_37 C h dX12_together_40 g1 ?_
    refine lv_iconst (v := Int32.ofInt 1) C.1 C.2.1 dX12_together_41 (by decide) ?_
    refine z_iadd C dX12_together_42 ?_
    refine as_37 C h dX12_together_43 g1 (fun H locs h => ?_)
    exact lm_together_44 (N := N) C hr hlk  (lv_sub hl [0, 1, 2, 3] rfl) h hm
end L_together
section L_turn
variable {p : Program} {l : Launch} {e : Env} {s : State} {m : MethodId} {args : Array Value} {below : List Frame} {meth : Method} {c : Code} {D : va_G} {A : Nat → Prop} {k : Nat → ClassId} {g : Nat → Nat} {N : Nat} {cd : Cond}
set_option maxHeartbeats 4000000 in
set_option maxRecDepth 100000 in
theorem rc_turn (l : Launch) (D : va_G) (k : Nat → ClassId) (g : Nat → Nat) (N : Nat) (σ : St) (x1 : Int) (x2 : Int) (x3 : Int) (r : St × Int) (hm : r_turn N σ x1 x2 x3 = some r) : Mi l yX12_turn (.code yX12_turn cX12_turn 7 (some .boolean) :: rW) { frames := 2, cells := 0, slots := 0, locals := 48 } [.ref (g 0), .int (Int32.ofInt x1), .int (Int32.ofInt x2), .long (Int64.ofInt x3)] D (TYs k) (mW k g σ) (fun _ => True) Unit (fun v _ => v = Int32.ofInt r.2) (fun _ => mW k g r.1) 0 0 := by
  intro sz
  refine x_met (cc := cX12_turn) (maxL := 7) (ret := (some .boolean)) (by decide) rfl (Nat.le_of_ble_eq_true rfl) ?_
  intro p e s m below meth c ls C hX hsz hr hlk hmn hl h
  have hl : lv_has ls 7 [(0, .ref (g 0)), (1, .int (Int32.ofInt x1)), (2, .int (Int32.ofInt x2)), (3, .long (Int64.ofInt x3))] := hl
  rw [r_turn] at hm
  refine lv_aload_n C.1 C.2.1 dX12_turn_0 rfl (lv_at hl 0 rfl) ?_
  refine fg_99 C h dX12_turn_1 ?_
  refine lv_iload_n C.1 C.2.1 dX12_turn_4 rfl (lv_at hl 1 rfl) ?_
  obtain ⟨g1, hm⟩ := grd_s hm
  refine al_40 C h dX12_turn_5 g1 ?_
  obtain ⟨g2, hm⟩ := grd_s hm
  refine z_if_ne (tgt := 52) C dX12_turn_6 (by decide) g2 (fun c3 => ?_) (fun c3 => ?_)
  · have hm := ite_f c3 hm
    refine lv_aload_n C.1 C.2.1 dX12_turn_52 rfl (lv_at hl 0 rfl) ?_
    refine fg_56 C h dX12_turn_53 ?_
    refine lv_iload_n C.1 C.2.1 dX12_turn_56 rfl (lv_at hl 2 rfl) ?_
    obtain ⟨g4, hm⟩ := grd_s hm
    refine al_63 C h dX12_turn_57 g4 ?_
    obtain ⟨g5, hm⟩ := grd_s hm
    refine z_i2l C dX12_turn_58 g5 ?_
    refine lv_aload_n C.1 C.2.1 dX12_turn_59 rfl (lv_at hl 0 rfl) ?_
    refine lv_iload_n C.1 C.2.1 dX12_turn_60 rfl (lv_at hl 1 rfl) ?_
    obtain ⟨r6, e7, hm⟩ := obd_s hm
    refine q_callVl C h (rc_grainOf l D k g N σ x1 r6 e7) (cwV 1 C.2.2.1 (gR_grainOf _) rfl rfl rfl hd_grainOf ⟨Nat.le_of_ble_eq_true rfl, Nat.le_of_ble_eq_true rfl⟩) rfl hl.1 rfl (Nat.le_of_ble_eq_true rfl) dX12_turn_61 ⟨Nat.le_of_ble_eq_true rfl, Nat.le_of_ble_eq_true rfl⟩ (fun H locs h => ?_)
    obtain ⟨g8, hm⟩ := grd_s hm
    obtain ⟨g9, hm⟩ := grd_s hm
    obtain ⟨g10, hm⟩ := grd_s hm
    refine z_ldiv C dX12_turn_64 g8 g9 g10 ?_
    obtain ⟨v11, e12, hm⟩ := bnd_s hm
    rw [e12]
    refine lv_lstore (lv' := [(5, .long (Int64.ofInt v11)), (0, .ref (g 0)), (1, .int (Int32.ofInt x1)), (2, .int (Int32.ofInt x2)), (3, .long (Int64.ofInt x3))]) C.1 C.2.1 dX12_turn_65 hl (by decide) rfl (fun ls hl => ?_)
    refine lv_aload_n C.1 C.2.1 dX12_turn_67 rfl (lv_at hl 1 rfl) ?_
    refine lv_aload_n C.1 C.2.1 dX12_turn_68 rfl (lv_at hl 1 rfl) ?_
    refine fg_101 C h dX12_turn_69 ?_
    refine lv_iload_n C.1 C.2.1 dX12_turn_72 rfl (lv_at hl 2 rfl) ?_
    refine al_38 C h dX12_turn_73 g1 ?_
    refine lv_lload C.1 C.2.1 dX12_turn_74 (lv_at hl 0 rfl) ?_
    refine lv_lload_n C.1 C.2.1 dX12_turn_76 rfl (lv_at hl 4 rfl) ?_
    refine lv_aload_n C.1 C.2.1 dX12_turn_77 rfl (lv_at hl 1 rfl) ?_
    refine fg_105 C h dX12_turn_78 ?_
    refine lv_iload_n C.1 C.2.1 dX12_turn_81 rfl (lv_at hl 2 rfl) ?_
    refine al_34 C h dX12_turn_82 g1 ?_
    refine z_lsub C dX12_turn_83 ?_
    refine lv_aload_n C.1 C.2.1 dX12_turn_84 rfl (lv_at hl 1 rfl) ?_
    refine fg_56 C h dX12_turn_85 ?_
    refine lv_iload_n C.1 C.2.1 dX12_turn_88 rfl (lv_at hl 3 rfl) ?_
    refine al_63 C h dX12_turn_89 g4 ?_
    obtain ⟨g13, hm⟩ := grd_s hm
    refine z_i2l C dX12_turn_90 g13 ?_
    refine z_lmul C dX12_turn_91 ?_
    obtain ⟨r14, e15, hm⟩ := obd_s hm
    refine q_callVv C h (rc_move l D k g N r6.1 (el r6.1 38 x1) v11 ((x3 - (el r6.1 34 x1)) * (el r6.1 63 x2)) r14 e15) (cwV 3 C.2.2.1 (gR_move _) rfl rfl rfl hd_move ⟨Nat.le_of_ble_eq_true rfl, Nat.le_of_ble_eq_true rfl⟩) rfl hl.1 rfl (Nat.le_of_ble_eq_true rfl) dX12_turn_92 ⟨Nat.le_of_ble_eq_true rfl, Nat.le_of_ble_eq_true rfl⟩ (fun H locs h => ?_)
    refine lv_iconst (v := Int32.ofInt 0) C.1 C.2.1 dX12_turn_95 (by decide) ?_
    cases hm
    exact q_iret C h hr hlk dX12_turn_96 rfl
  · have hm := ite_t c3 hm
    refine lv_aload_n C.1 C.2.1 dX12_turn_9 rfl (lv_at hl 0 rfl) ?_
    refine lv_iload_n C.1 C.2.1 dX12_turn_10 rfl (lv_at hl 2 rfl) ?_
    obtain ⟨r16, e17, hm⟩ := obd_s hm
    refine q_callVl C h (rc_weights l D k g N σ x2 r16 e17) (cwV 1 C.2.2.1 (gR_weights _) rfl rfl rfl hd_weights ⟨Nat.le_of_ble_eq_true rfl, Nat.le_of_ble_eq_true rfl⟩) rfl hl.1 rfl (Nat.le_of_ble_eq_true rfl) dX12_turn_11 ⟨Nat.le_of_ble_eq_true rfl, Nat.le_of_ble_eq_true rfl⟩ (fun H locs h => ?_)
    refine lv_lstore (lv' := [(5, .long (Int64.ofInt r16.2)), (0, .ref (g 0)), (1, .int (Int32.ofInt x1)), (2, .int (Int32.ofInt x2)), (3, .long (Int64.ofInt x3))]) C.1 C.2.1 dX12_turn_14 hl (by decide) rfl (fun ls hl => ?_)
    refine lv_aload_n C.1 C.2.1 dX12_turn_16 rfl (lv_at hl 1 rfl) ?_
    refine fg_105 C h dX12_turn_17 ?_
    refine lv_iload_n C.1 C.2.1 dX12_turn_20 rfl (lv_at hl 2 rfl) ?_
    refine lv_lload_n C.1 C.2.1 dX12_turn_21 rfl (lv_at hl 4 rfl) ?_
    refine lv_lload C.1 C.2.1 dX12_turn_22 (lv_at hl 0 rfl) ?_
    obtain ⟨r18, e19, hm⟩ := obd_s hm
    refine q_callSl C h (rc_div l D k N x3 r16.2 r18 e19) (cwS 2 C.2.2.1 (gR_div _) rfl rfl rfl hd_div ⟨Nat.le_of_ble_eq_true rfl, Nat.le_of_ble_eq_true rfl⟩) rfl hl.1 rfl (Nat.le_of_ble_eq_true rfl) dX12_turn_24 ⟨Nat.le_of_ble_eq_true rfl, Nat.le_of_ble_eq_true rfl⟩ (fun H locs h => ?_)
    refine as_34 C h dX12_turn_27 g1 (fun H locs h => ?_)
    refine lv_aload_n C.1 C.2.1 dX12_turn_28 rfl (lv_at hl 1 rfl) ?_
    refine lv_iload_n C.1 C.2.1 dX12_turn_29 rfl (lv_at hl 2 rfl) ?_
    refine lv_aload_n C.1 C.2.1 dX12_turn_30 rfl (lv_at hl 1 rfl) ?_
    refine lv_iload_n C.1 C.2.1 dX12_turn_31 rfl (lv_at hl 3 rfl) ?_
    refine lv_lload_n C.1 C.2.1 dX12_turn_32 rfl (lv_at hl 4 rfl) ?_
    refine lv_lload C.1 C.2.1 dX12_turn_33 (lv_at hl 0 rfl) ?_
    obtain ⟨r20, e21, hm⟩ := obd_s hm
    refine q_callSl C h (rc_mod l D k N x3 r16.2 r20 e21) (cwS 2 C.2.2.1 (gR_mod _) rfl rfl rfl hd_mod ⟨Nat.le_of_ble_eq_true rfl, Nat.le_of_ble_eq_true rfl⟩) rfl hl.1 rfl (Nat.le_of_ble_eq_true rfl) dX12_turn_35 ⟨Nat.le_of_ble_eq_true rfl, Nat.le_of_ble_eq_true rfl⟩ (fun H locs h => ?_)
    obtain ⟨σ22, e23, hm⟩ := bnd_s hm
    rw [e23] at h
    obtain ⟨r24, e25, hm⟩ := obd_s hm
    refine q_callVi C h (rc_kidAt l D k g N σ22 x2 r20 r24 e25) (cwV 2 C.2.2.1 (gR_kidAt _) rfl rfl rfl hd_kidAt ⟨Nat.le_of_ble_eq_true rfl, Nat.le_of_ble_eq_true rfl⟩) rfl hl.1 rfl (Nat.le_of_ble_eq_true rfl) dX12_turn_38 ⟨Nat.le_of_ble_eq_true rfl, Nat.le_of_ble_eq_true rfl⟩ (fun H locs h => ?_)
    refine lv_aload_n C.1 C.2.1 dX12_turn_41 rfl (lv_at hl 1 rfl) ?_
    refine fg_105 C h dX12_turn_42 ?_
    refine lv_iload_n C.1 C.2.1 dX12_turn_45 rfl (lv_at hl 2 rfl) ?_
    refine al_34 C h dX12_turn_46 g1 ?_
    obtain ⟨r26, e27, hm⟩ := obd_s hm
    refine q_callVv C h (rc_callKid l D k g N r24.1 x1 r24.2 (el r24.1 34 x1) r26 e27) (cwV 3 C.2.2.1 (gR_callKid _) rfl rfl rfl hd_callKid ⟨Nat.le_of_ble_eq_true rfl, Nat.le_of_ble_eq_true rfl⟩) rfl hl.1 rfl (Nat.le_of_ble_eq_true rfl) dX12_turn_47 ⟨Nat.le_of_ble_eq_true rfl, Nat.le_of_ble_eq_true rfl⟩ (fun H locs h => ?_)
    refine lv_iconst (v := Int32.ofInt 1) C.1 C.2.1 dX12_turn_50 (by decide) ?_
    cases hm
    exact q_iret C h hr hlk dX12_turn_51 rfl
end L_turn
