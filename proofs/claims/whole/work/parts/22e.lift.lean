section L_apply
variable {p : Program} {l : Launch} {e : Env} {s : State} {m : MethodId} {args : Array Value} {below : List Frame} {meth : Method} {c : Code} {D : va_G} {A : Nat → Prop} {k : Nat → ClassId} {g : Nat → Nat} {N : Nat} {cd : Cond}
set_option maxHeartbeats 4000000 in
set_option maxRecDepth 100000 in
theorem lm_apply_223 {r : St} (C : Cx p s m args c cX12_apply RX12 (cd :: rW) D (TYs k) 4) (hr : meth.sig.returnType = none) (hlk : meth.locks = false)  {ls : Array Slot} {H : Heap} {locs : List Loc} {σ : St} {x1 : Int} (hl : lv_has ls 4 [(0, .ref (g 0)), (1, .int (Int32.ofInt x1))]) (h : Hp D A s.heap H locs (mW k g σ)) (hm : r_apply_223 N  σ x1 = some r) : W p l e { frames := 7, cells := 0, slots := 0, locals := 178 } s m args below meth c H locs 0 0 (MQ below (va_Qv (fun (_ : Unit) => True) (fun _ t => PostW D (TYs k) A (mW k g r) t) A) args s 0 0 A) (F0 m 223 ls []) := by
  rw [r_apply_223] at hm
  refine lv_aload_n C.1 C.2.1 dX12_apply_223 rfl (lv_at hl 0 rfl) ?_
  refine lv_iload_n C.1 C.2.1 dX12_apply_224 rfl (lv_at hl 1 rfl) ?_
  obtain ⟨r49, e50, hm⟩ := obd_s hm
  refine q_callVv C h (rc_function l D k g N σ x1 r49 e50) (cwV 1 C.2.2.1 (gR_function _) rfl rfl rfl hd_function ⟨Nat.le_of_ble_eq_true rfl, Nat.le_of_ble_eq_true rfl⟩) rfl hl.1 rfl (Nat.le_of_ble_eq_true rfl) dX12_apply_225 ⟨Nat.le_of_ble_eq_true rfl, Nat.le_of_ble_eq_true rfl⟩ (fun H locs h => ?_)
  cases hm
  exact q_vret C h hr hlk dX12_apply_228
set_option maxHeartbeats 4000000 in
set_option maxRecDepth 100000 in
theorem lm_apply_198 {r : St} (C : Cx p s m args c cX12_apply RX12 (cd :: rW) D (TYs k) 4) (hr : meth.sig.returnType = none) (hlk : meth.locks = false)  {ls : Array Slot} {H : Heap} {locs : List Loc} {σ : St} {x1 : Int} (hl : lv_has ls 4 [(0, .ref (g 0)), (1, .int (Int32.ofInt x1))]) (h : Hp D A s.heap H locs (mW k g σ)) (hm : r_apply_198 N  σ x1 = some r) : W p l e { frames := 7, cells := 0, slots := 0, locals := 178 } s m args below meth c H locs 0 0 (MQ below (va_Qv (fun (_ : Unit) => True) (fun _ t => PostW D (TYs k) A (mW k g r) t) A) args s 0 0 A) (F0 m 198 ls []) := by
  rw [r_apply_198] at hm
  refine lv_aload_n C.1 C.2.1 dX12_apply_198 rfl (lv_at hl 0 rfl) ?_
  obtain ⟨r41, e42, hm⟩ := obd_s hm
  refine q_callVi C h (rc_pop l D k g N σ  r41 e42) (cwV 0 C.2.2.1 (gR_pop _) rfl rfl rfl hd_pop ⟨Nat.le_of_ble_eq_true rfl, Nat.le_of_ble_eq_true rfl⟩) rfl hl.1 rfl (Nat.le_of_ble_eq_true rfl) dX12_apply_199 ⟨Nat.le_of_ble_eq_true rfl, Nat.le_of_ble_eq_true rfl⟩ (fun H locs h => ?_)
  refine lv_istore_n (lv' := [(2, .int (Int32.ofInt r41.2)), (0, .ref (g 0)), (1, .int (Int32.ofInt x1))]) C.1 C.2.1 dX12_apply_202 rfl hl (by decide) rfl (fun ls hl => ?_)
  refine lv_aload_n C.1 C.2.1 dX12_apply_203 rfl (lv_at hl 1 rfl) ?_
  refine lv_aload_n C.1 C.2.1 dX12_apply_204 rfl (lv_at hl 1 rfl) ?_
  refine fg_27 C h dX12_apply_205 ?_
  refine lv_aload_n C.1 C.2.1 dX12_apply_208 rfl (lv_at hl 1 rfl) ?_
  refine fg_24 C h dX12_apply_209 ?_
  refine lv_iload_n C.1 C.2.1 dX12_apply_212 rfl (lv_at hl 2 rfl) ?_
  obtain ⟨g43, hm⟩ := grd_s hm
  refine al_87 C h dX12_apply_213 g43 ?_
  obtain ⟨g44, hm⟩ := grd_s hm
  refine al_84 C h dX12_apply_214 g44 ?_
  obtain ⟨r45, e46, hm⟩ := obd_s hm
  refine q_callVv C h (rc_push l D k g N r41.1 (el r41.1 84 (el r41.1 87 x1)) r45 e46) (cwV 1 C.2.2.1 (gR_push _) rfl rfl rfl hd_push ⟨Nat.le_of_ble_eq_true rfl, Nat.le_of_ble_eq_true rfl⟩) rfl hl.1 rfl (Nat.le_of_ble_eq_true rfl) dX12_apply_215 ⟨Nat.le_of_ble_eq_true rfl, Nat.le_of_ble_eq_true rfl⟩ (fun H locs h => ?_)
  refine lv_aload_n C.1 C.2.1 dX12_apply_218 rfl (lv_at hl 1 rfl) ?_
  refine lv_iload_n C.1 C.2.1 dX12_apply_219 rfl (lv_at hl 0 rfl) ?_
  obtain ⟨r47, e48, hm⟩ := obd_s hm
  refine q_callVv C h (rc_push l D k g N r45 r41.2 r47 e48) (cwV 1 C.2.2.1 (gR_push _) rfl rfl rfl hd_push ⟨Nat.le_of_ble_eq_true rfl, Nat.le_of_ble_eq_true rfl⟩) rfl hl.1 rfl (Nat.le_of_ble_eq_true rfl) dX12_apply_220 ⟨Nat.le_of_ble_eq_true rfl, Nat.le_of_ble_eq_true rfl⟩ (fun H locs h => ?_)
  exact lm_apply_223 (N := N) C hr hlk  (lv_sub hl [1, 2] rfl) h hm
set_option maxHeartbeats 4000000 in
set_option maxRecDepth 100000 in
theorem lm_apply_138 {r : St} (C : Cx p s m args c cX12_apply RX12 (cd :: rW) D (TYs k) 4) (hr : meth.sig.returnType = none) (hlk : meth.locks = false)  (n : Nat) : ∀ {ls : Array Slot} {H : Heap} {locs : List Loc} {σ : St} {x1 : Int} {x2 : Int} {x3 : Int}, lv_has ls 4 [(0, .ref (g 0)), (1, .int (Int32.ofInt x1)), (2, .int (Int32.ofInt x2)), (3, .int (Int32.ofInt x3))] → Hp D A s.heap H locs (mW k g σ) → r_apply_138 N  n σ x1 x2 x3 = some r → W p l e { frames := 7, cells := 0, slots := 0, locals := 178 } s m args below meth c H locs 0 0 (MQ below (va_Qv (fun (_ : Unit) => True) (fun _ t => PostW D (TYs k) A (mW k g r) t) A) args s 0 0 A) (F0 m 138 ls []) := by
  induction n with
  | zero => intro ls H locs σ x1 x2 x3 hl h hm; cases (show none = some r from hm)
  | succ n hrec138 =>
    intro ls H locs σ x1 x2 x3 hl h hm
    rw [r_apply_138] at hm
    refine lv_iload_n C.1 C.2.1 dX12_apply_138 rfl (lv_at hl 3 rfl) ?_
    refine lv_iconst (v := Int32.ofInt (-1)) C.1 C.2.1 dX12_apply_139 (by decide) ?_
    obtain ⟨g23, hm⟩ := grd_s hm
    refine z_icmp_eq (tgt := 163) C dX12_apply_140 (by decide) g23 (by decide) (fun c24 => ?_) (fun c24 => ?_)
    · have hm := ite_t c24 hm
      refine lv_aload_n C.1 C.2.1 dX12_apply_163 rfl (lv_at hl 0 rfl) ?_
      refine lv_iload_n C.1 C.2.1 dX12_apply_164 rfl (lv_at hl 2 rfl) ?_
      obtain ⟨r25, e26, hm⟩ := obd_s hm
      refine q_callVv C h (rc_push l D k g N σ x2 r25 e26) (cwV 1 C.2.2.1 (gR_push _) rfl rfl rfl hd_push ⟨Nat.le_of_ble_eq_true rfl, Nat.le_of_ble_eq_true rfl⟩) rfl hl.1 rfl (Nat.le_of_ble_eq_true rfl) dX12_apply_165 ⟨Nat.le_of_ble_eq_true rfl, Nat.le_of_ble_eq_true rfl⟩ (fun H locs h => ?_)
      refine lv_aload_n C.1 C.2.1 dX12_apply_168 rfl (lv_at hl 0 rfl) ?_
      refine lv_iload_n C.1 C.2.1 dX12_apply_169 rfl (lv_at hl 1 rfl) ?_
      obtain ⟨r27, e28, hm⟩ := obd_s hm
      refine q_callVv C h (rc_use l D k g N r25 x1 r27 e28) (cwV 1 C.2.2.1 (gR_use _) rfl rfl rfl hd_use ⟨Nat.le_of_ble_eq_true rfl, Nat.le_of_ble_eq_true rfl⟩) rfl hl.1 rfl (Nat.le_of_ble_eq_true rfl) dX12_apply_170 ⟨Nat.le_of_ble_eq_true rfl, Nat.le_of_ble_eq_true rfl⟩ (fun H locs h => ?_)
      refine lv_goto (tgt := 228) C.1 C.2.1 dX12_apply_173 (by decide) ?_
      cases hm
      exact q_vret C h hr hlk dX12_apply_228
    · have hm := ite_f c24 hm
      refine lv_aload_n C.1 C.2.1 dX12_apply_143 rfl (lv_at hl 0 rfl) ?_
      refine lv_aload_n C.1 C.2.1 dX12_apply_144 rfl (lv_at hl 0 rfl) ?_
      refine fg_27 C h dX12_apply_145 ?_
      refine lv_iload_n C.1 C.2.1 dX12_apply_148 rfl (lv_at hl 3 rfl) ?_
      obtain ⟨g29, hm⟩ := grd_s hm
      refine al_84 C h dX12_apply_149 g29 ?_
      obtain ⟨r30, e31, hm⟩ := obd_s hm
      refine q_callVv C h (rc_push l D k g N σ (el σ 84 x3) r30 e31) (cwV 1 C.2.2.1 (gR_push _) rfl rfl rfl hd_push ⟨Nat.le_of_ble_eq_true rfl, Nat.le_of_ble_eq_true rfl⟩) rfl hl.1 rfl (Nat.le_of_ble_eq_true rfl) dX12_apply_150 ⟨Nat.le_of_ble_eq_true rfl, Nat.le_of_ble_eq_true rfl⟩ (fun H locs h => ?_)
      refine lv_aload_n C.1 C.2.1 dX12_apply_153 rfl (lv_at hl 0 rfl) ?_
      refine fg_26 C h dX12_apply_154 ?_
      refine lv_iload_n C.1 C.2.1 dX12_apply_157 rfl (lv_at hl 3 rfl) ?_
      refine al_85 C h dX12_apply_158 g29 ?_
      obtain ⟨v32, e33, hm⟩ := bnd_s hm
      rw [e33]
      refine lv_istore_n (lv' := [(3, .int (Int32.ofInt v32)), (0, .ref (g 0)), (1, .int (Int32.ofInt x1)), (2, .int (Int32.ofInt x2))]) C.1 C.2.1 dX12_apply_159 rfl hl (by decide) rfl (fun ls hl => ?_)
      refine lv_goto (tgt := 138) C.1 C.2.1 dX12_apply_160 (by decide) ?_
      exact hrec138 (lv_sub hl [1, 2, 3, 0] rfl) h hm
set_option maxHeartbeats 4000000 in
set_option maxRecDepth 100000 in
theorem lm_apply_62 {r : St} (C : Cx p s m args c cX12_apply RX12 (cd :: rW) D (TYs k) 4) (hr : meth.sig.returnType = none) (hlk : meth.locks = false)  (n : Nat) : ∀ {ls : Array Slot} {H : Heap} {locs : List Loc} {σ : St} {x2 : Int}, lv_has ls 4 [(0, .ref (g 0)), (2, .int (Int32.ofInt x2))] → Hp D A s.heap H locs (mW k g σ) → r_apply_62 N  n σ x2 = some r → W p l e { frames := 7, cells := 0, slots := 0, locals := 178 } s m args below meth c H locs 0 0 (MQ below (va_Qv (fun (_ : Unit) => True) (fun _ t => PostW D (TYs k) A (mW k g r) t) A) args s 0 0 A) (F0 m 62 ls []) := by
  induction n with
  | zero => intro ls H locs σ x2 hl h hm; cases (show none = some r from hm)
  | succ n hrec62 =>
    intro ls H locs σ x2 hl h hm
    rw [r_apply_62] at hm
    refine lv_iload_n C.1 C.2.1 dX12_apply_62 rfl (lv_at hl 1 rfl) ?_
    refine lv_iconst (v := Int32.ofInt (-1)) C.1 C.2.1 dX12_apply_63 (by decide) ?_
    obtain ⟨g34, hm⟩ := grd_s hm
    refine z_icmp_eq (tgt := 84) C dX12_apply_64 (by decide) g34 (by decide) (fun c35 => ?_) (fun c35 => ?_)
    · have hm := ite_t c35 hm
      refine lv_goto (tgt := 228) C.1 C.2.1 dX12_apply_84 (by decide) ?_
      cases hm
      exact q_vret C h hr hlk dX12_apply_228
    · have hm := ite_f c35 hm
      refine lv_aload_n C.1 C.2.1 dX12_apply_67 rfl (lv_at hl 0 rfl) ?_
      refine lv_bipush (v := Int32.ofInt 11) C.1 C.2.1 dX12_apply_68 (by decide) ?_
      refine lv_iload_n C.1 C.2.1 dX12_apply_70 rfl (lv_at hl 1 rfl) ?_
      obtain ⟨r36, e37, hm⟩ := obd_s hm
      refine q_callVv C h (rc_task l D k g N σ 11 x2 r36 e37) (cwV 2 C.2.2.1 (gR_task _) rfl rfl rfl hd_task ⟨Nat.le_of_ble_eq_true rfl, Nat.le_of_ble_eq_true rfl⟩) rfl hl.1 rfl (Nat.le_of_ble_eq_true rfl) dX12_apply_71 ⟨Nat.le_of_ble_eq_true rfl, Nat.le_of_ble_eq_true rfl⟩ (fun H locs h => ?_)
      refine lv_aload_n C.1 C.2.1 dX12_apply_74 rfl (lv_at hl 0 rfl) ?_
      refine fg_26 C h dX12_apply_75 ?_
      refine lv_iload_n C.1 C.2.1 dX12_apply_78 rfl (lv_at hl 1 rfl) ?_
      obtain ⟨g38, hm⟩ := grd_s hm
      refine al_85 C h dX12_apply_79 g38 ?_
      obtain ⟨v39, e40, hm⟩ := bnd_s hm
      rw [e40]
      refine lv_istore_n (lv' := [(2, .int (Int32.ofInt v39)), (0, .ref (g 0))]) C.1 C.2.1 dX12_apply_80 rfl hl (by decide) rfl (fun ls hl => ?_)
      refine lv_goto (tgt := 62) C.1 C.2.1 dX12_apply_81 (by decide) ?_
      exact hrec62 (lv_sub hl [1, 0] rfl) h hm
set_option maxHeartbeats 4000000 in
set_option maxRecDepth 100000 in
theorem rc_apply (l : Launch) (D : va_G) (k : Nat → ClassId) (g : Nat → Nat) (N : Nat) (σ : St) (x1 : Int) (r : St) (hm : r_apply N σ x1 = some r) : Mv l yX12_apply (.code yX12_apply cX12_apply 4 none :: rW) { frames := 7, cells := 0, slots := 0, locals := 178 } [.ref (g 0), .int (Int32.ofInt x1)] D (TYs k) (mW k g σ) (fun _ => True) Unit (fun _ => True) (fun _ => mW k g r) 0 0 := by
  intro sz
  refine x_met (cc := cX12_apply) (maxL := 4) (ret := none) (by decide) rfl (Nat.le_of_ble_eq_true rfl) ?_
  intro p e s m below meth c ls C hX hsz hr hlk hmn hl h
  have hl : lv_has ls 4 [(0, .ref (g 0)), (1, .int (Int32.ofInt x1))] := hl
  rw [r_apply] at hm
  refine lv_aload_n C.1 C.2.1 dX12_apply_0 rfl (lv_at hl 0 rfl) ?_
  refine fg_17 C h dX12_apply_1 ?_
  refine lv_iload_n C.1 C.2.1 dX12_apply_4 rfl (lv_at hl 1 rfl) ?_
  obtain ⟨g1, hm⟩ := grd_s hm
  refine al_94 C h dX12_apply_5 g1 ?_
  obtain ⟨g2, hm⟩ := grd_s hm
  by_cases c3 : (el σ 94 x1) = 9
  · refine x_topi (congrArg Int32.ofInt c3) ?_
    have hm := ite_t c3 hm
    refine lv_tableIn (tgt := 36) C.1 C.2.1 dX12_apply_6 (by decide) (by decide) rfl (by decide) ?_
    refine lv_aload_n C.1 C.2.1 dX12_apply_36 rfl (lv_at hl 0 rfl) ?_
    refine lv_bipush (v := Int32.ofInt 12) C.1 C.2.1 dX12_apply_37 (by decide) ?_
    refine lv_iconst (v := Int32.ofInt 0) C.1 C.2.1 dX12_apply_39 (by decide) ?_
    refine lv_iconst (v := Int32.ofInt 0) C.1 C.2.1 dX12_apply_40 (by decide) ?_
    refine lv_iconst (v := Int32.ofInt 0) C.1 C.2.1 dX12_apply_41 (by decide) ?_
    refine lv_iconst (v := Int32.ofInt 0) C.1 C.2.1 dX12_apply_42 (by decide) ?_
    refine lv_aload_n C.1 C.2.1 dX12_apply_43 rfl (lv_at hl 0 rfl) ?_
    refine fg_18 C h dX12_apply_44 ?_
    refine lv_iload_n C.1 C.2.1 dX12_apply_47 rfl (lv_at hl 1 rfl) ?_
    refine al_93 C h dX12_apply_48 g1 ?_
    obtain ⟨r4, e5, hm⟩ := obd_s hm
    refine q_callVv C h (rc_one l D k g N σ 12 0 0 0 0 (el σ 93 x1) r4 e5) (cwV 6 C.2.2.1 (gR_one _) rfl rfl rfl hd_one ⟨Nat.le_of_ble_eq_true rfl, Nat.le_of_ble_eq_true rfl⟩) rfl hl.1 rfl (Nat.le_of_ble_eq_true rfl) dX12_apply_49 ⟨Nat.le_of_ble_eq_true rfl, Nat.le_of_ble_eq_true rfl⟩ (fun H locs h => ?_)
    refine lv_goto (tgt := 228) C.1 C.2.1 dX12_apply_52 (by decide) ?_
    cases hm
    exact q_vret C h hr hlk dX12_apply_228
  have hm := ite_f c3 hm
  by_cases c6 : (el σ 94 x1) = 10
  · refine x_topi (congrArg Int32.ofInt c6) ?_
    have hm := ite_t c6 hm
    refine lv_tableIn (tgt := 126) C.1 C.2.1 dX12_apply_6 (by decide) (by decide) rfl (by decide) ?_
    refine lv_aload_n C.1 C.2.1 dX12_apply_126 rfl (lv_at hl 0 rfl) ?_
    obtain ⟨r7, e8, hm⟩ := obd_s hm
    refine q_callVi C h (rc_pop l D k g N σ  r7 e8) (cwV 0 C.2.2.1 (gR_pop _) rfl rfl rfl hd_pop ⟨Nat.le_of_ble_eq_true rfl, Nat.le_of_ble_eq_true rfl⟩) rfl hl.1 rfl (Nat.le_of_ble_eq_true rfl) dX12_apply_127 ⟨Nat.le_of_ble_eq_true rfl, Nat.le_of_ble_eq_true rfl⟩ (fun H locs h => ?_)
    refine lv_istore_n (lv' := [(2, .int (Int32.ofInt r7.2)), (0, .ref (g 0)), (1, .int (Int32.ofInt x1))]) C.1 C.2.1 dX12_apply_130 rfl hl (by decide) rfl (fun ls hl => ?_)
    refine lv_aload_n C.1 C.2.1 dX12_apply_131 rfl (lv_at hl 1 rfl) ?_
    refine fg_24 C h dX12_apply_132 ?_
    refine lv_iload_n C.1 C.2.1 dX12_apply_135 rfl (lv_at hl 2 rfl) ?_
    refine al_87 C h dX12_apply_136 g1 ?_
    obtain ⟨v9, e10, hm⟩ := bnd_s hm
    rw [e10]
    refine lv_istore_n (lv' := [(3, .int (Int32.ofInt v9)), (2, .int (Int32.ofInt r7.2)), (0, .ref (g 0)), (1, .int (Int32.ofInt x1))]) C.1 C.2.1 dX12_apply_137 rfl hl (by decide) rfl (fun ls hl => ?_)
    exact lm_apply_138 (N := N) C hr hlk  N (lv_sub hl [2, 3, 1, 0] rfl) h hm
  have hm := ite_f c6 hm
  by_cases c11 : (el σ 94 x1) = 11
  · refine x_topi (congrArg Int32.ofInt c11) ?_
    have hm := ite_t c11 hm
    refine lv_tableIn (tgt := 55) C.1 C.2.1 dX12_apply_6 (by decide) (by decide) rfl (by decide) ?_
    refine lv_aload_n C.1 C.2.1 dX12_apply_55 rfl (lv_at hl 0 rfl) ?_
    refine fg_24 C h dX12_apply_56 ?_
    refine lv_iload_n C.1 C.2.1 dX12_apply_59 rfl (lv_at hl 1 rfl) ?_
    refine al_87 C h dX12_apply_60 g1 ?_
    obtain ⟨v12, e13, hm⟩ := bnd_s hm
    rw [e13]
    refine lv_istore_n (lv' := [(2, .int (Int32.ofInt v12)), (0, .ref (g 0)), (1, .int (Int32.ofInt x1))]) C.1 C.2.1 dX12_apply_61 rfl hl (by decide) rfl (fun ls hl => ?_)
    exact lm_apply_62 (N := N) C hr hlk  N (lv_sub hl [1, 0] rfl) h hm
  have hm := ite_f c11 hm
  by_cases c14 : (el σ 94 x1) = 12
  · refine x_topi (congrArg Int32.ofInt c14) ?_
    have hm := ite_t c14 hm
    refine lv_tableIn (tgt := 87) C.1 C.2.1 dX12_apply_6 (by decide) (by decide) rfl (by decide) ?_
    refine lv_aload_n C.1 C.2.1 dX12_apply_87 rfl (lv_at hl 0 rfl) ?_
    refine lv_aload_n C.1 C.2.1 dX12_apply_88 rfl (lv_at hl 0 rfl) ?_
    refine fg_27 C h dX12_apply_89 ?_
    refine lv_aload_n C.1 C.2.1 dX12_apply_92 rfl (lv_at hl 0 rfl) ?_
    refine fg_24 C h dX12_apply_93 ?_
    refine lv_iload_n C.1 C.2.1 dX12_apply_96 rfl (lv_at hl 1 rfl) ?_
    refine al_87 C h dX12_apply_97 g1 ?_
    obtain ⟨g15, hm⟩ := grd_s hm
    refine al_84 C h dX12_apply_98 g15 ?_
    obtain ⟨r16, e17, hm⟩ := obd_s hm
    refine q_callVv C h (rc_push l D k g N σ (el σ 84 (el σ 87 x1)) r16 e17) (cwV 1 C.2.2.1 (gR_push _) rfl rfl rfl hd_push ⟨Nat.le_of_ble_eq_true rfl, Nat.le_of_ble_eq_true rfl⟩) rfl hl.1 rfl (Nat.le_of_ble_eq_true rfl) dX12_apply_99 ⟨Nat.le_of_ble_eq_true rfl, Nat.le_of_ble_eq_true rfl⟩ (fun H locs h => ?_)
    refine lv_aload_n C.1 C.2.1 dX12_apply_102 rfl (lv_at hl 0 rfl) ?_
    refine lv_bipush (v := Int32.ofInt 25) C.1 C.2.1 dX12_apply_103 (by decide) ?_
    refine lv_aload_n C.1 C.2.1 dX12_apply_105 rfl (lv_at hl 0 rfl) ?_
    refine fg_19 C h dX12_apply_106 ?_
    refine lv_iload_n C.1 C.2.1 dX12_apply_109 rfl (lv_at hl 1 rfl) ?_
    refine al_92 C h dX12_apply_110 g1 ?_
    refine lv_iconst (v := Int32.ofInt 0) C.1 C.2.1 dX12_apply_111 (by decide) ?_
    refine lv_iconst (v := Int32.ofInt 0) C.1 C.2.1 dX12_apply_112 (by decide) ?_
    refine lv_iconst (v := Int32.ofInt 0) C.1 C.2.1 dX12_apply_113 (by decide) ?_
    refine lv_aload_n C.1 C.2.1 dX12_apply_114 rfl (lv_at hl 0 rfl) ?_
    refine fg_18 C h dX12_apply_115 ?_
    refine lv_iload_n C.1 C.2.1 dX12_apply_118 rfl (lv_at hl 1 rfl) ?_
    refine al_93 C h dX12_apply_119 g1 ?_
    obtain ⟨r18, e19, hm⟩ := obd_s hm
    refine q_callVv C h (rc_two l D k g N r16 25 (el r16 92 x1) 0 0 0 (el r16 93 x1) r18 e19) (cwV 6 C.2.2.1 (gR_two _) rfl rfl rfl hd_two ⟨Nat.le_of_ble_eq_true rfl, Nat.le_of_ble_eq_true rfl⟩) rfl hl.1 rfl (Nat.le_of_ble_eq_true rfl) dX12_apply_120 ⟨Nat.le_of_ble_eq_true rfl, Nat.le_of_ble_eq_true rfl⟩ (fun H locs h => ?_)
    refine lv_goto (tgt := 228) C.1 C.2.1 dX12_apply_123 (by decide) ?_
    cases hm
    exact q_vret C h hr hlk dX12_apply_228
  have hm := ite_f c14 hm
  refine lv_tableOut (tgt := 176) C.1 C.2.1 dX12_apply_6 (by rw [c32_ti g2]; omega) (by decide) ?_
  refine lv_aload_n C.1 C.2.1 dX12_apply_176 rfl (lv_at hl 0 rfl) ?_
  refine fg_19 C h dX12_apply_177 ?_
  refine lv_iload_n C.1 C.2.1 dX12_apply_180 rfl (lv_at hl 1 rfl) ?_
  refine al_92 C h dX12_apply_181 g1 ?_
  refine lv_bipush (v := Int32.ofInt 14) C.1 C.2.1 dX12_apply_182 (by decide) ?_
  obtain ⟨g20, hm⟩ := grd_s hm
  refine z_icmp_eq (tgt := 198) C dX12_apply_184 (by decide) g20 (by decide) (fun c21 => ?_) (fun c21 => ?_)
  · have hm := ite_t c21 hm
    exact lm_apply_198 (N := N) C hr hlk  (lv_sub hl [0, 1] rfl) h hm
  · have hm := ite_f c21 hm
    refine lv_aload_n C.1 C.2.1 dX12_apply_187 rfl (lv_at hl 0 rfl) ?_
    refine fg_19 C h dX12_apply_188 ?_
    refine lv_iload_n C.1 C.2.1 dX12_apply_191 rfl (lv_at hl 1 rfl) ?_
    refine al_92 C h dX12_apply_192 g1 ?_
    refine lv_bipush (v := Int32.ofInt 15) C.1 C.2.1 dX12_apply_193 (by decide) ?_
    refine z_icmp_ne (tgt := 223) C dX12_apply_195 (by decide) g20 (by decide) (fun c22 => ?_) (fun c22 => ?_)
    · have hm := ite_f c22 hm
      exact lm_apply_223 (N := N) C hr hlk  (lv_sub hl [0, 1] rfl) h hm
    · have hm := ite_t c22 hm
      exact lm_apply_198 (N := N) C hr hlk  (lv_sub hl [0, 1] rfl) h hm
end L_apply
section L_arguments
variable {p : Program} {l : Launch} {e : Env} {s : State} {m : MethodId} {args : Array Value} {below : List Frame} {meth : Method} {c : Code} {D : va_G} {A : Nat → Prop} {k : Nat → ClassId} {g : Nat → Nat} {N : Nat} {cd : Cond}
set_option maxHeartbeats 4000000 in
set_option maxRecDepth 100000 in
theorem rc_arguments (l : Launch) (D : va_G) (k : Nat → ClassId) (g : Nat → Nat) (N : Nat) (σ : St) (x1 : Int) (r : St) (hm : r_arguments N σ x1 = some r) : Mv l yX12_arguments (.code yX12_arguments cX12_arguments 2 none :: rW) { frames := 1, cells := 0, slots := 0, locals := 22 } [.ref (g 0), .int (Int32.ofInt x1)] D (TYs k) (mW k g σ) (fun _ => True) Unit (fun _ => True) (fun _ => mW k g r) 0 0 := by
  intro sz
  refine x_met (cc := cX12_arguments) (maxL := 2) (ret := none) (by decide) rfl (Nat.le_of_ble_eq_true rfl) ?_
  intro p e s m below meth c ls C hX hsz hr hlk hmn hl h
  have hl : lv_has ls 2 [(0, .ref (g 0)), (1, .int (Int32.ofInt x1))] := hl
  rw [r_arguments] at hm
  refine lv_aload_n C.1 C.2.1 dX12_arguments_0 rfl (lv_at hl 0 rfl) ?_
  refine fg_17 C h dX12_arguments_1 ?_
  refine lv_iload_n C.1 C.2.1 dX12_arguments_4 rfl (lv_at hl 1 rfl) ?_
  obtain ⟨g1, hm⟩ := grd_s hm
  refine al_94 C h dX12_arguments_5 g1 ?_
  refine lv_bipush (v := Int32.ofInt 9) C.1 C.2.1 dX12_arguments_6 (by decide) ?_
  obtain ⟨g2, hm⟩ := grd_s hm
  refine z_icmp_eq (tgt := 23) C dX12_arguments_8 (by decide) g2 (by decide) (fun c3 => ?_) (fun c3 => ?_)
  · have hm := ite_t c3 hm
    cases hm
    exact q_vret C h hr hlk dX12_arguments_23
  · have hm := ite_f c3 hm
    refine lv_aload_n C.1 C.2.1 dX12_arguments_11 rfl (lv_at hl 0 rfl) ?_
    refine lv_bipush (v := Int32.ofInt 9) C.1 C.2.1 dX12_arguments_12 (by decide) ?_
    refine lv_aload_n C.1 C.2.1 dX12_arguments_14 rfl (lv_at hl 0 rfl) ?_
    refine fg_24 C h dX12_arguments_15 ?_
    refine lv_iload_n C.1 C.2.1 dX12_arguments_18 rfl (lv_at hl 1 rfl) ?_
    refine al_87 C h dX12_arguments_19 g1 ?_
    obtain ⟨r4, e5, hm⟩ := obd_s hm
    refine q_callVv C h (rc_task l D k g N σ 9 (el σ 87 x1) r4 e5) (cwV 2 C.2.2.1 (gR_task _) rfl rfl rfl hd_task ⟨Nat.le_of_ble_eq_true rfl, Nat.le_of_ble_eq_true rfl⟩) rfl hl.1 rfl (Nat.le_of_ble_eq_true rfl) dX12_arguments_20 ⟨Nat.le_of_ble_eq_true rfl, Nat.le_of_ble_eq_true rfl⟩ (fun H locs h => ?_)
    cases hm
    exact q_vret C h hr hlk dX12_arguments_23
end L_arguments
section L_changeOf
variable {p : Program} {l : Launch} {e : Env} {s : State} {m : MethodId} {args : Array Value} {below : List Frame} {meth : Method} {c : Code} {D : va_G} {A : Nat → Prop} {k : Nat → ClassId} {g : Nat → Nat} {N : Nat} {cd : Cond}
set_option maxHeartbeats 4000000 in
set_option maxRecDepth 100000 in
theorem rc_changeOf (l : Launch) (D : va_G) (k : Nat → ClassId) (g : Nat → Nat) (N : Nat) (σ : St) (x1 : Int) (r : St) (hm : r_changeOf N σ x1 = some r) : Mv l yX12_changeOf (.code yX12_changeOf cX12_changeOf 2 none :: rW) { frames := 5, cells := 0, slots := 0, locals := 130 } [.ref (g 0), .int (Int32.ofInt x1)] D (TYs k) (mW k g σ) (fun _ => True) Unit (fun _ => True) (fun _ => mW k g r) 0 0 := by
  intro sz
  refine x_met (cc := cX12_changeOf) (maxL := 2) (ret := none) (by decide) rfl (Nat.le_of_ble_eq_true rfl) ?_
  intro p e s m below meth c ls C hX hsz hr hlk hmn hl h
  have hl : lv_has ls 2 [(0, .ref (g 0)), (1, .int (Int32.ofInt x1))] := hl
  rw [r_changeOf] at hm
  refine lv_aload_n C.1 C.2.1 dX12_changeOf_0 rfl (lv_at hl 0 rfl) ?_
  refine fg_17 C h dX12_changeOf_1 ?_
  refine lv_iload_n C.1 C.2.1 dX12_changeOf_4 rfl (lv_at hl 1 rfl) ?_
  obtain ⟨g1, hm⟩ := grd_s hm
  refine al_94 C h dX12_changeOf_5 g1 ?_
  obtain ⟨g2, hm⟩ := grd_s hm
  by_cases c3 : (el σ 94 x1) = 28
  · refine x_topi (congrArg Int32.ofInt c3) ?_
    have hm := ite_t c3 hm
    refine lv_tableIn (tgt := 32) C.1 C.2.1 dX12_changeOf_6 (by decide) (by decide) rfl (by decide) ?_
    refine lv_aload_n C.1 C.2.1 dX12_changeOf_32 rfl (lv_at hl 0 rfl) ?_
    refine lv_bipush (v := Int32.ofInt 9) C.1 C.2.1 dX12_changeOf_33 (by decide) ?_
    refine lv_aload_n C.1 C.2.1 dX12_changeOf_35 rfl (lv_at hl 0 rfl) ?_
    refine fg_19 C h dX12_changeOf_36 ?_
    refine lv_iload_n C.1 C.2.1 dX12_changeOf_39 rfl (lv_at hl 1 rfl) ?_
    refine al_92 C h dX12_changeOf_40 g1 ?_
    refine lv_iconst (v := Int32.ofInt 1) C.1 C.2.1 dX12_changeOf_41 (by decide) ?_
    refine lv_iconst (v := Int32.ofInt 0) C.1 C.2.1 dX12_changeOf_42 (by decide) ?_
    refine lv_iconst (v := Int32.ofInt 0) C.1 C.2.1 dX12_changeOf_43 (by decide) ?_
    refine lv_aload_n C.1 C.2.1 dX12_changeOf_44 rfl (lv_at hl 0 rfl) ?_
    refine fg_18 C h dX12_changeOf_45 ?_
    refine lv_iload_n C.1 C.2.1 dX12_changeOf_48 rfl (lv_at hl 1 rfl) ?_
    refine al_93 C h dX12_changeOf_49 g1 ?_
    obtain ⟨r4, e5, hm⟩ := obd_s hm
    refine q_callVv C h (rc_one l D k g N σ 9 (el σ 92 x1) 1 0 0 (el σ 93 x1) r4 e5) (cwV 6 C.2.2.1 (gR_one _) rfl rfl rfl hd_one ⟨Nat.le_of_ble_eq_true rfl, Nat.le_of_ble_eq_true rfl⟩) rfl hl.1 rfl (Nat.le_of_ble_eq_true rfl) dX12_changeOf_50 ⟨Nat.le_of_ble_eq_true rfl, Nat.le_of_ble_eq_true rfl⟩ (fun H locs h => ?_)
    refine lv_goto (tgt := 137) C.1 C.2.1 dX12_changeOf_53 (by decide) ?_
    cases hm
    exact q_vret C h hr hlk dX12_changeOf_137
  have hm := ite_f c3 hm
  by_cases c6 : (el σ 94 x1) = 29
  · refine x_topi (congrArg Int32.ofInt c6) ?_
    have hm := ite_t c6 hm
    refine lv_tableIn (tgt := 56) C.1 C.2.1 dX12_changeOf_6 (by decide) (by decide) rfl (by decide) ?_
    refine lv_aload_n C.1 C.2.1 dX12_changeOf_56 rfl (lv_at hl 0 rfl) ?_
    refine lv_bipush (v := Int32.ofInt 9) C.1 C.2.1 dX12_changeOf_57 (by decide) ?_
    refine lv_iconst (v := Int32.ofInt 1) C.1 C.2.1 dX12_changeOf_59 (by decide) ?_
    refine lv_aload_n C.1 C.2.1 dX12_changeOf_60 rfl (lv_at hl 0 rfl) ?_
    refine fg_19 C h dX12_changeOf_61 ?_
    refine lv_iload_n C.1 C.2.1 dX12_changeOf_64 rfl (lv_at hl 1 rfl) ?_
    refine al_92 C h dX12_changeOf_65 g1 ?_
    refine lv_iconst (v := Int32.ofInt 0) C.1 C.2.1 dX12_changeOf_66 (by decide) ?_
    refine lv_iconst (v := Int32.ofInt 0) C.1 C.2.1 dX12_changeOf_67 (by decide) ?_
    refine lv_aload_n C.1 C.2.1 dX12_changeOf_68 rfl (lv_at hl 0 rfl) ?_
    refine fg_18 C h dX12_changeOf_69 ?_
    refine lv_iload_n C.1 C.2.1 dX12_changeOf_72 rfl (lv_at hl 1 rfl) ?_
    refine al_93 C h dX12_changeOf_73 g1 ?_
    obtain ⟨r7, e8, hm⟩ := obd_s hm
    refine q_callVv C h (rc_one l D k g N σ 9 1 (el σ 92 x1) 0 0 (el σ 93 x1) r7 e8) (cwV 6 C.2.2.1 (gR_one _) rfl rfl rfl hd_one ⟨Nat.le_of_ble_eq_true rfl, Nat.le_of_ble_eq_true rfl⟩) rfl hl.1 rfl (Nat.le_of_ble_eq_true rfl) dX12_changeOf_74 ⟨Nat.le_of_ble_eq_true rfl, Nat.le_of_ble_eq_true rfl⟩ (fun H locs h => ?_)
    refine lv_goto (tgt := 137) C.1 C.2.1 dX12_changeOf_77 (by decide) ?_
    cases hm
    exact q_vret C h hr hlk dX12_changeOf_137
  have hm := ite_f c6 hm
  by_cases c9 : (el σ 94 x1) = 30
  · refine x_topi (congrArg Int32.ofInt c9) ?_
    have hm := ite_t c9 hm
    refine lv_tableIn (tgt := 80) C.1 C.2.1 dX12_changeOf_6 (by decide) (by decide) rfl (by decide) ?_
    refine lv_aload_n C.1 C.2.1 dX12_changeOf_80 rfl (lv_at hl 0 rfl) ?_
    refine lv_bipush (v := Int32.ofInt 8) C.1 C.2.1 dX12_changeOf_81 (by decide) ?_
    refine lv_aload_n C.1 C.2.1 dX12_changeOf_83 rfl (lv_at hl 0 rfl) ?_
    refine fg_19 C h dX12_changeOf_84 ?_
    refine lv_iload_n C.1 C.2.1 dX12_changeOf_87 rfl (lv_at hl 1 rfl) ?_
    refine al_92 C h dX12_changeOf_88 g1 ?_
    refine lv_aload_n C.1 C.2.1 dX12_changeOf_89 rfl (lv_at hl 0 rfl) ?_
    refine fg_20 C h dX12_changeOf_90 ?_
    refine lv_iload_n C.1 C.2.1 dX12_changeOf_93 rfl (lv_at hl 1 rfl) ?_
    refine al_91 C h dX12_changeOf_94 g1 ?_
    refine lv_aload_n C.1 C.2.1 dX12_changeOf_95 rfl (lv_at hl 0 rfl) ?_
    refine fg_21 C h dX12_changeOf_96 ?_
    refine lv_iload_n C.1 C.2.1 dX12_changeOf_99 rfl (lv_at hl 1 rfl) ?_
    refine al_90 C h dX12_changeOf_100 g1 ?_
    refine lv_iconst (v := Int32.ofInt 0) C.1 C.2.1 dX12_changeOf_101 (by decide) ?_
    refine lv_aload_n C.1 C.2.1 dX12_changeOf_102 rfl (lv_at hl 0 rfl) ?_
    refine fg_18 C h dX12_changeOf_103 ?_
    refine lv_iload_n C.1 C.2.1 dX12_changeOf_106 rfl (lv_at hl 1 rfl) ?_
    refine al_93 C h dX12_changeOf_107 g1 ?_
    obtain ⟨r10, e11, hm⟩ := obd_s hm
    refine q_callVv C h (rc_one l D k g N σ 8 (el σ 92 x1) (el σ 91 x1) (el σ 90 x1) 0 (el σ 93 x1) r10 e11) (cwV 6 C.2.2.1 (gR_one _) rfl rfl rfl hd_one ⟨Nat.le_of_ble_eq_true rfl, Nat.le_of_ble_eq_true rfl⟩) rfl hl.1 rfl (Nat.le_of_ble_eq_true rfl) dX12_changeOf_108 ⟨Nat.le_of_ble_eq_true rfl, Nat.le_of_ble_eq_true rfl⟩ (fun H locs h => ?_)
    refine lv_goto (tgt := 137) C.1 C.2.1 dX12_changeOf_111 (by decide) ?_
    cases hm
    exact q_vret C h hr hlk dX12_changeOf_137
  have hm := ite_f c9 hm
  refine lv_tableOut (tgt := 114) C.1 C.2.1 dX12_changeOf_6 (by rw [c32_ti g2]; omega) (by decide) ?_
  refine lv_aload_n C.1 C.2.1 dX12_changeOf_114 rfl (lv_at hl 0 rfl) ?_
  refine lv_bipush (v := Int32.ofInt 21) C.1 C.2.1 dX12_changeOf_115 (by decide) ?_
  refine lv_sipush (v := Int32.ofInt 500) C.1 C.2.1 dX12_changeOf_117 (by decide) ?_
  refine lv_aload_n C.1 C.2.1 dX12_changeOf_120 rfl (lv_at hl 0 rfl) ?_
  refine fg_19 C h dX12_changeOf_121 ?_
  refine lv_iload_n C.1 C.2.1 dX12_changeOf_124 rfl (lv_at hl 1 rfl) ?_
  refine al_92 C h dX12_changeOf_125 g1 ?_
  refine lv_iconst (v := Int32.ofInt 0) C.1 C.2.1 dX12_changeOf_126 (by decide) ?_
  refine lv_iconst (v := Int32.ofInt 0) C.1 C.2.1 dX12_changeOf_127 (by decide) ?_
  refine lv_aload_n C.1 C.2.1 dX12_changeOf_128 rfl (lv_at hl 0 rfl) ?_
  refine fg_18 C h dX12_changeOf_129 ?_
  refine lv_iload_n C.1 C.2.1 dX12_changeOf_132 rfl (lv_at hl 1 rfl) ?_
  refine al_93 C h dX12_changeOf_133 g1 ?_
  obtain ⟨r12, e13, hm⟩ := obd_s hm
  refine q_callVv C h (rc_one l D k g N σ 21 500 (el σ 92 x1) 0 0 (el σ 93 x1) r12 e13) (cwV 6 C.2.2.1 (gR_one _) rfl rfl rfl hd_one ⟨Nat.le_of_ble_eq_true rfl, Nat.le_of_ble_eq_true rfl⟩) rfl hl.1 rfl (Nat.le_of_ble_eq_true rfl) dX12_changeOf_134 ⟨Nat.le_of_ble_eq_true rfl, Nat.le_of_ble_eq_true rfl⟩ (fun H locs h => ?_)
  cases hm
  exact q_vret C h hr hlk dX12_changeOf_137
end L_changeOf
section L_isFun
variable {p : Program} {l : Launch} {e : Env} {s : State} {m : MethodId} {args : Array Value} {below : List Frame} {meth : Method} {c : Code} {D : va_G} {A : Nat → Prop} {k : Nat → ClassId} {g : Nat → Nat} {N : Nat} {cd : Cond}
set_option maxHeartbeats 4000000 in
set_option maxRecDepth 100000 in
theorem rc_isFun (l : Launch) (D : va_G) (k : Nat → ClassId) (g : Nat → Nat) (N : Nat) (σ : St) (x1 : Int) (r : St × Int) (hm : r_isFun N σ x1 = some r) : Mi l yX12_isFun (.code yX12_isFun cX12_isFun 2 (some .boolean) :: rW) { frames := 0, cells := 0, slots := 0, locals := 0 } [.ref (g 0), .int (Int32.ofInt x1)] D (TYs k) (mW k g σ) (fun _ => True) Unit (fun v _ => v = Int32.ofInt r.2) (fun _ => mW k g r.1) 0 0 := by
  intro sz
  refine x_met (cc := cX12_isFun) (maxL := 2) (ret := (some .boolean)) (by decide) rfl (Nat.le_of_ble_eq_true rfl) ?_
  intro p e s m below meth c ls C hX hsz hr hlk hmn hl h
  have hl : lv_has ls 2 [(0, .ref (g 0)), (1, .int (Int32.ofInt x1))] := hl
  rw [r_isFun] at hm
  refine lv_aload_n C.1 C.2.1 dX12_isFun_0 rfl (lv_at hl 0 rfl) ?_
  refine fg_17 C h dX12_isFun_1 ?_
  refine lv_iload_n C.1 C.2.1 dX12_isFun_4 rfl (lv_at hl 1 rfl) ?_
  obtain ⟨g1, hm⟩ := grd_s hm
  refine al_94 C h dX12_isFun_5 g1 ?_
  refine lv_bipush (v := Int32.ofInt 9) C.1 C.2.1 dX12_isFun_6 (by decide) ?_
  obtain ⟨g2, hm⟩ := grd_s hm
  refine z_icmp_lt (tgt := 26) C dX12_isFun_8 (by decide) g2 (by decide) (fun c3 => ?_) (fun c3 => ?_)
  · have hm := ite_t c3 hm
    refine lv_iconst (v := Int32.ofInt 0) C.1 C.2.1 dX12_isFun_26 (by decide) ?_
    cases hm
    exact q_iret C h hr hlk dX12_isFun_27 rfl
  · have hm := ite_f c3 hm
    refine lv_aload_n C.1 C.2.1 dX12_isFun_11 rfl (lv_at hl 0 rfl) ?_
    refine fg_17 C h dX12_isFun_12 ?_
    refine lv_iload_n C.1 C.2.1 dX12_isFun_15 rfl (lv_at hl 1 rfl) ?_
    refine al_94 C h dX12_isFun_16 g1 ?_
    refine lv_bipush (v := Int32.ofInt 13) C.1 C.2.1 dX12_isFun_17 (by decide) ?_
    refine z_icmp_gt (tgt := 26) C dX12_isFun_19 (by decide) g2 (by decide) (fun c4 => ?_) (fun c4 => ?_)
    · have hm := ite_t c4 hm
      refine lv_iconst (v := Int32.ofInt 0) C.1 C.2.1 dX12_isFun_26 (by decide) ?_
      cases hm
      exact q_iret C h hr hlk dX12_isFun_27 rfl
    · have hm := ite_f c4 hm
      refine lv_iconst (v := Int32.ofInt 1) C.1 C.2.1 dX12_isFun_22 (by decide) ?_
      refine lv_goto (tgt := 27) C.1 C.2.1 dX12_isFun_23 (by decide) ?_
      cases hm
      exact q_iret C h hr hlk dX12_isFun_27 rfl
end L_isFun
section L_make
variable {p : Program} {l : Launch} {e : Env} {s : State} {m : MethodId} {args : Array Value} {below : List Frame} {meth : Method} {c : Code} {D : va_G} {A : Nat → Prop} {k : Nat → ClassId} {g : Nat → Nat} {N : Nat} {cd : Cond}
set_option maxHeartbeats 4000000 in
set_option maxRecDepth 100000 in
theorem rc_make (l : Launch) (D : va_G) (k : Nat → ClassId) (g : Nat → Nat) (N : Nat) (σ : St) (x1 : Int) (r : St) (hm : r_make N σ x1 = some r) : Mv l yX12_make (.code yX12_make cX12_make 2 none :: rW) { frames := 5, cells := 0, slots := 0, locals := 127 } [.ref (g 0), .int (Int32.ofInt x1)] D (TYs k) (mW k g σ) (fun _ => True) Unit (fun _ => True) (fun _ => mW k g r) 0 0 := by
  intro sz
  refine x_met (cc := cX12_make) (maxL := 2) (ret := none) (by decide) rfl (Nat.le_of_ble_eq_true rfl) ?_
  intro p e s m below meth c ls C hX hsz hr hlk hmn hl h
  have hl : lv_has ls 2 [(0, .ref (g 0)), (1, .int (Int32.ofInt x1))] := hl
  rw [r_make] at hm
  refine lv_aload_n C.1 C.2.1 dX12_make_0 rfl (lv_at hl 0 rfl) ?_
  refine fg_17 C h dX12_make_1 ?_
  refine lv_iload_n C.1 C.2.1 dX12_make_4 rfl (lv_at hl 1 rfl) ?_
  obtain ⟨g1, hm⟩ := grd_s hm
  refine al_94 C h dX12_make_5 g1 ?_
  obtain ⟨g2, hm⟩ := grd_s hm
  by_cases c3 : (el σ 94 x1) = 1
  · refine x_topi (congrArg Int32.ofInt c3) ?_
    have hm := ite_t c3 hm
    refine lv_tableIn (tgt := 128) C.1 C.2.1 dX12_make_6 (by decide) (by decide) rfl (by decide) ?_
    refine lv_aload_n C.1 C.2.1 dX12_make_128 rfl (lv_at hl 0 rfl) ?_
    refine lv_iconst (v := Int32.ofInt 5) C.1 C.2.1 dX12_make_129 (by decide) ?_
    refine lv_iload_n C.1 C.2.1 dX12_make_130 rfl (lv_at hl 1 rfl) ?_
    obtain ⟨r4, e5, hm⟩ := obd_s hm
    refine q_callVv C h (rc_task l D k g N σ 5 x1 r4 e5) (cwV 2 C.2.2.1 (gR_task _) rfl rfl rfl hd_task ⟨Nat.le_of_ble_eq_true rfl, Nat.le_of_ble_eq_true rfl⟩) rfl hl.1 rfl (Nat.le_of_ble_eq_true rfl) dX12_make_131 ⟨Nat.le_of_ble_eq_true rfl, Nat.le_of_ble_eq_true rfl⟩ (fun H locs h => ?_)
    refine lv_aload_n C.1 C.2.1 dX12_make_134 rfl (lv_at hl 0 rfl) ?_
    refine lv_iconst (v := Int32.ofInt 4) C.1 C.2.1 dX12_make_135 (by decide) ?_
    refine lv_aload_n C.1 C.2.1 dX12_make_136 rfl (lv_at hl 0 rfl) ?_
    refine fg_24 C h dX12_make_137 ?_
    refine lv_iload_n C.1 C.2.1 dX12_make_140 rfl (lv_at hl 1 rfl) ?_
    refine al_87 C h dX12_make_141 g1 ?_
    obtain ⟨r6, e7, hm⟩ := obd_s hm
    refine q_callVv C h (rc_task l D k g N r4 4 (el r4 87 x1) r6 e7) (cwV 2 C.2.2.1 (gR_task _) rfl rfl rfl hd_task ⟨Nat.le_of_ble_eq_true rfl, Nat.le_of_ble_eq_true rfl⟩) rfl hl.1 rfl (Nat.le_of_ble_eq_true rfl) dX12_make_142 ⟨Nat.le_of_ble_eq_true rfl, Nat.le_of_ble_eq_true rfl⟩ (fun H locs h => ?_)
    refine lv_goto (tgt := 325) C.1 C.2.1 dX12_make_145 (by decide) ?_
    cases hm
    exact q_vret C h hr hlk dX12_make_325
  have hm := ite_f c3 hm
  by_cases c8 : (el σ 94 x1) = 2
  · refine x_topi (congrArg Int32.ofInt c8) ?_
    have hm := ite_t c8 hm
    refine lv_tableIn (tgt := 128) C.1 C.2.1 dX12_make_6 (by decide) (by decide) rfl (by decide) ?_
    refine lv_aload_n C.1 C.2.1 dX12_make_128 rfl (lv_at hl 0 rfl) ?_
    refine lv_iconst (v := Int32.ofInt 5) C.1 C.2.1 dX12_make_129 (by decide) ?_
    refine lv_iload_n C.1 C.2.1 dX12_make_130 rfl (lv_at hl 1 rfl) ?_
    obtain ⟨r9, e10, hm⟩ := obd_s hm
    refine q_callVv C h (rc_task l D k g N σ 5 x1 r9 e10) (cwV 2 C.2.2.1 (gR_task _) rfl rfl rfl hd_task ⟨Nat.le_of_ble_eq_true rfl, Nat.le_of_ble_eq_true rfl⟩) rfl hl.1 rfl (Nat.le_of_ble_eq_true rfl) dX12_make_131 ⟨Nat.le_of_ble_eq_true rfl, Nat.le_of_ble_eq_true rfl⟩ (fun H locs h => ?_)
    refine lv_aload_n C.1 C.2.1 dX12_make_134 rfl (lv_at hl 0 rfl) ?_
    refine lv_iconst (v := Int32.ofInt 4) C.1 C.2.1 dX12_make_135 (by decide) ?_
    refine lv_aload_n C.1 C.2.1 dX12_make_136 rfl (lv_at hl 0 rfl) ?_
    refine fg_24 C h dX12_make_137 ?_
    refine lv_iload_n C.1 C.2.1 dX12_make_140 rfl (lv_at hl 1 rfl) ?_
    refine al_87 C h dX12_make_141 g1 ?_
    obtain ⟨r11, e12, hm⟩ := obd_s hm
    refine q_callVv C h (rc_task l D k g N r9 4 (el r9 87 x1) r11 e12) (cwV 2 C.2.2.1 (gR_task _) rfl rfl rfl hd_task ⟨Nat.le_of_ble_eq_true rfl, Nat.le_of_ble_eq_true rfl⟩) rfl hl.1 rfl (Nat.le_of_ble_eq_true rfl) dX12_make_142 ⟨Nat.le_of_ble_eq_true rfl, Nat.le_of_ble_eq_true rfl⟩ (fun H locs h => ?_)
    refine lv_goto (tgt := 325) C.1 C.2.1 dX12_make_145 (by decide) ?_
    cases hm
    exact q_vret C h hr hlk dX12_make_325
  have hm := ite_f c8 hm
  by_cases c13 : (el σ 94 x1) = 3
  · refine x_topi (congrArg Int32.ofInt c13) ?_
    have hm := ite_t c13 hm
    refine lv_tableIn (tgt := 148) C.1 C.2.1 dX12_make_6 (by decide) (by decide) rfl (by decide) ?_
    refine lv_aload_n C.1 C.2.1 dX12_make_148 rfl (lv_at hl 0 rfl) ?_
    refine lv_iconst (v := Int32.ofInt 2) C.1 C.2.1 dX12_make_149 (by decide) ?_
    refine lv_aload_n C.1 C.2.1 dX12_make_150 rfl (lv_at hl 0 rfl) ?_
    refine fg_24 C h dX12_make_151 ?_
    refine lv_iload_n C.1 C.2.1 dX12_make_154 rfl (lv_at hl 1 rfl) ?_
    refine al_87 C h dX12_make_155 g1 ?_
    obtain ⟨r14, e15, hm⟩ := obd_s hm
    refine q_callVv C h (rc_task l D k g N σ 2 (el σ 87 x1) r14 e15) (cwV 2 C.2.2.1 (gR_task _) rfl rfl rfl hd_task ⟨Nat.le_of_ble_eq_true rfl, Nat.le_of_ble_eq_true rfl⟩) rfl hl.1 rfl (Nat.le_of_ble_eq_true rfl) dX12_make_156 ⟨Nat.le_of_ble_eq_true rfl, Nat.le_of_ble_eq_true rfl⟩ (fun H locs h => ?_)
    refine lv_goto (tgt := 325) C.1 C.2.1 dX12_make_159 (by decide) ?_
    cases hm
    exact q_vret C h hr hlk dX12_make_325
  have hm := ite_f c13 hm
  by_cases c16 : (el σ 94 x1) = 4
  · refine x_topi (congrArg Int32.ofInt c16) ?_
    have hm := ite_t c16 hm
    refine lv_tableIn (tgt := 307) C.1 C.2.1 dX12_make_6 (by decide) (by decide) rfl (by decide) ?_
    refine lv_aload_n C.1 C.2.1 dX12_make_307 rfl (lv_at hl 0 rfl) ?_
    refine lv_bipush (v := Int32.ofInt 6) C.1 C.2.1 dX12_make_308 (by decide) ?_
    refine lv_iload_n C.1 C.2.1 dX12_make_310 rfl (lv_at hl 1 rfl) ?_
    obtain ⟨r17, e18, hm⟩ := obd_s hm
    refine q_callVv C h (rc_task l D k g N σ 6 x1 r17 e18) (cwV 2 C.2.2.1 (gR_task _) rfl rfl rfl hd_task ⟨Nat.le_of_ble_eq_true rfl, Nat.le_of_ble_eq_true rfl⟩) rfl hl.1 rfl (Nat.le_of_ble_eq_true rfl) dX12_make_311 ⟨Nat.le_of_ble_eq_true rfl, Nat.le_of_ble_eq_true rfl⟩ (fun H locs h => ?_)
    refine lv_aload_n C.1 C.2.1 dX12_make_314 rfl (lv_at hl 0 rfl) ?_
    refine lv_iconst (v := Int32.ofInt 1) C.1 C.2.1 dX12_make_315 (by decide) ?_
    refine lv_aload_n C.1 C.2.1 dX12_make_316 rfl (lv_at hl 0 rfl) ?_
    refine fg_24 C h dX12_make_317 ?_
    refine lv_iload_n C.1 C.2.1 dX12_make_320 rfl (lv_at hl 1 rfl) ?_
    refine al_87 C h dX12_make_321 g1 ?_
    obtain ⟨r19, e20, hm⟩ := obd_s hm
    refine q_callVv C h (rc_task l D k g N r17 1 (el r17 87 x1) r19 e20) (cwV 2 C.2.2.1 (gR_task _) rfl rfl rfl hd_task ⟨Nat.le_of_ble_eq_true rfl, Nat.le_of_ble_eq_true rfl⟩) rfl hl.1 rfl (Nat.le_of_ble_eq_true rfl) dX12_make_322 ⟨Nat.le_of_ble_eq_true rfl, Nat.le_of_ble_eq_true rfl⟩ (fun H locs h => ?_)
    cases hm
    exact q_vret C h hr hlk dX12_make_325
  have hm := ite_f c16 hm
  by_cases c21 : (el σ 94 x1) = 5
  · refine x_topi (congrArg Int32.ofInt c21) ?_
    have hm := ite_t c21 hm
    refine lv_tableIn (tgt := 162) C.1 C.2.1 dX12_make_6 (by decide) (by decide) rfl (by decide) ?_
    refine lv_aload_n C.1 C.2.1 dX12_make_162 rfl (lv_at hl 0 rfl) ?_
    refine lv_aload_n C.1 C.2.1 dX12_make_163 rfl (lv_at hl 0 rfl) ?_
    refine fg_72 C h dX12_make_164 ?_
    refine lv_iconst (v := Int32.ofInt 4) C.1 C.2.1 dX12_make_167 (by decide) ?_
    refine lv_aload_n C.1 C.2.1 dX12_make_168 rfl (lv_at hl 0 rfl) ?_
    refine fg_70 C h dX12_make_169 ?_
    refine z_imul C dX12_make_172 ?_
    refine lv_aload_n C.1 C.2.1 dX12_make_173 rfl (lv_at hl 0 rfl) ?_
    refine fg_19 C h dX12_make_174 ?_
    refine lv_iload_n C.1 C.2.1 dX12_make_177 rfl (lv_at hl 1 rfl) ?_
    refine al_92 C h dX12_make_178 g1 ?_
    refine z_iadd C dX12_make_179 ?_
    obtain ⟨g22, hm⟩ := grd_s hm
    refine al_53 C h dX12_make_180 g22 ?_
    obtain ⟨r23, e24, hm⟩ := obd_s hm
    refine q_callVv C h (rc_push l D k g N σ (el σ 53 ((4 * (fl σ 70 0)) + (el σ 92 x1))) r23 e24) (cwV 1 C.2.2.1 (gR_push _) rfl rfl rfl hd_push ⟨Nat.le_of_ble_eq_true rfl, Nat.le_of_ble_eq_true rfl⟩) rfl hl.1 rfl (Nat.le_of_ble_eq_true rfl) dX12_make_181 ⟨Nat.le_of_ble_eq_true rfl, Nat.le_of_ble_eq_true rfl⟩ (fun H locs h => ?_)
    refine lv_goto (tgt := 325) C.1 C.2.1 dX12_make_184 (by decide) ?_
    cases hm
    exact q_vret C h hr hlk dX12_make_325
  have hm := ite_f c21 hm
  by_cases c25 : (el σ 94 x1) = 6
  · refine x_topi (congrArg Int32.ofInt c25) ?_
    have hm := ite_t c25 hm
    refine lv_tableIn (tgt := 187) C.1 C.2.1 dX12_make_6 (by decide) (by decide) rfl (by decide) ?_
    refine lv_aload_n C.1 C.2.1 dX12_make_187 rfl (lv_at hl 0 rfl) ?_
    refine lv_aload_n C.1 C.2.1 dX12_make_188 rfl (lv_at hl 0 rfl) ?_
    refine fg_19 C h dX12_make_189 ?_
    refine lv_iload_n C.1 C.2.1 dX12_make_192 rfl (lv_at hl 1 rfl) ?_
    refine al_92 C h dX12_make_193 g1 ?_
    obtain ⟨r26, e27, hm⟩ := obd_s hm
    refine q_callVv C h (rc_push l D k g N σ (el σ 92 x1) r26 e27) (cwV 1 C.2.2.1 (gR_push _) rfl rfl rfl hd_push ⟨Nat.le_of_ble_eq_true rfl, Nat.le_of_ble_eq_true rfl⟩) rfl hl.1 rfl (Nat.le_of_ble_eq_true rfl) dX12_make_194 ⟨Nat.le_of_ble_eq_true rfl, Nat.le_of_ble_eq_true rfl⟩ (fun H locs h => ?_)
    refine lv_goto (tgt := 325) C.1 C.2.1 dX12_make_197 (by decide) ?_
    cases hm
    exact q_vret C h hr hlk dX12_make_325
  have hm := ite_f c25 hm
  by_cases c28 : (el σ 94 x1) = 7
  · refine x_topi (congrArg Int32.ofInt c28) ?_
    have hm := ite_t c28 hm
    refine lv_tableIn (tgt := 200) C.1 C.2.1 dX12_make_6 (by decide) (by decide) rfl (by decide) ?_
    refine lv_aload_n C.1 C.2.1 dX12_make_200 rfl (lv_at hl 0 rfl) ?_
    refine lv_bipush (v := Int32.ofInt 22) C.1 C.2.1 dX12_make_201 (by decide) ?_
    refine lv_iload_n C.1 C.2.1 dX12_make_203 rfl (lv_at hl 1 rfl) ?_
    obtain ⟨r29, e30, hm⟩ := obd_s hm
    refine q_callVv C h (rc_task l D k g N σ 22 x1 r29 e30) (cwV 2 C.2.2.1 (gR_task _) rfl rfl rfl hd_task ⟨Nat.le_of_ble_eq_true rfl, Nat.le_of_ble_eq_true rfl⟩) rfl hl.1 rfl (Nat.le_of_ble_eq_true rfl) dX12_make_204 ⟨Nat.le_of_ble_eq_true rfl, Nat.le_of_ble_eq_true rfl⟩ (fun H locs h => ?_)
    refine lv_aload_n C.1 C.2.1 dX12_make_207 rfl (lv_at hl 0 rfl) ?_
    refine lv_bipush (v := Int32.ofInt 10) C.1 C.2.1 dX12_make_208 (by decide) ?_
    refine lv_aload_n C.1 C.2.1 dX12_make_210 rfl (lv_at hl 0 rfl) ?_
    refine fg_24 C h dX12_make_211 ?_
    refine lv_iload_n C.1 C.2.1 dX12_make_214 rfl (lv_at hl 1 rfl) ?_
    refine al_87 C h dX12_make_215 g1 ?_
    obtain ⟨r31, e32, hm⟩ := obd_s hm
    refine q_callVv C h (rc_task l D k g N r29 10 (el r29 87 x1) r31 e32) (cwV 2 C.2.2.1 (gR_task _) rfl rfl rfl hd_task ⟨Nat.le_of_ble_eq_true rfl, Nat.le_of_ble_eq_true rfl⟩) rfl hl.1 rfl (Nat.le_of_ble_eq_true rfl) dX12_make_216 ⟨Nat.le_of_ble_eq_true rfl, Nat.le_of_ble_eq_true rfl⟩ (fun H locs h => ?_)
    refine lv_goto (tgt := 325) C.1 C.2.1 dX12_make_219 (by decide) ?_
    cases hm
    exact q_vret C h hr hlk dX12_make_325
  have hm := ite_f c28 hm
  by_cases c33 : (el σ 94 x1) = 8
  · refine x_topi (congrArg Int32.ofInt c33) ?_
    have hm := ite_t c33 hm
    refine lv_tableIn (tgt := 222) C.1 C.2.1 dX12_make_6 (by decide) (by decide) rfl (by decide) ?_
    refine lv_aload_n C.1 C.2.1 dX12_make_222 rfl (lv_at hl 0 rfl) ?_
    refine lv_bipush (v := Int32.ofInt 12) C.1 C.2.1 dX12_make_223 (by decide) ?_
    refine lv_iload_n C.1 C.2.1 dX12_make_225 rfl (lv_at hl 1 rfl) ?_
    obtain ⟨r34, e35, hm⟩ := obd_s hm
    refine q_callVv C h (rc_task l D k g N σ 12 x1 r34 e35) (cwV 2 C.2.2.1 (gR_task _) rfl rfl rfl hd_task ⟨Nat.le_of_ble_eq_true rfl, Nat.le_of_ble_eq_true rfl⟩) rfl hl.1 rfl (Nat.le_of_ble_eq_true rfl) dX12_make_226 ⟨Nat.le_of_ble_eq_true rfl, Nat.le_of_ble_eq_true rfl⟩ (fun H locs h => ?_)
    refine lv_aload_n C.1 C.2.1 dX12_make_229 rfl (lv_at hl 0 rfl) ?_
    refine lv_bipush (v := Int32.ofInt 10) C.1 C.2.1 dX12_make_230 (by decide) ?_
    refine lv_aload_n C.1 C.2.1 dX12_make_232 rfl (lv_at hl 0 rfl) ?_
    refine fg_24 C h dX12_make_233 ?_
    refine lv_iload_n C.1 C.2.1 dX12_make_236 rfl (lv_at hl 1 rfl) ?_
    refine al_87 C h dX12_make_237 g1 ?_
    obtain ⟨r36, e37, hm⟩ := obd_s hm
    refine q_callVv C h (rc_task l D k g N r34 10 (el r34 87 x1) r36 e37) (cwV 2 C.2.2.1 (gR_task _) rfl rfl rfl hd_task ⟨Nat.le_of_ble_eq_true rfl, Nat.le_of_ble_eq_true rfl⟩) rfl hl.1 rfl (Nat.le_of_ble_eq_true rfl) dX12_make_238 ⟨Nat.le_of_ble_eq_true rfl, Nat.le_of_ble_eq_true rfl⟩ (fun H locs h => ?_)
    refine lv_goto (tgt := 325) C.1 C.2.1 dX12_make_241 (by decide) ?_
    cases hm
    exact q_vret C h hr hlk dX12_make_325
  have hm := ite_f c33 hm
  by_cases c38 : (el σ 94 x1) = 9
  · refine x_topi (congrArg Int32.ofInt c38) ?_
    have hm := ite_t c38 hm
    refine lv_tableIn (tgt := 307) C.1 C.2.1 dX12_make_6 (by decide) (by decide) rfl (by decide) ?_
    refine lv_aload_n C.1 C.2.1 dX12_make_307 rfl (lv_at hl 0 rfl) ?_
    refine lv_bipush (v := Int32.ofInt 6) C.1 C.2.1 dX12_make_308 (by decide) ?_
    refine lv_iload_n C.1 C.2.1 dX12_make_310 rfl (lv_at hl 1 rfl) ?_
    obtain ⟨r39, e40, hm⟩ := obd_s hm
    refine q_callVv C h (rc_task l D k g N σ 6 x1 r39 e40) (cwV 2 C.2.2.1 (gR_task _) rfl rfl rfl hd_task ⟨Nat.le_of_ble_eq_true rfl, Nat.le_of_ble_eq_true rfl⟩) rfl hl.1 rfl (Nat.le_of_ble_eq_true rfl) dX12_make_311 ⟨Nat.le_of_ble_eq_true rfl, Nat.le_of_ble_eq_true rfl⟩ (fun H locs h => ?_)
    refine lv_aload_n C.1 C.2.1 dX12_make_314 rfl (lv_at hl 0 rfl) ?_
    refine lv_iconst (v := Int32.ofInt 1) C.1 C.2.1 dX12_make_315 (by decide) ?_
    refine lv_aload_n C.1 C.2.1 dX12_make_316 rfl (lv_at hl 0 rfl) ?_
    refine fg_24 C h dX12_make_317 ?_
    refine lv_iload_n C.1 C.2.1 dX12_make_320 rfl (lv_at hl 1 rfl) ?_
    refine al_87 C h dX12_make_321 g1 ?_
    obtain ⟨r41, e42, hm⟩ := obd_s hm
    refine q_callVv C h (rc_task l D k g N r39 1 (el r39 87 x1) r41 e42) (cwV 2 C.2.2.1 (gR_task _) rfl rfl rfl hd_task ⟨Nat.le_of_ble_eq_true rfl, Nat.le_of_ble_eq_true rfl⟩) rfl hl.1 rfl (Nat.le_of_ble_eq_true rfl) dX12_make_322 ⟨Nat.le_of_ble_eq_true rfl, Nat.le_of_ble_eq_true rfl⟩ (fun H locs h => ?_)
    cases hm
    exact q_vret C h hr hlk dX12_make_325
  have hm := ite_f c38 hm
  by_cases c43 : (el σ 94 x1) = 10
  · refine x_topi (congrArg Int32.ofInt c43) ?_
    have hm := ite_t c43 hm
    refine lv_tableIn (tgt := 307) C.1 C.2.1 dX12_make_6 (by decide) (by decide) rfl (by decide) ?_
    refine lv_aload_n C.1 C.2.1 dX12_make_307 rfl (lv_at hl 0 rfl) ?_
    refine lv_bipush (v := Int32.ofInt 6) C.1 C.2.1 dX12_make_308 (by decide) ?_
    refine lv_iload_n C.1 C.2.1 dX12_make_310 rfl (lv_at hl 1 rfl) ?_
    obtain ⟨r44, e45, hm⟩ := obd_s hm
    refine q_callVv C h (rc_task l D k g N σ 6 x1 r44 e45) (cwV 2 C.2.2.1 (gR_task _) rfl rfl rfl hd_task ⟨Nat.le_of_ble_eq_true rfl, Nat.le_of_ble_eq_true rfl⟩) rfl hl.1 rfl (Nat.le_of_ble_eq_true rfl) dX12_make_311 ⟨Nat.le_of_ble_eq_true rfl, Nat.le_of_ble_eq_true rfl⟩ (fun H locs h => ?_)
    refine lv_aload_n C.1 C.2.1 dX12_make_314 rfl (lv_at hl 0 rfl) ?_
    refine lv_iconst (v := Int32.ofInt 1) C.1 C.2.1 dX12_make_315 (by decide) ?_
    refine lv_aload_n C.1 C.2.1 dX12_make_316 rfl (lv_at hl 0 rfl) ?_
    refine fg_24 C h dX12_make_317 ?_
    refine lv_iload_n C.1 C.2.1 dX12_make_320 rfl (lv_at hl 1 rfl) ?_
    refine al_87 C h dX12_make_321 g1 ?_
    obtain ⟨r46, e47, hm⟩ := obd_s hm
    refine q_callVv C h (rc_task l D k g N r44 1 (el r44 87 x1) r46 e47) (cwV 2 C.2.2.1 (gR_task _) rfl rfl rfl hd_task ⟨Nat.le_of_ble_eq_true rfl, Nat.le_of_ble_eq_true rfl⟩) rfl hl.1 rfl (Nat.le_of_ble_eq_true rfl) dX12_make_322 ⟨Nat.le_of_ble_eq_true rfl, Nat.le_of_ble_eq_true rfl⟩ (fun H locs h => ?_)
    cases hm
    exact q_vret C h hr hlk dX12_make_325
  have hm := ite_f c43 hm
  by_cases c48 : (el σ 94 x1) = 11
  · refine x_topi (congrArg Int32.ofInt c48) ?_
    have hm := ite_t c48 hm
    refine lv_tableIn (tgt := 307) C.1 C.2.1 dX12_make_6 (by decide) (by decide) rfl (by decide) ?_
    refine lv_aload_n C.1 C.2.1 dX12_make_307 rfl (lv_at hl 0 rfl) ?_
    refine lv_bipush (v := Int32.ofInt 6) C.1 C.2.1 dX12_make_308 (by decide) ?_
    refine lv_iload_n C.1 C.2.1 dX12_make_310 rfl (lv_at hl 1 rfl) ?_
    obtain ⟨r49, e50, hm⟩ := obd_s hm
    refine q_callVv C h (rc_task l D k g N σ 6 x1 r49 e50) (cwV 2 C.2.2.1 (gR_task _) rfl rfl rfl hd_task ⟨Nat.le_of_ble_eq_true rfl, Nat.le_of_ble_eq_true rfl⟩) rfl hl.1 rfl (Nat.le_of_ble_eq_true rfl) dX12_make_311 ⟨Nat.le_of_ble_eq_true rfl, Nat.le_of_ble_eq_true rfl⟩ (fun H locs h => ?_)
    refine lv_aload_n C.1 C.2.1 dX12_make_314 rfl (lv_at hl 0 rfl) ?_
    refine lv_iconst (v := Int32.ofInt 1) C.1 C.2.1 dX12_make_315 (by decide) ?_
    refine lv_aload_n C.1 C.2.1 dX12_make_316 rfl (lv_at hl 0 rfl) ?_
    refine fg_24 C h dX12_make_317 ?_
    refine lv_iload_n C.1 C.2.1 dX12_make_320 rfl (lv_at hl 1 rfl) ?_
    refine al_87 C h dX12_make_321 g1 ?_
    obtain ⟨r51, e52, hm⟩ := obd_s hm
    refine q_callVv C h (rc_task l D k g N r49 1 (el r49 87 x1) r51 e52) (cwV 2 C.2.2.1 (gR_task _) rfl rfl rfl hd_task ⟨Nat.le_of_ble_eq_true rfl, Nat.le_of_ble_eq_true rfl⟩) rfl hl.1 rfl (Nat.le_of_ble_eq_true rfl) dX12_make_322 ⟨Nat.le_of_ble_eq_true rfl, Nat.le_of_ble_eq_true rfl⟩ (fun H locs h => ?_)
    cases hm
    exact q_vret C h hr hlk dX12_make_325
  have hm := ite_f c48 hm
  by_cases c53 : (el σ 94 x1) = 12
  · refine x_topi (congrArg Int32.ofInt c53) ?_
    have hm := ite_t c53 hm
    refine lv_tableIn (tgt := 307) C.1 C.2.1 dX12_make_6 (by decide) (by decide) rfl (by decide) ?_
    refine lv_aload_n C.1 C.2.1 dX12_make_307 rfl (lv_at hl 0 rfl) ?_
    refine lv_bipush (v := Int32.ofInt 6) C.1 C.2.1 dX12_make_308 (by decide) ?_
    refine lv_iload_n C.1 C.2.1 dX12_make_310 rfl (lv_at hl 1 rfl) ?_
    obtain ⟨r54, e55, hm⟩ := obd_s hm
    refine q_callVv C h (rc_task l D k g N σ 6 x1 r54 e55) (cwV 2 C.2.2.1 (gR_task _) rfl rfl rfl hd_task ⟨Nat.le_of_ble_eq_true rfl, Nat.le_of_ble_eq_true rfl⟩) rfl hl.1 rfl (Nat.le_of_ble_eq_true rfl) dX12_make_311 ⟨Nat.le_of_ble_eq_true rfl, Nat.le_of_ble_eq_true rfl⟩ (fun H locs h => ?_)
    refine lv_aload_n C.1 C.2.1 dX12_make_314 rfl (lv_at hl 0 rfl) ?_
    refine lv_iconst (v := Int32.ofInt 1) C.1 C.2.1 dX12_make_315 (by decide) ?_
    refine lv_aload_n C.1 C.2.1 dX12_make_316 rfl (lv_at hl 0 rfl) ?_
    refine fg_24 C h dX12_make_317 ?_
    refine lv_iload_n C.1 C.2.1 dX12_make_320 rfl (lv_at hl 1 rfl) ?_
    refine al_87 C h dX12_make_321 g1 ?_
    obtain ⟨r56, e57, hm⟩ := obd_s hm
    refine q_callVv C h (rc_task l D k g N r54 1 (el r54 87 x1) r56 e57) (cwV 2 C.2.2.1 (gR_task _) rfl rfl rfl hd_task ⟨Nat.le_of_ble_eq_true rfl, Nat.le_of_ble_eq_true rfl⟩) rfl hl.1 rfl (Nat.le_of_ble_eq_true rfl) dX12_make_322 ⟨Nat.le_of_ble_eq_true rfl, Nat.le_of_ble_eq_true rfl⟩ (fun H locs h => ?_)
    cases hm
    exact q_vret C h hr hlk dX12_make_325
  have hm := ite_f c53 hm
  by_cases c58 : (el σ 94 x1) = 13
  · refine x_topi (congrArg Int32.ofInt c58) ?_
    have hm := ite_t c58 hm
    refine lv_tableIn (tgt := 307) C.1 C.2.1 dX12_make_6 (by decide) (by decide) rfl (by decide) ?_
    refine lv_aload_n C.1 C.2.1 dX12_make_307 rfl (lv_at hl 0 rfl) ?_
    refine lv_bipush (v := Int32.ofInt 6) C.1 C.2.1 dX12_make_308 (by decide) ?_
    refine lv_iload_n C.1 C.2.1 dX12_make_310 rfl (lv_at hl 1 rfl) ?_
    obtain ⟨r59, e60, hm⟩ := obd_s hm
    refine q_callVv C h (rc_task l D k g N σ 6 x1 r59 e60) (cwV 2 C.2.2.1 (gR_task _) rfl rfl rfl hd_task ⟨Nat.le_of_ble_eq_true rfl, Nat.le_of_ble_eq_true rfl⟩) rfl hl.1 rfl (Nat.le_of_ble_eq_true rfl) dX12_make_311 ⟨Nat.le_of_ble_eq_true rfl, Nat.le_of_ble_eq_true rfl⟩ (fun H locs h => ?_)
    refine lv_aload_n C.1 C.2.1 dX12_make_314 rfl (lv_at hl 0 rfl) ?_
    refine lv_iconst (v := Int32.ofInt 1) C.1 C.2.1 dX12_make_315 (by decide) ?_
    refine lv_aload_n C.1 C.2.1 dX12_make_316 rfl (lv_at hl 0 rfl) ?_
    refine fg_24 C h dX12_make_317 ?_
    refine lv_iload_n C.1 C.2.1 dX12_make_320 rfl (lv_at hl 1 rfl) ?_
    refine al_87 C h dX12_make_321 g1 ?_
    obtain ⟨r61, e62, hm⟩ := obd_s hm
    refine q_callVv C h (rc_task l D k g N r59 1 (el r59 87 x1) r61 e62) (cwV 2 C.2.2.1 (gR_task _) rfl rfl rfl hd_task ⟨Nat.le_of_ble_eq_true rfl, Nat.le_of_ble_eq_true rfl⟩) rfl hl.1 rfl (Nat.le_of_ble_eq_true rfl) dX12_make_322 ⟨Nat.le_of_ble_eq_true rfl, Nat.le_of_ble_eq_true rfl⟩ (fun H locs h => ?_)
    cases hm
    exact q_vret C h hr hlk dX12_make_325
  have hm := ite_f c58 hm
  by_cases c63 : (el σ 94 x1) = 14
  · refine x_topi (congrArg Int32.ofInt c63) ?_
    have hm := ite_t c63 hm
    refine lv_tableIn (tgt := 307) C.1 C.2.1 dX12_make_6 (by decide) (by decide) rfl (by decide) ?_
    refine lv_aload_n C.1 C.2.1 dX12_make_307 rfl (lv_at hl 0 rfl) ?_
    refine lv_bipush (v := Int32.ofInt 6) C.1 C.2.1 dX12_make_308 (by decide) ?_
    refine lv_iload_n C.1 C.2.1 dX12_make_310 rfl (lv_at hl 1 rfl) ?_
    obtain ⟨r64, e65, hm⟩ := obd_s hm
    refine q_callVv C h (rc_task l D k g N σ 6 x1 r64 e65) (cwV 2 C.2.2.1 (gR_task _) rfl rfl rfl hd_task ⟨Nat.le_of_ble_eq_true rfl, Nat.le_of_ble_eq_true rfl⟩) rfl hl.1 rfl (Nat.le_of_ble_eq_true rfl) dX12_make_311 ⟨Nat.le_of_ble_eq_true rfl, Nat.le_of_ble_eq_true rfl⟩ (fun H locs h => ?_)
    refine lv_aload_n C.1 C.2.1 dX12_make_314 rfl (lv_at hl 0 rfl) ?_
    refine lv_iconst (v := Int32.ofInt 1) C.1 C.2.1 dX12_make_315 (by decide) ?_
    refine lv_aload_n C.1 C.2.1 dX12_make_316 rfl (lv_at hl 0 rfl) ?_
    refine fg_24 C h dX12_make_317 ?_
    refine lv_iload_n C.1 C.2.1 dX12_make_320 rfl (lv_at hl 1 rfl) ?_
    refine al_87 C h dX12_make_321 g1 ?_
    obtain ⟨r66, e67, hm⟩ := obd_s hm
    refine q_callVv C h (rc_task l D k g N r64 1 (el r64 87 x1) r66 e67) (cwV 2 C.2.2.1 (gR_task _) rfl rfl rfl hd_task ⟨Nat.le_of_ble_eq_true rfl, Nat.le_of_ble_eq_true rfl⟩) rfl hl.1 rfl (Nat.le_of_ble_eq_true rfl) dX12_make_322 ⟨Nat.le_of_ble_eq_true rfl, Nat.le_of_ble_eq_true rfl⟩ (fun H locs h => ?_)
    cases hm
    exact q_vret C h hr hlk dX12_make_325
  have hm := ite_f c63 hm
  by_cases c68 : (el σ 94 x1) = 15
  · refine x_topi (congrArg Int32.ofInt c68) ?_
    have hm := ite_t c68 hm
    refine lv_tableIn (tgt := 307) C.1 C.2.1 dX12_make_6 (by decide) (by decide) rfl (by decide) ?_
    refine lv_aload_n C.1 C.2.1 dX12_make_307 rfl (lv_at hl 0 rfl) ?_
    refine lv_bipush (v := Int32.ofInt 6) C.1 C.2.1 dX12_make_308 (by decide) ?_
    refine lv_iload_n C.1 C.2.1 dX12_make_310 rfl (lv_at hl 1 rfl) ?_
    obtain ⟨r69, e70, hm⟩ := obd_s hm
    refine q_callVv C h (rc_task l D k g N σ 6 x1 r69 e70) (cwV 2 C.2.2.1 (gR_task _) rfl rfl rfl hd_task ⟨Nat.le_of_ble_eq_true rfl, Nat.le_of_ble_eq_true rfl⟩) rfl hl.1 rfl (Nat.le_of_ble_eq_true rfl) dX12_make_311 ⟨Nat.le_of_ble_eq_true rfl, Nat.le_of_ble_eq_true rfl⟩ (fun H locs h => ?_)
    refine lv_aload_n C.1 C.2.1 dX12_make_314 rfl (lv_at hl 0 rfl) ?_
    refine lv_iconst (v := Int32.ofInt 1) C.1 C.2.1 dX12_make_315 (by decide) ?_
    refine lv_aload_n C.1 C.2.1 dX12_make_316 rfl (lv_at hl 0 rfl) ?_
    refine fg_24 C h dX12_make_317 ?_
    refine lv_iload_n C.1 C.2.1 dX12_make_320 rfl (lv_at hl 1 rfl) ?_
    refine al_87 C h dX12_make_321 g1 ?_
    obtain ⟨r71, e72, hm⟩ := obd_s hm
    refine q_callVv C h (rc_task l D k g N r69 1 (el r69 87 x1) r71 e72) (cwV 2 C.2.2.1 (gR_task _) rfl rfl rfl hd_task ⟨Nat.le_of_ble_eq_true rfl, Nat.le_of_ble_eq_true rfl⟩) rfl hl.1 rfl (Nat.le_of_ble_eq_true rfl) dX12_make_322 ⟨Nat.le_of_ble_eq_true rfl, Nat.le_of_ble_eq_true rfl⟩ (fun H locs h => ?_)
    cases hm
    exact q_vret C h hr hlk dX12_make_325
  have hm := ite_f c68 hm
  by_cases c73 : (el σ 94 x1) = 16
  · refine x_topi (congrArg Int32.ofInt c73) ?_
    have hm := ite_t c73 hm
    refine lv_tableIn (tgt := 307) C.1 C.2.1 dX12_make_6 (by decide) (by decide) rfl (by decide) ?_
    refine lv_aload_n C.1 C.2.1 dX12_make_307 rfl (lv_at hl 0 rfl) ?_
    refine lv_bipush (v := Int32.ofInt 6) C.1 C.2.1 dX12_make_308 (by decide) ?_
    refine lv_iload_n C.1 C.2.1 dX12_make_310 rfl (lv_at hl 1 rfl) ?_
    obtain ⟨r74, e75, hm⟩ := obd_s hm
    refine q_callVv C h (rc_task l D k g N σ 6 x1 r74 e75) (cwV 2 C.2.2.1 (gR_task _) rfl rfl rfl hd_task ⟨Nat.le_of_ble_eq_true rfl, Nat.le_of_ble_eq_true rfl⟩) rfl hl.1 rfl (Nat.le_of_ble_eq_true rfl) dX12_make_311 ⟨Nat.le_of_ble_eq_true rfl, Nat.le_of_ble_eq_true rfl⟩ (fun H locs h => ?_)
    refine lv_aload_n C.1 C.2.1 dX12_make_314 rfl (lv_at hl 0 rfl) ?_
    refine lv_iconst (v := Int32.ofInt 1) C.1 C.2.1 dX12_make_315 (by decide) ?_
    refine lv_aload_n C.1 C.2.1 dX12_make_316 rfl (lv_at hl 0 rfl) ?_
    refine fg_24 C h dX12_make_317 ?_
    refine lv_iload_n C.1 C.2.1 dX12_make_320 rfl (lv_at hl 1 rfl) ?_
    refine al_87 C h dX12_make_321 g1 ?_
    obtain ⟨r76, e77, hm⟩ := obd_s hm
    refine q_callVv C h (rc_task l D k g N r74 1 (el r74 87 x1) r76 e77) (cwV 2 C.2.2.1 (gR_task _) rfl rfl rfl hd_task ⟨Nat.le_of_ble_eq_true rfl, Nat.le_of_ble_eq_true rfl⟩) rfl hl.1 rfl (Nat.le_of_ble_eq_true rfl) dX12_make_322 ⟨Nat.le_of_ble_eq_true rfl, Nat.le_of_ble_eq_true rfl⟩ (fun H locs h => ?_)
    cases hm
    exact q_vret C h hr hlk dX12_make_325
  have hm := ite_f c73 hm
  by_cases c78 : (el σ 94 x1) = 17
  · refine x_topi (congrArg Int32.ofInt c78) ?_
    have hm := ite_t c78 hm
    refine lv_tableIn (tgt := 307) C.1 C.2.1 dX12_make_6 (by decide) (by decide) rfl (by decide) ?_
    refine lv_aload_n C.1 C.2.1 dX12_make_307 rfl (lv_at hl 0 rfl) ?_
    refine lv_bipush (v := Int32.ofInt 6) C.1 C.2.1 dX12_make_308 (by decide) ?_
    refine lv_iload_n C.1 C.2.1 dX12_make_310 rfl (lv_at hl 1 rfl) ?_
    obtain ⟨r79, e80, hm⟩ := obd_s hm
    refine q_callVv C h (rc_task l D k g N σ 6 x1 r79 e80) (cwV 2 C.2.2.1 (gR_task _) rfl rfl rfl hd_task ⟨Nat.le_of_ble_eq_true rfl, Nat.le_of_ble_eq_true rfl⟩) rfl hl.1 rfl (Nat.le_of_ble_eq_true rfl) dX12_make_311 ⟨Nat.le_of_ble_eq_true rfl, Nat.le_of_ble_eq_true rfl⟩ (fun H locs h => ?_)
    refine lv_aload_n C.1 C.2.1 dX12_make_314 rfl (lv_at hl 0 rfl) ?_
    refine lv_iconst (v := Int32.ofInt 1) C.1 C.2.1 dX12_make_315 (by decide) ?_
    refine lv_aload_n C.1 C.2.1 dX12_make_316 rfl (lv_at hl 0 rfl) ?_
    refine fg_24 C h dX12_make_317 ?_
    refine lv_iload_n C.1 C.2.1 dX12_make_320 rfl (lv_at hl 1 rfl) ?_
    refine al_87 C h dX12_make_321 g1 ?_
    obtain ⟨r81, e82, hm⟩ := obd_s hm
    refine q_callVv C h (rc_task l D k g N r79 1 (el r79 87 x1) r81 e82) (cwV 2 C.2.2.1 (gR_task _) rfl rfl rfl hd_task ⟨Nat.le_of_ble_eq_true rfl, Nat.le_of_ble_eq_true rfl⟩) rfl hl.1 rfl (Nat.le_of_ble_eq_true rfl) dX12_make_322 ⟨Nat.le_of_ble_eq_true rfl, Nat.le_of_ble_eq_true rfl⟩ (fun H locs h => ?_)
    cases hm
    exact q_vret C h hr hlk dX12_make_325
  have hm := ite_f c78 hm
  by_cases c83 : (el σ 94 x1) = 18
  · refine x_topi (congrArg Int32.ofInt c83) ?_
    have hm := ite_t c83 hm
    refine lv_tableIn (tgt := 307) C.1 C.2.1 dX12_make_6 (by decide) (by decide) rfl (by decide) ?_
    refine lv_aload_n C.1 C.2.1 dX12_make_307 rfl (lv_at hl 0 rfl) ?_
    refine lv_bipush (v := Int32.ofInt 6) C.1 C.2.1 dX12_make_308 (by decide) ?_
    refine lv_iload_n C.1 C.2.1 dX12_make_310 rfl (lv_at hl 1 rfl) ?_
    obtain ⟨r84, e85, hm⟩ := obd_s hm
    refine q_callVv C h (rc_task l D k g N σ 6 x1 r84 e85) (cwV 2 C.2.2.1 (gR_task _) rfl rfl rfl hd_task ⟨Nat.le_of_ble_eq_true rfl, Nat.le_of_ble_eq_true rfl⟩) rfl hl.1 rfl (Nat.le_of_ble_eq_true rfl) dX12_make_311 ⟨Nat.le_of_ble_eq_true rfl, Nat.le_of_ble_eq_true rfl⟩ (fun H locs h => ?_)
    refine lv_aload_n C.1 C.2.1 dX12_make_314 rfl (lv_at hl 0 rfl) ?_
    refine lv_iconst (v := Int32.ofInt 1) C.1 C.2.1 dX12_make_315 (by decide) ?_
    refine lv_aload_n C.1 C.2.1 dX12_make_316 rfl (lv_at hl 0 rfl) ?_
    refine fg_24 C h dX12_make_317 ?_
    refine lv_iload_n C.1 C.2.1 dX12_make_320 rfl (lv_at hl 1 rfl) ?_
    refine al_87 C h dX12_make_321 g1 ?_
    obtain ⟨r86, e87, hm⟩ := obd_s hm
    refine q_callVv C h (rc_task l D k g N r84 1 (el r84 87 x1) r86 e87) (cwV 2 C.2.2.1 (gR_task _) rfl rfl rfl hd_task ⟨Nat.le_of_ble_eq_true rfl, Nat.le_of_ble_eq_true rfl⟩) rfl hl.1 rfl (Nat.le_of_ble_eq_true rfl) dX12_make_322 ⟨Nat.le_of_ble_eq_true rfl, Nat.le_of_ble_eq_true rfl⟩ (fun H locs h => ?_)
    cases hm
    exact q_vret C h hr hlk dX12_make_325
  have hm := ite_f c83 hm
  by_cases c88 : (el σ 94 x1) = 19
  · refine x_topi (congrArg Int32.ofInt c88) ?_
    have hm := ite_t c88 hm
    refine lv_tableIn (tgt := 307) C.1 C.2.1 dX12_make_6 (by decide) (by decide) rfl (by decide) ?_
    refine lv_aload_n C.1 C.2.1 dX12_make_307 rfl (lv_at hl 0 rfl) ?_
    refine lv_bipush (v := Int32.ofInt 6) C.1 C.2.1 dX12_make_308 (by decide) ?_
    refine lv_iload_n C.1 C.2.1 dX12_make_310 rfl (lv_at hl 1 rfl) ?_
    obtain ⟨r89, e90, hm⟩ := obd_s hm
    refine q_callVv C h (rc_task l D k g N σ 6 x1 r89 e90) (cwV 2 C.2.2.1 (gR_task _) rfl rfl rfl hd_task ⟨Nat.le_of_ble_eq_true rfl, Nat.le_of_ble_eq_true rfl⟩) rfl hl.1 rfl (Nat.le_of_ble_eq_true rfl) dX12_make_311 ⟨Nat.le_of_ble_eq_true rfl, Nat.le_of_ble_eq_true rfl⟩ (fun H locs h => ?_)
    refine lv_aload_n C.1 C.2.1 dX12_make_314 rfl (lv_at hl 0 rfl) ?_
    refine lv_iconst (v := Int32.ofInt 1) C.1 C.2.1 dX12_make_315 (by decide) ?_
    refine lv_aload_n C.1 C.2.1 dX12_make_316 rfl (lv_at hl 0 rfl) ?_
    refine fg_24 C h dX12_make_317 ?_
    refine lv_iload_n C.1 C.2.1 dX12_make_320 rfl (lv_at hl 1 rfl) ?_
    refine al_87 C h dX12_make_321 g1 ?_
    obtain ⟨r91, e92, hm⟩ := obd_s hm
    refine q_callVv C h (rc_task l D k g N r89 1 (el r89 87 x1) r91 e92) (cwV 2 C.2.2.1 (gR_task _) rfl rfl rfl hd_task ⟨Nat.le_of_ble_eq_true rfl, Nat.le_of_ble_eq_true rfl⟩) rfl hl.1 rfl (Nat.le_of_ble_eq_true rfl) dX12_make_322 ⟨Nat.le_of_ble_eq_true rfl, Nat.le_of_ble_eq_true rfl⟩ (fun H locs h => ?_)
    cases hm
    exact q_vret C h hr hlk dX12_make_325
  have hm := ite_f c88 hm
  by_cases c93 : (el σ 94 x1) = 20
  · refine x_topi (congrArg Int32.ofInt c93) ?_
    have hm := ite_t c93 hm
    refine lv_tableIn (tgt := 244) C.1 C.2.1 dX12_make_6 (by decide) (by decide) rfl (by decide) ?_
    refine lv_aload_n C.1 C.2.1 dX12_make_244 rfl (lv_at hl 0 rfl) ?_
    refine lv_iconst (v := Int32.ofInt 1) C.1 C.2.1 dX12_make_245 (by decide) ?_
    refine lv_aload_n C.1 C.2.1 dX12_make_246 rfl (lv_at hl 0 rfl) ?_
    refine fg_19 C h dX12_make_247 ?_
    refine lv_iload_n C.1 C.2.1 dX12_make_250 rfl (lv_at hl 1 rfl) ?_
    refine al_92 C h dX12_make_251 g1 ?_
    refine lv_aload_n C.1 C.2.1 dX12_make_252 rfl (lv_at hl 0 rfl) ?_
    refine fg_20 C h dX12_make_253 ?_
    refine lv_iload_n C.1 C.2.1 dX12_make_256 rfl (lv_at hl 1 rfl) ?_
    refine al_91 C h dX12_make_257 g1 ?_
    refine lv_aload_n C.1 C.2.1 dX12_make_258 rfl (lv_at hl 0 rfl) ?_
    refine fg_18 C h dX12_make_259 ?_
    refine lv_iload_n C.1 C.2.1 dX12_make_262 rfl (lv_at hl 1 rfl) ?_
    refine al_93 C h dX12_make_263 g1 ?_
    obtain ⟨r94, e95, hm⟩ := obd_s hm
    refine q_callVv C h (rc_leaf l D k g N σ 1 (el σ 92 x1) (el σ 91 x1) (el σ 93 x1) r94 e95) (cwV 4 C.2.2.1 (gR_leaf _) rfl rfl rfl hd_leaf ⟨Nat.le_of_ble_eq_true rfl, Nat.le_of_ble_eq_true rfl⟩) rfl hl.1 rfl (Nat.le_of_ble_eq_true rfl) dX12_make_264 ⟨Nat.le_of_ble_eq_true rfl, Nat.le_of_ble_eq_true rfl⟩ (fun H locs h => ?_)
    refine lv_goto (tgt := 325) C.1 C.2.1 dX12_make_267 (by decide) ?_
    cases hm
    exact q_vret C h hr hlk dX12_make_325
  have hm := ite_f c93 hm
  by_cases c96 : (el σ 94 x1) = 21
  · refine x_topi (congrArg Int32.ofInt c96) ?_
    have hm := ite_t c96 hm
    refine lv_tableIn (tgt := 270) C.1 C.2.1 dX12_make_6 (by decide) (by decide) rfl (by decide) ?_
    refine lv_aload_n C.1 C.2.1 dX12_make_270 rfl (lv_at hl 0 rfl) ?_
    refine lv_iconst (v := Int32.ofInt 2) C.1 C.2.1 dX12_make_271 (by decide) ?_
    refine lv_aload_n C.1 C.2.1 dX12_make_272 rfl (lv_at hl 0 rfl) ?_
    refine fg_19 C h dX12_make_273 ?_
    refine lv_iload_n C.1 C.2.1 dX12_make_276 rfl (lv_at hl 1 rfl) ?_
    refine al_92 C h dX12_make_277 g1 ?_
    refine lv_iconst (v := Int32.ofInt 0) C.1 C.2.1 dX12_make_278 (by decide) ?_
    refine lv_aload_n C.1 C.2.1 dX12_make_279 rfl (lv_at hl 0 rfl) ?_
    refine fg_18 C h dX12_make_280 ?_
    refine lv_iload_n C.1 C.2.1 dX12_make_283 rfl (lv_at hl 1 rfl) ?_
    refine al_93 C h dX12_make_284 g1 ?_
    obtain ⟨r97, e98, hm⟩ := obd_s hm
    refine q_callVv C h (rc_leaf l D k g N σ 2 (el σ 92 x1) 0 (el σ 93 x1) r97 e98) (cwV 4 C.2.2.1 (gR_leaf _) rfl rfl rfl hd_leaf ⟨Nat.le_of_ble_eq_true rfl, Nat.le_of_ble_eq_true rfl⟩) rfl hl.1 rfl (Nat.le_of_ble_eq_true rfl) dX12_make_285 ⟨Nat.le_of_ble_eq_true rfl, Nat.le_of_ble_eq_true rfl⟩ (fun H locs h => ?_)
    refine lv_goto (tgt := 325) C.1 C.2.1 dX12_make_288 (by decide) ?_
    cases hm
    exact q_vret C h hr hlk dX12_make_325
  have hm := ite_f c96 hm
  by_cases c99 : (el σ 94 x1) = 22
  · refine x_topi (congrArg Int32.ofInt c99) ?_
    have hm := ite_t c99 hm
    refine lv_tableIn (tgt := 291) C.1 C.2.1 dX12_make_6 (by decide) (by decide) rfl (by decide) ?_
    refine lv_aload_n C.1 C.2.1 dX12_make_291 rfl (lv_at hl 0 rfl) ?_
    refine lv_iconst (v := Int32.ofInt 3) C.1 C.2.1 dX12_make_292 (by decide) ?_
    refine lv_iconst (v := Int32.ofInt 0) C.1 C.2.1 dX12_make_293 (by decide) ?_
    refine lv_iconst (v := Int32.ofInt 0) C.1 C.2.1 dX12_make_294 (by decide) ?_
    refine lv_aload_n C.1 C.2.1 dX12_make_295 rfl (lv_at hl 0 rfl) ?_
    refine fg_18 C h dX12_make_296 ?_
    refine lv_iload_n C.1 C.2.1 dX12_make_299 rfl (lv_at hl 1 rfl) ?_
    refine al_93 C h dX12_make_300 g1 ?_
    obtain ⟨r100, e101, hm⟩ := obd_s hm
    refine q_callVv C h (rc_leaf l D k g N σ 3 0 0 (el σ 93 x1) r100 e101) (cwV 4 C.2.2.1 (gR_leaf _) rfl rfl rfl hd_leaf ⟨Nat.le_of_ble_eq_true rfl, Nat.le_of_ble_eq_true rfl⟩) rfl hl.1 rfl (Nat.le_of_ble_eq_true rfl) dX12_make_301 ⟨Nat.le_of_ble_eq_true rfl, Nat.le_of_ble_eq_true rfl⟩ (fun H locs h => ?_)
    refine lv_goto (tgt := 325) C.1 C.2.1 dX12_make_304 (by decide) ?_
    cases hm
    exact q_vret C h hr hlk dX12_make_325
  have hm := ite_f c99 hm
  by_cases c102 : (el σ 94 x1) = 23
  · refine x_topi (congrArg Int32.ofInt c102) ?_
    have hm := ite_t c102 hm
    refine lv_tableIn (tgt := 128) C.1 C.2.1 dX12_make_6 (by decide) (by decide) rfl (by decide) ?_
    refine lv_aload_n C.1 C.2.1 dX12_make_128 rfl (lv_at hl 0 rfl) ?_
    refine lv_iconst (v := Int32.ofInt 5) C.1 C.2.1 dX12_make_129 (by decide) ?_
    refine lv_iload_n C.1 C.2.1 dX12_make_130 rfl (lv_at hl 1 rfl) ?_
    obtain ⟨r103, e104, hm⟩ := obd_s hm
    refine q_callVv C h (rc_task l D k g N σ 5 x1 r103 e104) (cwV 2 C.2.2.1 (gR_task _) rfl rfl rfl hd_task ⟨Nat.le_of_ble_eq_true rfl, Nat.le_of_ble_eq_true rfl⟩) rfl hl.1 rfl (Nat.le_of_ble_eq_true rfl) dX12_make_131 ⟨Nat.le_of_ble_eq_true rfl, Nat.le_of_ble_eq_true rfl⟩ (fun H locs h => ?_)
    refine lv_aload_n C.1 C.2.1 dX12_make_134 rfl (lv_at hl 0 rfl) ?_
    refine lv_iconst (v := Int32.ofInt 4) C.1 C.2.1 dX12_make_135 (by decide) ?_
    refine lv_aload_n C.1 C.2.1 dX12_make_136 rfl (lv_at hl 0 rfl) ?_
    refine fg_24 C h dX12_make_137 ?_
    refine lv_iload_n C.1 C.2.1 dX12_make_140 rfl (lv_at hl 1 rfl) ?_
    refine al_87 C h dX12_make_141 g1 ?_
    obtain ⟨r105, e106, hm⟩ := obd_s hm
    refine q_callVv C h (rc_task l D k g N r103 4 (el r103 87 x1) r105 e106) (cwV 2 C.2.2.1 (gR_task _) rfl rfl rfl hd_task ⟨Nat.le_of_ble_eq_true rfl, Nat.le_of_ble_eq_true rfl⟩) rfl hl.1 rfl (Nat.le_of_ble_eq_true rfl) dX12_make_142 ⟨Nat.le_of_ble_eq_true rfl, Nat.le_of_ble_eq_true rfl⟩ (fun H locs h => ?_)
    refine lv_goto (tgt := 325) C.1 C.2.1 dX12_make_145 (by decide) ?_
    cases hm
    exact q_vret C h hr hlk dX12_make_325
  have hm := ite_f c102 hm
  by_cases c107 : (el σ 94 x1) = 24
  · refine x_topi (congrArg Int32.ofInt c107) ?_
    have hm := ite_t c107 hm
    refine lv_tableIn (tgt := 307) C.1 C.2.1 dX12_make_6 (by decide) (by decide) rfl (by decide) ?_
    refine lv_aload_n C.1 C.2.1 dX12_make_307 rfl (lv_at hl 0 rfl) ?_
    refine lv_bipush (v := Int32.ofInt 6) C.1 C.2.1 dX12_make_308 (by decide) ?_
    refine lv_iload_n C.1 C.2.1 dX12_make_310 rfl (lv_at hl 1 rfl) ?_
    obtain ⟨r108, e109, hm⟩ := obd_s hm
    refine q_callVv C h (rc_task l D k g N σ 6 x1 r108 e109) (cwV 2 C.2.2.1 (gR_task _) rfl rfl rfl hd_task ⟨Nat.le_of_ble_eq_true rfl, Nat.le_of_ble_eq_true rfl⟩) rfl hl.1 rfl (Nat.le_of_ble_eq_true rfl) dX12_make_311 ⟨Nat.le_of_ble_eq_true rfl, Nat.le_of_ble_eq_true rfl⟩ (fun H locs h => ?_)
    refine lv_aload_n C.1 C.2.1 dX12_make_314 rfl (lv_at hl 0 rfl) ?_
    refine lv_iconst (v := Int32.ofInt 1) C.1 C.2.1 dX12_make_315 (by decide) ?_
    refine lv_aload_n C.1 C.2.1 dX12_make_316 rfl (lv_at hl 0 rfl) ?_
    refine fg_24 C h dX12_make_317 ?_
    refine lv_iload_n C.1 C.2.1 dX12_make_320 rfl (lv_at hl 1 rfl) ?_
    refine al_87 C h dX12_make_321 g1 ?_
    obtain ⟨r110, e111, hm⟩ := obd_s hm
    refine q_callVv C h (rc_task l D k g N r108 1 (el r108 87 x1) r110 e111) (cwV 2 C.2.2.1 (gR_task _) rfl rfl rfl hd_task ⟨Nat.le_of_ble_eq_true rfl, Nat.le_of_ble_eq_true rfl⟩) rfl hl.1 rfl (Nat.le_of_ble_eq_true rfl) dX12_make_322 ⟨Nat.le_of_ble_eq_true rfl, Nat.le_of_ble_eq_true rfl⟩ (fun H locs h => ?_)
    cases hm
    exact q_vret C h hr hlk dX12_make_325
  have hm := ite_f c107 hm
  by_cases c112 : (el σ 94 x1) = 25
  · refine x_topi (congrArg Int32.ofInt c112) ?_
    have hm := ite_t c112 hm
    refine lv_tableIn (tgt := 128) C.1 C.2.1 dX12_make_6 (by decide) (by decide) rfl (by decide) ?_
    refine lv_aload_n C.1 C.2.1 dX12_make_128 rfl (lv_at hl 0 rfl) ?_
    refine lv_iconst (v := Int32.ofInt 5) C.1 C.2.1 dX12_make_129 (by decide) ?_
    refine lv_iload_n C.1 C.2.1 dX12_make_130 rfl (lv_at hl 1 rfl) ?_
    obtain ⟨r113, e114, hm⟩ := obd_s hm
    refine q_callVv C h (rc_task l D k g N σ 5 x1 r113 e114) (cwV 2 C.2.2.1 (gR_task _) rfl rfl rfl hd_task ⟨Nat.le_of_ble_eq_true rfl, Nat.le_of_ble_eq_true rfl⟩) rfl hl.1 rfl (Nat.le_of_ble_eq_true rfl) dX12_make_131 ⟨Nat.le_of_ble_eq_true rfl, Nat.le_of_ble_eq_true rfl⟩ (fun H locs h => ?_)
    refine lv_aload_n C.1 C.2.1 dX12_make_134 rfl (lv_at hl 0 rfl) ?_
    refine lv_iconst (v := Int32.ofInt 4) C.1 C.2.1 dX12_make_135 (by decide) ?_
    refine lv_aload_n C.1 C.2.1 dX12_make_136 rfl (lv_at hl 0 rfl) ?_
    refine fg_24 C h dX12_make_137 ?_
    refine lv_iload_n C.1 C.2.1 dX12_make_140 rfl (lv_at hl 1 rfl) ?_
    refine al_87 C h dX12_make_141 g1 ?_
    obtain ⟨r115, e116, hm⟩ := obd_s hm
    refine q_callVv C h (rc_task l D k g N r113 4 (el r113 87 x1) r115 e116) (cwV 2 C.2.2.1 (gR_task _) rfl rfl rfl hd_task ⟨Nat.le_of_ble_eq_true rfl, Nat.le_of_ble_eq_true rfl⟩) rfl hl.1 rfl (Nat.le_of_ble_eq_true rfl) dX12_make_142 ⟨Nat.le_of_ble_eq_true rfl, Nat.le_of_ble_eq_true rfl⟩ (fun H locs h => ?_)
    refine lv_goto (tgt := 325) C.1 C.2.1 dX12_make_145 (by decide) ?_
    cases hm
    exact q_vret C h hr hlk dX12_make_325
  have hm := ite_f c112 hm
  by_cases c117 : (el σ 94 x1) = 26
  · refine x_topi (congrArg Int32.ofInt c117) ?_
    have hm := ite_t c117 hm
    refine lv_tableIn (tgt := 128) C.1 C.2.1 dX12_make_6 (by decide) (by decide) rfl (by decide) ?_
    refine lv_aload_n C.1 C.2.1 dX12_make_128 rfl (lv_at hl 0 rfl) ?_
    refine lv_iconst (v := Int32.ofInt 5) C.1 C.2.1 dX12_make_129 (by decide) ?_
    refine lv_iload_n C.1 C.2.1 dX12_make_130 rfl (lv_at hl 1 rfl) ?_
    obtain ⟨r118, e119, hm⟩ := obd_s hm
    refine q_callVv C h (rc_task l D k g N σ 5 x1 r118 e119) (cwV 2 C.2.2.1 (gR_task _) rfl rfl rfl hd_task ⟨Nat.le_of_ble_eq_true rfl, Nat.le_of_ble_eq_true rfl⟩) rfl hl.1 rfl (Nat.le_of_ble_eq_true rfl) dX12_make_131 ⟨Nat.le_of_ble_eq_true rfl, Nat.le_of_ble_eq_true rfl⟩ (fun H locs h => ?_)
    refine lv_aload_n C.1 C.2.1 dX12_make_134 rfl (lv_at hl 0 rfl) ?_
    refine lv_iconst (v := Int32.ofInt 4) C.1 C.2.1 dX12_make_135 (by decide) ?_
    refine lv_aload_n C.1 C.2.1 dX12_make_136 rfl (lv_at hl 0 rfl) ?_
    refine fg_24 C h dX12_make_137 ?_
    refine lv_iload_n C.1 C.2.1 dX12_make_140 rfl (lv_at hl 1 rfl) ?_
    refine al_87 C h dX12_make_141 g1 ?_
    obtain ⟨r120, e121, hm⟩ := obd_s hm
    refine q_callVv C h (rc_task l D k g N r118 4 (el r118 87 x1) r120 e121) (cwV 2 C.2.2.1 (gR_task _) rfl rfl rfl hd_task ⟨Nat.le_of_ble_eq_true rfl, Nat.le_of_ble_eq_true rfl⟩) rfl hl.1 rfl (Nat.le_of_ble_eq_true rfl) dX12_make_142 ⟨Nat.le_of_ble_eq_true rfl, Nat.le_of_ble_eq_true rfl⟩ (fun H locs h => ?_)
    refine lv_goto (tgt := 325) C.1 C.2.1 dX12_make_145 (by decide) ?_
    cases hm
    exact q_vret C h hr hlk dX12_make_325
  have hm := ite_f c117 hm
  by_cases c122 : (el σ 94 x1) = 27
  · refine x_topi (congrArg Int32.ofInt c122) ?_
    have hm := ite_t c122 hm
    refine lv_tableIn (tgt := 128) C.1 C.2.1 dX12_make_6 (by decide) (by decide) rfl (by decide) ?_
    refine lv_aload_n C.1 C.2.1 dX12_make_128 rfl (lv_at hl 0 rfl) ?_
    refine lv_iconst (v := Int32.ofInt 5) C.1 C.2.1 dX12_make_129 (by decide) ?_
    refine lv_iload_n C.1 C.2.1 dX12_make_130 rfl (lv_at hl 1 rfl) ?_
    obtain ⟨r123, e124, hm⟩ := obd_s hm
    refine q_callVv C h (rc_task l D k g N σ 5 x1 r123 e124) (cwV 2 C.2.2.1 (gR_task _) rfl rfl rfl hd_task ⟨Nat.le_of_ble_eq_true rfl, Nat.le_of_ble_eq_true rfl⟩) rfl hl.1 rfl (Nat.le_of_ble_eq_true rfl) dX12_make_131 ⟨Nat.le_of_ble_eq_true rfl, Nat.le_of_ble_eq_true rfl⟩ (fun H locs h => ?_)
    refine lv_aload_n C.1 C.2.1 dX12_make_134 rfl (lv_at hl 0 rfl) ?_
    refine lv_iconst (v := Int32.ofInt 4) C.1 C.2.1 dX12_make_135 (by decide) ?_
    refine lv_aload_n C.1 C.2.1 dX12_make_136 rfl (lv_at hl 0 rfl) ?_
    refine fg_24 C h dX12_make_137 ?_
    refine lv_iload_n C.1 C.2.1 dX12_make_140 rfl (lv_at hl 1 rfl) ?_
    refine al_87 C h dX12_make_141 g1 ?_
    obtain ⟨r125, e126, hm⟩ := obd_s hm
    refine q_callVv C h (rc_task l D k g N r123 4 (el r123 87 x1) r125 e126) (cwV 2 C.2.2.1 (gR_task _) rfl rfl rfl hd_task ⟨Nat.le_of_ble_eq_true rfl, Nat.le_of_ble_eq_true rfl⟩) rfl hl.1 rfl (Nat.le_of_ble_eq_true rfl) dX12_make_142 ⟨Nat.le_of_ble_eq_true rfl, Nat.le_of_ble_eq_true rfl⟩ (fun H locs h => ?_)
    refine lv_goto (tgt := 325) C.1 C.2.1 dX12_make_145 (by decide) ?_
    cases hm
    exact q_vret C h hr hlk dX12_make_325
  have hm := ite_f c122 hm
  refine lv_tableOut (tgt := 307) C.1 C.2.1 dX12_make_6 (by rw [c32_ti g2]; omega) (by decide) ?_
  refine lv_aload_n C.1 C.2.1 dX12_make_307 rfl (lv_at hl 0 rfl) ?_
  refine lv_bipush (v := Int32.ofInt 6) C.1 C.2.1 dX12_make_308 (by decide) ?_
  refine lv_iload_n C.1 C.2.1 dX12_make_310 rfl (lv_at hl 1 rfl) ?_
  obtain ⟨r127, e128, hm⟩ := obd_s hm
  refine q_callVv C h (rc_task l D k g N σ 6 x1 r127 e128) (cwV 2 C.2.2.1 (gR_task _) rfl rfl rfl hd_task ⟨Nat.le_of_ble_eq_true rfl, Nat.le_of_ble_eq_true rfl⟩) rfl hl.1 rfl (Nat.le_of_ble_eq_true rfl) dX12_make_311 ⟨Nat.le_of_ble_eq_true rfl, Nat.le_of_ble_eq_true rfl⟩ (fun H locs h => ?_)
  refine lv_aload_n C.1 C.2.1 dX12_make_314 rfl (lv_at hl 0 rfl) ?_
  refine lv_iconst (v := Int32.ofInt 1) C.1 C.2.1 dX12_make_315 (by decide) ?_
  refine lv_aload_n C.1 C.2.1 dX12_make_316 rfl (lv_at hl 0 rfl) ?_
  refine fg_24 C h dX12_make_317 ?_
  refine lv_iload_n C.1 C.2.1 dX12_make_320 rfl (lv_at hl 1 rfl) ?_
  refine al_87 C h dX12_make_321 g1 ?_
  obtain ⟨r129, e130, hm⟩ := obd_s hm
  refine q_callVv C h (rc_task l D k g N r127 1 (el r127 87 x1) r129 e130) (cwV 2 C.2.2.1 (gR_task _) rfl rfl rfl hd_task ⟨Nat.le_of_ble_eq_true rfl, Nat.le_of_ble_eq_true rfl⟩) rfl hl.1 rfl (Nat.le_of_ble_eq_true rfl) dX12_make_322 ⟨Nat.le_of_ble_eq_true rfl, Nat.le_of_ble_eq_true rfl⟩ (fun H locs h => ?_)
  cases hm
  exact q_vret C h hr hlk dX12_make_325
end L_make
section L_row
variable {p : Program} {l : Launch} {e : Env} {s : State} {m : MethodId} {args : Array Value} {below : List Frame} {meth : Method} {c : Code} {D : va_G} {A : Nat → Prop} {k : Nat → ClassId} {g : Nat → Nat} {N : Nat} {cd : Cond}
set_option maxHeartbeats 4000000 in
set_option maxRecDepth 100000 in
theorem lm_row_209 {r : St} (C : Cx p s m args c cX12_row RX12 (cd :: rW) D (TYs k) 7) (hr : meth.sig.returnType = none) (hlk : meth.locks = false) {rec144 : St → Int → Int → Int → Option St} (hrec144 : ∀ {ls : Array Slot} {H : Heap} {locs : List Loc} {σ : St} {x1 : Int} {x4 : Int} {x5 : Int}, lv_has ls 7 [(0, .ref (g 0)), (1, .int (Int32.ofInt x1)), (4, .int (Int32.ofInt x4)), (5, .int (Int32.ofInt x5))] → Hp D A s.heap H locs (mW k g σ) → rec144 σ x1 x4 x5 = some r → W p l e { frames := 4, cells := 0, slots := 0, locals := 103 } s m args below meth c H locs 0 0 (MQ below (va_Qv (fun (_ : Unit) => True) (fun _ t => PostW D (TYs k) A (mW k g r) t) A) args s 0 0 A) (F0 m 144 ls [])) {ls : Array Slot} {H : Heap} {locs : List Loc} {σ : St} {x1 : Int} {x4 : Int} {x5 : Int} {s0 : Int} {s1 : Int} {s2 : Int} (hl : lv_has ls 7 [(0, .ref (g 0)), (1, .int (Int32.ofInt x1)), (4, .int (Int32.ofInt x4)), (5, .int (Int32.ofInt x5))]) (h : Hp D A s.heap H locs (mW k g σ)) (hm : r_row_209 N rec144 σ x1 x4 x5 s0 s1 s2 = some r) : W p l e { frames := 4, cells := 0, slots := 0, locals := 103 } s m args below meth c H locs 0 0 (MQ below (va_Qv (fun (_ : Unit) => True) (fun _ t => PostW D (TYs k) A (mW k g r) t) A) args s 0 0 A) (F0 m 209 ls [.int (Int32.ofInt s0), .int (Int32.ofInt s1), .int (Int32.ofInt s2), .ref (g 0)]) := by
  rw [r_row_209] at hm
  obtain ⟨r44, e45, hm⟩ := obd_s hm
  refine q_callVv C h (rc_addKid l D k g N σ s2 s1 s0 r44 e45) (cwV 3 C.2.2.1 (gR_addKid _) rfl rfl rfl hd_addKid ⟨Nat.le_of_ble_eq_true rfl, Nat.le_of_ble_eq_true rfl⟩) rfl hl.1 rfl (Nat.le_of_ble_eq_true rfl) dX12_row_209 ⟨Nat.le_of_ble_eq_true rfl, Nat.le_of_ble_eq_true rfl⟩ (fun H locs h => ?_)
  refine lv_iinc (v := Int32.ofInt (x4 + 1)) (lv' := [(4, .int (Int32.ofInt (x4 + 1))), (0, .ref (g 0)), (1, .int (Int32.ofInt x1)), (5, .int (Int32.ofInt x5))]) C.1 C.2.1 dX12_row_212 hl (k := 2) rfl (c32_add _ _) (by decide) rfl (fun ls hl => ?_)
  refine lv_aload_n C.1 C.2.1 dX12_row_215 rfl (lv_at hl 1 rfl) ?_
  refine fg_26 C h dX12_row_216 ?_
  refine lv_iload C.1 C.2.1 dX12_row_219 (lv_at hl 3 rfl) ?_
  obtain ⟨g46, hm⟩ := grd_s hm
  refine al_85 C h dX12_row_221 g46 ?_
  obtain ⟨v47, e48, hm⟩ := bnd_s hm
  rw [e48]
  refine lv_istore (lv' := [(5, .int (Int32.ofInt v47)), (4, .int (Int32.ofInt (x4 + 1))), (0, .ref (g 0)), (1, .int (Int32.ofInt x1))]) C.1 C.2.1 dX12_row_222 hl (by decide) rfl (fun ls hl => ?_)
  refine lv_goto (tgt := 144) C.1 C.2.1 dX12_row_224 (by decide) ?_
  exact hrec144 (lv_sub hl [2, 3, 1, 0] rfl) h hm
set_option maxHeartbeats 4000000 in
set_option maxRecDepth 100000 in
theorem lm_row_193 {r : St} (C : Cx p s m args c cX12_row RX12 (cd :: rW) D (TYs k) 7) (hr : meth.sig.returnType = none) (hlk : meth.locks = false) {rec144 : St → Int → Int → Int → Option St} (hrec144 : ∀ {ls : Array Slot} {H : Heap} {locs : List Loc} {σ : St} {x1 : Int} {x4 : Int} {x5 : Int}, lv_has ls 7 [(0, .ref (g 0)), (1, .int (Int32.ofInt x1)), (4, .int (Int32.ofInt x4)), (5, .int (Int32.ofInt x5))] → Hp D A s.heap H locs (mW k g σ) → rec144 σ x1 x4 x5 = some r → W p l e { frames := 4, cells := 0, slots := 0, locals := 103 } s m args below meth c H locs 0 0 (MQ below (va_Qv (fun (_ : Unit) => True) (fun _ t => PostW D (TYs k) A (mW k g r) t) A) args s 0 0 A) (F0 m 144 ls [])) {ls : Array Slot} {H : Heap} {locs : List Loc} {σ : St} {x1 : Int} {x4 : Int} {x5 : Int} {x6 : Int} {s0 : Int} {s1 : Int} (hl : lv_has ls 7 [(0, .ref (g 0)), (1, .int (Int32.ofInt x1)), (4, .int (Int32.ofInt x4)), (5, .int (Int32.ofInt x5)), (6, .int (Int32.ofInt x6))]) (h : Hp D A s.heap H locs (mW k g σ)) (hm : r_row_193 N rec144 σ x1 x4 x5 x6 s0 s1 = some r) : W p l e { frames := 4, cells := 0, slots := 0, locals := 103 } s m args below meth c H locs 0 0 (MQ below (va_Qv (fun (_ : Unit) => True) (fun _ t => PostW D (TYs k) A (mW k g r) t) A) args s 0 0 A) (F0 m 193 ls [.int (Int32.ofInt s0), .int (Int32.ofInt s1), .ref (g 0)]) := by
  rw [r_row_193] at hm
  refine lv_iload C.1 C.2.1 dX12_row_193 (lv_at hl 4 rfl) ?_
  obtain ⟨g41, hm⟩ := grd_s hm
  refine z_if_eq (tgt := 208) C dX12_row_195 (by decide) g41 (fun c42 => ?_) (fun c42 => ?_)
  · have hm := ite_t c42 hm
    refine lv_iconst (v := Int32.ofInt 1) C.1 C.2.1 dX12_row_208 (by decide) ?_
    exact lm_row_209 (N := N) C hr hlk hrec144 (lv_sub hl [0, 1, 2, 3] rfl) h hm
  · have hm := ite_f c42 hm
    refine lv_aload_n C.1 C.2.1 dX12_row_198 rfl (lv_at hl 0 rfl) ?_
    refine fg_20 C h dX12_row_199 ?_
    refine lv_iload C.1 C.2.1 dX12_row_202 (lv_at hl 3 rfl) ?_
    obtain ⟨g43, hm⟩ := grd_s hm
    refine al_91 C h dX12_row_204 g43 ?_
    refine lv_goto (tgt := 209) C.1 C.2.1 dX12_row_205 (by decide) ?_
    exact lm_row_209 (N := N) C hr hlk hrec144 (lv_sub hl [0, 1, 2, 3] rfl) h hm
set_option maxHeartbeats 4000000 in
set_option maxRecDepth 100000 in
theorem lm_row_167 {r : St} (C : Cx p s m args c cX12_row RX12 (cd :: rW) D (TYs k) 7) (hr : meth.sig.returnType = none) (hlk : meth.locks = false) {rec144 : St → Int → Int → Int → Option St} (hrec144 : ∀ {ls : Array Slot} {H : Heap} {locs : List Loc} {σ : St} {x1 : Int} {x4 : Int} {x5 : Int}, lv_has ls 7 [(0, .ref (g 0)), (1, .int (Int32.ofInt x1)), (4, .int (Int32.ofInt x4)), (5, .int (Int32.ofInt x5))] → Hp D A s.heap H locs (mW k g σ) → rec144 σ x1 x4 x5 = some r → W p l e { frames := 4, cells := 0, slots := 0, locals := 103 } s m args below meth c H locs 0 0 (MQ below (va_Qv (fun (_ : Unit) => True) (fun _ t => PostW D (TYs k) A (mW k g r) t) A) args s 0 0 A) (F0 m 144 ls [])) {ls : Array Slot} {H : Heap} {locs : List Loc} {σ : St} {x1 : Int} {x4 : Int} {x5 : Int} {s0 : Int} (hl : lv_has ls 7 [(0, .ref (g 0)), (1, .int (Int32.ofInt x1)), (4, .int (Int32.ofInt x4)), (5, .int (Int32.ofInt x5))]) (h : Hp D A s.heap H locs (mW k g σ)) (hm : r_row_167 N rec144 σ x1 x4 x5 s0 = some r) : W p l e { frames := 4, cells := 0, slots := 0, locals := 103 } s m args below meth c H locs 0 0 (MQ below (va_Qv (fun (_ : Unit) => True) (fun _ t => PostW D (TYs k) A (mW k g r) t) A) args s 0 0 A) (F0 m 167 ls [.int (Int32.ofInt s0)]) := by
  rw [r_row_167] at hm
  refine lv_istore (lv' := [(6, .int (Int32.ofInt s0)), (0, .ref (g 0)), (1, .int (Int32.ofInt x1)), (4, .int (Int32.ofInt x4)), (5, .int (Int32.ofInt x5))]) C.1 C.2.1 dX12_row_167 hl (by decide) rfl (fun ls hl => ?_)
  refine lv_aload_n C.1 C.2.1 dX12_row_169 rfl (lv_at hl 1 rfl) ?_
  refine lv_aload_n C.1 C.2.1 dX12_row_170 rfl (lv_at hl 1 rfl) ?_
  refine fg_69 C h dX12_row_171 ?_
  refine lv_iload C.1 C.2.1 dX12_row_174 (lv_at hl 3 rfl) ?_
  obtain ⟨g37, hm⟩ := grd_s hm
  refine al_54 C h dX12_row_176 g37 ?_
  refine lv_iload C.1 C.2.1 dX12_row_177 (lv_at hl 0 rfl) ?_
  obtain ⟨g38, hm⟩ := grd_s hm
  refine z_if_eq (tgt := 192) C dX12_row_179 (by decide) g38 (fun c39 => ?_) (fun c39 => ?_)
  · have hm := ite_t c39 hm
    refine lv_iconst (v := Int32.ofInt 1) C.1 C.2.1 dX12_row_192 (by decide) ?_
    exact lm_row_193 (N := N) C hr hlk hrec144 (lv_sub hl [1, 2, 3, 4, 0] rfl) h hm
  · have hm := ite_f c39 hm
    refine lv_aload_n C.1 C.2.1 dX12_row_182 rfl (lv_at hl 1 rfl) ?_
    refine fg_19 C h dX12_row_183 ?_
    refine lv_iload C.1 C.2.1 dX12_row_186 (lv_at hl 4 rfl) ?_
    obtain ⟨g40, hm⟩ := grd_s hm
    refine al_92 C h dX12_row_188 g40 ?_
    refine lv_goto (tgt := 193) C.1 C.2.1 dX12_row_189 (by decide) ?_
    exact lm_row_193 (N := N) C hr hlk hrec144 (lv_sub hl [1, 2, 3, 4, 0] rfl) h hm
set_option maxHeartbeats 4000000 in
set_option maxRecDepth 100000 in
theorem lm_row_144 {r : St} (C : Cx p s m args c cX12_row RX12 (cd :: rW) D (TYs k) 7) (hr : meth.sig.returnType = none) (hlk : meth.locks = false)  (n : Nat) : ∀ {ls : Array Slot} {H : Heap} {locs : List Loc} {σ : St} {x1 : Int} {x4 : Int} {x5 : Int}, lv_has ls 7 [(0, .ref (g 0)), (1, .int (Int32.ofInt x1)), (4, .int (Int32.ofInt x4)), (5, .int (Int32.ofInt x5))] → Hp D A s.heap H locs (mW k g σ) → r_row_144 N  n σ x1 x4 x5 = some r → W p l e { frames := 4, cells := 0, slots := 0, locals := 103 } s m args below meth c H locs 0 0 (MQ below (va_Qv (fun (_ : Unit) => True) (fun _ t => PostW D (TYs k) A (mW k g r) t) A) args s 0 0 A) (F0 m 144 ls []) := by
  induction n with
  | zero => intro ls H locs σ x1 x4 x5 hl h hm; cases (show none = some r from hm)
  | succ n hrec144 =>
    intro ls H locs σ x1 x4 x5 hl h hm
    rw [r_row_144] at hm
    refine lv_iload C.1 C.2.1 dX12_row_144 (lv_at hl 3 rfl) ?_
    refine lv_iconst (v := Int32.ofInt (-1)) C.1 C.2.1 dX12_row_146 (by decide) ?_
    obtain ⟨g29, hm⟩ := grd_s hm
    refine z_icmp_eq (tgt := 227) C dX12_row_147 (by decide) g29 (by decide) (fun c30 => ?_) (fun c30 => ?_)
    · have hm := ite_t c30 hm
      refine lv_aload_n C.1 C.2.1 dX12_row_227 rfl (lv_at hl 0 rfl) ?_
      refine lv_aload_n C.1 C.2.1 dX12_row_228 rfl (lv_at hl 0 rfl) ?_
      refine fg_18 C h dX12_row_229 ?_
      refine lv_iload_n C.1 C.2.1 dX12_row_232 rfl (lv_at hl 1 rfl) ?_
      obtain ⟨g31, hm⟩ := grd_s hm
      refine al_93 C h dX12_row_233 g31 ?_
      obtain ⟨r32, e33, hm⟩ := obd_s hm
      refine q_callVv C h (rc_made l D k g N σ (el σ 93 x1) r32 e33) (cwV 1 C.2.2.1 (gR_made _) rfl rfl rfl hd_made ⟨Nat.le_of_ble_eq_true rfl, Nat.le_of_ble_eq_true rfl⟩) rfl hl.1 rfl (Nat.le_of_ble_eq_true rfl) dX12_row_234 ⟨Nat.le_of_ble_eq_true rfl, Nat.le_of_ble_eq_true rfl⟩ (fun H locs h => ?_)
      cases hm
      exact q_vret C h hr hlk dX12_row_237
    · have hm := ite_f c30 hm
      refine lv_aload_n C.1 C.2.1 dX12_row_150 rfl (lv_at hl 0 rfl) ?_
      refine fg_17 C h dX12_row_151 ?_
      refine lv_iload C.1 C.2.1 dX12_row_154 (lv_at hl 3 rfl) ?_
      obtain ⟨g34, hm⟩ := grd_s hm
      refine al_94 C h dX12_row_156 g34 ?_
      refine lv_bipush (v := Int32.ofInt 24) C.1 C.2.1 dX12_row_157 (by decide) ?_
      obtain ⟨g35, hm⟩ := grd_s hm
      refine z_icmp_ne (tgt := 166) C dX12_row_159 (by decide) g35 (by decide) (fun c36 => ?_) (fun c36 => ?_)
      · have hm := ite_f c36 hm
        refine lv_iconst (v := Int32.ofInt 0) C.1 C.2.1 dX12_row_166 (by decide) ?_
        exact lm_row_167 (N := N) C hr hlk hrec144 (lv_sub hl [0, 1, 2, 3] rfl) h hm
      · have hm := ite_t c36 hm
        refine lv_iconst (v := Int32.ofInt 1) C.1 C.2.1 dX12_row_162 (by decide) ?_
        refine lv_goto (tgt := 167) C.1 C.2.1 dX12_row_163 (by decide) ?_
        exact lm_row_167 (N := N) C hr hlk hrec144 (lv_sub hl [0, 1, 2, 3] rfl) h hm
set_option maxHeartbeats 4000000 in
set_option maxRecDepth 100000 in
theorem lm_row_118 {r : St} (C : Cx p s m args c cX12_row RX12 (cd :: rW) D (TYs k) 7) (hr : meth.sig.returnType = none) (hlk : meth.locks = false)  {ls : Array Slot} {H : Heap} {locs : List Loc} {σ : St} {x1 : Int} {s0 : Int} (hl : lv_has ls 7 [(0, .ref (g 0)), (1, .int (Int32.ofInt x1))]) (h : Hp D A s.heap H locs (mW k g σ)) (hm : r_row_118 N  σ x1 s0 = some r) : W p l e { frames := 4, cells := 0, slots := 0, locals := 103 } s m args below meth c H locs 0 0 (MQ below (va_Qv (fun (_ : Unit) => True) (fun _ t => PostW D (TYs k) A (mW k g r) t) A) args s 0 0 A) (F0 m 118 ls [.int (Int32.ofInt s0), .ref (g 0)]) := by
  rw [r_row_118] at hm
  refine lv_aload_n C.1 C.2.1 dX12_row_118 rfl (lv_at hl 0 rfl) ?_
  refine fg_19 C h dX12_row_119 ?_
  refine lv_iload_n C.1 C.2.1 dX12_row_122 rfl (lv_at hl 1 rfl) ?_
  obtain ⟨g24, hm⟩ := grd_s hm
  refine al_92 C h dX12_row_123 g24 ?_
  refine lv_iconst (v := Int32.ofInt 0) C.1 C.2.1 dX12_row_124 (by decide) ?_
  refine lv_iconst (v := Int32.ofInt 0) C.1 C.2.1 dX12_row_125 (by decide) ?_
  refine lv_iconst (v := Int32.ofInt 0) C.1 C.2.1 dX12_row_126 (by decide) ?_
  obtain ⟨r25, e26, hm⟩ := obd_s hm
  refine q_callVv C h (rc_opens l D k g N σ s0 (el σ 92 x1) 0 0 0 r25 e26) (cwV 5 C.2.2.1 (gR_opens _) rfl rfl rfl hd_opens ⟨Nat.le_of_ble_eq_true rfl, Nat.le_of_ble_eq_true rfl⟩) rfl hl.1 rfl (Nat.le_of_ble_eq_true rfl) dX12_row_127 ⟨Nat.le_of_ble_eq_true rfl, Nat.le_of_ble_eq_true rfl⟩ (fun H locs h => ?_)
  refine lv_aload_n C.1 C.2.1 dX12_row_130 rfl (lv_at hl 0 rfl) ?_
  refine fg_68 C h dX12_row_131 ?_
  refine lv_istore (lv' := [(4, .int (Int32.ofInt (fl r25 68 0))), (0, .ref (g 0)), (1, .int (Int32.ofInt x1))]) C.1 C.2.1 dX12_row_134 hl (by decide) rfl (fun ls hl => ?_)
  refine lv_aload_n C.1 C.2.1 dX12_row_136 rfl (lv_at hl 1 rfl) ?_
  refine fg_24 C h dX12_row_137 ?_
  refine lv_iload_n C.1 C.2.1 dX12_row_140 rfl (lv_at hl 2 rfl) ?_
  refine al_87 C h dX12_row_141 g24 ?_
  obtain ⟨v27, e28, hm⟩ := bnd_s hm
  rw [e28]
  refine lv_istore (lv' := [(5, .int (Int32.ofInt v27)), (4, .int (Int32.ofInt (fl r25 68 0))), (0, .ref (g 0)), (1, .int (Int32.ofInt x1))]) C.1 C.2.1 dX12_row_142 hl (by decide) rfl (fun ls hl => ?_)
  exact lm_row_144 (N := N) C hr hlk  N (lv_sub hl [2, 3, 1, 0] rfl) h hm
set_option maxHeartbeats 4000000 in
set_option maxRecDepth 100000 in
theorem lm_row_91 {r : St} (C : Cx p s m args c cX12_row RX12 (cd :: rW) D (TYs k) 7) (hr : meth.sig.returnType = none) (hlk : meth.locks = false)  {ls : Array Slot} {H : Heap} {locs : List Loc} {σ : St} {x1 : Int} (hl : lv_has ls 7 [(0, .ref (g 0)), (1, .int (Int32.ofInt x1))]) (h : Hp D A s.heap H locs (mW k g σ)) (hm : r_row_91 N  σ x1 = some r) : W p l e { frames := 4, cells := 0, slots := 0, locals := 103 } s m args below meth c H locs 0 0 (MQ below (va_Qv (fun (_ : Unit) => True) (fun _ t => PostW D (TYs k) A (mW k g r) t) A) args s 0 0 A) (F0 m 91 ls [.ref (g 0)]) := by
  rw [r_row_91] at hm
  refine lv_iconst (v := Int32.ofInt 5) C.1 C.2.1 dX12_row_91 (by decide) ?_
  refine lv_goto (tgt := 118) C.1 C.2.1 dX12_row_92 (by decide) ?_
  exact lm_row_118 (N := N) C hr hlk  (lv_sub hl [0, 1] rfl) h hm
set_option maxHeartbeats 4000000 in
set_option maxRecDepth 100000 in
theorem lm_row_61 {r : St} (C : Cx p s m args c cX12_row RX12 (cd :: rW) D (TYs k) 7) (hr : meth.sig.returnType = none) (hlk : meth.locks = false)  {ls : Array Slot} {H : Heap} {locs : List Loc} {σ : St} {x1 : Int} {x2 : Int} {x3 : Int} (hl : lv_has ls 7 [(0, .ref (g 0)), (1, .int (Int32.ofInt x1)), (2, .int (Int32.ofInt x2)), (3, .int (Int32.ofInt x3))]) (h : Hp D A s.heap H locs (mW k g σ)) (hm : r_row_61 N  σ x1 x2 x3 = some r) : W p l e { frames := 4, cells := 0, slots := 0, locals := 103 } s m args below meth c H locs 0 0 (MQ below (va_Qv (fun (_ : Unit) => True) (fun _ t => PostW D (TYs k) A (mW k g r) t) A) args s 0 0 A) (F0 m 61 ls []) := by
  rw [r_row_61] at hm
  refine lv_aload_n C.1 C.2.1 dX12_row_61 rfl (lv_at hl 0 rfl) ?_
  refine fg_11 C h dX12_row_62 ?_
  obtain ⟨g17, hm⟩ := grd_s hm
  refine z_if_eq (tgt := 69) C dX12_row_65 (by decide) g17 (fun c18 => ?_) (fun c18 => ?_)
  · have hm := ite_t c18 hm
    refine lv_aload_n C.1 C.2.1 dX12_row_69 rfl (lv_at hl 0 rfl) ?_
    refine lv_dup C.1 C.2.1 dX12_row_70 rfl ?_
    refine fg_68 C h dX12_row_71 ?_
    refine lv_iload_n C.1 C.2.1 dX12_row_74 rfl (lv_at hl 3 rfl) ?_
    refine z_isub C dX12_row_75 ?_
    refine fp_68 C h dX12_row_76 (fun H locs h => ?_)
    refine lv_aload_n C.1 C.2.1 dX12_row_79 rfl (lv_at hl 0 rfl) ?_
    refine lv_iload_n C.1 C.2.1 dX12_row_80 rfl (lv_at hl 2 rfl) ?_
    refine lv_iconst (v := Int32.ofInt 1) C.1 C.2.1 dX12_row_81 (by decide) ?_
    obtain ⟨g19, hm⟩ := grd_s hm
    refine z_icmp_eq (tgt := 91) C dX12_row_82 (by decide) g19 (by decide) (fun c20 => ?_) (fun c20 => ?_)
    · have hm := ite_t c20 hm
      exact lm_row_91 (N := N) C hr hlk  (lv_sub hl [0, 1] rfl) h hm
    · have hm := ite_f c20 hm
      refine lv_iload_n C.1 C.2.1 dX12_row_85 rfl (lv_at hl 2 rfl) ?_
      refine lv_bipush (v := Int32.ofInt 25) C.1 C.2.1 dX12_row_86 (by decide) ?_
      refine z_icmp_ne (tgt := 95) C dX12_row_88 (by decide) g19 (by decide) (fun c21 => ?_) (fun c21 => ?_)
      · have hm := ite_f c21 hm
        refine lv_iload_n C.1 C.2.1 dX12_row_95 rfl (lv_at hl 2 rfl) ?_
        refine lv_bipush (v := Int32.ofInt 23) C.1 C.2.1 dX12_row_96 (by decide) ?_
        refine z_icmp_ne (tgt := 105) C dX12_row_98 (by decide) g19 (by decide) (fun c22 => ?_) (fun c22 => ?_)
        · have hm := ite_f c22 hm
          refine lv_iload_n C.1 C.2.1 dX12_row_105 rfl (lv_at hl 2 rfl) ?_
          refine lv_bipush (v := Int32.ofInt 27) C.1 C.2.1 dX12_row_106 (by decide) ?_
          refine z_icmp_ne (tgt := 116) C dX12_row_108 (by decide) g19 (by decide) (fun c23 => ?_) (fun c23 => ?_)
          · have hm := ite_f c23 hm
            refine lv_bipush (v := Int32.ofInt 6) C.1 C.2.1 dX12_row_116 (by decide) ?_
            exact lm_row_118 (N := N) C hr hlk  (lv_sub hl [0, 1] rfl) h hm
          · have hm := ite_t c23 hm
            refine lv_bipush (v := Int32.ofInt 7) C.1 C.2.1 dX12_row_111 (by decide) ?_
            refine lv_goto (tgt := 118) C.1 C.2.1 dX12_row_113 (by decide) ?_
            exact lm_row_118 (N := N) C hr hlk  (lv_sub hl [0, 1] rfl) h hm
        · have hm := ite_t c22 hm
          refine lv_iconst (v := Int32.ofInt 4) C.1 C.2.1 dX12_row_101 (by decide) ?_
          refine lv_goto (tgt := 118) C.1 C.2.1 dX12_row_102 (by decide) ?_
          exact lm_row_118 (N := N) C hr hlk  (lv_sub hl [0, 1] rfl) h hm
      · have hm := ite_t c21 hm
        exact lm_row_91 (N := N) C hr hlk  (lv_sub hl [0, 1] rfl) h hm
  · have hm := ite_f c18 hm
    cases hm
    exact q_vret C h hr hlk dX12_row_68
set_option maxHeartbeats 4000000 in
set_option maxRecDepth 100000 in
theorem lm_row_48 {r : St} (C : Cx p s m args c cX12_row RX12 (cd :: rW) D (TYs k) 7) (hr : meth.sig.returnType = none) (hlk : meth.locks = false)  {ls : Array Slot} {H : Heap} {locs : List Loc} {σ : St} {x1 : Int} {x2 : Int} {x3 : Int} (hl : lv_has ls 7 [(0, .ref (g 0)), (1, .int (Int32.ofInt x1)), (2, .int (Int32.ofInt x2)), (3, .int (Int32.ofInt x3))]) (h : Hp D A s.heap H locs (mW k g σ)) (hm : r_row_48 N  σ x1 x2 x3 = some r) : W p l e { frames := 4, cells := 0, slots := 0, locals := 103 } s m args below meth c H locs 0 0 (MQ below (va_Qv (fun (_ : Unit) => True) (fun _ t => PostW D (TYs k) A (mW k g r) t) A) args s 0 0 A) (F0 m 48 ls []) := by
  rw [r_row_48] at hm
  refine lv_aload_n C.1 C.2.1 dX12_row_48 rfl (lv_at hl 0 rfl) ?_
  refine lv_aload_n C.1 C.2.1 dX12_row_49 rfl (lv_at hl 0 rfl) ?_
  refine fg_18 C h dX12_row_50 ?_
  refine lv_iload_n C.1 C.2.1 dX12_row_53 rfl (lv_at hl 1 rfl) ?_
  obtain ⟨g14, hm⟩ := grd_s hm
  refine al_93 C h dX12_row_54 g14 ?_
  refine lv_iload_n C.1 C.2.1 dX12_row_55 rfl (lv_at hl 3 rfl) ?_
  refine lv_iconst (v := Int32.ofInt 2) C.1 C.2.1 dX12_row_56 (by decide) ?_
  refine z_isub C dX12_row_57 ?_
  obtain ⟨r15, e16, hm⟩ := obd_s hm
  refine q_callVv C h (rc_counts l D k g N σ (el σ 93 x1) (x3 - 2) r15 e16) (cwV 2 C.2.2.1 (gR_counts _) rfl rfl rfl hd_counts ⟨Nat.le_of_ble_eq_true rfl, Nat.le_of_ble_eq_true rfl⟩) rfl hl.1 rfl (Nat.le_of_ble_eq_true rfl) dX12_row_58 ⟨Nat.le_of_ble_eq_true rfl, Nat.le_of_ble_eq_true rfl⟩ (fun H locs h => ?_)
  exact lm_row_61 (N := N) C hr hlk  (lv_sub hl [0, 1, 2, 3] rfl) h hm
set_option maxHeartbeats 4000000 in
set_option maxRecDepth 100000 in
theorem lm_row_17 {r : St} (C : Cx p s m args c cX12_row RX12 (cd :: rW) D (TYs k) 7) (hr : meth.sig.returnType = none) (hlk : meth.locks = false)  (n : Nat) : ∀ {ls : Array Slot} {H : Heap} {locs : List Loc} {σ : St} {x1 : Int} {x2 : Int} {x3 : Int} {x4 : Int}, lv_has ls 7 [(0, .ref (g 0)), (1, .int (Int32.ofInt x1)), (2, .int (Int32.ofInt x2)), (3, .int (Int32.ofInt x3)), (4, .int (Int32.ofInt x4))] → Hp D A s.heap H locs (mW k g σ) → r_row_17 N  n σ x1 x2 x3 x4 = some r → W p l e { frames := 4, cells := 0, slots := 0, locals := 103 } s m args below meth c H locs 0 0 (MQ below (va_Qv (fun (_ : Unit) => True) (fun _ t => PostW D (TYs k) A (mW k g r) t) A) args s 0 0 A) (F0 m 17 ls []) := by
  induction n with
  | zero => intro ls H locs σ x1 x2 x3 x4 hl h hm; cases (show none = some r from hm)
  | succ n hrec17 =>
    intro ls H locs σ x1 x2 x3 x4 hl h hm
    rw [r_row_17] at hm
    refine lv_iload C.1 C.2.1 dX12_row_17 (lv_at hl 4 rfl) ?_
    refine lv_iconst (v := Int32.ofInt (-1)) C.1 C.2.1 dX12_row_19 (by decide) ?_
    obtain ⟨g6, hm⟩ := grd_s hm
    refine z_icmp_eq (tgt := 38) C dX12_row_20 (by decide) g6 (by decide) (fun c7 => ?_) (fun c7 => ?_)
    · have hm := ite_t c7 hm
      refine lv_iload_n C.1 C.2.1 dX12_row_38 rfl (lv_at hl 2 rfl) ?_
      refine lv_iconst (v := Int32.ofInt 1) C.1 C.2.1 dX12_row_39 (by decide) ?_
      obtain ⟨g8, hm⟩ := grd_s hm
      refine z_icmp_eq (tgt := 48) C dX12_row_40 (by decide) g8 (by decide) (fun c9 => ?_) (fun c9 => ?_)
      · have hm := ite_t c9 hm
        exact lm_row_48 (N := N) C hr hlk  (lv_sub hl [0, 1, 2, 3] rfl) h hm
      · have hm := ite_f c9 hm
        refine lv_iload_n C.1 C.2.1 dX12_row_43 rfl (lv_at hl 2 rfl) ?_
        refine lv_iconst (v := Int32.ofInt 2) C.1 C.2.1 dX12_row_44 (by decide) ?_
        refine z_icmp_ne (tgt := 61) C dX12_row_45 (by decide) g8 (by decide) (fun c10 => ?_) (fun c10 => ?_)
        · have hm := ite_f c10 hm
          exact lm_row_61 (N := N) C hr hlk  (lv_sub hl [0, 1, 2, 3] rfl) h hm
        · have hm := ite_t c10 hm
          exact lm_row_48 (N := N) C hr hlk  (lv_sub hl [0, 1, 2, 3] rfl) h hm
    · have hm := ite_f c7 hm
      refine lv_iinc (v := Int32.ofInt (x3 + 1)) (lv' := [(3, .int (Int32.ofInt (x3 + 1))), (0, .ref (g 0)), (1, .int (Int32.ofInt x1)), (2, .int (Int32.ofInt x2)), (4, .int (Int32.ofInt x4))]) C.1 C.2.1 dX12_row_23 hl (k := 3) rfl (c32_add _ _) (by decide) rfl (fun ls hl => ?_)
      refine lv_aload_n C.1 C.2.1 dX12_row_26 rfl (lv_at hl 1 rfl) ?_
      refine fg_26 C h dX12_row_27 ?_
      refine lv_iload C.1 C.2.1 dX12_row_30 (lv_at hl 4 rfl) ?_
      obtain ⟨g11, hm⟩ := grd_s hm
      refine al_85 C h dX12_row_32 g11 ?_
      obtain ⟨v12, e13, hm⟩ := bnd_s hm
      rw [e13]
      refine lv_istore (lv' := [(4, .int (Int32.ofInt v12)), (3, .int (Int32.ofInt (x3 + 1))), (0, .ref (g 0)), (1, .int (Int32.ofInt x1)), (2, .int (Int32.ofInt x2))]) C.1 C.2.1 dX12_row_33 hl (by decide) rfl (fun ls hl => ?_)
      refine lv_goto (tgt := 17) C.1 C.2.1 dX12_row_35 (by decide) ?_
      exact hrec17 (lv_sub hl [2, 3, 4, 1, 0] rfl) h hm
set_option maxHeartbeats 4000000 in
set_option maxRecDepth 100000 in
theorem rc_row (l : Launch) (D : va_G) (k : Nat → ClassId) (g : Nat → Nat) (N : Nat) (σ : St) (x1 : Int) (r : St) (hm : r_row N σ x1 = some r) : Mv l yX12_row (.code yX12_row cX12_row 7 none :: rW) { frames := 4, cells := 0, slots := 0, locals := 103 } [.ref (g 0), .int (Int32.ofInt x1)] D (TYs k) (mW k g σ) (fun _ => True) Unit (fun _ => True) (fun _ => mW k g r) 0 0 := by
  intro sz
  refine x_met (cc := cX12_row) (maxL := 7) (ret := none) (by decide) rfl (Nat.le_of_ble_eq_true rfl) ?_
  intro p e s m below meth c ls C hX hsz hr hlk hmn hl h
  have hl : lv_has ls 7 [(0, .ref (g 0)), (1, .int (Int32.ofInt x1))] := hl
  rw [r_row] at hm
  refine lv_aload_n C.1 C.2.1 dX12_row_0 rfl (lv_at hl 0 rfl) ?_
  refine fg_17 C h dX12_row_1 ?_
  refine lv_iload_n C.1 C.2.1 dX12_row_4 rfl (lv_at hl 1 rfl) ?_
  obtain ⟨g1, hm⟩ := grd_s hm
  refine al_94 C h dX12_row_5 g1 ?_
  obtain ⟨v2, e3, hm⟩ := bnd_s hm
  rw [e3]
  refine lv_istore_n (lv' := [(2, .int (Int32.ofInt v2)), (0, .ref (g 0)), (1, .int (Int32.ofInt x1))]) C.1 C.2.1 dX12_row_6 rfl hl (by decide) rfl (fun ls hl => ?_)
  refine lv_iconst (v := Int32.ofInt 0) C.1 C.2.1 dX12_row_7 (by decide) ?_
  refine lv_istore_n (lv' := [(3, .int (Int32.ofInt 0)), (2, .int (Int32.ofInt v2)), (0, .ref (g 0)), (1, .int (Int32.ofInt x1))]) C.1 C.2.1 dX12_row_8 rfl hl (by decide) rfl (fun ls hl => ?_)
  refine lv_aload_n C.1 C.2.1 dX12_row_9 rfl (lv_at hl 2 rfl) ?_
  refine fg_24 C h dX12_row_10 ?_
  refine lv_iload_n C.1 C.2.1 dX12_row_13 rfl (lv_at hl 3 rfl) ?_
  refine al_87 C h dX12_row_14 g1 ?_
  obtain ⟨v4, e5, hm⟩ := bnd_s hm
  rw [e5]
  refine lv_istore (lv' := [(4, .int (Int32.ofInt v4)), (3, .int (Int32.ofInt 0)), (2, .int (Int32.ofInt v2)), (0, .ref (g 0)), (1, .int (Int32.ofInt x1))]) C.1 C.2.1 dX12_row_15 hl (by decide) rfl (fun ls hl => ?_)
  exact lm_row_17 (N := N) C hr hlk  N (lv_sub hl [3, 4, 2, 1, 0] rfl) h hm
end L_row
section L_terms
variable {p : Program} {l : Launch} {e : Env} {s : State} {m : MethodId} {args : Array Value} {below : List Frame} {meth : Method} {c : Code} {D : va_G} {A : Nat → Prop} {k : Nat → ClassId} {g : Nat → Nat} {N : Nat} {cd : Cond}
set_option maxHeartbeats 4000000 in
set_option maxRecDepth 100000 in
theorem lm_terms_32 {r : St} (C : Cx p s m args c cX12_terms RX12 (cd :: rW) D (TYs k) 2) (hr : meth.sig.returnType = none) (hlk : meth.locks = false)  {ls : Array Slot} {H : Heap} {locs : List Loc} {σ : St} {x1 : Int} (hl : lv_has ls 2 [(0, .ref (g 0)), (1, .int (Int32.ofInt x1))]) (h : Hp D A s.heap H locs (mW k g σ)) (hm : r_terms_32 N  σ x1 = some r) : W p l e { frames := 1, cells := 0, slots := 0, locals := 22 } s m args below meth c H locs 0 0 (MQ below (va_Qv (fun (_ : Unit) => True) (fun _ t => PostW D (TYs k) A (mW k g r) t) A) args s 0 0 A) (F0 m 32 ls []) := by
  rw [r_terms_32] at hm
  refine lv_aload_n C.1 C.2.1 dX12_terms_32 rfl (lv_at hl 0 rfl) ?_
  refine lv_iconst (v := Int32.ofInt 1) C.1 C.2.1 dX12_terms_33 (by decide) ?_
  refine lv_aload_n C.1 C.2.1 dX12_terms_34 rfl (lv_at hl 0 rfl) ?_
  refine fg_24 C h dX12_terms_35 ?_
  refine lv_iload_n C.1 C.2.1 dX12_terms_38 rfl (lv_at hl 1 rfl) ?_
  obtain ⟨g10, hm⟩ := grd_s hm
  refine al_87 C h dX12_terms_39 g10 ?_
  obtain ⟨r11, e12, hm⟩ := obd_s hm
  refine q_callVv C h (rc_task l D k g N σ 1 (el σ 87 x1) r11 e12) (cwV 2 C.2.2.1 (gR_task _) rfl rfl rfl hd_task ⟨Nat.le_of_ble_eq_true rfl, Nat.le_of_ble_eq_true rfl⟩) rfl hl.1 rfl (Nat.le_of_ble_eq_true rfl) dX12_terms_40 ⟨Nat.le_of_ble_eq_true rfl, Nat.le_of_ble_eq_true rfl⟩ (fun H locs h => ?_)
  cases hm
  exact q_vret C h hr hlk dX12_terms_43
set_option maxHeartbeats 4000000 in
set_option maxRecDepth 100000 in
theorem rc_terms (l : Launch) (D : va_G) (k : Nat → ClassId) (g : Nat → Nat) (N : Nat) (σ : St) (x1 : Int) (r : St) (hm : r_terms N σ x1 = some r) : Mv l yX12_terms (.code yX12_terms cX12_terms 2 none :: rW) { frames := 1, cells := 0, slots := 0, locals := 22 } [.ref (g 0), .int (Int32.ofInt x1)] D (TYs k) (mW k g σ) (fun _ => True) Unit (fun _ => True) (fun _ => mW k g r) 0 0 := by
  intro sz
  refine x_met (cc := cX12_terms) (maxL := 2) (ret := none) (by decide) rfl (Nat.le_of_ble_eq_true rfl) ?_
  intro p e s m below meth c ls C hX hsz hr hlk hmn hl h
  have hl : lv_has ls 2 [(0, .ref (g 0)), (1, .int (Int32.ofInt x1))] := hl
  rw [r_terms] at hm
  refine lv_iload_n C.1 C.2.1 dX12_terms_0 rfl (lv_at hl 1 rfl) ?_
  refine lv_iconst (v := Int32.ofInt (-1)) C.1 C.2.1 dX12_terms_1 (by decide) ?_
  obtain ⟨g1, hm⟩ := grd_s hm
  refine z_icmp_ne (tgt := 6) C dX12_terms_2 (by decide) g1 (by decide) (fun c2 => ?_) (fun c2 => ?_)
  · have hm := ite_f c2 hm
    refine lv_aload_n C.1 C.2.1 dX12_terms_6 rfl (lv_at hl 0 rfl) ?_
    refine lv_iconst (v := Int32.ofInt 2) C.1 C.2.1 dX12_terms_7 (by decide) ?_
    refine lv_aload_n C.1 C.2.1 dX12_terms_8 rfl (lv_at hl 0 rfl) ?_
    refine fg_26 C h dX12_terms_9 ?_
    refine lv_iload_n C.1 C.2.1 dX12_terms_12 rfl (lv_at hl 1 rfl) ?_
    obtain ⟨g3, hm⟩ := grd_s hm
    refine al_85 C h dX12_terms_13 g3 ?_
    obtain ⟨r4, e5, hm⟩ := obd_s hm
    refine q_callVv C h (rc_task l D k g N σ 2 (el σ 85 x1) r4 e5) (cwV 2 C.2.2.1 (gR_task _) rfl rfl rfl hd_task ⟨Nat.le_of_ble_eq_true rfl, Nat.le_of_ble_eq_true rfl⟩) rfl hl.1 rfl (Nat.le_of_ble_eq_true rfl) dX12_terms_14 ⟨Nat.le_of_ble_eq_true rfl, Nat.le_of_ble_eq_true rfl⟩ (fun H locs h => ?_)
    refine lv_aload_n C.1 C.2.1 dX12_terms_17 rfl (lv_at hl 0 rfl) ?_
    refine fg_19 C h dX12_terms_18 ?_
    refine lv_iload_n C.1 C.2.1 dX12_terms_21 rfl (lv_at hl 1 rfl) ?_
    refine al_92 C h dX12_terms_22 g3 ?_
    obtain ⟨g6, hm⟩ := grd_s hm
    refine z_if_eq (tgt := 32) C dX12_terms_23 (by decide) g6 (fun c7 => ?_) (fun c7 => ?_)
    · have hm := ite_t c7 hm
      exact lm_terms_32 (N := N) C hr hlk  (lv_sub hl [0, 1] rfl) h hm
    · have hm := ite_f c7 hm
      refine lv_aload_n C.1 C.2.1 dX12_terms_26 rfl (lv_at hl 0 rfl) ?_
      refine lv_iconst (v := Int32.ofInt 3) C.1 C.2.1 dX12_terms_27 (by decide) ?_
      refine lv_iload_n C.1 C.2.1 dX12_terms_28 rfl (lv_at hl 1 rfl) ?_
      obtain ⟨r8, e9, hm⟩ := obd_s hm
      refine q_callVv C h (rc_task l D k g N r4 3 x1 r8 e9) (cwV 2 C.2.2.1 (gR_task _) rfl rfl rfl hd_task ⟨Nat.le_of_ble_eq_true rfl, Nat.le_of_ble_eq_true rfl⟩) rfl hl.1 rfl (Nat.le_of_ble_eq_true rfl) dX12_terms_29 ⟨Nat.le_of_ble_eq_true rfl, Nat.le_of_ble_eq_true rfl⟩ (fun H locs h => ?_)
      exact lm_terms_32 (N := N) C hr hlk  (lv_sub hl [0, 1] rfl) h hm
  · have hm := ite_t c2 hm
    cases hm
    exact q_vret C h hr hlk dX12_terms_5
end L_terms
section L_does
variable {p : Program} {l : Launch} {e : Env} {s : State} {m : MethodId} {args : Array Value} {below : List Frame} {meth : Method} {c : Code} {D : va_G} {A : Nat → Prop} {k : Nat → ClassId} {g : Nat → Nat} {N : Nat} {cd : Cond}
set_option maxHeartbeats 4000000 in
set_option maxRecDepth 100000 in
theorem lm_does_186 {r : St} (C : Cx p s m args c cX12_does RX12 (cd :: rW) D (TYs k) 5) (hr : meth.sig.returnType = none) (hlk : meth.locks = false)  {ls : Array Slot} {H : Heap} {locs : List Loc} {σ : St} {s0 : Int} {s1 : Int} (hl : lv_has ls 5 []) (h : Hp D A s.heap H locs (mW k g σ)) (hm : r_does_186 N  σ s0 s1 = some r) : W p l e { frames := 8, cells := 0, slots := 0, locals := 201 } s m args below meth c H locs 0 0 (MQ below (va_Qv (fun (_ : Unit) => True) (fun _ t => PostW D (TYs k) A (mW k g r) t) A) args s 0 0 A) (F0 m 186 ls [.int (Int32.ofInt s0), .int (Int32.ofInt s1), .ref (g 0)]) := by
  rw [r_does_186] at hm
  obtain ⟨r112, e113, hm⟩ := obd_s hm
  refine q_callVv C h (rc_task l D k g N σ s1 s0 r112 e113) (cwV 2 C.2.2.1 (gR_task _) rfl rfl rfl hd_task ⟨Nat.le_of_ble_eq_true rfl, Nat.le_of_ble_eq_true rfl⟩) rfl hl.1 rfl (Nat.le_of_ble_eq_true rfl) dX12_does_186 ⟨Nat.le_of_ble_eq_true rfl, Nat.le_of_ble_eq_true rfl⟩ (fun H locs h => ?_)
  refine lv_goto (tgt := 516) C.1 C.2.1 dX12_does_189 (by decide) ?_
  cases hm
  exact q_vret C h hr hlk dX12_does_516
set_option maxHeartbeats 4000000 in
set_option maxRecDepth 100000 in
theorem lm_does_279 {r : St} (C : Cx p s m args c cX12_does RX12 (cd :: rW) D (TYs k) 5) (hr : meth.sig.returnType = none) (hlk : meth.locks = false)  {ls : Array Slot} {H : Heap} {locs : List Loc} {σ : St} {x2 : Int} (hl : lv_has ls 5 [(0, .ref (g 0)), (2, .int (Int32.ofInt x2))]) (h : Hp D A s.heap H locs (mW k g σ)) (hm : r_does_279 N  σ x2 = some r) : W p l e { frames := 8, cells := 0, slots := 0, locals := 201 } s m args below meth c H locs 0 0 (MQ below (va_Qv (fun (_ : Unit) => True) (fun _ t => PostW D (TYs k) A (mW k g r) t) A) args s 0 0 A) (F0 m 279 ls []) := by
  rw [r_does_279] at hm
  refine lv_aload_n C.1 C.2.1 dX12_does_279 rfl (lv_at hl 0 rfl) ?_
  refine lv_iconst (v := Int32.ofInt 1) C.1 C.2.1 dX12_does_280 (by decide) ?_
  refine lv_iload_n C.1 C.2.1 dX12_does_281 rfl (lv_at hl 1 rfl) ?_
  obtain ⟨r114, e115, hm⟩ := obd_s hm
  refine q_callVv C h (rc_task l D k g N σ 1 x2 r114 e115) (cwV 2 C.2.2.1 (gR_task _) rfl rfl rfl hd_task ⟨Nat.le_of_ble_eq_true rfl, Nat.le_of_ble_eq_true rfl⟩) rfl hl.1 rfl (Nat.le_of_ble_eq_true rfl) dX12_does_282 ⟨Nat.le_of_ble_eq_true rfl, Nat.le_of_ble_eq_true rfl⟩ (fun H locs h => ?_)
  refine lv_goto (tgt := 516) C.1 C.2.1 dX12_does_285 (by decide) ?_
  cases hm
  exact q_vret C h hr hlk dX12_does_516
set_option maxHeartbeats 4000000 in
set_option maxRecDepth 100000 in
theorem rc_does (l : Launch) (D : va_G) (k : Nat → ClassId) (g : Nat → Nat) (N : Nat) (σ : St) (x1 : Int) (x2 : Int) (r : St) (hm : r_does N σ x1 x2 = some r) : Mv l yX12_does (.code yX12_does cX12_does 5 none :: rW) { frames := 8, cells := 0, slots := 0, locals := 201 } [.ref (g 0), .int (Int32.ofInt x1), .int (Int32.ofInt x2)] D (TYs k) (mW k g σ) (fun _ => True) Unit (fun _ => True) (fun _ => mW k g r) 0 0 := by
  intro sz
  refine x_met (cc := cX12_does) (maxL := 5) (ret := none) (by decide) rfl (Nat.le_of_ble_eq_true rfl) ?_
  intro p e s m below meth c ls C hX hsz hr hlk hmn hl h
  have hl : lv_has ls 5 [(0, .ref (g 0)), (1, .int (Int32.ofInt x1)), (2, .int (Int32.ofInt x2))] := hl
  rw [r_does] at hm
  refine lv_iload_n C.1 C.2.1 dX12_does_0 rfl (lv_at hl 1 rfl) ?_
  obtain ⟨g1, hm⟩ := grd_s hm
  by_cases c2 : x1 = 1
  · refine x_topi (congrArg Int32.ofInt c2) ?_
    have hm := ite_t c2 hm
    refine lv_tableIn (tgt := 104) C.1 C.2.1 dX12_does_1 (by decide) (by decide) rfl (by decide) ?_
    refine lv_aload_n C.1 C.2.1 dX12_does_104 rfl (lv_at hl 0 rfl) ?_
    refine lv_iload_n C.1 C.2.1 dX12_does_105 rfl (lv_at hl 2 rfl) ?_
    obtain ⟨r3, e4, hm⟩ := obd_s hm
    refine q_callVv C h (rc_make l D k g N σ x2 r3 e4) (cwV 1 C.2.2.1 (gR_make _) rfl rfl rfl hd_make ⟨Nat.le_of_ble_eq_true rfl, Nat.le_of_ble_eq_true rfl⟩) rfl hl.1 rfl (Nat.le_of_ble_eq_true rfl) dX12_does_106 ⟨Nat.le_of_ble_eq_true rfl, Nat.le_of_ble_eq_true rfl⟩ (fun H locs h => ?_)
    refine lv_goto (tgt := 516) C.1 C.2.1 dX12_does_109 (by decide) ?_
    cases hm
    exact q_vret C h hr hlk dX12_does_516
  have hm := ite_f c2 hm
  by_cases c5 : x1 = 2
  · refine x_topi (congrArg Int32.ofInt c5) ?_
    have hm := ite_t c5 hm
    refine lv_tableIn (tgt := 112) C.1 C.2.1 dX12_does_1 (by decide) (by decide) rfl (by decide) ?_
    refine lv_aload_n C.1 C.2.1 dX12_does_112 rfl (lv_at hl 0 rfl) ?_
    refine lv_iload_n C.1 C.2.1 dX12_does_113 rfl (lv_at hl 2 rfl) ?_
    obtain ⟨r6, e7, hm⟩ := obd_s hm
    refine q_callVv C h (rc_terms l D k g N σ x2 r6 e7) (cwV 1 C.2.2.1 (gR_terms _) rfl rfl rfl hd_terms ⟨Nat.le_of_ble_eq_true rfl, Nat.le_of_ble_eq_true rfl⟩) rfl hl.1 rfl (Nat.le_of_ble_eq_true rfl) dX12_does_114 ⟨Nat.le_of_ble_eq_true rfl, Nat.le_of_ble_eq_true rfl⟩ (fun H locs h => ?_)
    refine lv_goto (tgt := 516) C.1 C.2.1 dX12_does_117 (by decide) ?_
    cases hm
    exact q_vret C h hr hlk dX12_does_516
  have hm := ite_f c5 hm
  by_cases c8 : x1 = 3
  · refine x_topi (congrArg Int32.ofInt c8) ?_
    have hm := ite_t c8 hm
    refine lv_tableIn (tgt := 120) C.1 C.2.1 dX12_does_1 (by decide) (by decide) rfl (by decide) ?_
    refine lv_aload_n C.1 C.2.1 dX12_does_120 rfl (lv_at hl 0 rfl) ?_
    refine lv_bipush (v := Int32.ofInt 25) C.1 C.2.1 dX12_does_121 (by decide) ?_
    refine lv_aload_n C.1 C.2.1 dX12_does_123 rfl (lv_at hl 0 rfl) ?_
    refine fg_19 C h dX12_does_124 ?_
    refine lv_iload_n C.1 C.2.1 dX12_does_127 rfl (lv_at hl 2 rfl) ?_
    obtain ⟨g9, hm⟩ := grd_s hm
    refine al_92 C h dX12_does_128 g9 ?_
    refine lv_iconst (v := Int32.ofInt 0) C.1 C.2.1 dX12_does_129 (by decide) ?_
    refine lv_iconst (v := Int32.ofInt 0) C.1 C.2.1 dX12_does_130 (by decide) ?_
    refine lv_iconst (v := Int32.ofInt 0) C.1 C.2.1 dX12_does_131 (by decide) ?_
    refine lv_aload_n C.1 C.2.1 dX12_does_132 rfl (lv_at hl 0 rfl) ?_
    refine fg_18 C h dX12_does_133 ?_
    refine lv_iload_n C.1 C.2.1 dX12_does_136 rfl (lv_at hl 2 rfl) ?_
    refine al_93 C h dX12_does_137 g9 ?_
    obtain ⟨r10, e11, hm⟩ := obd_s hm
    refine q_callVv C h (rc_two l D k g N σ 25 (el σ 92 x2) 0 0 0 (el σ 93 x2) r10 e11) (cwV 6 C.2.2.1 (gR_two _) rfl rfl rfl hd_two ⟨Nat.le_of_ble_eq_true rfl, Nat.le_of_ble_eq_true rfl⟩) rfl hl.1 rfl (Nat.le_of_ble_eq_true rfl) dX12_does_138 ⟨Nat.le_of_ble_eq_true rfl, Nat.le_of_ble_eq_true rfl⟩ (fun H locs h => ?_)
    refine lv_goto (tgt := 516) C.1 C.2.1 dX12_does_141 (by decide) ?_
    cases hm
    exact q_vret C h hr hlk dX12_does_516
  have hm := ite_f c8 hm
  by_cases c12 : x1 = 4
  · refine x_topi (congrArg Int32.ofInt c12) ?_
    have hm := ite_t c12 hm
    refine lv_tableIn (tgt := 144) C.1 C.2.1 dX12_does_1 (by decide) (by decide) rfl (by decide) ?_
    refine lv_iload_n C.1 C.2.1 dX12_does_144 rfl (lv_at hl 2 rfl) ?_
    refine lv_iconst (v := Int32.ofInt (-1)) C.1 C.2.1 dX12_does_145 (by decide) ?_
    obtain ⟨g13, hm⟩ := grd_s hm
    refine z_icmp_ne (tgt := 152) C dX12_does_146 (by decide) g13 (by decide) (fun c14 => ?_) (fun c14 => ?_)
    · have hm := ite_f c14 hm
      refine lv_aload_n C.1 C.2.1 dX12_does_152 rfl (lv_at hl 0 rfl) ?_
      refine lv_iconst (v := Int32.ofInt 4) C.1 C.2.1 dX12_does_153 (by decide) ?_
      refine lv_aload_n C.1 C.2.1 dX12_does_154 rfl (lv_at hl 0 rfl) ?_
      refine fg_26 C h dX12_does_155 ?_
      refine lv_iload_n C.1 C.2.1 dX12_does_158 rfl (lv_at hl 2 rfl) ?_
      obtain ⟨g15, hm⟩ := grd_s hm
      refine al_85 C h dX12_does_159 g15 ?_
      obtain ⟨r16, e17, hm⟩ := obd_s hm
      refine q_callVv C h (rc_task l D k g N σ 4 (el σ 85 x2) r16 e17) (cwV 2 C.2.2.1 (gR_task _) rfl rfl rfl hd_task ⟨Nat.le_of_ble_eq_true rfl, Nat.le_of_ble_eq_true rfl⟩) rfl hl.1 rfl (Nat.le_of_ble_eq_true rfl) dX12_does_160 ⟨Nat.le_of_ble_eq_true rfl, Nat.le_of_ble_eq_true rfl⟩ (fun H locs h => ?_)
      refine lv_aload_n C.1 C.2.1 dX12_does_163 rfl (lv_at hl 0 rfl) ?_
      refine lv_iconst (v := Int32.ofInt 1) C.1 C.2.1 dX12_does_164 (by decide) ?_
      refine lv_aload_n C.1 C.2.1 dX12_does_165 rfl (lv_at hl 0 rfl) ?_
      refine fg_17 C h dX12_does_166 ?_
      refine lv_iload_n C.1 C.2.1 dX12_does_169 rfl (lv_at hl 2 rfl) ?_
      refine al_94 C h dX12_does_170 g15 ?_
      refine lv_bipush (v := Int32.ofInt 24) C.1 C.2.1 dX12_does_171 (by decide) ?_
      obtain ⟨g18, hm⟩ := grd_s hm
      refine z_icmp_ne (tgt := 185) C dX12_does_173 (by decide) g18 (by decide) (fun c19 => ?_) (fun c19 => ?_)
      · have hm := ite_f c19 hm
        refine lv_iload_n C.1 C.2.1 dX12_does_185 rfl (lv_at hl 2 rfl) ?_
        exact lm_does_186 (N := N) C hr hlk  (lv_sub hl [] rfl) h hm
      · have hm := ite_t c19 hm
        refine lv_aload_n C.1 C.2.1 dX12_does_176 rfl (lv_at hl 0 rfl) ?_
        refine fg_24 C h dX12_does_177 ?_
        refine lv_iload_n C.1 C.2.1 dX12_does_180 rfl (lv_at hl 2 rfl) ?_
        refine al_87 C h dX12_does_181 g15 ?_
        refine lv_goto (tgt := 186) C.1 C.2.1 dX12_does_182 (by decide) ?_
        exact lm_does_186 (N := N) C hr hlk  (lv_sub hl [] rfl) h hm
    · have hm := ite_t c14 hm
      refine lv_goto (tgt := 516) C.1 C.2.1 dX12_does_149 (by decide) ?_
      cases hm
      exact q_vret C h hr hlk dX12_does_516
  have hm := ite_f c12 hm
  by_cases c20 : x1 = 5
  · refine x_topi (congrArg Int32.ofInt c20) ?_
    have hm := ite_t c20 hm
    refine lv_tableIn (tgt := 192) C.1 C.2.1 dX12_does_1 (by decide) (by decide) rfl (by decide) ?_
    refine lv_aload_n C.1 C.2.1 dX12_does_192 rfl (lv_at hl 0 rfl) ?_
    refine lv_iload_n C.1 C.2.1 dX12_does_193 rfl (lv_at hl 2 rfl) ?_
    obtain ⟨r21, e22, hm⟩ := obd_s hm
    refine q_callVv C h (rc_row l D k g N σ x2 r21 e22) (cwV 1 C.2.2.1 (gR_row _) rfl rfl rfl hd_row ⟨Nat.le_of_ble_eq_true rfl, Nat.le_of_ble_eq_true rfl⟩) rfl hl.1 rfl (Nat.le_of_ble_eq_true rfl) dX12_does_194 ⟨Nat.le_of_ble_eq_true rfl, Nat.le_of_ble_eq_true rfl⟩ (fun H locs h => ?_)
    refine lv_goto (tgt := 516) C.1 C.2.1 dX12_does_197 (by decide) ?_
    cases hm
    exact q_vret C h hr hlk dX12_does_516
  have hm := ite_f c20 hm
  by_cases c23 : x1 = 6
  · refine x_topi (congrArg Int32.ofInt c23) ?_
    have hm := ite_t c23 hm
    refine lv_tableIn (tgt := 200) C.1 C.2.1 dX12_does_1 (by decide) (by decide) rfl (by decide) ?_
    refine lv_aload_n C.1 C.2.1 dX12_does_200 rfl (lv_at hl 0 rfl) ?_
    refine lv_iload_n C.1 C.2.1 dX12_does_201 rfl (lv_at hl 2 rfl) ?_
    obtain ⟨r24, e25, hm⟩ := obd_s hm
    refine q_callVv C h (rc_changeOf l D k g N σ x2 r24 e25) (cwV 1 C.2.2.1 (gR_changeOf _) rfl rfl rfl hd_changeOf ⟨Nat.le_of_ble_eq_true rfl, Nat.le_of_ble_eq_true rfl⟩) rfl hl.1 rfl (Nat.le_of_ble_eq_true rfl) dX12_does_202 ⟨Nat.le_of_ble_eq_true rfl, Nat.le_of_ble_eq_true rfl⟩ (fun H locs h => ?_)
    refine lv_goto (tgt := 516) C.1 C.2.1 dX12_does_205 (by decide) ?_
    cases hm
    exact q_vret C h hr hlk dX12_does_516
  have hm := ite_f c23 hm
  by_cases c26 : x1 = 7
  · refine x_topi (congrArg Int32.ofInt c26) ?_
    have hm := ite_t c26 hm
    refine lv_tableIn (tgt := 208) C.1 C.2.1 dX12_does_1 (by decide) (by decide) rfl (by decide) ?_
    refine lv_aload_n C.1 C.2.1 dX12_does_208 rfl (lv_at hl 0 rfl) ?_
    refine lv_iload_n C.1 C.2.1 dX12_does_209 rfl (lv_at hl 2 rfl) ?_
    obtain ⟨r27, e28, hm⟩ := obd_s hm
    refine q_callVv C h (rc_arguments l D k g N σ x2 r27 e28) (cwV 1 C.2.2.1 (gR_arguments _) rfl rfl rfl hd_arguments ⟨Nat.le_of_ble_eq_true rfl, Nat.le_of_ble_eq_true rfl⟩) rfl hl.1 rfl (Nat.le_of_ble_eq_true rfl) dX12_does_210 ⟨Nat.le_of_ble_eq_true rfl, Nat.le_of_ble_eq_true rfl⟩ (fun H locs h => ?_)
    refine lv_goto (tgt := 516) C.1 C.2.1 dX12_does_213 (by decide) ?_
    cases hm
    exact q_vret C h hr hlk dX12_does_516
  have hm := ite_f c26 hm
  by_cases c29 : x1 = 8
  · refine x_topi (congrArg Int32.ofInt c29) ?_
    have hm := ite_t c29 hm
    refine lv_tableIn (tgt := 216) C.1 C.2.1 dX12_does_1 (by decide) (by decide) rfl (by decide) ?_
    refine lv_aload_n C.1 C.2.1 dX12_does_216 rfl (lv_at hl 0 rfl) ?_
    refine fg_27 C h dX12_does_217 ?_
    refine lv_iload_n C.1 C.2.1 dX12_does_220 rfl (lv_at hl 2 rfl) ?_
    refine lv_aload_n C.1 C.2.1 dX12_does_221 rfl (lv_at hl 0 rfl) ?_
    obtain ⟨r30, e31, hm⟩ := obd_s hm
    refine q_callVi C h (rc_pop l D k g N σ  r30 e31) (cwV 0 C.2.2.1 (gR_pop _) rfl rfl rfl hd_pop ⟨Nat.le_of_ble_eq_true rfl, Nat.le_of_ble_eq_true rfl⟩) rfl hl.1 rfl (Nat.le_of_ble_eq_true rfl) dX12_does_222 ⟨Nat.le_of_ble_eq_true rfl, Nat.le_of_ble_eq_true rfl⟩ (fun H locs h => ?_)
    obtain ⟨g32, hm⟩ := grd_s hm
    refine as_84 C h dX12_does_225 g32 (fun H locs h => ?_)
    refine lv_goto (tgt := 516) C.1 C.2.1 dX12_does_226 (by decide) ?_
    cases hm
    exact q_vret C h hr hlk dX12_does_516
  have hm := ite_f c29 hm
  by_cases c33 : x1 = 9
  · refine x_topi (congrArg Int32.ofInt c33) ?_
    have hm := ite_t c33 hm
    refine lv_tableIn (tgt := 229) C.1 C.2.1 dX12_does_1 (by decide) (by decide) rfl (by decide) ?_
    refine lv_iload_n C.1 C.2.1 dX12_does_229 rfl (lv_at hl 2 rfl) ?_
    refine lv_iconst (v := Int32.ofInt (-1)) C.1 C.2.1 dX12_does_230 (by decide) ?_
    obtain ⟨g34, hm⟩ := grd_s hm
    refine z_icmp_ne (tgt := 237) C dX12_does_231 (by decide) g34 (by decide) (fun c35 => ?_) (fun c35 => ?_)
    · have hm := ite_f c35 hm
      refine lv_aload_n C.1 C.2.1 dX12_does_237 rfl (lv_at hl 0 rfl) ?_
      refine lv_iload_n C.1 C.2.1 dX12_does_238 rfl (lv_at hl 1 rfl) ?_
      refine lv_aload_n C.1 C.2.1 dX12_does_239 rfl (lv_at hl 0 rfl) ?_
      refine fg_26 C h dX12_does_240 ?_
      refine lv_iload_n C.1 C.2.1 dX12_does_243 rfl (lv_at hl 2 rfl) ?_
      obtain ⟨g36, hm⟩ := grd_s hm
      refine al_85 C h dX12_does_244 g36 ?_
      obtain ⟨r37, e38, hm⟩ := obd_s hm
      refine q_callVv C h (rc_task l D k g N σ x1 (el σ 85 x2) r37 e38) (cwV 2 C.2.2.1 (gR_task _) rfl rfl rfl hd_task ⟨Nat.le_of_ble_eq_true rfl, Nat.le_of_ble_eq_true rfl⟩) rfl hl.1 rfl (Nat.le_of_ble_eq_true rfl) dX12_does_245 ⟨Nat.le_of_ble_eq_true rfl, Nat.le_of_ble_eq_true rfl⟩ (fun H locs h => ?_)
      refine lv_aload_n C.1 C.2.1 dX12_does_248 rfl (lv_at hl 0 rfl) ?_
      refine lv_iload_n C.1 C.2.1 dX12_does_249 rfl (lv_at hl 2 rfl) ?_
      obtain ⟨r39, e40, hm⟩ := obd_s hm
      refine q_callVi C h (rc_isFun l D k g N r37 x2 r39 e40) (cwV 1 C.2.2.1 (gR_isFun _) rfl rfl rfl hd_isFun ⟨Nat.le_of_ble_eq_true rfl, Nat.le_of_ble_eq_true rfl⟩) rfl hl.1 rfl (Nat.le_of_ble_eq_true rfl) dX12_does_250 ⟨Nat.le_of_ble_eq_true rfl, Nat.le_of_ble_eq_true rfl⟩ (fun H locs h => ?_)
      obtain ⟨g41, hm⟩ := grd_s hm
      refine z_if_eq (tgt := 266) C dX12_does_253 (by decide) g41 (fun c42 => ?_) (fun c42 => ?_)
      · have hm := ite_t c42 hm
        refine lv_iload_n C.1 C.2.1 dX12_does_266 rfl (lv_at hl 1 rfl) ?_
        refine lv_bipush (v := Int32.ofInt 9) C.1 C.2.1 dX12_does_267 (by decide) ?_
        refine z_icmp_ne (tgt := 279) C dX12_does_269 (by decide) g1 (by decide) (fun c43 => ?_) (fun c43 => ?_)
        · have hm := ite_f c43 hm
          exact lm_does_279 (N := N) C hr hlk  (lv_sub hl [0, 2] rfl) h hm
        · have hm := ite_t c43 hm
          refine lv_aload_n C.1 C.2.1 dX12_does_272 rfl (lv_at hl 0 rfl) ?_
          refine lv_bipush (v := Int32.ofInt 8) C.1 C.2.1 dX12_does_273 (by decide) ?_
          refine lv_iload_n C.1 C.2.1 dX12_does_275 rfl (lv_at hl 2 rfl) ?_
          obtain ⟨r44, e45, hm⟩ := obd_s hm
          refine q_callVv C h (rc_task l D k g N r39.1 8 x2 r44 e45) (cwV 2 C.2.2.1 (gR_task _) rfl rfl rfl hd_task ⟨Nat.le_of_ble_eq_true rfl, Nat.le_of_ble_eq_true rfl⟩) rfl hl.1 rfl (Nat.le_of_ble_eq_true rfl) dX12_does_276 ⟨Nat.le_of_ble_eq_true rfl, Nat.le_of_ble_eq_true rfl⟩ (fun H locs h => ?_)
          exact lm_does_279 (N := N) C hr hlk  (lv_sub hl [0, 2] rfl) h hm
      · have hm := ite_f c42 hm
        refine lv_aload_n C.1 C.2.1 dX12_does_256 rfl (lv_at hl 0 rfl) ?_
        refine lv_bipush (v := Int32.ofInt 7) C.1 C.2.1 dX12_does_257 (by decide) ?_
        refine lv_iload_n C.1 C.2.1 dX12_does_259 rfl (lv_at hl 2 rfl) ?_
        obtain ⟨r46, e47, hm⟩ := obd_s hm
        refine q_callVv C h (rc_task l D k g N r39.1 7 x2 r46 e47) (cwV 2 C.2.2.1 (gR_task _) rfl rfl rfl hd_task ⟨Nat.le_of_ble_eq_true rfl, Nat.le_of_ble_eq_true rfl⟩) rfl hl.1 rfl (Nat.le_of_ble_eq_true rfl) dX12_does_260 ⟨Nat.le_of_ble_eq_true rfl, Nat.le_of_ble_eq_true rfl⟩ (fun H locs h => ?_)
        refine lv_goto (tgt := 516) C.1 C.2.1 dX12_does_263 (by decide) ?_
        cases hm
        exact q_vret C h hr hlk dX12_does_516
    · have hm := ite_t c35 hm
      refine lv_goto (tgt := 516) C.1 C.2.1 dX12_does_234 (by decide) ?_
      cases hm
      exact q_vret C h hr hlk dX12_does_516
  have hm := ite_f c33 hm
  by_cases c48 : x1 = 10
  · refine x_topi (congrArg Int32.ofInt c48) ?_
    have hm := ite_t c48 hm
    refine lv_tableIn (tgt := 229) C.1 C.2.1 dX12_does_1 (by decide) (by decide) rfl (by decide) ?_
    refine lv_iload_n C.1 C.2.1 dX12_does_229 rfl (lv_at hl 2 rfl) ?_
    refine lv_iconst (v := Int32.ofInt (-1)) C.1 C.2.1 dX12_does_230 (by decide) ?_
    obtain ⟨g49, hm⟩ := grd_s hm
    refine z_icmp_ne (tgt := 237) C dX12_does_231 (by decide) g49 (by decide) (fun c50 => ?_) (fun c50 => ?_)
    · have hm := ite_f c50 hm
      refine lv_aload_n C.1 C.2.1 dX12_does_237 rfl (lv_at hl 0 rfl) ?_
      refine lv_iload_n C.1 C.2.1 dX12_does_238 rfl (lv_at hl 1 rfl) ?_
      refine lv_aload_n C.1 C.2.1 dX12_does_239 rfl (lv_at hl 0 rfl) ?_
      refine fg_26 C h dX12_does_240 ?_
      refine lv_iload_n C.1 C.2.1 dX12_does_243 rfl (lv_at hl 2 rfl) ?_
      obtain ⟨g51, hm⟩ := grd_s hm
      refine al_85 C h dX12_does_244 g51 ?_
      obtain ⟨r52, e53, hm⟩ := obd_s hm
      refine q_callVv C h (rc_task l D k g N σ x1 (el σ 85 x2) r52 e53) (cwV 2 C.2.2.1 (gR_task _) rfl rfl rfl hd_task ⟨Nat.le_of_ble_eq_true rfl, Nat.le_of_ble_eq_true rfl⟩) rfl hl.1 rfl (Nat.le_of_ble_eq_true rfl) dX12_does_245 ⟨Nat.le_of_ble_eq_true rfl, Nat.le_of_ble_eq_true rfl⟩ (fun H locs h => ?_)
      refine lv_aload_n C.1 C.2.1 dX12_does_248 rfl (lv_at hl 0 rfl) ?_
      refine lv_iload_n C.1 C.2.1 dX12_does_249 rfl (lv_at hl 2 rfl) ?_
      obtain ⟨r54, e55, hm⟩ := obd_s hm
      refine q_callVi C h (rc_isFun l D k g N r52 x2 r54 e55) (cwV 1 C.2.2.1 (gR_isFun _) rfl rfl rfl hd_isFun ⟨Nat.le_of_ble_eq_true rfl, Nat.le_of_ble_eq_true rfl⟩) rfl hl.1 rfl (Nat.le_of_ble_eq_true rfl) dX12_does_250 ⟨Nat.le_of_ble_eq_true rfl, Nat.le_of_ble_eq_true rfl⟩ (fun H locs h => ?_)
      obtain ⟨g56, hm⟩ := grd_s hm
      refine z_if_eq (tgt := 266) C dX12_does_253 (by decide) g56 (fun c57 => ?_) (fun c57 => ?_)
      · have hm := ite_t c57 hm
        refine lv_iload_n C.1 C.2.1 dX12_does_266 rfl (lv_at hl 1 rfl) ?_
        refine lv_bipush (v := Int32.ofInt 9) C.1 C.2.1 dX12_does_267 (by decide) ?_
        refine z_icmp_ne (tgt := 279) C dX12_does_269 (by decide) g1 (by decide) (fun c58 => ?_) (fun c58 => ?_)
        · have hm := ite_f c58 hm
          exact lm_does_279 (N := N) C hr hlk  (lv_sub hl [0, 2] rfl) h hm
        · have hm := ite_t c58 hm
          refine lv_aload_n C.1 C.2.1 dX12_does_272 rfl (lv_at hl 0 rfl) ?_
          refine lv_bipush (v := Int32.ofInt 8) C.1 C.2.1 dX12_does_273 (by decide) ?_
          refine lv_iload_n C.1 C.2.1 dX12_does_275 rfl (lv_at hl 2 rfl) ?_
          obtain ⟨r59, e60, hm⟩ := obd_s hm
          refine q_callVv C h (rc_task l D k g N r54.1 8 x2 r59 e60) (cwV 2 C.2.2.1 (gR_task _) rfl rfl rfl hd_task ⟨Nat.le_of_ble_eq_true rfl, Nat.le_of_ble_eq_true rfl⟩) rfl hl.1 rfl (Nat.le_of_ble_eq_true rfl) dX12_does_276 ⟨Nat.le_of_ble_eq_true rfl, Nat.le_of_ble_eq_true rfl⟩ (fun H locs h => ?_)
          exact lm_does_279 (N := N) C hr hlk  (lv_sub hl [0, 2] rfl) h hm
      · have hm := ite_f c57 hm
        refine lv_aload_n C.1 C.2.1 dX12_does_256 rfl (lv_at hl 0 rfl) ?_
        refine lv_bipush (v := Int32.ofInt 7) C.1 C.2.1 dX12_does_257 (by decide) ?_
        refine lv_iload_n C.1 C.2.1 dX12_does_259 rfl (lv_at hl 2 rfl) ?_
        obtain ⟨r61, e62, hm⟩ := obd_s hm
        refine q_callVv C h (rc_task l D k g N r54.1 7 x2 r61 e62) (cwV 2 C.2.2.1 (gR_task _) rfl rfl rfl hd_task ⟨Nat.le_of_ble_eq_true rfl, Nat.le_of_ble_eq_true rfl⟩) rfl hl.1 rfl (Nat.le_of_ble_eq_true rfl) dX12_does_260 ⟨Nat.le_of_ble_eq_true rfl, Nat.le_of_ble_eq_true rfl⟩ (fun H locs h => ?_)
        refine lv_goto (tgt := 516) C.1 C.2.1 dX12_does_263 (by decide) ?_
        cases hm
        exact q_vret C h hr hlk dX12_does_516
    · have hm := ite_t c50 hm
      refine lv_goto (tgt := 516) C.1 C.2.1 dX12_does_234 (by decide) ?_
      cases hm
      exact q_vret C h hr hlk dX12_does_516
  have hm := ite_f c48 hm
  by_cases c63 : x1 = 11
  · refine x_topi (congrArg Int32.ofInt c63) ?_
    have hm := ite_t c63 hm
    refine lv_tableIn (tgt := 288) C.1 C.2.1 dX12_does_1 (by decide) (by decide) rfl (by decide) ?_
    refine lv_aload_n C.1 C.2.1 dX12_does_288 rfl (lv_at hl 0 rfl) ?_
    refine lv_iload_n C.1 C.2.1 dX12_does_289 rfl (lv_at hl 2 rfl) ?_
    obtain ⟨r64, e65, hm⟩ := obd_s hm
    refine q_callVv C h (rc_apply l D k g N σ x2 r64 e65) (cwV 1 C.2.2.1 (gR_apply _) rfl rfl rfl hd_apply ⟨Nat.le_of_ble_eq_true rfl, Nat.le_of_ble_eq_true rfl⟩) rfl hl.1 rfl (Nat.le_of_ble_eq_true rfl) dX12_does_290 ⟨Nat.le_of_ble_eq_true rfl, Nat.le_of_ble_eq_true rfl⟩ (fun H locs h => ?_)
    refine lv_goto (tgt := 516) C.1 C.2.1 dX12_does_293 (by decide) ?_
    cases hm
    exact q_vret C h hr hlk dX12_does_516
  have hm := ite_f c63 hm
  by_cases c66 : x1 = 12
  · refine x_topi (congrArg Int32.ofInt c66) ?_
    have hm := ite_t c66 hm
    refine lv_tableIn (tgt := 296) C.1 C.2.1 dX12_does_1 (by decide) (by decide) rfl (by decide) ?_
    refine lv_aload_n C.1 C.2.1 dX12_does_296 rfl (lv_at hl 0 rfl) ?_
    refine lv_iload_n C.1 C.2.1 dX12_does_297 rfl (lv_at hl 2 rfl) ?_
    obtain ⟨r67, e68, hm⟩ := obd_s hm
    refine q_callVv C h (rc_function l D k g N σ x2 r67 e68) (cwV 1 C.2.2.1 (gR_function _) rfl rfl rfl hd_function ⟨Nat.le_of_ble_eq_true rfl, Nat.le_of_ble_eq_true rfl⟩) rfl hl.1 rfl (Nat.le_of_ble_eq_true rfl) dX12_does_298 ⟨Nat.le_of_ble_eq_true rfl, Nat.le_of_ble_eq_true rfl⟩ (fun H locs h => ?_)
    refine lv_goto (tgt := 516) C.1 C.2.1 dX12_does_301 (by decide) ?_
    cases hm
    exact q_vret C h hr hlk dX12_does_516
  have hm := ite_f c66 hm
  by_cases c69 : x1 = 13
  · refine x_topi (congrArg Int32.ofInt c69) ?_
    have hm := ite_t c69 hm
    refine lv_tableIn (tgt := 304) C.1 C.2.1 dX12_does_1 (by decide) (by decide) rfl (by decide) ?_
    refine lv_aload_n C.1 C.2.1 dX12_does_304 rfl (lv_at hl 0 rfl) ?_
    refine lv_aload_n C.1 C.2.1 dX12_does_305 rfl (lv_at hl 0 rfl) ?_
    refine fg_69 C h dX12_does_306 ?_
    refine lv_aload_n C.1 C.2.1 dX12_does_309 rfl (lv_at hl 0 rfl) ?_
    refine fg_68 C h dX12_does_310 ?_
    refine lv_iconst (v := Int32.ofInt 1) C.1 C.2.1 dX12_does_313 (by decide) ?_
    refine z_isub C dX12_does_314 ?_
    obtain ⟨g70, hm⟩ := grd_s hm
    refine al_54 C h dX12_does_315 g70 ?_
    obtain ⟨r71, e72, hm⟩ := obd_s hm
    refine q_callVv C h (rc_push l D k g N σ (el σ 54 ((fl σ 68 0) - 1)) r71 e72) (cwV 1 C.2.2.1 (gR_push _) rfl rfl rfl hd_push ⟨Nat.le_of_ble_eq_true rfl, Nat.le_of_ble_eq_true rfl⟩) rfl hl.1 rfl (Nat.le_of_ble_eq_true rfl) dX12_does_316 ⟨Nat.le_of_ble_eq_true rfl, Nat.le_of_ble_eq_true rfl⟩ (fun H locs h => ?_)
    refine lv_goto (tgt := 516) C.1 C.2.1 dX12_does_319 (by decide) ?_
    cases hm
    exact q_vret C h hr hlk dX12_does_516
  have hm := ite_f c69 hm
  by_cases c73 : x1 = 14
  · refine x_topi (congrArg Int32.ofInt c73) ?_
    have hm := ite_t c73 hm
    refine lv_tableIn (tgt := 322) C.1 C.2.1 dX12_does_1 (by decide) (by decide) rfl (by decide) ?_
    refine lv_aload_n C.1 C.2.1 dX12_does_322 rfl (lv_at hl 0 rfl) ?_
    obtain ⟨r74, e75, hm⟩ := obd_s hm
    refine q_callVi C h (rc_pop l D k g N σ  r74 e75) (cwV 0 C.2.2.1 (gR_pop _) rfl rfl rfl hd_pop ⟨Nat.le_of_ble_eq_true rfl, Nat.le_of_ble_eq_true rfl⟩) rfl hl.1 rfl (Nat.le_of_ble_eq_true rfl) dX12_does_323 ⟨Nat.le_of_ble_eq_true rfl, Nat.le_of_ble_eq_true rfl⟩ (fun H locs h => ?_)
    refine lv_istore_n (lv' := [(3, .int (Int32.ofInt r74.2)), (0, .ref (g 0)), (1, .int (Int32.ofInt x1)), (2, .int (Int32.ofInt x2))]) C.1 C.2.1 dX12_does_326 rfl hl (by decide) rfl (fun ls hl => ?_)
    refine lv_aload_n C.1 C.2.1 dX12_does_327 rfl (lv_at hl 1 rfl) ?_
    obtain ⟨r76, e77, hm⟩ := obd_s hm
    refine q_callVi C h (rc_pop l D k g N r74.1  r76 e77) (cwV 0 C.2.2.1 (gR_pop _) rfl rfl rfl hd_pop ⟨Nat.le_of_ble_eq_true rfl, Nat.le_of_ble_eq_true rfl⟩) rfl hl.1 rfl (Nat.le_of_ble_eq_true rfl) dX12_does_328 ⟨Nat.le_of_ble_eq_true rfl, Nat.le_of_ble_eq_true rfl⟩ (fun H locs h => ?_)
    refine lv_istore (lv' := [(4, .int (Int32.ofInt r76.2)), (3, .int (Int32.ofInt r74.2)), (0, .ref (g 0)), (1, .int (Int32.ofInt x1)), (2, .int (Int32.ofInt x2))]) C.1 C.2.1 dX12_does_331 hl (by decide) rfl (fun ls hl => ?_)
    refine lv_aload_n C.1 C.2.1 dX12_does_333 rfl (lv_at hl 2 rfl) ?_
    refine lv_iload_n C.1 C.2.1 dX12_does_334 rfl (lv_at hl 1 rfl) ?_
    obtain ⟨r78, e79, hm⟩ := obd_s hm
    refine q_callVv C h (rc_push l D k g N r76.1 r74.2 r78 e79) (cwV 1 C.2.2.1 (gR_push _) rfl rfl rfl hd_push ⟨Nat.le_of_ble_eq_true rfl, Nat.le_of_ble_eq_true rfl⟩) rfl hl.1 rfl (Nat.le_of_ble_eq_true rfl) dX12_does_335 ⟨Nat.le_of_ble_eq_true rfl, Nat.le_of_ble_eq_true rfl⟩ (fun H locs h => ?_)
    refine lv_aload_n C.1 C.2.1 dX12_does_338 rfl (lv_at hl 2 rfl) ?_
    refine lv_iload C.1 C.2.1 dX12_does_339 (lv_at hl 0 rfl) ?_
    obtain ⟨r80, e81, hm⟩ := obd_s hm
    refine q_callVv C h (rc_push l D k g N r78 r76.2 r80 e81) (cwV 1 C.2.2.1 (gR_push _) rfl rfl rfl hd_push ⟨Nat.le_of_ble_eq_true rfl, Nat.le_of_ble_eq_true rfl⟩) rfl hl.1 rfl (Nat.le_of_ble_eq_true rfl) dX12_does_341 ⟨Nat.le_of_ble_eq_true rfl, Nat.le_of_ble_eq_true rfl⟩ (fun H locs h => ?_)
    refine lv_goto (tgt := 516) C.1 C.2.1 dX12_does_344 (by decide) ?_
    cases hm
    exact q_vret C h hr hlk dX12_does_516
  have hm := ite_f c73 hm
  by_cases c82 : x1 = 15
  · refine x_topi (congrArg Int32.ofInt c82) ?_
    have hm := ite_t c82 hm
    refine lv_tableIn (tgt := 347) C.1 C.2.1 dX12_does_1 (by decide) (by decide) rfl (by decide) ?_
    refine lv_aload_n C.1 C.2.1 dX12_does_347 rfl (lv_at hl 0 rfl) ?_
    refine lv_iload_n C.1 C.2.1 dX12_does_348 rfl (lv_at hl 2 rfl) ?_
    obtain ⟨r83, e84, hm⟩ := obd_s hm
    refine q_callVv C h (rc_ofFunction l D k g N σ x2 r83 e84) (cwV 1 C.2.2.1 (gR_ofFunction _) rfl rfl rfl hd_ofFunction ⟨Nat.le_of_ble_eq_true rfl, Nat.le_of_ble_eq_true rfl⟩) rfl hl.1 rfl (Nat.le_of_ble_eq_true rfl) dX12_does_349 ⟨Nat.le_of_ble_eq_true rfl, Nat.le_of_ble_eq_true rfl⟩ (fun H locs h => ?_)
    refine lv_goto (tgt := 516) C.1 C.2.1 dX12_does_352 (by decide) ?_
    cases hm
    exact q_vret C h hr hlk dX12_does_516
  have hm := ite_f c82 hm
  by_cases c85 : x1 = 16
  · refine x_topi (congrArg Int32.ofInt c85) ?_
    have hm := ite_t c85 hm
    refine lv_tableIn (tgt := 355) C.1 C.2.1 dX12_does_1 (by decide) (by decide) rfl (by decide) ?_
    refine lv_aload_n C.1 C.2.1 dX12_does_355 rfl (lv_at hl 0 rfl) ?_
    refine lv_bipush (v := Int32.ofInt 11) C.1 C.2.1 dX12_does_356 (by decide) ?_
    refine lv_aload_n C.1 C.2.1 dX12_does_358 rfl (lv_at hl 0 rfl) ?_
    refine fg_20 C h dX12_does_359 ?_
    refine lv_iload_n C.1 C.2.1 dX12_does_362 rfl (lv_at hl 2 rfl) ?_
    obtain ⟨g86, hm⟩ := grd_s hm
    refine al_91 C h dX12_does_363 g86 ?_
    refine lv_aload_n C.1 C.2.1 dX12_does_364 rfl (lv_at hl 0 rfl) ?_
    refine fg_21 C h dX12_does_365 ?_
    refine lv_iload_n C.1 C.2.1 dX12_does_368 rfl (lv_at hl 2 rfl) ?_
    refine al_90 C h dX12_does_369 g86 ?_
    refine lv_iconst (v := Int32.ofInt 0) C.1 C.2.1 dX12_does_370 (by decide) ?_
    refine lv_iconst (v := Int32.ofInt 0) C.1 C.2.1 dX12_does_371 (by decide) ?_
    refine lv_aload_n C.1 C.2.1 dX12_does_372 rfl (lv_at hl 0 rfl) ?_
    refine fg_18 C h dX12_does_373 ?_
    refine lv_iload_n C.1 C.2.1 dX12_does_376 rfl (lv_at hl 2 rfl) ?_
    refine al_93 C h dX12_does_377 g86 ?_
    obtain ⟨r87, e88, hm⟩ := obd_s hm
    refine q_callVv C h (rc_one l D k g N σ 11 (el σ 91 x2) (el σ 90 x2) 0 0 (el σ 93 x2) r87 e88) (cwV 6 C.2.2.1 (gR_one _) rfl rfl rfl hd_one ⟨Nat.le_of_ble_eq_true rfl, Nat.le_of_ble_eq_true rfl⟩) rfl hl.1 rfl (Nat.le_of_ble_eq_true rfl) dX12_does_378 ⟨Nat.le_of_ble_eq_true rfl, Nat.le_of_ble_eq_true rfl⟩ (fun H locs h => ?_)
    refine lv_goto (tgt := 516) C.1 C.2.1 dX12_does_381 (by decide) ?_
    cases hm
    exact q_vret C h hr hlk dX12_does_516
  have hm := ite_f c85 hm
  by_cases c89 : x1 = 17
  · refine x_topi (congrArg Int32.ofInt c89) ?_
    have hm := ite_t c89 hm
    refine lv_tableIn (tgt := 384) C.1 C.2.1 dX12_does_1 (by decide) (by decide) rfl (by decide) ?_
    refine lv_aload_n C.1 C.2.1 dX12_does_384 rfl (lv_at hl 0 rfl) ?_
    refine lv_iconst (v := Int32.ofInt 5) C.1 C.2.1 dX12_does_385 (by decide) ?_
    refine lv_iconst (v := Int32.ofInt 0) C.1 C.2.1 dX12_does_386 (by decide) ?_
    refine lv_iconst (v := Int32.ofInt 0) C.1 C.2.1 dX12_does_387 (by decide) ?_
    refine lv_iconst (v := Int32.ofInt 0) C.1 C.2.1 dX12_does_388 (by decide) ?_
    refine lv_iconst (v := Int32.ofInt 0) C.1 C.2.1 dX12_does_389 (by decide) ?_
    refine lv_aload_n C.1 C.2.1 dX12_does_390 rfl (lv_at hl 0 rfl) ?_
    refine fg_18 C h dX12_does_391 ?_
    refine lv_iload_n C.1 C.2.1 dX12_does_394 rfl (lv_at hl 2 rfl) ?_
    obtain ⟨g90, hm⟩ := grd_s hm
    refine al_93 C h dX12_does_395 g90 ?_
    obtain ⟨r91, e92, hm⟩ := obd_s hm
    refine q_callVv C h (rc_two l D k g N σ 5 0 0 0 0 (el σ 93 x2) r91 e92) (cwV 6 C.2.2.1 (gR_two _) rfl rfl rfl hd_two ⟨Nat.le_of_ble_eq_true rfl, Nat.le_of_ble_eq_true rfl⟩) rfl hl.1 rfl (Nat.le_of_ble_eq_true rfl) dX12_does_396 ⟨Nat.le_of_ble_eq_true rfl, Nat.le_of_ble_eq_true rfl⟩ (fun H locs h => ?_)
    refine lv_goto (tgt := 516) C.1 C.2.1 dX12_does_399 (by decide) ?_
    cases hm
    exact q_vret C h hr hlk dX12_does_516
  have hm := ite_f c89 hm
  by_cases c93 : x1 = 18
  · refine x_topi (congrArg Int32.ofInt c93) ?_
    have hm := ite_t c93 hm
    refine lv_tableIn (tgt := 402) C.1 C.2.1 dX12_does_1 (by decide) (by decide) rfl (by decide) ?_
    refine lv_aload_n C.1 C.2.1 dX12_does_402 rfl (lv_at hl 0 rfl) ?_
    refine lv_bipush (v := Int32.ofInt 21) C.1 C.2.1 dX12_does_403 (by decide) ?_
    refine lv_aload_n C.1 C.2.1 dX12_does_405 rfl (lv_at hl 0 rfl) ?_
    refine fg_20 C h dX12_does_406 ?_
    refine lv_iload_n C.1 C.2.1 dX12_does_409 rfl (lv_at hl 2 rfl) ?_
    obtain ⟨g94, hm⟩ := grd_s hm
    refine al_91 C h dX12_does_410 g94 ?_
    refine lv_iconst (v := Int32.ofInt 0) C.1 C.2.1 dX12_does_411 (by decide) ?_
    refine lv_iconst (v := Int32.ofInt 0) C.1 C.2.1 dX12_does_412 (by decide) ?_
    refine lv_iconst (v := Int32.ofInt 0) C.1 C.2.1 dX12_does_413 (by decide) ?_
    refine lv_aload_n C.1 C.2.1 dX12_does_414 rfl (lv_at hl 0 rfl) ?_
    refine fg_18 C h dX12_does_415 ?_
    refine lv_iload_n C.1 C.2.1 dX12_does_418 rfl (lv_at hl 2 rfl) ?_
    refine al_93 C h dX12_does_419 g94 ?_
    obtain ⟨r95, e96, hm⟩ := obd_s hm
    refine q_callVv C h (rc_one l D k g N σ 21 (el σ 91 x2) 0 0 0 (el σ 93 x2) r95 e96) (cwV 6 C.2.2.1 (gR_one _) rfl rfl rfl hd_one ⟨Nat.le_of_ble_eq_true rfl, Nat.le_of_ble_eq_true rfl⟩) rfl hl.1 rfl (Nat.le_of_ble_eq_true rfl) dX12_does_420 ⟨Nat.le_of_ble_eq_true rfl, Nat.le_of_ble_eq_true rfl⟩ (fun H locs h => ?_)
    refine lv_goto (tgt := 516) C.1 C.2.1 dX12_does_423 (by decide) ?_
    cases hm
    exact q_vret C h hr hlk dX12_does_516
  have hm := ite_f c93 hm
  by_cases c97 : x1 = 19
  · refine x_topi (congrArg Int32.ofInt c97) ?_
    have hm := ite_t c97 hm
    refine lv_tableIn (tgt := 426) C.1 C.2.1 dX12_does_1 (by decide) (by decide) rfl (by decide) ?_
    refine lv_aload_n C.1 C.2.1 dX12_does_426 rfl (lv_at hl 0 rfl) ?_
    refine lv_bipush (v := Int32.ofInt 22) C.1 C.2.1 dX12_does_427 (by decide) ?_
    refine lv_aload_n C.1 C.2.1 dX12_does_429 rfl (lv_at hl 0 rfl) ?_
    refine fg_20 C h dX12_does_430 ?_
    refine lv_iload_n C.1 C.2.1 dX12_does_433 rfl (lv_at hl 2 rfl) ?_
    obtain ⟨g98, hm⟩ := grd_s hm
    refine al_91 C h dX12_does_434 g98 ?_
    refine lv_iconst (v := Int32.ofInt 0) C.1 C.2.1 dX12_does_435 (by decide) ?_
    refine lv_iconst (v := Int32.ofInt 0) C.1 C.2.1 dX12_does_436 (by decide) ?_
    refine lv_iconst (v := Int32.ofInt 0) C.1 C.2.1 dX12_does_437 (by decide) ?_
    refine lv_aload_n C.1 C.2.1 dX12_does_438 rfl (lv_at hl 0 rfl) ?_
    refine fg_18 C h dX12_does_439 ?_
    refine lv_iload_n C.1 C.2.1 dX12_does_442 rfl (lv_at hl 2 rfl) ?_
    refine al_93 C h dX12_does_443 g98 ?_
    obtain ⟨r99, e100, hm⟩ := obd_s hm
    refine q_callVv C h (rc_one l D k g N σ 22 (el σ 91 x2) 0 0 0 (el σ 93 x2) r99 e100) (cwV 6 C.2.2.1 (gR_one _) rfl rfl rfl hd_one ⟨Nat.le_of_ble_eq_true rfl, Nat.le_of_ble_eq_true rfl⟩) rfl hl.1 rfl (Nat.le_of_ble_eq_true rfl) dX12_does_444 ⟨Nat.le_of_ble_eq_true rfl, Nat.le_of_ble_eq_true rfl⟩ (fun H locs h => ?_)
    refine lv_goto (tgt := 516) C.1 C.2.1 dX12_does_447 (by decide) ?_
    cases hm
    exact q_vret C h hr hlk dX12_does_516
  have hm := ite_f c97 hm
  by_cases c101 : x1 = 20
  · refine x_topi (congrArg Int32.ofInt c101) ?_
    have hm := ite_t c101 hm
    refine lv_tableIn (tgt := 450) C.1 C.2.1 dX12_does_1 (by decide) (by decide) rfl (by decide) ?_
    refine lv_aload_n C.1 C.2.1 dX12_does_450 rfl (lv_at hl 0 rfl) ?_
    refine lv_bipush (v := Int32.ofInt 9) C.1 C.2.1 dX12_does_451 (by decide) ?_
    refine lv_iconst (v := Int32.ofInt 1) C.1 C.2.1 dX12_does_453 (by decide) ?_
    refine lv_aload_n C.1 C.2.1 dX12_does_454 rfl (lv_at hl 0 rfl) ?_
    refine fg_20 C h dX12_does_455 ?_
    refine lv_iload_n C.1 C.2.1 dX12_does_458 rfl (lv_at hl 2 rfl) ?_
    obtain ⟨g102, hm⟩ := grd_s hm
    refine al_91 C h dX12_does_459 g102 ?_
    refine lv_iconst (v := Int32.ofInt 0) C.1 C.2.1 dX12_does_460 (by decide) ?_
    refine lv_iconst (v := Int32.ofInt 0) C.1 C.2.1 dX12_does_461 (by decide) ?_
    refine lv_aload_n C.1 C.2.1 dX12_does_462 rfl (lv_at hl 0 rfl) ?_
    refine fg_18 C h dX12_does_463 ?_
    refine lv_iload_n C.1 C.2.1 dX12_does_466 rfl (lv_at hl 2 rfl) ?_
    refine al_93 C h dX12_does_467 g102 ?_
    obtain ⟨r103, e104, hm⟩ := obd_s hm
    refine q_callVv C h (rc_one l D k g N σ 9 1 (el σ 91 x2) 0 0 (el σ 93 x2) r103 e104) (cwV 6 C.2.2.1 (gR_one _) rfl rfl rfl hd_one ⟨Nat.le_of_ble_eq_true rfl, Nat.le_of_ble_eq_true rfl⟩) rfl hl.1 rfl (Nat.le_of_ble_eq_true rfl) dX12_does_468 ⟨Nat.le_of_ble_eq_true rfl, Nat.le_of_ble_eq_true rfl⟩ (fun H locs h => ?_)
    refine lv_goto (tgt := 516) C.1 C.2.1 dX12_does_471 (by decide) ?_
    cases hm
    exact q_vret C h hr hlk dX12_does_516
  have hm := ite_f c101 hm
  by_cases c105 : x1 = 21
  · refine x_topi (congrArg Int32.ofInt c105) ?_
    have hm := ite_t c105 hm
    refine lv_tableIn (tgt := 474) C.1 C.2.1 dX12_does_1 (by decide) (by decide) rfl (by decide) ?_
    refine lv_aload_n C.1 C.2.1 dX12_does_474 rfl (lv_at hl 0 rfl) ?_
    refine lv_bipush (v := Int32.ofInt 9) C.1 C.2.1 dX12_does_475 (by decide) ?_
    refine lv_aload_n C.1 C.2.1 dX12_does_477 rfl (lv_at hl 0 rfl) ?_
    refine fg_20 C h dX12_does_478 ?_
    refine lv_iload_n C.1 C.2.1 dX12_does_481 rfl (lv_at hl 2 rfl) ?_
    obtain ⟨g106, hm⟩ := grd_s hm
    refine al_91 C h dX12_does_482 g106 ?_
    refine lv_iconst (v := Int32.ofInt 1) C.1 C.2.1 dX12_does_483 (by decide) ?_
    refine lv_iconst (v := Int32.ofInt 0) C.1 C.2.1 dX12_does_484 (by decide) ?_
    refine lv_iconst (v := Int32.ofInt 0) C.1 C.2.1 dX12_does_485 (by decide) ?_
    refine lv_aload_n C.1 C.2.1 dX12_does_486 rfl (lv_at hl 0 rfl) ?_
    refine fg_18 C h dX12_does_487 ?_
    refine lv_iload_n C.1 C.2.1 dX12_does_490 rfl (lv_at hl 2 rfl) ?_
    refine al_93 C h dX12_does_491 g106 ?_
    obtain ⟨r107, e108, hm⟩ := obd_s hm
    refine q_callVv C h (rc_one l D k g N σ 9 (el σ 91 x2) 1 0 0 (el σ 93 x2) r107 e108) (cwV 6 C.2.2.1 (gR_one _) rfl rfl rfl hd_one ⟨Nat.le_of_ble_eq_true rfl, Nat.le_of_ble_eq_true rfl⟩) rfl hl.1 rfl (Nat.le_of_ble_eq_true rfl) dX12_does_492 ⟨Nat.le_of_ble_eq_true rfl, Nat.le_of_ble_eq_true rfl⟩ (fun H locs h => ?_)
    refine lv_goto (tgt := 516) C.1 C.2.1 dX12_does_495 (by decide) ?_
    cases hm
    exact q_vret C h hr hlk dX12_does_516
  have hm := ite_f c105 hm
  by_cases c109 : x1 = 22
  · refine x_topi (congrArg Int32.ofInt c109) ?_
    have hm := ite_t c109 hm
    refine lv_tableIn (tgt := 498) C.1 C.2.1 dX12_does_1 (by decide) (by decide) rfl (by decide) ?_
    refine lv_aload_n C.1 C.2.1 dX12_does_498 rfl (lv_at hl 0 rfl) ?_
    refine lv_iload_n C.1 C.2.1 dX12_does_499 rfl (lv_at hl 2 rfl) ?_
    obtain ⟨r110, e111, hm⟩ := obd_s hm
    refine q_callVv C h (rc_use l D k g N σ x2 r110 e111) (cwV 1 C.2.2.1 (gR_use _) rfl rfl rfl hd_use ⟨Nat.le_of_ble_eq_true rfl, Nat.le_of_ble_eq_true rfl⟩) rfl hl.1 rfl (Nat.le_of_ble_eq_true rfl) dX12_does_500 ⟨Nat.le_of_ble_eq_true rfl, Nat.le_of_ble_eq_true rfl⟩ (fun H locs h => ?_)
    refine lv_goto (tgt := 516) C.1 C.2.1 dX12_does_503 (by decide) ?_
    cases hm
    exact q_vret C h hr hlk dX12_does_516
  have hm := ite_f c109 hm
  refine lv_tableOut (tgt := 506) C.1 C.2.1 dX12_does_1 (by rw [c32_ti g1]; omega) (by decide) ?_
  refine lv_aload_n C.1 C.2.1 dX12_does_506 rfl (lv_at hl 0 rfl) ?_
  refine lv_dup C.1 C.2.1 dX12_does_507 rfl ?_
  refine fg_70 C h dX12_does_508 ?_
  refine lv_iconst (v := Int32.ofInt 1) C.1 C.2.1 dX12_does_511 (by decide) ?_
  refine z_isub C dX12_does_512 ?_
  refine fp_70 C h dX12_does_513 (fun H locs h => ?_)
  cases hm
  exact q_vret C h hr hlk dX12_does_516
end L_does
section L_makes
variable {p : Program} {l : Launch} {e : Env} {s : State} {m : MethodId} {args : Array Value} {below : List Frame} {meth : Method} {c : Code} {D : va_G} {A : Nat → Prop} {k : Nat → ClassId} {g : Nat → Nat} {N : Nat} {cd : Cond}
set_option maxHeartbeats 4000000 in
set_option maxRecDepth 100000 in
theorem lm_makes_70 {r : St × Int} (C : Cx p s m args c cX12_makes RX12 (cd :: rW) D (TYs k) 2) (hr : meth.sig.returnType = (some .int)) (hlk : meth.locks = false)  {ls : Array Slot} {H : Heap} {locs : List Loc} {σ : St}  (hl : lv_has ls 2 [(0, .ref (g 0))]) (h : Hp D A s.heap H locs (mW k g σ)) (hm : r_makes_70 N  σ  = some r) : W p l e { frames := 9, cells := 0, slots := 0, locals := 225 } s m args below meth c H locs 0 0 (MQ below (va_Qi (fun v (_ : Unit) => v = Int32.ofInt r.2) (fun _ t => PostW D (TYs k) A (mW k g r.1) t) A) args s 0 0 A) (F0 m 70 ls []) := by
  rw [r_makes_70] at hm
  refine lv_aload_n C.1 C.2.1 dX12_makes_70 rfl (lv_at hl 0 rfl) ?_
  refine fg_11 C h dX12_makes_71 ?_
  obtain ⟨g14, hm⟩ := grd_s hm
  refine z_if_ne (tgt := 84) C dX12_makes_74 (by decide) g14 (fun c15 => ?_) (fun c15 => ?_)
  · have hm := ite_f c15 hm
    refine lv_iconst (v := Int32.ofInt (-1)) C.1 C.2.1 dX12_makes_84 (by decide) ?_
    cases hm
    exact q_iret C h hr hlk dX12_makes_85 rfl
  · have hm := ite_t c15 hm
    refine lv_aload_n C.1 C.2.1 dX12_makes_77 rfl (lv_at hl 0 rfl) ?_
    obtain ⟨r16, e17, hm⟩ := obd_s hm
    refine q_callVi C h (rc_pop l D k g N σ  r16 e17) (cwV 0 C.2.2.1 (gR_pop _) rfl rfl rfl hd_pop ⟨Nat.le_of_ble_eq_true rfl, Nat.le_of_ble_eq_true rfl⟩) rfl hl.1 rfl (Nat.le_of_ble_eq_true rfl) dX12_makes_78 ⟨Nat.le_of_ble_eq_true rfl, Nat.le_of_ble_eq_true rfl⟩ (fun H locs h => ?_)
    refine lv_goto (tgt := 85) C.1 C.2.1 dX12_makes_81 (by decide) ?_
    cases hm
    exact q_iret C h hr hlk dX12_makes_85 rfl
set_option maxHeartbeats 4000000 in
set_option maxRecDepth 100000 in
theorem lm_makes_21 {r : St × Int} (C : Cx p s m args c cX12_makes RX12 (cd :: rW) D (TYs k) 2) (hr : meth.sig.returnType = (some .int)) (hlk : meth.locks = false)  (n : Nat) : ∀ {ls : Array Slot} {H : Heap} {locs : List Loc} {σ : St} , lv_has ls 2 [(0, .ref (g 0))] → Hp D A s.heap H locs (mW k g σ) → r_makes_21 N  n σ  = some r → W p l e { frames := 9, cells := 0, slots := 0, locals := 225 } s m args below meth c H locs 0 0 (MQ below (va_Qi (fun v (_ : Unit) => v = Int32.ofInt r.2) (fun _ t => PostW D (TYs k) A (mW k g r.1) t) A) args s 0 0 A) (F0 m 21 ls []) := by
  induction n with
  | zero => intro ls H locs σ hl h hm; cases (show none = some r from hm)
  | succ n hrec21 =>
    intro ls H locs σ hl h hm
    rw [r_makes_21] at hm
    refine lv_aload_n C.1 C.2.1 dX12_makes_21 rfl (lv_at hl 0 rfl) ?_
    refine fg_65 C h dX12_makes_22 ?_
    obtain ⟨g5, hm⟩ := grd_s hm
    refine z_if_le (tgt := 70) C dX12_makes_25 (by decide) g5 (fun c6 => ?_) (fun c6 => ?_)
    · have hm := ite_f c6 hm
      exact lm_makes_70 (N := N) C hr hlk  (lv_sub hl [0] rfl) h hm
    · have hm := ite_t c6 hm
      refine lv_aload_n C.1 C.2.1 dX12_makes_28 rfl (lv_at hl 0 rfl) ?_
      refine fg_11 C h dX12_makes_29 ?_
      obtain ⟨g7, hm⟩ := grd_s hm
      refine z_if_ne (tgt := 70) C dX12_makes_32 (by decide) g7 (fun c8 => ?_) (fun c8 => ?_)
      · have hm := ite_f c8 hm
        exact lm_makes_70 (N := N) C hr hlk  (lv_sub hl [0] rfl) h hm
      · have hm := ite_t c8 hm
        refine lv_aload_n C.1 C.2.1 dX12_makes_35 rfl (lv_at hl 0 rfl) ?_
        refine lv_dup C.1 C.2.1 dX12_makes_36 rfl ?_
        refine fg_65 C h dX12_makes_37 ?_
        refine lv_iconst (v := Int32.ofInt 1) C.1 C.2.1 dX12_makes_40 (by decide) ?_
        refine z_isub C dX12_makes_41 ?_
        refine fp_65 C h dX12_makes_42 (fun H locs h => ?_)
        refine lv_aload_n C.1 C.2.1 dX12_makes_45 rfl (lv_at hl 0 rfl) ?_
        refine lv_aload_n C.1 C.2.1 dX12_makes_46 rfl (lv_at hl 0 rfl) ?_
        refine fg_66 C h dX12_makes_47 ?_
        refine lv_aload_n C.1 C.2.1 dX12_makes_50 rfl (lv_at hl 0 rfl) ?_
        refine fg_65 C h dX12_makes_51 ?_
        refine x_topi (y := Int32.ofInt ((fl σ 65 0) - 1)) rfl ?_
        obtain ⟨g9, hm⟩ := grd_s hm
        refine al_56 C h dX12_makes_54 g9 ?_
        refine x_topi (y := Int32.ofInt (el σ 56 ((fl σ 65 0) - 1))) rfl ?_
        refine lv_aload_n C.1 C.2.1 dX12_makes_55 rfl (lv_at hl 0 rfl) ?_
        refine fg_67 C h dX12_makes_56 ?_
        refine lv_aload_n C.1 C.2.1 dX12_makes_59 rfl (lv_at hl 0 rfl) ?_
        refine fg_65 C h dX12_makes_60 ?_
        refine x_topi (y := Int32.ofInt ((fl σ 65 0) - 1)) rfl ?_
        refine al_55 C h dX12_makes_63 g9 ?_
        refine x_topi (y := Int32.ofInt (el σ 55 ((fl σ 65 0) - 1))) rfl ?_
        obtain ⟨σ10, e11, hm⟩ := bnd_s hm
        rw [e11] at h
        obtain ⟨r12, e13, hm⟩ := obd_s hm
        refine q_callVv C h (rc_does l D k g N σ10 (el σ 56 ((fl σ 65 0) - 1)) (el σ 55 ((fl σ 65 0) - 1)) r12 e13) (cwV 2 C.2.2.1 (gR_does _) rfl rfl rfl hd_does ⟨Nat.le_of_ble_eq_true rfl, Nat.le_of_ble_eq_true rfl⟩) rfl hl.1 rfl (Nat.le_of_ble_eq_true rfl) dX12_makes_64 ⟨Nat.le_of_ble_eq_true rfl, Nat.le_of_ble_eq_true rfl⟩ (fun H locs h => ?_)
        refine lv_goto (tgt := 21) C.1 C.2.1 dX12_makes_67 (by decide) ?_
        exact hrec21 (lv_sub hl [0] rfl) h hm
set_option maxHeartbeats 4000000 in
set_option maxRecDepth 100000 in
theorem rc_makes (l : Launch) (D : va_G) (k : Nat → ClassId) (g : Nat → Nat) (N : Nat) (σ : St) (x1 : Int) (r : St × Int) (hm : r_makes N σ x1 = some r) : Mi l yX12_makes (.code yX12_makes cX12_makes 2 (some .int) :: rW) { frames := 9, cells := 0, slots := 0, locals := 225 } [.ref (g 0), .int (Int32.ofInt x1)] D (TYs k) (mW k g σ) (fun _ => True) Unit (fun v _ => v = Int32.ofInt r.2) (fun _ => mW k g r.1) 0 0 := by
  intro sz
  refine x_met (cc := cX12_makes) (maxL := 2) (ret := (some .int)) (by decide) rfl (Nat.le_of_ble_eq_true rfl) ?_
  intro p e s m below meth c ls C hX hsz hr hlk hmn hl h
  have hl : lv_has ls 2 [(0, .ref (g 0)), (1, .int (Int32.ofInt x1))] := hl
  rw [r_makes] at hm
  refine lv_aload_n C.1 C.2.1 dX12_makes_0 rfl (lv_at hl 0 rfl) ?_
  refine lv_iconst (v := Int32.ofInt 0) C.1 C.2.1 dX12_makes_1 (by decide) ?_
  refine fp_65 C h dX12_makes_2 (fun H locs h => ?_)
  refine lv_aload_n C.1 C.2.1 dX12_makes_5 rfl (lv_at hl 0 rfl) ?_
  refine lv_iconst (v := Int32.ofInt 0) C.1 C.2.1 dX12_makes_6 (by decide) ?_
  refine fp_68 C h dX12_makes_7 (fun H locs h => ?_)
  refine lv_aload_n C.1 C.2.1 dX12_makes_10 rfl (lv_at hl 0 rfl) ?_
  refine lv_iconst (v := Int32.ofInt 0) C.1 C.2.1 dX12_makes_11 (by decide) ?_
  refine fp_70 C h dX12_makes_12 (fun H locs h => ?_)
  refine lv_aload_n C.1 C.2.1 dX12_makes_15 rfl (lv_at hl 0 rfl) ?_
  refine lv_iconst (v := Int32.ofInt 1) C.1 C.2.1 dX12_makes_16 (by decide) ?_
  refine lv_iload_n C.1 C.2.1 dX12_makes_17 rfl (lv_at hl 1 rfl) ?_
  obtain ⟨σ1, e2, hm⟩ := bnd_s hm
  rw [e2] at h
  obtain ⟨r3, e4, hm⟩ := obd_s hm
  refine q_callVv C h (rc_task l D k g N σ1 1 x1 r3 e4) (cwV 2 C.2.2.1 (gR_task _) rfl rfl rfl hd_task ⟨Nat.le_of_ble_eq_true rfl, Nat.le_of_ble_eq_true rfl⟩) rfl hl.1 rfl (Nat.le_of_ble_eq_true rfl) dX12_makes_18 ⟨Nat.le_of_ble_eq_true rfl, Nat.le_of_ble_eq_true rfl⟩ (fun H locs h => ?_)
  exact lm_makes_21 (N := N) C hr hlk  N (lv_sub hl [0] rfl) h hm
end L_makes
section L_div
variable {p : Program} {l : Launch} {e : Env} {s : State} {m : MethodId} {args : Array Value} {below : List Frame} {meth : Method} {c : Code} {D : va_G} {A : Nat → Prop} {k : Nat → ClassId} {g : Nat → Nat} {N : Nat} {cd : Cond}
set_option maxHeartbeats 4000000 in
set_option maxRecDepth 100000 in
theorem rc_div (l : Launch) (D : va_G) (k : Nat → ClassId) (N : Nat) (x0 : Int) (x2 : Int) (r : Int) (hm : r_div N x0 x2 = some r) : Ml l yX12_div (.code yX12_div cX12_div 6 (some .long) :: rW) { frames := 0, cells := 0, slots := 0, locals := 0 } [.long (Int64.ofInt x0), .long (Int64.ofInt x2)] D (TYs k) [] (fun _ => True) Unit (fun v _ => v = Int64.ofInt r) (fun _ => []) 0 0 := by
  intro sz
  refine x_met (cc := cX12_div) (maxL := 6) (ret := (some .long)) (by decide) rfl (Nat.le_of_ble_eq_true rfl) ?_
  intro p e s m below meth c ls C hX hsz hr hlk hmn hl h
  have hl : lv_has ls 6 [(0, .long (Int64.ofInt x0)), (2, .long (Int64.ofInt x2))] := hl
  rw [r_div] at hm
  refine lv_lload_n C.1 C.2.1 dX12_div_0 rfl (lv_at hl 0 rfl) ?_
  refine lv_lload_n C.1 C.2.1 dX12_div_1 rfl (lv_at hl 1 rfl) ?_
  obtain ⟨g1, hm⟩ := grd_s hm
  obtain ⟨g2, hm⟩ := grd_s hm
  obtain ⟨g3, hm⟩ := grd_s hm
  refine z_ldiv C dX12_div_2 g1 g2 g3 ?_
  obtain ⟨v4, e5, hm⟩ := bnd_s hm
  rw [e5]
  refine lv_lstore (lv' := [(4, .long (Int64.ofInt v4)), (0, .long (Int64.ofInt x0)), (2, .long (Int64.ofInt x2))]) C.1 C.2.1 dX12_div_3 hl (by decide) rfl (fun ls hl => ?_)
  refine lv_lload_n C.1 C.2.1 dX12_div_5 rfl (lv_at hl 1 rfl) ?_
  refine lv_lload_n C.1 C.2.1 dX12_div_6 rfl (lv_at hl 2 rfl) ?_
  refine z_lrem C dX12_div_7 g1 g2 g3 ?_
  refine lv_lconst (v := Int64.ofInt 0) C.1 C.2.1 dX12_div_8 (by decide) ?_
  obtain ⟨g6, hm⟩ := grd_s hm
  refine W.lcmp C.1 C.2.1 dX12_div_9 ?_
  refine z_lcmp_ge (tgt := 20) C dX12_div_10 (by decide) g6 (by decide) (fun c7 => ?_) (fun c7 => ?_)
  · have hm := ite_f c7 hm
    refine lv_lload C.1 C.2.1 dX12_div_20 (lv_at hl 0 rfl) ?_
    cases hm
    exact q_lretS C h hr hlk dX12_div_22
  · have hm := ite_t c7 hm
    refine lv_lload C.1 C.2.1 dX12_div_13 (lv_at hl 0 rfl) ?_
    refine lv_lconst (v := Int64.ofInt 1) C.1 C.2.1 dX12_div_15 (by decide) ?_
    refine z_lsub C dX12_div_16 ?_
    refine lv_goto (tgt := 22) C.1 C.2.1 dX12_div_17 (by decide) ?_
    cases hm
    exact q_lretS C h hr hlk dX12_div_22
end L_div
section L_mod
variable {p : Program} {l : Launch} {e : Env} {s : State} {m : MethodId} {args : Array Value} {below : List Frame} {meth : Method} {c : Code} {D : va_G} {A : Nat → Prop} {k : Nat → ClassId} {g : Nat → Nat} {N : Nat} {cd : Cond}
set_option maxHeartbeats 4000000 in
set_option maxRecDepth 100000 in
theorem rc_mod (l : Launch) (D : va_G) (k : Nat → ClassId) (N : Nat) (x0 : Int) (x2 : Int) (r : Int) (hm : r_mod N x0 x2 = some r) : Ml l yX12_mod (.code yX12_mod cX12_mod 4 (some .long) :: rW) { frames := 1, cells := 0, slots := 0, locals := 25 } [.long (Int64.ofInt x0), .long (Int64.ofInt x2)] D (TYs k) [] (fun _ => True) Unit (fun v _ => v = Int64.ofInt r) (fun _ => []) 0 0 := by
  intro sz
  refine x_met (cc := cX12_mod) (maxL := 4) (ret := (some .long)) (by decide) rfl (Nat.le_of_ble_eq_true rfl) ?_
  intro p e s m below meth c ls C hX hsz hr hlk hmn hl h
  have hl : lv_has ls 4 [(0, .long (Int64.ofInt x0)), (2, .long (Int64.ofInt x2))] := hl
  rw [r_mod] at hm
  refine lv_lload_n C.1 C.2.1 dX12_mod_0 rfl (lv_at hl 0 rfl) ?_
  refine lv_lload_n C.1 C.2.1 dX12_mod_1 rfl (lv_at hl 1 rfl) ?_
  refine lv_lload_n C.1 C.2.1 dX12_mod_2 rfl (lv_at hl 0 rfl) ?_
  refine lv_lload_n C.1 C.2.1 dX12_mod_3 rfl (lv_at hl 1 rfl) ?_
  obtain ⟨r1, e2, hm⟩ := obd_s hm
  refine q_callSl C h (rc_div l D k N x0 x2 r1 e2) (cwS 2 C.2.2.1 (gR_div _) rfl rfl rfl hd_div ⟨Nat.le_of_ble_eq_true rfl, Nat.le_of_ble_eq_true rfl⟩) rfl hl.1 rfl (Nat.le_of_ble_eq_true rfl) dX12_mod_4 ⟨Nat.le_of_ble_eq_true rfl, Nat.le_of_ble_eq_true rfl⟩ (fun H locs h => ?_)
  refine z_lmul C dX12_mod_7 ?_
  refine z_lsub C dX12_mod_8 ?_
  cases hm
  exact q_lretS C h hr hlk dX12_mod_9
end L_mod
section L_call
variable {p : Program} {l : Launch} {e : Env} {s : State} {m : MethodId} {args : Array Value} {below : List Frame} {meth : Method} {c : Code} {D : va_G} {A : Nat → Prop} {k : Nat → ClassId} {g : Nat → Nat} {N : Nat} {cd : Cond}
set_option maxHeartbeats 4000000 in
set_option maxRecDepth 100000 in
theorem rc_call (l : Launch) (D : va_G) (k : Nat → ClassId) (g : Nat → Nat) (N : Nat) (σ : St) (x1 : Int) (x2 : Int) (r : St) (hm : r_call N σ x1 x2 = some r) : Mv l yX12_call (.code yX12_call cX12_call 5 none :: rW) { frames := 0, cells := 0, slots := 0, locals := 0 } [.ref (g 0), .int (Int32.ofInt x1), .long (Int64.ofInt x2)] D (TYs k) (mW k g σ) (fun _ => True) Unit (fun _ => True) (fun _ => mW k g r) 0 0 := by
  intro sz
  refine x_met (cc := cX12_call) (maxL := 5) (ret := none) (by decide) rfl (Nat.le_of_ble_eq_true rfl) ?_
  intro p e s m below meth c ls C hX hsz hr hlk hmn hl h
  have hl : lv_has ls 5 [(0, .ref (g 0)), (1, .int (Int32.ofInt x1)), (2, .long (Int64.ofInt x2))] := hl
  rw [r_call] at hm
  refine lv_aload_n C.1 C.2.1 dX12_call_0 rfl (lv_at hl 0 rfl) ?_
  refine fg_96 C h dX12_call_1 ?_
  refine lv_istore (lv' := [(4, .int (Int32.ofInt (fl σ 96 0))), (0, .ref (g 0)), (1, .int (Int32.ofInt x1)), (2, .long (Int64.ofInt x2))]) C.1 C.2.1 dX12_call_4 hl (by decide) rfl (fun ls hl => ?_)
  refine lv_aload_n C.1 C.2.1 dX12_call_6 rfl (lv_at hl 1 rfl) ?_
  refine lv_dup C.1 C.2.1 dX12_call_7 rfl ?_
  refine fg_96 C h dX12_call_8 ?_
  refine lv_iconst (v := Int32.ofInt 1) C.1 C.2.1 dX12_call_11 (by decide) ?_
  refine z_iadd C dX12_call_12 ?_
  refine fp_96 C h dX12_call_13 (fun H locs h => ?_)
  refine lv_aload_n C.1 C.2.1 dX12_call_16 rfl (lv_at hl 1 rfl) ?_
  refine fg_97 C h dX12_call_17 ?_
  refine lv_iload C.1 C.2.1 dX12_call_20 (lv_at hl 0 rfl) ?_
  refine lv_iload_n C.1 C.2.1 dX12_call_22 rfl (lv_at hl 2 rfl) ?_
  obtain ⟨g1, hm⟩ := grd_s hm
  refine as_42 C h dX12_call_23 g1 (fun H locs h => ?_)
  refine lv_aload_n C.1 C.2.1 dX12_call_24 rfl (lv_at hl 1 rfl) ?_
  refine fg_98 C h dX12_call_25 ?_
  refine lv_iload C.1 C.2.1 dX12_call_28 (lv_at hl 0 rfl) ?_
  refine lv_lload_n C.1 C.2.1 dX12_call_30 rfl (lv_at hl 3 rfl) ?_
  refine as_41 C h dX12_call_31 g1 (fun H locs h => ?_)
  refine lv_aload_n C.1 C.2.1 dX12_call_32 rfl (lv_at hl 1 rfl) ?_
  refine fg_99 C h dX12_call_33 ?_
  refine lv_iload C.1 C.2.1 dX12_call_36 (lv_at hl 0 rfl) ?_
  refine lv_iconst (v := Int32.ofInt 0) C.1 C.2.1 dX12_call_38 (by decide) ?_
  refine as_40 C h dX12_call_39 g1 (fun H locs h => ?_)
  refine lv_aload_n C.1 C.2.1 dX12_call_40 rfl (lv_at hl 1 rfl) ?_
  refine fg_100 C h dX12_call_41 ?_
  refine lv_iload C.1 C.2.1 dX12_call_44 (lv_at hl 0 rfl) ?_
  refine lv_aload_n C.1 C.2.1 dX12_call_46 rfl (lv_at hl 1 rfl) ?_
  refine fg_84 C h dX12_call_47 ?_
  refine x_topi (y := Int32.ofInt (fl σ 84 0)) rfl ?_
  refine as_39 C h dX12_call_50 g1 (fun H locs h => ?_)
  refine lv_aload_n C.1 C.2.1 dX12_call_51 rfl (lv_at hl 1 rfl) ?_
  refine fg_101 C h dX12_call_52 ?_
  refine lv_iload C.1 C.2.1 dX12_call_55 (lv_at hl 0 rfl) ?_
  refine lv_aload_n C.1 C.2.1 dX12_call_57 rfl (lv_at hl 1 rfl) ?_
  refine fg_84 C h dX12_call_58 ?_
  refine x_topi (y := Int32.ofInt (fl σ 84 0)) rfl ?_
  refine as_38 C h dX12_call_61 g1 (fun H locs h => ?_)
  refine lv_aload_n C.1 C.2.1 dX12_call_62 rfl (lv_at hl 1 rfl) ?_
  refine fg_102 C h dX12_call_63 ?_
  refine lv_iload C.1 C.2.1 dX12_call_66 (lv_at hl 0 rfl) ?_
  refine lv_iconst (v := Int32.ofInt 0) C.1 C.2.1 dX12_call_68 (by decide) ?_
  refine as_37 C h dX12_call_69 g1 (fun H locs h => ?_)
  refine lv_aload_n C.1 C.2.1 dX12_call_70 rfl (lv_at hl 1 rfl) ?_
  refine fg_103 C h dX12_call_71 ?_
  refine lv_iload C.1 C.2.1 dX12_call_74 (lv_at hl 0 rfl) ?_
  refine lv_iconst (v := Int32.ofInt 0) C.1 C.2.1 dX12_call_76 (by decide) ?_
  refine as_36 C h dX12_call_77 g1 (fun H locs h => ?_)
  refine lv_aload_n C.1 C.2.1 dX12_call_78 rfl (lv_at hl 1 rfl) ?_
  refine fg_104 C h dX12_call_79 ?_
  refine lv_iload C.1 C.2.1 dX12_call_82 (lv_at hl 0 rfl) ?_
  refine lv_lconst (v := Int64.ofInt 0) C.1 C.2.1 dX12_call_84 (by decide) ?_
  refine as_35 C h dX12_call_85 g1 (fun H locs h => ?_)
  refine lv_aload_n C.1 C.2.1 dX12_call_86 rfl (lv_at hl 1 rfl) ?_
  refine fg_105 C h dX12_call_87 ?_
  refine lv_iload C.1 C.2.1 dX12_call_90 (lv_at hl 0 rfl) ?_
  refine lv_lconst (v := Int64.ofInt 0) C.1 C.2.1 dX12_call_92 (by decide) ?_
  refine as_34 C h dX12_call_93 g1 (fun H locs h => ?_)
  refine lv_aload_n C.1 C.2.1 dX12_call_94 rfl (lv_at hl 1 rfl) ?_
  refine fg_106 C h dX12_call_95 ?_
  refine lv_iload C.1 C.2.1 dX12_call_98 (lv_at hl 0 rfl) ?_
  refine lv_lconst (v := Int64.ofInt 0) C.1 C.2.1 dX12_call_100 (by decide) ?_
  refine as_33 C h dX12_call_101 g1 (fun H locs h => ?_)
  cases hm
  exact q_vret C h hr hlk dX12_call_102
end L_call
section L_callKid
variable {p : Program} {l : Launch} {e : Env} {s : State} {m : MethodId} {args : Array Value} {below : List Frame} {meth : Method} {c : Code} {D : va_G} {A : Nat → Prop} {k : Nat → ClassId} {g : Nat → Nat} {N : Nat} {cd : Cond}
set_option maxHeartbeats 4000000 in
set_option maxRecDepth 100000 in
theorem rc_callKid (l : Launch) (D : va_G) (k : Nat → ClassId) (g : Nat → Nat) (N : Nat) (σ : St) (x1 : Int) (x2 : Int) (x3 : Int) (r : St) (hm : r_callKid N σ x1 x2 x3 = some r) : Mv l yX12_callKid (.code yX12_callKid cX12_callKid 5 none :: rW) { frames := 1, cells := 0, slots := 0, locals := 24 } [.ref (g 0), .int (Int32.ofInt x1), .int (Int32.ofInt x2), .long (Int64.ofInt x3)] D (TYs k) (mW k g σ) (fun _ => True) Unit (fun _ => True) (fun _ => mW k g r) 0 0 := by
  intro sz
  refine x_met (cc := cX12_callKid) (maxL := 5) (ret := none) (by decide) rfl (Nat.le_of_ble_eq_true rfl) ?_
  intro p e s m below meth c ls C hX hsz hr hlk hmn hl h
  have hl : lv_has ls 5 [(0, .ref (g 0)), (1, .int (Int32.ofInt x1)), (2, .int (Int32.ofInt x2)), (3, .long (Int64.ofInt x3))] := hl
  rw [r_callKid] at hm
  refine lv_aload_n C.1 C.2.1 dX12_callKid_0 rfl (lv_at hl 0 rfl) ?_
  refine fg_101 C h dX12_callKid_1 ?_
  refine lv_iload_n C.1 C.2.1 dX12_callKid_4 rfl (lv_at hl 1 rfl) ?_
  refine lv_aload_n C.1 C.2.1 dX12_callKid_5 rfl (lv_at hl 0 rfl) ?_
  refine fg_84 C h dX12_callKid_6 ?_
  obtain ⟨g1, hm⟩ := grd_s hm
  refine as_38 C h dX12_callKid_9 g1 (fun H locs h => ?_)
  refine lv_aload_n C.1 C.2.1 dX12_callKid_10 rfl (lv_at hl 0 rfl) ?_
  refine fg_99 C h dX12_callKid_11 ?_
  refine lv_iload_n C.1 C.2.1 dX12_callKid_14 rfl (lv_at hl 1 rfl) ?_
  refine lv_iconst (v := Int32.ofInt 1) C.1 C.2.1 dX12_callKid_15 (by decide) ?_
  refine as_40 C h dX12_callKid_16 g1 (fun H locs h => ?_)
  refine lv_aload_n C.1 C.2.1 dX12_callKid_17 rfl (lv_at hl 0 rfl) ?_
  refine fg_102 C h dX12_callKid_18 ?_
  refine lv_iload_n C.1 C.2.1 dX12_callKid_21 rfl (lv_at hl 1 rfl) ?_
  refine lv_iload_n C.1 C.2.1 dX12_callKid_22 rfl (lv_at hl 2 rfl) ?_
  refine as_37 C h dX12_callKid_23 g1 (fun H locs h => ?_)
  refine lv_aload_n C.1 C.2.1 dX12_callKid_24 rfl (lv_at hl 0 rfl) ?_
  refine lv_aload_n C.1 C.2.1 dX12_callKid_25 rfl (lv_at hl 0 rfl) ?_
  refine fg_62 C h dX12_callKid_26 ?_
  refine lv_aload_n C.1 C.2.1 dX12_callKid_29 rfl (lv_at hl 0 rfl) ?_
  refine fg_54 C h dX12_callKid_30 ?_
  refine lv_aload_n C.1 C.2.1 dX12_callKid_33 rfl (lv_at hl 0 rfl) ?_
  refine fg_97 C h dX12_callKid_34 ?_
  refine lv_iload_n C.1 C.2.1 dX12_callKid_37 rfl (lv_at hl 1 rfl) ?_
  refine al_42 C h dX12_callKid_38 g1 ?_
  refine x_topi (y := Int32.ofInt (el σ 42 x1)) rfl ?_
  obtain ⟨g2, hm⟩ := grd_s hm
  refine al_65 C h dX12_callKid_39 g2 ?_
  refine x_topi (y := Int32.ofInt (el σ 65 (el σ 42 x1))) rfl ?_
  refine lv_iload_n C.1 C.2.1 dX12_callKid_40 rfl (lv_at hl 2 rfl) ?_
  refine z_iadd C dX12_callKid_41 ?_
  obtain ⟨g3, hm⟩ := grd_s hm
  refine al_58 C h dX12_callKid_42 g3 ?_
  refine x_topi (y := Int32.ofInt (el σ 58 ((el σ 65 (el σ 42 x1)) + x2))) rfl ?_
  refine lv_lload_n C.1 C.2.1 dX12_callKid_43 rfl (lv_at hl 3 rfl) ?_
  obtain ⟨σ4, e5, hm⟩ := bnd_s hm
  rw [e5] at h
  obtain ⟨r6, e7, hm⟩ := obd_s hm
  refine q_callVv C h (rc_call l D k g N σ4 (el σ 58 ((el σ 65 (el σ 42 x1)) + x2)) x3 r6 e7) (cwV 2 C.2.2.1 (gR_call _) rfl rfl rfl hd_call ⟨Nat.le_of_ble_eq_true rfl, Nat.le_of_ble_eq_true rfl⟩) rfl hl.1 rfl (Nat.le_of_ble_eq_true rfl) dX12_callKid_44 ⟨Nat.le_of_ble_eq_true rfl, Nat.le_of_ble_eq_true rfl⟩ (fun H locs h => ?_)
  cases hm
  exact q_vret C h hr hlk dX12_callKid_47
end L_callKid
section L_emit
variable {p : Program} {l : Launch} {e : Env} {s : State} {m : MethodId} {args : Array Value} {below : List Frame} {meth : Method} {c : Code} {D : va_G} {A : Nat → Prop} {k : Nat → ClassId} {g : Nat → Nat} {N : Nat} {cd : Cond}
set_option maxHeartbeats 4000000 in
set_option maxRecDepth 100000 in
theorem rc_emit (l : Launch) (D : va_G) (k : Nat → ClassId) (g : Nat → Nat) (N : Nat) (σ : St) (x1 : Int) (x3 : Int) (x5 : Int) (x6 : Int) (x7 : Int) (x8 : Int) (r : St) (hm : r_emit N σ x1 x3 x5 x6 x7 x8 = some r) : Mv l yX12_emit (.code yX12_emit cX12_emit 9 none :: rW) { frames := 0, cells := 0, slots := 0, locals := 0 } [.ref (g 0), .long (Int64.ofInt x1), .long (Int64.ofInt x3), .int (Int32.ofInt x5), .int (Int32.ofInt x6), .int (Int32.ofInt x7), .int (Int32.ofInt x8)] D (TYs k) (mW k g σ) (fun _ => True) Unit (fun _ => True) (fun _ => mW k g r) 0 0 := by
  intro sz
  refine x_met (cc := cX12_emit) (maxL := 9) (ret := none) (by decide) rfl (Nat.le_of_ble_eq_true rfl) ?_
  intro p e s m below meth c ls C hX hsz hr hlk hmn hl h
  have hl : lv_has ls 9 [(0, .ref (g 0)), (1, .long (Int64.ofInt x1)), (3, .long (Int64.ofInt x3)), (5, .int (Int32.ofInt x5)), (6, .int (Int32.ofInt x6)), (7, .int (Int32.ofInt x7)), (8, .int (Int32.ofInt x8))] := hl
  rw [r_emit] at hm
  refine lv_aload_n C.1 C.2.1 dX12_emit_0 rfl (lv_at hl 0 rfl) ?_
  refine fg_85 C h dX12_emit_1 ?_
  refine lv_aload_n C.1 C.2.1 dX12_emit_4 rfl (lv_at hl 0 rfl) ?_
  refine fg_84 C h dX12_emit_5 ?_
  refine lv_lload_n C.1 C.2.1 dX12_emit_8 rfl (lv_at hl 1 rfl) ?_
  obtain ⟨g1, hm⟩ := grd_s hm
  refine as_52 C h dX12_emit_9 g1 (fun H locs h => ?_)
  refine lv_aload_n C.1 C.2.1 dX12_emit_10 rfl (lv_at hl 0 rfl) ?_
  refine fg_86 C h dX12_emit_11 ?_
  refine lv_aload_n C.1 C.2.1 dX12_emit_14 rfl (lv_at hl 0 rfl) ?_
  refine fg_84 C h dX12_emit_15 ?_
  refine x_topi (y := Int32.ofInt (fl σ 84 0)) rfl ?_
  refine lv_lload_n C.1 C.2.1 dX12_emit_18 rfl (lv_at hl 2 rfl) ?_
  refine as_51 C h dX12_emit_19 g1 (fun H locs h => ?_)
  refine lv_aload_n C.1 C.2.1 dX12_emit_20 rfl (lv_at hl 0 rfl) ?_
  refine fg_87 C h dX12_emit_21 ?_
  refine lv_aload_n C.1 C.2.1 dX12_emit_24 rfl (lv_at hl 0 rfl) ?_
  refine fg_84 C h dX12_emit_25 ?_
  refine x_topi (y := Int32.ofInt (fl σ 84 0)) rfl ?_
  refine lv_iload C.1 C.2.1 dX12_emit_28 (lv_at hl 3 rfl) ?_
  refine as_50 C h dX12_emit_30 g1 (fun H locs h => ?_)
  refine lv_aload_n C.1 C.2.1 dX12_emit_31 rfl (lv_at hl 0 rfl) ?_
  refine fg_88 C h dX12_emit_32 ?_
  refine lv_aload_n C.1 C.2.1 dX12_emit_35 rfl (lv_at hl 0 rfl) ?_
  refine fg_84 C h dX12_emit_36 ?_
  refine x_topi (y := Int32.ofInt (fl σ 84 0)) rfl ?_
  refine lv_iload C.1 C.2.1 dX12_emit_39 (lv_at hl 4 rfl) ?_
  refine as_49 C h dX12_emit_41 g1 (fun H locs h => ?_)
  refine lv_aload_n C.1 C.2.1 dX12_emit_42 rfl (lv_at hl 0 rfl) ?_
  refine fg_89 C h dX12_emit_43 ?_
  refine lv_aload_n C.1 C.2.1 dX12_emit_46 rfl (lv_at hl 0 rfl) ?_
  refine fg_84 C h dX12_emit_47 ?_
  refine x_topi (y := Int32.ofInt (fl σ 84 0)) rfl ?_
  refine lv_iload C.1 C.2.1 dX12_emit_50 (lv_at hl 5 rfl) ?_
  refine as_48 C h dX12_emit_52 g1 (fun H locs h => ?_)
  refine lv_aload_n C.1 C.2.1 dX12_emit_53 rfl (lv_at hl 0 rfl) ?_
  refine fg_90 C h dX12_emit_54 ?_
  refine lv_aload_n C.1 C.2.1 dX12_emit_57 rfl (lv_at hl 0 rfl) ?_
  refine fg_84 C h dX12_emit_58 ?_
  refine x_topi (y := Int32.ofInt (fl σ 84 0)) rfl ?_
  refine lv_iload C.1 C.2.1 dX12_emit_61 (lv_at hl 6 rfl) ?_
  refine as_47 C h dX12_emit_63 g1 (fun H locs h => ?_)
  refine lv_aload_n C.1 C.2.1 dX12_emit_64 rfl (lv_at hl 0 rfl) ?_
  refine lv_dup C.1 C.2.1 dX12_emit_65 rfl ?_
  refine fg_84 C h dX12_emit_66 ?_
  refine x_topi (y := Int32.ofInt (fl σ 84 0)) rfl ?_
  refine lv_iconst (v := Int32.ofInt 1) C.1 C.2.1 dX12_emit_69 (by decide) ?_
  refine z_iadd C dX12_emit_70 ?_
  refine fp_84 C h dX12_emit_71 (fun H locs h => ?_)
  cases hm
  exact q_vret C h hr hlk dX12_emit_74
end L_emit
