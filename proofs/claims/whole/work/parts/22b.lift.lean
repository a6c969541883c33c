section L_readFun
variable {p : Program} {l : Launch} {e : Env} {s : State} {m : MethodId} {args : Array Value} {below : List Frame} {meth : Method} {c : Code} {D : va_G} {A : Nat → Prop} {k : Nat → ClassId} {g : Nat → Nat} {N : Nat} {cd : Cond}
set_option maxHeartbeats 4000000 in
set_option maxRecDepth 100000 in
theorem lm_readFun_114 {r : St} (C : Cx p s m args c cX12_readFun RX12 (cd :: rW) D (TYs k) 5) (hr : meth.sig.returnType = none) (hlk : meth.locks = false)  {ls : Array Slot} {H : Heap} {locs : List Loc} {σ : St}  (hl : lv_has ls 5 [(0, .ref (g 0))]) (h : Hp D A s.heap H locs (mW k g σ)) (hm : r_readFun_114 N  σ  = some r) : W p l e { frames := 4, cells := 0, slots := 0, locals := 89 } s m args below meth c H locs 0 0 (MQ below (va_Qv (fun (_ : Unit) => True) (fun _ t => PostW D (TYs k) A (mW k g r) t) A) args s 0 0 A) (F0 m 114 ls []) := by
  rw [r_readFun_114] at hm
  refine lv_aload_n C.1 C.2.1 dX12_readFun_114 rfl (lv_at hl 0 rfl) ?_
  refine lv_iconst (v := Int32.ofInt 2) C.1 C.2.1 dX12_readFun_115 (by decide) ?_
  refine lv_aload_n C.1 C.2.1 dX12_readFun_116 rfl (lv_at hl 0 rfl) ?_
  refine fg_4 C h dX12_readFun_117 ?_
  obtain ⟨r40, e41, hm⟩ := obd_s hm
  refine q_callVv C h (rc_fail l D k g N σ 2 (fl σ 4 0) r40 e41) (cwV 2 C.2.2.1 (gR_fail _) rfl rfl rfl hd_fail ⟨Nat.le_of_ble_eq_true rfl, Nat.le_of_ble_eq_true rfl⟩) rfl hl.1 rfl (Nat.le_of_ble_eq_true rfl) dX12_readFun_120 ⟨Nat.le_of_ble_eq_true rfl, Nat.le_of_ble_eq_true rfl⟩ (fun H locs h => ?_)
  cases hm
  exact q_vret C h hr hlk dX12_readFun_123
set_option maxHeartbeats 4000000 in
set_option maxRecDepth 100000 in
theorem lm_readFun_137 {r : St} (C : Cx p s m args c cX12_readFun RX12 (cd :: rW) D (TYs k) 5) (hr : meth.sig.returnType = none) (hlk : meth.locks = false)  {ls : Array Slot} {H : Heap} {locs : List Loc} {σ : St} {x2 : Int} {s0 : Int} (hl : lv_has ls 5 [(0, .ref (g 0)), (2, .int (Int32.ofInt x2))]) (h : Hp D A s.heap H locs (mW k g σ)) (hm : r_readFun_137 N  σ x2 s0 = some r) : W p l e { frames := 4, cells := 0, slots := 0, locals := 89 } s m args below meth c H locs 0 0 (MQ below (va_Qv (fun (_ : Unit) => True) (fun _ t => PostW D (TYs k) A (mW k g r) t) A) args s 0 0 A) (F0 m 137 ls [.int (Int32.ofInt s0), .ref (g 0)]) := by
  rw [r_readFun_137] at hm
  refine lv_aload_n C.1 C.2.1 dX12_readFun_137 rfl (lv_at hl 0 rfl) ?_
  refine fg_4 C h dX12_readFun_138 ?_
  obtain ⟨r42, e43, hm⟩ := obd_s hm
  refine q_callVi C h (rc_node l D k g N σ s0 (fl σ 4 0) r42 e43) (cwV 2 C.2.2.1 (gR_node _) rfl rfl rfl hd_node ⟨Nat.le_of_ble_eq_true rfl, Nat.le_of_ble_eq_true rfl⟩) rfl hl.1 rfl (Nat.le_of_ble_eq_true rfl) dX12_readFun_141 ⟨Nat.le_of_ble_eq_true rfl, Nat.le_of_ble_eq_true rfl⟩ (fun H locs h => ?_)
  refine lv_istore (lv' := [(4, .int (Int32.ofInt r42.2)), (0, .ref (g 0)), (2, .int (Int32.ofInt x2))]) C.1 C.2.1 dX12_readFun_144 hl (by decide) rfl (fun ls hl => ?_)
  refine lv_aload_n C.1 C.2.1 dX12_readFun_146 rfl (lv_at hl 1 rfl) ?_
  refine fg_19 C h dX12_readFun_147 ?_
  refine lv_iload C.1 C.2.1 dX12_readFun_150 (lv_at hl 0 rfl) ?_
  refine lv_iload_n C.1 C.2.1 dX12_readFun_152 rfl (lv_at hl 2 rfl) ?_
  obtain ⟨g44, hm⟩ := grd_s hm
  refine as_92 C h dX12_readFun_153 g44 (fun H locs h => ?_)
  refine lv_aload_n C.1 C.2.1 dX12_readFun_154 rfl (lv_at hl 1 rfl) ?_
  obtain ⟨σ45, e46, hm⟩ := bnd_s hm
  rw [e46] at h
  obtain ⟨r47, e48, hm⟩ := obd_s hm
  refine q_callVv C h (rc_advance l D k g N σ45  r47 e48) (cwV 0 C.2.2.1 (gR_advance _) rfl rfl rfl hd_advance ⟨Nat.le_of_ble_eq_true rfl, Nat.le_of_ble_eq_true rfl⟩) rfl hl.1 rfl (Nat.le_of_ble_eq_true rfl) dX12_readFun_155 ⟨Nat.le_of_ble_eq_true rfl, Nat.le_of_ble_eq_true rfl⟩ (fun H locs h => ?_)
  refine lv_aload_n C.1 C.2.1 dX12_readFun_158 rfl (lv_at hl 1 rfl) ?_
  refine lv_iload C.1 C.2.1 dX12_readFun_159 (lv_at hl 0 rfl) ?_
  obtain ⟨r49, e50, hm⟩ := obd_s hm
  refine q_callVv C h (rc_finish l D k g N r47 r42.2 r49 e50) (cwV 1 C.2.2.1 (gR_finish _) rfl rfl rfl hd_finish ⟨Nat.le_of_ble_eq_true rfl, Nat.le_of_ble_eq_true rfl⟩) rfl hl.1 rfl (Nat.le_of_ble_eq_true rfl) dX12_readFun_161 ⟨Nat.le_of_ble_eq_true rfl, Nat.le_of_ble_eq_true rfl⟩ (fun H locs h => ?_)
  refine lv_goto (tgt := 176) C.1 C.2.1 dX12_readFun_164 (by decide) ?_
  cases hm
  exact q_vret C h hr hlk dX12_readFun_176
set_option maxHeartbeats 4000000 in
set_option maxRecDepth 100000 in
theorem lm_readFun_124 {r : St} (C : Cx p s m args c cX12_readFun RX12 (cd :: rW) D (TYs k) 5) (hr : meth.sig.returnType = none) (hlk : meth.locks = false)  {ls : Array Slot} {H : Heap} {locs : List Loc} {σ : St} {x2 : Int} {x3 : Int} (hl : lv_has ls 5 [(0, .ref (g 0)), (2, .int (Int32.ofInt x2)), (3, .int (Int32.ofInt x3))]) (h : Hp D A s.heap H locs (mW k g σ)) (hm : r_readFun_124 N  σ x2 x3 = some r) : W p l e { frames := 4, cells := 0, slots := 0, locals := 89 } s m args below meth c H locs 0 0 (MQ below (va_Qv (fun (_ : Unit) => True) (fun _ t => PostW D (TYs k) A (mW k g r) t) A) args s 0 0 A) (F0 m 124 ls []) := by
  rw [r_readFun_124] at hm
  refine lv_aload_n C.1 C.2.1 dX12_readFun_124 rfl (lv_at hl 0 rfl) ?_
  refine lv_iload_n C.1 C.2.1 dX12_readFun_125 rfl (lv_at hl 2 rfl) ?_
  refine lv_iconst (v := Int32.ofInt 4) C.1 C.2.1 dX12_readFun_126 (by decide) ?_
  obtain ⟨g38, hm⟩ := grd_s hm
  refine z_icmp_ne (tgt := 135) C dX12_readFun_127 (by decide) g38 (by decide) (fun c39 => ?_) (fun c39 => ?_)
  · have hm := ite_f c39 hm
    refine lv_bipush (v := Int32.ofInt 10) C.1 C.2.1 dX12_readFun_135 (by decide) ?_
    exact lm_readFun_137 (N := N) C hr hlk  (lv_sub hl [0, 1] rfl) h hm
  · have hm := ite_t c39 hm
    refine lv_bipush (v := Int32.ofInt 9) C.1 C.2.1 dX12_readFun_130 (by decide) ?_
    refine lv_goto (tgt := 137) C.1 C.2.1 dX12_readFun_132 (by decide) ?_
    exact lm_readFun_137 (N := N) C hr hlk  (lv_sub hl [0, 1] rfl) h hm
set_option maxHeartbeats 4000000 in
set_option maxRecDepth 100000 in
theorem lm_readFun_89 {r : St} (C : Cx p s m args c cX12_readFun RX12 (cd :: rW) D (TYs k) 5) (hr : meth.sig.returnType = none) (hlk : meth.locks = false)  {ls : Array Slot} {H : Heap} {locs : List Loc} {σ : St} {x2 : Int} {s0 : Int} (hl : lv_has ls 5 [(0, .ref (g 0)), (2, .int (Int32.ofInt x2))]) (h : Hp D A s.heap H locs (mW k g σ)) (hm : r_readFun_89 N  σ x2 s0 = some r) : W p l e { frames := 4, cells := 0, slots := 0, locals := 89 } s m args below meth c H locs 0 0 (MQ below (va_Qv (fun (_ : Unit) => True) (fun _ t => PostW D (TYs k) A (mW k g r) t) A) args s 0 0 A) (F0 m 89 ls [.int (Int32.ofInt s0)]) := by
  rw [r_readFun_89] at hm
  refine lv_istore_n (lv' := [(3, .int (Int32.ofInt s0)), (0, .ref (g 0)), (2, .int (Int32.ofInt x2))]) C.1 C.2.1 dX12_readFun_89 rfl hl (by decide) rfl (fun ls hl => ?_)
  refine lv_iload_n C.1 C.2.1 dX12_readFun_90 rfl (lv_at hl 0 rfl) ?_
  refine lv_iconst (v := Int32.ofInt 4) C.1 C.2.1 dX12_readFun_91 (by decide) ?_
  obtain ⟨g30, hm⟩ := grd_s hm
  refine z_icmp_eq (tgt := 124) C dX12_readFun_92 (by decide) g30 (by decide) (fun c31 => ?_) (fun c31 => ?_)
  · have hm := ite_t c31 hm
    exact lm_readFun_124 (N := N) C hr hlk  (lv_sub hl [1, 2, 0] rfl) h hm
  · have hm := ite_f c31 hm
    refine lv_iload_n C.1 C.2.1 dX12_readFun_95 rfl (lv_at hl 0 rfl) ?_
    refine z_if_ge (tgt := 114) C dX12_readFun_96 (by decide) g30 (fun c32 => ?_) (fun c32 => ?_)
    · have hm := ite_f c32 hm
      exact lm_readFun_114 (N := N) C hr hlk  (lv_sub hl [1] rfl) h hm
    · have hm := ite_t c32 hm
      refine lv_iload_n C.1 C.2.1 dX12_readFun_99 rfl (lv_at hl 2 rfl) ?_
      refine lv_iconst (v := Int32.ofInt (-1)) C.1 C.2.1 dX12_readFun_100 (by decide) ?_
      obtain ⟨g33, hm⟩ := grd_s hm
      refine z_icmp_eq (tgt := 114) C dX12_readFun_101 (by decide) g33 (by decide) (fun c34 => ?_) (fun c34 => ?_)
      · have hm := ite_t c34 hm
        exact lm_readFun_114 (N := N) C hr hlk  (lv_sub hl [1] rfl) h hm
      · have hm := ite_f c34 hm
        refine lv_aload_n C.1 C.2.1 dX12_readFun_104 rfl (lv_at hl 1 rfl) ?_
        refine fg_31 C h dX12_readFun_105 ?_
        refine lv_iload_n C.1 C.2.1 dX12_readFun_108 rfl (lv_at hl 2 rfl) ?_
        obtain ⟨g35, hm⟩ := grd_s hm
        refine al_81 C h dX12_readFun_109 g35 ?_
        refine lv_iconst (v := Int32.ofInt 1) C.1 C.2.1 dX12_readFun_110 (by decide) ?_
        obtain ⟨g36, hm⟩ := grd_s hm
        refine z_icmp_eq (tgt := 124) C dX12_readFun_111 (by decide) g36 (by decide) (fun c37 => ?_) (fun c37 => ?_)
        · have hm := ite_t c37 hm
          exact lm_readFun_124 (N := N) C hr hlk  (lv_sub hl [1, 2, 0] rfl) h hm
        · have hm := ite_f c37 hm
          exact lm_readFun_114 (N := N) C hr hlk  (lv_sub hl [1] rfl) h hm
set_option maxHeartbeats 4000000 in
set_option maxRecDepth 100000 in
theorem lm_readFun_72 {r : St} (C : Cx p s m args c cX12_readFun RX12 (cd :: rW) D (TYs k) 5) (hr : meth.sig.returnType = none) (hlk : meth.locks = false)  {ls : Array Slot} {H : Heap} {locs : List Loc} {σ : St} {s0 : Int} (hl : lv_has ls 5 [(0, .ref (g 0))]) (h : Hp D A s.heap H locs (mW k g σ)) (hm : r_readFun_72 N  σ s0 = some r) : W p l e { frames := 4, cells := 0, slots := 0, locals := 89 } s m args below meth c H locs 0 0 (MQ below (va_Qv (fun (_ : Unit) => True) (fun _ t => PostW D (TYs k) A (mW k g r) t) A) args s 0 0 A) (F0 m 72 ls [.int (Int32.ofInt s0)]) := by
  rw [r_readFun_72] at hm
  refine lv_istore_n (lv' := [(2, .int (Int32.ofInt s0)), (0, .ref (g 0))]) C.1 C.2.1 dX12_readFun_72 rfl hl (by decide) rfl (fun ls hl => ?_)
  refine lv_aload_n C.1 C.2.1 dX12_readFun_73 rfl (lv_at hl 1 rfl) ?_
  obtain ⟨r24, e25, hm⟩ := obd_s hm
  refine q_callVi C h (rc_paramHere l D k g N σ  r24 e25) (cwV 0 C.2.2.1 (gR_paramHere _) rfl rfl rfl hd_paramHere ⟨Nat.le_of_ble_eq_true rfl, Nat.le_of_ble_eq_true rfl⟩) rfl hl.1 rfl (Nat.le_of_ble_eq_true rfl) dX12_readFun_74 ⟨Nat.le_of_ble_eq_true rfl, Nat.le_of_ble_eq_true rfl⟩ (fun H locs h => ?_)
  refine lv_iconst (v := Int32.ofInt (-1)) C.1 C.2.1 dX12_readFun_77 (by decide) ?_
  obtain ⟨g26, hm⟩ := grd_s hm
  refine z_icmp_ne (tgt := 88) C dX12_readFun_78 (by decide) g26 (by decide) (fun c27 => ?_) (fun c27 => ?_)
  · have hm := ite_f c27 hm
    refine lv_iconst (v := Int32.ofInt (-1)) C.1 C.2.1 dX12_readFun_88 (by decide) ?_
    exact lm_readFun_89 (N := N) C hr hlk  (lv_sub hl [1, 0] rfl) h hm
  · have hm := ite_t c27 hm
    refine lv_aload_n C.1 C.2.1 dX12_readFun_81 rfl (lv_at hl 1 rfl) ?_
    obtain ⟨r28, e29, hm⟩ := obd_s hm
    refine q_callVi C h (rc_functionHere l D k g N r24.1  r28 e29) (cwV 0 C.2.2.1 (gR_functionHere _) rfl rfl rfl hd_functionHere ⟨Nat.le_of_ble_eq_true rfl, Nat.le_of_ble_eq_true rfl⟩) rfl hl.1 rfl (Nat.le_of_ble_eq_true rfl) dX12_readFun_82 ⟨Nat.le_of_ble_eq_true rfl, Nat.le_of_ble_eq_true rfl⟩ (fun H locs h => ?_)
    refine lv_goto (tgt := 89) C.1 C.2.1 dX12_readFun_85 (by decide) ?_
    exact lm_readFun_89 (N := N) C hr hlk  (lv_sub hl [1, 0] rfl) h hm
set_option maxHeartbeats 4000000 in
set_option maxRecDepth 100000 in
theorem rc_readFun (l : Launch) (D : va_G) (k : Nat → ClassId) (g : Nat → Nat) (N : Nat) (σ : St) (x1 : Int) (r : St) (hm : r_readFun N σ x1 = some r) : Mv l yX12_readFun (.code yX12_readFun cX12_readFun 5 none :: rW) { frames := 4, cells := 0, slots := 0, locals := 89 } [.ref (g 0), .int (Int32.ofInt x1)] D (TYs k) (mW k g σ) (fun _ => True) Unit (fun _ => True) (fun _ => mW k g r) 0 0 := by
  intro sz
  refine x_met (cc := cX12_readFun) (maxL := 5) (ret := none) (by decide) rfl (Nat.le_of_ble_eq_true rfl) ?_
  intro p e s m below meth c ls C hX hsz hr hlk hmn hl h
  have hl : lv_has ls 5 [(0, .ref (g 0)), (1, .int (Int32.ofInt x1))] := hl
  rw [r_readFun] at hm
  refine lv_aload_n C.1 C.2.1 dX12_readFun_0 rfl (lv_at hl 0 rfl) ?_
  refine fg_44 C h dX12_readFun_1 ?_
  refine lv_iload_n C.1 C.2.1 dX12_readFun_4 rfl (lv_at hl 1 rfl) ?_
  obtain ⟨g1, hm⟩ := grd_s hm
  refine al_72 C h dX12_readFun_5 g1 ?_
  refine lv_iconst (v := Int32.ofInt 1) C.1 C.2.1 dX12_readFun_6 (by decide) ?_
  obtain ⟨g2, hm⟩ := grd_s hm
  refine z_icmp_ne (tgt := 21) C dX12_readFun_7 (by decide) g2 (by decide) (fun c3 => ?_) (fun c3 => ?_)
  · have hm := ite_f c3 hm
    refine lv_aload_n C.1 C.2.1 dX12_readFun_21 rfl (lv_at hl 0 rfl) ?_
    refine lv_bipush (v := Int32.ofInt 40) C.1 C.2.1 dX12_readFun_22 (by decide) ?_
    obtain ⟨r4, e5, hm⟩ := obd_s hm
    refine q_callVi C h (rc_isSign l D k g N σ 40 r4 e5) (cwV 1 C.2.2.1 (gR_isSign _) rfl rfl rfl hd_isSign ⟨Nat.le_of_ble_eq_true rfl, Nat.le_of_ble_eq_true rfl⟩) rfl hl.1 rfl (Nat.le_of_ble_eq_true rfl) dX12_readFun_24 ⟨Nat.le_of_ble_eq_true rfl, Nat.le_of_ble_eq_true rfl⟩ (fun H locs h => ?_)
    obtain ⟨g6, hm⟩ := grd_s hm
    refine z_if_eq (tgt := 48) C dX12_readFun_27 (by decide) g6 (fun c7 => ?_) (fun c7 => ?_)
    · have hm := ite_t c7 hm
      refine lv_aload_n C.1 C.2.1 dX12_readFun_48 rfl (lv_at hl 0 rfl) ?_
      refine fg_3 C h dX12_readFun_49 ?_
      refine lv_iconst (v := Int32.ofInt 2) C.1 C.2.1 dX12_readFun_52 (by decide) ?_
      obtain ⟨g8, hm⟩ := grd_s hm
      refine z_icmp_ne (tgt := 167) C dX12_readFun_53 (by decide) g8 (by decide) (fun c9 => ?_) (fun c9 => ?_)
      · have hm := ite_f c9 hm
        refine lv_aload_n C.1 C.2.1 dX12_readFun_167 rfl (lv_at hl 0 rfl) ?_
        refine lv_iconst (v := Int32.ofInt 1) C.1 C.2.1 dX12_readFun_168 (by decide) ?_
        refine lv_aload_n C.1 C.2.1 dX12_readFun_169 rfl (lv_at hl 0 rfl) ?_
        refine fg_4 C h dX12_readFun_170 ?_
        obtain ⟨r10, e11, hm⟩ := obd_s hm
        refine q_callVv C h (rc_fail l D k g N r4.1 1 (fl r4.1 4 0) r10 e11) (cwV 2 C.2.2.1 (gR_fail _) rfl rfl rfl hd_fail ⟨Nat.le_of_ble_eq_true rfl, Nat.le_of_ble_eq_true rfl⟩) rfl hl.1 rfl (Nat.le_of_ble_eq_true rfl) dX12_readFun_173 ⟨Nat.le_of_ble_eq_true rfl, Nat.le_of_ble_eq_true rfl⟩ (fun H locs h => ?_)
        cases hm
        exact q_vret C h hr hlk dX12_readFun_176
      · have hm := ite_t c9 hm
        refine lv_aload_n C.1 C.2.1 dX12_readFun_56 rfl (lv_at hl 0 rfl) ?_
        obtain ⟨r12, e13, hm⟩ := obd_s hm
        refine q_callVi C h (rc_paramHere l D k g N r4.1  r12 e13) (cwV 0 C.2.2.1 (gR_paramHere _) rfl rfl rfl hd_paramHere ⟨Nat.le_of_ble_eq_true rfl, Nat.le_of_ble_eq_true rfl⟩) rfl hl.1 rfl (Nat.le_of_ble_eq_true rfl) dX12_readFun_57 ⟨Nat.le_of_ble_eq_true rfl, Nat.le_of_ble_eq_true rfl⟩ (fun H locs h => ?_)
        refine lv_iconst (v := Int32.ofInt (-1)) C.1 C.2.1 dX12_readFun_60 (by decide) ?_
        obtain ⟨g14, hm⟩ := grd_s hm
        refine z_icmp_ne (tgt := 71) C dX12_readFun_61 (by decide) g14 (by decide) (fun c15 => ?_) (fun c15 => ?_)
        · have hm := ite_f c15 hm
          refine lv_iconst (v := Int32.ofInt (-1)) C.1 C.2.1 dX12_readFun_71 (by decide) ?_
          exact lm_readFun_72 (N := N) C hr hlk  (lv_sub hl [0] rfl) h hm
        · have hm := ite_t c15 hm
          refine lv_aload_n C.1 C.2.1 dX12_readFun_64 rfl (lv_at hl 0 rfl) ?_
          obtain ⟨r16, e17, hm⟩ := obd_s hm
          refine q_callVi C h (rc_definitionHere l D k g N r12.1  r16 e17) (cwV 0 C.2.2.1 (gR_definitionHere _) rfl rfl rfl hd_definitionHere ⟨Nat.le_of_ble_eq_true rfl, Nat.le_of_ble_eq_true rfl⟩) rfl hl.1 rfl (Nat.le_of_ble_eq_true rfl) dX12_readFun_65 ⟨Nat.le_of_ble_eq_true rfl, Nat.le_of_ble_eq_true rfl⟩ (fun H locs h => ?_)
          refine lv_goto (tgt := 72) C.1 C.2.1 dX12_readFun_68 (by decide) ?_
          exact lm_readFun_72 (N := N) C hr hlk  (lv_sub hl [0] rfl) h hm
    · have hm := ite_f c7 hm
      refine lv_aload_n C.1 C.2.1 dX12_readFun_30 rfl (lv_at hl 0 rfl) ?_
      refine fg_44 C h dX12_readFun_31 ?_
      refine lv_iload_n C.1 C.2.1 dX12_readFun_34 rfl (lv_at hl 1 rfl) ?_
      refine lv_iconst (v := Int32.ofInt 1) C.1 C.2.1 dX12_readFun_35 (by decide) ?_
      refine as_72 C h dX12_readFun_36 g1 (fun H locs h => ?_)
      refine lv_aload_n C.1 C.2.1 dX12_readFun_37 rfl (lv_at hl 0 rfl) ?_
      refine lv_bipush (v := Int32.ofInt 8) C.1 C.2.1 dX12_readFun_38 (by decide) ?_
      refine lv_iconst (v := Int32.ofInt (-1)) C.1 C.2.1 dX12_readFun_40 (by decide) ?_
      refine lv_iconst (v := Int32.ofInt 0) C.1 C.2.1 dX12_readFun_41 (by decide) ?_
      obtain ⟨σ18, e19, hm⟩ := bnd_s hm
      rw [e19] at h
      obtain ⟨r20, e21, hm⟩ := obd_s hm
      refine q_callVv C h (rc_begin l D k g N σ18 8 (-1) 0 r20 e21) (cwV 3 C.2.2.1 (gR_begin _) rfl rfl rfl hd_begin ⟨Nat.le_of_ble_eq_true rfl, Nat.le_of_ble_eq_true rfl⟩) rfl hl.1 rfl (Nat.le_of_ble_eq_true rfl) dX12_readFun_42 ⟨Nat.le_of_ble_eq_true rfl, Nat.le_of_ble_eq_true rfl⟩ (fun H locs h => ?_)
      refine lv_goto (tgt := 176) C.1 C.2.1 dX12_readFun_45 (by decide) ?_
      cases hm
      exact q_vret C h hr hlk dX12_readFun_176
  · have hm := ite_t c3 hm
    refine lv_aload_n C.1 C.2.1 dX12_readFun_10 rfl (lv_at hl 0 rfl) ?_
    refine lv_aload_n C.1 C.2.1 dX12_readFun_11 rfl (lv_at hl 0 rfl) ?_
    refine fg_46 C h dX12_readFun_12 ?_
    obtain ⟨r22, e23, hm⟩ := obd_s hm
    refine q_callVv C h (rc_finish l D k g N σ (fl σ 46 0) r22 e23) (cwV 1 C.2.2.1 (gR_finish _) rfl rfl rfl hd_finish ⟨Nat.le_of_ble_eq_true rfl, Nat.le_of_ble_eq_true rfl⟩) rfl hl.1 rfl (Nat.le_of_ble_eq_true rfl) dX12_readFun_15 ⟨Nat.le_of_ble_eq_true rfl, Nat.le_of_ble_eq_true rfl⟩ (fun H locs h => ?_)
    refine lv_goto (tgt := 176) C.1 C.2.1 dX12_readFun_18 (by decide) ?_
    cases hm
    exact q_vret C h hr hlk dX12_readFun_176
end L_readFun
section L_skip
variable {p : Program} {l : Launch} {e : Env} {s : State} {m : MethodId} {args : Array Value} {below : List Frame} {meth : Method} {c : Code} {D : va_G} {A : Nat → Prop} {k : Nat → ClassId} {g : Nat → Nat} {N : Nat} {cd : Cond}
set_option maxHeartbeats 4000000 in
set_option maxRecDepth 100000 in
theorem lm_skip_0 {r : St} (C : Cx p s m args c cX12_skip RX12 (cd :: rW) D (TYs k) 1) (hr : meth.sig.returnType = none) (hlk : meth.locks = false)  (n : Nat) : ∀ {ls : Array Slot} {H : Heap} {locs : List Loc} {σ : St} , lv_has ls 1 [(0, .ref (g 0))] → Hp D A s.heap H locs (mW k g σ) → r_skip_0 N  n σ  = some r → W p l e { frames := 1, cells := 0, slots := 0, locals := 21 } s m args below meth c H locs 0 0 (MQ below (va_Qv (fun (_ : Unit) => True) (fun _ t => PostW D (TYs k) A (mW k g r) t) A) args s 0 0 A) (F0 m 0 ls []) := by
  induction n with
  | zero => intro ls H locs σ hl h hm; cases (show none = some r from hm)
  | succ n hrec0 =>
    intro ls H locs σ hl h hm
    rw [r_skip_0] at hm
    refine lv_aload_n C.1 C.2.1 dX12_skip_0 rfl (lv_at hl 0 rfl) ?_
    refine lv_aload_n C.1 C.2.1 dX12_skip_1 rfl (lv_at hl 0 rfl) ?_
    refine fg_2 C h dX12_skip_2 ?_
    obtain ⟨r1, e2, hm⟩ := obd_s hm
    refine q_callVi C h (rc_byteAt l D k g N σ (fl σ 2 0) r1 e2) (cwV 1 C.2.2.1 (gR_byteAt _) rfl rfl rfl hd_byteAt ⟨Nat.le_of_ble_eq_true rfl, Nat.le_of_ble_eq_true rfl⟩) rfl hl.1 rfl (Nat.le_of_ble_eq_true rfl) dX12_skip_5 ⟨Nat.le_of_ble_eq_true rfl, Nat.le_of_ble_eq_true rfl⟩ (fun H locs h => ?_)
    refine lv_bipush (v := Int32.ofInt 32) C.1 C.2.1 dX12_skip_8 (by decide) ?_
    obtain ⟨g3, hm⟩ := grd_s hm
    refine z_icmp_ne (tgt := 26) C dX12_skip_10 (by decide) g3 (by decide) (fun c4 => ?_) (fun c4 => ?_)
    · have hm := ite_f c4 hm
      cases hm
      exact q_vret C h hr hlk dX12_skip_26
    · have hm := ite_t c4 hm
      refine lv_aload_n C.1 C.2.1 dX12_skip_13 rfl (lv_at hl 0 rfl) ?_
      refine lv_dup C.1 C.2.1 dX12_skip_14 rfl ?_
      refine fg_2 C h dX12_skip_15 ?_
      refine lv_iconst (v := Int32.ofInt 1) C.1 C.2.1 dX12_skip_18 (by decide) ?_
      refine z_iadd C dX12_skip_19 ?_
      refine fp_2 C h dX12_skip_20 (fun H locs h => ?_)
      refine lv_goto (tgt := 0) C.1 C.2.1 dX12_skip_23 (by decide) ?_
      exact hrec0 (lv_sub hl [0] rfl) h hm
set_option maxHeartbeats 4000000 in
set_option maxRecDepth 100000 in
theorem rc_skip (l : Launch) (D : va_G) (k : Nat → ClassId) (g : Nat → Nat) (N : Nat) (σ : St)  (r : St) (hm : r_skip N σ  = some r) : Mv l yX12_skip (.code yX12_skip cX12_skip 1 none :: rW) { frames := 1, cells := 0, slots := 0, locals := 21 } [.ref (g 0)] D (TYs k) (mW k g σ) (fun _ => True) Unit (fun _ => True) (fun _ => mW k g r) 0 0 := by
  intro sz
  refine x_met (cc := cX12_skip) (maxL := 1) (ret := none) (by decide) rfl (Nat.le_of_ble_eq_true rfl) ?_
  intro p e s m below meth c ls C hX hsz hr hlk hmn hl h
  have hl : lv_has ls 1 [(0, .ref (g 0))] := hl
  rw [r_skip] at hm
  exact lm_skip_0 (N := N) C hr hlk  N (lv_sub hl [0] rfl) h hm
end L_skip
section L_need
variable {p : Program} {l : Launch} {e : Env} {s : State} {m : MethodId} {args : Array Value} {below : List Frame} {meth : Method} {c : Code} {D : va_G} {A : Nat → Prop} {k : Nat → ClassId} {g : Nat → Nat} {N : Nat} {cd : Cond}
set_option maxHeartbeats 4000000 in
set_option maxRecDepth 100000 in
theorem rc_need (l : Launch) (D : va_G) (k : Nat → ClassId) (g : Nat → Nat) (N : Nat) (σ : St) (x1 : Int) (r : St) (hm : r_need N σ x1 = some r) : Mv l yX12_need (.code yX12_need cX12_need 2 none :: rW) { frames := 2, cells := 0, slots := 0, locals := 41 } [.ref (g 0), .int (Int32.ofInt x1)] D (TYs k) (mW k g σ) (fun _ => True) Unit (fun _ => True) (fun _ => mW k g r) 0 0 := by
  intro sz
  refine x_met (cc := cX12_need) (maxL := 2) (ret := none) (by decide) rfl (Nat.le_of_ble_eq_true rfl) ?_
  intro p e s m below meth c ls C hX hsz hr hlk hmn hl h
  have hl : lv_has ls 2 [(0, .ref (g 0)), (1, .int (Int32.ofInt x1))] := hl
  rw [r_need] at hm
  refine lv_aload_n C.1 C.2.1 dX12_need_0 rfl (lv_at hl 0 rfl) ?_
  obtain ⟨r1, e2, hm⟩ := obd_s hm
  refine q_callVv C h (rc_skip l D k g N σ  r1 e2) (cwV 0 C.2.2.1 (gR_skip _) rfl rfl rfl hd_skip ⟨Nat.le_of_ble_eq_true rfl, Nat.le_of_ble_eq_true rfl⟩) rfl hl.1 rfl (Nat.le_of_ble_eq_true rfl) dX12_need_1 ⟨Nat.le_of_ble_eq_true rfl, Nat.le_of_ble_eq_true rfl⟩ (fun H locs h => ?_)
  refine lv_aload_n C.1 C.2.1 dX12_need_4 rfl (lv_at hl 0 rfl) ?_
  refine fg_11 C h dX12_need_5 ?_
  obtain ⟨g3, hm⟩ := grd_s hm
  refine z_if_eq (tgt := 12) C dX12_need_8 (by decide) g3 (fun c4 => ?_) (fun c4 => ?_)
  · have hm := ite_t c4 hm
    refine lv_aload_n C.1 C.2.1 dX12_need_12 rfl (lv_at hl 0 rfl) ?_
    refine lv_aload_n C.1 C.2.1 dX12_need_13 rfl (lv_at hl 0 rfl) ?_
    refine fg_2 C h dX12_need_14 ?_
    obtain ⟨r5, e6, hm⟩ := obd_s hm
    refine q_callVi C h (rc_byteAt l D k g N r1 (fl r1 2 0) r5 e6) (cwV 1 C.2.2.1 (gR_byteAt _) rfl rfl rfl hd_byteAt ⟨Nat.le_of_ble_eq_true rfl, Nat.le_of_ble_eq_true rfl⟩) rfl hl.1 rfl (Nat.le_of_ble_eq_true rfl) dX12_need_17 ⟨Nat.le_of_ble_eq_true rfl, Nat.le_of_ble_eq_true rfl⟩ (fun H locs h => ?_)
    refine lv_iload_n C.1 C.2.1 dX12_need_20 rfl (lv_at hl 1 rfl) ?_
    obtain ⟨g7, hm⟩ := grd_s hm
    obtain ⟨g8, hm⟩ := grd_s hm
    refine z_icmp_eq (tgt := 36) C dX12_need_21 (by decide) g7 g8 (fun c9 => ?_) (fun c9 => ?_)
    · have hm := ite_t c9 hm
      refine lv_aload_n C.1 C.2.1 dX12_need_36 rfl (lv_at hl 0 rfl) ?_
      refine lv_dup C.1 C.2.1 dX12_need_37 rfl ?_
      refine fg_2 C h dX12_need_38 ?_
      refine lv_iconst (v := Int32.ofInt 1) C.1 C.2.1 dX12_need_41 (by decide) ?_
      refine z_iadd C dX12_need_42 ?_
      refine fp_2 C h dX12_need_43 (fun H locs h => ?_)
      cases hm
      exact q_vret C h hr hlk dX12_need_46
    · have hm := ite_f c9 hm
      refine lv_aload_n C.1 C.2.1 dX12_need_24 rfl (lv_at hl 0 rfl) ?_
      refine lv_iconst (v := Int32.ofInt 1) C.1 C.2.1 dX12_need_25 (by decide) ?_
      refine lv_aload_n C.1 C.2.1 dX12_need_26 rfl (lv_at hl 0 rfl) ?_
      refine fg_2 C h dX12_need_27 ?_
      obtain ⟨r10, e11, hm⟩ := obd_s hm
      refine q_callVv C h (rc_fail l D k g N r5.1 1 (fl r5.1 2 0) r10 e11) (cwV 2 C.2.2.1 (gR_fail _) rfl rfl rfl hd_fail ⟨Nat.le_of_ble_eq_true rfl, Nat.le_of_ble_eq_true rfl⟩) rfl hl.1 rfl (Nat.le_of_ble_eq_true rfl) dX12_need_30 ⟨Nat.le_of_ble_eq_true rfl, Nat.le_of_ble_eq_true rfl⟩ (fun H locs h => ?_)
      refine lv_goto (tgt := 46) C.1 C.2.1 dX12_need_33 (by decide) ?_
      cases hm
      exact q_vret C h hr hlk dX12_need_46
  · have hm := ite_f c4 hm
    cases hm
    exact q_vret C h hr hlk dX12_need_11
end L_need
section L_plainNumber
variable {p : Program} {l : Launch} {e : Env} {s : State} {m : MethodId} {args : Array Value} {below : List Frame} {meth : Method} {c : Code} {D : va_G} {A : Nat → Prop} {k : Nat → ClassId} {g : Nat → Nat} {N : Nat} {cd : Cond}
set_option maxHeartbeats 4000000 in
set_option maxRecDepth 100000 in
theorem lm_plainNumber_41 {r : St × Int} (C : Cx p s m args c cX12_plainNumber RX12 (cd :: rW) D (TYs k) 3) (hr : meth.sig.returnType = (some .int)) (hlk : meth.locks = false)  (n : Nat) : ∀ {ls : Array Slot} {H : Heap} {locs : List Loc} {σ : St} {x1 : Int} {x2 : Int}, lv_has ls 3 [(0, .ref (g 0)), (1, .int (Int32.ofInt x1)), (2, .int (Int32.ofInt x2))] → Hp D A s.heap H locs (mW k g σ) → r_plainNumber_41 N  n σ x1 x2 = some r → W p l e { frames := 2, cells := 0, slots := 0, locals := 41 } s m args below meth c H locs 0 0 (MQ below (va_Qi (fun v (_ : Unit) => v = Int32.ofInt r.2) (fun _ t => PostW D (TYs k) A (mW k g r.1) t) A) args s 0 0 A) (F0 m 41 ls []) := by
  induction n with
  | zero => intro ls H locs σ x1 x2 hl h hm; cases (show none = some r from hm)
  | succ n hrec41 =>
    intro ls H locs σ x1 x2 hl h hm
    rw [r_plainNumber_41] at hm
    refine lv_aload_n C.1 C.2.1 dX12_plainNumber_41 rfl (lv_at hl 0 rfl) ?_
    refine lv_aload_n C.1 C.2.1 dX12_plainNumber_42 rfl (lv_at hl 0 rfl) ?_
    refine fg_2 C h dX12_plainNumber_43 ?_
    obtain ⟨r13, e14, hm⟩ := obd_s hm
    refine q_callVi C h (rc_byteAt l D k g N σ (fl σ 2 0) r13 e14) (cwV 1 C.2.2.1 (gR_byteAt _) rfl rfl rfl hd_byteAt ⟨Nat.le_of_ble_eq_true rfl, Nat.le_of_ble_eq_true rfl⟩) rfl hl.1 rfl (Nat.le_of_ble_eq_true rfl) dX12_plainNumber_46 ⟨Nat.le_of_ble_eq_true rfl, Nat.le_of_ble_eq_true rfl⟩ (fun H locs h => ?_)
    obtain ⟨r15, e16, hm⟩ := obd_s hm
    refine q_callSi C h (rc_isDigit l D k N r13.2 r15 e16) (cwS 1 C.2.2.1 (gR_isDigit _) rfl rfl rfl hd_isDigit ⟨Nat.le_of_ble_eq_true rfl, Nat.le_of_ble_eq_true rfl⟩) rfl hl.1 rfl (Nat.le_of_ble_eq_true rfl) dX12_plainNumber_49 ⟨Nat.le_of_ble_eq_true rfl, Nat.le_of_ble_eq_true rfl⟩ (fun H locs h => ?_)
    obtain ⟨g17, hm⟩ := grd_s hm
    refine z_if_eq (tgt := 104) C dX12_plainNumber_52 (by decide) g17 (fun c18 => ?_) (fun c18 => ?_)
    · have hm := ite_t c18 hm
      refine lv_iload_n C.1 C.2.1 dX12_plainNumber_104 rfl (lv_at hl 1 rfl) ?_
      cases hm
      exact q_iret C h hr hlk dX12_plainNumber_105 rfl
    · have hm := ite_f c18 hm
      refine lv_iload_n C.1 C.2.1 dX12_plainNumber_55 rfl (lv_at hl 2 rfl) ?_
      refine lv_iconst (v := Int32.ofInt 4) C.1 C.2.1 dX12_plainNumber_56 (by decide) ?_
      obtain ⟨g19, hm⟩ := grd_s hm
      refine z_icmp_ne (tgt := 71) C dX12_plainNumber_57 (by decide) g19 (by decide) (fun c20 => ?_) (fun c20 => ?_)
      · have hm := ite_f c20 hm
        refine lv_bipush (v := Int32.ofInt 10) C.1 C.2.1 dX12_plainNumber_71 (by decide) ?_
        refine lv_iload_n C.1 C.2.1 dX12_plainNumber_73 rfl (lv_at hl 1 rfl) ?_
        refine z_imul C dX12_plainNumber_74 ?_
        refine lv_aload_n C.1 C.2.1 dX12_plainNumber_75 rfl (lv_at hl 0 rfl) ?_
        refine lv_aload_n C.1 C.2.1 dX12_plainNumber_76 rfl (lv_at hl 0 rfl) ?_
        refine fg_2 C h dX12_plainNumber_77 ?_
        obtain ⟨r21, e22, hm⟩ := obd_s hm
        refine q_callVi C h (rc_byteAt l D k g N r13.1 (fl r13.1 2 0) r21 e22) (cwV 1 C.2.2.1 (gR_byteAt _) rfl rfl rfl hd_byteAt ⟨Nat.le_of_ble_eq_true rfl, Nat.le_of_ble_eq_true rfl⟩) rfl hl.1 rfl (Nat.le_of_ble_eq_true rfl) dX12_plainNumber_80 ⟨Nat.le_of_ble_eq_true rfl, Nat.le_of_ble_eq_true rfl⟩ (fun H locs h => ?_)
        refine z_iadd C dX12_plainNumber_83 ?_
        refine lv_bipush (v := Int32.ofInt 48) C.1 C.2.1 dX12_plainNumber_84 (by decide) ?_
        refine z_isub C dX12_plainNumber_86 ?_
        obtain ⟨v23, e24, hm⟩ := bnd_s hm
        rw [e24]
        refine lv_istore_n (lv' := [(1, .int (Int32.ofInt v23)), (0, .ref (g 0)), (2, .int (Int32.ofInt x2))]) C.1 C.2.1 dX12_plainNumber_87 rfl hl (by decide) rfl (fun ls hl => ?_)
        refine lv_iinc (v := Int32.ofInt (x2 + 1)) (lv' := [(2, .int (Int32.ofInt (x2 + 1))), (1, .int (Int32.ofInt v23)), (0, .ref (g 0))]) C.1 C.2.1 dX12_plainNumber_88 hl (k := 2) rfl (c32_add _ _) (by decide) rfl (fun ls hl => ?_)
        refine lv_aload_n C.1 C.2.1 dX12_plainNumber_91 rfl (lv_at hl 2 rfl) ?_
        refine lv_dup C.1 C.2.1 dX12_plainNumber_92 rfl ?_
        refine fg_2 C h dX12_plainNumber_93 ?_
        refine lv_iconst (v := Int32.ofInt 1) C.1 C.2.1 dX12_plainNumber_96 (by decide) ?_
        refine z_iadd C dX12_plainNumber_97 ?_
        refine fp_2 C h dX12_plainNumber_98 (fun H locs h => ?_)
        refine lv_goto (tgt := 41) C.1 C.2.1 dX12_plainNumber_101 (by decide) ?_
        exact hrec41 (lv_sub hl [2, 1, 0] rfl) h hm
      · have hm := ite_t c20 hm
        refine lv_aload_n C.1 C.2.1 dX12_plainNumber_60 rfl (lv_at hl 0 rfl) ?_
        refine lv_iconst (v := Int32.ofInt 1) C.1 C.2.1 dX12_plainNumber_61 (by decide) ?_
        refine lv_aload_n C.1 C.2.1 dX12_plainNumber_62 rfl (lv_at hl 0 rfl) ?_
        refine fg_2 C h dX12_plainNumber_63 ?_
        obtain ⟨r25, e26, hm⟩ := obd_s hm
        refine q_callVv C h (rc_fail l D k g N r13.1 1 (fl r13.1 2 0) r25 e26) (cwV 2 C.2.2.1 (gR_fail _) rfl rfl rfl hd_fail ⟨Nat.le_of_ble_eq_true rfl, Nat.le_of_ble_eq_true rfl⟩) rfl hl.1 rfl (Nat.le_of_ble_eq_true rfl) dX12_plainNumber_66 ⟨Nat.le_of_ble_eq_true rfl, Nat.le_of_ble_eq_true rfl⟩ (fun H locs h => ?_)
        refine lv_iconst (v := Int32.ofInt 0) C.1 C.2.1 dX12_plainNumber_69 (by decide) ?_
        cases hm
        exact q_iret C h hr hlk dX12_plainNumber_70 rfl
set_option maxHeartbeats 4000000 in
set_option maxRecDepth 100000 in
theorem rc_plainNumber (l : Launch) (D : va_G) (k : Nat → ClassId) (g : Nat → Nat) (N : Nat) (σ : St)  (r : St × Int) (hm : r_plainNumber N σ  = some r) : Mi l yX12_plainNumber (.code yX12_plainNumber cX12_plainNumber 3 (some .int) :: rW) { frames := 2, cells := 0, slots := 0, locals := 41 } [.ref (g 0)] D (TYs k) (mW k g σ) (fun _ => True) Unit (fun v _ => v = Int32.ofInt r.2) (fun _ => mW k g r.1) 0 0 := by
  intro sz
  refine x_met (cc := cX12_plainNumber) (maxL := 3) (ret := (some .int)) (by decide) rfl (Nat.le_of_ble_eq_true rfl) ?_
  intro p e s m below meth c ls C hX hsz hr hlk hmn hl h
  have hl : lv_has ls 3 [(0, .ref (g 0))] := hl
  rw [r_plainNumber] at hm
  refine lv_aload_n C.1 C.2.1 dX12_plainNumber_0 rfl (lv_at hl 0 rfl) ?_
  obtain ⟨r1, e2, hm⟩ := obd_s hm
  refine q_callVv C h (rc_skip l D k g N σ  r1 e2) (cwV 0 C.2.2.1 (gR_skip _) rfl rfl rfl hd_skip ⟨Nat.le_of_ble_eq_true rfl, Nat.le_of_ble_eq_true rfl⟩) rfl hl.1 rfl (Nat.le_of_ble_eq_true rfl) dX12_plainNumber_1 ⟨Nat.le_of_ble_eq_true rfl, Nat.le_of_ble_eq_true rfl⟩ (fun H locs h => ?_)
  refine lv_aload_n C.1 C.2.1 dX12_plainNumber_4 rfl (lv_at hl 0 rfl) ?_
  refine lv_aload_n C.1 C.2.1 dX12_plainNumber_5 rfl (lv_at hl 0 rfl) ?_
  refine fg_2 C h dX12_plainNumber_6 ?_
  refine fp_4 C h dX12_plainNumber_9 (fun H locs h => ?_)
  refine lv_aload_n C.1 C.2.1 dX12_plainNumber_12 rfl (lv_at hl 0 rfl) ?_
  refine lv_aload_n C.1 C.2.1 dX12_plainNumber_13 rfl (lv_at hl 0 rfl) ?_
  refine fg_2 C h dX12_plainNumber_14 ?_
  refine x_topi (y := Int32.ofInt (fl r1 2 0)) rfl ?_
  obtain ⟨σ3, e4, hm⟩ := bnd_s hm
  rw [e4] at h
  obtain ⟨r5, e6, hm⟩ := obd_s hm
  refine q_callVi C h (rc_byteAt l D k g N σ3 (fl r1 2 0) r5 e6) (cwV 1 C.2.2.1 (gR_byteAt _) rfl rfl rfl hd_byteAt ⟨Nat.le_of_ble_eq_true rfl, Nat.le_of_ble_eq_true rfl⟩) rfl hl.1 rfl (Nat.le_of_ble_eq_true rfl) dX12_plainNumber_17 ⟨Nat.le_of_ble_eq_true rfl, Nat.le_of_ble_eq_true rfl⟩ (fun H locs h => ?_)
  obtain ⟨r7, e8, hm⟩ := obd_s hm
  refine q_callSi C h (rc_isDigit l D k N r5.2 r7 e8) (cwS 1 C.2.2.1 (gR_isDigit _) rfl rfl rfl hd_isDigit ⟨Nat.le_of_ble_eq_true rfl, Nat.le_of_ble_eq_true rfl⟩) rfl hl.1 rfl (Nat.le_of_ble_eq_true rfl) dX12_plainNumber_20 ⟨Nat.le_of_ble_eq_true rfl, Nat.le_of_ble_eq_true rfl⟩ (fun H locs h => ?_)
  obtain ⟨g9, hm⟩ := grd_s hm
  refine z_if_ne (tgt := 37) C dX12_plainNumber_23 (by decide) g9 (fun c10 => ?_) (fun c10 => ?_)
  · have hm := ite_f c10 hm
    refine lv_iconst (v := Int32.ofInt 0) C.1 C.2.1 dX12_plainNumber_37 (by decide) ?_
    refine lv_istore_n (lv' := [(1, .int (Int32.ofInt 0)), (0, .ref (g 0))]) C.1 C.2.1 dX12_plainNumber_38 rfl hl (by decide) rfl (fun ls hl => ?_)
    refine lv_iconst (v := Int32.ofInt 0) C.1 C.2.1 dX12_plainNumber_39 (by decide) ?_
    refine lv_istore_n (lv' := [(2, .int (Int32.ofInt 0)), (1, .int (Int32.ofInt 0)), (0, .ref (g 0))]) C.1 C.2.1 dX12_plainNumber_40 rfl hl (by decide) rfl (fun ls hl => ?_)
    exact lm_plainNumber_41 (N := N) C hr hlk  N (lv_sub hl [2, 1, 0] rfl) h hm
  · have hm := ite_t c10 hm
    refine lv_aload_n C.1 C.2.1 dX12_plainNumber_26 rfl (lv_at hl 0 rfl) ?_
    refine lv_iconst (v := Int32.ofInt 1) C.1 C.2.1 dX12_plainNumber_27 (by decide) ?_
    refine lv_aload_n C.1 C.2.1 dX12_plainNumber_28 rfl (lv_at hl 0 rfl) ?_
    refine fg_2 C h dX12_plainNumber_29 ?_
    obtain ⟨r11, e12, hm⟩ := obd_s hm
    refine q_callVv C h (rc_fail l D k g N r5.1 1 (fl r5.1 2 0) r11 e12) (cwV 2 C.2.2.1 (gR_fail _) rfl rfl rfl hd_fail ⟨Nat.le_of_ble_eq_true rfl, Nat.le_of_ble_eq_true rfl⟩) rfl hl.1 rfl (Nat.le_of_ble_eq_true rfl) dX12_plainNumber_32 ⟨Nat.le_of_ble_eq_true rfl, Nat.le_of_ble_eq_true rfl⟩ (fun H locs h => ?_)
    refine lv_iconst (v := Int32.ofInt 0) C.1 C.2.1 dX12_plainNumber_35 (by decide) ?_
    cases hm
    exact q_iret C h hr hlk dX12_plainNumber_36 rfl
end L_plainNumber
section L_numberIn
variable {p : Program} {l : Launch} {e : Env} {s : State} {m : MethodId} {args : Array Value} {below : List Frame} {meth : Method} {c : Code} {D : va_G} {A : Nat → Prop} {k : Nat → ClassId} {g : Nat → Nat} {N : Nat} {cd : Cond}
set_option maxHeartbeats 4000000 in
set_option maxRecDepth 100000 in
theorem lm_numberIn_22 {r : St × Int} (C : Cx p s m args c cX12_numberIn RX12 (cd :: rW) D (TYs k) 4) (hr : meth.sig.returnType = (some .int)) (hlk : meth.locks = false)  {ls : Array Slot} {H : Heap} {locs : List Loc} {σ : St} {x3 : Int} (hl : lv_has ls 4 [(0, .ref (g 0)), (3, .int (Int32.ofInt x3))]) (h : Hp D A s.heap H locs (mW k g σ)) (hm : r_numberIn_22 N  σ x3 = some r) : W p l e { frames := 3, cells := 0, slots := 0, locals := 63 } s m args below meth c H locs 0 0 (MQ below (va_Qi (fun v (_ : Unit) => v = Int32.ofInt r.2) (fun _ t => PostW D (TYs k) A (mW k g r.1) t) A) args s 0 0 A) (F0 m 22 ls []) := by
  rw [r_numberIn_22] at hm
  refine lv_aload_n C.1 C.2.1 dX12_numberIn_22 rfl (lv_at hl 0 rfl) ?_
  refine lv_iconst (v := Int32.ofInt 3) C.1 C.2.1 dX12_numberIn_23 (by decide) ?_
  refine lv_aload_n C.1 C.2.1 dX12_numberIn_24 rfl (lv_at hl 0 rfl) ?_
  refine fg_4 C h dX12_numberIn_25 ?_
  obtain ⟨r10, e11, hm⟩ := obd_s hm
  refine q_callVv C h (rc_fail l D k g N σ 3 (fl σ 4 0) r10 e11) (cwV 2 C.2.2.1 (gR_fail _) rfl rfl rfl hd_fail ⟨Nat.le_of_ble_eq_true rfl, Nat.le_of_ble_eq_true rfl⟩) rfl hl.1 rfl (Nat.le_of_ble_eq_true rfl) dX12_numberIn_28 ⟨Nat.le_of_ble_eq_true rfl, Nat.le_of_ble_eq_true rfl⟩ (fun H locs h => ?_)
  refine lv_iload_n C.1 C.2.1 dX12_numberIn_31 rfl (lv_at hl 1 rfl) ?_
  cases hm
  exact q_iret C h hr hlk dX12_numberIn_32 rfl
set_option maxHeartbeats 4000000 in
set_option maxRecDepth 100000 in
theorem rc_numberIn (l : Launch) (D : va_G) (k : Nat → ClassId) (g : Nat → Nat) (N : Nat) (σ : St) (x1 : Int) (x2 : Int) (r : St × Int) (hm : r_numberIn N σ x1 x2 = some r) : Mi l yX12_numberIn (.code yX12_numberIn cX12_numberIn 4 (some .int) :: rW) { frames := 3, cells := 0, slots := 0, locals := 63 } [.ref (g 0), .int (Int32.ofInt x1), .int (Int32.ofInt x2)] D (TYs k) (mW k g σ) (fun _ => True) Unit (fun v _ => v = Int32.ofInt r.2) (fun _ => mW k g r.1) 0 0 := by
  intro sz
  refine x_met (cc := cX12_numberIn) (maxL := 4) (ret := (some .int)) (by decide) rfl (Nat.le_of_ble_eq_true rfl) ?_
  intro p e s m below meth c ls C hX hsz hr hlk hmn hl h
  have hl : lv_has ls 4 [(0, .ref (g 0)), (1, .int (Int32.ofInt x1)), (2, .int (Int32.ofInt x2))] := hl
  rw [r_numberIn] at hm
  refine lv_aload_n C.1 C.2.1 dX12_numberIn_0 rfl (lv_at hl 0 rfl) ?_
  obtain ⟨r1, e2, hm⟩ := obd_s hm
  refine q_callVi C h (rc_plainNumber l D k g N σ  r1 e2) (cwV 0 C.2.2.1 (gR_plainNumber _) rfl rfl rfl hd_plainNumber ⟨Nat.le_of_ble_eq_true rfl, Nat.le_of_ble_eq_true rfl⟩) rfl hl.1 rfl (Nat.le_of_ble_eq_true rfl) dX12_numberIn_1 ⟨Nat.le_of_ble_eq_true rfl, Nat.le_of_ble_eq_true rfl⟩ (fun H locs h => ?_)
  refine lv_istore_n (lv' := [(3, .int (Int32.ofInt r1.2)), (0, .ref (g 0)), (1, .int (Int32.ofInt x1)), (2, .int (Int32.ofInt x2))]) C.1 C.2.1 dX12_numberIn_4 rfl hl (by decide) rfl (fun ls hl => ?_)
  refine lv_aload_n C.1 C.2.1 dX12_numberIn_5 rfl (lv_at hl 1 rfl) ?_
  refine fg_11 C h dX12_numberIn_6 ?_
  obtain ⟨g3, hm⟩ := grd_s hm
  refine z_if_ne (tgt := 31) C dX12_numberIn_9 (by decide) g3 (fun c4 => ?_) (fun c4 => ?_)
  · have hm := ite_f c4 hm
    refine lv_iload_n C.1 C.2.1 dX12_numberIn_31 rfl (lv_at hl 0 rfl) ?_
    cases hm
    exact q_iret C h hr hlk dX12_numberIn_32 rfl
  · have hm := ite_t c4 hm
    refine lv_iload_n C.1 C.2.1 dX12_numberIn_12 rfl (lv_at hl 0 rfl) ?_
    refine lv_iload_n C.1 C.2.1 dX12_numberIn_13 rfl (lv_at hl 2 rfl) ?_
    obtain ⟨g5, hm⟩ := grd_s hm
    obtain ⟨g6, hm⟩ := grd_s hm
    refine z_icmp_lt (tgt := 22) C dX12_numberIn_14 (by decide) g5 g6 (fun c7 => ?_) (fun c7 => ?_)
    · have hm := ite_t c7 hm
      exact lm_numberIn_22 (N := N) C hr hlk  (lv_sub hl [1, 0] rfl) h hm
    · have hm := ite_f c7 hm
      refine lv_iload_n C.1 C.2.1 dX12_numberIn_17 rfl (lv_at hl 0 rfl) ?_
      refine lv_iload_n C.1 C.2.1 dX12_numberIn_18 rfl (lv_at hl 3 rfl) ?_
      obtain ⟨g8, hm⟩ := grd_s hm
      refine z_icmp_le (tgt := 31) C dX12_numberIn_19 (by decide) g5 g8 (fun c9 => ?_) (fun c9 => ?_)
      · have hm := ite_f c9 hm
        refine lv_iload_n C.1 C.2.1 dX12_numberIn_31 rfl (lv_at hl 0 rfl) ?_
        cases hm
        exact q_iret C h hr hlk dX12_numberIn_32 rfl
      · have hm := ite_t c9 hm
        exact lm_numberIn_22 (N := N) C hr hlk  (lv_sub hl [1, 0] rfl) h hm
end L_numberIn
section L_endPart
variable {p : Program} {l : Launch} {e : Env} {s : State} {m : MethodId} {args : Array Value} {below : List Frame} {meth : Method} {c : Code} {D : va_G} {A : Nat → Prop} {k : Nat → ClassId} {g : Nat → Nat} {N : Nat} {cd : Cond}
set_option maxHeartbeats 4000000 in
set_option maxRecDepth 100000 in
theorem lm_endPart_199 {r : St} (C : Cx p s m args c cX12_endPart RX12 (cd :: rW) D (TYs k) 4) (hr : meth.sig.returnType = none) (hlk : meth.locks = false)  {ls : Array Slot} {H : Heap} {locs : List Loc} {σ : St} {s0 : Int} (hl : lv_has ls 4 []) (h : Hp D A s.heap H locs (mW k g σ)) (hm : r_endPart_199 N  σ s0 = some r) : W p l e { frames := 4, cells := 0, slots := 0, locals := 86 } s m args below meth c H locs 0 0 (MQ below (va_Qv (fun (_ : Unit) => True) (fun _ t => PostW D (TYs k) A (mW k g r) t) A) args s 0 0 A) (F0 m 199 ls [.int (Int32.ofInt s0), .ref (g 0)]) := by
  rw [r_endPart_199] at hm
  obtain ⟨r41, e42, hm⟩ := obd_s hm
  refine q_callVv C h (rc_finish l D k g N σ s0 r41 e42) (cwV 1 C.2.2.1 (gR_finish _) rfl rfl rfl hd_finish ⟨Nat.le_of_ble_eq_true rfl, Nat.le_of_ble_eq_true rfl⟩) rfl hl.1 rfl (Nat.le_of_ble_eq_true rfl) dX12_endPart_199 ⟨Nat.le_of_ble_eq_true rfl, Nat.le_of_ble_eq_true rfl⟩ (fun H locs h => ?_)
  cases hm
  exact q_vret C h hr hlk dX12_endPart_202
set_option maxHeartbeats 4000000 in
set_option maxRecDepth 100000 in
theorem lm_endPart_198 {r : St} (C : Cx p s m args c cX12_endPart RX12 (cd :: rW) D (TYs k) 4) (hr : meth.sig.returnType = none) (hlk : meth.locks = false)  {ls : Array Slot} {H : Heap} {locs : List Loc} {σ : St} {x3 : Int} (hl : lv_has ls 4 [(3, .int (Int32.ofInt x3))]) (h : Hp D A s.heap H locs (mW k g σ)) (hm : r_endPart_198 N  σ x3 = some r) : W p l e { frames := 4, cells := 0, slots := 0, locals := 86 } s m args below meth c H locs 0 0 (MQ below (va_Qv (fun (_ : Unit) => True) (fun _ t => PostW D (TYs k) A (mW k g r) t) A) args s 0 0 A) (F0 m 198 ls [.ref (g 0)]) := by
  rw [r_endPart_198] at hm
  refine lv_iload_n C.1 C.2.1 dX12_endPart_198 rfl (lv_at hl 0 rfl) ?_
  exact lm_endPart_199 (N := N) C hr hlk  (lv_sub hl [] rfl) h hm
set_option maxHeartbeats 4000000 in
set_option maxRecDepth 100000 in
theorem lm_endPart_167 {r : St} (C : Cx p s m args c cX12_endPart RX12 (cd :: rW) D (TYs k) 4) (hr : meth.sig.returnType = none) (hlk : meth.locks = false)  {ls : Array Slot} {H : Heap} {locs : List Loc} {σ : St} {x3 : Int} (hl : lv_has ls 4 [(0, .ref (g 0)), (3, .int (Int32.ofInt x3))]) (h : Hp D A s.heap H locs (mW k g σ)) (hm : r_endPart_167 N  σ x3 = some r) : W p l e { frames := 4, cells := 0, slots := 0, locals := 86 } s m args below meth c H locs 0 0 (MQ below (va_Qv (fun (_ : Unit) => True) (fun _ t => PostW D (TYs k) A (mW k g r) t) A) args s 0 0 A) (F0 m 167 ls []) := by
  rw [r_endPart_167] at hm
  refine lv_aload_n C.1 C.2.1 dX12_endPart_167 rfl (lv_at hl 0 rfl) ?_
  refine lv_aload_n C.1 C.2.1 dX12_endPart_168 rfl (lv_at hl 0 rfl) ?_
  refine fg_17 C h dX12_endPart_169 ?_
  refine lv_iload_n C.1 C.2.1 dX12_endPart_172 rfl (lv_at hl 1 rfl) ?_
  obtain ⟨g36, hm⟩ := grd_s hm
  refine al_94 C h dX12_endPart_173 g36 ?_
  refine lv_bipush (v := Int32.ofInt 25) C.1 C.2.1 dX12_endPart_174 (by decide) ?_
  obtain ⟨g37, hm⟩ := grd_s hm
  refine z_icmp_ne (tgt := 198) C dX12_endPart_176 (by decide) g37 (by decide) (fun c38 => ?_) (fun c38 => ?_)
  · have hm := ite_f c38 hm
    exact lm_endPart_198 (N := N) C hr hlk  (lv_sub hl [1] rfl) h hm
  · have hm := ite_t c38 hm
    refine lv_aload_n C.1 C.2.1 dX12_endPart_179 rfl (lv_at hl 0 rfl) ?_
    refine fg_19 C h dX12_endPart_180 ?_
    refine lv_iload_n C.1 C.2.1 dX12_endPart_183 rfl (lv_at hl 1 rfl) ?_
    refine al_92 C h dX12_endPart_184 g36 ?_
    refine lv_iconst (v := Int32.ofInt 1) C.1 C.2.1 dX12_endPart_185 (by decide) ?_
    obtain ⟨g39, hm⟩ := grd_s hm
    refine z_icmp_ne (tgt := 198) C dX12_endPart_186 (by decide) g39 (by decide) (fun c40 => ?_) (fun c40 => ?_)
    · have hm := ite_f c40 hm
      exact lm_endPart_198 (N := N) C hr hlk  (lv_sub hl [1] rfl) h hm
    · have hm := ite_t c40 hm
      refine lv_aload_n C.1 C.2.1 dX12_endPart_189 rfl (lv_at hl 0 rfl) ?_
      refine fg_24 C h dX12_endPart_190 ?_
      refine lv_iload_n C.1 C.2.1 dX12_endPart_193 rfl (lv_at hl 1 rfl) ?_
      refine al_87 C h dX12_endPart_194 g36 ?_
      refine lv_goto (tgt := 199) C.1 C.2.1 dX12_endPart_195 (by decide) ?_
      exact lm_endPart_199 (N := N) C hr hlk  (lv_sub hl [] rfl) h hm
set_option maxHeartbeats 4000000 in
set_option maxRecDepth 100000 in
theorem lm_endPart_97 {r : St} (C : Cx p s m args c cX12_endPart RX12 (cd :: rW) D (TYs k) 4) (hr : meth.sig.returnType = none) (hlk : meth.locks = false)  {ls : Array Slot} {H : Heap} {locs : List Loc} {σ : St} {x1 : Int} {x3 : Int} {s0 : Int} {s1 : Int} (hl : lv_has ls 4 [(0, .ref (g 0)), (1, .int (Int32.ofInt x1)), (3, .int (Int32.ofInt x3))]) (h : Hp D A s.heap H locs (mW k g σ)) (hm : r_endPart_97 N  σ x1 x3 s0 s1 = some r) : W p l e { frames := 4, cells := 0, slots := 0, locals := 86 } s m args below meth c H locs 0 0 (MQ below (va_Qv (fun (_ : Unit) => True) (fun _ t => PostW D (TYs k) A (mW k g r) t) A) args s 0 0 A) (F0 m 97 ls [.int (Int32.ofInt s0), .int (Int32.ofInt s1)]) := by
  rw [r_endPart_97] at hm
  obtain ⟨g19, hm⟩ := grd_s hm
  obtain ⟨g20, hm⟩ := grd_s hm
  refine z_icmp_eq (tgt := 110) C dX12_endPart_97 (by decide) g19 g20 (fun c21 => ?_) (fun c21 => ?_)
  · have hm := ite_t c21 hm
    refine lv_aload_n C.1 C.2.1 dX12_endPart_110 rfl (lv_at hl 0 rfl) ?_
    refine lv_dup C.1 C.2.1 dX12_endPart_111 rfl ?_
    refine fg_2 C h dX12_endPart_112 ?_
    refine lv_iconst (v := Int32.ofInt 1) C.1 C.2.1 dX12_endPart_115 (by decide) ?_
    refine z_iadd C dX12_endPart_116 ?_
    refine fp_2 C h dX12_endPart_117 (fun H locs h => ?_)
    refine lv_aload_n C.1 C.2.1 dX12_endPart_120 rfl (lv_at hl 0 rfl) ?_
    refine lv_dup C.1 C.2.1 dX12_endPart_121 rfl ?_
    refine fg_13 C h dX12_endPart_122 ?_
    refine x_topi (y := Int32.ofInt (fl σ 13 0)) rfl ?_
    refine lv_iconst (v := Int32.ofInt 1) C.1 C.2.1 dX12_endPart_125 (by decide) ?_
    refine z_isub C dX12_endPart_126 ?_
    refine fp_13 C h dX12_endPart_127 (fun H locs h => ?_)
    refine lv_aload_n C.1 C.2.1 dX12_endPart_130 rfl (lv_at hl 0 rfl) ?_
    refine fg_44 C h dX12_endPart_131 ?_
    refine lv_iload_n C.1 C.2.1 dX12_endPart_134 rfl (lv_at hl 1 rfl) ?_
    obtain ⟨g22, hm⟩ := grd_s hm
    refine al_72 C h dX12_endPart_135 g22 ?_
    refine x_topi (y := Int32.ofInt (el σ 72 x1)) rfl ?_
    refine lv_bipush (v := Int32.ofInt 123) C.1 C.2.1 dX12_endPart_136 (by decide) ?_
    obtain ⟨g23, hm⟩ := grd_s hm
    refine z_icmp_ne (tgt := 167) C dX12_endPart_138 (by decide) g23 (by decide) (fun c24 => ?_) (fun c24 => ?_)
    · have hm := ite_f c24 hm
      exact lm_endPart_167 (N := N) C hr hlk  (lv_sub hl [0, 2] rfl) h hm
    · have hm := ite_t c24 hm
      refine lv_aload_n C.1 C.2.1 dX12_endPart_141 rfl (lv_at hl 0 rfl) ?_
      refine lv_bipush (v := Int32.ofInt 37) C.1 C.2.1 dX12_endPart_142 (by decide) ?_
      obtain ⟨σ25, e26, hm⟩ := bnd_s hm
      rw [e26] at h
      obtain ⟨r27, e28, hm⟩ := obd_s hm
      refine q_callVv C h (rc_need l D k g N σ25 37 r27 e28) (cwV 1 C.2.2.1 (gR_need _) rfl rfl rfl hd_need ⟨Nat.le_of_ble_eq_true rfl, Nat.le_of_ble_eq_true rfl⟩) rfl hl.1 rfl (Nat.le_of_ble_eq_true rfl) dX12_endPart_144 ⟨Nat.le_of_ble_eq_true rfl, Nat.le_of_ble_eq_true rfl⟩ (fun H locs h => ?_)
      refine lv_aload_n C.1 C.2.1 dX12_endPart_147 rfl (lv_at hl 0 rfl) ?_
      refine fg_11 C h dX12_endPart_148 ?_
      obtain ⟨g29, hm⟩ := grd_s hm
      refine z_if_ne (tgt := 167) C dX12_endPart_151 (by decide) g29 (fun c30 => ?_) (fun c30 => ?_)
      · have hm := ite_f c30 hm
        exact lm_endPart_167 (N := N) C hr hlk  (lv_sub hl [0, 2] rfl) h hm
      · have hm := ite_t c30 hm
        refine lv_aload_n C.1 C.2.1 dX12_endPart_154 rfl (lv_at hl 0 rfl) ?_
        refine fg_19 C h dX12_endPart_155 ?_
        refine lv_iload_n C.1 C.2.1 dX12_endPart_158 rfl (lv_at hl 2 rfl) ?_
        refine lv_aload_n C.1 C.2.1 dX12_endPart_159 rfl (lv_at hl 0 rfl) ?_
        refine lv_iconst (v := Int32.ofInt 1) C.1 C.2.1 dX12_endPart_160 (by decide) ?_
        refine lv_bipush (v := Int32.ofInt 32) C.1 C.2.1 dX12_endPart_161 (by decide) ?_
        obtain ⟨r31, e32, hm⟩ := obd_s hm
        refine q_callVi C h (rc_numberIn l D k g N r27 1 32 r31 e32) (cwV 2 C.2.2.1 (gR_numberIn _) rfl rfl rfl hd_numberIn ⟨Nat.le_of_ble_eq_true rfl, Nat.le_of_ble_eq_true rfl⟩) rfl hl.1 rfl (Nat.le_of_ble_eq_true rfl) dX12_endPart_163 ⟨Nat.le_of_ble_eq_true rfl, Nat.le_of_ble_eq_true rfl⟩ (fun H locs h => ?_)
        obtain ⟨g33, hm⟩ := grd_s hm
        refine as_92 C h dX12_endPart_166 g33 (fun H locs h => ?_)
        exact lm_endPart_167 (N := N) C hr hlk  (lv_sub hl [0, 2] rfl) h hm
  · have hm := ite_f c21 hm
    refine lv_aload_n C.1 C.2.1 dX12_endPart_100 rfl (lv_at hl 0 rfl) ?_
    refine lv_iconst (v := Int32.ofInt 1) C.1 C.2.1 dX12_endPart_101 (by decide) ?_
    refine lv_aload_n C.1 C.2.1 dX12_endPart_102 rfl (lv_at hl 0 rfl) ?_
    refine fg_2 C h dX12_endPart_103 ?_
    obtain ⟨r34, e35, hm⟩ := obd_s hm
    refine q_callVv C h (rc_fail l D k g N σ 1 (fl σ 2 0) r34 e35) (cwV 2 C.2.2.1 (gR_fail _) rfl rfl rfl hd_fail ⟨Nat.le_of_ble_eq_true rfl, Nat.le_of_ble_eq_true rfl⟩) rfl hl.1 rfl (Nat.le_of_ble_eq_true rfl) dX12_endPart_106 ⟨Nat.le_of_ble_eq_true rfl, Nat.le_of_ble_eq_true rfl⟩ (fun H locs h => ?_)
    cases hm
    exact q_vret C h hr hlk dX12_endPart_109
set_option maxHeartbeats 4000000 in
set_option maxRecDepth 100000 in
theorem lm_endPart_62 {r : St} (C : Cx p s m args c cX12_endPart RX12 (cd :: rW) D (TYs k) 4) (hr : meth.sig.returnType = none) (hlk : meth.locks = false)  {ls : Array Slot} {H : Heap} {locs : List Loc} {σ : St} {x1 : Int} {x2 : Int} {x3 : Int} (hl : lv_has ls 4 [(0, .ref (g 0)), (1, .int (Int32.ofInt x1)), (2, .int (Int32.ofInt x2)), (3, .int (Int32.ofInt x3))]) (h : Hp D A s.heap H locs (mW k g σ)) (hm : r_endPart_62 N  σ x1 x2 x3 = some r) : W p l e { frames := 4, cells := 0, slots := 0, locals := 86 } s m args below meth c H locs 0 0 (MQ below (va_Qv (fun (_ : Unit) => True) (fun _ t => PostW D (TYs k) A (mW k g r) t) A) args s 0 0 A) (F0 m 62 ls []) := by
  rw [r_endPart_62] at hm
  refine lv_iload_n C.1 C.2.1 dX12_endPart_62 rfl (lv_at hl 2 rfl) ?_
  refine lv_aload_n C.1 C.2.1 dX12_endPart_63 rfl (lv_at hl 0 rfl) ?_
  refine fg_44 C h dX12_endPart_64 ?_
  refine lv_iload_n C.1 C.2.1 dX12_endPart_67 rfl (lv_at hl 1 rfl) ?_
  obtain ⟨g15, hm⟩ := grd_s hm
  refine al_72 C h dX12_endPart_68 g15 ?_
  refine lv_bipush (v := Int32.ofInt 91) C.1 C.2.1 dX12_endPart_69 (by decide) ?_
  obtain ⟨g16, hm⟩ := grd_s hm
  refine z_icmp_ne (tgt := 79) C dX12_endPart_71 (by decide) g16 (by decide) (fun c17 => ?_) (fun c17 => ?_)
  · have hm := ite_f c17 hm
    refine lv_aload_n C.1 C.2.1 dX12_endPart_79 rfl (lv_at hl 0 rfl) ?_
    refine fg_44 C h dX12_endPart_80 ?_
    refine lv_iload_n C.1 C.2.1 dX12_endPart_83 rfl (lv_at hl 1 rfl) ?_
    refine al_72 C h dX12_endPart_84 g15 ?_
    refine lv_bipush (v := Int32.ofInt 60) C.1 C.2.1 dX12_endPart_85 (by decide) ?_
    refine z_icmp_ne (tgt := 95) C dX12_endPart_87 (by decide) g16 (by decide) (fun c18 => ?_) (fun c18 => ?_)
    · have hm := ite_f c18 hm
      refine lv_bipush (v := Int32.ofInt 125) C.1 C.2.1 dX12_endPart_95 (by decide) ?_
      exact lm_endPart_97 (N := N) C hr hlk  (lv_sub hl [0, 1, 3] rfl) h hm
    · have hm := ite_t c18 hm
      refine lv_bipush (v := Int32.ofInt 62) C.1 C.2.1 dX12_endPart_90 (by decide) ?_
      refine lv_goto (tgt := 97) C.1 C.2.1 dX12_endPart_92 (by decide) ?_
      exact lm_endPart_97 (N := N) C hr hlk  (lv_sub hl [0, 1, 3] rfl) h hm
  · have hm := ite_t c17 hm
    refine lv_bipush (v := Int32.ofInt 93) C.1 C.2.1 dX12_endPart_74 (by decide) ?_
    refine lv_goto (tgt := 97) C.1 C.2.1 dX12_endPart_76 (by decide) ?_
    exact lm_endPart_97 (N := N) C hr hlk  (lv_sub hl [0, 1, 3] rfl) h hm
set_option maxHeartbeats 4000000 in
set_option maxRecDepth 100000 in
theorem rc_endPart (l : Launch) (D : va_G) (k : Nat → ClassId) (g : Nat → Nat) (N : Nat) (σ : St) (x1 : Int) (x2 : Int) (r : St) (hm : r_endPart N σ x1 x2 = some r) : Mv l yX12_endPart (.code yX12_endPart cX12_endPart 4 none :: rW) { frames := 4, cells := 0, slots := 0, locals := 86 } [.ref (g 0), .int (Int32.ofInt x1), .int (Int32.ofInt x2)] D (TYs k) (mW k g σ) (fun _ => True) Unit (fun _ => True) (fun _ => mW k g r) 0 0 := by
  intro sz
  refine x_met (cc := cX12_endPart) (maxL := 4) (ret := none) (by decide) rfl (Nat.le_of_ble_eq_true rfl) ?_
  intro p e s m below meth c ls C hX hsz hr hlk hmn hl h
  have hl : lv_has ls 4 [(0, .ref (g 0)), (1, .int (Int32.ofInt x1)), (2, .int (Int32.ofInt x2))] := hl
  rw [r_endPart] at hm
  refine lv_aload_n C.1 C.2.1 dX12_endPart_0 rfl (lv_at hl 0 rfl) ?_
  refine fg_43 C h dX12_endPart_1 ?_
  refine lv_iload_n C.1 C.2.1 dX12_endPart_4 rfl (lv_at hl 1 rfl) ?_
  obtain ⟨g1, hm⟩ := grd_s hm
  refine al_73 C h dX12_endPart_5 g1 ?_
  obtain ⟨v2, e3, hm⟩ := bnd_s hm
  rw [e3]
  refine lv_istore_n (lv' := [(3, .int (Int32.ofInt v2)), (0, .ref (g 0)), (1, .int (Int32.ofInt x1)), (2, .int (Int32.ofInt x2))]) C.1 C.2.1 dX12_endPart_6 rfl hl (by decide) rfl (fun ls hl => ?_)
  refine lv_aload_n C.1 C.2.1 dX12_endPart_7 rfl (lv_at hl 1 rfl) ?_
  refine fg_44 C h dX12_endPart_8 ?_
  refine lv_iload_n C.1 C.2.1 dX12_endPart_11 rfl (lv_at hl 2 rfl) ?_
  refine al_72 C h dX12_endPart_12 g1 ?_
  refine lv_bipush (v := Int32.ofInt 91) C.1 C.2.1 dX12_endPart_13 (by decide) ?_
  obtain ⟨g4, hm⟩ := grd_s hm
  refine z_icmp_ne (tgt := 62) C dX12_endPart_15 (by decide) g4 (by decide) (fun c5 => ?_) (fun c5 => ?_)
  · have hm := ite_f c5 hm
    exact lm_endPart_62 (N := N) C hr hlk  (lv_sub hl [1, 2, 3, 0] rfl) h hm
  · have hm := ite_t c5 hm
    refine lv_aload_n C.1 C.2.1 dX12_endPart_18 rfl (lv_at hl 1 rfl) ?_
    refine lv_iload_n C.1 C.2.1 dX12_endPart_19 rfl (lv_at hl 0 rfl) ?_
    refine lv_aload_n C.1 C.2.1 dX12_endPart_20 rfl (lv_at hl 1 rfl) ?_
    refine fg_46 C h dX12_endPart_21 ?_
    obtain ⟨r6, e7, hm⟩ := obd_s hm
    refine q_callVv C h (rc_append l D k g N σ v2 (fl σ 46 0) r6 e7) (cwV 2 C.2.2.1 (gR_append _) rfl rfl rfl hd_append ⟨Nat.le_of_ble_eq_true rfl, Nat.le_of_ble_eq_true rfl⟩) rfl hl.1 rfl (Nat.le_of_ble_eq_true rfl) dX12_endPart_24 ⟨Nat.le_of_ble_eq_true rfl, Nat.le_of_ble_eq_true rfl⟩ (fun H locs h => ?_)
    refine lv_aload_n C.1 C.2.1 dX12_endPart_27 rfl (lv_at hl 1 rfl) ?_
    refine fg_19 C h dX12_endPart_28 ?_
    refine lv_iload_n C.1 C.2.1 dX12_endPart_31 rfl (lv_at hl 0 rfl) ?_
    refine lv_dup2_11 C.1 C.2.1 dX12_endPart_32 rfl rfl ?_
    obtain ⟨g8, hm⟩ := grd_s hm
    refine al_92 C h dX12_endPart_33 g8 ?_
    refine lv_iconst (v := Int32.ofInt 1) C.1 C.2.1 dX12_endPart_34 (by decide) ?_
    refine z_iadd C dX12_endPart_35 ?_
    refine as_92 C h dX12_endPart_36 g8 (fun H locs h => ?_)
    refine lv_iload_n C.1 C.2.1 dX12_endPart_37 rfl (lv_at hl 3 rfl) ?_
    refine lv_bipush (v := Int32.ofInt 44) C.1 C.2.1 dX12_endPart_38 (by decide) ?_
    obtain ⟨g9, hm⟩ := grd_s hm
    refine z_icmp_ne (tgt := 62) C dX12_endPart_40 (by decide) g9 (by decide) (fun c10 => ?_) (fun c10 => ?_)
    · have hm := ite_f c10 hm
      exact lm_endPart_62 (N := N) C hr hlk  (lv_sub hl [1, 2, 3, 0] rfl) h hm
    · have hm := ite_t c10 hm
      refine lv_aload_n C.1 C.2.1 dX12_endPart_43 rfl (lv_at hl 1 rfl) ?_
      refine lv_dup C.1 C.2.1 dX12_endPart_44 rfl ?_
      refine fg_2 C h dX12_endPart_45 ?_
      refine x_topi (y := Int32.ofInt (fl r6 2 0)) rfl ?_
      refine lv_iconst (v := Int32.ofInt 1) C.1 C.2.1 dX12_endPart_48 (by decide) ?_
      refine z_iadd C dX12_endPart_49 ?_
      refine fp_2 C h dX12_endPart_50 (fun H locs h => ?_)
      refine lv_aload_n C.1 C.2.1 dX12_endPart_53 rfl (lv_at hl 1 rfl) ?_
      refine lv_bipush (v := Int32.ofInt 10) C.1 C.2.1 dX12_endPart_54 (by decide) ?_
      refine lv_iconst (v := Int32.ofInt (-1)) C.1 C.2.1 dX12_endPart_56 (by decide) ?_
      refine lv_iconst (v := Int32.ofInt 0) C.1 C.2.1 dX12_endPart_57 (by decide) ?_
      obtain ⟨σ11, e12, hm⟩ := bnd_s hm
      rw [e12] at h
      obtain ⟨r13, e14, hm⟩ := obd_s hm
      refine q_callVv C h (rc_begin l D k g N σ11 10 (-1) 0 r13 e14) (cwV 3 C.2.2.1 (gR_begin _) rfl rfl rfl hd_begin ⟨Nat.le_of_ble_eq_true rfl, Nat.le_of_ble_eq_true rfl⟩) rfl hl.1 rfl (Nat.le_of_ble_eq_true rfl) dX12_endPart_58 ⟨Nat.le_of_ble_eq_true rfl, Nat.le_of_ble_eq_true rfl⟩ (fun H locs h => ?_)
      cases hm
      exact q_vret C h hr hlk dX12_endPart_61
end L_endPart
section L_partNumber
variable {p : Program} {l : Launch} {e : Env} {s : State} {m : MethodId} {args : Array Value} {below : List Frame} {meth : Method} {c : Code} {D : va_G} {A : Nat → Prop} {k : Nat → ClassId} {g : Nat → Nat} {N : Nat} {cd : Cond}
set_option maxHeartbeats 4000000 in
set_option maxRecDepth 100000 in
theorem lm_partNumber_80 {r : St} (C : Cx p s m args c cX12_partNumber RX12 (cd :: rW) D (TYs k) 6) (hr : meth.sig.returnType = none) (hlk : meth.locks = false) {rec43 : St → Int → Int → Int → Int → Option St} (hrec43 : ∀ {ls : Array Slot} {H : Heap} {locs : List Loc} {σ : St} {x2 : Int} {x3 : Int} {x4 : Int} {x5 : Int}, lv_has ls 6 [(0, .ref (g 0)), (2, .int (Int32.ofInt x2)), (3, .int (Int32.ofInt x3)), (4, .int (Int32.ofInt x4)), (5, .int (Int32.ofInt x5))] → Hp D A s.heap H locs (mW k g σ) → rec43 σ x2 x3 x4 x5 = some r → W p l e { frames := 1, cells := 0, slots := 0, locals := 23 } s m args below meth c H locs 0 0 (MQ below (va_Qv (fun (_ : Unit) => True) (fun _ t => PostW D (TYs k) A (mW k g r) t) A) args s 0 0 A) (F0 m 43 ls [])) {ls : Array Slot} {H : Heap} {locs : List Loc} {σ : St} {x2 : Int} {x3 : Int} {x4 : Int} {x5 : Int} (hl : lv_has ls 6 [(0, .ref (g 0)), (2, .int (Int32.ofInt x2)), (3, .int (Int32.ofInt x3)), (4, .int (Int32.ofInt x4)), (5, .int (Int32.ofInt x5))]) (h : Hp D A s.heap H locs (mW k g σ)) (hm : r_partNumber_80 N rec43 σ x2 x3 x4 x5 = some r) : W p l e { frames := 1, cells := 0, slots := 0, locals := 23 } s m args below meth c H locs 0 0 (MQ below (va_Qv (fun (_ : Unit) => True) (fun _ t => PostW D (TYs k) A (mW k g r) t) A) args s 0 0 A) (F0 m 80 ls []) := by
  rw [r_partNumber_80] at hm
  refine lv_bipush (v := Int32.ofInt 10) C.1 C.2.1 dX12_partNumber_80 (by decide) ?_
  refine lv_iload C.1 C.2.1 dX12_partNumber_82 (lv_at hl 3 rfl) ?_
  refine z_imul C dX12_partNumber_84 ?_
  refine lv_aload_n C.1 C.2.1 dX12_partNumber_85 rfl (lv_at hl 0 rfl) ?_
  refine lv_aload_n C.1 C.2.1 dX12_partNumber_86 rfl (lv_at hl 0 rfl) ?_
  refine fg_2 C h dX12_partNumber_87 ?_
  obtain ⟨r23, e24, hm⟩ := obd_s hm
  refine q_callVi C h (rc_byteAt l D k g N σ (fl σ 2 0) r23 e24) (cwV 1 C.2.2.1 (gR_byteAt _) rfl rfl rfl hd_byteAt ⟨Nat.le_of_ble_eq_true rfl, Nat.le_of_ble_eq_true rfl⟩) rfl hl.1 rfl (Nat.le_of_ble_eq_true rfl) dX12_partNumber_90 ⟨Nat.le_of_ble_eq_true rfl, Nat.le_of_ble_eq_true rfl⟩ (fun H locs h => ?_)
  refine z_iadd C dX12_partNumber_93 ?_
  refine lv_bipush (v := Int32.ofInt 48) C.1 C.2.1 dX12_partNumber_94 (by decide) ?_
  refine z_isub C dX12_partNumber_96 ?_
  obtain ⟨v25, e26, hm⟩ := bnd_s hm
  rw [e26]
  refine lv_istore (lv' := [(4, .int (Int32.ofInt v25)), (0, .ref (g 0)), (2, .int (Int32.ofInt x2)), (3, .int (Int32.ofInt x3)), (5, .int (Int32.ofInt x5))]) C.1 C.2.1 dX12_partNumber_97 hl (by decide) rfl (fun ls hl => ?_)
  refine lv_iinc (v := Int32.ofInt (x5 + 1)) (lv' := [(5, .int (Int32.ofInt (x5 + 1))), (4, .int (Int32.ofInt v25)), (0, .ref (g 0)), (2, .int (Int32.ofInt x2)), (3, .int (Int32.ofInt x3))]) C.1 C.2.1 dX12_partNumber_99 hl (k := 4) rfl (c32_add _ _) (by decide) rfl (fun ls hl => ?_)
  refine lv_aload_n C.1 C.2.1 dX12_partNumber_102 rfl (lv_at hl 2 rfl) ?_
  refine lv_dup C.1 C.2.1 dX12_partNumber_103 rfl ?_
  refine fg_2 C h dX12_partNumber_104 ?_
  refine lv_iconst (v := Int32.ofInt 1) C.1 C.2.1 dX12_partNumber_107 (by decide) ?_
  refine z_iadd C dX12_partNumber_108 ?_
  refine fp_2 C h dX12_partNumber_109 (fun H locs h => ?_)
  refine lv_goto (tgt := 43) C.1 C.2.1 dX12_partNumber_112 (by decide) ?_
  exact hrec43 (lv_sub hl [2, 3, 4, 1, 0] rfl) h hm
set_option maxHeartbeats 4000000 in
set_option maxRecDepth 100000 in
theorem lm_partNumber_146 {r : St} (C : Cx p s m args c cX12_partNumber RX12 (cd :: rW) D (TYs k) 6) (hr : meth.sig.returnType = none) (hlk : meth.locks = false)  {ls : Array Slot} {H : Heap} {locs : List Loc} {σ : St} {x2 : Int} {s0 : Int} {s1 : Int} (hl : lv_has ls 6 [(0, .ref (g 0)), (2, .int (Int32.ofInt x2))]) (h : Hp D A s.heap H locs (mW k g σ)) (hm : r_partNumber_146 N  σ x2 s0 s1 = some r) : W p l e { frames := 1, cells := 0, slots := 0, locals := 23 } s m args below meth c H locs 0 0 (MQ below (va_Qv (fun (_ : Unit) => True) (fun _ t => PostW D (TYs k) A (mW k g r) t) A) args s 0 0 A) (F0 m 146 ls [.int (Int32.ofInt s0), .int (Int32.ofInt s1), .ref (g 92)]) := by
  rw [r_partNumber_146] at hm
  obtain ⟨g29, hm⟩ := grd_s hm
  refine as_92 C h dX12_partNumber_146 g29 (fun H locs h => ?_)
  refine lv_aload_n C.1 C.2.1 dX12_partNumber_147 rfl (lv_at hl 0 rfl) ?_
  refine lv_iload_n C.1 C.2.1 dX12_partNumber_148 rfl (lv_at hl 1 rfl) ?_
  obtain ⟨σ30, e31, hm⟩ := bnd_s hm
  rw [e31] at h
  obtain ⟨r32, e33, hm⟩ := obd_s hm
  refine q_callVv C h (rc_finish l D k g N σ30 x2 r32 e33) (cwV 1 C.2.2.1 (gR_finish _) rfl rfl rfl hd_finish ⟨Nat.le_of_ble_eq_true rfl, Nat.le_of_ble_eq_true rfl⟩) rfl hl.1 rfl (Nat.le_of_ble_eq_true rfl) dX12_partNumber_149 ⟨Nat.le_of_ble_eq_true rfl, Nat.le_of_ble_eq_true rfl⟩ (fun H locs h => ?_)
  cases hm
  exact q_vret C h hr hlk dX12_partNumber_152
set_option maxHeartbeats 4000000 in
set_option maxRecDepth 100000 in
theorem lm_partNumber_129 {r : St} (C : Cx p s m args c cX12_partNumber RX12 (cd :: rW) D (TYs k) 6) (hr : meth.sig.returnType = none) (hlk : meth.locks = false)  {ls : Array Slot} {H : Heap} {locs : List Loc} {σ : St} {x2 : Int} {x3 : Int} {x4 : Int} (hl : lv_has ls 6 [(0, .ref (g 0)), (2, .int (Int32.ofInt x2)), (3, .int (Int32.ofInt x3)), (4, .int (Int32.ofInt x4))]) (h : Hp D A s.heap H locs (mW k g σ)) (hm : r_partNumber_129 N  σ x2 x3 x4 = some r) : W p l e { frames := 1, cells := 0, slots := 0, locals := 23 } s m args below meth c H locs 0 0 (MQ below (va_Qv (fun (_ : Unit) => True) (fun _ t => PostW D (TYs k) A (mW k g r) t) A) args s 0 0 A) (F0 m 129 ls []) := by
  rw [r_partNumber_129] at hm
  refine lv_aload_n C.1 C.2.1 dX12_partNumber_129 rfl (lv_at hl 0 rfl) ?_
  refine fg_19 C h dX12_partNumber_130 ?_
  refine lv_iload_n C.1 C.2.1 dX12_partNumber_133 rfl (lv_at hl 1 rfl) ?_
  refine lv_iload_n C.1 C.2.1 dX12_partNumber_134 rfl (lv_at hl 2 rfl) ?_
  obtain ⟨g27, hm⟩ := grd_s hm
  refine z_if_eq (tgt := 144) C dX12_partNumber_135 (by decide) g27 (fun c28 => ?_) (fun c28 => ?_)
  · have hm := ite_t c28 hm
    refine lv_iload C.1 C.2.1 dX12_partNumber_144 (lv_at hl 3 rfl) ?_
    exact lm_partNumber_146 (N := N) C hr hlk  (lv_sub hl [0, 1] rfl) h hm
  · have hm := ite_f c28 hm
    refine lv_iload C.1 C.2.1 dX12_partNumber_138 (lv_at hl 3 rfl) ?_
    refine z_ineg C dX12_partNumber_140 ?_
    refine lv_goto (tgt := 146) C.1 C.2.1 dX12_partNumber_141 (by decide) ?_
    exact lm_partNumber_146 (N := N) C hr hlk  (lv_sub hl [0, 1] rfl) h hm
set_option maxHeartbeats 4000000 in
set_option maxRecDepth 100000 in
theorem lm_partNumber_115 {r : St} (C : Cx p s m args c cX12_partNumber RX12 (cd :: rW) D (TYs k) 6) (hr : meth.sig.returnType = none) (hlk : meth.locks = false)  {ls : Array Slot} {H : Heap} {locs : List Loc} {σ : St} {x2 : Int} {x3 : Int} {x4 : Int} {x5 : Int} (hl : lv_has ls 6 [(0, .ref (g 0)), (2, .int (Int32.ofInt x2)), (3, .int (Int32.ofInt x3)), (4, .int (Int32.ofInt x4)), (5, .int (Int32.ofInt x5))]) (h : Hp D A s.heap H locs (mW k g σ)) (hm : r_partNumber_115 N  σ x2 x3 x4 x5 = some r) : W p l e { frames := 1, cells := 0, slots := 0, locals := 23 } s m args below meth c H locs 0 0 (MQ below (va_Qv (fun (_ : Unit) => True) (fun _ t => PostW D (TYs k) A (mW k g r) t) A) args s 0 0 A) (F0 m 115 ls []) := by
  rw [r_partNumber_115] at hm
  refine lv_iload C.1 C.2.1 dX12_partNumber_115 (lv_at hl 4 rfl) ?_
  obtain ⟨g19, hm⟩ := grd_s hm
  refine z_if_ne (tgt := 129) C dX12_partNumber_117 (by decide) g19 (fun c20 => ?_) (fun c20 => ?_)
  · have hm := ite_f c20 hm
    exact lm_partNumber_129 (N := N) C hr hlk  (lv_sub hl [0, 1, 2, 3] rfl) h hm
  · have hm := ite_t c20 hm
    refine lv_aload_n C.1 C.2.1 dX12_partNumber_120 rfl (lv_at hl 0 rfl) ?_
    refine lv_iconst (v := Int32.ofInt 1) C.1 C.2.1 dX12_partNumber_121 (by decide) ?_
    refine lv_aload_n C.1 C.2.1 dX12_partNumber_122 rfl (lv_at hl 0 rfl) ?_
    refine fg_2 C h dX12_partNumber_123 ?_
    obtain ⟨r21, e22, hm⟩ := obd_s hm
    refine q_callVv C h (rc_fail l D k g N σ 1 (fl σ 2 0) r21 e22) (cwV 2 C.2.2.1 (gR_fail _) rfl rfl rfl hd_fail ⟨Nat.le_of_ble_eq_true rfl, Nat.le_of_ble_eq_true rfl⟩) rfl hl.1 rfl (Nat.le_of_ble_eq_true rfl) dX12_partNumber_126 ⟨Nat.le_of_ble_eq_true rfl, Nat.le_of_ble_eq_true rfl⟩ (fun H locs h => ?_)
    exact lm_partNumber_129 (N := N) C hr hlk  (lv_sub hl [0, 1, 2, 3] rfl) h hm
set_option maxHeartbeats 4000000 in
set_option maxRecDepth 100000 in
theorem lm_partNumber_43 {r : St} (C : Cx p s m args c cX12_partNumber RX12 (cd :: rW) D (TYs k) 6) (hr : meth.sig.returnType = none) (hlk : meth.locks = false)  (n : Nat) : ∀ {ls : Array Slot} {H : Heap} {locs : List Loc} {σ : St} {x2 : Int} {x3 : Int} {x4 : Int} {x5 : Int}, lv_has ls 6 [(0, .ref (g 0)), (2, .int (Int32.ofInt x2)), (3, .int (Int32.ofInt x3)), (4, .int (Int32.ofInt x4)), (5, .int (Int32.ofInt x5))] → Hp D A s.heap H locs (mW k g σ) → r_partNumber_43 N  n σ x2 x3 x4 x5 = some r → W p l e { frames := 1, cells := 0, slots := 0, locals := 23 } s m args below meth c H locs 0 0 (MQ below (va_Qv (fun (_ : Unit) => True) (fun _ t => PostW D (TYs k) A (mW k g r) t) A) args s 0 0 A) (F0 m 43 ls []) := by
  induction n with
  | zero => intro ls H locs σ x2 x3 x4 x5 hl h hm; cases (show none = some r from hm)
  | succ n hrec43 =>
    intro ls H locs σ x2 x3 x4 x5 hl h hm
    rw [r_partNumber_43] at hm
    refine lv_aload_n C.1 C.2.1 dX12_partNumber_43 rfl (lv_at hl 0 rfl) ?_
    refine lv_aload_n C.1 C.2.1 dX12_partNumber_44 rfl (lv_at hl 0 rfl) ?_
    refine fg_2 C h dX12_partNumber_45 ?_
    obtain ⟨r7, e8, hm⟩ := obd_s hm
    refine q_callVi C h (rc_byteAt l D k g N σ (fl σ 2 0) r7 e8) (cwV 1 C.2.2.1 (gR_byteAt _) rfl rfl rfl hd_byteAt ⟨Nat.le_of_ble_eq_true rfl, Nat.le_of_ble_eq_true rfl⟩) rfl hl.1 rfl (Nat.le_of_ble_eq_true rfl) dX12_partNumber_48 ⟨Nat.le_of_ble_eq_true rfl, Nat.le_of_ble_eq_true rfl⟩ (fun H locs h => ?_)
    obtain ⟨r9, e10, hm⟩ := obd_s hm
    refine q_callSi C h (rc_isDigit l D k N r7.2 r9 e10) (cwS 1 C.2.2.1 (gR_isDigit _) rfl rfl rfl hd_isDigit ⟨Nat.le_of_ble_eq_true rfl, Nat.le_of_ble_eq_true rfl⟩) rfl hl.1 rfl (Nat.le_of_ble_eq_true rfl) dX12_partNumber_51 ⟨Nat.le_of_ble_eq_true rfl, Nat.le_of_ble_eq_true rfl⟩ (fun H locs h => ?_)
    obtain ⟨g11, hm⟩ := grd_s hm
    refine z_if_eq (tgt := 115) C dX12_partNumber_54 (by decide) g11 (fun c12 => ?_) (fun c12 => ?_)
    · have hm := ite_t c12 hm
      exact lm_partNumber_115 (N := N) C hr hlk  (lv_sub hl [0, 1, 2, 3, 4] rfl) h hm
    · have hm := ite_f c12 hm
      refine lv_aload_n C.1 C.2.1 dX12_partNumber_57 rfl (lv_at hl 0 rfl) ?_
      refine fg_11 C h dX12_partNumber_58 ?_
      obtain ⟨g13, hm⟩ := grd_s hm
      refine z_if_ne (tgt := 115) C dX12_partNumber_61 (by decide) g13 (fun c14 => ?_) (fun c14 => ?_)
      · have hm := ite_f c14 hm
        exact lm_partNumber_115 (N := N) C hr hlk  (lv_sub hl [0, 1, 2, 3, 4] rfl) h hm
      · have hm := ite_t c14 hm
        refine lv_iload C.1 C.2.1 dX12_partNumber_64 (lv_at hl 4 rfl) ?_
        refine lv_bipush (v := Int32.ofInt 6) C.1 C.2.1 dX12_partNumber_66 (by decide) ?_
        obtain ⟨g15, hm⟩ := grd_s hm
        refine z_icmp_ne (tgt := 80) C dX12_partNumber_68 (by decide) g15 (by decide) (fun c16 => ?_) (fun c16 => ?_)
        · have hm := ite_f c16 hm
          exact lm_partNumber_80 (N := N) C hr hlk hrec43 (lv_sub hl [0, 1, 2, 3, 4] rfl) h hm
        · have hm := ite_t c16 hm
          refine lv_aload_n C.1 C.2.1 dX12_partNumber_71 rfl (lv_at hl 0 rfl) ?_
          refine lv_iconst (v := Int32.ofInt 1) C.1 C.2.1 dX12_partNumber_72 (by decide) ?_
          refine lv_aload_n C.1 C.2.1 dX12_partNumber_73 rfl (lv_at hl 0 rfl) ?_
          refine fg_2 C h dX12_partNumber_74 ?_
          obtain ⟨r17, e18, hm⟩ := obd_s hm
          refine q_callVv C h (rc_fail l D k g N r7.1 1 (fl r7.1 2 0) r17 e18) (cwV 2 C.2.2.1 (gR_fail _) rfl rfl rfl hd_fail ⟨Nat.le_of_ble_eq_true rfl, Nat.le_of_ble_eq_true rfl⟩) rfl hl.1 rfl (Nat.le_of_ble_eq_true rfl) dX12_partNumber_77 ⟨Nat.le_of_ble_eq_true rfl, Nat.le_of_ble_eq_true rfl⟩ (fun H locs h => ?_)
          exact lm_partNumber_80 (N := N) C hr hlk hrec43 (lv_sub hl [0, 1, 2, 3, 4] rfl) h hm
set_option maxHeartbeats 4000000 in
set_option maxRecDepth 100000 in
theorem lm_partNumber_37 {r : St} (C : Cx p s m args c cX12_partNumber RX12 (cd :: rW) D (TYs k) 6) (hr : meth.sig.returnType = none) (hlk : meth.locks = false)  {ls : Array Slot} {H : Heap} {locs : List Loc} {σ : St} {x2 : Int} {x3 : Int} (hl : lv_has ls 6 [(0, .ref (g 0)), (2, .int (Int32.ofInt x2)), (3, .int (Int32.ofInt x3))]) (h : Hp D A s.heap H locs (mW k g σ)) (hm : r_partNumber_37 N  σ x2 x3 = some r) : W p l e { frames := 1, cells := 0, slots := 0, locals := 23 } s m args below meth c H locs 0 0 (MQ below (va_Qv (fun (_ : Unit) => True) (fun _ t => PostW D (TYs k) A (mW k g r) t) A) args s 0 0 A) (F0 m 37 ls []) := by
  rw [r_partNumber_37] at hm
  refine lv_iconst (v := Int32.ofInt 0) C.1 C.2.1 dX12_partNumber_37 (by decide) ?_
  refine lv_istore (lv' := [(4, .int (Int32.ofInt 0)), (0, .ref (g 0)), (2, .int (Int32.ofInt x2)), (3, .int (Int32.ofInt x3))]) C.1 C.2.1 dX12_partNumber_38 hl (by decide) rfl (fun ls hl => ?_)
  refine lv_iconst (v := Int32.ofInt 0) C.1 C.2.1 dX12_partNumber_40 (by decide) ?_
  refine lv_istore (lv' := [(5, .int (Int32.ofInt 0)), (4, .int (Int32.ofInt 0)), (0, .ref (g 0)), (2, .int (Int32.ofInt x2)), (3, .int (Int32.ofInt x3))]) C.1 C.2.1 dX12_partNumber_41 hl (by decide) rfl (fun ls hl => ?_)
  exact lm_partNumber_43 (N := N) C hr hlk  N (lv_sub hl [2, 3, 4, 1, 0] rfl) h hm
set_option maxHeartbeats 4000000 in
set_option maxRecDepth 100000 in
theorem lm_partNumber_22 {r : St} (C : Cx p s m args c cX12_partNumber RX12 (cd :: rW) D (TYs k) 6) (hr : meth.sig.returnType = none) (hlk : meth.locks = false)  {ls : Array Slot} {H : Heap} {locs : List Loc} {σ : St} {x2 : Int} {s0 : Int} (hl : lv_has ls 6 [(0, .ref (g 0)), (2, .int (Int32.ofInt x2))]) (h : Hp D A s.heap H locs (mW k g σ)) (hm : r_partNumber_22 N  σ x2 s0 = some r) : W p l e { frames := 1, cells := 0, slots := 0, locals := 23 } s m args below meth c H locs 0 0 (MQ below (va_Qv (fun (_ : Unit) => True) (fun _ t => PostW D (TYs k) A (mW k g r) t) A) args s 0 0 A) (F0 m 22 ls [.int (Int32.ofInt s0)]) := by
  rw [r_partNumber_22] at hm
  refine lv_istore_n (lv' := [(3, .int (Int32.ofInt s0)), (0, .ref (g 0)), (2, .int (Int32.ofInt x2))]) C.1 C.2.1 dX12_partNumber_22 rfl hl (by decide) rfl (fun ls hl => ?_)
  refine lv_iload_n C.1 C.2.1 dX12_partNumber_23 rfl (lv_at hl 0 rfl) ?_
  obtain ⟨g5, hm⟩ := grd_s hm
  refine z_if_eq (tgt := 37) C dX12_partNumber_24 (by decide) g5 (fun c6 => ?_) (fun c6 => ?_)
  · have hm := ite_t c6 hm
    exact lm_partNumber_37 (N := N) C hr hlk  (lv_sub hl [1, 2, 0] rfl) h hm
  · have hm := ite_f c6 hm
    refine lv_aload_n C.1 C.2.1 dX12_partNumber_27 rfl (lv_at hl 1 rfl) ?_
    refine lv_dup C.1 C.2.1 dX12_partNumber_28 rfl ?_
    refine fg_2 C h dX12_partNumber_29 ?_
    refine lv_iconst (v := Int32.ofInt 1) C.1 C.2.1 dX12_partNumber_32 (by decide) ?_
    refine z_iadd C dX12_partNumber_33 ?_
    refine fp_2 C h dX12_partNumber_34 (fun H locs h => ?_)
    exact lm_partNumber_37 (N := N) C hr hlk  (lv_sub hl [1, 2, 0] rfl) h hm
set_option maxHeartbeats 4000000 in
set_option maxRecDepth 100000 in
theorem rc_partNumber (l : Launch) (D : va_G) (k : Nat → ClassId) (g : Nat → Nat) (N : Nat) (σ : St) (x1 : Int) (r : St) (hm : r_partNumber N σ x1 = some r) : Mv l yX12_partNumber (.code yX12_partNumber cX12_partNumber 6 none :: rW) { frames := 1, cells := 0, slots := 0, locals := 23 } [.ref (g 0), .int (Int32.ofInt x1)] D (TYs k) (mW k g σ) (fun _ => True) Unit (fun _ => True) (fun _ => mW k g r) 0 0 := by
  intro sz
  refine x_met (cc := cX12_partNumber) (maxL := 6) (ret := none) (by decide) rfl (Nat.le_of_ble_eq_true rfl) ?_
  intro p e s m below meth c ls C hX hsz hr hlk hmn hl h
  have hl : lv_has ls 6 [(0, .ref (g 0)), (1, .int (Int32.ofInt x1))] := hl
  rw [r_partNumber] at hm
  refine lv_aload_n C.1 C.2.1 dX12_partNumber_0 rfl (lv_at hl 0 rfl) ?_
  refine lv_bipush (v := Int32.ofInt 21) C.1 C.2.1 dX12_partNumber_1 (by decide) ?_
  refine lv_aload_n C.1 C.2.1 dX12_partNumber_3 rfl (lv_at hl 0 rfl) ?_
  refine fg_2 C h dX12_partNumber_4 ?_
  obtain ⟨r1, e2, hm⟩ := obd_s hm
  refine q_callVi C h (rc_node l D k g N σ 21 (fl σ 2 0) r1 e2) (cwV 2 C.2.2.1 (gR_node _) rfl rfl rfl hd_node ⟨Nat.le_of_ble_eq_true rfl, Nat.le_of_ble_eq_true rfl⟩) rfl hl.1 rfl (Nat.le_of_ble_eq_true rfl) dX12_partNumber_7 ⟨Nat.le_of_ble_eq_true rfl, Nat.le_of_ble_eq_true rfl⟩ (fun H locs h => ?_)
  refine lv_istore_n (lv' := [(2, .int (Int32.ofInt r1.2)), (0, .ref (g 0)), (1, .int (Int32.ofInt x1))]) C.1 C.2.1 dX12_partNumber_10 rfl hl (by decide) rfl (fun ls hl => ?_)
  refine lv_iload_n C.1 C.2.1 dX12_partNumber_11 rfl (lv_at hl 2 rfl) ?_
  refine lv_bipush (v := Int32.ofInt 45) C.1 C.2.1 dX12_partNumber_12 (by decide) ?_
  obtain ⟨g3, hm⟩ := grd_s hm
  refine z_icmp_ne (tgt := 21) C dX12_partNumber_14 (by decide) g3 (by decide) (fun c4 => ?_) (fun c4 => ?_)
  · have hm := ite_f c4 hm
    refine lv_iconst (v := Int32.ofInt 0) C.1 C.2.1 dX12_partNumber_21 (by decide) ?_
    exact lm_partNumber_22 (N := N) C hr hlk  (lv_sub hl [1, 0] rfl) h hm
  · have hm := ite_t c4 hm
    refine lv_iconst (v := Int32.ofInt 1) C.1 C.2.1 dX12_partNumber_17 (by decide) ?_
    refine lv_goto (tgt := 22) C.1 C.2.1 dX12_partNumber_18 (by decide) ?_
    exact lm_partNumber_22 (N := N) C hr hlk  (lv_sub hl [1, 0] rfl) h hm
end L_partNumber
section L_readPart
variable {p : Program} {l : Launch} {e : Env} {s : State} {m : MethodId} {args : Array Value} {below : List Frame} {meth : Method} {c : Code} {D : va_G} {A : Nat → Prop} {k : Nat → ClassId} {g : Nat → Nat} {N : Nat} {cd : Cond}
set_option maxHeartbeats 4000000 in
set_option maxRecDepth 100000 in
theorem lm_readPart_161 {r : St} (C : Cx p s m args c cX12_readPart RX12 (cd :: rW) D (TYs k) 6) (hr : meth.sig.returnType = none) (hlk : meth.locks = false) {rec52 : St → Int → Int → Option St} (hrec52 : ∀ {ls : Array Slot} {H : Heap} {locs : List Loc} {σ : St} {x4 : Int} {x5 : Int}, lv_has ls 6 [(0, .ref (g 0)), (4, .int (Int32.ofInt x4)), (5, .int (Int32.ofInt x5))] → Hp D A s.heap H locs (mW k g σ) → rec52 σ x4 x5 = some r → W p l e { frames := 5, cells := 0, slots := 0, locals := 109 } s m args below meth c H locs 0 0 (MQ below (va_Qv (fun (_ : Unit) => True) (fun _ t => PostW D (TYs k) A (mW k g r) t) A) args s 0 0 A) (F0 m 52 ls [])) {ls : Array Slot} {H : Heap} {locs : List Loc} {σ : St} {x4 : Int} {x5 : Int} (hl : lv_has ls 6 [(0, .ref (g 0)), (4, .int (Int32.ofInt x4)), (5, .int (Int32.ofInt x5))]) (h : Hp D A s.heap H locs (mW k g σ)) (hm : r_readPart_161 N rec52 σ x4 x5 = some r) : W p l e { frames := 5, cells := 0, slots := 0, locals := 109 } s m args below meth c H locs 0 0 (MQ below (va_Qv (fun (_ : Unit) => True) (fun _ t => PostW D (TYs k) A (mW k g r) t) A) args s 0 0 A) (F0 m 161 ls []) := by
  rw [r_readPart_161] at hm
  refine lv_iinc (v := Int32.ofInt (x5 + 1)) (lv' := [(5, .int (Int32.ofInt (x5 + 1))), (0, .ref (g 0)), (4, .int (Int32.ofInt x4))]) C.1 C.2.1 dX12_readPart_161 hl (k := 2) rfl (c32_add _ _) (by decide) rfl (fun ls hl => ?_)
  refine lv_aload_n C.1 C.2.1 dX12_readPart_164 rfl (lv_at hl 1 rfl) ?_
  refine lv_dup C.1 C.2.1 dX12_readPart_165 rfl ?_
  refine fg_2 C h dX12_readPart_166 ?_
  refine lv_iconst (v := Int32.ofInt 1) C.1 C.2.1 dX12_readPart_169 (by decide) ?_
  refine z_iadd C dX12_readPart_170 ?_
  refine fp_2 C h dX12_readPart_171 (fun H locs h => ?_)
  refine lv_goto (tgt := 52) C.1 C.2.1 dX12_readPart_174 (by decide) ?_
  exact hrec52 (lv_sub hl [1, 2, 0] rfl) h hm
set_option maxHeartbeats 4000000 in
set_option maxRecDepth 100000 in
theorem lm_readPart_177 {r : St} (C : Cx p s m args c cX12_readPart RX12 (cd :: rW) D (TYs k) 6) (hr : meth.sig.returnType = none) (hlk : meth.locks = false)  {ls : Array Slot} {H : Heap} {locs : List Loc} {σ : St} {x4 : Int} (hl : lv_has ls 6 [(0, .ref (g 0)), (4, .int (Int32.ofInt x4))]) (h : Hp D A s.heap H locs (mW k g σ)) (hm : r_readPart_177 N  σ x4 = some r) : W p l e { frames := 5, cells := 0, slots := 0, locals := 109 } s m args below meth c H locs 0 0 (MQ below (va_Qv (fun (_ : Unit) => True) (fun _ t => PostW D (TYs k) A (mW k g r) t) A) args s 0 0 A) (F0 m 177 ls []) := by
  rw [r_readPart_177] at hm
  refine lv_aload_n C.1 C.2.1 dX12_readPart_177 rfl (lv_at hl 0 rfl) ?_
  refine lv_iload C.1 C.2.1 dX12_readPart_178 (lv_at hl 1 rfl) ?_
  obtain ⟨r69, e70, hm⟩ := obd_s hm
  refine q_callVv C h (rc_finish l D k g N σ x4 r69 e70) (cwV 1 C.2.2.1 (gR_finish _) rfl rfl rfl hd_finish ⟨Nat.le_of_ble_eq_true rfl, Nat.le_of_ble_eq_true rfl⟩) rfl hl.1 rfl (Nat.le_of_ble_eq_true rfl) dX12_readPart_180 ⟨Nat.le_of_ble_eq_true rfl, Nat.le_of_ble_eq_true rfl⟩ (fun H locs h => ?_)
  refine lv_goto (tgt := 353) C.1 C.2.1 dX12_readPart_183 (by decide) ?_
  cases hm
  exact q_vret C h hr hlk dX12_readPart_353
set_option maxHeartbeats 4000000 in
set_option maxRecDepth 100000 in
theorem lm_readPart_52 {r : St} (C : Cx p s m args c cX12_readPart RX12 (cd :: rW) D (TYs k) 6) (hr : meth.sig.returnType = none) (hlk : meth.locks = false)  (n : Nat) : ∀ {ls : Array Slot} {H : Heap} {locs : List Loc} {σ : St} {x4 : Int} {x5 : Int}, lv_has ls 6 [(0, .ref (g 0)), (4, .int (Int32.ofInt x4)), (5, .int (Int32.ofInt x5))] → Hp D A s.heap H locs (mW k g σ) → r_readPart_52 N  n σ x4 x5 = some r → W p l e { frames := 5, cells := 0, slots := 0, locals := 109 } s m args below meth c H locs 0 0 (MQ below (va_Qv (fun (_ : Unit) => True) (fun _ t => PostW D (TYs k) A (mW k g r) t) A) args s 0 0 A) (F0 m 52 ls []) := by
  induction n with
  | zero => intro ls H locs σ x4 x5 hl h hm; cases (show none = some r from hm)
  | succ n hrec52 =>
    intro ls H locs σ x4 x5 hl h hm
    rw [r_readPart_52] at hm
    refine lv_aload_n C.1 C.2.1 dX12_readPart_52 rfl (lv_at hl 0 rfl) ?_
    refine lv_aload_n C.1 C.2.1 dX12_readPart_53 rfl (lv_at hl 0 rfl) ?_
    refine fg_2 C h dX12_readPart_54 ?_
    obtain ⟨r42, e43, hm⟩ := obd_s hm
    refine q_callVi C h (rc_byteAt l D k g N σ (fl σ 2 0) r42 e43) (cwV 1 C.2.2.1 (gR_byteAt _) rfl rfl rfl hd_byteAt ⟨Nat.le_of_ble_eq_true rfl, Nat.le_of_ble_eq_true rfl⟩) rfl hl.1 rfl (Nat.le_of_ble_eq_true rfl) dX12_readPart_57 ⟨Nat.le_of_ble_eq_true rfl, Nat.le_of_ble_eq_true rfl⟩ (fun H locs h => ?_)
    obtain ⟨r44, e45, hm⟩ := obd_s hm
    refine q_callSi C h (rc_isLow l D k N r42.2 r44 e45) (cwS 1 C.2.2.1 (gR_isLow _) rfl rfl rfl hd_isLow ⟨Nat.le_of_ble_eq_true rfl, Nat.le_of_ble_eq_true rfl⟩) rfl hl.1 rfl (Nat.le_of_ble_eq_true rfl) dX12_readPart_60 ⟨Nat.le_of_ble_eq_true rfl, Nat.le_of_ble_eq_true rfl⟩ (fun H locs h => ?_)
    obtain ⟨g46, hm⟩ := grd_s hm
    refine z_if_eq (tgt := 177) C dX12_readPart_63 (by decide) g46 (fun c47 => ?_) (fun c47 => ?_)
    · have hm := ite_t c47 hm
      exact lm_readPart_177 (N := N) C hr hlk  (lv_sub hl [0, 1] rfl) h hm
    · have hm := ite_f c47 hm
      refine lv_aload_n C.1 C.2.1 dX12_readPart_66 rfl (lv_at hl 0 rfl) ?_
      refine fg_11 C h dX12_readPart_67 ?_
      obtain ⟨g48, hm⟩ := grd_s hm
      refine z_if_ne (tgt := 177) C dX12_readPart_70 (by decide) g48 (fun c49 => ?_) (fun c49 => ?_)
      · have hm := ite_f c49 hm
        exact lm_readPart_177 (N := N) C hr hlk  (lv_sub hl [0, 1] rfl) h hm
      · have hm := ite_t c49 hm
        refine lv_iload C.1 C.2.1 dX12_readPart_73 (lv_at hl 2 rfl) ?_
        refine lv_bipush (v := Int32.ofInt 8) C.1 C.2.1 dX12_readPart_75 (by decide) ?_
        obtain ⟨g50, hm⟩ := grd_s hm
        refine z_icmp_ne (tgt := 92) C dX12_readPart_77 (by decide) g50 (by decide) (fun c51 => ?_) (fun c51 => ?_)
        · have hm := ite_f c51 hm
          refine lv_iload C.1 C.2.1 dX12_readPart_92 (lv_at hl 2 rfl) ?_
          refine lv_iconst (v := Int32.ofInt 4) C.1 C.2.1 dX12_readPart_94 (by decide) ?_
          refine z_icmp_ge (tgt := 131) C dX12_readPart_95 (by decide) g50 (by decide) (fun c52 => ?_) (fun c52 => ?_)
          · have hm := ite_f c52 hm
            refine lv_aload_n C.1 C.2.1 dX12_readPart_131 rfl (lv_at hl 0 rfl) ?_
            refine fg_20 C h dX12_readPart_132 ?_
            refine lv_iload C.1 C.2.1 dX12_readPart_135 (lv_at hl 1 rfl) ?_
            refine lv_aload_n C.1 C.2.1 dX12_readPart_137 rfl (lv_at hl 0 rfl) ?_
            refine fg_20 C h dX12_readPart_138 ?_
            refine lv_iload C.1 C.2.1 dX12_readPart_141 (lv_at hl 1 rfl) ?_
            obtain ⟨g53, hm⟩ := grd_s hm
            refine al_91 C h dX12_readPart_143 g53 ?_
            refine lv_iconst (v := Int32.ofInt 5) C.1 C.2.1 dX12_readPart_144 (by decide) ?_
            refine z_ishl C dX12_readPart_145 ?_
            refine lv_aload_n C.1 C.2.1 dX12_readPart_146 rfl (lv_at hl 0 rfl) ?_
            refine lv_aload_n C.1 C.2.1 dX12_readPart_147 rfl (lv_at hl 0 rfl) ?_
            refine fg_2 C h dX12_readPart_148 ?_
            obtain ⟨r54, e55, hm⟩ := obd_s hm
            refine q_callVi C h (rc_byteAt l D k g N r42.1 (fl r42.1 2 0) r54 e55) (cwV 1 C.2.2.1 (gR_byteAt _) rfl rfl rfl hd_byteAt ⟨Nat.le_of_ble_eq_true rfl, Nat.le_of_ble_eq_true rfl⟩) rfl hl.1 rfl (Nat.le_of_ble_eq_true rfl) dX12_readPart_151 ⟨Nat.le_of_ble_eq_true rfl, Nat.le_of_ble_eq_true rfl⟩ (fun H locs h => ?_)
            refine lv_bipush (v := Int32.ofInt 97) C.1 C.2.1 dX12_readPart_154 (by decide) ?_
            refine z_isub C dX12_readPart_156 ?_
            refine lv_iconst (v := Int32.ofInt 1) C.1 C.2.1 dX12_readPart_157 (by decide) ?_
            refine z_iadd C dX12_readPart_158 ?_
            refine z_ior C dX12_readPart_159 ?_
            refine as_91 C h dX12_readPart_160 g53 (fun H locs h => ?_)
            exact lm_readPart_161 (N := N) C hr hlk hrec52 (lv_sub hl [0, 1, 2] rfl) h hm
          · have hm := ite_t c52 hm
            refine lv_aload_n C.1 C.2.1 dX12_readPart_98 rfl (lv_at hl 0 rfl) ?_
            refine fg_19 C h dX12_readPart_99 ?_
            refine lv_iload C.1 C.2.1 dX12_readPart_102 (lv_at hl 1 rfl) ?_
            refine lv_aload_n C.1 C.2.1 dX12_readPart_104 rfl (lv_at hl 0 rfl) ?_
            refine fg_19 C h dX12_readPart_105 ?_
            refine lv_iload C.1 C.2.1 dX12_readPart_108 (lv_at hl 1 rfl) ?_
            obtain ⟨g56, hm⟩ := grd_s hm
            refine al_92 C h dX12_readPart_110 g56 ?_
            refine lv_iconst (v := Int32.ofInt 5) C.1 C.2.1 dX12_readPart_111 (by decide) ?_
            refine z_ishl C dX12_readPart_112 ?_
            refine lv_aload_n C.1 C.2.1 dX12_readPart_113 rfl (lv_at hl 0 rfl) ?_
            refine lv_aload_n C.1 C.2.1 dX12_readPart_114 rfl (lv_at hl 0 rfl) ?_
            refine fg_2 C h dX12_readPart_115 ?_
            obtain ⟨r57, e58, hm⟩ := obd_s hm
            refine q_callVi C h (rc_byteAt l D k g N r42.1 (fl r42.1 2 0) r57 e58) (cwV 1 C.2.2.1 (gR_byteAt _) rfl rfl rfl hd_byteAt ⟨Nat.le_of_ble_eq_true rfl, Nat.le_of_ble_eq_true rfl⟩) rfl hl.1 rfl (Nat.le_of_ble_eq_true rfl) dX12_readPart_118 ⟨Nat.le_of_ble_eq_true rfl, Nat.le_of_ble_eq_true rfl⟩ (fun H locs h => ?_)
            refine lv_bipush (v := Int32.ofInt 97) C.1 C.2.1 dX12_readPart_121 (by decide) ?_
            refine z_isub C dX12_readPart_123 ?_
            refine lv_iconst (v := Int32.ofInt 1) C.1 C.2.1 dX12_readPart_124 (by decide) ?_
            refine z_iadd C dX12_readPart_125 ?_
            refine z_ior C dX12_readPart_126 ?_
            refine as_92 C h dX12_readPart_127 g56 (fun H locs h => ?_)
            refine lv_goto (tgt := 161) C.1 C.2.1 dX12_readPart_128 (by decide) ?_
            exact lm_readPart_161 (N := N) C hr hlk hrec52 (lv_sub hl [0, 1, 2] rfl) h hm
        · have hm := ite_t c51 hm
          refine lv_aload_n C.1 C.2.1 dX12_readPart_80 rfl (lv_at hl 0 rfl) ?_
          refine lv_iconst (v := Int32.ofInt 1) C.1 C.2.1 dX12_readPart_81 (by decide) ?_
          refine lv_aload_n C.1 C.2.1 dX12_readPart_82 rfl (lv_at hl 0 rfl) ?_
          refine fg_2 C h dX12_readPart_83 ?_
          obtain ⟨r59, e60, hm⟩ := obd_s hm
          refine q_callVv C h (rc_fail l D k g N r42.1 1 (fl r42.1 2 0) r59 e60) (cwV 2 C.2.2.1 (gR_fail _) rfl rfl rfl hd_fail ⟨Nat.le_of_ble_eq_true rfl, Nat.le_of_ble_eq_true rfl⟩) rfl hl.1 rfl (Nat.le_of_ble_eq_true rfl) dX12_readPart_86 ⟨Nat.le_of_ble_eq_true rfl, Nat.le_of_ble_eq_true rfl⟩ (fun H locs h => ?_)
          refine lv_goto (tgt := 161) C.1 C.2.1 dX12_readPart_89 (by decide) ?_
          exact lm_readPart_161 (N := N) C hr hlk hrec52 (lv_sub hl [0, 1, 2] rfl) h hm
set_option maxHeartbeats 4000000 in
set_option maxRecDepth 100000 in
theorem lm_readPart_199 {r : St} (C : Cx p s m args c cX12_readPart RX12 (cd :: rW) D (TYs k) 6) (hr : meth.sig.returnType = none) (hlk : meth.locks = false)  {ls : Array Slot} {H : Heap} {locs : List Loc} {σ : St} {x2 : Int} (hl : lv_has ls 6 [(0, .ref (g 0)), (2, .int (Int32.ofInt x2))]) (h : Hp D A s.heap H locs (mW k g σ)) (hm : r_readPart_199 N  σ x2 = some r) : W p l e { frames := 5, cells := 0, slots := 0, locals := 109 } s m args below meth c H locs 0 0 (MQ below (va_Qv (fun (_ : Unit) => True) (fun _ t => PostW D (TYs k) A (mW k g r) t) A) args s 0 0 A) (F0 m 199 ls []) := by
  rw [r_readPart_199] at hm
  refine lv_aload_n C.1 C.2.1 dX12_readPart_199 rfl (lv_at hl 0 rfl) ?_
  refine lv_iload_n C.1 C.2.1 dX12_readPart_200 rfl (lv_at hl 1 rfl) ?_
  obtain ⟨r32, e33, hm⟩ := obd_s hm
  refine q_callVv C h (rc_partNumber l D k g N σ x2 r32 e33) (cwV 1 C.2.2.1 (gR_partNumber _) rfl rfl rfl hd_partNumber ⟨Nat.le_of_ble_eq_true rfl, Nat.le_of_ble_eq_true rfl⟩) rfl hl.1 rfl (Nat.le_of_ble_eq_true rfl) dX12_readPart_201 ⟨Nat.le_of_ble_eq_true rfl, Nat.le_of_ble_eq_true rfl⟩ (fun H locs h => ?_)
  refine lv_goto (tgt := 353) C.1 C.2.1 dX12_readPart_204 (by decide) ?_
  cases hm
  exact q_vret C h hr hlk dX12_readPart_353
set_option maxHeartbeats 4000000 in
set_option maxRecDepth 100000 in
theorem lm_readPart_338 {r : St} (C : Cx p s m args c cX12_readPart RX12 (cd :: rW) D (TYs k) 6) (hr : meth.sig.returnType = none) (hlk : meth.locks = false)  {ls : Array Slot} {H : Heap} {locs : List Loc} {σ : St} {s0 : Int} {s1 : Int} {s2 : Int} (hl : lv_has ls 6 []) (h : Hp D A s.heap H locs (mW k g σ)) (hm : r_readPart_338 N  σ s0 s1 s2 = some r) : W p l e { frames := 5, cells := 0, slots := 0, locals := 109 } s m args below meth c H locs 0 0 (MQ below (va_Qv (fun (_ : Unit) => True) (fun _ t => PostW D (TYs k) A (mW k g r) t) A) args s 0 0 A) (F0 m 338 ls [.int (Int32.ofInt s0), .int (Int32.ofInt s1), .int (Int32.ofInt s2), .ref (g 0)]) := by
  rw [r_readPart_338] at hm
  obtain ⟨r71, e72, hm⟩ := obd_s hm
  refine q_callVv C h (rc_begin l D k g N σ s2 s1 s0 r71 e72) (cwV 3 C.2.2.1 (gR_begin _) rfl rfl rfl hd_begin ⟨Nat.le_of_ble_eq_true rfl, Nat.le_of_ble_eq_true rfl⟩) rfl hl.1 rfl (Nat.le_of_ble_eq_true rfl) dX12_readPart_338 ⟨Nat.le_of_ble_eq_true rfl, Nat.le_of_ble_eq_true rfl⟩ (fun H locs h => ?_)
  refine lv_goto (tgt := 353) C.1 C.2.1 dX12_readPart_341 (by decide) ?_
  cases hm
  exact q_vret C h hr hlk dX12_readPart_353
set_option maxHeartbeats 4000000 in
set_option maxRecDepth 100000 in
theorem lm_readPart_311 {r : St} (C : Cx p s m args c cX12_readPart RX12 (cd :: rW) D (TYs k) 6) (hr : meth.sig.returnType = none) (hlk : meth.locks = false)  {ls : Array Slot} {H : Heap} {locs : List Loc} {σ : St} {x1 : Int} {x2 : Int} {x3 : Int} {s0 : Int} {s2 : Int} (hl : lv_has ls 6 [(0, .ref (g 0)), (1, .int (Int32.ofInt x1)), (2, .int (Int32.ofInt x2)), (3, .int (Int32.ofInt x3))]) (h : Hp D A s.heap H locs (mW k g σ)) (hm : r_readPart_311 N  σ x1 x2 x3 s0 s2 = some r) : W p l e { frames := 5, cells := 0, slots := 0, locals := 109 } s m args below meth c H locs 0 0 (MQ below (va_Qv (fun (_ : Unit) => True) (fun _ t => PostW D (TYs k) A (mW k g r) t) A) args s 0 0 A) (F0 m 311 ls [.int (Int32.ofInt s0), .ref (g 0), .int (Int32.ofInt s2), .ref (g 73)]) := by
  rw [r_readPart_311] at hm
  refine lv_iload_n C.1 C.2.1 dX12_readPart_311 rfl (lv_at hl 3 rfl) ?_
  obtain ⟨r61, e62, hm⟩ := obd_s hm
  refine q_callVi C h (rc_node l D k g N σ s0 x3 r61 e62) (cwV 2 C.2.2.1 (gR_node _) rfl rfl rfl hd_node ⟨Nat.le_of_ble_eq_true rfl, Nat.le_of_ble_eq_true rfl⟩) rfl hl.1 rfl (Nat.le_of_ble_eq_true rfl) dX12_readPart_312 ⟨Nat.le_of_ble_eq_true rfl, Nat.le_of_ble_eq_true rfl⟩ (fun H locs h => ?_)
  obtain ⟨g63, hm⟩ := grd_s hm
  refine as_73 C h dX12_readPart_315 g63 (fun H locs h => ?_)
  refine lv_aload_n C.1 C.2.1 dX12_readPart_316 rfl (lv_at hl 0 rfl) ?_
  refine lv_bipush (v := Int32.ofInt 10) C.1 C.2.1 dX12_readPart_317 (by decide) ?_
  refine lv_iconst (v := Int32.ofInt (-1)) C.1 C.2.1 dX12_readPart_319 (by decide) ?_
  refine lv_iload_n C.1 C.2.1 dX12_readPart_320 rfl (lv_at hl 2 rfl) ?_
  refine lv_bipush (v := Int32.ofInt 91) C.1 C.2.1 dX12_readPart_321 (by decide) ?_
  obtain ⟨g64, hm⟩ := grd_s hm
  refine z_icmp_ne (tgt := 330) C dX12_readPart_323 (by decide) g64 (by decide) (fun c65 => ?_) (fun c65 => ?_)
  · have hm := ite_f c65 hm
    refine lv_aload_n C.1 C.2.1 dX12_readPart_330 rfl (lv_at hl 0 rfl) ?_
    refine fg_43 C h dX12_readPart_331 ?_
    refine lv_iload_n C.1 C.2.1 dX12_readPart_334 rfl (lv_at hl 1 rfl) ?_
    obtain ⟨σ66, e67, hm⟩ := bnd_s hm
    rw [e67] at h
    obtain ⟨g68, hm⟩ := grd_s hm
    refine al_73 C h dX12_readPart_335 g68 ?_
    refine lv_iconst (v := Int32.ofInt 1) C.1 C.2.1 dX12_readPart_336 (by decide) ?_
    refine z_iadd C dX12_readPart_337 ?_
    exact lm_readPart_338 (N := N) C hr hlk  (lv_sub hl [] rfl) h hm
  · have hm := ite_t c65 hm
    refine lv_iconst (v := Int32.ofInt 0) C.1 C.2.1 dX12_readPart_326 (by decide) ?_
    refine lv_goto (tgt := 338) C.1 C.2.1 dX12_readPart_327 (by decide) ?_
    exact lm_readPart_338 (N := N) C hr hlk  (lv_sub hl [] rfl) h hm
set_option maxHeartbeats 4000000 in
set_option maxRecDepth 100000 in
theorem lm_readPart_255 {r : St} (C : Cx p s m args c cX12_readPart RX12 (cd :: rW) D (TYs k) 6) (hr : meth.sig.returnType = none) (hlk : meth.locks = false)  {ls : Array Slot} {H : Heap} {locs : List Loc} {σ : St} {x1 : Int} {x2 : Int} {x3 : Int} (hl : lv_has ls 6 [(0, .ref (g 0)), (1, .int (Int32.ofInt x1)), (2, .int (Int32.ofInt x2)), (3, .int (Int32.ofInt x3))]) (h : Hp D A s.heap H locs (mW k g σ)) (hm : r_readPart_255 N  σ x1 x2 x3 = some r) : W p l e { frames := 5, cells := 0, slots := 0, locals := 109 } s m args below meth c H locs 0 0 (MQ below (va_Qv (fun (_ : Unit) => True) (fun _ t => PostW D (TYs k) A (mW k g r) t) A) args s 0 0 A) (F0 m 255 ls []) := by
  rw [r_readPart_255] at hm
  refine lv_aload_n C.1 C.2.1 dX12_readPart_255 rfl (lv_at hl 0 rfl) ?_
  refine lv_iload_n C.1 C.2.1 dX12_readPart_256 rfl (lv_at hl 3 rfl) ?_
  obtain ⟨r34, e35, hm⟩ := obd_s hm
  refine q_callVi C h (rc_isOpen l D k g N σ x3 r34 e35) (cwV 1 C.2.2.1 (gR_isOpen _) rfl rfl rfl hd_isOpen ⟨Nat.le_of_ble_eq_true rfl, Nat.le_of_ble_eq_true rfl⟩) rfl hl.1 rfl (Nat.le_of_ble_eq_true rfl) dX12_readPart_257 ⟨Nat.le_of_ble_eq_true rfl, Nat.le_of_ble_eq_true rfl⟩ (fun H locs h => ?_)
  obtain ⟨g36, hm⟩ := grd_s hm
  refine z_if_ne (tgt := 264) C dX12_readPart_260 (by decide) g36 (fun c37 => ?_) (fun c37 => ?_)
  · have hm := ite_f c37 hm
    refine lv_aload_n C.1 C.2.1 dX12_readPart_264 rfl (lv_at hl 0 rfl) ?_
    refine lv_dup C.1 C.2.1 dX12_readPart_265 rfl ?_
    refine fg_2 C h dX12_readPart_266 ?_
    refine lv_iconst (v := Int32.ofInt 1) C.1 C.2.1 dX12_readPart_269 (by decide) ?_
    refine z_iadd C dX12_readPart_270 ?_
    refine fp_2 C h dX12_readPart_271 (fun H locs h => ?_)
    refine lv_aload_n C.1 C.2.1 dX12_readPart_274 rfl (lv_at hl 0 rfl) ?_
    refine fg_44 C h dX12_readPart_275 ?_
    refine lv_iload_n C.1 C.2.1 dX12_readPart_278 rfl (lv_at hl 1 rfl) ?_
    refine lv_iload_n C.1 C.2.1 dX12_readPart_279 rfl (lv_at hl 2 rfl) ?_
    obtain ⟨g38, hm⟩ := grd_s hm
    refine as_72 C h dX12_readPart_280 g38 (fun H locs h => ?_)
    refine lv_aload_n C.1 C.2.1 dX12_readPart_281 rfl (lv_at hl 0 rfl) ?_
    refine fg_43 C h dX12_readPart_282 ?_
    refine lv_iload_n C.1 C.2.1 dX12_readPart_285 rfl (lv_at hl 1 rfl) ?_
    refine lv_aload_n C.1 C.2.1 dX12_readPart_286 rfl (lv_at hl 0 rfl) ?_
    refine lv_iload_n C.1 C.2.1 dX12_readPart_287 rfl (lv_at hl 2 rfl) ?_
    refine lv_bipush (v := Int32.ofInt 91) C.1 C.2.1 dX12_readPart_288 (by decide) ?_
    obtain ⟨g39, hm⟩ := grd_s hm
    refine z_icmp_ne (tgt := 298) C dX12_readPart_290 (by decide) g39 (by decide) (fun c40 => ?_) (fun c40 => ?_)
    · have hm := ite_f c40 hm
      refine lv_iload_n C.1 C.2.1 dX12_readPart_298 rfl (lv_at hl 2 rfl) ?_
      refine lv_bipush (v := Int32.ofInt 60) C.1 C.2.1 dX12_readPart_299 (by decide) ?_
      refine z_icmp_ne (tgt := 309) C dX12_readPart_301 (by decide) g39 (by decide) (fun c41 => ?_) (fun c41 => ?_)
      · have hm := ite_f c41 hm
        refine lv_bipush (v := Int32.ofInt 27) C.1 C.2.1 dX12_readPart_309 (by decide) ?_
        exact lm_readPart_311 (N := N) C hr hlk  (lv_sub hl [0, 1, 2, 3] rfl) h hm
      · have hm := ite_t c41 hm
        refine lv_bipush (v := Int32.ofInt 26) C.1 C.2.1 dX12_readPart_304 (by decide) ?_
        refine lv_goto (tgt := 311) C.1 C.2.1 dX12_readPart_306 (by decide) ?_
        exact lm_readPart_311 (N := N) C hr hlk  (lv_sub hl [0, 1, 2, 3] rfl) h hm
    · have hm := ite_t c40 hm
      refine lv_bipush (v := Int32.ofInt 25) C.1 C.2.1 dX12_readPart_293 (by decide) ?_
      refine lv_goto (tgt := 311) C.1 C.2.1 dX12_readPart_295 (by decide) ?_
      exact lm_readPart_311 (N := N) C hr hlk  (lv_sub hl [0, 1, 2, 3] rfl) h hm
  · have hm := ite_t c37 hm
    cases hm
    exact q_vret C h hr hlk dX12_readPart_263
set_option maxHeartbeats 4000000 in
set_option maxRecDepth 100000 in
theorem rc_readPart (l : Launch) (D : va_G) (k : Nat → ClassId) (g : Nat → Nat) (N : Nat) (σ : St) (x1 : Int) (r : St) (hm : r_readPart N σ x1 = some r) : Mv l yX12_readPart (.code yX12_readPart cX12_readPart 6 none :: rW) { frames := 5, cells := 0, slots := 0, locals := 109 } [.ref (g 0), .int (Int32.ofInt x1)] D (TYs k) (mW k g σ) (fun _ => True) Unit (fun _ => True) (fun _ => mW k g r) 0 0 := by
  intro sz
  refine x_met (cc := cX12_readPart) (maxL := 6) (ret := none) (by decide) rfl (Nat.le_of_ble_eq_true rfl) ?_
  intro p e s m below meth c ls C hX hsz hr hlk hmn hl h
  have hl : lv_has ls 6 [(0, .ref (g 0)), (1, .int (Int32.ofInt x1))] := hl
  rw [r_readPart] at hm
  refine lv_aload_n C.1 C.2.1 dX12_readPart_0 rfl (lv_at hl 0 rfl) ?_
  refine lv_aload_n C.1 C.2.1 dX12_readPart_1 rfl (lv_at hl 0 rfl) ?_
  refine fg_2 C h dX12_readPart_2 ?_
  obtain ⟨r1, e2, hm⟩ := obd_s hm
  refine q_callVi C h (rc_byteAt l D k g N σ (fl σ 2 0) r1 e2) (cwV 1 C.2.2.1 (gR_byteAt _) rfl rfl rfl hd_byteAt ⟨Nat.le_of_ble_eq_true rfl, Nat.le_of_ble_eq_true rfl⟩) rfl hl.1 rfl (Nat.le_of_ble_eq_true rfl) dX12_readPart_5 ⟨Nat.le_of_ble_eq_true rfl, Nat.le_of_ble_eq_true rfl⟩ (fun H locs h => ?_)
  refine lv_istore_n (lv' := [(2, .int (Int32.ofInt r1.2)), (0, .ref (g 0)), (1, .int (Int32.ofInt x1))]) C.1 C.2.1 dX12_readPart_8 rfl hl (by decide) rfl (fun ls hl => ?_)
  refine lv_aload_n C.1 C.2.1 dX12_readPart_9 rfl (lv_at hl 1 rfl) ?_
  refine fg_44 C h dX12_readPart_10 ?_
  refine lv_iload_n C.1 C.2.1 dX12_readPart_13 rfl (lv_at hl 2 rfl) ?_
  obtain ⟨g3, hm⟩ := grd_s hm
  refine al_72 C h dX12_readPart_14 g3 ?_
  obtain ⟨g4, hm⟩ := grd_s hm
  refine z_if_le (tgt := 25) C dX12_readPart_15 (by decide) g4 (fun c5 => ?_) (fun c5 => ?_)
  · have hm := ite_f c5 hm
    refine lv_aload_n C.1 C.2.1 dX12_readPart_25 rfl (lv_at hl 1 rfl) ?_
    refine fg_2 C h dX12_readPart_26 ?_
    refine lv_istore_n (lv' := [(3, .int (Int32.ofInt (fl r1.1 2 0))), (2, .int (Int32.ofInt r1.2)), (0, .ref (g 0)), (1, .int (Int32.ofInt x1))]) C.1 C.2.1 dX12_readPart_29 rfl hl (by decide) rfl (fun ls hl => ?_)
    refine lv_iload_n C.1 C.2.1 dX12_readPart_30 rfl (lv_at hl 1 rfl) ?_
    obtain ⟨r6, e7, hm⟩ := obd_s hm
    refine q_callSi C h (rc_isLow l D k N r1.2 r6 e7) (cwS 1 C.2.2.1 (gR_isLow _) rfl rfl rfl hd_isLow ⟨Nat.le_of_ble_eq_true rfl, Nat.le_of_ble_eq_true rfl⟩) rfl hl.1 rfl (Nat.le_of_ble_eq_true rfl) dX12_readPart_31 ⟨Nat.le_of_ble_eq_true rfl, Nat.le_of_ble_eq_true rfl⟩ (fun H locs h => ?_)
    obtain ⟨g8, hm⟩ := grd_s hm
    refine z_if_eq (tgt := 186) C dX12_readPart_34 (by decide) g8 (fun c9 => ?_) (fun c9 => ?_)
    · have hm := ite_t c9 hm
      refine lv_iload_n C.1 C.2.1 dX12_readPart_186 rfl (lv_at hl 1 rfl) ?_
      obtain ⟨r10, e11, hm⟩ := obd_s hm
      refine q_callSi C h (rc_isDigit l D k N r1.2 r10 e11) (cwS 1 C.2.2.1 (gR_isDigit _) rfl rfl rfl hd_isDigit ⟨Nat.le_of_ble_eq_true rfl, Nat.le_of_ble_eq_true rfl⟩) rfl hl.1 rfl (Nat.le_of_ble_eq_true rfl) dX12_readPart_187 ⟨Nat.le_of_ble_eq_true rfl, Nat.le_of_ble_eq_true rfl⟩ (fun H locs h => ?_)
      obtain ⟨g12, hm⟩ := grd_s hm
      refine z_if_ne (tgt := 199) C dX12_readPart_190 (by decide) g12 (fun c13 => ?_) (fun c13 => ?_)
      · have hm := ite_f c13 hm
        exact lm_readPart_199 (N := N) C hr hlk  (lv_sub hl [2, 1] rfl) h hm
      · have hm := ite_t c13 hm
        refine lv_iload_n C.1 C.2.1 dX12_readPart_193 rfl (lv_at hl 1 rfl) ?_
        refine lv_bipush (v := Int32.ofInt 45) C.1 C.2.1 dX12_readPart_194 (by decide) ?_
        obtain ⟨g14, hm⟩ := grd_s hm
        refine z_icmp_ne (tgt := 207) C dX12_readPart_196 (by decide) g14 (by decide) (fun c15 => ?_) (fun c15 => ?_)
        · have hm := ite_f c15 hm
          refine lv_iload_n C.1 C.2.1 dX12_readPart_207 rfl (lv_at hl 1 rfl) ?_
          refine lv_bipush (v := Int32.ofInt 126) C.1 C.2.1 dX12_readPart_208 (by decide) ?_
          refine z_icmp_ne (tgt := 237) C dX12_readPart_210 (by decide) g14 (by decide) (fun c16 => ?_) (fun c16 => ?_)
          · have hm := ite_f c16 hm
            refine lv_iload_n C.1 C.2.1 dX12_readPart_237 rfl (lv_at hl 1 rfl) ?_
            refine lv_bipush (v := Int32.ofInt 91) C.1 C.2.1 dX12_readPart_238 (by decide) ?_
            refine z_icmp_eq (tgt := 255) C dX12_readPart_240 (by decide) g14 (by decide) (fun c17 => ?_) (fun c17 => ?_)
            · have hm := ite_t c17 hm
              exact lm_readPart_255 (N := N) C hr hlk  (lv_sub hl [2, 3, 1, 0] rfl) h hm
            · have hm := ite_f c17 hm
              refine lv_iload_n C.1 C.2.1 dX12_readPart_243 rfl (lv_at hl 1 rfl) ?_
              refine lv_bipush (v := Int32.ofInt 60) C.1 C.2.1 dX12_readPart_244 (by decide) ?_
              refine z_icmp_eq (tgt := 255) C dX12_readPart_246 (by decide) g14 (by decide) (fun c18 => ?_) (fun c18 => ?_)
              · have hm := ite_t c18 hm
                exact lm_readPart_255 (N := N) C hr hlk  (lv_sub hl [2, 3, 1, 0] rfl) h hm
              · have hm := ite_f c18 hm
                refine lv_iload_n C.1 C.2.1 dX12_readPart_249 rfl (lv_at hl 1 rfl) ?_
                refine lv_bipush (v := Int32.ofInt 123) C.1 C.2.1 dX12_readPart_250 (by decide) ?_
                refine z_icmp_ne (tgt := 344) C dX12_readPart_252 (by decide) g14 (by decide) (fun c19 => ?_) (fun c19 => ?_)
                · have hm := ite_f c19 hm
                  refine lv_aload_n C.1 C.2.1 dX12_readPart_344 rfl (lv_at hl 2 rfl) ?_
                  refine lv_iconst (v := Int32.ofInt 1) C.1 C.2.1 dX12_readPart_345 (by decide) ?_
                  refine lv_aload_n C.1 C.2.1 dX12_readPart_346 rfl (lv_at hl 2 rfl) ?_
                  refine fg_2 C h dX12_readPart_347 ?_
                  obtain ⟨r20, e21, hm⟩ := obd_s hm
                  refine q_callVv C h (rc_fail l D k g N r1.1 1 (fl r1.1 2 0) r20 e21) (cwV 2 C.2.2.1 (gR_fail _) rfl rfl rfl hd_fail ⟨Nat.le_of_ble_eq_true rfl, Nat.le_of_ble_eq_true rfl⟩) rfl hl.1 rfl (Nat.le_of_ble_eq_true rfl) dX12_readPart_350 ⟨Nat.le_of_ble_eq_true rfl, Nat.le_of_ble_eq_true rfl⟩ (fun H locs h => ?_)
                  cases hm
                  exact q_vret C h hr hlk dX12_readPart_353
                · have hm := ite_t c19 hm
                  exact lm_readPart_255 (N := N) C hr hlk  (lv_sub hl [2, 3, 1, 0] rfl) h hm
          · have hm := ite_t c16 hm
            refine lv_aload_n C.1 C.2.1 dX12_readPart_213 rfl (lv_at hl 2 rfl) ?_
            refine lv_dup C.1 C.2.1 dX12_readPart_214 rfl ?_
            refine fg_2 C h dX12_readPart_215 ?_
            refine lv_iconst (v := Int32.ofInt 1) C.1 C.2.1 dX12_readPart_218 (by decide) ?_
            refine z_iadd C dX12_readPart_219 ?_
            refine fp_2 C h dX12_readPart_220 (fun H locs h => ?_)
            refine lv_aload_n C.1 C.2.1 dX12_readPart_223 rfl (lv_at hl 2 rfl) ?_
            refine lv_aload_n C.1 C.2.1 dX12_readPart_224 rfl (lv_at hl 2 rfl) ?_
            refine lv_bipush (v := Int32.ofInt 22) C.1 C.2.1 dX12_readPart_225 (by decide) ?_
            refine lv_iload_n C.1 C.2.1 dX12_readPart_227 rfl (lv_at hl 0 rfl) ?_
            obtain ⟨σ22, e23, hm⟩ := bnd_s hm
            rw [e23] at h
            obtain ⟨r24, e25, hm⟩ := obd_s hm
            refine q_callVi C h (rc_node l D k g N σ22 22 (fl r1.1 2 0) r24 e25) (cwV 2 C.2.2.1 (gR_node _) rfl rfl rfl hd_node ⟨Nat.le_of_ble_eq_true rfl, Nat.le_of_ble_eq_true rfl⟩) rfl hl.1 rfl (Nat.le_of_ble_eq_true rfl) dX12_readPart_228 ⟨Nat.le_of_ble_eq_true rfl, Nat.le_of_ble_eq_true rfl⟩ (fun H locs h => ?_)
            obtain ⟨r26, e27, hm⟩ := obd_s hm
            refine q_callVv C h (rc_finish l D k g N r24.1 r24.2 r26 e27) (cwV 1 C.2.2.1 (gR_finish _) rfl rfl rfl hd_finish ⟨Nat.le_of_ble_eq_true rfl, Nat.le_of_ble_eq_true rfl⟩) rfl hl.1 rfl (Nat.le_of_ble_eq_true rfl) dX12_readPart_231 ⟨Nat.le_of_ble_eq_true rfl, Nat.le_of_ble_eq_true rfl⟩ (fun H locs h => ?_)
            refine lv_goto (tgt := 353) C.1 C.2.1 dX12_readPart_234 (by decide) ?_
            cases hm
            exact q_vret C h hr hlk dX12_readPart_353
        · have hm := ite_t c15 hm
          exact lm_readPart_199 (N := N) C hr hlk  (lv_sub hl [2, 1] rfl) h hm
    · have hm := ite_f c9 hm
      refine lv_aload_n C.1 C.2.1 dX12_readPart_37 rfl (lv_at hl 2 rfl) ?_
      refine lv_bipush (v := Int32.ofInt 20) C.1 C.2.1 dX12_readPart_38 (by decide) ?_
      refine lv_aload_n C.1 C.2.1 dX12_readPart_40 rfl (lv_at hl 2 rfl) ?_
      refine fg_2 C h dX12_readPart_41 ?_
      obtain ⟨r28, e29, hm⟩ := obd_s hm
      refine q_callVi C h (rc_node l D k g N r1.1 20 (fl r1.1 2 0) r28 e29) (cwV 2 C.2.2.1 (gR_node _) rfl rfl rfl hd_node ⟨Nat.le_of_ble_eq_true rfl, Nat.le_of_ble_eq_true rfl⟩) rfl hl.1 rfl (Nat.le_of_ble_eq_true rfl) dX12_readPart_44 ⟨Nat.le_of_ble_eq_true rfl, Nat.le_of_ble_eq_true rfl⟩ (fun H locs h => ?_)
      refine lv_istore (lv' := [(4, .int (Int32.ofInt r28.2)), (3, .int (Int32.ofInt (fl r1.1 2 0))), (2, .int (Int32.ofInt r1.2)), (0, .ref (g 0)), (1, .int (Int32.ofInt x1))]) C.1 C.2.1 dX12_readPart_47 hl (by decide) rfl (fun ls hl => ?_)
      refine lv_iconst (v := Int32.ofInt 0) C.1 C.2.1 dX12_readPart_49 (by decide) ?_
      refine lv_istore (lv' := [(5, .int (Int32.ofInt 0)), (4, .int (Int32.ofInt r28.2)), (3, .int (Int32.ofInt (fl r1.1 2 0))), (2, .int (Int32.ofInt r1.2)), (0, .ref (g 0)), (1, .int (Int32.ofInt x1))]) C.1 C.2.1 dX12_readPart_50 hl (by decide) rfl (fun ls hl => ?_)
      exact lm_readPart_52 (N := N) C hr hlk  N (lv_sub hl [4, 1, 0] rfl) h hm
  · have hm := ite_t c5 hm
    refine lv_aload_n C.1 C.2.1 dX12_readPart_18 rfl (lv_at hl 1 rfl) ?_
    refine lv_iload_n C.1 C.2.1 dX12_readPart_19 rfl (lv_at hl 2 rfl) ?_
    refine lv_iload_n C.1 C.2.1 dX12_readPart_20 rfl (lv_at hl 0 rfl) ?_
    obtain ⟨r30, e31, hm⟩ := obd_s hm
    refine q_callVv C h (rc_endPart l D k g N r1.1 x1 r1.2 r30 e31) (cwV 2 C.2.2.1 (gR_endPart _) rfl rfl rfl hd_endPart ⟨Nat.le_of_ble_eq_true rfl, Nat.le_of_ble_eq_true rfl⟩) rfl hl.1 rfl (Nat.le_of_ble_eq_true rfl) dX12_readPart_21 ⟨Nat.le_of_ble_eq_true rfl, Nat.le_of_ble_eq_true rfl⟩ (fun H locs h => ?_)
    cases hm
    exact q_vret C h hr hlk dX12_readPart_24
end L_readPart
section L_readPiece
variable {p : Program} {l : Launch} {e : Env} {s : State} {m : MethodId} {args : Array Value} {below : List Frame} {meth : Method} {c : Code} {D : va_G} {A : Nat → Prop} {k : Nat → ClassId} {g : Nat → Nat} {N : Nat} {cd : Cond}
set_option maxHeartbeats 4000000 in
set_option maxRecDepth 100000 in
theorem lm_readPiece_207 {r : St} (C : Cx p s m args c cX12_readPiece RX12 (cd :: rW) D (TYs k) 5) (hr : meth.sig.returnType = none) (hlk : meth.locks = false)  {ls : Array Slot} {H : Heap} {locs : List Loc} {σ : St}  (hl : lv_has ls 5 [(0, .ref (g 0))]) (h : Hp D A s.heap H locs (mW k g σ)) (hm : r_readPiece_207 N  σ  = some r) : W p l e { frames := 4, cells := 0, slots := 0, locals := 89 } s m args below meth c H locs 0 0 (MQ below (va_Qv (fun (_ : Unit) => True) (fun _ t => PostW D (TYs k) A (mW k g r) t) A) args s 0 0 A) (F0 m 207 ls []) := by
  rw [r_readPiece_207] at hm
  refine lv_aload_n C.1 C.2.1 dX12_readPiece_207 rfl (lv_at hl 0 rfl) ?_
  refine lv_iconst (v := Int32.ofInt 2) C.1 C.2.1 dX12_readPiece_208 (by decide) ?_
  refine lv_aload_n C.1 C.2.1 dX12_readPiece_209 rfl (lv_at hl 0 rfl) ?_
  refine fg_4 C h dX12_readPiece_210 ?_
  obtain ⟨r60, e61, hm⟩ := obd_s hm
  refine q_callVv C h (rc_fail l D k g N σ 2 (fl σ 4 0) r60 e61) (cwV 2 C.2.2.1 (gR_fail _) rfl rfl rfl hd_fail ⟨Nat.le_of_ble_eq_true rfl, Nat.le_of_ble_eq_true rfl⟩) rfl hl.1 rfl (Nat.le_of_ble_eq_true rfl) dX12_readPiece_213 ⟨Nat.le_of_ble_eq_true rfl, Nat.le_of_ble_eq_true rfl⟩ (fun H locs h => ?_)
  cases hm
  exact q_vret C h hr hlk dX12_readPiece_216
set_option maxHeartbeats 4000000 in
set_option maxRecDepth 100000 in
theorem lm_readPiece_315 {r : St} (C : Cx p s m args c cX12_readPiece RX12 (cd :: rW) D (TYs k) 5) (hr : meth.sig.returnType = none) (hlk : meth.locks = false)  {ls : Array Slot} {H : Heap} {locs : List Loc} {σ : St} {s0 : Int} {s1 : Int} {s2 : Int} (hl : lv_has ls 5 []) (h : Hp D A s.heap H locs (mW k g σ)) (hm : r_readPiece_315 N  σ s0 s1 s2 = some r) : W p l e { frames := 4, cells := 0, slots := 0, locals := 89 } s m args below meth c H locs 0 0 (MQ below (va_Qv (fun (_ : Unit) => True) (fun _ t => PostW D (TYs k) A (mW k g r) t) A) args s 0 0 A) (F0 m 315 ls [.int (Int32.ofInt s0), .int (Int32.ofInt s1), .int (Int32.ofInt s2), .ref (g 0)]) := by
  rw [r_readPiece_315] at hm
  obtain ⟨r79, e80, hm⟩ := obd_s hm
  refine q_callVv C h (rc_begin l D k g N σ s2 s1 s0 r79 e80) (cwV 3 C.2.2.1 (gR_begin _) rfl rfl rfl hd_begin ⟨Nat.le_of_ble_eq_true rfl, Nat.le_of_ble_eq_true rfl⟩) rfl hl.1 rfl (Nat.le_of_ble_eq_true rfl) dX12_readPiece_315 ⟨Nat.le_of_ble_eq_true rfl, Nat.le_of_ble_eq_true rfl⟩ (fun H locs h => ?_)
  refine lv_goto (tgt := 330) C.1 C.2.1 dX12_readPiece_318 (by decide) ?_
  cases hm
  exact q_vret C h hr hlk dX12_readPiece_330
set_option maxHeartbeats 4000000 in
set_option maxRecDepth 100000 in
theorem lm_readPiece_263 {r : St} (C : Cx p s m args c cX12_readPiece RX12 (cd :: rW) D (TYs k) 5) (hr : meth.sig.returnType = none) (hlk : meth.locks = false)  {ls : Array Slot} {H : Heap} {locs : List Loc} {σ : St} {x1 : Int} {x2 : Int} {x3 : Int} {x4 : Int} {s0 : Int} {s1 : Int} (hl : lv_has ls 5 [(0, .ref (g 0)), (1, .int (Int32.ofInt x1)), (2, .int (Int32.ofInt x2)), (3, .int (Int32.ofInt x3)), (4, .int (Int32.ofInt x4))]) (h : Hp D A s.heap H locs (mW k g σ)) (hm : r_readPiece_263 N  σ x1 x2 x3 x4 s0 s1 = some r) : W p l e { frames := 4, cells := 0, slots := 0, locals := 89 } s m args below meth c H locs 0 0 (MQ below (va_Qv (fun (_ : Unit) => True) (fun _ t => PostW D (TYs k) A (mW k g r) t) A) args s 0 0 A) (F0 m 263 ls [.int (Int32.ofInt s0), .int (Int32.ofInt s1), .ref (g 92)]) := by
  rw [r_readPiece_263] at hm
  obtain ⟨g66, hm⟩ := grd_s hm
  refine as_92 C h dX12_readPiece_263 g66 (fun H locs h => ?_)
  refine lv_aload_n C.1 C.2.1 dX12_readPiece_264 rfl (lv_at hl 0 rfl) ?_
  obtain ⟨σ67, e68, hm⟩ := bnd_s hm
  rw [e68] at h
  obtain ⟨r69, e70, hm⟩ := obd_s hm
  refine q_callVv C h (rc_advance l D k g N σ67  r69 e70) (cwV 0 C.2.2.1 (gR_advance _) rfl rfl rfl hd_advance ⟨Nat.le_of_ble_eq_true rfl, Nat.le_of_ble_eq_true rfl⟩) rfl hl.1 rfl (Nat.le_of_ble_eq_true rfl) dX12_readPiece_265 ⟨Nat.le_of_ble_eq_true rfl, Nat.le_of_ble_eq_true rfl⟩ (fun H locs h => ?_)
  refine lv_aload_n C.1 C.2.1 dX12_readPiece_268 rfl (lv_at hl 0 rfl) ?_
  refine fg_43 C h dX12_readPiece_269 ?_
  refine lv_iload_n C.1 C.2.1 dX12_readPiece_272 rfl (lv_at hl 1 rfl) ?_
  refine lv_iload C.1 C.2.1 dX12_readPiece_273 (lv_at hl 4 rfl) ?_
  obtain ⟨g71, hm⟩ := grd_s hm
  refine as_73 C h dX12_readPiece_275 g71 (fun H locs h => ?_)
  refine lv_aload_n C.1 C.2.1 dX12_readPiece_276 rfl (lv_at hl 0 rfl) ?_
  refine fg_44 C h dX12_readPiece_277 ?_
  refine lv_iload_n C.1 C.2.1 dX12_readPiece_280 rfl (lv_at hl 1 rfl) ?_
  refine lv_iconst (v := Int32.ofInt 1) C.1 C.2.1 dX12_readPiece_281 (by decide) ?_
  refine as_72 C h dX12_readPiece_282 g71 (fun H locs h => ?_)
  refine lv_aload_n C.1 C.2.1 dX12_readPiece_283 rfl (lv_at hl 0 rfl) ?_
  refine lv_bipush (v := Int32.ofInt 6) C.1 C.2.1 dX12_readPiece_284 (by decide) ?_
  refine lv_iload C.1 C.2.1 dX12_readPiece_286 (lv_at hl 4 rfl) ?_
  refine lv_iload_n C.1 C.2.1 dX12_readPiece_288 rfl (lv_at hl 3 rfl) ?_
  obtain ⟨g72, hm⟩ := grd_s hm
  refine z_if_lt (tgt := 304) C dX12_readPiece_289 (by decide) g72 (fun c73 => ?_) (fun c73 => ?_)
  · have hm := ite_t c73 hm
    refine lv_aload_n C.1 C.2.1 dX12_readPiece_304 rfl (lv_at hl 0 rfl) ?_
    refine fg_31 C h dX12_readPiece_305 ?_
    refine lv_iload_n C.1 C.2.1 dX12_readPiece_308 rfl (lv_at hl 2 rfl) ?_
    obtain ⟨g74, hm⟩ := grd_s hm
    refine al_81 C h dX12_readPiece_309 g74 ?_
    refine x_topi (y := Int32.ofInt (el r69 81 x2)) rfl ?_
    refine lv_iconst (v := Int32.ofInt 1) C.1 C.2.1 dX12_readPiece_310 (by decide) ?_
    refine z_isub C dX12_readPiece_311 ?_
    obtain ⟨r75, e76, hm⟩ := obd_s hm
    refine q_callSi C h (rc_all l D k N ((el r69 81 x2) - 1) r75 e76) (cwS 1 C.2.2.1 (gR_all _) rfl rfl rfl hd_all ⟨Nat.le_of_ble_eq_true rfl, Nat.le_of_ble_eq_true rfl⟩) rfl hl.1 rfl (Nat.le_of_ble_eq_true rfl) dX12_readPiece_312 ⟨Nat.le_of_ble_eq_true rfl, Nat.le_of_ble_eq_true rfl⟩ (fun H locs h => ?_)
    exact lm_readPiece_315 (N := N) C hr hlk  (lv_sub hl [] rfl) h hm
  · have hm := ite_f c73 hm
    refine lv_aload_n C.1 C.2.1 dX12_readPiece_292 rfl (lv_at hl 0 rfl) ?_
    refine fg_15 C h dX12_readPiece_293 ?_
    refine lv_iload_n C.1 C.2.1 dX12_readPiece_296 rfl (lv_at hl 3 rfl) ?_
    obtain ⟨g77, hm⟩ := grd_s hm
    refine al_95 C h dX12_readPiece_297 g77 ?_
    refine x_topi (y := Int32.ofInt (el r69 95 x3)) rfl ?_
    refine lv_bipush (v := Int32.ofInt 10) C.1 C.2.1 dX12_readPiece_298 (by decide) ?_
    obtain ⟨g78, hm⟩ := grd_s hm
    refine z_idiv C dX12_readPiece_300 g78 (by decide) (by decide) ?_
    refine lv_goto (tgt := 315) C.1 C.2.1 dX12_readPiece_301 (by decide) ?_
    exact lm_readPiece_315 (N := N) C hr hlk  (lv_sub hl [] rfl) h hm
set_option maxHeartbeats 4000000 in
set_option maxRecDepth 100000 in
theorem lm_readPiece_239 {r : St} (C : Cx p s m args c cX12_readPiece RX12 (cd :: rW) D (TYs k) 5) (hr : meth.sig.returnType = none) (hlk : meth.locks = false)  {ls : Array Slot} {H : Heap} {locs : List Loc} {σ : St} {x1 : Int} {x2 : Int} {x3 : Int} {s0 : Int} (hl : lv_has ls 5 [(0, .ref (g 0)), (1, .int (Int32.ofInt x1)), (2, .int (Int32.ofInt x2)), (3, .int (Int32.ofInt x3))]) (h : Hp D A s.heap H locs (mW k g σ)) (hm : r_readPiece_239 N  σ x1 x2 x3 s0 = some r) : W p l e { frames := 4, cells := 0, slots := 0, locals := 89 } s m args below meth c H locs 0 0 (MQ below (va_Qv (fun (_ : Unit) => True) (fun _ t => PostW D (TYs k) A (mW k g r) t) A) args s 0 0 A) (F0 m 239 ls [.int (Int32.ofInt s0), .ref (g 0)]) := by
  rw [r_readPiece_239] at hm
  refine lv_aload_n C.1 C.2.1 dX12_readPiece_239 rfl (lv_at hl 0 rfl) ?_
  refine fg_4 C h dX12_readPiece_240 ?_
  obtain ⟨r62, e63, hm⟩ := obd_s hm
  refine q_callVi C h (rc_node l D k g N σ s0 (fl σ 4 0) r62 e63) (cwV 2 C.2.2.1 (gR_node _) rfl rfl rfl hd_node ⟨Nat.le_of_ble_eq_true rfl, Nat.le_of_ble_eq_true rfl⟩) rfl hl.1 rfl (Nat.le_of_ble_eq_true rfl) dX12_readPiece_243 ⟨Nat.le_of_ble_eq_true rfl, Nat.le_of_ble_eq_true rfl⟩ (fun H locs h => ?_)
  refine lv_istore (lv' := [(4, .int (Int32.ofInt r62.2)), (0, .ref (g 0)), (1, .int (Int32.ofInt x1)), (2, .int (Int32.ofInt x2)), (3, .int (Int32.ofInt x3))]) C.1 C.2.1 dX12_readPiece_246 hl (by decide) rfl (fun ls hl => ?_)
  refine lv_aload_n C.1 C.2.1 dX12_readPiece_248 rfl (lv_at hl 1 rfl) ?_
  refine fg_19 C h dX12_readPiece_249 ?_
  refine lv_iload C.1 C.2.1 dX12_readPiece_252 (lv_at hl 0 rfl) ?_
  refine lv_iload_n C.1 C.2.1 dX12_readPiece_254 rfl (lv_at hl 4 rfl) ?_
  obtain ⟨g64, hm⟩ := grd_s hm
  refine z_if_lt (tgt := 262) C dX12_readPiece_255 (by decide) g64 (fun c65 => ?_) (fun c65 => ?_)
  · have hm := ite_t c65 hm
    refine lv_iload_n C.1 C.2.1 dX12_readPiece_262 rfl (lv_at hl 3 rfl) ?_
    exact lm_readPiece_263 (N := N) C hr hlk  (lv_sub hl [1, 2, 3, 4, 0] rfl) h hm
  · have hm := ite_f c65 hm
    refine lv_iload_n C.1 C.2.1 dX12_readPiece_258 rfl (lv_at hl 4 rfl) ?_
    refine lv_goto (tgt := 263) C.1 C.2.1 dX12_readPiece_259 (by decide) ?_
    exact lm_readPiece_263 (N := N) C hr hlk  (lv_sub hl [1, 2, 3, 4, 0] rfl) h hm
set_option maxHeartbeats 4000000 in
set_option maxRecDepth 100000 in
theorem lm_readPiece_217 {r : St} (C : Cx p s m args c cX12_readPiece RX12 (cd :: rW) D (TYs k) 5) (hr : meth.sig.returnType = none) (hlk : meth.locks = false)  {ls : Array Slot} {H : Heap} {locs : List Loc} {σ : St} {x1 : Int} {x2 : Int} {x3 : Int} (hl : lv_has ls 5 [(0, .ref (g 0)), (1, .int (Int32.ofInt x1)), (2, .int (Int32.ofInt x2)), (3, .int (Int32.ofInt x3))]) (h : Hp D A s.heap H locs (mW k g σ)) (hm : r_readPiece_217 N  σ x1 x2 x3 = some r) : W p l e { frames := 4, cells := 0, slots := 0, locals := 89 } s m args below meth c H locs 0 0 (MQ below (va_Qv (fun (_ : Unit) => True) (fun _ t => PostW D (TYs k) A (mW k g r) t) A) args s 0 0 A) (F0 m 217 ls []) := by
  rw [r_readPiece_217] at hm
  refine lv_aload_n C.1 C.2.1 dX12_readPiece_217 rfl (lv_at hl 0 rfl) ?_
  refine lv_iload_n C.1 C.2.1 dX12_readPiece_218 rfl (lv_at hl 3 rfl) ?_
  refine lv_iconst (v := Int32.ofInt 4) C.1 C.2.1 dX12_readPiece_219 (by decide) ?_
  obtain ⟨g57, hm⟩ := grd_s hm
  refine z_icmp_ne (tgt := 228) C dX12_readPiece_220 (by decide) g57 (by decide) (fun c58 => ?_) (fun c58 => ?_)
  · have hm := ite_f c58 hm
    refine lv_iload_n C.1 C.2.1 dX12_readPiece_228 rfl (lv_at hl 3 rfl) ?_
    refine z_if_lt (tgt := 237) C dX12_readPiece_229 (by decide) g57 (fun c59 => ?_) (fun c59 => ?_)
    · have hm := ite_t c59 hm
      refine lv_bipush (v := Int32.ofInt 10) C.1 C.2.1 dX12_readPiece_237 (by decide) ?_
      exact lm_readPiece_239 (N := N) C hr hlk  (lv_sub hl [0, 1, 2, 3] rfl) h hm
    · have hm := ite_f c59 hm
      refine lv_bipush (v := Int32.ofInt 13) C.1 C.2.1 dX12_readPiece_232 (by decide) ?_
      refine lv_goto (tgt := 239) C.1 C.2.1 dX12_readPiece_234 (by decide) ?_
      exact lm_readPiece_239 (N := N) C hr hlk  (lv_sub hl [0, 1, 2, 3] rfl) h hm
  · have hm := ite_t c58 hm
    refine lv_bipush (v := Int32.ofInt 9) C.1 C.2.1 dX12_readPiece_223 (by decide) ?_
    refine lv_goto (tgt := 239) C.1 C.2.1 dX12_readPiece_225 (by decide) ?_
    exact lm_readPiece_239 (N := N) C hr hlk  (lv_sub hl [0, 1, 2, 3] rfl) h hm
set_option maxHeartbeats 4000000 in
set_option maxRecDepth 100000 in
theorem lm_readPiece_187 {r : St} (C : Cx p s m args c cX12_readPiece RX12 (cd :: rW) D (TYs k) 5) (hr : meth.sig.returnType = none) (hlk : meth.locks = false)  {ls : Array Slot} {H : Heap} {locs : List Loc} {σ : St} {x1 : Int} {x2 : Int} {s0 : Int} (hl : lv_has ls 5 [(0, .ref (g 0)), (1, .int (Int32.ofInt x1)), (2, .int (Int32.ofInt x2))]) (h : Hp D A s.heap H locs (mW k g σ)) (hm : r_readPiece_187 N  σ x1 x2 s0 = some r) : W p l e { frames := 4, cells := 0, slots := 0, locals := 89 } s m args below meth c H locs 0 0 (MQ below (va_Qv (fun (_ : Unit) => True) (fun _ t => PostW D (TYs k) A (mW k g r) t) A) args s 0 0 A) (F0 m 187 ls [.int (Int32.ofInt s0)]) := by
  rw [r_readPiece_187] at hm
  refine lv_istore_n (lv' := [(3, .int (Int32.ofInt s0)), (0, .ref (g 0)), (1, .int (Int32.ofInt x1)), (2, .int (Int32.ofInt x2))]) C.1 C.2.1 dX12_readPiece_187 rfl hl (by decide) rfl (fun ls hl => ?_)
  refine lv_iload_n C.1 C.2.1 dX12_readPiece_188 rfl (lv_at hl 0 rfl) ?_
  refine lv_iconst (v := Int32.ofInt (-1)) C.1 C.2.1 dX12_readPiece_189 (by decide) ?_
  obtain ⟨g50, hm⟩ := grd_s hm
  refine z_icmp_ne (tgt := 217) C dX12_readPiece_190 (by decide) g50 (by decide) (fun c51 => ?_) (fun c51 => ?_)
  · have hm := ite_f c51 hm
    exact lm_readPiece_217 (N := N) C hr hlk  (lv_sub hl [1, 2, 3, 0] rfl) h hm
  · have hm := ite_t c51 hm
    refine lv_iload_n C.1 C.2.1 dX12_readPiece_193 rfl (lv_at hl 3 rfl) ?_
    refine lv_iconst (v := Int32.ofInt (-1)) C.1 C.2.1 dX12_readPiece_194 (by decide) ?_
    obtain ⟨g52, hm⟩ := grd_s hm
    refine z_icmp_eq (tgt := 207) C dX12_readPiece_195 (by decide) g52 (by decide) (fun c53 => ?_) (fun c53 => ?_)
    · have hm := ite_t c53 hm
      exact lm_readPiece_207 (N := N) C hr hlk  (lv_sub hl [1] rfl) h hm
    · have hm := ite_f c53 hm
      refine lv_aload_n C.1 C.2.1 dX12_readPiece_198 rfl (lv_at hl 1 rfl) ?_
      refine fg_31 C h dX12_readPiece_199 ?_
      refine lv_iload_n C.1 C.2.1 dX12_readPiece_202 rfl (lv_at hl 3 rfl) ?_
      obtain ⟨g54, hm⟩ := grd_s hm
      refine al_81 C h dX12_readPiece_203 g54 ?_
      obtain ⟨g55, hm⟩ := grd_s hm
      refine z_if_ne (tgt := 217) C dX12_readPiece_204 (by decide) g55 (fun c56 => ?_) (fun c56 => ?_)
      · have hm := ite_f c56 hm
        exact lm_readPiece_217 (N := N) C hr hlk  (lv_sub hl [1, 2, 3, 0] rfl) h hm
      · have hm := ite_t c56 hm
        exact lm_readPiece_207 (N := N) C hr hlk  (lv_sub hl [1] rfl) h hm
set_option maxHeartbeats 4000000 in
set_option maxRecDepth 100000 in
theorem lm_readPiece_170 {r : St} (C : Cx p s m args c cX12_readPiece RX12 (cd :: rW) D (TYs k) 5) (hr : meth.sig.returnType = none) (hlk : meth.locks = false)  {ls : Array Slot} {H : Heap} {locs : List Loc} {σ : St} {x1 : Int} {s0 : Int} (hl : lv_has ls 5 [(0, .ref (g 0)), (1, .int (Int32.ofInt x1))]) (h : Hp D A s.heap H locs (mW k g σ)) (hm : r_readPiece_170 N  σ x1 s0 = some r) : W p l e { frames := 4, cells := 0, slots := 0, locals := 89 } s m args below meth c H locs 0 0 (MQ below (va_Qv (fun (_ : Unit) => True) (fun _ t => PostW D (TYs k) A (mW k g r) t) A) args s 0 0 A) (F0 m 170 ls [.int (Int32.ofInt s0)]) := by
  rw [r_readPiece_170] at hm
  refine lv_istore_n (lv' := [(2, .int (Int32.ofInt s0)), (0, .ref (g 0)), (1, .int (Int32.ofInt x1))]) C.1 C.2.1 dX12_readPiece_170 rfl hl (by decide) rfl (fun ls hl => ?_)
  refine lv_aload_n C.1 C.2.1 dX12_readPiece_171 rfl (lv_at hl 1 rfl) ?_
  obtain ⟨r44, e45, hm⟩ := obd_s hm
  refine q_callVi C h (rc_paramHere l D k g N σ  r44 e45) (cwV 0 C.2.2.1 (gR_paramHere _) rfl rfl rfl hd_paramHere ⟨Nat.le_of_ble_eq_true rfl, Nat.le_of_ble_eq_true rfl⟩) rfl hl.1 rfl (Nat.le_of_ble_eq_true rfl) dX12_readPiece_172 ⟨Nat.le_of_ble_eq_true rfl, Nat.le_of_ble_eq_true rfl⟩ (fun H locs h => ?_)
  refine lv_iconst (v := Int32.ofInt (-1)) C.1 C.2.1 dX12_readPiece_175 (by decide) ?_
  obtain ⟨g46, hm⟩ := grd_s hm
  refine z_icmp_ne (tgt := 186) C dX12_readPiece_176 (by decide) g46 (by decide) (fun c47 => ?_) (fun c47 => ?_)
  · have hm := ite_f c47 hm
    refine lv_iconst (v := Int32.ofInt (-1)) C.1 C.2.1 dX12_readPiece_186 (by decide) ?_
    exact lm_readPiece_187 (N := N) C hr hlk  (lv_sub hl [1, 2, 0] rfl) h hm
  · have hm := ite_t c47 hm
    refine lv_aload_n C.1 C.2.1 dX12_readPiece_179 rfl (lv_at hl 1 rfl) ?_
    obtain ⟨r48, e49, hm⟩ := obd_s hm
    refine q_callVi C h (rc_functionHere l D k g N r44.1  r48 e49) (cwV 0 C.2.2.1 (gR_functionHere _) rfl rfl rfl hd_functionHere ⟨Nat.le_of_ble_eq_true rfl, Nat.le_of_ble_eq_true rfl⟩) rfl hl.1 rfl (Nat.le_of_ble_eq_true rfl) dX12_readPiece_180 ⟨Nat.le_of_ble_eq_true rfl, Nat.le_of_ble_eq_true rfl⟩ (fun H locs h => ?_)
    refine lv_goto (tgt := 187) C.1 C.2.1 dX12_readPiece_183 (by decide) ?_
    exact lm_readPiece_187 (N := N) C hr hlk  (lv_sub hl [1, 2, 0] rfl) h hm
set_option maxHeartbeats 4000000 in
set_option maxRecDepth 100000 in
theorem rc_readPiece (l : Launch) (D : va_G) (k : Nat → ClassId) (g : Nat → Nat) (N : Nat) (σ : St) (x1 : Int) (r : St) (hm : r_readPiece N σ x1 = some r) : Mv l yX12_readPiece (.code yX12_readPiece cX12_readPiece 5 none :: rW) { frames := 4, cells := 0, slots := 0, locals := 89 } [.ref (g 0), .int (Int32.ofInt x1)] D (TYs k) (mW k g σ) (fun _ => True) Unit (fun _ => True) (fun _ => mW k g r) 0 0 := by
  intro sz
  refine x_met (cc := cX12_readPiece) (maxL := 5) (ret := none) (by decide) rfl (Nat.le_of_ble_eq_true rfl) ?_
  intro p e s m below meth c ls C hX hsz hr hlk hmn hl h
  have hl : lv_has ls 5 [(0, .ref (g 0)), (1, .int (Int32.ofInt x1))] := hl
  rw [r_readPiece] at hm
  refine lv_aload_n C.1 C.2.1 dX12_readPiece_0 rfl (lv_at hl 0 rfl) ?_
  refine fg_44 C h dX12_readPiece_1 ?_
  refine lv_iload_n C.1 C.2.1 dX12_readPiece_4 rfl (lv_at hl 1 rfl) ?_
  obtain ⟨g1, hm⟩ := grd_s hm
  refine al_72 C h dX12_readPiece_5 g1 ?_
  refine lv_iconst (v := Int32.ofInt 1) C.1 C.2.1 dX12_readPiece_6 (by decide) ?_
  obtain ⟨g2, hm⟩ := grd_s hm
  refine z_icmp_ne (tgt := 23) C dX12_readPiece_7 (by decide) g2 (by decide) (fun c3 => ?_) (fun c3 => ?_)
  · have hm := ite_f c3 hm
    refine lv_aload_n C.1 C.2.1 dX12_readPiece_23 rfl (lv_at hl 0 rfl) ?_
    refine fg_44 C h dX12_readPiece_24 ?_
    refine lv_iload_n C.1 C.2.1 dX12_readPiece_27 rfl (lv_at hl 1 rfl) ?_
    refine al_72 C h dX12_readPiece_28 g1 ?_
    refine lv_iconst (v := Int32.ofInt 2) C.1 C.2.1 dX12_readPiece_29 (by decide) ?_
    refine z_icmp_ne (tgt := 60) C dX12_readPiece_30 (by decide) g2 (by decide) (fun c4 => ?_) (fun c4 => ?_)
    · have hm := ite_f c4 hm
      refine lv_aload_n C.1 C.2.1 dX12_readPiece_60 rfl (lv_at hl 0 rfl) ?_
      refine lv_bipush (v := Int32.ofInt 40) C.1 C.2.1 dX12_readPiece_61 (by decide) ?_
      obtain ⟨r5, e6, hm⟩ := obd_s hm
      refine q_callVi C h (rc_isSign l D k g N σ 40 r5 e6) (cwV 1 C.2.2.1 (gR_isSign _) rfl rfl rfl hd_isSign ⟨Nat.le_of_ble_eq_true rfl, Nat.le_of_ble_eq_true rfl⟩) rfl hl.1 rfl (Nat.le_of_ble_eq_true rfl) dX12_readPiece_63 ⟨Nat.le_of_ble_eq_true rfl, Nat.le_of_ble_eq_true rfl⟩ (fun H locs h => ?_)
      obtain ⟨g7, hm⟩ := grd_s hm
      refine z_if_eq (tgt := 90) C dX12_readPiece_66 (by decide) g7 (fun c8 => ?_) (fun c8 => ?_)
      · have hm := ite_t c8 hm
        refine lv_aload_n C.1 C.2.1 dX12_readPiece_90 rfl (lv_at hl 0 rfl) ?_
        obtain ⟨r9, e10, hm⟩ := obd_s hm
        refine q_callVi C h (rc_isOpToken l D k g N r5.1  r9 e10) (cwV 0 C.2.2.1 (gR_isOpToken _) rfl rfl rfl hd_isOpToken ⟨Nat.le_of_ble_eq_true rfl, Nat.le_of_ble_eq_true rfl⟩) rfl hl.1 rfl (Nat.le_of_ble_eq_true rfl) dX12_readPiece_91 ⟨Nat.le_of_ble_eq_true rfl, Nat.le_of_ble_eq_true rfl⟩ (fun H locs h => ?_)
        obtain ⟨g11, hm⟩ := grd_s hm
        refine z_if_eq (tgt := 146) C dX12_readPiece_94 (by decide) g11 (fun c12 => ?_) (fun c12 => ?_)
        · have hm := ite_t c12 hm
          refine lv_aload_n C.1 C.2.1 dX12_readPiece_146 rfl (lv_at hl 0 rfl) ?_
          refine fg_3 C h dX12_readPiece_147 ?_
          refine lv_iconst (v := Int32.ofInt 2) C.1 C.2.1 dX12_readPiece_150 (by decide) ?_
          obtain ⟨g13, hm⟩ := grd_s hm
          refine z_icmp_ne (tgt := 321) C dX12_readPiece_151 (by decide) g13 (by decide) (fun c14 => ?_) (fun c14 => ?_)
          · have hm := ite_f c14 hm
            refine lv_aload_n C.1 C.2.1 dX12_readPiece_321 rfl (lv_at hl 0 rfl) ?_
            refine lv_iconst (v := Int32.ofInt 1) C.1 C.2.1 dX12_readPiece_322 (by decide) ?_
            refine lv_aload_n C.1 C.2.1 dX12_readPiece_323 rfl (lv_at hl 0 rfl) ?_
            refine fg_4 C h dX12_readPiece_324 ?_
            obtain ⟨r15, e16, hm⟩ := obd_s hm
            refine q_callVv C h (rc_fail l D k g N r9.1 1 (fl r9.1 4 0) r15 e16) (cwV 2 C.2.2.1 (gR_fail _) rfl rfl rfl hd_fail ⟨Nat.le_of_ble_eq_true rfl, Nat.le_of_ble_eq_true rfl⟩) rfl hl.1 rfl (Nat.le_of_ble_eq_true rfl) dX12_readPiece_327 ⟨Nat.le_of_ble_eq_true rfl, Nat.le_of_ble_eq_true rfl⟩ (fun H locs h => ?_)
            cases hm
            exact q_vret C h hr hlk dX12_readPiece_330
          · have hm := ite_t c14 hm
            refine lv_aload_n C.1 C.2.1 dX12_readPiece_154 rfl (lv_at hl 0 rfl) ?_
            obtain ⟨r17, e18, hm⟩ := obd_s hm
            refine q_callVi C h (rc_paramHere l D k g N r9.1  r17 e18) (cwV 0 C.2.2.1 (gR_paramHere _) rfl rfl rfl hd_paramHere ⟨Nat.le_of_ble_eq_true rfl, Nat.le_of_ble_eq_true rfl⟩) rfl hl.1 rfl (Nat.le_of_ble_eq_true rfl) dX12_readPiece_155 ⟨Nat.le_of_ble_eq_true rfl, Nat.le_of_ble_eq_true rfl⟩ (fun H locs h => ?_)
            refine lv_iconst (v := Int32.ofInt (-1)) C.1 C.2.1 dX12_readPiece_158 (by decide) ?_
            obtain ⟨g19, hm⟩ := grd_s hm
            refine z_icmp_ne (tgt := 169) C dX12_readPiece_159 (by decide) g19 (by decide) (fun c20 => ?_) (fun c20 => ?_)
            · have hm := ite_f c20 hm
              refine lv_iconst (v := Int32.ofInt (-1)) C.1 C.2.1 dX12_readPiece_169 (by decide) ?_
              exact lm_readPiece_170 (N := N) C hr hlk  (lv_sub hl [0, 1] rfl) h hm
            · have hm := ite_t c20 hm
              refine lv_aload_n C.1 C.2.1 dX12_readPiece_162 rfl (lv_at hl 0 rfl) ?_
              obtain ⟨r21, e22, hm⟩ := obd_s hm
              refine q_callVi C h (rc_definitionHere l D k g N r17.1  r21 e22) (cwV 0 C.2.2.1 (gR_definitionHere _) rfl rfl rfl hd_definitionHere ⟨Nat.le_of_ble_eq_true rfl, Nat.le_of_ble_eq_true rfl⟩) rfl hl.1 rfl (Nat.le_of_ble_eq_true rfl) dX12_readPiece_163 ⟨Nat.le_of_ble_eq_true rfl, Nat.le_of_ble_eq_true rfl⟩ (fun H locs h => ?_)
              refine lv_goto (tgt := 170) C.1 C.2.1 dX12_readPiece_166 (by decide) ?_
              exact lm_readPiece_170 (N := N) C hr hlk  (lv_sub hl [0, 1] rfl) h hm
        · have hm := ite_f c12 hm
          refine lv_aload_n C.1 C.2.1 dX12_readPiece_97 rfl (lv_at hl 0 rfl) ?_
          refine lv_bipush (v := Int32.ofInt 12) C.1 C.2.1 dX12_readPiece_98 (by decide) ?_
          refine lv_aload_n C.1 C.2.1 dX12_readPiece_100 rfl (lv_at hl 0 rfl) ?_
          refine fg_4 C h dX12_readPiece_101 ?_
          obtain ⟨r23, e24, hm⟩ := obd_s hm
          refine q_callVi C h (rc_node l D k g N r9.1 12 (fl r9.1 4 0) r23 e24) (cwV 2 C.2.2.1 (gR_node _) rfl rfl rfl hd_node ⟨Nat.le_of_ble_eq_true rfl, Nat.le_of_ble_eq_true rfl⟩) rfl hl.1 rfl (Nat.le_of_ble_eq_true rfl) dX12_readPiece_104 ⟨Nat.le_of_ble_eq_true rfl, Nat.le_of_ble_eq_true rfl⟩ (fun H locs h => ?_)
          refine lv_istore_n (lv' := [(2, .int (Int32.ofInt r23.2)), (0, .ref (g 0)), (1, .int (Int32.ofInt x1))]) C.1 C.2.1 dX12_readPiece_107 rfl hl (by decide) rfl (fun ls hl => ?_)
          refine lv_aload_n C.1 C.2.1 dX12_readPiece_108 rfl (lv_at hl 1 rfl) ?_
          refine fg_19 C h dX12_readPiece_109 ?_
          refine lv_iload_n C.1 C.2.1 dX12_readPiece_112 rfl (lv_at hl 0 rfl) ?_
          refine lv_aload_n C.1 C.2.1 dX12_readPiece_113 rfl (lv_at hl 1 rfl) ?_
          refine fg_6 C h dX12_readPiece_114 ?_
          obtain ⟨g25, hm⟩ := grd_s hm
          refine as_92 C h dX12_readPiece_117 g25 (fun H locs h => ?_)
          refine lv_aload_n C.1 C.2.1 dX12_readPiece_118 rfl (lv_at hl 1 rfl) ?_
          obtain ⟨σ26, e27, hm⟩ := bnd_s hm
          rw [e27] at h
          obtain ⟨r28, e29, hm⟩ := obd_s hm
          refine q_callVv C h (rc_advance l D k g N σ26  r28 e29) (cwV 0 C.2.2.1 (gR_advance _) rfl rfl rfl hd_advance ⟨Nat.le_of_ble_eq_true rfl, Nat.le_of_ble_eq_true rfl⟩) rfl hl.1 rfl (Nat.le_of_ble_eq_true rfl) dX12_readPiece_119 ⟨Nat.le_of_ble_eq_true rfl, Nat.le_of_ble_eq_true rfl⟩ (fun H locs h => ?_)
          refine lv_aload_n C.1 C.2.1 dX12_readPiece_122 rfl (lv_at hl 1 rfl) ?_
          refine fg_43 C h dX12_readPiece_123 ?_
          refine lv_iload_n C.1 C.2.1 dX12_readPiece_126 rfl (lv_at hl 2 rfl) ?_
          refine lv_iload_n C.1 C.2.1 dX12_readPiece_127 rfl (lv_at hl 0 rfl) ?_
          refine as_73 C h dX12_readPiece_128 g1 (fun H locs h => ?_)
          refine lv_aload_n C.1 C.2.1 dX12_readPiece_129 rfl (lv_at hl 1 rfl) ?_
          refine fg_44 C h dX12_readPiece_130 ?_
          refine lv_iload_n C.1 C.2.1 dX12_readPiece_133 rfl (lv_at hl 2 rfl) ?_
          refine lv_iconst (v := Int32.ofInt 2) C.1 C.2.1 dX12_readPiece_134 (by decide) ?_
          refine as_72 C h dX12_readPiece_135 g1 (fun H locs h => ?_)
          refine lv_aload_n C.1 C.2.1 dX12_readPiece_136 rfl (lv_at hl 1 rfl) ?_
          refine lv_iconst (v := Int32.ofInt 5) C.1 C.2.1 dX12_readPiece_137 (by decide) ?_
          refine lv_iconst (v := Int32.ofInt (-1)) C.1 C.2.1 dX12_readPiece_138 (by decide) ?_
          refine lv_iconst (v := Int32.ofInt 0) C.1 C.2.1 dX12_readPiece_139 (by decide) ?_
          obtain ⟨σ30, e31, hm⟩ := bnd_s hm
          rw [e31] at h
          obtain ⟨r32, e33, hm⟩ := obd_s hm
          refine q_callVv C h (rc_begin l D k g N σ30 5 (-1) 0 r32 e33) (cwV 3 C.2.2.1 (gR_begin _) rfl rfl rfl hd_begin ⟨Nat.le_of_ble_eq_true rfl, Nat.le_of_ble_eq_true rfl⟩) rfl hl.1 rfl (Nat.le_of_ble_eq_true rfl) dX12_readPiece_140 ⟨Nat.le_of_ble_eq_true rfl, Nat.le_of_ble_eq_true rfl⟩ (fun H locs h => ?_)
          refine lv_goto (tgt := 330) C.1 C.2.1 dX12_readPiece_143 (by decide) ?_
          cases hm
          exact q_vret C h hr hlk dX12_readPiece_330
      · have hm := ite_f c8 hm
        refine lv_aload_n C.1 C.2.1 dX12_readPiece_69 rfl (lv_at hl 0 rfl) ?_
        refine lv_dup C.1 C.2.1 dX12_readPiece_70 rfl ?_
        refine fg_41 C h dX12_readPiece_71 ?_
        refine lv_iconst (v := Int32.ofInt 1) C.1 C.2.1 dX12_readPiece_74 (by decide) ?_
        refine z_isub C dX12_readPiece_75 ?_
        refine fp_41 C h dX12_readPiece_76 (fun H locs h => ?_)
        refine lv_aload_n C.1 C.2.1 dX12_readPiece_79 rfl (lv_at hl 0 rfl) ?_
        refine lv_bipush (v := Int32.ofInt 8) C.1 C.2.1 dX12_readPiece_80 (by decide) ?_
        refine lv_iconst (v := Int32.ofInt (-1)) C.1 C.2.1 dX12_readPiece_82 (by decide) ?_
        refine lv_iconst (v := Int32.ofInt 0) C.1 C.2.1 dX12_readPiece_83 (by decide) ?_
        obtain ⟨σ34, e35, hm⟩ := bnd_s hm
        rw [e35] at h
        obtain ⟨r36, e37, hm⟩ := obd_s hm
        refine q_callVv C h (rc_begin l D k g N σ34 8 (-1) 0 r36 e37) (cwV 3 C.2.2.1 (gR_begin _) rfl rfl rfl hd_begin ⟨Nat.le_of_ble_eq_true rfl, Nat.le_of_ble_eq_true rfl⟩) rfl hl.1 rfl (Nat.le_of_ble_eq_true rfl) dX12_readPiece_84 ⟨Nat.le_of_ble_eq_true rfl, Nat.le_of_ble_eq_true rfl⟩ (fun H locs h => ?_)
        refine lv_goto (tgt := 330) C.1 C.2.1 dX12_readPiece_87 (by decide) ?_
        cases hm
        exact q_vret C h hr hlk dX12_readPiece_330
    · have hm := ite_t c4 hm
      refine lv_aload_n C.1 C.2.1 dX12_readPiece_33 rfl (lv_at hl 0 rfl) ?_
      refine lv_aload_n C.1 C.2.1 dX12_readPiece_34 rfl (lv_at hl 0 rfl) ?_
      refine fg_43 C h dX12_readPiece_35 ?_
      refine lv_iload_n C.1 C.2.1 dX12_readPiece_38 rfl (lv_at hl 1 rfl) ?_
      refine al_73 C h dX12_readPiece_39 g1 ?_
      refine lv_aload_n C.1 C.2.1 dX12_readPiece_40 rfl (lv_at hl 0 rfl) ?_
      refine fg_46 C h dX12_readPiece_41 ?_
      obtain ⟨r38, e39, hm⟩ := obd_s hm
      refine q_callVv C h (rc_append l D k g N σ (el σ 73 x1) (fl σ 46 0) r38 e39) (cwV 2 C.2.2.1 (gR_append _) rfl rfl rfl hd_append ⟨Nat.le_of_ble_eq_true rfl, Nat.le_of_ble_eq_true rfl⟩) rfl hl.1 rfl (Nat.le_of_ble_eq_true rfl) dX12_readPiece_44 ⟨Nat.le_of_ble_eq_true rfl, Nat.le_of_ble_eq_true rfl⟩ (fun H locs h => ?_)
      refine lv_aload_n C.1 C.2.1 dX12_readPiece_47 rfl (lv_at hl 0 rfl) ?_
      refine lv_aload_n C.1 C.2.1 dX12_readPiece_48 rfl (lv_at hl 0 rfl) ?_
      refine fg_43 C h dX12_readPiece_49 ?_
      refine lv_iload_n C.1 C.2.1 dX12_readPiece_52 rfl (lv_at hl 1 rfl) ?_
      refine al_73 C h dX12_readPiece_53 g1 ?_
      obtain ⟨r40, e41, hm⟩ := obd_s hm
      refine q_callVv C h (rc_finish l D k g N r38 (el r38 73 x1) r40 e41) (cwV 1 C.2.2.1 (gR_finish _) rfl rfl rfl hd_finish ⟨Nat.le_of_ble_eq_true rfl, Nat.le_of_ble_eq_true rfl⟩) rfl hl.1 rfl (Nat.le_of_ble_eq_true rfl) dX12_readPiece_54 ⟨Nat.le_of_ble_eq_true rfl, Nat.le_of_ble_eq_true rfl⟩ (fun H locs h => ?_)
      refine lv_goto (tgt := 330) C.1 C.2.1 dX12_readPiece_57 (by decide) ?_
      cases hm
      exact q_vret C h hr hlk dX12_readPiece_330
  · have hm := ite_t c3 hm
    refine lv_aload_n C.1 C.2.1 dX12_readPiece_10 rfl (lv_at hl 0 rfl) ?_
    refine lv_aload_n C.1 C.2.1 dX12_readPiece_11 rfl (lv_at hl 0 rfl) ?_
    refine fg_43 C h dX12_readPiece_12 ?_
    refine lv_iload_n C.1 C.2.1 dX12_readPiece_15 rfl (lv_at hl 1 rfl) ?_
    refine al_73 C h dX12_readPiece_16 g1 ?_
    obtain ⟨r42, e43, hm⟩ := obd_s hm
    refine q_callVv C h (rc_finish l D k g N σ (el σ 73 x1) r42 e43) (cwV 1 C.2.2.1 (gR_finish _) rfl rfl rfl hd_finish ⟨Nat.le_of_ble_eq_true rfl, Nat.le_of_ble_eq_true rfl⟩) rfl hl.1 rfl (Nat.le_of_ble_eq_true rfl) dX12_readPiece_17 ⟨Nat.le_of_ble_eq_true rfl, Nat.le_of_ble_eq_true rfl⟩ (fun H locs h => ?_)
    refine lv_goto (tgt := 330) C.1 C.2.1 dX12_readPiece_20 (by decide) ?_
    cases hm
    exact q_vret C h hr hlk dX12_readPiece_330
end L_readPiece
section L_readPieces
variable {p : Program} {l : Launch} {e : Env} {s : State} {m : MethodId} {args : Array Value} {below : List Frame} {meth : Method} {c : Code} {D : va_G} {A : Nat → Prop} {k : Nat → ClassId} {g : Nat → Nat} {N : Nat} {cd : Cond}
set_option maxHeartbeats 4000000 in
set_option maxRecDepth 100000 in
theorem rc_readPieces (l : Launch) (D : va_G) (k : Nat → ClassId) (g : Nat → Nat) (N : Nat) (σ : St) (x1 : Int) (r : St) (hm : r_readPieces N σ x1 = some r) : Mv l yX12_readPieces (.code yX12_readPieces cX12_readPieces 2 none :: rW) { frames := 4, cells := 0, slots := 0, locals := 89 } [.ref (g 0), .int (Int32.ofInt x1)] D (TYs k) (mW k g σ) (fun _ => True) Unit (fun _ => True) (fun _ => mW k g r) 0 0 := by
  intro sz
  refine x_met (cc := cX12_readPieces) (maxL := 2) (ret := none) (by decide) rfl (Nat.le_of_ble_eq_true rfl) ?_
  intro p e s m below meth c ls C hX hsz hr hlk hmn hl h
  have hl : lv_has ls 2 [(0, .ref (g 0)), (1, .int (Int32.ofInt x1))] := hl
  rw [r_readPieces] at hm
  refine lv_aload_n C.1 C.2.1 dX12_readPieces_0 rfl (lv_at hl 0 rfl) ?_
  refine fg_44 C h dX12_readPieces_1 ?_
  refine lv_iload_n C.1 C.2.1 dX12_readPieces_4 rfl (lv_at hl 1 rfl) ?_
  obtain ⟨g1, hm⟩ := grd_s hm
  refine al_72 C h dX12_readPieces_5 g1 ?_
  obtain ⟨g2, hm⟩ := grd_s hm
  refine z_if_ne (tgt := 57) C dX12_readPieces_6 (by decide) g2 (fun c3 => ?_) (fun c3 => ?_)
  · have hm := ite_f c3 hm
    refine lv_aload_n C.1 C.2.1 dX12_readPieces_57 rfl (lv_at hl 0 rfl) ?_
    refine lv_aload_n C.1 C.2.1 dX12_readPieces_58 rfl (lv_at hl 0 rfl) ?_
    refine fg_43 C h dX12_readPieces_59 ?_
    refine lv_iload_n C.1 C.2.1 dX12_readPieces_62 rfl (lv_at hl 1 rfl) ?_
    refine al_73 C h dX12_readPieces_63 g1 ?_
    refine lv_aload_n C.1 C.2.1 dX12_readPieces_64 rfl (lv_at hl 0 rfl) ?_
    refine fg_46 C h dX12_readPieces_65 ?_
    obtain ⟨r4, e5, hm⟩ := obd_s hm
    refine q_callVv C h (rc_append l D k g N σ (el σ 73 x1) (fl σ 46 0) r4 e5) (cwV 2 C.2.2.1 (gR_append _) rfl rfl rfl hd_append ⟨Nat.le_of_ble_eq_true rfl, Nat.le_of_ble_eq_true rfl⟩) rfl hl.1 rfl (Nat.le_of_ble_eq_true rfl) dX12_readPieces_68 ⟨Nat.le_of_ble_eq_true rfl, Nat.le_of_ble_eq_true rfl⟩ (fun H locs h => ?_)
    refine lv_aload_n C.1 C.2.1 dX12_readPieces_71 rfl (lv_at hl 0 rfl) ?_
    refine lv_bipush (v := Int32.ofInt 46) C.1 C.2.1 dX12_readPieces_72 (by decide) ?_
    obtain ⟨r6, e7, hm⟩ := obd_s hm
    refine q_callVi C h (rc_isSign l D k g N r4 46 r6 e7) (cwV 1 C.2.2.1 (gR_isSign _) rfl rfl rfl hd_isSign ⟨Nat.le_of_ble_eq_true rfl, Nat.le_of_ble_eq_true rfl⟩) rfl hl.1 rfl (Nat.le_of_ble_eq_true rfl) dX12_readPieces_74 ⟨Nat.le_of_ble_eq_true rfl, Nat.le_of_ble_eq_true rfl⟩ (fun H locs h => ?_)
    obtain ⟨g8, hm⟩ := grd_s hm
    refine z_if_eq (tgt := 95) C dX12_readPieces_77 (by decide) g8 (fun c9 => ?_) (fun c9 => ?_)
    · have hm := ite_t c9 hm
      refine lv_aload_n C.1 C.2.1 dX12_readPieces_95 rfl (lv_at hl 0 rfl) ?_
      refine lv_bipush (v := Int32.ofInt 41) C.1 C.2.1 dX12_readPieces_96 (by decide) ?_
      obtain ⟨r10, e11, hm⟩ := obd_s hm
      refine q_callVi C h (rc_isSign l D k g N r6.1 41 r10 e11) (cwV 1 C.2.2.1 (gR_isSign _) rfl rfl rfl hd_isSign ⟨Nat.le_of_ble_eq_true rfl, Nat.le_of_ble_eq_true rfl⟩) rfl hl.1 rfl (Nat.le_of_ble_eq_true rfl) dX12_readPieces_98 ⟨Nat.le_of_ble_eq_true rfl, Nat.le_of_ble_eq_true rfl⟩ (fun H locs h => ?_)
      obtain ⟨g12, hm⟩ := grd_s hm
      refine z_if_eq (tgt := 131) C dX12_readPieces_101 (by decide) g12 (fun c13 => ?_) (fun c13 => ?_)
      · have hm := ite_t c13 hm
        refine lv_aload_n C.1 C.2.1 dX12_readPieces_131 rfl (lv_at hl 0 rfl) ?_
        refine lv_iconst (v := Int32.ofInt 1) C.1 C.2.1 dX12_readPieces_132 (by decide) ?_
        refine lv_aload_n C.1 C.2.1 dX12_readPieces_133 rfl (lv_at hl 0 rfl) ?_
        refine fg_4 C h dX12_readPieces_134 ?_
        obtain ⟨r14, e15, hm⟩ := obd_s hm
        refine q_callVv C h (rc_fail l D k g N r10.1 1 (fl r10.1 4 0) r14 e15) (cwV 2 C.2.2.1 (gR_fail _) rfl rfl rfl hd_fail ⟨Nat.le_of_ble_eq_true rfl, Nat.le_of_ble_eq_true rfl⟩) rfl hl.1 rfl (Nat.le_of_ble_eq_true rfl) dX12_readPieces_137 ⟨Nat.le_of_ble_eq_true rfl, Nat.le_of_ble_eq_true rfl⟩ (fun H locs h => ?_)
        cases hm
        exact q_vret C h hr hlk dX12_readPieces_140
      · have hm := ite_f c13 hm
        refine lv_aload_n C.1 C.2.1 dX12_readPieces_104 rfl (lv_at hl 0 rfl) ?_
        refine lv_dup C.1 C.2.1 dX12_readPieces_105 rfl ?_
        refine fg_13 C h dX12_readPieces_106 ?_
        refine lv_iconst (v := Int32.ofInt 1) C.1 C.2.1 dX12_readPieces_109 (by decide) ?_
        refine z_isub C dX12_readPieces_110 ?_
        refine fp_13 C h dX12_readPieces_111 (fun H locs h => ?_)
        refine lv_aload_n C.1 C.2.1 dX12_readPieces_114 rfl (lv_at hl 0 rfl) ?_
        obtain ⟨σ16, e17, hm⟩ := bnd_s hm
        rw [e17] at h
        obtain ⟨r18, e19, hm⟩ := obd_s hm
        refine q_callVv C h (rc_advance l D k g N σ16  r18 e19) (cwV 0 C.2.2.1 (gR_advance _) rfl rfl rfl hd_advance ⟨Nat.le_of_ble_eq_true rfl, Nat.le_of_ble_eq_true rfl⟩) rfl hl.1 rfl (Nat.le_of_ble_eq_true rfl) dX12_readPieces_115 ⟨Nat.le_of_ble_eq_true rfl, Nat.le_of_ble_eq_true rfl⟩ (fun H locs h => ?_)
        refine lv_aload_n C.1 C.2.1 dX12_readPieces_118 rfl (lv_at hl 0 rfl) ?_
        refine lv_aload_n C.1 C.2.1 dX12_readPieces_119 rfl (lv_at hl 0 rfl) ?_
        refine fg_43 C h dX12_readPieces_120 ?_
        refine lv_iload_n C.1 C.2.1 dX12_readPieces_123 rfl (lv_at hl 1 rfl) ?_
        refine al_73 C h dX12_readPieces_124 g1 ?_
        obtain ⟨r20, e21, hm⟩ := obd_s hm
        refine q_callVv C h (rc_finish l D k g N r18 (el r18 73 x1) r20 e21) (cwV 1 C.2.2.1 (gR_finish _) rfl rfl rfl hd_finish ⟨Nat.le_of_ble_eq_true rfl, Nat.le_of_ble_eq_true rfl⟩) rfl hl.1 rfl (Nat.le_of_ble_eq_true rfl) dX12_readPieces_125 ⟨Nat.le_of_ble_eq_true rfl, Nat.le_of_ble_eq_true rfl⟩ (fun H locs h => ?_)
        refine lv_goto (tgt := 140) C.1 C.2.1 dX12_readPieces_128 (by decide) ?_
        cases hm
        exact q_vret C h hr hlk dX12_readPieces_140
    · have hm := ite_f c9 hm
      refine lv_aload_n C.1 C.2.1 dX12_readPieces_80 rfl (lv_at hl 0 rfl) ?_
      obtain ⟨r22, e23, hm⟩ := obd_s hm
      refine q_callVv C h (rc_advance l D k g N r6.1  r22 e23) (cwV 0 C.2.2.1 (gR_advance _) rfl rfl rfl hd_advance ⟨Nat.le_of_ble_eq_true rfl, Nat.le_of_ble_eq_true rfl⟩) rfl hl.1 rfl (Nat.le_of_ble_eq_true rfl) dX12_readPieces_81 ⟨Nat.le_of_ble_eq_true rfl, Nat.le_of_ble_eq_true rfl⟩ (fun H locs h => ?_)
      refine lv_aload_n C.1 C.2.1 dX12_readPieces_84 rfl (lv_at hl 0 rfl) ?_
      refine lv_bipush (v := Int32.ofInt 9) C.1 C.2.1 dX12_readPieces_85 (by decide) ?_
      refine lv_iconst (v := Int32.ofInt (-1)) C.1 C.2.1 dX12_readPieces_87 (by decide) ?_
      refine lv_iconst (v := Int32.ofInt 0) C.1 C.2.1 dX12_readPieces_88 (by decide) ?_
      obtain ⟨r24, e25, hm⟩ := obd_s hm
      refine q_callVv C h (rc_begin l D k g N r22 9 (-1) 0 r24 e25) (cwV 3 C.2.2.1 (gR_begin _) rfl rfl rfl hd_begin ⟨Nat.le_of_ble_eq_true rfl, Nat.le_of_ble_eq_true rfl⟩) rfl hl.1 rfl (Nat.le_of_ble_eq_true rfl) dX12_readPieces_89 ⟨Nat.le_of_ble_eq_true rfl, Nat.le_of_ble_eq_true rfl⟩ (fun H locs h => ?_)
      refine lv_goto (tgt := 140) C.1 C.2.1 dX12_readPieces_92 (by decide) ?_
      cases hm
      exact q_vret C h hr hlk dX12_readPieces_140
  · have hm := ite_t c3 hm
    refine lv_aload_n C.1 C.2.1 dX12_readPieces_9 rfl (lv_at hl 0 rfl) ?_
    refine lv_aload_n C.1 C.2.1 dX12_readPieces_10 rfl (lv_at hl 0 rfl) ?_
    refine fg_4 C h dX12_readPieces_11 ?_
    obtain ⟨r26, e27, hm⟩ := obd_s hm
    refine q_callVi C h (rc_isOpen l D k g N σ (fl σ 4 0) r26 e27) (cwV 1 C.2.2.1 (gR_isOpen _) rfl rfl rfl hd_isOpen ⟨Nat.le_of_ble_eq_true rfl, Nat.le_of_ble_eq_true rfl⟩) rfl hl.1 rfl (Nat.le_of_ble_eq_true rfl) dX12_readPieces_14 ⟨Nat.le_of_ble_eq_true rfl, Nat.le_of_ble_eq_true rfl⟩ (fun H locs h => ?_)
    obtain ⟨g28, hm⟩ := grd_s hm
    refine z_if_ne (tgt := 21) C dX12_readPieces_17 (by decide) g28 (fun c29 => ?_) (fun c29 => ?_)
    · have hm := ite_f c29 hm
      refine lv_aload_n C.1 C.2.1 dX12_readPieces_21 rfl (lv_at hl 0 rfl) ?_
      refine fg_43 C h dX12_readPieces_22 ?_
      refine lv_iload_n C.1 C.2.1 dX12_readPieces_25 rfl (lv_at hl 1 rfl) ?_
      refine lv_aload_n C.1 C.2.1 dX12_readPieces_26 rfl (lv_at hl 0 rfl) ?_
      refine lv_bipush (v := Int32.ofInt 11) C.1 C.2.1 dX12_readPieces_27 (by decide) ?_
      refine lv_aload_n C.1 C.2.1 dX12_readPieces_29 rfl (lv_at hl 0 rfl) ?_
      refine fg_4 C h dX12_readPieces_30 ?_
      obtain ⟨r30, e31, hm⟩ := obd_s hm
      refine q_callVi C h (rc_node l D k g N r26.1 11 (fl r26.1 4 0) r30 e31) (cwV 2 C.2.2.1 (gR_node _) rfl rfl rfl hd_node ⟨Nat.le_of_ble_eq_true rfl, Nat.le_of_ble_eq_true rfl⟩) rfl hl.1 rfl (Nat.le_of_ble_eq_true rfl) dX12_readPieces_33 ⟨Nat.le_of_ble_eq_true rfl, Nat.le_of_ble_eq_true rfl⟩ (fun H locs h => ?_)
      refine as_73 C h dX12_readPieces_36 g1 (fun H locs h => ?_)
      refine lv_aload_n C.1 C.2.1 dX12_readPieces_37 rfl (lv_at hl 0 rfl) ?_
      refine fg_44 C h dX12_readPieces_38 ?_
      refine lv_iload_n C.1 C.2.1 dX12_readPieces_41 rfl (lv_at hl 1 rfl) ?_
      refine lv_iconst (v := Int32.ofInt 1) C.1 C.2.1 dX12_readPieces_42 (by decide) ?_
      refine as_72 C h dX12_readPieces_43 g1 (fun H locs h => ?_)
      refine lv_aload_n C.1 C.2.1 dX12_readPieces_44 rfl (lv_at hl 0 rfl) ?_
      obtain ⟨σ32, e33, hm⟩ := bnd_s hm
      rw [e33] at h
      obtain ⟨r34, e35, hm⟩ := obd_s hm
      refine q_callVv C h (rc_advance l D k g N σ32  r34 e35) (cwV 0 C.2.2.1 (gR_advance _) rfl rfl rfl hd_advance ⟨Nat.le_of_ble_eq_true rfl, Nat.le_of_ble_eq_true rfl⟩) rfl hl.1 rfl (Nat.le_of_ble_eq_true rfl) dX12_readPieces_45 ⟨Nat.le_of_ble_eq_true rfl, Nat.le_of_ble_eq_true rfl⟩ (fun H locs h => ?_)
      refine lv_aload_n C.1 C.2.1 dX12_readPieces_48 rfl (lv_at hl 0 rfl) ?_
      refine lv_bipush (v := Int32.ofInt 9) C.1 C.2.1 dX12_readPieces_49 (by decide) ?_
      refine lv_iconst (v := Int32.ofInt (-1)) C.1 C.2.1 dX12_readPieces_51 (by decide) ?_
      refine lv_iconst (v := Int32.ofInt 0) C.1 C.2.1 dX12_readPieces_52 (by decide) ?_
      obtain ⟨r36, e37, hm⟩ := obd_s hm
      refine q_callVv C h (rc_begin l D k g N r34 9 (-1) 0 r36 e37) (cwV 3 C.2.2.1 (gR_begin _) rfl rfl rfl hd_begin ⟨Nat.le_of_ble_eq_true rfl, Nat.le_of_ble_eq_true rfl⟩) rfl hl.1 rfl (Nat.le_of_ble_eq_true rfl) dX12_readPieces_53 ⟨Nat.le_of_ble_eq_true rfl, Nat.le_of_ble_eq_true rfl⟩ (fun H locs h => ?_)
      cases hm
      exact q_vret C h hr hlk dX12_readPieces_56
    · have hm := ite_t c29 hm
      cases hm
      exact q_vret C h hr hlk dX12_readPieces_20
end L_readPieces
section L_readRow
variable {p : Program} {l : Launch} {e : Env} {s : State} {m : MethodId} {args : Array Value} {below : List Frame} {meth : Method} {c : Code} {D : va_G} {A : Nat → Prop} {k : Nat → ClassId} {g : Nat → Nat} {N : Nat} {cd : Cond}
set_option maxHeartbeats 4000000 in
set_option maxRecDepth 100000 in
theorem lm_readRow_71 {r : St} (C : Cx p s m args c cX12_readRow RX12 (cd :: rW) D (TYs k) 6) (hr : meth.sig.returnType = none) (hlk : meth.locks = false)  {ls : Array Slot} {H : Heap} {locs : List Loc} {σ : St} {x1 : Int} {x4 : Int} {x5 : Int} (hl : lv_has ls 6 [(0, .ref (g 0)), (1, .int (Int32.ofInt x1)), (4, .int (Int32.ofInt x4)), (5, .int (Int32.ofInt x5))]) (h : Hp D A s.heap H locs (mW k g σ)) (hm : r_readRow_71 N  σ x1 x4 x5 = some r) : W p l e { frames := 4, cells := 0, slots := 0, locals := 89 } s m args below meth c H locs 0 0 (MQ below (va_Qv (fun (_ : Unit) => True) (fun _ t => PostW D (TYs k) A (mW k g r) t) A) args s 0 0 A) (F0 m 71 ls []) := by
  rw [r_readRow_71] at hm
  refine lv_aload_n C.1 C.2.1 dX12_readRow_71 rfl (lv_at hl 0 rfl) ?_
  refine lv_aload_n C.1 C.2.1 dX12_readRow_72 rfl (lv_at hl 0 rfl) ?_
  refine fg_43 C h dX12_readRow_73 ?_
  refine lv_iload_n C.1 C.2.1 dX12_readRow_76 rfl (lv_at hl 1 rfl) ?_
  obtain ⟨g18, hm⟩ := grd_s hm
  refine al_73 C h dX12_readRow_77 g18 ?_
  refine lv_aload_n C.1 C.2.1 dX12_readRow_78 rfl (lv_at hl 0 rfl) ?_
  refine fg_46 C h dX12_readRow_79 ?_
  obtain ⟨r19, e20, hm⟩ := obd_s hm
  refine q_callVv C h (rc_append l D k g N σ (el σ 73 x1) (fl σ 46 0) r19 e20) (cwV 2 C.2.2.1 (gR_append _) rfl rfl rfl hd_append ⟨Nat.le_of_ble_eq_true rfl, Nat.le_of_ble_eq_true rfl⟩) rfl hl.1 rfl (Nat.le_of_ble_eq_true rfl) dX12_readRow_82 ⟨Nat.le_of_ble_eq_true rfl, Nat.le_of_ble_eq_true rfl⟩ (fun H locs h => ?_)
  refine lv_aload_n C.1 C.2.1 dX12_readRow_85 rfl (lv_at hl 0 rfl) ?_
  refine fg_19 C h dX12_readRow_86 ?_
  refine lv_aload_n C.1 C.2.1 dX12_readRow_89 rfl (lv_at hl 0 rfl) ?_
  refine fg_43 C h dX12_readRow_90 ?_
  refine lv_iload_n C.1 C.2.1 dX12_readRow_93 rfl (lv_at hl 1 rfl) ?_
  refine al_73 C h dX12_readRow_94 g18 ?_
  refine lv_dup2_11 C.1 C.2.1 dX12_readRow_95 rfl rfl ?_
  obtain ⟨g21, hm⟩ := grd_s hm
  refine al_92 C h dX12_readRow_96 g21 ?_
  refine lv_iconst (v := Int32.ofInt 1) C.1 C.2.1 dX12_readRow_97 (by decide) ?_
  refine z_iadd C dX12_readRow_98 ?_
  refine as_92 C h dX12_readRow_99 g21 (fun H locs h => ?_)
  refine lv_iload C.1 C.2.1 dX12_readRow_100 (lv_at hl 3 rfl) ?_
  obtain ⟨g22, hm⟩ := grd_s hm
  refine z_if_ne (tgt := 116) C dX12_readRow_102 (by decide) g22 (fun c23 => ?_) (fun c23 => ?_)
  · have hm := ite_f c23 hm
    refine lv_aload_n C.1 C.2.1 dX12_readRow_116 rfl (lv_at hl 0 rfl) ?_
    obtain ⟨σ24, e25, hm⟩ := bnd_s hm
    rw [e25] at h
    obtain ⟨r26, e27, hm⟩ := obd_s hm
    refine q_callVv C h (rc_advance l D k g N σ24  r26 e27) (cwV 0 C.2.2.1 (gR_advance _) rfl rfl rfl hd_advance ⟨Nat.le_of_ble_eq_true rfl, Nat.le_of_ble_eq_true rfl⟩) rfl hl.1 rfl (Nat.le_of_ble_eq_true rfl) dX12_readRow_117 ⟨Nat.le_of_ble_eq_true rfl, Nat.le_of_ble_eq_true rfl⟩ (fun H locs h => ?_)
    refine lv_aload_n C.1 C.2.1 dX12_readRow_120 rfl (lv_at hl 0 rfl) ?_
    refine lv_iload C.1 C.2.1 dX12_readRow_121 (lv_at hl 2 rfl) ?_
    refine lv_iconst (v := Int32.ofInt (-1)) C.1 C.2.1 dX12_readRow_123 (by decide) ?_
    refine lv_iconst (v := Int32.ofInt 0) C.1 C.2.1 dX12_readRow_124 (by decide) ?_
    obtain ⟨r28, e29, hm⟩ := obd_s hm
    refine q_callVv C h (rc_begin l D k g N r26 x4 (-1) 0 r28 e29) (cwV 3 C.2.2.1 (gR_begin _) rfl rfl rfl hd_begin ⟨Nat.le_of_ble_eq_true rfl, Nat.le_of_ble_eq_true rfl⟩) rfl hl.1 rfl (Nat.le_of_ble_eq_true rfl) dX12_readRow_125 ⟨Nat.le_of_ble_eq_true rfl, Nat.le_of_ble_eq_true rfl⟩ (fun H locs h => ?_)
    cases hm
    exact q_vret C h hr hlk dX12_readRow_128
  · have hm := ite_t c23 hm
    refine lv_aload_n C.1 C.2.1 dX12_readRow_105 rfl (lv_at hl 0 rfl) ?_
    refine lv_aload_n C.1 C.2.1 dX12_readRow_106 rfl (lv_at hl 0 rfl) ?_
    refine fg_43 C h dX12_readRow_107 ?_
    refine lv_iload_n C.1 C.2.1 dX12_readRow_110 rfl (lv_at hl 1 rfl) ?_
    refine al_73 C h dX12_readRow_111 g18 ?_
    refine x_topi (y := Int32.ofInt (el r19 73 x1)) rfl ?_
    obtain ⟨σ30, e31, hm⟩ := bnd_s hm
    rw [e31] at h
    obtain ⟨r32, e33, hm⟩ := obd_s hm
    refine q_callVv C h (rc_finish l D k g N σ30 (el r19 73 x1) r32 e33) (cwV 1 C.2.2.1 (gR_finish _) rfl rfl rfl hd_finish ⟨Nat.le_of_ble_eq_true rfl, Nat.le_of_ble_eq_true rfl⟩) rfl hl.1 rfl (Nat.le_of_ble_eq_true rfl) dX12_readRow_112 ⟨Nat.le_of_ble_eq_true rfl, Nat.le_of_ble_eq_true rfl⟩ (fun H locs h => ?_)
    cases hm
    exact q_vret C h hr hlk dX12_readRow_115
set_option maxHeartbeats 4000000 in
set_option maxRecDepth 100000 in
theorem rc_readRow (l : Launch) (D : va_G) (k : Nat → ClassId) (g : Nat → Nat) (N : Nat) (σ : St) (x1 : Int) (x2 : Int) (x3 : Int) (x4 : Int) (r : St) (hm : r_readRow N σ x1 x2 x3 x4 = some r) : Mv l yX12_readRow (.code yX12_readRow cX12_readRow 6 none :: rW) { frames := 4, cells := 0, slots := 0, locals := 89 } [.ref (g 0), .int (Int32.ofInt x1), .int (Int32.ofInt x2), .int (Int32.ofInt x3), .int (Int32.ofInt x4)] D (TYs k) (mW k g σ) (fun _ => True) Unit (fun _ => True) (fun _ => mW k g r) 0 0 := by
  intro sz
  refine x_met (cc := cX12_readRow) (maxL := 6) (ret := none) (by decide) rfl (Nat.le_of_ble_eq_true rfl) ?_
  intro p e s m below meth c ls C hX hsz hr hlk hmn hl h
  have hl : lv_has ls 6 [(0, .ref (g 0)), (1, .int (Int32.ofInt x1)), (2, .int (Int32.ofInt x2)), (3, .int (Int32.ofInt x3)), (4, .int (Int32.ofInt x4))] := hl
  rw [r_readRow] at hm
  refine lv_aload_n C.1 C.2.1 dX12_readRow_0 rfl (lv_at hl 0 rfl) ?_
  refine fg_44 C h dX12_readRow_1 ?_
  refine lv_iload_n C.1 C.2.1 dX12_readRow_4 rfl (lv_at hl 1 rfl) ?_
  obtain ⟨g1, hm⟩ := grd_s hm
  refine al_72 C h dX12_readRow_5 g1 ?_
  obtain ⟨g2, hm⟩ := grd_s hm
  refine z_if_ne (tgt := 25) C dX12_readRow_6 (by decide) g2 (fun c3 => ?_) (fun c3 => ?_)
  · have hm := ite_f c3 hm
    refine lv_aload_n C.1 C.2.1 dX12_readRow_25 rfl (lv_at hl 0 rfl) ?_
    refine lv_iload_n C.1 C.2.1 dX12_readRow_26 rfl (lv_at hl 2 rfl) ?_
    obtain ⟨r4, e5, hm⟩ := obd_s hm
    refine q_callVi C h (rc_isSign l D k g N σ x2 r4 e5) (cwV 1 C.2.2.1 (gR_isSign _) rfl rfl rfl hd_isSign ⟨Nat.le_of_ble_eq_true rfl, Nat.le_of_ble_eq_true rfl⟩) rfl hl.1 rfl (Nat.le_of_ble_eq_true rfl) dX12_readRow_27 ⟨Nat.le_of_ble_eq_true rfl, Nat.le_of_ble_eq_true rfl⟩ (fun H locs h => ?_)
    refine lv_istore (lv' := [(5, .int (Int32.ofInt r4.2)), (0, .ref (g 0)), (1, .int (Int32.ofInt x1)), (2, .int (Int32.ofInt x2)), (3, .int (Int32.ofInt x3)), (4, .int (Int32.ofInt x4))]) C.1 C.2.1 dX12_readRow_30 hl (by decide) rfl (fun ls hl => ?_)
    refine lv_aload_n C.1 C.2.1 dX12_readRow_32 rfl (lv_at hl 1 rfl) ?_
    refine fg_43 C h dX12_readRow_33 ?_
    refine lv_iload_n C.1 C.2.1 dX12_readRow_36 rfl (lv_at hl 2 rfl) ?_
    refine al_73 C h dX12_readRow_37 g1 ?_
    refine lv_iconst (v := Int32.ofInt (-1)) C.1 C.2.1 dX12_readRow_38 (by decide) ?_
    obtain ⟨g6, hm⟩ := grd_s hm
    refine z_icmp_ne (tgt := 71) C dX12_readRow_39 (by decide) g6 (by decide) (fun c7 => ?_) (fun c7 => ?_)
    · have hm := ite_f c7 hm
      exact lm_readRow_71 (N := N) C hr hlk  (lv_sub hl [1, 2, 5, 0] rfl) h hm
    · have hm := ite_t c7 hm
      refine lv_iload C.1 C.2.1 dX12_readRow_42 (lv_at hl 0 rfl) ?_
      obtain ⟨g8, hm⟩ := grd_s hm
      refine z_if_ne (tgt := 56) C dX12_readRow_44 (by decide) g8 (fun c9 => ?_) (fun c9 => ?_)
      · have hm := ite_f c9 hm
        refine lv_aload_n C.1 C.2.1 dX12_readRow_56 rfl (lv_at hl 1 rfl) ?_
        refine fg_43 C h dX12_readRow_57 ?_
        refine lv_iload_n C.1 C.2.1 dX12_readRow_60 rfl (lv_at hl 2 rfl) ?_
        refine lv_aload_n C.1 C.2.1 dX12_readRow_61 rfl (lv_at hl 1 rfl) ?_
        refine lv_iload_n C.1 C.2.1 dX12_readRow_62 rfl (lv_at hl 4 rfl) ?_
        refine lv_aload_n C.1 C.2.1 dX12_readRow_63 rfl (lv_at hl 1 rfl) ?_
        refine fg_4 C h dX12_readRow_64 ?_
        obtain ⟨r10, e11, hm⟩ := obd_s hm
        refine q_callVi C h (rc_node l D k g N r4.1 x3 (fl r4.1 4 0) r10 e11) (cwV 2 C.2.2.1 (gR_node _) rfl rfl rfl hd_node ⟨Nat.le_of_ble_eq_true rfl, Nat.le_of_ble_eq_true rfl⟩) rfl hl.1 rfl (Nat.le_of_ble_eq_true rfl) dX12_readRow_67 ⟨Nat.le_of_ble_eq_true rfl, Nat.le_of_ble_eq_true rfl⟩ (fun H locs h => ?_)
        refine as_73 C h dX12_readRow_70 g1 (fun H locs h => ?_)
        exact lm_readRow_71 (N := N) C hr hlk  (lv_sub hl [1, 2, 5, 0] rfl) h hm
      · have hm := ite_t c9 hm
        refine lv_aload_n C.1 C.2.1 dX12_readRow_47 rfl (lv_at hl 1 rfl) ?_
        refine lv_aload_n C.1 C.2.1 dX12_readRow_48 rfl (lv_at hl 1 rfl) ?_
        refine fg_46 C h dX12_readRow_49 ?_
        obtain ⟨r12, e13, hm⟩ := obd_s hm
        refine q_callVv C h (rc_finish l D k g N r4.1 (fl r4.1 46 0) r12 e13) (cwV 1 C.2.2.1 (gR_finish _) rfl rfl rfl hd_finish ⟨Nat.le_of_ble_eq_true rfl, Nat.le_of_ble_eq_true rfl⟩) rfl hl.1 rfl (Nat.le_of_ble_eq_true rfl) dX12_readRow_52 ⟨Nat.le_of_ble_eq_true rfl, Nat.le_of_ble_eq_true rfl⟩ (fun H locs h => ?_)
        cases hm
        exact q_vret C h hr hlk dX12_readRow_55
  · have hm := ite_t c3 hm
    refine lv_aload_n C.1 C.2.1 dX12_readRow_9 rfl (lv_at hl 0 rfl) ?_
    refine fg_44 C h dX12_readRow_10 ?_
    refine lv_iload_n C.1 C.2.1 dX12_readRow_13 rfl (lv_at hl 1 rfl) ?_
    refine lv_iconst (v := Int32.ofInt 1) C.1 C.2.1 dX12_readRow_14 (by decide) ?_
    refine as_72 C h dX12_readRow_15 g1 (fun H locs h => ?_)
    refine lv_aload_n C.1 C.2.1 dX12_readRow_16 rfl (lv_at hl 0 rfl) ?_
    refine lv_iload C.1 C.2.1 dX12_readRow_17 (lv_at hl 4 rfl) ?_
    refine lv_iconst (v := Int32.ofInt (-1)) C.1 C.2.1 dX12_readRow_19 (by decide) ?_
    refine lv_iconst (v := Int32.ofInt 0) C.1 C.2.1 dX12_readRow_20 (by decide) ?_
    obtain ⟨σ14, e15, hm⟩ := bnd_s hm
    rw [e15] at h
    obtain ⟨r16, e17, hm⟩ := obd_s hm
    refine q_callVv C h (rc_begin l D k g N σ14 x4 (-1) 0 r16 e17) (cwV 3 C.2.2.1 (gR_begin _) rfl rfl rfl hd_begin ⟨Nat.le_of_ble_eq_true rfl, Nat.le_of_ble_eq_true rfl⟩) rfl hl.1 rfl (Nat.le_of_ble_eq_true rfl) dX12_readRow_21 ⟨Nat.le_of_ble_eq_true rfl, Nat.le_of_ble_eq_true rfl⟩ (fun H locs h => ?_)
    cases hm
    exact q_vret C h hr hlk dX12_readRow_24
end L_readRow
section L_readSeq
variable {p : Program} {l : Launch} {e : Env} {s : State} {m : MethodId} {args : Array Value} {below : List Frame} {meth : Method} {c : Code} {D : va_G} {A : Nat → Prop} {k : Nat → ClassId} {g : Nat → Nat} {N : Nat} {cd : Cond}
set_option maxHeartbeats 4000000 in
set_option maxRecDepth 100000 in
theorem lm_readSeq_55 {r : St} (C : Cx p s m args c cX12_readSeq RX12 (cd :: rW) D (TYs k) 4) (hr : meth.sig.returnType = none) (hlk : meth.locks = false)  {ls : Array Slot} {H : Heap} {locs : List Loc} {σ : St} {x1 : Int} (hl : lv_has ls 4 [(0, .ref (g 0)), (1, .int (Int32.ofInt x1))]) (h : Hp D A s.heap H locs (mW k g σ)) (hm : r_readSeq_55 N  σ x1 = some r) : W p l e { frames := 2, cells := 0, slots := 0, locals := 41 } s m args below meth c H locs 0 0 (MQ below (va_Qv (fun (_ : Unit) => True) (fun _ t => PostW D (TYs k) A (mW k g r) t) A) args s 0 0 A) (F0 m 55 ls []) := by
  rw [r_readSeq_55] at hm
  refine lv_aload_n C.1 C.2.1 dX12_readSeq_55 rfl (lv_at hl 0 rfl) ?_
  refine fg_44 C h dX12_readSeq_56 ?_
  refine lv_iload_n C.1 C.2.1 dX12_readSeq_59 rfl (lv_at hl 1 rfl) ?_
  refine lv_iconst (v := Int32.ofInt 1) C.1 C.2.1 dX12_readSeq_60 (by decide) ?_
  obtain ⟨g40, hm⟩ := grd_s hm
  refine as_72 C h dX12_readSeq_61 g40 (fun H locs h => ?_)
  refine lv_aload_n C.1 C.2.1 dX12_readSeq_62 rfl (lv_at hl 0 rfl) ?_
  refine lv_bipush (v := Int32.ofInt 11) C.1 C.2.1 dX12_readSeq_63 (by decide) ?_
  refine lv_iconst (v := Int32.ofInt (-1)) C.1 C.2.1 dX12_readSeq_65 (by decide) ?_
  refine lv_iconst (v := Int32.ofInt 0) C.1 C.2.1 dX12_readSeq_66 (by decide) ?_
  obtain ⟨σ41, e42, hm⟩ := bnd_s hm
  rw [e42] at h
  obtain ⟨r43, e44, hm⟩ := obd_s hm
  refine q_callVv C h (rc_begin l D k g N σ41 11 (-1) 0 r43 e44) (cwV 3 C.2.2.1 (gR_begin _) rfl rfl rfl hd_begin ⟨Nat.le_of_ble_eq_true rfl, Nat.le_of_ble_eq_true rfl⟩) rfl hl.1 rfl (Nat.le_of_ble_eq_true rfl) dX12_readSeq_67 ⟨Nat.le_of_ble_eq_true rfl, Nat.le_of_ble_eq_true rfl⟩ (fun H locs h => ?_)
  cases hm
  exact q_vret C h hr hlk dX12_readSeq_70
set_option maxHeartbeats 4000000 in
set_option maxRecDepth 100000 in
theorem lm_readSeq_180 {r : St} (C : Cx p s m args c cX12_readSeq RX12 (cd :: rW) D (TYs k) 4) (hr : meth.sig.returnType = none) (hlk : meth.locks = false)  {ls : Array Slot} {H : Heap} {locs : List Loc} {σ : St}  (hl : lv_has ls 4 [(0, .ref (g 0))]) (h : Hp D A s.heap H locs (mW k g σ)) (hm : r_readSeq_180 N  σ  = some r) : W p l e { frames := 2, cells := 0, slots := 0, locals := 41 } s m args below meth c H locs 0 0 (MQ below (va_Qv (fun (_ : Unit) => True) (fun _ t => PostW D (TYs k) A (mW k g r) t) A) args s 0 0 A) (F0 m 180 ls []) := by
  rw [r_readSeq_180] at hm
  refine lv_aload_n C.1 C.2.1 dX12_readSeq_180 rfl (lv_at hl 0 rfl) ?_
  refine lv_bipush (v := Int32.ofInt 11) C.1 C.2.1 dX12_readSeq_181 (by decide) ?_
  refine lv_iconst (v := Int32.ofInt (-1)) C.1 C.2.1 dX12_readSeq_183 (by decide) ?_
  refine lv_iconst (v := Int32.ofInt 0) C.1 C.2.1 dX12_readSeq_184 (by decide) ?_
  obtain ⟨r48, e49, hm⟩ := obd_s hm
  refine q_callVv C h (rc_begin l D k g N σ 11 (-1) 0 r48 e49) (cwV 3 C.2.2.1 (gR_begin _) rfl rfl rfl hd_begin ⟨Nat.le_of_ble_eq_true rfl, Nat.le_of_ble_eq_true rfl⟩) rfl hl.1 rfl (Nat.le_of_ble_eq_true rfl) dX12_readSeq_185 ⟨Nat.le_of_ble_eq_true rfl, Nat.le_of_ble_eq_true rfl⟩ (fun H locs h => ?_)
  cases hm
  exact q_vret C h hr hlk dX12_readSeq_188
set_option maxHeartbeats 4000000 in
set_option maxRecDepth 100000 in
theorem lm_readSeq_189 {r : St} (C : Cx p s m args c cX12_readSeq RX12 (cd :: rW) D (TYs k) 4) (hr : meth.sig.returnType = none) (hlk : meth.locks = false)  {ls : Array Slot} {H : Heap} {locs : List Loc} {σ : St} {x1 : Int} (hl : lv_has ls 4 [(0, .ref (g 0)), (1, .int (Int32.ofInt x1))]) (h : Hp D A s.heap H locs (mW k g σ)) (hm : r_readSeq_189 N  σ x1 = some r) : W p l e { frames := 2, cells := 0, slots := 0, locals := 41 } s m args below meth c H locs 0 0 (MQ below (va_Qv (fun (_ : Unit) => True) (fun _ t => PostW D (TYs k) A (mW k g r) t) A) args s 0 0 A) (F0 m 189 ls []) := by
  rw [r_readSeq_189] at hm
  refine lv_aload_n C.1 C.2.1 dX12_readSeq_189 rfl (lv_at hl 0 rfl) ?_
  refine lv_aload_n C.1 C.2.1 dX12_readSeq_190 rfl (lv_at hl 0 rfl) ?_
  refine fg_43 C h dX12_readSeq_191 ?_
  refine lv_iload_n C.1 C.2.1 dX12_readSeq_194 rfl (lv_at hl 1 rfl) ?_
  obtain ⟨g45, hm⟩ := grd_s hm
  refine al_73 C h dX12_readSeq_195 g45 ?_
  obtain ⟨r46, e47, hm⟩ := obd_s hm
  refine q_callVv C h (rc_finish l D k g N σ (el σ 73 x1) r46 e47) (cwV 1 C.2.2.1 (gR_finish _) rfl rfl rfl hd_finish ⟨Nat.le_of_ble_eq_true rfl, Nat.le_of_ble_eq_true rfl⟩) rfl hl.1 rfl (Nat.le_of_ble_eq_true rfl) dX12_readSeq_196 ⟨Nat.le_of_ble_eq_true rfl, Nat.le_of_ble_eq_true rfl⟩ (fun H locs h => ?_)
  cases hm
  exact q_vret C h hr hlk dX12_readSeq_199
set_option maxHeartbeats 4000000 in
set_option maxRecDepth 100000 in
theorem lm_readSeq_118 {r : St} (C : Cx p s m args c cX12_readSeq RX12 (cd :: rW) D (TYs k) 4) (hr : meth.sig.returnType = none) (hlk : meth.locks = false)  {ls : Array Slot} {H : Heap} {locs : List Loc} {σ : St} {x1 : Int} {s0 : Int} (hl : lv_has ls 4 [(0, .ref (g 0)), (1, .int (Int32.ofInt x1))]) (h : Hp D A s.heap H locs (mW k g σ)) (hm : r_readSeq_118 N  σ x1 s0 = some r) : W p l e { frames := 2, cells := 0, slots := 0, locals := 41 } s m args below meth c H locs 0 0 (MQ below (va_Qv (fun (_ : Unit) => True) (fun _ t => PostW D (TYs k) A (mW k g r) t) A) args s 0 0 A) (F0 m 118 ls [.int (Int32.ofInt s0)]) := by
  rw [r_readSeq_118] at hm
  refine lv_istore_n (lv' := [(2, .int (Int32.ofInt s0)), (0, .ref (g 0)), (1, .int (Int32.ofInt x1))]) C.1 C.2.1 dX12_readSeq_118 rfl hl (by decide) rfl (fun ls hl => ?_)
  refine lv_aload_n C.1 C.2.1 dX12_readSeq_119 rfl (lv_at hl 1 rfl) ?_
  obtain ⟨r20, e21, hm⟩ := obd_s hm
  refine q_callVv C h (rc_skip l D k g N σ  r20 e21) (cwV 0 C.2.2.1 (gR_skip _) rfl rfl rfl hd_skip ⟨Nat.le_of_ble_eq_true rfl, Nat.le_of_ble_eq_true rfl⟩) rfl hl.1 rfl (Nat.le_of_ble_eq_true rfl) dX12_readSeq_120 ⟨Nat.le_of_ble_eq_true rfl, Nat.le_of_ble_eq_true rfl⟩ (fun H locs h => ?_)
  refine lv_aload_n C.1 C.2.1 dX12_readSeq_123 rfl (lv_at hl 1 rfl) ?_
  refine lv_aload_n C.1 C.2.1 dX12_readSeq_124 rfl (lv_at hl 1 rfl) ?_
  refine fg_2 C h dX12_readSeq_125 ?_
  obtain ⟨r22, e23, hm⟩ := obd_s hm
  refine q_callVi C h (rc_byteAt l D k g N r20 (fl r20 2 0) r22 e23) (cwV 1 C.2.2.1 (gR_byteAt _) rfl rfl rfl hd_byteAt ⟨Nat.le_of_ble_eq_true rfl, Nat.le_of_ble_eq_true rfl⟩) rfl hl.1 rfl (Nat.le_of_ble_eq_true rfl) dX12_readSeq_128 ⟨Nat.le_of_ble_eq_true rfl, Nat.le_of_ble_eq_true rfl⟩ (fun H locs h => ?_)
  refine lv_istore_n (lv' := [(3, .int (Int32.ofInt r22.2)), (2, .int (Int32.ofInt s0)), (0, .ref (g 0)), (1, .int (Int32.ofInt x1))]) C.1 C.2.1 dX12_readSeq_131 rfl hl (by decide) rfl (fun ls hl => ?_)
  refine lv_iload_n C.1 C.2.1 dX12_readSeq_132 rfl (lv_at hl 1 rfl) ?_
  obtain ⟨g24, hm⟩ := grd_s hm
  refine z_if_eq (tgt := 189) C dX12_readSeq_133 (by decide) g24 (fun c25 => ?_) (fun c25 => ?_)
  · have hm := ite_t c25 hm
    exact lm_readSeq_189 (N := N) C hr hlk  (lv_sub hl [2, 3] rfl) h hm
  · have hm := ite_f c25 hm
    refine lv_iload_n C.1 C.2.1 dX12_readSeq_136 rfl (lv_at hl 0 rfl) ?_
    obtain ⟨r26, e27, hm⟩ := obd_s hm
    refine q_callSi C h (rc_isLow l D k N r22.2 r26 e27) (cwS 1 C.2.2.1 (gR_isLow _) rfl rfl rfl hd_isLow ⟨Nat.le_of_ble_eq_true rfl, Nat.le_of_ble_eq_true rfl⟩) rfl hl.1 rfl (Nat.le_of_ble_eq_true rfl) dX12_readSeq_137 ⟨Nat.le_of_ble_eq_true rfl, Nat.le_of_ble_eq_true rfl⟩ (fun H locs h => ?_)
    obtain ⟨g28, hm⟩ := grd_s hm
    refine z_if_ne (tgt := 180) C dX12_readSeq_140 (by decide) g28 (fun c29 => ?_) (fun c29 => ?_)
    · have hm := ite_f c29 hm
      exact lm_readSeq_180 (N := N) C hr hlk  (lv_sub hl [2] rfl) h hm
    · have hm := ite_t c29 hm
      refine lv_iload_n C.1 C.2.1 dX12_readSeq_143 rfl (lv_at hl 0 rfl) ?_
      obtain ⟨r30, e31, hm⟩ := obd_s hm
      refine q_callSi C h (rc_isDigit l D k N r22.2 r30 e31) (cwS 1 C.2.2.1 (gR_isDigit _) rfl rfl rfl hd_isDigit ⟨Nat.le_of_ble_eq_true rfl, Nat.le_of_ble_eq_true rfl⟩) rfl hl.1 rfl (Nat.le_of_ble_eq_true rfl) dX12_readSeq_144 ⟨Nat.le_of_ble_eq_true rfl, Nat.le_of_ble_eq_true rfl⟩ (fun H locs h => ?_)
      obtain ⟨g32, hm⟩ := grd_s hm
      refine z_if_ne (tgt := 180) C dX12_readSeq_147 (by decide) g32 (fun c33 => ?_) (fun c33 => ?_)
      · have hm := ite_f c33 hm
        exact lm_readSeq_180 (N := N) C hr hlk  (lv_sub hl [2] rfl) h hm
      · have hm := ite_t c33 hm
        refine lv_iload_n C.1 C.2.1 dX12_readSeq_150 rfl (lv_at hl 0 rfl) ?_
        refine lv_bipush (v := Int32.ofInt 45) C.1 C.2.1 dX12_readSeq_151 (by decide) ?_
        obtain ⟨g34, hm⟩ := grd_s hm
        refine z_icmp_eq (tgt := 180) C dX12_readSeq_153 (by decide) g34 (by decide) (fun c35 => ?_) (fun c35 => ?_)
        · have hm := ite_t c35 hm
          exact lm_readSeq_180 (N := N) C hr hlk  (lv_sub hl [2] rfl) h hm
        · have hm := ite_f c35 hm
          refine lv_iload_n C.1 C.2.1 dX12_readSeq_156 rfl (lv_at hl 0 rfl) ?_
          refine lv_bipush (v := Int32.ofInt 126) C.1 C.2.1 dX12_readSeq_157 (by decide) ?_
          refine z_icmp_eq (tgt := 180) C dX12_readSeq_159 (by decide) g34 (by decide) (fun c36 => ?_) (fun c36 => ?_)
          · have hm := ite_t c36 hm
            exact lm_readSeq_180 (N := N) C hr hlk  (lv_sub hl [2] rfl) h hm
          · have hm := ite_f c36 hm
            refine lv_iload_n C.1 C.2.1 dX12_readSeq_162 rfl (lv_at hl 0 rfl) ?_
            refine lv_bipush (v := Int32.ofInt 91) C.1 C.2.1 dX12_readSeq_163 (by decide) ?_
            refine z_icmp_eq (tgt := 180) C dX12_readSeq_165 (by decide) g34 (by decide) (fun c37 => ?_) (fun c37 => ?_)
            · have hm := ite_t c37 hm
              exact lm_readSeq_180 (N := N) C hr hlk  (lv_sub hl [2] rfl) h hm
            · have hm := ite_f c37 hm
              refine lv_iload_n C.1 C.2.1 dX12_readSeq_168 rfl (lv_at hl 0 rfl) ?_
              refine lv_bipush (v := Int32.ofInt 60) C.1 C.2.1 dX12_readSeq_169 (by decide) ?_
              refine z_icmp_eq (tgt := 180) C dX12_readSeq_171 (by decide) g34 (by decide) (fun c38 => ?_) (fun c38 => ?_)
              · have hm := ite_t c38 hm
                exact lm_readSeq_180 (N := N) C hr hlk  (lv_sub hl [2] rfl) h hm
              · have hm := ite_f c38 hm
                refine lv_iload_n C.1 C.2.1 dX12_readSeq_174 rfl (lv_at hl 0 rfl) ?_
                refine lv_bipush (v := Int32.ofInt 123) C.1 C.2.1 dX12_readSeq_175 (by decide) ?_
                refine z_icmp_ne (tgt := 189) C dX12_readSeq_177 (by decide) g34 (by decide) (fun c39 => ?_) (fun c39 => ?_)
                · have hm := ite_f c39 hm
                  exact lm_readSeq_189 (N := N) C hr hlk  (lv_sub hl [2, 3] rfl) h hm
                · have hm := ite_t c39 hm
                  exact lm_readSeq_180 (N := N) C hr hlk  (lv_sub hl [2] rfl) h hm
set_option maxHeartbeats 4000000 in
set_option maxRecDepth 100000 in
theorem lm_readSeq_113 {r : St} (C : Cx p s m args c cX12_readSeq RX12 (cd :: rW) D (TYs k) 4) (hr : meth.sig.returnType = none) (hlk : meth.locks = false)  {ls : Array Slot} {H : Heap} {locs : List Loc} {σ : St} {x1 : Int} (hl : lv_has ls 4 [(0, .ref (g 0)), (1, .int (Int32.ofInt x1))]) (h : Hp D A s.heap H locs (mW k g σ)) (hm : r_readSeq_113 N  σ x1 = some r) : W p l e { frames := 2, cells := 0, slots := 0, locals := 41 } s m args below meth c H locs 0 0 (MQ below (va_Qv (fun (_ : Unit) => True) (fun _ t => PostW D (TYs k) A (mW k g r) t) A) args s 0 0 A) (F0 m 113 ls []) := by
  rw [r_readSeq_113] at hm
  refine lv_iconst (v := Int32.ofInt 1) C.1 C.2.1 dX12_readSeq_113 (by decide) ?_
  refine lv_goto (tgt := 118) C.1 C.2.1 dX12_readSeq_114 (by decide) ?_
  exact lm_readSeq_118 (N := N) C hr hlk  (lv_sub hl [0, 1] rfl) h hm
set_option maxHeartbeats 4000000 in
set_option maxRecDepth 100000 in
theorem rc_readSeq (l : Launch) (D : va_G) (k : Nat → ClassId) (g : Nat → Nat) (N : Nat) (σ : St) (x1 : Int) (r : St) (hm : r_readSeq N σ x1 = some r) : Mv l yX12_readSeq (.code yX12_readSeq cX12_readSeq 4 none :: rW) { frames := 2, cells := 0, slots := 0, locals := 41 } [.ref (g 0), .int (Int32.ofInt x1)] D (TYs k) (mW k g σ) (fun _ => True) Unit (fun _ => True) (fun _ => mW k g r) 0 0 := by
  intro sz
  refine x_met (cc := cX12_readSeq) (maxL := 4) (ret := none) (by decide) rfl (Nat.le_of_ble_eq_true rfl) ?_
  intro p e s m below meth c ls C hX hsz hr hlk hmn hl h
  have hl : lv_has ls 4 [(0, .ref (g 0)), (1, .int (Int32.ofInt x1))] := hl
  rw [r_readSeq] at hm
  refine lv_aload_n C.1 C.2.1 dX12_readSeq_0 rfl (lv_at hl 0 rfl) ?_
  refine fg_44 C h dX12_readSeq_1 ?_
  refine lv_iload_n C.1 C.2.1 dX12_readSeq_4 rfl (lv_at hl 1 rfl) ?_
  obtain ⟨g1, hm⟩ := grd_s hm
  refine al_72 C h dX12_readSeq_5 g1 ?_
  obtain ⟨g2, hm⟩ := grd_s hm
  refine z_if_ne (tgt := 71) C dX12_readSeq_6 (by decide) g2 (fun c3 => ?_) (fun c3 => ?_)
  · have hm := ite_f c3 hm
    refine lv_aload_n C.1 C.2.1 dX12_readSeq_71 rfl (lv_at hl 0 rfl) ?_
    refine lv_aload_n C.1 C.2.1 dX12_readSeq_72 rfl (lv_at hl 0 rfl) ?_
    refine fg_43 C h dX12_readSeq_73 ?_
    refine lv_iload_n C.1 C.2.1 dX12_readSeq_76 rfl (lv_at hl 1 rfl) ?_
    refine al_73 C h dX12_readSeq_77 g1 ?_
    refine lv_aload_n C.1 C.2.1 dX12_readSeq_78 rfl (lv_at hl 0 rfl) ?_
    refine fg_46 C h dX12_readSeq_79 ?_
    obtain ⟨r4, e5, hm⟩ := obd_s hm
    refine q_callVv C h (rc_append l D k g N σ (el σ 73 x1) (fl σ 46 0) r4 e5) (cwV 2 C.2.2.1 (gR_append _) rfl rfl rfl hd_append ⟨Nat.le_of_ble_eq_true rfl, Nat.le_of_ble_eq_true rfl⟩) rfl hl.1 rfl (Nat.le_of_ble_eq_true rfl) dX12_readSeq_82 ⟨Nat.le_of_ble_eq_true rfl, Nat.le_of_ble_eq_true rfl⟩ (fun H locs h => ?_)
    refine lv_aload_n C.1 C.2.1 dX12_readSeq_85 rfl (lv_at hl 0 rfl) ?_
    refine lv_aload_n C.1 C.2.1 dX12_readSeq_86 rfl (lv_at hl 0 rfl) ?_
    refine fg_2 C h dX12_readSeq_87 ?_
    refine lv_iconst (v := Int32.ofInt 1) C.1 C.2.1 dX12_readSeq_90 (by decide) ?_
    refine z_isub C dX12_readSeq_91 ?_
    obtain ⟨r6, e7, hm⟩ := obd_s hm
    refine q_callVi C h (rc_byteAt l D k g N r4 ((fl r4 2 0) - 1) r6 e7) (cwV 1 C.2.2.1 (gR_byteAt _) rfl rfl rfl hd_byteAt ⟨Nat.le_of_ble_eq_true rfl, Nat.le_of_ble_eq_true rfl⟩) rfl hl.1 rfl (Nat.le_of_ble_eq_true rfl) dX12_readSeq_92 ⟨Nat.le_of_ble_eq_true rfl, Nat.le_of_ble_eq_true rfl⟩ (fun H locs h => ?_)
    refine lv_bipush (v := Int32.ofInt 32) C.1 C.2.1 dX12_readSeq_95 (by decide) ?_
    obtain ⟨g8, hm⟩ := grd_s hm
    refine z_icmp_eq (tgt := 113) C dX12_readSeq_97 (by decide) g8 (by decide) (fun c9 => ?_) (fun c9 => ?_)
    · have hm := ite_t c9 hm
      exact lm_readSeq_113 (N := N) C hr hlk  (lv_sub hl [0, 1] rfl) h hm
    · have hm := ite_f c9 hm
      refine lv_aload_n C.1 C.2.1 dX12_readSeq_100 rfl (lv_at hl 0 rfl) ?_
      refine lv_aload_n C.1 C.2.1 dX12_readSeq_101 rfl (lv_at hl 0 rfl) ?_
      refine fg_2 C h dX12_readSeq_102 ?_
      obtain ⟨r10, e11, hm⟩ := obd_s hm
      refine q_callVi C h (rc_byteAt l D k g N r6.1 (fl r6.1 2 0) r10 e11) (cwV 1 C.2.2.1 (gR_byteAt _) rfl rfl rfl hd_byteAt ⟨Nat.le_of_ble_eq_true rfl, Nat.le_of_ble_eq_true rfl⟩) rfl hl.1 rfl (Nat.le_of_ble_eq_true rfl) dX12_readSeq_105 ⟨Nat.le_of_ble_eq_true rfl, Nat.le_of_ble_eq_true rfl⟩ (fun H locs h => ?_)
      refine lv_bipush (v := Int32.ofInt 32) C.1 C.2.1 dX12_readSeq_108 (by decide) ?_
      obtain ⟨g12, hm⟩ := grd_s hm
      refine z_icmp_ne (tgt := 117) C dX12_readSeq_110 (by decide) g12 (by decide) (fun c13 => ?_) (fun c13 => ?_)
      · have hm := ite_f c13 hm
        refine lv_iconst (v := Int32.ofInt 0) C.1 C.2.1 dX12_readSeq_117 (by decide) ?_
        exact lm_readSeq_118 (N := N) C hr hlk  (lv_sub hl [0, 1] rfl) h hm
      · have hm := ite_t c13 hm
        exact lm_readSeq_113 (N := N) C hr hlk  (lv_sub hl [0, 1] rfl) h hm
  · have hm := ite_t c3 hm
    refine lv_aload_n C.1 C.2.1 dX12_readSeq_9 rfl (lv_at hl 0 rfl) ?_
    obtain ⟨r14, e15, hm⟩ := obd_s hm
    refine q_callVv C h (rc_skip l D k g N σ  r14 e15) (cwV 0 C.2.2.1 (gR_skip _) rfl rfl rfl hd_skip ⟨Nat.le_of_ble_eq_true rfl, Nat.le_of_ble_eq_true rfl⟩) rfl hl.1 rfl (Nat.le_of_ble_eq_true rfl) dX12_readSeq_10 ⟨Nat.le_of_ble_eq_true rfl, Nat.le_of_ble_eq_true rfl⟩ (fun H locs h => ?_)
    refine lv_aload_n C.1 C.2.1 dX12_readSeq_13 rfl (lv_at hl 0 rfl) ?_
    refine fg_45 C h dX12_readSeq_14 ?_
    refine lv_iload_n C.1 C.2.1 dX12_readSeq_17 rfl (lv_at hl 1 rfl) ?_
    refine al_71 C h dX12_readSeq_18 g1 ?_
    obtain ⟨g16, hm⟩ := grd_s hm
    refine z_if_ne (tgt := 41) C dX12_readSeq_19 (by decide) g16 (fun c17 => ?_) (fun c17 => ?_)
    · have hm := ite_f c17 hm
      refine lv_aload_n C.1 C.2.1 dX12_readSeq_41 rfl (lv_at hl 0 rfl) ?_
      refine fg_43 C h dX12_readSeq_42 ?_
      refine lv_iload_n C.1 C.2.1 dX12_readSeq_45 rfl (lv_at hl 1 rfl) ?_
      refine lv_aload_n C.1 C.2.1 dX12_readSeq_46 rfl (lv_at hl 0 rfl) ?_
      refine fg_45 C h dX12_readSeq_47 ?_
      refine lv_iload_n C.1 C.2.1 dX12_readSeq_50 rfl (lv_at hl 1 rfl) ?_
      refine al_71 C h dX12_readSeq_51 g1 ?_
      refine lv_iconst (v := Int32.ofInt 1) C.1 C.2.1 dX12_readSeq_52 (by decide) ?_
      refine z_isub C dX12_readSeq_53 ?_
      refine as_73 C h dX12_readSeq_54 g1 (fun H locs h => ?_)
      exact lm_readSeq_55 (N := N) C hr hlk  (lv_sub hl [0, 1] rfl) h hm
    · have hm := ite_t c17 hm
      refine lv_aload_n C.1 C.2.1 dX12_readSeq_22 rfl (lv_at hl 0 rfl) ?_
      refine fg_43 C h dX12_readSeq_23 ?_
      refine lv_iload_n C.1 C.2.1 dX12_readSeq_26 rfl (lv_at hl 1 rfl) ?_
      refine lv_aload_n C.1 C.2.1 dX12_readSeq_27 rfl (lv_at hl 0 rfl) ?_
      refine lv_bipush (v := Int32.ofInt 23) C.1 C.2.1 dX12_readSeq_28 (by decide) ?_
      refine lv_aload_n C.1 C.2.1 dX12_readSeq_30 rfl (lv_at hl 0 rfl) ?_
      refine fg_2 C h dX12_readSeq_31 ?_
      obtain ⟨r18, e19, hm⟩ := obd_s hm
      refine q_callVi C h (rc_node l D k g N r14 23 (fl r14 2 0) r18 e19) (cwV 2 C.2.2.1 (gR_node _) rfl rfl rfl hd_node ⟨Nat.le_of_ble_eq_true rfl, Nat.le_of_ble_eq_true rfl⟩) rfl hl.1 rfl (Nat.le_of_ble_eq_true rfl) dX12_readSeq_34 ⟨Nat.le_of_ble_eq_true rfl, Nat.le_of_ble_eq_true rfl⟩ (fun H locs h => ?_)
      refine as_73 C h dX12_readSeq_37 g1 (fun H locs h => ?_)
      refine lv_goto (tgt := 55) C.1 C.2.1 dX12_readSeq_38 (by decide) ?_
      exact lm_readSeq_55 (N := N) C hr hlk  (lv_sub hl [0, 1] rfl) h hm
end L_readSeq
section L_spread
variable {p : Program} {l : Launch} {e : Env} {s : State} {m : MethodId} {args : Array Value} {below : List Frame} {meth : Method} {c : Code} {D : va_G} {A : Nat → Prop} {k : Nat → ClassId} {g : Nat → Nat} {N : Nat} {cd : Cond}
set_option maxHeartbeats 4000000 in
set_option maxRecDepth 100000 in
theorem lm_spread_115 {r : St} (C : Cx p s m args c cX12_spread RX12 (cd :: rW) D (TYs k) 4) (hr : meth.sig.returnType = none) (hlk : meth.locks = false)  {ls : Array Slot} {H : Heap} {locs : List Loc} {σ : St}  (hl : lv_has ls 4 [(0, .ref (g 0))]) (h : Hp D A s.heap H locs (mW k g σ)) (hm : r_spread_115 N  σ  = some r) : W p l e { frames := 4, cells := 0, slots := 0, locals := 86 } s m args below meth c H locs 0 0 (MQ below (va_Qv (fun (_ : Unit) => True) (fun _ t => PostW D (TYs k) A (mW k g r) t) A) args s 0 0 A) (F0 m 115 ls []) := by
  rw [r_spread_115] at hm
  refine lv_aload_n C.1 C.2.1 dX12_spread_115 rfl (lv_at hl 0 rfl) ?_
  refine lv_bipush (v := Int32.ofInt 41) C.1 C.2.1 dX12_spread_116 (by decide) ?_
  obtain ⟨r32, e33, hm⟩ := obd_s hm
  refine q_callVv C h (rc_need l D k g N σ 41 r32 e33) (cwV 1 C.2.2.1 (gR_need _) rfl rfl rfl hd_need ⟨Nat.le_of_ble_eq_true rfl, Nat.le_of_ble_eq_true rfl⟩) rfl hl.1 rfl (Nat.le_of_ble_eq_true rfl) dX12_spread_118 ⟨Nat.le_of_ble_eq_true rfl, Nat.le_of_ble_eq_true rfl⟩ (fun H locs h => ?_)
  cases hm
  exact q_vret C h hr hlk dX12_spread_121
set_option maxHeartbeats 4000000 in
set_option maxRecDepth 100000 in
theorem lm_spread_68 {r : St} (C : Cx p s m args c cX12_spread RX12 (cd :: rW) D (TYs k) 4) (hr : meth.sig.returnType = none) (hlk : meth.locks = false)  {ls : Array Slot} {H : Heap} {locs : List Loc} {σ : St} {x1 : Int} (hl : lv_has ls 4 [(0, .ref (g 0)), (1, .int (Int32.ofInt x1))]) (h : Hp D A s.heap H locs (mW k g σ)) (hm : r_spread_68 N  σ x1 = some r) : W p l e { frames := 4, cells := 0, slots := 0, locals := 86 } s m args below meth c H locs 0 0 (MQ below (va_Qv (fun (_ : Unit) => True) (fun _ t => PostW D (TYs k) A (mW k g r) t) A) args s 0 0 A) (F0 m 68 ls []) := by
  rw [r_spread_68] at hm
  refine lv_aload_n C.1 C.2.1 dX12_spread_68 rfl (lv_at hl 0 rfl) ?_
  obtain ⟨r19, e20, hm⟩ := obd_s hm
  refine q_callVv C h (rc_skip l D k g N σ  r19 e20) (cwV 0 C.2.2.1 (gR_skip _) rfl rfl rfl hd_skip ⟨Nat.le_of_ble_eq_true rfl, Nat.le_of_ble_eq_true rfl⟩) rfl hl.1 rfl (Nat.le_of_ble_eq_true rfl) dX12_spread_69 ⟨Nat.le_of_ble_eq_true rfl, Nat.le_of_ble_eq_true rfl⟩ (fun H locs h => ?_)
  refine lv_aload_n C.1 C.2.1 dX12_spread_72 rfl (lv_at hl 0 rfl) ?_
  refine fg_11 C h dX12_spread_73 ?_
  obtain ⟨g21, hm⟩ := grd_s hm
  refine z_if_ne (tgt := 115) C dX12_spread_76 (by decide) g21 (fun c22 => ?_) (fun c22 => ?_)
  · have hm := ite_f c22 hm
    exact lm_spread_115 (N := N) C hr hlk  (lv_sub hl [0] rfl) h hm
  · have hm := ite_t c22 hm
    refine lv_aload_n C.1 C.2.1 dX12_spread_79 rfl (lv_at hl 0 rfl) ?_
    refine lv_aload_n C.1 C.2.1 dX12_spread_80 rfl (lv_at hl 0 rfl) ?_
    refine fg_2 C h dX12_spread_81 ?_
    obtain ⟨r23, e24, hm⟩ := obd_s hm
    refine q_callVi C h (rc_byteAt l D k g N r19 (fl r19 2 0) r23 e24) (cwV 1 C.2.2.1 (gR_byteAt _) rfl rfl rfl hd_byteAt ⟨Nat.le_of_ble_eq_true rfl, Nat.le_of_ble_eq_true rfl⟩) rfl hl.1 rfl (Nat.le_of_ble_eq_true rfl) dX12_spread_84 ⟨Nat.le_of_ble_eq_true rfl, Nat.le_of_ble_eq_true rfl⟩ (fun H locs h => ?_)
    refine lv_bipush (v := Int32.ofInt 44) C.1 C.2.1 dX12_spread_87 (by decide) ?_
    obtain ⟨g25, hm⟩ := grd_s hm
    refine z_icmp_ne (tgt := 115) C dX12_spread_89 (by decide) g25 (by decide) (fun c26 => ?_) (fun c26 => ?_)
    · have hm := ite_f c26 hm
      exact lm_spread_115 (N := N) C hr hlk  (lv_sub hl [0] rfl) h hm
    · have hm := ite_t c26 hm
      refine lv_aload_n C.1 C.2.1 dX12_spread_92 rfl (lv_at hl 0 rfl) ?_
      refine lv_dup C.1 C.2.1 dX12_spread_93 rfl ?_
      refine fg_2 C h dX12_spread_94 ?_
      refine lv_iconst (v := Int32.ofInt 1) C.1 C.2.1 dX12_spread_97 (by decide) ?_
      refine z_iadd C dX12_spread_98 ?_
      refine fp_2 C h dX12_spread_99 (fun H locs h => ?_)
      refine lv_aload_n C.1 C.2.1 dX12_spread_102 rfl (lv_at hl 0 rfl) ?_
      refine fg_21 C h dX12_spread_103 ?_
      refine lv_iload_n C.1 C.2.1 dX12_spread_106 rfl (lv_at hl 1 rfl) ?_
      refine lv_aload_n C.1 C.2.1 dX12_spread_107 rfl (lv_at hl 0 rfl) ?_
      refine lv_iconst (v := Int32.ofInt 0) C.1 C.2.1 dX12_spread_108 (by decide) ?_
      refine lv_bipush (v := Int32.ofInt 31) C.1 C.2.1 dX12_spread_109 (by decide) ?_
      obtain ⟨σ27, e28, hm⟩ := bnd_s hm
      rw [e28] at h
      obtain ⟨r29, e30, hm⟩ := obd_s hm
      refine q_callVi C h (rc_numberIn l D k g N σ27 0 31 r29 e30) (cwV 2 C.2.2.1 (gR_numberIn _) rfl rfl rfl hd_numberIn ⟨Nat.le_of_ble_eq_true rfl, Nat.le_of_ble_eq_true rfl⟩) rfl hl.1 rfl (Nat.le_of_ble_eq_true rfl) dX12_spread_111 ⟨Nat.le_of_ble_eq_true rfl, Nat.le_of_ble_eq_true rfl⟩ (fun H locs h => ?_)
      obtain ⟨g31, hm⟩ := grd_s hm
      refine as_90 C h dX12_spread_114 g31 (fun H locs h => ?_)
      exact lm_spread_115 (N := N) C hr hlk  (lv_sub hl [0] rfl) h hm
set_option maxHeartbeats 4000000 in
set_option maxRecDepth 100000 in
theorem rc_spread (l : Launch) (D : va_G) (k : Nat → ClassId) (g : Nat → Nat) (N : Nat) (σ : St) (x1 : Int) (r : St) (hm : r_spread N σ x1 = some r) : Mv l yX12_spread (.code yX12_spread cX12_spread 4 none :: rW) { frames := 4, cells := 0, slots := 0, locals := 86 } [.ref (g 0), .int (Int32.ofInt x1)] D (TYs k) (mW k g σ) (fun _ => True) Unit (fun _ => True) (fun _ => mW k g r) 0 0 := by
  intro sz
  refine x_met (cc := cX12_spread) (maxL := 4) (ret := none) (by decide) rfl (Nat.le_of_ble_eq_true rfl) ?_
  intro p e s m below meth c ls C hX hsz hr hlk hmn hl h
  have hl : lv_has ls 4 [(0, .ref (g 0)), (1, .int (Int32.ofInt x1))] := hl
  rw [r_spread] at hm
  refine lv_aload_n C.1 C.2.1 dX12_spread_0 rfl (lv_at hl 0 rfl) ?_
  obtain ⟨r1, e2, hm⟩ := obd_s hm
  refine q_callVi C h (rc_plainNumber l D k g N σ  r1 e2) (cwV 0 C.2.2.1 (gR_plainNumber _) rfl rfl rfl hd_plainNumber ⟨Nat.le_of_ble_eq_true rfl, Nat.le_of_ble_eq_true rfl⟩) rfl hl.1 rfl (Nat.le_of_ble_eq_true rfl) dX12_spread_1 ⟨Nat.le_of_ble_eq_true rfl, Nat.le_of_ble_eq_true rfl⟩ (fun H locs h => ?_)
  refine lv_istore_n (lv' := [(2, .int (Int32.ofInt r1.2)), (0, .ref (g 0)), (1, .int (Int32.ofInt x1))]) C.1 C.2.1 dX12_spread_4 rfl hl (by decide) rfl (fun ls hl => ?_)
  refine lv_aload_n C.1 C.2.1 dX12_spread_5 rfl (lv_at hl 1 rfl) ?_
  refine fg_4 C h dX12_spread_6 ?_
  refine lv_istore_n (lv' := [(3, .int (Int32.ofInt (fl r1.1 4 0))), (2, .int (Int32.ofInt r1.2)), (0, .ref (g 0)), (1, .int (Int32.ofInt x1))]) C.1 C.2.1 dX12_spread_9 rfl hl (by decide) rfl (fun ls hl => ?_)
  refine lv_aload_n C.1 C.2.1 dX12_spread_10 rfl (lv_at hl 2 rfl) ?_
  refine lv_bipush (v := Int32.ofInt 44) C.1 C.2.1 dX12_spread_11 (by decide) ?_
  obtain ⟨r3, e4, hm⟩ := obd_s hm
  refine q_callVv C h (rc_need l D k g N r1.1 44 r3 e4) (cwV 1 C.2.2.1 (gR_need _) rfl rfl rfl hd_need ⟨Nat.le_of_ble_eq_true rfl, Nat.le_of_ble_eq_true rfl⟩) rfl hl.1 rfl (Nat.le_of_ble_eq_true rfl) dX12_spread_13 ⟨Nat.le_of_ble_eq_true rfl, Nat.le_of_ble_eq_true rfl⟩ (fun H locs h => ?_)
  refine lv_aload_n C.1 C.2.1 dX12_spread_16 rfl (lv_at hl 2 rfl) ?_
  refine fg_11 C h dX12_spread_17 ?_
  obtain ⟨g5, hm⟩ := grd_s hm
  refine z_if_eq (tgt := 24) C dX12_spread_20 (by decide) g5 (fun c6 => ?_) (fun c6 => ?_)
  · have hm := ite_t c6 hm
    refine lv_aload_n C.1 C.2.1 dX12_spread_24 rfl (lv_at hl 2 rfl) ?_
    refine fg_20 C h dX12_spread_25 ?_
    refine lv_iload_n C.1 C.2.1 dX12_spread_28 rfl (lv_at hl 3 rfl) ?_
    refine lv_aload_n C.1 C.2.1 dX12_spread_29 rfl (lv_at hl 2 rfl) ?_
    refine lv_iconst (v := Int32.ofInt 1) C.1 C.2.1 dX12_spread_30 (by decide) ?_
    refine lv_bipush (v := Int32.ofInt 32) C.1 C.2.1 dX12_spread_31 (by decide) ?_
    obtain ⟨r7, e8, hm⟩ := obd_s hm
    refine q_callVi C h (rc_numberIn l D k g N r3 1 32 r7 e8) (cwV 2 C.2.2.1 (gR_numberIn _) rfl rfl rfl hd_numberIn ⟨Nat.le_of_ble_eq_true rfl, Nat.le_of_ble_eq_true rfl⟩) rfl hl.1 rfl (Nat.le_of_ble_eq_true rfl) dX12_spread_33 ⟨Nat.le_of_ble_eq_true rfl, Nat.le_of_ble_eq_true rfl⟩ (fun H locs h => ?_)
    obtain ⟨g9, hm⟩ := grd_s hm
    refine as_91 C h dX12_spread_36 g9 (fun H locs h => ?_)
    refine lv_aload_n C.1 C.2.1 dX12_spread_37 rfl (lv_at hl 2 rfl) ?_
    refine fg_11 C h dX12_spread_38 ?_
    refine x_topi (y := Int32.ofInt (fl r7.1 11 0)) rfl ?_
    obtain ⟨g10, hm⟩ := grd_s hm
    refine z_if_eq (tgt := 45) C dX12_spread_41 (by decide) g10 (fun c11 => ?_) (fun c11 => ?_)
    · have hm := ite_t c11 hm
      refine lv_aload_n C.1 C.2.1 dX12_spread_45 rfl (lv_at hl 2 rfl) ?_
      refine fg_19 C h dX12_spread_46 ?_
      refine lv_iload_n C.1 C.2.1 dX12_spread_49 rfl (lv_at hl 3 rfl) ?_
      refine lv_iload_n C.1 C.2.1 dX12_spread_50 rfl (lv_at hl 1 rfl) ?_
      refine as_92 C h dX12_spread_51 g9 (fun H locs h => ?_)
      refine lv_iload_n C.1 C.2.1 dX12_spread_52 rfl (lv_at hl 1 rfl) ?_
      refine lv_aload_n C.1 C.2.1 dX12_spread_53 rfl (lv_at hl 2 rfl) ?_
      refine fg_20 C h dX12_spread_54 ?_
      refine lv_iload_n C.1 C.2.1 dX12_spread_57 rfl (lv_at hl 3 rfl) ?_
      refine al_91 C h dX12_spread_58 g9 ?_
      refine x_topi (y := Int32.ofInt r7.2) (by simp [el, se, sf]) ?_
      obtain ⟨g12, hm⟩ := grd_s hm
      obtain ⟨g13, hm⟩ := grd_s hm
      refine z_icmp_le (tgt := 68) C dX12_spread_59 (by decide) g12 g13 (fun c14 => ?_) (fun c14 => ?_)
      · have hm := ite_f c14 hm
        exact lm_spread_68 (N := N) C hr hlk  (lv_sub hl [2, 3] rfl) h hm
      · have hm := ite_t c14 hm
        refine lv_aload_n C.1 C.2.1 dX12_spread_62 rfl (lv_at hl 2 rfl) ?_
        refine lv_iconst (v := Int32.ofInt 3) C.1 C.2.1 dX12_spread_63 (by decide) ?_
        refine lv_iload_n C.1 C.2.1 dX12_spread_64 rfl (lv_at hl 0 rfl) ?_
        obtain ⟨σ15, e16, hm⟩ := bnd_s hm
        rw [e16] at h
        obtain ⟨r17, e18, hm⟩ := obd_s hm
        refine q_callVv C h (rc_fail l D k g N σ15 3 (fl r1.1 4 0) r17 e18) (cwV 2 C.2.2.1 (gR_fail _) rfl rfl rfl hd_fail ⟨Nat.le_of_ble_eq_true rfl, Nat.le_of_ble_eq_true rfl⟩) rfl hl.1 rfl (Nat.le_of_ble_eq_true rfl) dX12_spread_65 ⟨Nat.le_of_ble_eq_true rfl, Nat.le_of_ble_eq_true rfl⟩ (fun H locs h => ?_)
        exact lm_spread_68 (N := N) C hr hlk  (lv_sub hl [2, 3] rfl) h hm
    · have hm := ite_f c11 hm
      cases hm
      exact q_vret C h hr hlk dX12_spread_44
  · have hm := ite_f c6 hm
    cases hm
    exact q_vret C h hr hlk dX12_spread_23
end L_spread
