section L_readChange
variable {p : Program} {l : Launch} {e : Env} {s : State} {m : MethodId} {args : Array Value} {below : List Frame} {meth : Method} {c : Code} {D : va_G} {A : Nat → Prop} {k : Nat → ClassId} {g : Nat → Nat} {N : Nat} {cd : Cond}
set_option maxHeartbeats 4000000 in
set_option maxRecDepth 100000 in
theorem lm_readChange_132 {r : St × Int} (C : Cx p s m args c cX12_readChange RX12 (cd :: rW) D (TYs k) 5) (hr : meth.sig.returnType = (some .int)) (hlk : meth.locks = false)  {ls : Array Slot} {H : Heap} {locs : List Loc} {σ : St} {x2 : Int} {x4 : Int} (hl : lv_has ls 5 [(0, .ref (g 0)), (2, .int (Int32.ofInt x2)), (4, .int (Int32.ofInt x4))]) (h : Hp D A s.heap H locs (mW k g σ)) (hm : r_readChange_132 N  σ x2 x4 = some r) : W p l e { frames := 5, cells := 0, slots := 0, locals := 109 } s m args below meth c H locs 0 0 (MQ below (va_Qi (fun v (_ : Unit) => v = Int32.ofInt r.2) (fun _ t => PostW D (TYs k) A (mW k g r.1) t) A) args s 0 0 A) (F0 m 132 ls []) := by
  rw [r_readChange_132] at hm
  refine lv_aload_n C.1 C.2.1 dX12_readChange_132 rfl (lv_at hl 0 rfl) ?_
  refine lv_iload C.1 C.2.1 dX12_readChange_133 (lv_at hl 2 rfl) ?_
  refine lv_iload_n C.1 C.2.1 dX12_readChange_135 rfl (lv_at hl 1 rfl) ?_
  obtain ⟨r25, e26, hm⟩ := obd_s hm
  refine q_callVv C h (rc_append l D k g N σ x4 x2 r25 e26) (cwV 2 C.2.2.1 (gR_append _) rfl rfl rfl hd_append ⟨Nat.le_of_ble_eq_true rfl, Nat.le_of_ble_eq_true rfl⟩) rfl hl.1 rfl (Nat.le_of_ble_eq_true rfl) dX12_readChange_136 ⟨Nat.le_of_ble_eq_true rfl, Nat.le_of_ble_eq_true rfl⟩ (fun H locs h => ?_)
  refine lv_iload C.1 C.2.1 dX12_readChange_139 (lv_at hl 2 rfl) ?_
  cases hm
  exact q_iret C h hr hlk dX12_readChange_141 rfl
set_option maxHeartbeats 4000000 in
set_option maxRecDepth 100000 in
theorem lm_readChange_112 {r : St × Int} (C : Cx p s m args c cX12_readChange RX12 (cd :: rW) D (TYs k) 5) (hr : meth.sig.returnType = (some .int)) (hlk : meth.locks = false)  {ls : Array Slot} {H : Heap} {locs : List Loc} {σ : St} {x2 : Int} {x3 : Int} {s0 : Int} (hl : lv_has ls 5 [(0, .ref (g 0)), (2, .int (Int32.ofInt x2)), (3, .int (Int32.ofInt x3))]) (h : Hp D A s.heap H locs (mW k g σ)) (hm : r_readChange_112 N  σ x2 x3 s0 = some r) : W p l e { frames := 5, cells := 0, slots := 0, locals := 109 } s m args below meth c H locs 0 0 (MQ below (va_Qi (fun v (_ : Unit) => v = Int32.ofInt r.2) (fun _ t => PostW D (TYs k) A (mW k g r.1) t) A) args s 0 0 A) (F0 m 112 ls [.int (Int32.ofInt s0), .ref (g 0)]) := by
  rw [r_readChange_112] at hm
  refine lv_iload_n C.1 C.2.1 dX12_readChange_112 rfl (lv_at hl 2 rfl) ?_
  obtain ⟨r20, e21, hm⟩ := obd_s hm
  refine q_callVi C h (rc_node l D k g N σ s0 x3 r20 e21) (cwV 2 C.2.2.1 (gR_node _) rfl rfl rfl hd_node ⟨Nat.le_of_ble_eq_true rfl, Nat.le_of_ble_eq_true rfl⟩) rfl hl.1 rfl (Nat.le_of_ble_eq_true rfl) dX12_readChange_113 ⟨Nat.le_of_ble_eq_true rfl, Nat.le_of_ble_eq_true rfl⟩ (fun H locs h => ?_)
  refine lv_istore (lv' := [(4, .int (Int32.ofInt r20.2)), (0, .ref (g 0)), (2, .int (Int32.ofInt x2)), (3, .int (Int32.ofInt x3))]) C.1 C.2.1 dX12_readChange_116 hl (by decide) rfl (fun ls hl => ?_)
  refine lv_aload_n C.1 C.2.1 dX12_readChange_118 rfl (lv_at hl 1 rfl) ?_
  refine fg_19 C h dX12_readChange_119 ?_
  refine lv_iload C.1 C.2.1 dX12_readChange_122 (lv_at hl 0 rfl) ?_
  refine lv_aload_n C.1 C.2.1 dX12_readChange_124 rfl (lv_at hl 1 rfl) ?_
  refine lv_iconst (v := Int32.ofInt 1) C.1 C.2.1 dX12_readChange_125 (by decide) ?_
  refine lv_bipush (v := Int32.ofInt 32) C.1 C.2.1 dX12_readChange_126 (by decide) ?_
  obtain ⟨r22, e23, hm⟩ := obd_s hm
  refine q_callVi C h (rc_numberIn l D k g N r20.1 1 32 r22 e23) (cwV 2 C.2.2.1 (gR_numberIn _) rfl rfl rfl hd_numberIn ⟨Nat.le_of_ble_eq_true rfl, Nat.le_of_ble_eq_true rfl⟩) rfl hl.1 rfl (Nat.le_of_ble_eq_true rfl) dX12_readChange_128 ⟨Nat.le_of_ble_eq_true rfl, Nat.le_of_ble_eq_true rfl⟩ (fun H locs h => ?_)
  obtain ⟨g24, hm⟩ := grd_s hm
  refine as_92 C h dX12_readChange_131 g24 (fun H locs h => ?_)
  exact lm_readChange_132 (N := N) C hr hlk  (lv_sub hl [1, 2, 0] rfl) h hm
set_option maxHeartbeats 4000000 in
set_option maxRecDepth 100000 in
theorem rc_readChange (l : Launch) (D : va_G) (k : Nat → ClassId) (g : Nat → Nat) (N : Nat) (σ : St) (x1 : Int) (x2 : Int) (r : St × Int) (hm : r_readChange N σ x1 x2 = some r) : Mi l yX12_readChange (.code yX12_readChange cX12_readChange 5 (some .int) :: rW) { frames := 5, cells := 0, slots := 0, locals := 109 } [.ref (g 0), .int (Int32.ofInt x1), .int (Int32.ofInt x2)] D (TYs k) (mW k g σ) (fun _ => True) Unit (fun v _ => v = Int32.ofInt r.2) (fun _ => mW k g r.1) 0 0 := by
  intro sz
  refine x_met (cc := cX12_readChange) (maxL := 5) (ret := (some .int)) (by decide) rfl (Nat.le_of_ble_eq_true rfl) ?_
  intro p e s m below meth c ls C hX hsz hr hlk hmn hl h
  have hl : lv_has ls 5 [(0, .ref (g 0)), (1, .int (Int32.ofInt x1)), (2, .int (Int32.ofInt x2))] := hl
  rw [r_readChange] at hm
  refine lv_aload_n C.1 C.2.1 dX12_readChange_0 rfl (lv_at hl 0 rfl) ?_
  refine fg_2 C h dX12_readChange_1 ?_
  refine lv_istore_n (lv' := [(3, .int (Int32.ofInt (fl σ 2 0))), (0, .ref (g 0)), (1, .int (Int32.ofInt x1)), (2, .int (Int32.ofInt x2))]) C.1 C.2.1 dX12_readChange_4 rfl hl (by decide) rfl (fun ls hl => ?_)
  refine lv_aload_n C.1 C.2.1 dX12_readChange_5 rfl (lv_at hl 1 rfl) ?_
  refine lv_dup C.1 C.2.1 dX12_readChange_6 rfl ?_
  refine fg_2 C h dX12_readChange_7 ?_
  refine lv_iconst (v := Int32.ofInt 1) C.1 C.2.1 dX12_readChange_10 (by decide) ?_
  refine z_iadd C dX12_readChange_11 ?_
  refine fp_2 C h dX12_readChange_12 (fun H locs h => ?_)
  refine lv_iload_n C.1 C.2.1 dX12_readChange_15 rfl (lv_at hl 2 rfl) ?_
  refine lv_bipush (v := Int32.ofInt 63) C.1 C.2.1 dX12_readChange_16 (by decide) ?_
  obtain ⟨g1, hm⟩ := grd_s hm
  refine z_icmp_ne (tgt := 54) C dX12_readChange_18 (by decide) g1 (by decide) (fun c2 => ?_) (fun c2 => ?_)
  · have hm := ite_f c2 hm
    refine lv_iload_n C.1 C.2.1 dX12_readChange_54 rfl (lv_at hl 2 rfl) ?_
    refine lv_bipush (v := Int32.ofInt 40) C.1 C.2.1 dX12_readChange_55 (by decide) ?_
    refine z_icmp_ne (tgt := 98) C dX12_readChange_57 (by decide) g1 (by decide) (fun c3 => ?_) (fun c3 => ?_)
    · have hm := ite_f c3 hm
      refine lv_aload_n C.1 C.2.1 dX12_readChange_98 rfl (lv_at hl 1 rfl) ?_
      refine lv_iload_n C.1 C.2.1 dX12_readChange_99 rfl (lv_at hl 2 rfl) ?_
      refine lv_bipush (v := Int32.ofInt 42) C.1 C.2.1 dX12_readChange_100 (by decide) ?_
      refine z_icmp_ne (tgt := 110) C dX12_readChange_102 (by decide) g1 (by decide) (fun c4 => ?_) (fun c4 => ?_)
      · have hm := ite_f c4 hm
        refine lv_bipush (v := Int32.ofInt 29) C.1 C.2.1 dX12_readChange_110 (by decide) ?_
        exact lm_readChange_112 (N := N) C hr hlk  (lv_sub hl [1, 3, 0] rfl) h hm
      · have hm := ite_t c4 hm
        refine lv_bipush (v := Int32.ofInt 28) C.1 C.2.1 dX12_readChange_105 (by decide) ?_
        refine lv_goto (tgt := 112) C.1 C.2.1 dX12_readChange_107 (by decide) ?_
        exact lm_readChange_112 (N := N) C hr hlk  (lv_sub hl [1, 3, 0] rfl) h hm
    · have hm := ite_t c3 hm
      refine lv_aload_n C.1 C.2.1 dX12_readChange_60 rfl (lv_at hl 1 rfl) ?_
      refine lv_iload_n C.1 C.2.1 dX12_readChange_61 rfl (lv_at hl 0 rfl) ?_
      obtain ⟨σ5, e6, hm⟩ := bnd_s hm
      rw [e6] at h
      obtain ⟨r7, e8, hm⟩ := obd_s hm
      refine q_callVi C h (rc_isOpen l D k g N σ5 (fl σ 2 0) r7 e8) (cwV 1 C.2.2.1 (gR_isOpen _) rfl rfl rfl hd_isOpen ⟨Nat.le_of_ble_eq_true rfl, Nat.le_of_ble_eq_true rfl⟩) rfl hl.1 rfl (Nat.le_of_ble_eq_true rfl) dX12_readChange_62 ⟨Nat.le_of_ble_eq_true rfl, Nat.le_of_ble_eq_true rfl⟩ (fun H locs h => ?_)
      obtain ⟨g9, hm⟩ := grd_s hm
      refine z_if_ne (tgt := 70) C dX12_readChange_65 (by decide) g9 (fun c10 => ?_) (fun c10 => ?_)
      · have hm := ite_f c10 hm
        refine lv_aload_n C.1 C.2.1 dX12_readChange_70 rfl (lv_at hl 1 rfl) ?_
        refine lv_bipush (v := Int32.ofInt 30) C.1 C.2.1 dX12_readChange_71 (by decide) ?_
        refine lv_iload_n C.1 C.2.1 dX12_readChange_73 rfl (lv_at hl 0 rfl) ?_
        obtain ⟨r11, e12, hm⟩ := obd_s hm
        refine q_callVi C h (rc_node l D k g N r7.1 30 (fl σ 2 0) r11 e12) (cwV 2 C.2.2.1 (gR_node _) rfl rfl rfl hd_node ⟨Nat.le_of_ble_eq_true rfl, Nat.le_of_ble_eq_true rfl⟩) rfl hl.1 rfl (Nat.le_of_ble_eq_true rfl) dX12_readChange_74 ⟨Nat.le_of_ble_eq_true rfl, Nat.le_of_ble_eq_true rfl⟩ (fun H locs h => ?_)
        refine lv_istore (lv' := [(4, .int (Int32.ofInt r11.2)), (3, .int (Int32.ofInt (fl σ 2 0))), (0, .ref (g 0)), (1, .int (Int32.ofInt x1)), (2, .int (Int32.ofInt x2))]) C.1 C.2.1 dX12_readChange_77 hl (by decide) rfl (fun ls hl => ?_)
        refine lv_aload_n C.1 C.2.1 dX12_readChange_79 rfl (lv_at hl 2 rfl) ?_
        refine lv_iload C.1 C.2.1 dX12_readChange_80 (lv_at hl 0 rfl) ?_
        obtain ⟨r13, e14, hm⟩ := obd_s hm
        refine q_callVv C h (rc_spread l D k g N r11.1 r11.2 r13 e14) (cwV 1 C.2.2.1 (gR_spread _) rfl rfl rfl hd_spread ⟨Nat.le_of_ble_eq_true rfl, Nat.le_of_ble_eq_true rfl⟩) rfl hl.1 rfl (Nat.le_of_ble_eq_true rfl) dX12_readChange_82 ⟨Nat.le_of_ble_eq_true rfl, Nat.le_of_ble_eq_true rfl⟩ (fun H locs h => ?_)
        refine lv_aload_n C.1 C.2.1 dX12_readChange_85 rfl (lv_at hl 2 rfl) ?_
        refine lv_dup C.1 C.2.1 dX12_readChange_86 rfl ?_
        refine fg_13 C h dX12_readChange_87 ?_
        refine lv_iconst (v := Int32.ofInt 1) C.1 C.2.1 dX12_readChange_90 (by decide) ?_
        refine z_isub C dX12_readChange_91 ?_
        refine fp_13 C h dX12_readChange_92 (fun H locs h => ?_)
        refine lv_goto (tgt := 132) C.1 C.2.1 dX12_readChange_95 (by decide) ?_
        exact lm_readChange_132 (N := N) C hr hlk  (lv_sub hl [2, 4, 0] rfl) h hm
      · have hm := ite_t c10 hm
        refine lv_iload_n C.1 C.2.1 dX12_readChange_68 rfl (lv_at hl 3 rfl) ?_
        cases hm
        exact q_iret C h hr hlk dX12_readChange_69 rfl
  · have hm := ite_t c2 hm
    refine lv_aload_n C.1 C.2.1 dX12_readChange_21 rfl (lv_at hl 1 rfl) ?_
    refine lv_bipush (v := Int32.ofInt 31) C.1 C.2.1 dX12_readChange_22 (by decide) ?_
    refine lv_iload_n C.1 C.2.1 dX12_readChange_24 rfl (lv_at hl 0 rfl) ?_
    obtain ⟨σ15, e16, hm⟩ := bnd_s hm
    rw [e16] at h
    obtain ⟨r17, e18, hm⟩ := obd_s hm
    refine q_callVi C h (rc_node l D k g N σ15 31 (fl σ 2 0) r17 e18) (cwV 2 C.2.2.1 (gR_node _) rfl rfl rfl hd_node ⟨Nat.le_of_ble_eq_true rfl, Nat.le_of_ble_eq_true rfl⟩) rfl hl.1 rfl (Nat.le_of_ble_eq_true rfl) dX12_readChange_25 ⟨Nat.le_of_ble_eq_true rfl, Nat.le_of_ble_eq_true rfl⟩ (fun H locs h => ?_)
    refine lv_istore (lv' := [(4, .int (Int32.ofInt r17.2)), (3, .int (Int32.ofInt (fl σ 2 0))), (0, .ref (g 0)), (1, .int (Int32.ofInt x1)), (2, .int (Int32.ofInt x2))]) C.1 C.2.1 dX12_readChange_28 hl (by decide) rfl (fun ls hl => ?_)
    refine lv_aload_n C.1 C.2.1 dX12_readChange_30 rfl (lv_at hl 2 rfl) ?_
    refine fg_19 C h dX12_readChange_31 ?_
    refine lv_iload C.1 C.2.1 dX12_readChange_34 (lv_at hl 0 rfl) ?_
    refine lv_aload_n C.1 C.2.1 dX12_readChange_36 rfl (lv_at hl 2 rfl) ?_
    refine fg_47 C h dX12_readChange_37 ?_
    obtain ⟨g19, hm⟩ := grd_s hm
    refine as_92 C h dX12_readChange_40 g19 (fun H locs h => ?_)
    refine lv_aload_n C.1 C.2.1 dX12_readChange_41 rfl (lv_at hl 2 rfl) ?_
    refine lv_dup C.1 C.2.1 dX12_readChange_42 rfl ?_
    refine fg_47 C h dX12_readChange_43 ?_
    refine x_topi (y := Int32.ofInt (fl r17.1 47 0)) rfl ?_
    refine lv_iconst (v := Int32.ofInt 1) C.1 C.2.1 dX12_readChange_46 (by decide) ?_
    refine z_iadd C dX12_readChange_47 ?_
    refine fp_47 C h dX12_readChange_48 (fun H locs h => ?_)
    refine lv_goto (tgt := 132) C.1 C.2.1 dX12_readChange_51 (by decide) ?_
    exact lm_readChange_132 (N := N) C hr hlk  (lv_sub hl [2, 4, 0] rfl) h hm
end L_readChange
section L_readStep
variable {p : Program} {l : Launch} {e : Env} {s : State} {m : MethodId} {args : Array Value} {below : List Frame} {meth : Method} {c : Code} {D : va_G} {A : Nat → Prop} {k : Nat → ClassId} {g : Nat → Nat} {N : Nat} {cd : Cond}
set_option maxHeartbeats 4000000 in
set_option maxRecDepth 100000 in
theorem lm_readStep_118 {r : St} (C : Cx p s m args c cX12_readStep RX12 (cd :: rW) D (TYs k) 8) (hr : meth.sig.returnType = none) (hlk : meth.locks = false) {rec32 : St → Int → Int → Option St} (hrec32 : ∀ {ls : Array Slot} {H : Heap} {locs : List Loc} {σ : St} {x2 : Int} {x3 : Int}, lv_has ls 8 [(0, .ref (g 0)), (2, .int (Int32.ofInt x2)), (3, .int (Int32.ofInt x3))] → Hp D A s.heap H locs (mW k g σ) → rec32 σ x2 x3 = some r → W p l e { frames := 6, cells := 0, slots := 0, locals := 133 } s m args below meth c H locs 0 0 (MQ below (va_Qv (fun (_ : Unit) => True) (fun _ t => PostW D (TYs k) A (mW k g r) t) A) args s 0 0 A) (F0 m 32 ls [])) {ls : Array Slot} {H : Heap} {locs : List Loc} {σ : St} {x2 : Int} {x3 : Int} (hl : lv_has ls 8 [(0, .ref (g 0)), (2, .int (Int32.ofInt x2)), (3, .int (Int32.ofInt x3))]) (h : Hp D A s.heap H locs (mW k g σ)) (hm : r_readStep_118 N rec32 σ x2 x3 = some r) : W p l e { frames := 6, cells := 0, slots := 0, locals := 133 } s m args below meth c H locs 0 0 (MQ below (va_Qv (fun (_ : Unit) => True) (fun _ t => PostW D (TYs k) A (mW k g r) t) A) args s 0 0 A) (F0 m 118 ls []) := by
  rw [r_readStep_118] at hm
  refine lv_goto (tgt := 32) C.1 C.2.1 dX12_readStep_118 (by decide) ?_
  exact hrec32 (lv_sub hl [0, 1, 2] rfl) h hm
set_option maxHeartbeats 4000000 in
set_option maxRecDepth 100000 in
theorem lm_readStep_96 {r : St} (C : Cx p s m args c cX12_readStep RX12 (cd :: rW) D (TYs k) 8) (hr : meth.sig.returnType = none) (hlk : meth.locks = false) {rec32 : St → Int → Int → Option St} (hrec32 : ∀ {ls : Array Slot} {H : Heap} {locs : List Loc} {σ : St} {x2 : Int} {x3 : Int}, lv_has ls 8 [(0, .ref (g 0)), (2, .int (Int32.ofInt x2)), (3, .int (Int32.ofInt x3))] → Hp D A s.heap H locs (mW k g σ) → rec32 σ x2 x3 = some r → W p l e { frames := 6, cells := 0, slots := 0, locals := 133 } s m args below meth c H locs 0 0 (MQ below (va_Qv (fun (_ : Unit) => True) (fun _ t => PostW D (TYs k) A (mW k g r) t) A) args s 0 0 A) (F0 m 32 ls [])) {ls : Array Slot} {H : Heap} {locs : List Loc} {σ : St} {x2 : Int} {x4 : Int} {x5 : Int} {s0 : Int} (hl : lv_has ls 8 [(0, .ref (g 0)), (2, .int (Int32.ofInt x2)), (4, .int (Int32.ofInt x4)), (5, .int (Int32.ofInt x5))]) (h : Hp D A s.heap H locs (mW k g σ)) (hm : r_readStep_96 N rec32 σ x2 x4 x5 s0 = some r) : W p l e { frames := 6, cells := 0, slots := 0, locals := 133 } s m args below meth c H locs 0 0 (MQ below (va_Qv (fun (_ : Unit) => True) (fun _ t => PostW D (TYs k) A (mW k g r) t) A) args s 0 0 A) (F0 m 96 ls [.int (Int32.ofInt s0)]) := by
  rw [r_readStep_96] at hm
  refine lv_istore_n (lv' := [(3, .int (Int32.ofInt s0)), (0, .ref (g 0)), (2, .int (Int32.ofInt x2)), (4, .int (Int32.ofInt x4)), (5, .int (Int32.ofInt x5))]) C.1 C.2.1 dX12_readStep_96 rfl hl (by decide) rfl (fun ls hl => ?_)
  refine lv_iload_n C.1 C.2.1 dX12_readStep_97 rfl (lv_at hl 0 rfl) ?_
  obtain ⟨g29, hm⟩ := grd_s hm
  refine z_if_eq (tgt := 112) C dX12_readStep_98 (by decide) g29 (fun c30 => ?_) (fun c30 => ?_)
  · have hm := ite_t c30 hm
    refine lv_aload_n C.1 C.2.1 dX12_readStep_112 rfl (lv_at hl 1 rfl) ?_
    refine lv_iload C.1 C.2.1 dX12_readStep_113 (lv_at hl 3 rfl) ?_
    refine fp_2 C h dX12_readStep_115 (fun H locs h => ?_)
    exact lm_readStep_118 (N := N) C hr hlk hrec32 (lv_sub hl [1, 2, 0] rfl) h hm
  · have hm := ite_f c30 hm
    refine lv_aload_n C.1 C.2.1 dX12_readStep_101 rfl (lv_at hl 1 rfl) ?_
    refine lv_iload C.1 C.2.1 dX12_readStep_102 (lv_at hl 4 rfl) ?_
    refine lv_iload_n C.1 C.2.1 dX12_readStep_104 rfl (lv_at hl 2 rfl) ?_
    obtain ⟨r31, e32, hm⟩ := obd_s hm
    refine q_callVi C h (rc_readChange l D k g N σ x5 x2 r31 e32) (cwV 2 C.2.2.1 (gR_readChange _) rfl rfl rfl hd_readChange ⟨Nat.le_of_ble_eq_true rfl, Nat.le_of_ble_eq_true rfl⟩) rfl hl.1 rfl (Nat.le_of_ble_eq_true rfl) dX12_readStep_105 ⟨Nat.le_of_ble_eq_true rfl, Nat.le_of_ble_eq_true rfl⟩ (fun H locs h => ?_)
    refine lv_istore_n (lv' := [(2, .int (Int32.ofInt r31.2)), (3, .int (Int32.ofInt s0)), (0, .ref (g 0)), (4, .int (Int32.ofInt x4)), (5, .int (Int32.ofInt x5))]) C.1 C.2.1 dX12_readStep_108 rfl hl (by decide) rfl (fun ls hl => ?_)
    refine lv_goto (tgt := 118) C.1 C.2.1 dX12_readStep_109 (by decide) ?_
    exact lm_readStep_118 (N := N) C hr hlk hrec32 (lv_sub hl [2, 0, 1] rfl) h hm
set_option maxHeartbeats 4000000 in
set_option maxRecDepth 100000 in
theorem lm_readStep_91 {r : St} (C : Cx p s m args c cX12_readStep RX12 (cd :: rW) D (TYs k) 8) (hr : meth.sig.returnType = none) (hlk : meth.locks = false) {rec32 : St → Int → Int → Option St} (hrec32 : ∀ {ls : Array Slot} {H : Heap} {locs : List Loc} {σ : St} {x2 : Int} {x3 : Int}, lv_has ls 8 [(0, .ref (g 0)), (2, .int (Int32.ofInt x2)), (3, .int (Int32.ofInt x3))] → Hp D A s.heap H locs (mW k g σ) → rec32 σ x2 x3 = some r → W p l e { frames := 6, cells := 0, slots := 0, locals := 133 } s m args below meth c H locs 0 0 (MQ below (va_Qv (fun (_ : Unit) => True) (fun _ t => PostW D (TYs k) A (mW k g r) t) A) args s 0 0 A) (F0 m 32 ls [])) {ls : Array Slot} {H : Heap} {locs : List Loc} {σ : St} {x2 : Int} {x4 : Int} {x5 : Int} (hl : lv_has ls 8 [(0, .ref (g 0)), (2, .int (Int32.ofInt x2)), (4, .int (Int32.ofInt x4)), (5, .int (Int32.ofInt x5))]) (h : Hp D A s.heap H locs (mW k g σ)) (hm : r_readStep_91 N rec32 σ x2 x4 x5 = some r) : W p l e { frames := 6, cells := 0, slots := 0, locals := 133 } s m args below meth c H locs 0 0 (MQ below (va_Qv (fun (_ : Unit) => True) (fun _ t => PostW D (TYs k) A (mW k g r) t) A) args s 0 0 A) (F0 m 91 ls []) := by
  rw [r_readStep_91] at hm
  refine lv_iconst (v := Int32.ofInt 1) C.1 C.2.1 dX12_readStep_91 (by decide) ?_
  refine lv_goto (tgt := 96) C.1 C.2.1 dX12_readStep_92 (by decide) ?_
  exact lm_readStep_96 (N := N) C hr hlk hrec32 (lv_sub hl [0, 1, 2, 3] rfl) h hm
set_option maxHeartbeats 4000000 in
set_option maxRecDepth 100000 in
theorem lm_readStep_261 {r : St} (C : Cx p s m args c cX12_readStep RX12 (cd :: rW) D (TYs k) 8) (hr : meth.sig.returnType = none) (hlk : meth.locks = false) {rec161 : St → Int → Int → Option St} (hrec161 : ∀ {ls : Array Slot} {H : Heap} {locs : List Loc} {σ : St} {x4 : Int} {x5 : Int}, lv_has ls 8 [(0, .ref (g 0)), (4, .int (Int32.ofInt x4)), (5, .int (Int32.ofInt x5))] → Hp D A s.heap H locs (mW k g σ) → rec161 σ x4 x5 = some r → W p l e { frames := 6, cells := 0, slots := 0, locals := 133 } s m args below meth c H locs 0 0 (MQ below (va_Qv (fun (_ : Unit) => True) (fun _ t => PostW D (TYs k) A (mW k g r) t) A) args s 0 0 A) (F0 m 161 ls [])) {ls : Array Slot} {H : Heap} {locs : List Loc} {σ : St} {x4 : Int} {x5 : Int} (hl : lv_has ls 8 [(0, .ref (g 0)), (4, .int (Int32.ofInt x4)), (5, .int (Int32.ofInt x5))]) (h : Hp D A s.heap H locs (mW k g σ)) (hm : r_readStep_261 N rec161 σ x4 x5 = some r) : W p l e { frames := 6, cells := 0, slots := 0, locals := 133 } s m args below meth c H locs 0 0 (MQ below (va_Qv (fun (_ : Unit) => True) (fun _ t => PostW D (TYs k) A (mW k g r) t) A) args s 0 0 A) (F0 m 261 ls []) := by
  rw [r_readStep_261] at hm
  refine lv_iinc (v := Int32.ofInt (x5 + 1)) (lv' := [(5, .int (Int32.ofInt (x5 + 1))), (0, .ref (g 0)), (4, .int (Int32.ofInt x4))]) C.1 C.2.1 dX12_readStep_261 hl (k := 2) rfl (c32_add _ _) (by decide) rfl (fun ls hl => ?_)
  refine lv_goto (tgt := 161) C.1 C.2.1 dX12_readStep_264 (by decide) ?_
  exact hrec161 (lv_sub hl [1, 2, 0] rfl) h hm
set_option maxHeartbeats 4000000 in
set_option maxRecDepth 100000 in
theorem lm_readStep_204 {r : St} (C : Cx p s m args c cX12_readStep RX12 (cd :: rW) D (TYs k) 8) (hr : meth.sig.returnType = none) (hlk : meth.locks = false) {rec161 : St → Int → Int → Option St} (hrec161 : ∀ {ls : Array Slot} {H : Heap} {locs : List Loc} {σ : St} {x4 : Int} {x5 : Int}, lv_has ls 8 [(0, .ref (g 0)), (4, .int (Int32.ofInt x4)), (5, .int (Int32.ofInt x5))] → Hp D A s.heap H locs (mW k g σ) → rec161 σ x4 x5 = some r → W p l e { frames := 6, cells := 0, slots := 0, locals := 133 } s m args below meth c H locs 0 0 (MQ below (va_Qv (fun (_ : Unit) => True) (fun _ t => PostW D (TYs k) A (mW k g r) t) A) args s 0 0 A) (F0 m 161 ls [])) {ls : Array Slot} {H : Heap} {locs : List Loc} {σ : St} {x4 : Int} {x5 : Int} {x6 : Int} {s0 : Int} {s1 : Int} (hl : lv_has ls 8 [(0, .ref (g 0)), (4, .int (Int32.ofInt x4)), (5, .int (Int32.ofInt x5)), (6, .int (Int32.ofInt x6))]) (h : Hp D A s.heap H locs (mW k g σ)) (hm : r_readStep_204 N rec161 σ x4 x5 x6 s0 s1 = some r) : W p l e { frames := 6, cells := 0, slots := 0, locals := 133 } s m args below meth c H locs 0 0 (MQ below (va_Qv (fun (_ : Unit) => True) (fun _ t => PostW D (TYs k) A (mW k g r) t) A) args s 0 0 A) (F0 m 204 ls [.int (Int32.ofInt s0), .int (Int32.ofInt s1)]) := by
  rw [r_readStep_204] at hm
  obtain ⟨g44, hm⟩ := grd_s hm
  obtain ⟨g45, hm⟩ := grd_s hm
  refine z_icmp_eq (tgt := 216) C dX12_readStep_204 (by decide) g44 g45 (fun c46 => ?_) (fun c46 => ?_)
  · have hm := ite_t c46 hm
    refine lv_aload_n C.1 C.2.1 dX12_readStep_216 rfl (lv_at hl 0 rfl) ?_
    refine lv_dup C.1 C.2.1 dX12_readStep_217 rfl ?_
    refine fg_2 C h dX12_readStep_218 ?_
    refine lv_iconst (v := Int32.ofInt 1) C.1 C.2.1 dX12_readStep_221 (by decide) ?_
    refine z_iadd C dX12_readStep_222 ?_
    refine fp_2 C h dX12_readStep_223 (fun H locs h => ?_)
    refine lv_aload_n C.1 C.2.1 dX12_readStep_226 rfl (lv_at hl 0 rfl) ?_
    refine lv_iconst (v := Int32.ofInt 1) C.1 C.2.1 dX12_readStep_227 (by decide) ?_
    refine lv_bipush (v := Int32.ofInt 16) C.1 C.2.1 dX12_readStep_228 (by decide) ?_
    obtain ⟨σ47, e48, hm⟩ := bnd_s hm
    rw [e48] at h
    obtain ⟨r49, e50, hm⟩ := obd_s hm
    refine q_callVi C h (rc_numberIn l D k g N σ47 1 16 r49 e50) (cwV 2 C.2.2.1 (gR_numberIn _) rfl rfl rfl hd_numberIn ⟨Nat.le_of_ble_eq_true rfl, Nat.le_of_ble_eq_true rfl⟩) rfl hl.1 rfl (Nat.le_of_ble_eq_true rfl) dX12_readStep_230 ⟨Nat.le_of_ble_eq_true rfl, Nat.le_of_ble_eq_true rfl⟩ (fun H locs h => ?_)
    refine lv_istore (lv' := [(7, .int (Int32.ofInt r49.2)), (0, .ref (g 0)), (4, .int (Int32.ofInt x4)), (5, .int (Int32.ofInt x5)), (6, .int (Int32.ofInt x6))]) C.1 C.2.1 dX12_readStep_233 hl (by decide) rfl (fun ls hl => ?_)
    refine lv_iload C.1 C.2.1 dX12_readStep_235 (lv_at hl 3 rfl) ?_
    obtain ⟨g51, hm⟩ := grd_s hm
    refine z_if_ne (tgt := 252) C dX12_readStep_237 (by decide) g51 (fun c52 => ?_) (fun c52 => ?_)
    · have hm := ite_f c52 hm
      refine lv_aload_n C.1 C.2.1 dX12_readStep_252 rfl (lv_at hl 1 rfl) ?_
      refine fg_20 C h dX12_readStep_253 ?_
      refine lv_iload C.1 C.2.1 dX12_readStep_256 (lv_at hl 2 rfl) ?_
      refine lv_iload C.1 C.2.1 dX12_readStep_258 (lv_at hl 0 rfl) ?_
      obtain ⟨g53, hm⟩ := grd_s hm
      refine as_91 C h dX12_readStep_260 g53 (fun H locs h => ?_)
      exact lm_readStep_261 (N := N) C hr hlk hrec161 (lv_sub hl [1, 2, 3] rfl) h hm
    · have hm := ite_t c52 hm
      refine lv_aload_n C.1 C.2.1 dX12_readStep_240 rfl (lv_at hl 1 rfl) ?_
      refine fg_19 C h dX12_readStep_241 ?_
      refine lv_iload C.1 C.2.1 dX12_readStep_244 (lv_at hl 2 rfl) ?_
      refine lv_iload C.1 C.2.1 dX12_readStep_246 (lv_at hl 0 rfl) ?_
      obtain ⟨g54, hm⟩ := grd_s hm
      refine as_92 C h dX12_readStep_248 g54 (fun H locs h => ?_)
      refine lv_goto (tgt := 261) C.1 C.2.1 dX12_readStep_249 (by decide) ?_
      exact lm_readStep_261 (N := N) C hr hlk hrec161 (lv_sub hl [1, 2, 3] rfl) h hm
  · have hm := ite_f c46 hm
    refine lv_aload_n C.1 C.2.1 dX12_readStep_207 rfl (lv_at hl 0 rfl) ?_
    refine lv_iload C.1 C.2.1 dX12_readStep_208 (lv_at hl 3 rfl) ?_
    refine fp_2 C h dX12_readStep_210 (fun H locs h => ?_)
    refine lv_goto (tgt := 261) C.1 C.2.1 dX12_readStep_213 (by decide) ?_
    exact lm_readStep_261 (N := N) C hr hlk hrec161 (lv_sub hl [0, 1, 2] rfl) h hm
set_option maxHeartbeats 4000000 in
set_option maxRecDepth 100000 in
theorem lm_readStep_267 {r : St} (C : Cx p s m args c cX12_readStep RX12 (cd :: rW) D (TYs k) 8) (hr : meth.sig.returnType = none) (hlk : meth.locks = false)  {ls : Array Slot} {H : Heap} {locs : List Loc} {σ : St} {x4 : Int} (hl : lv_has ls 8 [(0, .ref (g 0)), (4, .int (Int32.ofInt x4))]) (h : Hp D A s.heap H locs (mW k g σ)) (hm : r_readStep_267 N  σ x4 = some r) : W p l e { frames := 6, cells := 0, slots := 0, locals := 133 } s m args below meth c H locs 0 0 (MQ below (va_Qv (fun (_ : Unit) => True) (fun _ t => PostW D (TYs k) A (mW k g r) t) A) args s 0 0 A) (F0 m 267 ls []) := by
  rw [r_readStep_267] at hm
  refine lv_aload_n C.1 C.2.1 dX12_readStep_267 rfl (lv_at hl 0 rfl) ?_
  refine lv_iload C.1 C.2.1 dX12_readStep_268 (lv_at hl 1 rfl) ?_
  obtain ⟨r42, e43, hm⟩ := obd_s hm
  refine q_callVv C h (rc_finish l D k g N σ x4 r42 e43) (cwV 1 C.2.2.1 (gR_finish _) rfl rfl rfl hd_finish ⟨Nat.le_of_ble_eq_true rfl, Nat.le_of_ble_eq_true rfl⟩) rfl hl.1 rfl (Nat.le_of_ble_eq_true rfl) dX12_readStep_270 ⟨Nat.le_of_ble_eq_true rfl, Nat.le_of_ble_eq_true rfl⟩ (fun H locs h => ?_)
  cases hm
  exact q_vret C h hr hlk dX12_readStep_273
set_option maxHeartbeats 4000000 in
set_option maxRecDepth 100000 in
theorem lm_readStep_161 {r : St} (C : Cx p s m args c cX12_readStep RX12 (cd :: rW) D (TYs k) 8) (hr : meth.sig.returnType = none) (hlk : meth.locks = false)  (n : Nat) : ∀ {ls : Array Slot} {H : Heap} {locs : List Loc} {σ : St} {x4 : Int} {x5 : Int}, lv_has ls 8 [(0, .ref (g 0)), (4, .int (Int32.ofInt x4)), (5, .int (Int32.ofInt x5))] → Hp D A s.heap H locs (mW k g σ) → r_readStep_161 N  n σ x4 x5 = some r → W p l e { frames := 6, cells := 0, slots := 0, locals := 133 } s m args below meth c H locs 0 0 (MQ below (va_Qv (fun (_ : Unit) => True) (fun _ t => PostW D (TYs k) A (mW k g r) t) A) args s 0 0 A) (F0 m 161 ls []) := by
  induction n with
  | zero => intro ls H locs σ x4 x5 hl h hm; cases (show none = some r from hm)
  | succ n hrec161 =>
    intro ls H locs σ x4 x5 hl h hm
    rw [r_readStep_161] at hm
    refine lv_iload C.1 C.2.1 dX12_readStep_161 (lv_at hl 2 rfl) ?_
    refine lv_iconst (v := Int32.ofInt 2) C.1 C.2.1 dX12_readStep_163 (by decide) ?_
    obtain ⟨g33, hm⟩ := grd_s hm
    refine z_icmp_ge (tgt := 267) C dX12_readStep_164 (by decide) g33 (by decide) (fun c34 => ?_) (fun c34 => ?_)
    · have hm := ite_f c34 hm
      exact lm_readStep_267 (N := N) C hr hlk  (lv_sub hl [0, 1] rfl) h hm
    · have hm := ite_t c34 hm
      refine lv_aload_n C.1 C.2.1 dX12_readStep_167 rfl (lv_at hl 0 rfl) ?_
      refine fg_11 C h dX12_readStep_168 ?_
      obtain ⟨g35, hm⟩ := grd_s hm
      refine z_if_ne (tgt := 267) C dX12_readStep_171 (by decide) g35 (fun c36 => ?_) (fun c36 => ?_)
      · have hm := ite_f c36 hm
        exact lm_readStep_267 (N := N) C hr hlk  (lv_sub hl [0, 1] rfl) h hm
      · have hm := ite_t c36 hm
        refine lv_aload_n C.1 C.2.1 dX12_readStep_174 rfl (lv_at hl 0 rfl) ?_
        refine fg_2 C h dX12_readStep_175 ?_
        refine lv_istore (lv' := [(6, .int (Int32.ofInt (fl σ 2 0))), (0, .ref (g 0)), (4, .int (Int32.ofInt x4)), (5, .int (Int32.ofInt x5))]) C.1 C.2.1 dX12_readStep_178 hl (by decide) rfl (fun ls hl => ?_)
        refine lv_aload_n C.1 C.2.1 dX12_readStep_180 rfl (lv_at hl 1 rfl) ?_
        obtain ⟨r37, e38, hm⟩ := obd_s hm
        refine q_callVv C h (rc_skip l D k g N σ  r37 e38) (cwV 0 C.2.2.1 (gR_skip _) rfl rfl rfl hd_skip ⟨Nat.le_of_ble_eq_true rfl, Nat.le_of_ble_eq_true rfl⟩) rfl hl.1 rfl (Nat.le_of_ble_eq_true rfl) dX12_readStep_181 ⟨Nat.le_of_ble_eq_true rfl, Nat.le_of_ble_eq_true rfl⟩ (fun H locs h => ?_)
        refine lv_aload_n C.1 C.2.1 dX12_readStep_184 rfl (lv_at hl 1 rfl) ?_
        refine lv_aload_n C.1 C.2.1 dX12_readStep_185 rfl (lv_at hl 1 rfl) ?_
        refine fg_2 C h dX12_readStep_186 ?_
        obtain ⟨r39, e40, hm⟩ := obd_s hm
        refine q_callVi C h (rc_byteAt l D k g N r37 (fl r37 2 0) r39 e40) (cwV 1 C.2.2.1 (gR_byteAt _) rfl rfl rfl hd_byteAt ⟨Nat.le_of_ble_eq_true rfl, Nat.le_of_ble_eq_true rfl⟩) rfl hl.1 rfl (Nat.le_of_ble_eq_true rfl) dX12_readStep_189 ⟨Nat.le_of_ble_eq_true rfl, Nat.le_of_ble_eq_true rfl⟩ (fun H locs h => ?_)
        refine lv_iload C.1 C.2.1 dX12_readStep_192 (lv_at hl 3 rfl) ?_
        refine z_if_ne (tgt := 202) C dX12_readStep_194 (by decide) g33 (fun c41 => ?_) (fun c41 => ?_)
        · have hm := ite_f c41 hm
          refine lv_bipush (v := Int32.ofInt 33) C.1 C.2.1 dX12_readStep_202 (by decide) ?_
          exact lm_readStep_204 (N := N) C hr hlk hrec161 (lv_sub hl [1, 2, 3, 0] rfl) h hm
        · have hm := ite_t c41 hm
          refine lv_bipush (v := Int32.ofInt 64) C.1 C.2.1 dX12_readStep_197 (by decide) ?_
          refine lv_goto (tgt := 204) C.1 C.2.1 dX12_readStep_199 (by decide) ?_
          exact lm_readStep_204 (N := N) C hr hlk hrec161 (lv_sub hl [1, 2, 3, 0] rfl) h hm
set_option maxHeartbeats 4000000 in
set_option maxRecDepth 100000 in
theorem lm_readStep_121 {r : St} (C : Cx p s m args c cX12_readStep RX12 (cd :: rW) D (TYs k) 8) (hr : meth.sig.returnType = none) (hlk : meth.locks = false)  {ls : Array Slot} {H : Heap} {locs : List Loc} {σ : St} {x2 : Int} (hl : lv_has ls 8 [(0, .ref (g 0)), (2, .int (Int32.ofInt x2))]) (h : Hp D A s.heap H locs (mW k g σ)) (hm : r_readStep_121 N  σ x2 = some r) : W p l e { frames := 6, cells := 0, slots := 0, locals := 133 } s m args below meth c H locs 0 0 (MQ below (va_Qv (fun (_ : Unit) => True) (fun _ t => PostW D (TYs k) A (mW k g r) t) A) args s 0 0 A) (F0 m 121 ls []) := by
  rw [r_readStep_121] at hm
  refine lv_aload_n C.1 C.2.1 dX12_readStep_121 rfl (lv_at hl 0 rfl) ?_
  refine lv_bipush (v := Int32.ofInt 24) C.1 C.2.1 dX12_readStep_122 (by decide) ?_
  refine lv_aload_n C.1 C.2.1 dX12_readStep_124 rfl (lv_at hl 0 rfl) ?_
  refine fg_18 C h dX12_readStep_125 ?_
  refine lv_iload_n C.1 C.2.1 dX12_readStep_128 rfl (lv_at hl 1 rfl) ?_
  obtain ⟨g21, hm⟩ := grd_s hm
  refine al_93 C h dX12_readStep_129 g21 ?_
  obtain ⟨r22, e23, hm⟩ := obd_s hm
  refine q_callVi C h (rc_node l D k g N σ 24 (el σ 93 x2) r22 e23) (cwV 2 C.2.2.1 (gR_node _) rfl rfl rfl hd_node ⟨Nat.le_of_ble_eq_true rfl, Nat.le_of_ble_eq_true rfl⟩) rfl hl.1 rfl (Nat.le_of_ble_eq_true rfl) dX12_readStep_130 ⟨Nat.le_of_ble_eq_true rfl, Nat.le_of_ble_eq_true rfl⟩ (fun H locs h => ?_)
  refine lv_istore (lv' := [(4, .int (Int32.ofInt r22.2)), (0, .ref (g 0)), (2, .int (Int32.ofInt x2))]) C.1 C.2.1 dX12_readStep_133 hl (by decide) rfl (fun ls hl => ?_)
  refine lv_aload_n C.1 C.2.1 dX12_readStep_135 rfl (lv_at hl 1 rfl) ?_
  refine fg_19 C h dX12_readStep_136 ?_
  refine lv_iload C.1 C.2.1 dX12_readStep_139 (lv_at hl 0 rfl) ?_
  refine lv_iconst (v := Int32.ofInt 1) C.1 C.2.1 dX12_readStep_141 (by decide) ?_
  obtain ⟨g24, hm⟩ := grd_s hm
  refine as_92 C h dX12_readStep_142 g24 (fun H locs h => ?_)
  refine lv_aload_n C.1 C.2.1 dX12_readStep_143 rfl (lv_at hl 1 rfl) ?_
  refine fg_20 C h dX12_readStep_144 ?_
  refine lv_iload C.1 C.2.1 dX12_readStep_147 (lv_at hl 0 rfl) ?_
  refine lv_iconst (v := Int32.ofInt 1) C.1 C.2.1 dX12_readStep_149 (by decide) ?_
  refine as_91 C h dX12_readStep_150 g24 (fun H locs h => ?_)
  refine lv_aload_n C.1 C.2.1 dX12_readStep_151 rfl (lv_at hl 1 rfl) ?_
  refine lv_iload C.1 C.2.1 dX12_readStep_152 (lv_at hl 0 rfl) ?_
  refine lv_iload_n C.1 C.2.1 dX12_readStep_154 rfl (lv_at hl 2 rfl) ?_
  obtain ⟨σ25, e26, hm⟩ := bnd_s hm
  rw [e26] at h
  obtain ⟨r27, e28, hm⟩ := obd_s hm
  refine q_callVv C h (rc_append l D k g N σ25 r22.2 x2 r27 e28) (cwV 2 C.2.2.1 (gR_append _) rfl rfl rfl hd_append ⟨Nat.le_of_ble_eq_true rfl, Nat.le_of_ble_eq_true rfl⟩) rfl hl.1 rfl (Nat.le_of_ble_eq_true rfl) dX12_readStep_155 ⟨Nat.le_of_ble_eq_true rfl, Nat.le_of_ble_eq_true rfl⟩ (fun H locs h => ?_)
  refine lv_iconst (v := Int32.ofInt 0) C.1 C.2.1 dX12_readStep_158 (by decide) ?_
  refine lv_istore (lv' := [(5, .int (Int32.ofInt 0)), (4, .int (Int32.ofInt r22.2)), (0, .ref (g 0)), (2, .int (Int32.ofInt x2))]) C.1 C.2.1 dX12_readStep_159 hl (by decide) rfl (fun ls hl => ?_)
  exact lm_readStep_161 (N := N) C hr hlk  N (lv_sub hl [2, 1, 0] rfl) h hm
set_option maxHeartbeats 4000000 in
set_option maxRecDepth 100000 in
theorem lm_readStep_32 {r : St} (C : Cx p s m args c cX12_readStep RX12 (cd :: rW) D (TYs k) 8) (hr : meth.sig.returnType = none) (hlk : meth.locks = false)  (n : Nat) : ∀ {ls : Array Slot} {H : Heap} {locs : List Loc} {σ : St} {x2 : Int} {x3 : Int}, lv_has ls 8 [(0, .ref (g 0)), (2, .int (Int32.ofInt x2)), (3, .int (Int32.ofInt x3))] → Hp D A s.heap H locs (mW k g σ) → r_readStep_32 N  n σ x2 x3 = some r → W p l e { frames := 6, cells := 0, slots := 0, locals := 133 } s m args below meth c H locs 0 0 (MQ below (va_Qv (fun (_ : Unit) => True) (fun _ t => PostW D (TYs k) A (mW k g r) t) A) args s 0 0 A) (F0 m 32 ls []) := by
  induction n with
  | zero => intro ls H locs σ x2 x3 hl h hm; cases (show none = some r from hm)
  | succ n hrec32 =>
    intro ls H locs σ x2 x3 hl h hm
    rw [r_readStep_32] at hm
    refine lv_iload_n C.1 C.2.1 dX12_readStep_32 rfl (lv_at hl 2 rfl) ?_
    obtain ⟨g8, hm⟩ := grd_s hm
    refine z_if_eq (tgt := 121) C dX12_readStep_33 (by decide) g8 (fun c9 => ?_) (fun c9 => ?_)
    · have hm := ite_t c9 hm
      exact lm_readStep_121 (N := N) C hr hlk  (lv_sub hl [0, 1] rfl) h hm
    · have hm := ite_f c9 hm
      refine lv_aload_n C.1 C.2.1 dX12_readStep_36 rfl (lv_at hl 0 rfl) ?_
      refine fg_11 C h dX12_readStep_37 ?_
      obtain ⟨g10, hm⟩ := grd_s hm
      refine z_if_ne (tgt := 121) C dX12_readStep_40 (by decide) g10 (fun c11 => ?_) (fun c11 => ?_)
      · have hm := ite_f c11 hm
        exact lm_readStep_121 (N := N) C hr hlk  (lv_sub hl [0, 1] rfl) h hm
      · have hm := ite_t c11 hm
        refine lv_aload_n C.1 C.2.1 dX12_readStep_43 rfl (lv_at hl 0 rfl) ?_
        refine fg_2 C h dX12_readStep_44 ?_
        refine lv_istore (lv' := [(4, .int (Int32.ofInt (fl σ 2 0))), (0, .ref (g 0)), (2, .int (Int32.ofInt x2)), (3, .int (Int32.ofInt x3))]) C.1 C.2.1 dX12_readStep_47 hl (by decide) rfl (fun ls hl => ?_)
        refine lv_aload_n C.1 C.2.1 dX12_readStep_49 rfl (lv_at hl 1 rfl) ?_
        obtain ⟨r12, e13, hm⟩ := obd_s hm
        refine q_callVv C h (rc_skip l D k g N σ  r12 e13) (cwV 0 C.2.2.1 (gR_skip _) rfl rfl rfl hd_skip ⟨Nat.le_of_ble_eq_true rfl, Nat.le_of_ble_eq_true rfl⟩) rfl hl.1 rfl (Nat.le_of_ble_eq_true rfl) dX12_readStep_50 ⟨Nat.le_of_ble_eq_true rfl, Nat.le_of_ble_eq_true rfl⟩ (fun H locs h => ?_)
        refine lv_aload_n C.1 C.2.1 dX12_readStep_53 rfl (lv_at hl 1 rfl) ?_
        refine lv_aload_n C.1 C.2.1 dX12_readStep_54 rfl (lv_at hl 1 rfl) ?_
        refine fg_2 C h dX12_readStep_55 ?_
        obtain ⟨r14, e15, hm⟩ := obd_s hm
        refine q_callVi C h (rc_byteAt l D k g N r12 (fl r12 2 0) r14 e15) (cwV 1 C.2.2.1 (gR_byteAt _) rfl rfl rfl hd_byteAt ⟨Nat.le_of_ble_eq_true rfl, Nat.le_of_ble_eq_true rfl⟩) rfl hl.1 rfl (Nat.le_of_ble_eq_true rfl) dX12_readStep_58 ⟨Nat.le_of_ble_eq_true rfl, Nat.le_of_ble_eq_true rfl⟩ (fun H locs h => ?_)
        refine lv_istore (lv' := [(5, .int (Int32.ofInt r14.2)), (4, .int (Int32.ofInt (fl σ 2 0))), (0, .ref (g 0)), (2, .int (Int32.ofInt x2)), (3, .int (Int32.ofInt x3))]) C.1 C.2.1 dX12_readStep_61 hl (by decide) rfl (fun ls hl => ?_)
        refine lv_iload C.1 C.2.1 dX12_readStep_63 (lv_at hl 0 rfl) ?_
        refine lv_bipush (v := Int32.ofInt 42) C.1 C.2.1 dX12_readStep_65 (by decide) ?_
        obtain ⟨g16, hm⟩ := grd_s hm
        refine z_icmp_eq (tgt := 91) C dX12_readStep_67 (by decide) g16 (by decide) (fun c17 => ?_) (fun c17 => ?_)
        · have hm := ite_t c17 hm
          exact lm_readStep_91 (N := N) C hr hlk hrec32 (lv_sub hl [2, 3, 1, 0] rfl) h hm
        · have hm := ite_f c17 hm
          refine lv_iload C.1 C.2.1 dX12_readStep_70 (lv_at hl 0 rfl) ?_
          refine lv_bipush (v := Int32.ofInt 47) C.1 C.2.1 dX12_readStep_72 (by decide) ?_
          refine z_icmp_eq (tgt := 91) C dX12_readStep_74 (by decide) g16 (by decide) (fun c18 => ?_) (fun c18 => ?_)
          · have hm := ite_t c18 hm
            exact lm_readStep_91 (N := N) C hr hlk hrec32 (lv_sub hl [2, 3, 1, 0] rfl) h hm
          · have hm := ite_f c18 hm
            refine lv_iload C.1 C.2.1 dX12_readStep_77 (lv_at hl 0 rfl) ?_
            refine lv_bipush (v := Int32.ofInt 40) C.1 C.2.1 dX12_readStep_79 (by decide) ?_
            refine z_icmp_eq (tgt := 91) C dX12_readStep_81 (by decide) g16 (by decide) (fun c19 => ?_) (fun c19 => ?_)
            · have hm := ite_t c19 hm
              exact lm_readStep_91 (N := N) C hr hlk hrec32 (lv_sub hl [2, 3, 1, 0] rfl) h hm
            · have hm := ite_f c19 hm
              refine lv_iload C.1 C.2.1 dX12_readStep_84 (lv_at hl 0 rfl) ?_
              refine lv_bipush (v := Int32.ofInt 63) C.1 C.2.1 dX12_readStep_86 (by decide) ?_
              refine z_icmp_ne (tgt := 95) C dX12_readStep_88 (by decide) g16 (by decide) (fun c20 => ?_) (fun c20 => ?_)
              · have hm := ite_f c20 hm
                refine lv_iconst (v := Int32.ofInt 0) C.1 C.2.1 dX12_readStep_95 (by decide) ?_
                exact lm_readStep_96 (N := N) C hr hlk hrec32 (lv_sub hl [2, 3, 1, 0] rfl) h hm
              · have hm := ite_t c20 hm
                exact lm_readStep_91 (N := N) C hr hlk hrec32 (lv_sub hl [2, 3, 1, 0] rfl) h hm
set_option maxHeartbeats 4000000 in
set_option maxRecDepth 100000 in
theorem rc_readStep (l : Launch) (D : va_G) (k : Nat → ClassId) (g : Nat → Nat) (N : Nat) (σ : St) (x1 : Int) (r : St) (hm : r_readStep N σ x1 = some r) : Mv l yX12_readStep (.code yX12_readStep cX12_readStep 8 none :: rW) { frames := 6, cells := 0, slots := 0, locals := 133 } [.ref (g 0), .int (Int32.ofInt x1)] D (TYs k) (mW k g σ) (fun _ => True) Unit (fun _ => True) (fun _ => mW k g r) 0 0 := by
  intro sz
  refine x_met (cc := cX12_readStep) (maxL := 8) (ret := none) (by decide) rfl (Nat.le_of_ble_eq_true rfl) ?_
  intro p e s m below meth c ls C hX hsz hr hlk hmn hl h
  have hl : lv_has ls 8 [(0, .ref (g 0)), (1, .int (Int32.ofInt x1))] := hl
  rw [r_readStep] at hm
  refine lv_aload_n C.1 C.2.1 dX12_readStep_0 rfl (lv_at hl 0 rfl) ?_
  refine fg_44 C h dX12_readStep_1 ?_
  refine lv_iload_n C.1 C.2.1 dX12_readStep_4 rfl (lv_at hl 1 rfl) ?_
  obtain ⟨g1, hm⟩ := grd_s hm
  refine al_72 C h dX12_readStep_5 g1 ?_
  obtain ⟨g2, hm⟩ := grd_s hm
  refine z_if_ne (tgt := 25) C dX12_readStep_6 (by decide) g2 (fun c3 => ?_) (fun c3 => ?_)
  · have hm := ite_f c3 hm
    refine lv_aload_n C.1 C.2.1 dX12_readStep_25 rfl (lv_at hl 0 rfl) ?_
    refine fg_46 C h dX12_readStep_26 ?_
    refine lv_istore_n (lv' := [(2, .int (Int32.ofInt (fl σ 46 0))), (0, .ref (g 0)), (1, .int (Int32.ofInt x1))]) C.1 C.2.1 dX12_readStep_29 rfl hl (by decide) rfl (fun ls hl => ?_)
    refine lv_iconst (v := Int32.ofInt 1) C.1 C.2.1 dX12_readStep_30 (by decide) ?_
    refine lv_istore_n (lv' := [(3, .int (Int32.ofInt 1)), (2, .int (Int32.ofInt (fl σ 46 0))), (0, .ref (g 0)), (1, .int (Int32.ofInt x1))]) C.1 C.2.1 dX12_readStep_31 rfl hl (by decide) rfl (fun ls hl => ?_)
    exact lm_readStep_32 (N := N) C hr hlk  N (lv_sub hl [2, 1, 0] rfl) h hm
  · have hm := ite_t c3 hm
    refine lv_aload_n C.1 C.2.1 dX12_readStep_9 rfl (lv_at hl 0 rfl) ?_
    refine fg_44 C h dX12_readStep_10 ?_
    refine lv_iload_n C.1 C.2.1 dX12_readStep_13 rfl (lv_at hl 1 rfl) ?_
    refine lv_iconst (v := Int32.ofInt 1) C.1 C.2.1 dX12_readStep_14 (by decide) ?_
    refine as_72 C h dX12_readStep_15 g1 (fun H locs h => ?_)
    refine lv_aload_n C.1 C.2.1 dX12_readStep_16 rfl (lv_at hl 0 rfl) ?_
    refine lv_bipush (v := Int32.ofInt 12) C.1 C.2.1 dX12_readStep_17 (by decide) ?_
    refine lv_iconst (v := Int32.ofInt (-1)) C.1 C.2.1 dX12_readStep_19 (by decide) ?_
    refine lv_iconst (v := Int32.ofInt 0) C.1 C.2.1 dX12_readStep_20 (by decide) ?_
    obtain ⟨σ4, e5, hm⟩ := bnd_s hm
    rw [e5] at h
    obtain ⟨r6, e7, hm⟩ := obd_s hm
    refine q_callVv C h (rc_begin l D k g N σ4 12 (-1) 0 r6 e7) (cwV 3 C.2.2.1 (gR_begin _) rfl rfl rfl hd_begin ⟨Nat.le_of_ble_eq_true rfl, Nat.le_of_ble_eq_true rfl⟩) rfl hl.1 rfl (Nat.le_of_ble_eq_true rfl) dX12_readStep_21 ⟨Nat.le_of_ble_eq_true rfl, Nat.le_of_ble_eq_true rfl⟩ (fun H locs h => ?_)
    cases hm
    exact q_vret C h hr hlk dX12_readStep_24
end L_readStep
section L_readSum
variable {p : Program} {l : Launch} {e : Env} {s : State} {m : MethodId} {args : Array Value} {below : List Frame} {meth : Method} {c : Code} {D : va_G} {A : Nat → Prop} {k : Nat → ClassId} {g : Nat → Nat} {N : Nat} {cd : Cond}
set_option maxHeartbeats 4000000 in
set_option maxRecDepth 100000 in
theorem lm_readSum_116 {r : St} (C : Cx p s m args c cX12_readSum RX12 (cd :: rW) D (TYs k) 4) (hr : meth.sig.returnType = none) (hlk : meth.locks = false)  {ls : Array Slot} {H : Heap} {locs : List Loc} {σ : St} {x1 : Int} {x2 : Int} (hl : lv_has ls 4 [(0, .ref (g 0)), (1, .int (Int32.ofInt x1)), (2, .int (Int32.ofInt x2))]) (h : Hp D A s.heap H locs (mW k g σ)) (hm : r_readSum_116 N  σ x1 x2 = some r) : W p l e { frames := 4, cells := 0, slots := 0, locals := 89 } s m args below meth c H locs 0 0 (MQ below (va_Qv (fun (_ : Unit) => True) (fun _ t => PostW D (TYs k) A (mW k g r) t) A) args s 0 0 A) (F0 m 116 ls []) := by
  rw [r_readSum_116] at hm
  refine lv_iload_n C.1 C.2.1 dX12_readSum_116 rfl (lv_at hl 2 rfl) ?_
  obtain ⟨g29, hm⟩ := grd_s hm
  refine z_if_ne (tgt := 131) C dX12_readSum_117 (by decide) g29 (fun c30 => ?_) (fun c30 => ?_)
  · have hm := ite_f c30 hm
    refine lv_aload_n C.1 C.2.1 dX12_readSum_131 rfl (lv_at hl 0 rfl) ?_
    refine lv_iconst (v := Int32.ofInt 4) C.1 C.2.1 dX12_readSum_132 (by decide) ?_
    refine lv_aload_n C.1 C.2.1 dX12_readSum_133 rfl (lv_at hl 0 rfl) ?_
    refine fg_4 C h dX12_readSum_134 ?_
    obtain ⟨r31, e32, hm⟩ := obd_s hm
    refine q_callVi C h (rc_node l D k g N σ 4 (fl σ 4 0) r31 e32) (cwV 2 C.2.2.1 (gR_node _) rfl rfl rfl hd_node ⟨Nat.le_of_ble_eq_true rfl, Nat.le_of_ble_eq_true rfl⟩) rfl hl.1 rfl (Nat.le_of_ble_eq_true rfl) dX12_readSum_137 ⟨Nat.le_of_ble_eq_true rfl, Nat.le_of_ble_eq_true rfl⟩ (fun H locs h => ?_)
    refine lv_istore_n (lv' := [(3, .int (Int32.ofInt r31.2)), (0, .ref (g 0)), (1, .int (Int32.ofInt x1)), (2, .int (Int32.ofInt x2))]) C.1 C.2.1 dX12_readSum_140 rfl hl (by decide) rfl (fun ls hl => ?_)
    refine lv_aload_n C.1 C.2.1 dX12_readSum_141 rfl (lv_at hl 1 rfl) ?_
    refine fg_19 C h dX12_readSum_142 ?_
    refine lv_iload_n C.1 C.2.1 dX12_readSum_145 rfl (lv_at hl 0 rfl) ?_
    refine lv_aload_n C.1 C.2.1 dX12_readSum_146 rfl (lv_at hl 1 rfl) ?_
    refine fg_6 C h dX12_readSum_147 ?_
    obtain ⟨g33, hm⟩ := grd_s hm
    refine as_92 C h dX12_readSum_150 g33 (fun H locs h => ?_)
    refine lv_aload_n C.1 C.2.1 dX12_readSum_151 rfl (lv_at hl 1 rfl) ?_
    refine lv_aload_n C.1 C.2.1 dX12_readSum_152 rfl (lv_at hl 1 rfl) ?_
    refine fg_43 C h dX12_readSum_153 ?_
    refine lv_iload_n C.1 C.2.1 dX12_readSum_156 rfl (lv_at hl 2 rfl) ?_
    obtain ⟨g34, hm⟩ := grd_s hm
    refine al_73 C h dX12_readSum_157 g34 ?_
    refine x_topi (y := Int32.ofInt (el r31.1 73 x1)) rfl ?_
    refine lv_iload_n C.1 C.2.1 dX12_readSum_158 rfl (lv_at hl 0 rfl) ?_
    obtain ⟨σ35, e36, hm⟩ := bnd_s hm
    rw [e36] at h
    obtain ⟨r37, e38, hm⟩ := obd_s hm
    refine q_callVv C h (rc_append l D k g N σ35 (el r31.1 73 x1) r31.2 r37 e38) (cwV 2 C.2.2.1 (gR_append _) rfl rfl rfl hd_append ⟨Nat.le_of_ble_eq_true rfl, Nat.le_of_ble_eq_true rfl⟩) rfl hl.1 rfl (Nat.le_of_ble_eq_true rfl) dX12_readSum_159 ⟨Nat.le_of_ble_eq_true rfl, Nat.le_of_ble_eq_true rfl⟩ (fun H locs h => ?_)
    refine lv_aload_n C.1 C.2.1 dX12_readSum_162 rfl (lv_at hl 1 rfl) ?_
    obtain ⟨r39, e40, hm⟩ := obd_s hm
    refine q_callVv C h (rc_advance l D k g N r37  r39 e40) (cwV 0 C.2.2.1 (gR_advance _) rfl rfl rfl hd_advance ⟨Nat.le_of_ble_eq_true rfl, Nat.le_of_ble_eq_true rfl⟩) rfl hl.1 rfl (Nat.le_of_ble_eq_true rfl) dX12_readSum_163 ⟨Nat.le_of_ble_eq_true rfl, Nat.le_of_ble_eq_true rfl⟩ (fun H locs h => ?_)
    refine lv_aload_n C.1 C.2.1 dX12_readSum_166 rfl (lv_at hl 1 rfl) ?_
    refine lv_iconst (v := Int32.ofInt 4) C.1 C.2.1 dX12_readSum_167 (by decide) ?_
    refine lv_iconst (v := Int32.ofInt (-1)) C.1 C.2.1 dX12_readSum_168 (by decide) ?_
    refine lv_iconst (v := Int32.ofInt 0) C.1 C.2.1 dX12_readSum_169 (by decide) ?_
    obtain ⟨r41, e42, hm⟩ := obd_s hm
    refine q_callVv C h (rc_begin l D k g N r39 4 (-1) 0 r41 e42) (cwV 3 C.2.2.1 (gR_begin _) rfl rfl rfl hd_begin ⟨Nat.le_of_ble_eq_true rfl, Nat.le_of_ble_eq_true rfl⟩) rfl hl.1 rfl (Nat.le_of_ble_eq_true rfl) dX12_readSum_170 ⟨Nat.le_of_ble_eq_true rfl, Nat.le_of_ble_eq_true rfl⟩ (fun H locs h => ?_)
    cases hm
    exact q_vret C h hr hlk dX12_readSum_173
  · have hm := ite_t c30 hm
    refine lv_aload_n C.1 C.2.1 dX12_readSum_120 rfl (lv_at hl 0 rfl) ?_
    refine lv_aload_n C.1 C.2.1 dX12_readSum_121 rfl (lv_at hl 0 rfl) ?_
    refine fg_43 C h dX12_readSum_122 ?_
    refine lv_iload_n C.1 C.2.1 dX12_readSum_125 rfl (lv_at hl 1 rfl) ?_
    obtain ⟨g43, hm⟩ := grd_s hm
    refine al_73 C h dX12_readSum_126 g43 ?_
    obtain ⟨r44, e45, hm⟩ := obd_s hm
    refine q_callVv C h (rc_finish l D k g N σ (el σ 73 x1) r44 e45) (cwV 1 C.2.2.1 (gR_finish _) rfl rfl rfl hd_finish ⟨Nat.le_of_ble_eq_true rfl, Nat.le_of_ble_eq_true rfl⟩) rfl hl.1 rfl (Nat.le_of_ble_eq_true rfl) dX12_readSum_127 ⟨Nat.le_of_ble_eq_true rfl, Nat.le_of_ble_eq_true rfl⟩ (fun H locs h => ?_)
    cases hm
    exact q_vret C h hr hlk dX12_readSum_130
set_option maxHeartbeats 4000000 in
set_option maxRecDepth 100000 in
theorem rc_readSum (l : Launch) (D : va_G) (k : Nat → ClassId) (g : Nat → Nat) (N : Nat) (σ : St) (x1 : Int) (r : St) (hm : r_readSum N σ x1 = some r) : Mv l yX12_readSum (.code yX12_readSum cX12_readSum 4 none :: rW) { frames := 4, cells := 0, slots := 0, locals := 89 } [.ref (g 0), .int (Int32.ofInt x1)] D (TYs k) (mW k g σ) (fun _ => True) Unit (fun _ => True) (fun _ => mW k g r) 0 0 := by
  intro sz
  refine x_met (cc := cX12_readSum) (maxL := 4) (ret := none) (by decide) rfl (Nat.le_of_ble_eq_true rfl) ?_
  intro p e s m below meth c ls C hX hsz hr hlk hmn hl h
  have hl : lv_has ls 4 [(0, .ref (g 0)), (1, .int (Int32.ofInt x1))] := hl
  rw [r_readSum] at hm
  refine lv_aload_n C.1 C.2.1 dX12_readSum_0 rfl (lv_at hl 0 rfl) ?_
  refine fg_44 C h dX12_readSum_1 ?_
  refine lv_iload_n C.1 C.2.1 dX12_readSum_4 rfl (lv_at hl 1 rfl) ?_
  obtain ⟨g1, hm⟩ := grd_s hm
  refine al_72 C h dX12_readSum_5 g1 ?_
  obtain ⟨g2, hm⟩ := grd_s hm
  refine z_if_ne (tgt := 24) C dX12_readSum_6 (by decide) g2 (fun c3 => ?_) (fun c3 => ?_)
  · have hm := ite_f c3 hm
    refine lv_aload_n C.1 C.2.1 dX12_readSum_24 rfl (lv_at hl 0 rfl) ?_
    obtain ⟨r4, e5, hm⟩ := obd_s hm
    refine q_callVi C h (rc_isOpToken l D k g N σ  r4 e5) (cwV 0 C.2.2.1 (gR_isOpToken _) rfl rfl rfl hd_isOpToken ⟨Nat.le_of_ble_eq_true rfl, Nat.le_of_ble_eq_true rfl⟩) rfl hl.1 rfl (Nat.le_of_ble_eq_true rfl) dX12_readSum_25 ⟨Nat.le_of_ble_eq_true rfl, Nat.le_of_ble_eq_true rfl⟩ (fun H locs h => ?_)
    refine lv_istore_n (lv' := [(2, .int (Int32.ofInt r4.2)), (0, .ref (g 0)), (1, .int (Int32.ofInt x1))]) C.1 C.2.1 dX12_readSum_28 rfl hl (by decide) rfl (fun ls hl => ?_)
    refine lv_aload_n C.1 C.2.1 dX12_readSum_29 rfl (lv_at hl 1 rfl) ?_
    refine fg_43 C h dX12_readSum_30 ?_
    refine lv_iload_n C.1 C.2.1 dX12_readSum_33 rfl (lv_at hl 2 rfl) ?_
    refine al_73 C h dX12_readSum_34 g1 ?_
    refine lv_iconst (v := Int32.ofInt (-1)) C.1 C.2.1 dX12_readSum_35 (by decide) ?_
    obtain ⟨g6, hm⟩ := grd_s hm
    refine z_icmp_ne (tgt := 97) C dX12_readSum_36 (by decide) g6 (by decide) (fun c7 => ?_) (fun c7 => ?_)
    · have hm := ite_f c7 hm
      refine lv_aload_n C.1 C.2.1 dX12_readSum_97 rfl (lv_at hl 1 rfl) ?_
      refine lv_aload_n C.1 C.2.1 dX12_readSum_98 rfl (lv_at hl 1 rfl) ?_
      refine fg_25 C h dX12_readSum_99 ?_
      refine lv_aload_n C.1 C.2.1 dX12_readSum_102 rfl (lv_at hl 1 rfl) ?_
      refine fg_43 C h dX12_readSum_103 ?_
      refine lv_iload_n C.1 C.2.1 dX12_readSum_106 rfl (lv_at hl 2 rfl) ?_
      refine al_73 C h dX12_readSum_107 g1 ?_
      obtain ⟨g8, hm⟩ := grd_s hm
      refine al_86 C h dX12_readSum_108 g8 ?_
      refine lv_aload_n C.1 C.2.1 dX12_readSum_109 rfl (lv_at hl 1 rfl) ?_
      refine fg_46 C h dX12_readSum_110 ?_
      obtain ⟨r9, e10, hm⟩ := obd_s hm
      refine q_callVv C h (rc_append l D k g N r4.1 (el r4.1 86 (el r4.1 73 x1)) (fl r4.1 46 0) r9 e10) (cwV 2 C.2.2.1 (gR_append _) rfl rfl rfl hd_append ⟨Nat.le_of_ble_eq_true rfl, Nat.le_of_ble_eq_true rfl⟩) rfl hl.1 rfl (Nat.le_of_ble_eq_true rfl) dX12_readSum_113 ⟨Nat.le_of_ble_eq_true rfl, Nat.le_of_ble_eq_true rfl⟩ (fun H locs h => ?_)
      exact lm_readSum_116 (N := N) C hr hlk  (lv_sub hl [1, 2, 0] rfl) h hm
    · have hm := ite_t c7 hm
      refine lv_iload_n C.1 C.2.1 dX12_readSum_39 rfl (lv_at hl 0 rfl) ?_
      obtain ⟨g11, hm⟩ := grd_s hm
      refine z_if_ne (tgt := 52) C dX12_readSum_40 (by decide) g11 (fun c12 => ?_) (fun c12 => ?_)
      · have hm := ite_f c12 hm
        refine lv_aload_n C.1 C.2.1 dX12_readSum_52 rfl (lv_at hl 1 rfl) ?_
        refine fg_43 C h dX12_readSum_53 ?_
        refine lv_iload_n C.1 C.2.1 dX12_readSum_56 rfl (lv_at hl 2 rfl) ?_
        refine lv_aload_n C.1 C.2.1 dX12_readSum_57 rfl (lv_at hl 1 rfl) ?_
        refine lv_iconst (v := Int32.ofInt 3) C.1 C.2.1 dX12_readSum_58 (by decide) ?_
        refine lv_aload_n C.1 C.2.1 dX12_readSum_59 rfl (lv_at hl 1 rfl) ?_
        refine fg_4 C h dX12_readSum_60 ?_
        obtain ⟨r13, e14, hm⟩ := obd_s hm
        refine q_callVi C h (rc_node l D k g N r4.1 3 (fl r4.1 4 0) r13 e14) (cwV 2 C.2.2.1 (gR_node _) rfl rfl rfl hd_node ⟨Nat.le_of_ble_eq_true rfl, Nat.le_of_ble_eq_true rfl⟩) rfl hl.1 rfl (Nat.le_of_ble_eq_true rfl) dX12_readSum_63 ⟨Nat.le_of_ble_eq_true rfl, Nat.le_of_ble_eq_true rfl⟩ (fun H locs h => ?_)
        refine as_73 C h dX12_readSum_66 g1 (fun H locs h => ?_)
        refine lv_aload_n C.1 C.2.1 dX12_readSum_67 rfl (lv_at hl 1 rfl) ?_
        refine lv_iconst (v := Int32.ofInt 4) C.1 C.2.1 dX12_readSum_68 (by decide) ?_
        refine lv_iconst (v := Int32.ofInt (-1)) C.1 C.2.1 dX12_readSum_69 (by decide) ?_
        obtain ⟨σ15, e16, hm⟩ := bnd_s hm
        rw [e16] at h
        obtain ⟨r17, e18, hm⟩ := obd_s hm
        refine q_callVi C h (rc_node l D k g N σ15 4 (-1) r17 e18) (cwV 2 C.2.2.1 (gR_node _) rfl rfl rfl hd_node ⟨Nat.le_of_ble_eq_true rfl, Nat.le_of_ble_eq_true rfl⟩) rfl hl.1 rfl (Nat.le_of_ble_eq_true rfl) dX12_readSum_70 ⟨Nat.le_of_ble_eq_true rfl, Nat.le_of_ble_eq_true rfl⟩ (fun H locs h => ?_)
        refine lv_istore_n (lv' := [(3, .int (Int32.ofInt r17.2)), (2, .int (Int32.ofInt r4.2)), (0, .ref (g 0)), (1, .int (Int32.ofInt x1))]) C.1 C.2.1 dX12_readSum_73 rfl hl (by decide) rfl (fun ls hl => ?_)
        refine lv_aload_n C.1 C.2.1 dX12_readSum_74 rfl (lv_at hl 2 rfl) ?_
        refine lv_iload_n C.1 C.2.1 dX12_readSum_75 rfl (lv_at hl 0 rfl) ?_
        refine lv_aload_n C.1 C.2.1 dX12_readSum_76 rfl (lv_at hl 2 rfl) ?_
        refine fg_46 C h dX12_readSum_77 ?_
        obtain ⟨r19, e20, hm⟩ := obd_s hm
        refine q_callVv C h (rc_append l D k g N r17.1 r17.2 (fl r17.1 46 0) r19 e20) (cwV 2 C.2.2.1 (gR_append _) rfl rfl rfl hd_append ⟨Nat.le_of_ble_eq_true rfl, Nat.le_of_ble_eq_true rfl⟩) rfl hl.1 rfl (Nat.le_of_ble_eq_true rfl) dX12_readSum_80 ⟨Nat.le_of_ble_eq_true rfl, Nat.le_of_ble_eq_true rfl⟩ (fun H locs h => ?_)
        refine lv_aload_n C.1 C.2.1 dX12_readSum_83 rfl (lv_at hl 2 rfl) ?_
        refine lv_aload_n C.1 C.2.1 dX12_readSum_84 rfl (lv_at hl 2 rfl) ?_
        refine fg_43 C h dX12_readSum_85 ?_
        refine lv_iload_n C.1 C.2.1 dX12_readSum_88 rfl (lv_at hl 3 rfl) ?_
        refine al_73 C h dX12_readSum_89 g1 ?_
        refine lv_iload_n C.1 C.2.1 dX12_readSum_90 rfl (lv_at hl 0 rfl) ?_
        obtain ⟨r21, e22, hm⟩ := obd_s hm
        refine q_callVv C h (rc_append l D k g N r19 (el r19 73 x1) r17.2 r21 e22) (cwV 2 C.2.2.1 (gR_append _) rfl rfl rfl hd_append ⟨Nat.le_of_ble_eq_true rfl, Nat.le_of_ble_eq_true rfl⟩) rfl hl.1 rfl (Nat.le_of_ble_eq_true rfl) dX12_readSum_91 ⟨Nat.le_of_ble_eq_true rfl, Nat.le_of_ble_eq_true rfl⟩ (fun H locs h => ?_)
        refine lv_goto (tgt := 116) C.1 C.2.1 dX12_readSum_94 (by decide) ?_
        exact lm_readSum_116 (N := N) C hr hlk  (lv_sub hl [2, 3, 1] rfl) h hm
      · have hm := ite_t c12 hm
        refine lv_aload_n C.1 C.2.1 dX12_readSum_43 rfl (lv_at hl 1 rfl) ?_
        refine lv_aload_n C.1 C.2.1 dX12_readSum_44 rfl (lv_at hl 1 rfl) ?_
        refine fg_46 C h dX12_readSum_45 ?_
        obtain ⟨r23, e24, hm⟩ := obd_s hm
        refine q_callVv C h (rc_finish l D k g N r4.1 (fl r4.1 46 0) r23 e24) (cwV 1 C.2.2.1 (gR_finish _) rfl rfl rfl hd_finish ⟨Nat.le_of_ble_eq_true rfl, Nat.le_of_ble_eq_true rfl⟩) rfl hl.1 rfl (Nat.le_of_ble_eq_true rfl) dX12_readSum_48 ⟨Nat.le_of_ble_eq_true rfl, Nat.le_of_ble_eq_true rfl⟩ (fun H locs h => ?_)
        cases hm
        exact q_vret C h hr hlk dX12_readSum_51
  · have hm := ite_t c3 hm
    refine lv_aload_n C.1 C.2.1 dX12_readSum_9 rfl (lv_at hl 0 rfl) ?_
    refine fg_44 C h dX12_readSum_10 ?_
    refine lv_iload_n C.1 C.2.1 dX12_readSum_13 rfl (lv_at hl 1 rfl) ?_
    refine lv_iconst (v := Int32.ofInt 1) C.1 C.2.1 dX12_readSum_14 (by decide) ?_
    refine as_72 C h dX12_readSum_15 g1 (fun H locs h => ?_)
    refine lv_aload_n C.1 C.2.1 dX12_readSum_16 rfl (lv_at hl 0 rfl) ?_
    refine lv_iconst (v := Int32.ofInt 4) C.1 C.2.1 dX12_readSum_17 (by decide) ?_
    refine lv_iconst (v := Int32.ofInt (-1)) C.1 C.2.1 dX12_readSum_18 (by decide) ?_
    refine lv_iconst (v := Int32.ofInt 0) C.1 C.2.1 dX12_readSum_19 (by decide) ?_
    obtain ⟨σ25, e26, hm⟩ := bnd_s hm
    rw [e26] at h
    obtain ⟨r27, e28, hm⟩ := obd_s hm
    refine q_callVv C h (rc_begin l D k g N σ25 4 (-1) 0 r27 e28) (cwV 3 C.2.2.1 (gR_begin _) rfl rfl rfl hd_begin ⟨Nat.le_of_ble_eq_true rfl, Nat.le_of_ble_eq_true rfl⟩) rfl hl.1 rfl (Nat.le_of_ble_eq_true rfl) dX12_readSum_20 ⟨Nat.le_of_ble_eq_true rfl, Nat.le_of_ble_eq_true rfl⟩ (fun H locs h => ?_)
    cases hm
    exact q_vret C h hr hlk dX12_readSum_23
end L_readSum
section L_readCount
variable {p : Program} {l : Launch} {e : Env} {s : State} {m : MethodId} {args : Array Value} {below : List Frame} {meth : Method} {c : Code} {D : va_G} {A : Nat → Prop} {k : Nat → ClassId} {g : Nat → Nat} {N : Nat} {cd : Cond}
set_option maxHeartbeats 4000000 in
set_option maxRecDepth 100000 in
theorem lm_readCount_151 {r : St} (C : Cx p s m args c cX12_readCount RX12 (cd :: rW) D (TYs k) 6) (hr : meth.sig.returnType = none) (hlk : meth.locks = false)  {ls : Array Slot} {H : Heap} {locs : List Loc} {σ : St}  (hl : lv_has ls 6 [(0, .ref (g 0))]) (h : Hp D A s.heap H locs (mW k g σ)) (hm : r_readCount_151 N  σ  = some r) : W p l e { frames := 4, cells := 0, slots := 0, locals := 89 } s m args below meth c H locs 0 0 (MQ below (va_Qv (fun (_ : Unit) => True) (fun _ t => PostW D (TYs k) A (mW k g r) t) A) args s 0 0 A) (F0 m 151 ls []) := by
  rw [r_readCount_151] at hm
  refine lv_aload_n C.1 C.2.1 dX12_readCount_151 rfl (lv_at hl 0 rfl) ?_
  refine lv_iconst (v := Int32.ofInt 3) C.1 C.2.1 dX12_readCount_152 (by decide) ?_
  refine lv_aload_n C.1 C.2.1 dX12_readCount_153 rfl (lv_at hl 0 rfl) ?_
  refine fg_4 C h dX12_readCount_154 ?_
  obtain ⟨r38, e39, hm⟩ := obd_s hm
  refine q_callVv C h (rc_fail l D k g N σ 3 (fl σ 4 0) r38 e39) (cwV 2 C.2.2.1 (gR_fail _) rfl rfl rfl hd_fail ⟨Nat.le_of_ble_eq_true rfl, Nat.le_of_ble_eq_true rfl⟩) rfl hl.1 rfl (Nat.le_of_ble_eq_true rfl) dX12_readCount_157 ⟨Nat.le_of_ble_eq_true rfl, Nat.le_of_ble_eq_true rfl⟩ (fun H locs h => ?_)
  cases hm
  exact q_vret C h hr hlk dX12_readCount_160
set_option maxHeartbeats 4000000 in
set_option maxRecDepth 100000 in
theorem lm_readCount_188 {r : St} (C : Cx p s m args c cX12_readCount RX12 (cd :: rW) D (TYs k) 6) (hr : meth.sig.returnType = none) (hlk : meth.locks = false)  {ls : Array Slot} {H : Heap} {locs : List Loc} {σ : St}  (hl : lv_has ls 6 [(0, .ref (g 0))]) (h : Hp D A s.heap H locs (mW k g σ)) (hm : r_readCount_188 N  σ  = some r) : W p l e { frames := 4, cells := 0, slots := 0, locals := 89 } s m args below meth c H locs 0 0 (MQ below (va_Qv (fun (_ : Unit) => True) (fun _ t => PostW D (TYs k) A (mW k g r) t) A) args s 0 0 A) (F0 m 188 ls []) := by
  rw [r_readCount_188] at hm
  refine lv_aload_n C.1 C.2.1 dX12_readCount_188 rfl (lv_at hl 0 rfl) ?_
  obtain ⟨r40, e41, hm⟩ := obd_s hm
  refine q_callVv C h (rc_advance l D k g N σ  r40 e41) (cwV 0 C.2.2.1 (gR_advance _) rfl rfl rfl hd_advance ⟨Nat.le_of_ble_eq_true rfl, Nat.le_of_ble_eq_true rfl⟩) rfl hl.1 rfl (Nat.le_of_ble_eq_true rfl) dX12_readCount_189 ⟨Nat.le_of_ble_eq_true rfl, Nat.le_of_ble_eq_true rfl⟩ (fun H locs h => ?_)
  cases hm
  exact q_vret C h hr hlk dX12_readCount_192
set_option maxHeartbeats 4000000 in
set_option maxRecDepth 100000 in
theorem lm_readCount_131 {r : St} (C : Cx p s m args c cX12_readCount RX12 (cd :: rW) D (TYs k) 6) (hr : meth.sig.returnType = none) (hlk : meth.locks = false)  {ls : Array Slot} {H : Heap} {locs : List Loc} {σ : St} {x1 : Int} {x3 : Int} {x4 : Int} {s0 : Int} (hl : lv_has ls 6 [(0, .ref (g 0)), (1, .int (Int32.ofInt x1)), (3, .int (Int32.ofInt x3)), (4, .int (Int32.ofInt x4))]) (h : Hp D A s.heap H locs (mW k g σ)) (hm : r_readCount_131 N  σ x1 x3 x4 s0 = some r) : W p l e { frames := 4, cells := 0, slots := 0, locals := 89 } s m args below meth c H locs 0 0 (MQ below (va_Qv (fun (_ : Unit) => True) (fun _ t => PostW D (TYs k) A (mW k g r) t) A) args s 0 0 A) (F0 m 131 ls [.int (Int32.ofInt s0)]) := by
  rw [r_readCount_131] at hm
  refine lv_istore (lv' := [(5, .int (Int32.ofInt s0)), (0, .ref (g 0)), (1, .int (Int32.ofInt x1)), (3, .int (Int32.ofInt x3)), (4, .int (Int32.ofInt x4))]) C.1 C.2.1 dX12_readCount_131 hl (by decide) rfl (fun ls hl => ?_)
  refine lv_aload_n C.1 C.2.1 dX12_readCount_133 rfl (lv_at hl 1 rfl) ?_
  refine fg_9 C h dX12_readCount_134 ?_
  refine lv_iload C.1 C.2.1 dX12_readCount_137 (lv_at hl 4 rfl) ?_
  obtain ⟨g29, hm⟩ := grd_s hm
  obtain ⟨g30, hm⟩ := grd_s hm
  refine z_icmp_lt (tgt := 151) C dX12_readCount_139 (by decide) g29 g30 (fun c31 => ?_) (fun c31 => ?_)
  · have hm := ite_t c31 hm
    exact lm_readCount_151 (N := N) C hr hlk  (lv_sub hl [1] rfl) h hm
  · have hm := ite_f c31 hm
    refine lv_aload_n C.1 C.2.1 dX12_readCount_142 rfl (lv_at hl 1 rfl) ?_
    refine fg_9 C h dX12_readCount_143 ?_
    refine lv_iload C.1 C.2.1 dX12_readCount_146 (lv_at hl 0 rfl) ?_
    obtain ⟨g32, hm⟩ := grd_s hm
    refine z_icmp_le (tgt := 161) C dX12_readCount_148 (by decide) g29 g32 (fun c33 => ?_) (fun c33 => ?_)
    · have hm := ite_f c33 hm
      refine lv_iload_n C.1 C.2.1 dX12_readCount_161 rfl (lv_at hl 3 rfl) ?_
      obtain ⟨g34, hm⟩ := grd_s hm
      refine z_if_eq (tgt := 178) C dX12_readCount_162 (by decide) g34 (fun c35 => ?_) (fun c35 => ?_)
      · have hm := ite_t c35 hm
        refine lv_aload_n C.1 C.2.1 dX12_readCount_178 rfl (lv_at hl 1 rfl) ?_
        refine fg_20 C h dX12_readCount_179 ?_
        refine lv_iload_n C.1 C.2.1 dX12_readCount_182 rfl (lv_at hl 2 rfl) ?_
        refine lv_aload_n C.1 C.2.1 dX12_readCount_183 rfl (lv_at hl 1 rfl) ?_
        refine fg_9 C h dX12_readCount_184 ?_
        obtain ⟨g36, hm⟩ := grd_s hm
        refine as_91 C h dX12_readCount_187 g36 (fun H locs h => ?_)
        exact lm_readCount_188 (N := N) C hr hlk  (lv_sub hl [1] rfl) h hm
      · have hm := ite_f c35 hm
        refine lv_aload_n C.1 C.2.1 dX12_readCount_165 rfl (lv_at hl 1 rfl) ?_
        refine fg_21 C h dX12_readCount_166 ?_
        refine lv_iload_n C.1 C.2.1 dX12_readCount_169 rfl (lv_at hl 2 rfl) ?_
        refine lv_aload_n C.1 C.2.1 dX12_readCount_170 rfl (lv_at hl 1 rfl) ?_
        refine fg_9 C h dX12_readCount_171 ?_
        obtain ⟨g37, hm⟩ := grd_s hm
        refine as_90 C h dX12_readCount_174 g37 (fun H locs h => ?_)
        refine lv_goto (tgt := 188) C.1 C.2.1 dX12_readCount_175 (by decide) ?_
        exact lm_readCount_188 (N := N) C hr hlk  (lv_sub hl [1] rfl) h hm
    · have hm := ite_t c33 hm
      exact lm_readCount_151 (N := N) C hr hlk  (lv_sub hl [1] rfl) h hm
set_option maxHeartbeats 4000000 in
set_option maxRecDepth 100000 in
theorem lm_readCount_123 {r : St} (C : Cx p s m args c cX12_readCount RX12 (cd :: rW) D (TYs k) 6) (hr : meth.sig.returnType = none) (hlk : meth.locks = false)  {ls : Array Slot} {H : Heap} {locs : List Loc} {σ : St} {x1 : Int} {x3 : Int} {x4 : Int} (hl : lv_has ls 6 [(0, .ref (g 0)), (1, .int (Int32.ofInt x1)), (3, .int (Int32.ofInt x3)), (4, .int (Int32.ofInt x4))]) (h : Hp D A s.heap H locs (mW k g σ)) (hm : r_readCount_123 N  σ x1 x3 x4 = some r) : W p l e { frames := 4, cells := 0, slots := 0, locals := 89 } s m args below meth c H locs 0 0 (MQ below (va_Qv (fun (_ : Unit) => True) (fun _ t => PostW D (TYs k) A (mW k g r) t) A) args s 0 0 A) (F0 m 123 ls []) := by
  rw [r_readCount_123] at hm
  refine lv_sipush (v := Int32.ofInt 1000) C.1 C.2.1 dX12_readCount_123 (by decide) ?_
  refine lv_goto (tgt := 131) C.1 C.2.1 dX12_readCount_126 (by decide) ?_
  exact lm_readCount_131 (N := N) C hr hlk  (lv_sub hl [0, 1, 2, 3] rfl) h hm
set_option maxHeartbeats 4000000 in
set_option maxRecDepth 100000 in
theorem lm_readCount_103 {r : St} (C : Cx p s m args c cX12_readCount RX12 (cd :: rW) D (TYs k) 6) (hr : meth.sig.returnType = none) (hlk : meth.locks = false)  {ls : Array Slot} {H : Heap} {locs : List Loc} {σ : St} {x1 : Int} {x2 : Int} {x3 : Int} {s0 : Int} (hl : lv_has ls 6 [(0, .ref (g 0)), (1, .int (Int32.ofInt x1)), (2, .int (Int32.ofInt x2)), (3, .int (Int32.ofInt x3))]) (h : Hp D A s.heap H locs (mW k g σ)) (hm : r_readCount_103 N  σ x1 x2 x3 s0 = some r) : W p l e { frames := 4, cells := 0, slots := 0, locals := 89 } s m args below meth c H locs 0 0 (MQ below (va_Qv (fun (_ : Unit) => True) (fun _ t => PostW D (TYs k) A (mW k g r) t) A) args s 0 0 A) (F0 m 103 ls [.int (Int32.ofInt s0)]) := by
  rw [r_readCount_103] at hm
  refine lv_istore (lv' := [(4, .int (Int32.ofInt s0)), (0, .ref (g 0)), (1, .int (Int32.ofInt x1)), (2, .int (Int32.ofInt x2)), (3, .int (Int32.ofInt x3))]) C.1 C.2.1 dX12_readCount_103 hl (by decide) rfl (fun ls hl => ?_)
  refine lv_iload_n C.1 C.2.1 dX12_readCount_105 rfl (lv_at hl 3 rfl) ?_
  refine lv_bipush (v := Int32.ofInt 16) C.1 C.2.1 dX12_readCount_106 (by decide) ?_
  obtain ⟨g25, hm⟩ := grd_s hm
  refine z_icmp_eq (tgt := 123) C dX12_readCount_108 (by decide) g25 (by decide) (fun c26 => ?_) (fun c26 => ?_)
  · have hm := ite_t c26 hm
    exact lm_readCount_123 (N := N) C hr hlk  (lv_sub hl [1, 2, 4, 0] rfl) h hm
  · have hm := ite_f c26 hm
    refine lv_iload_n C.1 C.2.1 dX12_readCount_111 rfl (lv_at hl 3 rfl) ?_
    refine lv_bipush (v := Int32.ofInt 17) C.1 C.2.1 dX12_readCount_112 (by decide) ?_
    refine z_icmp_eq (tgt := 123) C dX12_readCount_114 (by decide) g25 (by decide) (fun c27 => ?_) (fun c27 => ?_)
    · have hm := ite_t c27 hm
      exact lm_readCount_123 (N := N) C hr hlk  (lv_sub hl [1, 2, 4, 0] rfl) h hm
    · have hm := ite_f c27 hm
      refine lv_iload_n C.1 C.2.1 dX12_readCount_117 rfl (lv_at hl 3 rfl) ?_
      refine lv_bipush (v := Int32.ofInt 18) C.1 C.2.1 dX12_readCount_118 (by decide) ?_
      refine z_icmp_ne (tgt := 129) C dX12_readCount_120 (by decide) g25 (by decide) (fun c28 => ?_) (fun c28 => ?_)
      · have hm := ite_f c28 hm
        refine lv_bipush (v := Int32.ofInt 32) C.1 C.2.1 dX12_readCount_129 (by decide) ?_
        exact lm_readCount_131 (N := N) C hr hlk  (lv_sub hl [1, 2, 4, 0] rfl) h hm
      · have hm := ite_t c28 hm
        exact lm_readCount_123 (N := N) C hr hlk  (lv_sub hl [1, 2, 4, 0] rfl) h hm
set_option maxHeartbeats 4000000 in
set_option maxRecDepth 100000 in
theorem lm_readCount_98 {r : St} (C : Cx p s m args c cX12_readCount RX12 (cd :: rW) D (TYs k) 6) (hr : meth.sig.returnType = none) (hlk : meth.locks = false)  {ls : Array Slot} {H : Heap} {locs : List Loc} {σ : St} {x1 : Int} {x2 : Int} {x3 : Int} (hl : lv_has ls 6 [(0, .ref (g 0)), (1, .int (Int32.ofInt x1)), (2, .int (Int32.ofInt x2)), (3, .int (Int32.ofInt x3))]) (h : Hp D A s.heap H locs (mW k g σ)) (hm : r_readCount_98 N  σ x1 x2 x3 = some r) : W p l e { frames := 4, cells := 0, slots := 0, locals := 89 } s m args below meth c H locs 0 0 (MQ below (va_Qv (fun (_ : Unit) => True) (fun _ t => PostW D (TYs k) A (mW k g r) t) A) args s 0 0 A) (F0 m 98 ls []) := by
  rw [r_readCount_98] at hm
  refine lv_iconst (v := Int32.ofInt 0) C.1 C.2.1 dX12_readCount_98 (by decide) ?_
  refine lv_goto (tgt := 103) C.1 C.2.1 dX12_readCount_99 (by decide) ?_
  exact lm_readCount_103 (N := N) C hr hlk  (lv_sub hl [0, 1, 2, 3] rfl) h hm
set_option maxHeartbeats 4000000 in
set_option maxRecDepth 100000 in
theorem lm_readCount_69 {r : St} (C : Cx p s m args c cX12_readCount RX12 (cd :: rW) D (TYs k) 6) (hr : meth.sig.returnType = none) (hlk : meth.locks = false)  {ls : Array Slot} {H : Heap} {locs : List Loc} {σ : St} {x1 : Int} {x2 : Int} {s0 : Int} (hl : lv_has ls 6 [(0, .ref (g 0)), (1, .int (Int32.ofInt x1)), (2, .int (Int32.ofInt x2))]) (h : Hp D A s.heap H locs (mW k g σ)) (hm : r_readCount_69 N  σ x1 x2 s0 = some r) : W p l e { frames := 4, cells := 0, slots := 0, locals := 89 } s m args below meth c H locs 0 0 (MQ below (va_Qv (fun (_ : Unit) => True) (fun _ t => PostW D (TYs k) A (mW k g r) t) A) args s 0 0 A) (F0 m 69 ls [.int (Int32.ofInt s0)]) := by
  rw [r_readCount_69] at hm
  refine lv_istore_n (lv' := [(3, .int (Int32.ofInt s0)), (0, .ref (g 0)), (1, .int (Int32.ofInt x1)), (2, .int (Int32.ofInt x2))]) C.1 C.2.1 dX12_readCount_69 rfl hl (by decide) rfl (fun ls hl => ?_)
  refine lv_iload_n C.1 C.2.1 dX12_readCount_70 rfl (lv_at hl 0 rfl) ?_
  obtain ⟨g18, hm⟩ := grd_s hm
  refine z_if_ne (tgt := 98) C dX12_readCount_71 (by decide) g18 (fun c19 => ?_) (fun c19 => ?_)
  · have hm := ite_f c19 hm
    exact lm_readCount_98 (N := N) C hr hlk  (lv_sub hl [1, 2, 3, 0] rfl) h hm
  · have hm := ite_t c19 hm
    refine lv_iload_n C.1 C.2.1 dX12_readCount_74 rfl (lv_at hl 3 rfl) ?_
    refine lv_bipush (v := Int32.ofInt 13) C.1 C.2.1 dX12_readCount_75 (by decide) ?_
    obtain ⟨g20, hm⟩ := grd_s hm
    refine z_icmp_eq (tgt := 98) C dX12_readCount_77 (by decide) g20 (by decide) (fun c21 => ?_) (fun c21 => ?_)
    · have hm := ite_t c21 hm
      exact lm_readCount_98 (N := N) C hr hlk  (lv_sub hl [1, 2, 3, 0] rfl) h hm
    · have hm := ite_f c21 hm
      refine lv_iload_n C.1 C.2.1 dX12_readCount_80 rfl (lv_at hl 3 rfl) ?_
      refine lv_bipush (v := Int32.ofInt 16) C.1 C.2.1 dX12_readCount_81 (by decide) ?_
      refine z_icmp_eq (tgt := 98) C dX12_readCount_83 (by decide) g20 (by decide) (fun c22 => ?_) (fun c22 => ?_)
      · have hm := ite_t c22 hm
        exact lm_readCount_98 (N := N) C hr hlk  (lv_sub hl [1, 2, 3, 0] rfl) h hm
      · have hm := ite_f c22 hm
        refine lv_iload_n C.1 C.2.1 dX12_readCount_86 rfl (lv_at hl 3 rfl) ?_
        refine lv_bipush (v := Int32.ofInt 17) C.1 C.2.1 dX12_readCount_87 (by decide) ?_
        refine z_icmp_eq (tgt := 98) C dX12_readCount_89 (by decide) g20 (by decide) (fun c23 => ?_) (fun c23 => ?_)
        · have hm := ite_t c23 hm
          exact lm_readCount_98 (N := N) C hr hlk  (lv_sub hl [1, 2, 3, 0] rfl) h hm
        · have hm := ite_f c23 hm
          refine lv_iload_n C.1 C.2.1 dX12_readCount_92 rfl (lv_at hl 3 rfl) ?_
          refine lv_bipush (v := Int32.ofInt 18) C.1 C.2.1 dX12_readCount_93 (by decide) ?_
          refine z_icmp_ne (tgt := 102) C dX12_readCount_95 (by decide) g20 (by decide) (fun c24 => ?_) (fun c24 => ?_)
          · have hm := ite_f c24 hm
            refine lv_iconst (v := Int32.ofInt 1) C.1 C.2.1 dX12_readCount_102 (by decide) ?_
            exact lm_readCount_103 (N := N) C hr hlk  (lv_sub hl [1, 2, 3, 0] rfl) h hm
          · have hm := ite_t c24 hm
            exact lm_readCount_98 (N := N) C hr hlk  (lv_sub hl [1, 2, 3, 0] rfl) h hm
set_option maxHeartbeats 4000000 in
set_option maxRecDepth 100000 in
theorem lm_readCount_68 {r : St} (C : Cx p s m args c cX12_readCount RX12 (cd :: rW) D (TYs k) 6) (hr : meth.sig.returnType = none) (hlk : meth.locks = false)  {ls : Array Slot} {H : Heap} {locs : List Loc} {σ : St} {x1 : Int} {x2 : Int} (hl : lv_has ls 6 [(0, .ref (g 0)), (1, .int (Int32.ofInt x1)), (2, .int (Int32.ofInt x2))]) (h : Hp D A s.heap H locs (mW k g σ)) (hm : r_readCount_68 N  σ x1 x2 = some r) : W p l e { frames := 4, cells := 0, slots := 0, locals := 89 } s m args below meth c H locs 0 0 (MQ below (va_Qv (fun (_ : Unit) => True) (fun _ t => PostW D (TYs k) A (mW k g r) t) A) args s 0 0 A) (F0 m 68 ls []) := by
  rw [r_readCount_68] at hm
  refine lv_iconst (v := Int32.ofInt 0) C.1 C.2.1 dX12_readCount_68 (by decide) ?_
  exact lm_readCount_69 (N := N) C hr hlk  (lv_sub hl [0, 1, 2] rfl) h hm
set_option maxHeartbeats 4000000 in
set_option maxRecDepth 100000 in
theorem lm_readCount_34 {r : St} (C : Cx p s m args c cX12_readCount RX12 (cd :: rW) D (TYs k) 6) (hr : meth.sig.returnType = none) (hlk : meth.locks = false)  {ls : Array Slot} {H : Heap} {locs : List Loc} {σ : St} {x1 : Int} (hl : lv_has ls 6 [(0, .ref (g 0)), (1, .int (Int32.ofInt x1))]) (h : Hp D A s.heap H locs (mW k g σ)) (hm : r_readCount_34 N  σ x1 = some r) : W p l e { frames := 4, cells := 0, slots := 0, locals := 89 } s m args below meth c H locs 0 0 (MQ below (va_Qv (fun (_ : Unit) => True) (fun _ t => PostW D (TYs k) A (mW k g r) t) A) args s 0 0 A) (F0 m 34 ls []) := by
  rw [r_readCount_34] at hm
  refine lv_aload_n C.1 C.2.1 dX12_readCount_34 rfl (lv_at hl 0 rfl) ?_
  refine fg_11 C h dX12_readCount_35 ?_
  obtain ⟨g9, hm⟩ := grd_s hm
  refine z_if_eq (tgt := 42) C dX12_readCount_38 (by decide) g9 (fun c10 => ?_) (fun c10 => ?_)
  · have hm := ite_t c10 hm
    refine lv_aload_n C.1 C.2.1 dX12_readCount_42 rfl (lv_at hl 0 rfl) ?_
    refine fg_19 C h dX12_readCount_43 ?_
    refine lv_iload_n C.1 C.2.1 dX12_readCount_46 rfl (lv_at hl 1 rfl) ?_
    obtain ⟨g11, hm⟩ := grd_s hm
    refine al_92 C h dX12_readCount_47 g11 ?_
    obtain ⟨v12, e13, hm⟩ := bnd_s hm
    rw [e13]
    refine lv_istore_n (lv' := [(2, .int (Int32.ofInt v12)), (0, .ref (g 0)), (1, .int (Int32.ofInt x1))]) C.1 C.2.1 dX12_readCount_48 rfl hl (by decide) rfl (fun ls hl => ?_)
    refine lv_iload_n C.1 C.2.1 dX12_readCount_49 rfl (lv_at hl 0 rfl) ?_
    refine lv_bipush (v := Int32.ofInt 6) C.1 C.2.1 dX12_readCount_50 (by decide) ?_
    obtain ⟨g14, hm⟩ := grd_s hm
    refine z_icmp_ne (tgt := 68) C dX12_readCount_52 (by decide) g14 (by decide) (fun c15 => ?_) (fun c15 => ?_)
    · have hm := ite_f c15 hm
      exact lm_readCount_68 (N := N) C hr hlk  (lv_sub hl [1, 2, 0] rfl) h hm
    · have hm := ite_t c15 hm
      refine lv_aload_n C.1 C.2.1 dX12_readCount_55 rfl (lv_at hl 1 rfl) ?_
      refine fg_20 C h dX12_readCount_56 ?_
      refine lv_iload_n C.1 C.2.1 dX12_readCount_59 rfl (lv_at hl 2 rfl) ?_
      refine al_91 C h dX12_readCount_60 g11 ?_
      obtain ⟨g16, hm⟩ := grd_s hm
      refine z_if_eq (tgt := 68) C dX12_readCount_61 (by decide) g16 (fun c17 => ?_) (fun c17 => ?_)
      · have hm := ite_t c17 hm
        exact lm_readCount_68 (N := N) C hr hlk  (lv_sub hl [1, 2, 0] rfl) h hm
      · have hm := ite_f c17 hm
        refine lv_iconst (v := Int32.ofInt 1) C.1 C.2.1 dX12_readCount_64 (by decide) ?_
        refine lv_goto (tgt := 69) C.1 C.2.1 dX12_readCount_65 (by decide) ?_
        exact lm_readCount_69 (N := N) C hr hlk  (lv_sub hl [1, 2, 0] rfl) h hm
  · have hm := ite_f c10 hm
    cases hm
    exact q_vret C h hr hlk dX12_readCount_41
set_option maxHeartbeats 4000000 in
set_option maxRecDepth 100000 in
theorem lm_readCount_17 {r : St} (C : Cx p s m args c cX12_readCount RX12 (cd :: rW) D (TYs k) 6) (hr : meth.sig.returnType = none) (hlk : meth.locks = false)  {ls : Array Slot} {H : Heap} {locs : List Loc} {σ : St} {x1 : Int} (hl : lv_has ls 6 [(0, .ref (g 0)), (1, .int (Int32.ofInt x1))]) (h : Hp D A s.heap H locs (mW k g σ)) (hm : r_readCount_17 N  σ x1 = some r) : W p l e { frames := 4, cells := 0, slots := 0, locals := 89 } s m args below meth c H locs 0 0 (MQ below (va_Qv (fun (_ : Unit) => True) (fun _ t => PostW D (TYs k) A (mW k g r) t) A) args s 0 0 A) (F0 m 17 ls []) := by
  rw [r_readCount_17] at hm
  refine lv_aload_n C.1 C.2.1 dX12_readCount_17 rfl (lv_at hl 0 rfl) ?_
  refine fg_3 C h dX12_readCount_18 ?_
  refine lv_iconst (v := Int32.ofInt 3) C.1 C.2.1 dX12_readCount_21 (by decide) ?_
  obtain ⟨g5, hm⟩ := grd_s hm
  refine z_icmp_eq (tgt := 34) C dX12_readCount_22 (by decide) g5 (by decide) (fun c6 => ?_) (fun c6 => ?_)
  · have hm := ite_t c6 hm
    exact lm_readCount_34 (N := N) C hr hlk  (lv_sub hl [0, 1] rfl) h hm
  · have hm := ite_f c6 hm
    refine lv_aload_n C.1 C.2.1 dX12_readCount_25 rfl (lv_at hl 0 rfl) ?_
    refine lv_iconst (v := Int32.ofInt 1) C.1 C.2.1 dX12_readCount_26 (by decide) ?_
    refine lv_aload_n C.1 C.2.1 dX12_readCount_27 rfl (lv_at hl 0 rfl) ?_
    refine fg_4 C h dX12_readCount_28 ?_
    obtain ⟨r7, e8, hm⟩ := obd_s hm
    refine q_callVv C h (rc_fail l D k g N σ 1 (fl σ 4 0) r7 e8) (cwV 2 C.2.2.1 (gR_fail _) rfl rfl rfl hd_fail ⟨Nat.le_of_ble_eq_true rfl, Nat.le_of_ble_eq_true rfl⟩) rfl hl.1 rfl (Nat.le_of_ble_eq_true rfl) dX12_readCount_31 ⟨Nat.le_of_ble_eq_true rfl, Nat.le_of_ble_eq_true rfl⟩ (fun H locs h => ?_)
    exact lm_readCount_34 (N := N) C hr hlk  (lv_sub hl [0, 1] rfl) h hm
set_option maxHeartbeats 4000000 in
set_option maxRecDepth 100000 in
theorem rc_readCount (l : Launch) (D : va_G) (k : Nat → ClassId) (g : Nat → Nat) (N : Nat) (σ : St) (x1 : Int) (r : St) (hm : r_readCount N σ x1 = some r) : Mv l yX12_readCount (.code yX12_readCount cX12_readCount 6 none :: rW) { frames := 4, cells := 0, slots := 0, locals := 89 } [.ref (g 0), .int (Int32.ofInt x1)] D (TYs k) (mW k g σ) (fun _ => True) Unit (fun _ => True) (fun _ => mW k g r) 0 0 := by
  intro sz
  refine x_met (cc := cX12_readCount) (maxL := 6) (ret := none) (by decide) rfl (Nat.le_of_ble_eq_true rfl) ?_
  intro p e s m below meth c ls C hX hsz hr hlk hmn hl h
  have hl : lv_has ls 6 [(0, .ref (g 0)), (1, .int (Int32.ofInt x1))] := hl
  rw [r_readCount] at hm
  refine lv_aload_n C.1 C.2.1 dX12_readCount_0 rfl (lv_at hl 0 rfl) ?_
  refine fg_3 C h dX12_readCount_1 ?_
  refine lv_iconst (v := Int32.ofInt 4) C.1 C.2.1 dX12_readCount_4 (by decide) ?_
  obtain ⟨g1, hm⟩ := grd_s hm
  refine z_icmp_ne (tgt := 17) C dX12_readCount_5 (by decide) g1 (by decide) (fun c2 => ?_) (fun c2 => ?_)
  · have hm := ite_f c2 hm
    exact lm_readCount_17 (N := N) C hr hlk  (lv_sub hl [0, 1] rfl) h hm
  · have hm := ite_t c2 hm
    refine lv_aload_n C.1 C.2.1 dX12_readCount_8 rfl (lv_at hl 0 rfl) ?_
    refine lv_iconst (v := Int32.ofInt 3) C.1 C.2.1 dX12_readCount_9 (by decide) ?_
    refine lv_aload_n C.1 C.2.1 dX12_readCount_10 rfl (lv_at hl 0 rfl) ?_
    refine fg_4 C h dX12_readCount_11 ?_
    obtain ⟨r3, e4, hm⟩ := obd_s hm
    refine q_callVv C h (rc_fail l D k g N σ 3 (fl σ 4 0) r3 e4) (cwV 2 C.2.2.1 (gR_fail _) rfl rfl rfl hd_fail ⟨Nat.le_of_ble_eq_true rfl, Nat.le_of_ble_eq_true rfl⟩) rfl hl.1 rfl (Nat.le_of_ble_eq_true rfl) dX12_readCount_14 ⟨Nat.le_of_ble_eq_true rfl, Nat.le_of_ble_eq_true rfl⟩ (fun H locs h => ?_)
    exact lm_readCount_17 (N := N) C hr hlk  (lv_sub hl [0, 1] rfl) h hm
end L_readCount
section L_common
variable {p : Program} {l : Launch} {e : Env} {s : State} {m : MethodId} {args : Array Value} {below : List Frame} {meth : Method} {c : Code} {D : va_G} {A : Nat → Prop} {k : Nat → ClassId} {g : Nat → Nat} {N : Nat} {cd : Cond}
set_option maxHeartbeats 4000000 in
set_option maxRecDepth 100000 in
theorem lm_common_4 {r : Int} (C : Cx p s m args c cX12_common RX12 (cd :: rW) D (TYs k) 5) (hr : meth.sig.returnType = (some .int)) (hlk : meth.locks = false)  (n : Nat) : ∀ {ls : Array Slot} {H : Heap} {locs : List Loc} {x2 : Int} {x3 : Int}, lv_has ls 5 [(2, .int (Int32.ofInt x2)), (3, .int (Int32.ofInt x3))] → Hp D A s.heap H locs [] → r_common_4 N  n x2 x3 = some r → W p l e { frames := 0, cells := 0, slots := 0, locals := 0 } s m args below meth c H locs 0 0 (MQ below (va_Qi (fun v (_ : Unit) => v = Int32.ofInt r) (fun _ t => PostW D (TYs k) A [] t) A) args s 0 0 A) (F0 m 4 ls []) := by
  induction n with
  | zero => intro ls H locs x2 x3 hl h hm; cases (show none = some r from hm)
  | succ n hrec4 =>
    intro ls H locs x2 x3 hl h hm
    rw [r_common_4] at hm
    refine lv_iload_n C.1 C.2.1 dX12_common_4 rfl (lv_at hl 1 rfl) ?_
    obtain ⟨g1, hm⟩ := grd_s hm
    refine z_if_eq (tgt := 21) C dX12_common_5 (by decide) g1 (fun c2 => ?_) (fun c2 => ?_)
    · have hm := ite_t c2 hm
      refine lv_iload_n C.1 C.2.1 dX12_common_21 rfl (lv_at hl 0 rfl) ?_
      cases hm
      exact q_iretS C h hr hlk dX12_common_22 rfl
    · have hm := ite_f c2 hm
      refine lv_iload_n C.1 C.2.1 dX12_common_8 rfl (lv_at hl 0 rfl) ?_
      refine lv_iload_n C.1 C.2.1 dX12_common_9 rfl (lv_at hl 1 rfl) ?_
      obtain ⟨g3, hm⟩ := grd_s hm
      obtain ⟨g4, hm⟩ := grd_s hm
      refine z_irem C dX12_common_10 g3 g1 g4 ?_
      obtain ⟨v5, e6, hm⟩ := bnd_s hm
      rw [e6]
      refine lv_istore (lv' := [(4, .int (Int32.ofInt v5)), (2, .int (Int32.ofInt x2)), (3, .int (Int32.ofInt x3))]) C.1 C.2.1 dX12_common_11 hl (by decide) rfl (fun ls hl => ?_)
      refine lv_iload_n C.1 C.2.1 dX12_common_13 rfl (lv_at hl 2 rfl) ?_
      refine lv_istore_n (lv' := [(2, .int (Int32.ofInt x3)), (4, .int (Int32.ofInt v5)), (3, .int (Int32.ofInt x3))]) C.1 C.2.1 dX12_common_14 rfl hl (by decide) rfl (fun ls hl => ?_)
      refine lv_iload C.1 C.2.1 dX12_common_15 (lv_at hl 1 rfl) ?_
      refine lv_istore_n (lv' := [(3, .int (Int32.ofInt v5)), (2, .int (Int32.ofInt x3)), (4, .int (Int32.ofInt v5))]) C.1 C.2.1 dX12_common_17 rfl hl (by decide) rfl (fun ls hl => ?_)
      refine lv_goto (tgt := 4) C.1 C.2.1 dX12_common_18 (by decide) ?_
      exact hrec4 (lv_sub hl [1, 0] rfl) h hm
set_option maxHeartbeats 4000000 in
set_option maxRecDepth 100000 in
theorem rc_common (l : Launch) (D : va_G) (k : Nat → ClassId) (N : Nat) (x0 : Int) (x1 : Int) (r : Int) (hm : r_common N x0 x1 = some r) : Mi l yX12_common (.code yX12_common cX12_common 5 (some .int) :: rW) { frames := 0, cells := 0, slots := 0, locals := 0 } [.int (Int32.ofInt x0), .int (Int32.ofInt x1)] D (TYs k) [] (fun _ => True) Unit (fun v _ => v = Int32.ofInt r) (fun _ => []) 0 0 := by
  intro sz
  refine x_met (cc := cX12_common) (maxL := 5) (ret := (some .int)) (by decide) rfl (Nat.le_of_ble_eq_true rfl) ?_
  intro p e s m below meth c ls C hX hsz hr hlk hmn hl h
  have hl : lv_has ls 5 [(0, .int (Int32.ofInt x0)), (1, .int (Int32.ofInt x1))] := hl
  rw [r_common] at hm
  refine lv_iload_n C.1 C.2.1 dX12_common_0 rfl (lv_at hl 0 rfl) ?_
  refine lv_istore_n (lv' := [(2, .int (Int32.ofInt x0)), (0, .int (Int32.ofInt x0)), (1, .int (Int32.ofInt x1))]) C.1 C.2.1 dX12_common_1 rfl hl (by decide) rfl (fun ls hl => ?_)
  refine lv_iload_n C.1 C.2.1 dX12_common_2 rfl (lv_at hl 2 rfl) ?_
  refine lv_istore_n (lv' := [(3, .int (Int32.ofInt x1)), (2, .int (Int32.ofInt x0)), (0, .int (Int32.ofInt x0)), (1, .int (Int32.ofInt x1))]) C.1 C.2.1 dX12_common_3 rfl hl (by decide) rfl (fun ls hl => ?_)
  exact lm_common_4 (N := N) C hr hlk  N (lv_sub hl [1, 0] rfl) h hm
end L_common
section L_readFraction
variable {p : Program} {l : Launch} {e : Env} {s : State} {m : MethodId} {args : Array Value} {below : List Frame} {meth : Method} {c : Code} {D : va_G} {A : Nat → Prop} {k : Nat → ClassId} {g : Nat → Nat} {N : Nat} {cd : Cond}
set_option maxHeartbeats 4000000 in
set_option maxRecDepth 100000 in
theorem lm_readFraction_240 {r : St} (C : Cx p s m args c cX12_readFraction RX12 (cd :: rW) D (TYs k) 9) (hr : meth.sig.returnType = none) (hlk : meth.locks = false)  {ls : Array Slot} {H : Heap} {locs : List Loc} {σ : St}  (hl : lv_has ls 9 [(0, .ref (g 0))]) (h : Hp D A s.heap H locs (mW k g σ)) (hm : r_readFraction_240 N  σ  = some r) : W p l e { frames := 4, cells := 0, slots := 0, locals := 89 } s m args below meth c H locs 0 0 (MQ below (va_Qv (fun (_ : Unit) => True) (fun _ t => PostW D (TYs k) A (mW k g r) t) A) args s 0 0 A) (F0 m 240 ls []) := by
  rw [r_readFraction_240] at hm
  refine lv_aload_n C.1 C.2.1 dX12_readFraction_240 rfl (lv_at hl 0 rfl) ?_
  obtain ⟨r58, e59, hm⟩ := obd_s hm
  refine q_callVv C h (rc_advance l D k g N σ  r58 e59) (cwV 0 C.2.2.1 (gR_advance _) rfl rfl rfl hd_advance ⟨Nat.le_of_ble_eq_true rfl, Nat.le_of_ble_eq_true rfl⟩) rfl hl.1 rfl (Nat.le_of_ble_eq_true rfl) dX12_readFraction_241 ⟨Nat.le_of_ble_eq_true rfl, Nat.le_of_ble_eq_true rfl⟩ (fun H locs h => ?_)
  cases hm
  exact q_vret C h hr hlk dX12_readFraction_244
set_option maxHeartbeats 4000000 in
set_option maxRecDepth 100000 in
theorem lm_readFraction_168 {r : St} (C : Cx p s m args c cX12_readFraction RX12 (cd :: rW) D (TYs k) 9) (hr : meth.sig.returnType = none) (hlk : meth.locks = false)  {ls : Array Slot} {H : Heap} {locs : List Loc} {σ : St} {x1 : Int} {x2 : Int} {x3 : Int} {x6 : Int} {s0 : Int} (hl : lv_has ls 9 [(0, .ref (g 0)), (1, .int (Int32.ofInt x1)), (2, .int (Int32.ofInt x2)), (3, .int (Int32.ofInt x3)), (6, .int (Int32.ofInt x6))]) (h : Hp D A s.heap H locs (mW k g σ)) (hm : r_readFraction_168 N  σ x1 x2 x3 x6 s0 = some r) : W p l e { frames := 4, cells := 0, slots := 0, locals := 89 } s m args below meth c H locs 0 0 (MQ below (va_Qv (fun (_ : Unit) => True) (fun _ t => PostW D (TYs k) A (mW k g r) t) A) args s 0 0 A) (F0 m 168 ls [.int (Int32.ofInt s0)]) := by
  rw [r_readFraction_168] at hm
  refine lv_istore (lv' := [(7, .int (Int32.ofInt s0)), (0, .ref (g 0)), (1, .int (Int32.ofInt x1)), (2, .int (Int32.ofInt x2)), (3, .int (Int32.ofInt x3)), (6, .int (Int32.ofInt x6))]) C.1 C.2.1 dX12_readFraction_168 hl (by decide) rfl (fun ls hl => ?_)
  refine lv_iload C.1 C.2.1 dX12_readFraction_170 (lv_at hl 0 rfl) ?_
  obtain ⟨g34, hm⟩ := grd_s hm
  refine z_if_ne (tgt := 185) C dX12_readFraction_172 (by decide) g34 (fun c35 => ?_) (fun c35 => ?_)
  · have hm := ite_f c35 hm
    refine lv_iload_n C.1 C.2.1 dX12_readFraction_185 rfl (lv_at hl 3 rfl) ?_
    refine lv_iload_n C.1 C.2.1 dX12_readFraction_186 rfl (lv_at hl 4 rfl) ?_
    obtain ⟨r36, e37, hm⟩ := obd_s hm
    refine q_callSi C h (rc_common l D k N x2 x3 r36 e37) (cwS 2 C.2.2.1 (gR_common _) rfl rfl rfl hd_common ⟨Nat.le_of_ble_eq_true rfl, Nat.le_of_ble_eq_true rfl⟩) rfl hl.1 rfl (Nat.le_of_ble_eq_true rfl) dX12_readFraction_187 ⟨Nat.le_of_ble_eq_true rfl, Nat.le_of_ble_eq_true rfl⟩ (fun H locs h => ?_)
    refine lv_istore (lv' := [(8, .int (Int32.ofInt r36)), (7, .int (Int32.ofInt s0)), (0, .ref (g 0)), (1, .int (Int32.ofInt x1)), (2, .int (Int32.ofInt x2)), (3, .int (Int32.ofInt x3)), (6, .int (Int32.ofInt x6))]) C.1 C.2.1 dX12_readFraction_190 hl (by decide) rfl (fun ls hl => ?_)
    refine lv_iload C.1 C.2.1 dX12_readFraction_192 (lv_at hl 6 rfl) ?_
    obtain ⟨g38, hm⟩ := grd_s hm
    refine z_if_eq (tgt := 220) C dX12_readFraction_194 (by decide) g38 (fun c39 => ?_) (fun c39 => ?_)
    · have hm := ite_t c39 hm
      refine lv_aload_n C.1 C.2.1 dX12_readFraction_220 rfl (lv_at hl 2 rfl) ?_
      refine fg_20 C h dX12_readFraction_221 ?_
      refine lv_iload_n C.1 C.2.1 dX12_readFraction_224 rfl (lv_at hl 3 rfl) ?_
      refine lv_iload_n C.1 C.2.1 dX12_readFraction_225 rfl (lv_at hl 4 rfl) ?_
      refine lv_iload C.1 C.2.1 dX12_readFraction_226 (lv_at hl 0 rfl) ?_
      obtain ⟨g40, hm⟩ := grd_s hm
      obtain ⟨g41, hm⟩ := grd_s hm
      obtain ⟨g42, hm⟩ := grd_s hm
      refine z_idiv C dX12_readFraction_228 g40 g41 g42 ?_
      obtain ⟨g43, hm⟩ := grd_s hm
      refine as_91 C h dX12_readFraction_229 g43 (fun H locs h => ?_)
      refine lv_aload_n C.1 C.2.1 dX12_readFraction_230 rfl (lv_at hl 2 rfl) ?_
      refine fg_21 C h dX12_readFraction_231 ?_
      refine lv_iload_n C.1 C.2.1 dX12_readFraction_234 rfl (lv_at hl 3 rfl) ?_
      refine lv_iload_n C.1 C.2.1 dX12_readFraction_235 rfl (lv_at hl 5 rfl) ?_
      refine lv_iload C.1 C.2.1 dX12_readFraction_236 (lv_at hl 0 rfl) ?_
      obtain ⟨g44, hm⟩ := grd_s hm
      refine z_idiv C dX12_readFraction_238 g44 g41 g42 ?_
      refine as_90 C h dX12_readFraction_239 g43 (fun H locs h => ?_)
      exact lm_readFraction_240 (N := N) C hr hlk  (lv_sub hl [2] rfl) h hm
    · have hm := ite_f c39 hm
      refine lv_aload_n C.1 C.2.1 dX12_readFraction_197 rfl (lv_at hl 2 rfl) ?_
      refine fg_22 C h dX12_readFraction_198 ?_
      refine lv_iload_n C.1 C.2.1 dX12_readFraction_201 rfl (lv_at hl 3 rfl) ?_
      refine lv_iload_n C.1 C.2.1 dX12_readFraction_202 rfl (lv_at hl 4 rfl) ?_
      refine lv_iload C.1 C.2.1 dX12_readFraction_203 (lv_at hl 0 rfl) ?_
      obtain ⟨g45, hm⟩ := grd_s hm
      obtain ⟨g46, hm⟩ := grd_s hm
      obtain ⟨g47, hm⟩ := grd_s hm
      refine z_idiv C dX12_readFraction_205 g45 g46 g47 ?_
      obtain ⟨g48, hm⟩ := grd_s hm
      refine as_89 C h dX12_readFraction_206 g48 (fun H locs h => ?_)
      refine lv_aload_n C.1 C.2.1 dX12_readFraction_207 rfl (lv_at hl 2 rfl) ?_
      refine fg_23 C h dX12_readFraction_208 ?_
      refine lv_iload_n C.1 C.2.1 dX12_readFraction_211 rfl (lv_at hl 3 rfl) ?_
      refine lv_iload_n C.1 C.2.1 dX12_readFraction_212 rfl (lv_at hl 5 rfl) ?_
      refine lv_iload C.1 C.2.1 dX12_readFraction_213 (lv_at hl 0 rfl) ?_
      obtain ⟨g49, hm⟩ := grd_s hm
      refine z_idiv C dX12_readFraction_215 g49 g46 g47 ?_
      refine as_88 C h dX12_readFraction_216 g48 (fun H locs h => ?_)
      refine lv_goto (tgt := 240) C.1 C.2.1 dX12_readFraction_217 (by decide) ?_
      exact lm_readFraction_240 (N := N) C hr hlk  (lv_sub hl [2] rfl) h hm
  · have hm := ite_t c35 hm
    refine lv_aload_n C.1 C.2.1 dX12_readFraction_175 rfl (lv_at hl 1 rfl) ?_
    refine lv_iconst (v := Int32.ofInt 3) C.1 C.2.1 dX12_readFraction_176 (by decide) ?_
    refine lv_aload_n C.1 C.2.1 dX12_readFraction_177 rfl (lv_at hl 1 rfl) ?_
    refine fg_4 C h dX12_readFraction_178 ?_
    obtain ⟨r50, e51, hm⟩ := obd_s hm
    refine q_callVv C h (rc_fail l D k g N σ 3 (fl σ 4 0) r50 e51) (cwV 2 C.2.2.1 (gR_fail _) rfl rfl rfl hd_fail ⟨Nat.le_of_ble_eq_true rfl, Nat.le_of_ble_eq_true rfl⟩) rfl hl.1 rfl (Nat.le_of_ble_eq_true rfl) dX12_readFraction_181 ⟨Nat.le_of_ble_eq_true rfl, Nat.le_of_ble_eq_true rfl⟩ (fun H locs h => ?_)
    cases hm
    exact q_vret C h hr hlk dX12_readFraction_184
set_option maxHeartbeats 4000000 in
set_option maxRecDepth 100000 in
theorem lm_readFraction_163 {r : St} (C : Cx p s m args c cX12_readFraction RX12 (cd :: rW) D (TYs k) 9) (hr : meth.sig.returnType = none) (hlk : meth.locks = false)  {ls : Array Slot} {H : Heap} {locs : List Loc} {σ : St} {x1 : Int} {x2 : Int} {x3 : Int} {x6 : Int} (hl : lv_has ls 9 [(0, .ref (g 0)), (1, .int (Int32.ofInt x1)), (2, .int (Int32.ofInt x2)), (3, .int (Int32.ofInt x3)), (6, .int (Int32.ofInt x6))]) (h : Hp D A s.heap H locs (mW k g σ)) (hm : r_readFraction_163 N  σ x1 x2 x3 x6 = some r) : W p l e { frames := 4, cells := 0, slots := 0, locals := 89 } s m args below meth c H locs 0 0 (MQ below (va_Qv (fun (_ : Unit) => True) (fun _ t => PostW D (TYs k) A (mW k g r) t) A) args s 0 0 A) (F0 m 163 ls []) := by
  rw [r_readFraction_163] at hm
  refine lv_iconst (v := Int32.ofInt 1) C.1 C.2.1 dX12_readFraction_163 (by decide) ?_
  refine lv_goto (tgt := 168) C.1 C.2.1 dX12_readFraction_164 (by decide) ?_
  exact lm_readFraction_168 (N := N) C hr hlk  (lv_sub hl [0, 1, 2, 3, 4] rfl) h hm
set_option maxHeartbeats 4000000 in
set_option maxRecDepth 100000 in
theorem lm_readFraction_167 {r : St} (C : Cx p s m args c cX12_readFraction RX12 (cd :: rW) D (TYs k) 9) (hr : meth.sig.returnType = none) (hlk : meth.locks = false)  {ls : Array Slot} {H : Heap} {locs : List Loc} {σ : St} {x1 : Int} {x2 : Int} {x3 : Int} {x6 : Int} (hl : lv_has ls 9 [(0, .ref (g 0)), (1, .int (Int32.ofInt x1)), (2, .int (Int32.ofInt x2)), (3, .int (Int32.ofInt x3)), (6, .int (Int32.ofInt x6))]) (h : Hp D A s.heap H locs (mW k g σ)) (hm : r_readFraction_167 N  σ x1 x2 x3 x6 = some r) : W p l e { frames := 4, cells := 0, slots := 0, locals := 89 } s m args below meth c H locs 0 0 (MQ below (va_Qv (fun (_ : Unit) => True) (fun _ t => PostW D (TYs k) A (mW k g r) t) A) args s 0 0 A) (F0 m 167 ls []) := by
  rw [r_readFraction_167] at hm
  refine lv_iconst (v := Int32.ofInt 0) C.1 C.2.1 dX12_readFraction_167 (by decide) ?_
  exact lm_readFraction_168 (N := N) C hr hlk  (lv_sub hl [0, 1, 2, 3, 4] rfl) h hm
set_option maxHeartbeats 4000000 in
set_option maxRecDepth 100000 in
theorem lm_readFraction_139 {r : St} (C : Cx p s m args c cX12_readFraction RX12 (cd :: rW) D (TYs k) 9) (hr : meth.sig.returnType = none) (hlk : meth.locks = false)  {ls : Array Slot} {H : Heap} {locs : List Loc} {σ : St} {x1 : Int} {x2 : Int} {x3 : Int} {x6 : Int} (hl : lv_has ls 9 [(0, .ref (g 0)), (1, .int (Int32.ofInt x1)), (2, .int (Int32.ofInt x2)), (3, .int (Int32.ofInt x3)), (6, .int (Int32.ofInt x6))]) (h : Hp D A s.heap H locs (mW k g σ)) (hm : r_readFraction_139 N  σ x1 x2 x3 x6 = some r) : W p l e { frames := 4, cells := 0, slots := 0, locals := 89 } s m args below meth c H locs 0 0 (MQ below (va_Qv (fun (_ : Unit) => True) (fun _ t => PostW D (TYs k) A (mW k g r) t) A) args s 0 0 A) (F0 m 139 ls []) := by
  rw [r_readFraction_139] at hm
  refine lv_iload C.1 C.2.1 dX12_readFraction_139 (lv_at hl 4 rfl) ?_
  obtain ⟨g52, hm⟩ := grd_s hm
  refine z_if_eq (tgt := 163) C dX12_readFraction_141 (by decide) g52 (fun c53 => ?_) (fun c53 => ?_)
  · have hm := ite_t c53 hm
    exact lm_readFraction_163 (N := N) C hr hlk  (lv_sub hl [0, 1, 2, 3, 4] rfl) h hm
  · have hm := ite_f c53 hm
    refine lv_iload_n C.1 C.2.1 dX12_readFraction_144 rfl (lv_at hl 2 rfl) ?_
    refine lv_aload_n C.1 C.2.1 dX12_readFraction_145 rfl (lv_at hl 0 rfl) ?_
    refine fg_21 C h dX12_readFraction_146 ?_
    refine lv_iload_n C.1 C.2.1 dX12_readFraction_149 rfl (lv_at hl 1 rfl) ?_
    obtain ⟨g54, hm⟩ := grd_s hm
    refine al_90 C h dX12_readFraction_150 g54 ?_
    refine z_imul C dX12_readFraction_151 ?_
    refine lv_aload_n C.1 C.2.1 dX12_readFraction_152 rfl (lv_at hl 0 rfl) ?_
    refine fg_20 C h dX12_readFraction_153 ?_
    refine lv_iload_n C.1 C.2.1 dX12_readFraction_156 rfl (lv_at hl 1 rfl) ?_
    refine al_91 C h dX12_readFraction_157 g54 ?_
    refine lv_iload_n C.1 C.2.1 dX12_readFraction_158 rfl (lv_at hl 3 rfl) ?_
    refine z_imul C dX12_readFraction_159 ?_
    obtain ⟨g55, hm⟩ := grd_s hm
    obtain ⟨g56, hm⟩ := grd_s hm
    refine z_icmp_le (tgt := 167) C dX12_readFraction_160 (by decide) g55 g56 (fun c57 => ?_) (fun c57 => ?_)
    · have hm := ite_f c57 hm
      exact lm_readFraction_167 (N := N) C hr hlk  (lv_sub hl [0, 1, 2, 3, 4] rfl) h hm
    · have hm := ite_t c57 hm
      exact lm_readFraction_163 (N := N) C hr hlk  (lv_sub hl [0, 1, 2, 3, 4] rfl) h hm
set_option maxHeartbeats 4000000 in
set_option maxRecDepth 100000 in
theorem lm_readFraction_129 {r : St} (C : Cx p s m args c cX12_readFraction RX12 (cd :: rW) D (TYs k) 9) (hr : meth.sig.returnType = none) (hlk : meth.locks = false)  {ls : Array Slot} {H : Heap} {locs : List Loc} {σ : St} {x1 : Int} {x2 : Int} {x3 : Int} {x5 : Int} {x6 : Int} (hl : lv_has ls 9 [(0, .ref (g 0)), (1, .int (Int32.ofInt x1)), (2, .int (Int32.ofInt x2)), (3, .int (Int32.ofInt x3)), (5, .int (Int32.ofInt x5)), (6, .int (Int32.ofInt x6))]) (h : Hp D A s.heap H locs (mW k g σ)) (hm : r_readFraction_129 N  σ x1 x2 x3 x5 x6 = some r) : W p l e { frames := 4, cells := 0, slots := 0, locals := 89 } s m args below meth c H locs 0 0 (MQ below (va_Qv (fun (_ : Unit) => True) (fun _ t => PostW D (TYs k) A (mW k g r) t) A) args s 0 0 A) (F0 m 129 ls []) := by
  rw [r_readFraction_129] at hm
  refine lv_iload C.1 C.2.1 dX12_readFraction_129 (lv_at hl 4 rfl) ?_
  obtain ⟨g29, hm⟩ := grd_s hm
  refine z_if_eq (tgt := 139) C dX12_readFraction_131 (by decide) g29 (fun c30 => ?_) (fun c30 => ?_)
  · have hm := ite_t c30 hm
    exact lm_readFraction_139 (N := N) C hr hlk  (lv_sub hl [0, 1, 2, 3, 5] rfl) h hm
  · have hm := ite_f c30 hm
    refine lv_iload_n C.1 C.2.1 dX12_readFraction_134 rfl (lv_at hl 2 rfl) ?_
    refine lv_iload_n C.1 C.2.1 dX12_readFraction_135 rfl (lv_at hl 3 rfl) ?_
    obtain ⟨g31, hm⟩ := grd_s hm
    obtain ⟨g32, hm⟩ := grd_s hm
    refine z_icmp_gt (tgt := 167) C dX12_readFraction_136 (by decide) g31 g32 (fun c33 => ?_) (fun c33 => ?_)
    · have hm := ite_t c33 hm
      exact lm_readFraction_167 (N := N) C hr hlk  (lv_sub hl [0, 1, 2, 3, 5] rfl) h hm
    · have hm := ite_f c33 hm
      exact lm_readFraction_139 (N := N) C hr hlk  (lv_sub hl [0, 1, 2, 3, 5] rfl) h hm
set_option maxHeartbeats 4000000 in
set_option maxRecDepth 100000 in
theorem lm_readFraction_125 {r : St} (C : Cx p s m args c cX12_readFraction RX12 (cd :: rW) D (TYs k) 9) (hr : meth.sig.returnType = none) (hlk : meth.locks = false)  {ls : Array Slot} {H : Heap} {locs : List Loc} {σ : St} {x1 : Int} {x2 : Int} {x3 : Int} {x5 : Int} {x6 : Int} (hl : lv_has ls 9 [(0, .ref (g 0)), (1, .int (Int32.ofInt x1)), (2, .int (Int32.ofInt x2)), (3, .int (Int32.ofInt x3)), (5, .int (Int32.ofInt x5)), (6, .int (Int32.ofInt x6))]) (h : Hp D A s.heap H locs (mW k g σ)) (hm : r_readFraction_125 N  σ x1 x2 x3 x5 x6 = some r) : W p l e { frames := 4, cells := 0, slots := 0, locals := 89 } s m args below meth c H locs 0 0 (MQ below (va_Qv (fun (_ : Unit) => True) (fun _ t => PostW D (TYs k) A (mW k g r) t) A) args s 0 0 A) (F0 m 125 ls []) := by
  rw [r_readFraction_125] at hm
  refine lv_iload_n C.1 C.2.1 dX12_readFraction_125 rfl (lv_at hl 2 rfl) ?_
  obtain ⟨g27, hm⟩ := grd_s hm
  refine z_if_le (tgt := 167) C dX12_readFraction_126 (by decide) g27 (fun c28 => ?_) (fun c28 => ?_)
  · have hm := ite_f c28 hm
    exact lm_readFraction_167 (N := N) C hr hlk  (lv_sub hl [0, 1, 2, 3, 5] rfl) h hm
  · have hm := ite_t c28 hm
    exact lm_readFraction_129 (N := N) C hr hlk  (lv_sub hl [0, 1, 2, 3, 4, 5] rfl) h hm
set_option maxHeartbeats 4000000 in
set_option maxRecDepth 100000 in
theorem lm_readFraction_96 {r : St} (C : Cx p s m args c cX12_readFraction RX12 (cd :: rW) D (TYs k) 9) (hr : meth.sig.returnType = none) (hlk : meth.locks = false)  {ls : Array Slot} {H : Heap} {locs : List Loc} {σ : St} {x1 : Int} {x2 : Int} {x3 : Int} {x4 : Int} {x5 : Int} {s0 : Int} (hl : lv_has ls 9 [(0, .ref (g 0)), (1, .int (Int32.ofInt x1)), (2, .int (Int32.ofInt x2)), (3, .int (Int32.ofInt x3)), (4, .int (Int32.ofInt x4)), (5, .int (Int32.ofInt x5))]) (h : Hp D A s.heap H locs (mW k g σ)) (hm : r_readFraction_96 N  σ x1 x2 x3 x4 x5 s0 = some r) : W p l e { frames := 4, cells := 0, slots := 0, locals := 89 } s m args below meth c H locs 0 0 (MQ below (va_Qv (fun (_ : Unit) => True) (fun _ t => PostW D (TYs k) A (mW k g r) t) A) args s 0 0 A) (F0 m 96 ls [.int (Int32.ofInt s0)]) := by
  rw [r_readFraction_96] at hm
  refine lv_istore (lv' := [(6, .int (Int32.ofInt s0)), (0, .ref (g 0)), (1, .int (Int32.ofInt x1)), (2, .int (Int32.ofInt x2)), (3, .int (Int32.ofInt x3)), (4, .int (Int32.ofInt x4)), (5, .int (Int32.ofInt x5))]) C.1 C.2.1 dX12_readFraction_96 hl (by decide) rfl (fun ls hl => ?_)
  refine lv_iload_n C.1 C.2.1 dX12_readFraction_98 rfl (lv_at hl 3 rfl) ?_
  refine lv_bipush (v := Int32.ofInt 64) C.1 C.2.1 dX12_readFraction_99 (by decide) ?_
  obtain ⟨g19, hm⟩ := grd_s hm
  refine z_icmp_gt (tgt := 167) C dX12_readFraction_101 (by decide) g19 (by decide) (fun c20 => ?_) (fun c20 => ?_)
  · have hm := ite_t c20 hm
    exact lm_readFraction_167 (N := N) C hr hlk  (lv_sub hl [1, 2, 3, 4, 0] rfl) h hm
  · have hm := ite_f c20 hm
    refine lv_iload_n C.1 C.2.1 dX12_readFraction_104 rfl (lv_at hl 4 rfl) ?_
    refine lv_bipush (v := Int32.ofInt 64) C.1 C.2.1 dX12_readFraction_105 (by decide) ?_
    obtain ⟨g21, hm⟩ := grd_s hm
    refine z_icmp_gt (tgt := 167) C dX12_readFraction_107 (by decide) g21 (by decide) (fun c22 => ?_) (fun c22 => ?_)
    · have hm := ite_t c22 hm
      exact lm_readFraction_167 (N := N) C hr hlk  (lv_sub hl [1, 2, 3, 4, 0] rfl) h hm
    · have hm := ite_f c22 hm
      refine lv_iload_n C.1 C.2.1 dX12_readFraction_110 rfl (lv_at hl 4 rfl) ?_
      refine z_if_eq (tgt := 167) C dX12_readFraction_111 (by decide) g21 (fun c23 => ?_) (fun c23 => ?_)
      · have hm := ite_t c23 hm
        exact lm_readFraction_167 (N := N) C hr hlk  (lv_sub hl [1, 2, 3, 4, 0] rfl) h hm
      · have hm := ite_f c23 hm
        refine lv_iload C.1 C.2.1 dX12_readFraction_114 (lv_at hl 5 rfl) ?_
        obtain ⟨g24, hm⟩ := grd_s hm
        refine z_if_eq (tgt := 125) C dX12_readFraction_116 (by decide) g24 (fun c25 => ?_) (fun c25 => ?_)
        · have hm := ite_t c25 hm
          exact lm_readFraction_125 (N := N) C hr hlk  (lv_sub hl [1, 2, 3, 4, 6, 0] rfl) h hm
        · have hm := ite_f c25 hm
          refine lv_iload C.1 C.2.1 dX12_readFraction_119 (lv_at hl 5 rfl) ?_
          refine lv_iconst (v := Int32.ofInt 1) C.1 C.2.1 dX12_readFraction_121 (by decide) ?_
          refine z_icmp_ne (tgt := 129) C dX12_readFraction_122 (by decide) g24 (by decide) (fun c26 => ?_) (fun c26 => ?_)
          · have hm := ite_f c26 hm
            exact lm_readFraction_129 (N := N) C hr hlk  (lv_sub hl [1, 2, 3, 4, 6, 0] rfl) h hm
          · have hm := ite_t c26 hm
            exact lm_readFraction_125 (N := N) C hr hlk  (lv_sub hl [1, 2, 3, 4, 6, 0] rfl) h hm
set_option maxHeartbeats 4000000 in
set_option maxRecDepth 100000 in
theorem lm_readFraction_95 {r : St} (C : Cx p s m args c cX12_readFraction RX12 (cd :: rW) D (TYs k) 9) (hr : meth.sig.returnType = none) (hlk : meth.locks = false)  {ls : Array Slot} {H : Heap} {locs : List Loc} {σ : St} {x1 : Int} {x2 : Int} {x3 : Int} {x4 : Int} {x5 : Int} (hl : lv_has ls 9 [(0, .ref (g 0)), (1, .int (Int32.ofInt x1)), (2, .int (Int32.ofInt x2)), (3, .int (Int32.ofInt x3)), (4, .int (Int32.ofInt x4)), (5, .int (Int32.ofInt x5))]) (h : Hp D A s.heap H locs (mW k g σ)) (hm : r_readFraction_95 N  σ x1 x2 x3 x4 x5 = some r) : W p l e { frames := 4, cells := 0, slots := 0, locals := 89 } s m args below meth c H locs 0 0 (MQ below (va_Qv (fun (_ : Unit) => True) (fun _ t => PostW D (TYs k) A (mW k g r) t) A) args s 0 0 A) (F0 m 95 ls []) := by
  rw [r_readFraction_95] at hm
  refine lv_iconst (v := Int32.ofInt 0) C.1 C.2.1 dX12_readFraction_95 (by decide) ?_
  exact lm_readFraction_96 (N := N) C hr hlk  (lv_sub hl [0, 1, 2, 3, 4, 5] rfl) h hm
set_option maxHeartbeats 4000000 in
set_option maxRecDepth 100000 in
theorem lm_readFraction_75 {r : St} (C : Cx p s m args c cX12_readFraction RX12 (cd :: rW) D (TYs k) 9) (hr : meth.sig.returnType = none) (hlk : meth.locks = false)  {ls : Array Slot} {H : Heap} {locs : List Loc} {σ : St} {x1 : Int} {x2 : Int} {x3 : Int} {x4 : Int} {s0 : Int} (hl : lv_has ls 9 [(0, .ref (g 0)), (1, .int (Int32.ofInt x1)), (2, .int (Int32.ofInt x2)), (3, .int (Int32.ofInt x3)), (4, .int (Int32.ofInt x4))]) (h : Hp D A s.heap H locs (mW k g σ)) (hm : r_readFraction_75 N  σ x1 x2 x3 x4 s0 = some r) : W p l e { frames := 4, cells := 0, slots := 0, locals := 89 } s m args below meth c H locs 0 0 (MQ below (va_Qv (fun (_ : Unit) => True) (fun _ t => PostW D (TYs k) A (mW k g r) t) A) args s 0 0 A) (F0 m 75 ls [.int (Int32.ofInt s0)]) := by
  rw [r_readFraction_75] at hm
  refine lv_istore (lv' := [(5, .int (Int32.ofInt s0)), (0, .ref (g 0)), (1, .int (Int32.ofInt x1)), (2, .int (Int32.ofInt x2)), (3, .int (Int32.ofInt x3)), (4, .int (Int32.ofInt x4))]) C.1 C.2.1 dX12_readFraction_75 hl (by decide) rfl (fun ls hl => ?_)
  refine lv_iload C.1 C.2.1 dX12_readFraction_77 (lv_at hl 0 rfl) ?_
  obtain ⟨g14, hm⟩ := grd_s hm
  refine z_if_eq (tgt := 95) C dX12_readFraction_79 (by decide) g14 (fun c15 => ?_) (fun c15 => ?_)
  · have hm := ite_t c15 hm
    exact lm_readFraction_95 (N := N) C hr hlk  (lv_sub hl [1, 2, 3, 4, 5, 0] rfl) h hm
  · have hm := ite_f c15 hm
    refine lv_aload_n C.1 C.2.1 dX12_readFraction_82 rfl (lv_at hl 1 rfl) ?_
    refine fg_21 C h dX12_readFraction_83 ?_
    refine lv_iload_n C.1 C.2.1 dX12_readFraction_86 rfl (lv_at hl 2 rfl) ?_
    obtain ⟨g16, hm⟩ := grd_s hm
    refine al_90 C h dX12_readFraction_87 g16 ?_
    obtain ⟨g17, hm⟩ := grd_s hm
    refine z_if_eq (tgt := 95) C dX12_readFraction_88 (by decide) g17 (fun c18 => ?_) (fun c18 => ?_)
    · have hm := ite_t c18 hm
      exact lm_readFraction_95 (N := N) C hr hlk  (lv_sub hl [1, 2, 3, 4, 5, 0] rfl) h hm
    · have hm := ite_f c18 hm
      refine lv_iconst (v := Int32.ofInt 1) C.1 C.2.1 dX12_readFraction_91 (by decide) ?_
      refine lv_goto (tgt := 96) C.1 C.2.1 dX12_readFraction_92 (by decide) ?_
      exact lm_readFraction_96 (N := N) C hr hlk  (lv_sub hl [1, 2, 3, 4, 5, 0] rfl) h hm
set_option maxHeartbeats 4000000 in
set_option maxRecDepth 100000 in
theorem lm_readFraction_70 {r : St} (C : Cx p s m args c cX12_readFraction RX12 (cd :: rW) D (TYs k) 9) (hr : meth.sig.returnType = none) (hlk : meth.locks = false)  {ls : Array Slot} {H : Heap} {locs : List Loc} {σ : St} {x1 : Int} {x2 : Int} {x3 : Int} {x4 : Int} (hl : lv_has ls 9 [(0, .ref (g 0)), (1, .int (Int32.ofInt x1)), (2, .int (Int32.ofInt x2)), (3, .int (Int32.ofInt x3)), (4, .int (Int32.ofInt x4))]) (h : Hp D A s.heap H locs (mW k g σ)) (hm : r_readFraction_70 N  σ x1 x2 x3 x4 = some r) : W p l e { frames := 4, cells := 0, slots := 0, locals := 89 } s m args below meth c H locs 0 0 (MQ below (va_Qv (fun (_ : Unit) => True) (fun _ t => PostW D (TYs k) A (mW k g r) t) A) args s 0 0 A) (F0 m 70 ls []) := by
  rw [r_readFraction_70] at hm
  refine lv_iconst (v := Int32.ofInt 1) C.1 C.2.1 dX12_readFraction_70 (by decide) ?_
  refine lv_goto (tgt := 75) C.1 C.2.1 dX12_readFraction_71 (by decide) ?_
  exact lm_readFraction_75 (N := N) C hr hlk  (lv_sub hl [0, 1, 2, 3, 4] rfl) h hm
set_option maxHeartbeats 4000000 in
set_option maxRecDepth 100000 in
theorem lm_readFraction_47 {r : St} (C : Cx p s m args c cX12_readFraction RX12 (cd :: rW) D (TYs k) 9) (hr : meth.sig.returnType = none) (hlk : meth.locks = false)  {ls : Array Slot} {H : Heap} {locs : List Loc} {σ : St} {x1 : Int} {x2 : Int} {s0 : Int} (hl : lv_has ls 9 [(0, .ref (g 0)), (1, .int (Int32.ofInt x1)), (2, .int (Int32.ofInt x2))]) (h : Hp D A s.heap H locs (mW k g σ)) (hm : r_readFraction_47 N  σ x1 x2 s0 = some r) : W p l e { frames := 4, cells := 0, slots := 0, locals := 89 } s m args below meth c H locs 0 0 (MQ below (va_Qv (fun (_ : Unit) => True) (fun _ t => PostW D (TYs k) A (mW k g r) t) A) args s 0 0 A) (F0 m 47 ls [.int (Int32.ofInt s0)]) := by
  rw [r_readFraction_47] at hm
  refine lv_istore_n (lv' := [(3, .int (Int32.ofInt s0)), (0, .ref (g 0)), (1, .int (Int32.ofInt x1)), (2, .int (Int32.ofInt x2))]) C.1 C.2.1 dX12_readFraction_47 rfl hl (by decide) rfl (fun ls hl => ?_)
  refine lv_aload_n C.1 C.2.1 dX12_readFraction_48 rfl (lv_at hl 1 rfl) ?_
  refine fg_19 C h dX12_readFraction_49 ?_
  refine lv_iload_n C.1 C.2.1 dX12_readFraction_52 rfl (lv_at hl 2 rfl) ?_
  obtain ⟨g8, hm⟩ := grd_s hm
  refine al_92 C h dX12_readFraction_53 g8 ?_
  obtain ⟨v9, e10, hm⟩ := bnd_s hm
  rw [e10]
  refine lv_istore (lv' := [(4, .int (Int32.ofInt v9)), (3, .int (Int32.ofInt s0)), (0, .ref (g 0)), (1, .int (Int32.ofInt x1)), (2, .int (Int32.ofInt x2))]) C.1 C.2.1 dX12_readFraction_54 hl (by decide) rfl (fun ls hl => ?_)
  refine lv_iload C.1 C.2.1 dX12_readFraction_56 (lv_at hl 0 rfl) ?_
  refine lv_bipush (v := Int32.ofInt 19) C.1 C.2.1 dX12_readFraction_58 (by decide) ?_
  obtain ⟨g11, hm⟩ := grd_s hm
  refine z_icmp_eq (tgt := 70) C dX12_readFraction_60 (by decide) g11 (by decide) (fun c12 => ?_) (fun c12 => ?_)
  · have hm := ite_t c12 hm
    exact lm_readFraction_70 (N := N) C hr hlk  (lv_sub hl [2, 3, 4, 1, 0] rfl) h hm
  · have hm := ite_f c12 hm
    refine lv_iload C.1 C.2.1 dX12_readFraction_63 (lv_at hl 0 rfl) ?_
    refine lv_bipush (v := Int32.ofInt 20) C.1 C.2.1 dX12_readFraction_65 (by decide) ?_
    refine z_icmp_ne (tgt := 74) C dX12_readFraction_67 (by decide) g11 (by decide) (fun c13 => ?_) (fun c13 => ?_)
    · have hm := ite_f c13 hm
      refine lv_iconst (v := Int32.ofInt 0) C.1 C.2.1 dX12_readFraction_74 (by decide) ?_
      exact lm_readFraction_75 (N := N) C hr hlk  (lv_sub hl [2, 3, 4, 1, 0] rfl) h hm
    · have hm := ite_t c13 hm
      exact lm_readFraction_70 (N := N) C hr hlk  (lv_sub hl [2, 3, 4, 1, 0] rfl) h hm
set_option maxHeartbeats 4000000 in
set_option maxRecDepth 100000 in
theorem lm_readFraction_26 {r : St} (C : Cx p s m args c cX12_readFraction RX12 (cd :: rW) D (TYs k) 9) (hr : meth.sig.returnType = none) (hlk : meth.locks = false)  {ls : Array Slot} {H : Heap} {locs : List Loc} {σ : St} {x1 : Int} (hl : lv_has ls 9 [(0, .ref (g 0)), (1, .int (Int32.ofInt x1))]) (h : Hp D A s.heap H locs (mW k g σ)) (hm : r_readFraction_26 N  σ x1 = some r) : W p l e { frames := 4, cells := 0, slots := 0, locals := 89 } s m args below meth c H locs 0 0 (MQ below (va_Qv (fun (_ : Unit) => True) (fun _ t => PostW D (TYs k) A (mW k g r) t) A) args s 0 0 A) (F0 m 26 ls []) := by
  rw [r_readFraction_26] at hm
  refine lv_aload_n C.1 C.2.1 dX12_readFraction_26 rfl (lv_at hl 0 rfl) ?_
  refine fg_9 C h dX12_readFraction_27 ?_
  refine lv_istore_n (lv' := [(2, .int (Int32.ofInt (fl σ 9 0))), (0, .ref (g 0)), (1, .int (Int32.ofInt x1))]) C.1 C.2.1 dX12_readFraction_30 rfl hl (by decide) rfl (fun ls hl => ?_)
  refine lv_aload_n C.1 C.2.1 dX12_readFraction_31 rfl (lv_at hl 1 rfl) ?_
  refine fg_3 C h dX12_readFraction_32 ?_
  refine lv_iconst (v := Int32.ofInt 3) C.1 C.2.1 dX12_readFraction_35 (by decide) ?_
  obtain ⟨g6, hm⟩ := grd_s hm
  refine z_icmp_ne (tgt := 43) C dX12_readFraction_36 (by decide) g6 (by decide) (fun c7 => ?_) (fun c7 => ?_)
  · have hm := ite_f c7 hm
    refine lv_aload_n C.1 C.2.1 dX12_readFraction_43 rfl (lv_at hl 1 rfl) ?_
    refine fg_10 C h dX12_readFraction_44 ?_
    exact lm_readFraction_47 (N := N) C hr hlk  (lv_sub hl [1, 2, 0] rfl) h hm
  · have hm := ite_t c7 hm
    refine lv_iconst (v := Int32.ofInt 1) C.1 C.2.1 dX12_readFraction_39 (by decide) ?_
    refine lv_goto (tgt := 47) C.1 C.2.1 dX12_readFraction_40 (by decide) ?_
    exact lm_readFraction_47 (N := N) C hr hlk  (lv_sub hl [1, 2, 0] rfl) h hm
set_option maxHeartbeats 4000000 in
set_option maxRecDepth 100000 in
theorem rc_readFraction (l : Launch) (D : va_G) (k : Nat → ClassId) (g : Nat → Nat) (N : Nat) (σ : St) (x1 : Int) (r : St) (hm : r_readFraction N σ x1 = some r) : Mv l yX12_readFraction (.code yX12_readFraction cX12_readFraction 9 none :: rW) { frames := 4, cells := 0, slots := 0, locals := 89 } [.ref (g 0), .int (Int32.ofInt x1)] D (TYs k) (mW k g σ) (fun _ => True) Unit (fun _ => True) (fun _ => mW k g r) 0 0 := by
  intro sz
  refine x_met (cc := cX12_readFraction) (maxL := 9) (ret := none) (by decide) rfl (Nat.le_of_ble_eq_true rfl) ?_
  intro p e s m below meth c ls C hX hsz hr hlk hmn hl h
  have hl : lv_has ls 9 [(0, .ref (g 0)), (1, .int (Int32.ofInt x1))] := hl
  rw [r_readFraction] at hm
  refine lv_aload_n C.1 C.2.1 dX12_readFraction_0 rfl (lv_at hl 0 rfl) ?_
  refine fg_3 C h dX12_readFraction_1 ?_
  refine lv_iconst (v := Int32.ofInt 3) C.1 C.2.1 dX12_readFraction_4 (by decide) ?_
  obtain ⟨g1, hm⟩ := grd_s hm
  refine z_icmp_eq (tgt := 26) C dX12_readFraction_5 (by decide) g1 (by decide) (fun c2 => ?_) (fun c2 => ?_)
  · have hm := ite_t c2 hm
    exact lm_readFraction_26 (N := N) C hr hlk  (lv_sub hl [0, 1] rfl) h hm
  · have hm := ite_f c2 hm
    refine lv_aload_n C.1 C.2.1 dX12_readFraction_8 rfl (lv_at hl 0 rfl) ?_
    refine fg_3 C h dX12_readFraction_9 ?_
    refine lv_iconst (v := Int32.ofInt 4) C.1 C.2.1 dX12_readFraction_12 (by decide) ?_
    refine z_icmp_eq (tgt := 26) C dX12_readFraction_13 (by decide) g1 (by decide) (fun c3 => ?_) (fun c3 => ?_)
    · have hm := ite_t c3 hm
      exact lm_readFraction_26 (N := N) C hr hlk  (lv_sub hl [0, 1] rfl) h hm
    · have hm := ite_f c3 hm
      refine lv_aload_n C.1 C.2.1 dX12_readFraction_16 rfl (lv_at hl 0 rfl) ?_
      refine lv_iconst (v := Int32.ofInt 1) C.1 C.2.1 dX12_readFraction_17 (by decide) ?_
      refine lv_aload_n C.1 C.2.1 dX12_readFraction_18 rfl (lv_at hl 0 rfl) ?_
      refine fg_4 C h dX12_readFraction_19 ?_
      obtain ⟨r4, e5, hm⟩ := obd_s hm
      refine q_callVv C h (rc_fail l D k g N σ 1 (fl σ 4 0) r4 e5) (cwV 2 C.2.2.1 (gR_fail _) rfl rfl rfl hd_fail ⟨Nat.le_of_ble_eq_true rfl, Nat.le_of_ble_eq_true rfl⟩) rfl hl.1 rfl (Nat.le_of_ble_eq_true rfl) dX12_readFraction_22 ⟨Nat.le_of_ble_eq_true rfl, Nat.le_of_ble_eq_true rfl⟩ (fun H locs h => ?_)
      cases hm
      exact q_vret C h hr hlk dX12_readFraction_25
end L_readFraction
section L_readWants
variable {p : Program} {l : Launch} {e : Env} {s : State} {m : MethodId} {args : Array Value} {below : List Frame} {meth : Method} {c : Code} {D : va_G} {A : Nat → Prop} {k : Nat → ClassId} {g : Nat → Nat} {N : Nat} {cd : Cond}
set_option maxHeartbeats 4000000 in
set_option maxRecDepth 100000 in
theorem lm_readWants_152 {r : St} (C : Cx p s m args c cX12_readWants RX12 (cd :: rW) D (TYs k) 6) (hr : meth.sig.returnType = none) (hlk : meth.locks = false)  {ls : Array Slot} {H : Heap} {locs : List Loc} {σ : St} {s0 : Int} (hl : lv_has ls 6 []) (h : Hp D A s.heap H locs (mW k g σ)) (hm : r_readWants_152 N  σ s0 = some r) : W p l e { frames := 5, cells := 0, slots := 0, locals := 117 } s m args below meth c H locs 0 0 (MQ below (va_Qv (fun (_ : Unit) => True) (fun _ t => PostW D (TYs k) A (mW k g r) t) A) args s 0 0 A) (F0 m 152 ls [.int (Int32.ofInt s0), .ref (g 0)]) := by
  rw [r_readWants_152] at hm
  refine lv_iconst (v := Int32.ofInt (-1)) C.1 C.2.1 dX12_readWants_152 (by decide) ?_
  refine lv_iconst (v := Int32.ofInt 0) C.1 C.2.1 dX12_readWants_153 (by decide) ?_
  obtain ⟨r36, e37, hm⟩ := obd_s hm
  refine q_callVv C h (rc_begin l D k g N σ s0 (-1) 0 r36 e37) (cwV 3 C.2.2.1 (gR_begin _) rfl rfl rfl hd_begin ⟨Nat.le_of_ble_eq_true rfl, Nat.le_of_ble_eq_true rfl⟩) rfl hl.1 rfl (Nat.le_of_ble_eq_true rfl) dX12_readWants_154 ⟨Nat.le_of_ble_eq_true rfl, Nat.le_of_ble_eq_true rfl⟩ (fun H locs h => ?_)
  cases hm
  exact q_vret C h hr hlk dX12_readWants_157
set_option maxHeartbeats 4000000 in
set_option maxRecDepth 100000 in
theorem lm_readWants_86 {r : St} (C : Cx p s m args c cX12_readWants RX12 (cd :: rW) D (TYs k) 6) (hr : meth.sig.returnType = none) (hlk : meth.locks = false)  {ls : Array Slot} {H : Heap} {locs : List Loc} {σ : St} {x1 : Int} {x2 : Int} {x3 : Int} {s0 : Int} (hl : lv_has ls 6 [(0, .ref (g 0)), (1, .int (Int32.ofInt x1)), (2, .int (Int32.ofInt x2)), (3, .int (Int32.ofInt x3))]) (h : Hp D A s.heap H locs (mW k g σ)) (hm : r_readWants_86 N  σ x1 x2 x3 s0 = some r) : W p l e { frames := 5, cells := 0, slots := 0, locals := 117 } s m args below meth c H locs 0 0 (MQ below (va_Qv (fun (_ : Unit) => True) (fun _ t => PostW D (TYs k) A (mW k g r) t) A) args s 0 0 A) (F0 m 86 ls [.int (Int32.ofInt s0)]) := by
  rw [r_readWants_86] at hm
  refine lv_istore (lv' := [(4, .int (Int32.ofInt s0)), (0, .ref (g 0)), (1, .int (Int32.ofInt x1)), (2, .int (Int32.ofInt x2)), (3, .int (Int32.ofInt x3))]) C.1 C.2.1 dX12_readWants_86 hl (by decide) rfl (fun ls hl => ?_)
  refine lv_iload_n C.1 C.2.1 dX12_readWants_88 rfl (lv_at hl 4 rfl) ?_
  refine lv_iload C.1 C.2.1 dX12_readWants_89 (lv_at hl 0 rfl) ?_
  obtain ⟨g18, hm⟩ := grd_s hm
  obtain ⟨g19, hm⟩ := grd_s hm
  obtain ⟨g20, hm⟩ := grd_s hm
  refine z_idiv C dX12_readWants_91 g18 g19 g20 ?_
  obtain ⟨v21, e22, hm⟩ := bnd_s hm
  rw [e22]
  refine lv_istore (lv' := [(5, .int (Int32.ofInt v21)), (4, .int (Int32.ofInt s0)), (0, .ref (g 0)), (1, .int (Int32.ofInt x1)), (2, .int (Int32.ofInt x2)), (3, .int (Int32.ofInt x3))]) C.1 C.2.1 dX12_readWants_92 hl (by decide) rfl (fun ls hl => ?_)
  refine lv_aload_n C.1 C.2.1 dX12_readWants_94 rfl (lv_at hl 2 rfl) ?_
  refine fg_45 C h dX12_readWants_95 ?_
  refine lv_iload_n C.1 C.2.1 dX12_readWants_98 rfl (lv_at hl 3 rfl) ?_
  refine lv_iload_n C.1 C.2.1 dX12_readWants_99 rfl (lv_at hl 5 rfl) ?_
  refine lv_iload C.1 C.2.1 dX12_readWants_100 (lv_at hl 1 rfl) ?_
  refine z_irem C dX12_readWants_102 g18 g19 g20 ?_
  obtain ⟨g23, hm⟩ := grd_s hm
  refine as_71 C h dX12_readWants_103 g23 (fun H locs h => ?_)
  refine lv_iload C.1 C.2.1 dX12_readWants_104 (lv_at hl 0 rfl) ?_
  refine lv_iconst (v := Int32.ofInt 1) C.1 C.2.1 dX12_readWants_106 (by decide) ?_
  obtain ⟨g24, hm⟩ := grd_s hm
  refine z_icmp_ne (tgt := 118) C dX12_readWants_107 (by decide) g24 (by decide) (fun c25 => ?_) (fun c25 => ?_)
  · have hm := ite_f c25 hm
    refine lv_iload C.1 C.2.1 dX12_readWants_118 (lv_at hl 0 rfl) ?_
    refine lv_iconst (v := Int32.ofInt 2) C.1 C.2.1 dX12_readWants_120 (by decide) ?_
    refine z_icmp_ne (tgt := 132) C dX12_readWants_121 (by decide) g24 (by decide) (fun c26 => ?_) (fun c26 => ?_)
    · have hm := ite_f c26 hm
      refine lv_aload_n C.1 C.2.1 dX12_readWants_132 rfl (lv_at hl 2 rfl) ?_
      refine fg_44 C h dX12_readWants_133 ?_
      refine lv_iload_n C.1 C.2.1 dX12_readWants_136 rfl (lv_at hl 3 rfl) ?_
      refine lv_iconst (v := Int32.ofInt 1) C.1 C.2.1 dX12_readWants_137 (by decide) ?_
      refine as_72 C h dX12_readWants_138 g23 (fun H locs h => ?_)
      refine lv_aload_n C.1 C.2.1 dX12_readWants_139 rfl (lv_at hl 2 rfl) ?_
      refine lv_iload C.1 C.2.1 dX12_readWants_140 (lv_at hl 0 rfl) ?_
      refine lv_iconst (v := Int32.ofInt 3) C.1 C.2.1 dX12_readWants_142 (by decide) ?_
      refine z_icmp_ne (tgt := 151) C dX12_readWants_143 (by decide) g24 (by decide) (fun c27 => ?_) (fun c27 => ?_)
      · have hm := ite_f c27 hm
        refine lv_iconst (v := Int32.ofInt 5) C.1 C.2.1 dX12_readWants_151 (by decide) ?_
        exact lm_readWants_152 (N := N) C hr hlk  (lv_sub hl [] rfl) h hm
      · have hm := ite_t c27 hm
        refine lv_bipush (v := Int32.ofInt 7) C.1 C.2.1 dX12_readWants_146 (by decide) ?_
        refine lv_goto (tgt := 152) C.1 C.2.1 dX12_readWants_148 (by decide) ?_
        exact lm_readWants_152 (N := N) C hr hlk  (lv_sub hl [] rfl) h hm
    · have hm := ite_t c26 hm
      refine lv_aload_n C.1 C.2.1 dX12_readWants_124 rfl (lv_at hl 2 rfl) ?_
      refine lv_iload_n C.1 C.2.1 dX12_readWants_125 rfl (lv_at hl 4 rfl) ?_
      obtain ⟨σ28, e29, hm⟩ := bnd_s hm
      rw [e29] at h
      obtain ⟨r30, e31, hm⟩ := obd_s hm
      refine q_callVv C h (rc_readCount l D k g N σ28 x2 r30 e31) (cwV 1 C.2.2.1 (gR_readCount _) rfl rfl rfl hd_readCount ⟨Nat.le_of_ble_eq_true rfl, Nat.le_of_ble_eq_true rfl⟩) rfl hl.1 rfl (Nat.le_of_ble_eq_true rfl) dX12_readWants_126 ⟨Nat.le_of_ble_eq_true rfl, Nat.le_of_ble_eq_true rfl⟩ (fun H locs h => ?_)
      refine lv_goto (tgt := 157) C.1 C.2.1 dX12_readWants_129 (by decide) ?_
      cases hm
      exact q_vret C h hr hlk dX12_readWants_157
  · have hm := ite_t c25 hm
    refine lv_aload_n C.1 C.2.1 dX12_readWants_110 rfl (lv_at hl 2 rfl) ?_
    refine lv_iload_n C.1 C.2.1 dX12_readWants_111 rfl (lv_at hl 4 rfl) ?_
    obtain ⟨σ32, e33, hm⟩ := bnd_s hm
    rw [e33] at h
    obtain ⟨r34, e35, hm⟩ := obd_s hm
    refine q_callVv C h (rc_readFraction l D k g N σ32 x2 r34 e35) (cwV 1 C.2.2.1 (gR_readFraction _) rfl rfl rfl hd_readFraction ⟨Nat.le_of_ble_eq_true rfl, Nat.le_of_ble_eq_true rfl⟩) rfl hl.1 rfl (Nat.le_of_ble_eq_true rfl) dX12_readWants_112 ⟨Nat.le_of_ble_eq_true rfl, Nat.le_of_ble_eq_true rfl⟩ (fun H locs h => ?_)
    refine lv_goto (tgt := 157) C.1 C.2.1 dX12_readWants_115 (by decide) ?_
    cases hm
    exact q_vret C h hr hlk dX12_readWants_157
set_option maxHeartbeats 4000000 in
set_option maxRecDepth 100000 in
theorem lm_readWants_33 {r : St} (C : Cx p s m args c cX12_readWants RX12 (cd :: rW) D (TYs k) 6) (hr : meth.sig.returnType = none) (hlk : meth.locks = false)  {ls : Array Slot} {H : Heap} {locs : List Loc} {σ : St} {x1 : Int} {x2 : Int} (hl : lv_has ls 6 [(0, .ref (g 0)), (1, .int (Int32.ofInt x1)), (2, .int (Int32.ofInt x2))]) (h : Hp D A s.heap H locs (mW k g σ)) (hm : r_readWants_33 N  σ x1 x2 = some r) : W p l e { frames := 5, cells := 0, slots := 0, locals := 117 } s m args below meth c H locs 0 0 (MQ below (va_Qv (fun (_ : Unit) => True) (fun _ t => PostW D (TYs k) A (mW k g r) t) A) args s 0 0 A) (F0 m 33 ls []) := by
  rw [r_readWants_33] at hm
  refine lv_aload_n C.1 C.2.1 dX12_readWants_33 rfl (lv_at hl 0 rfl) ?_
  refine fg_45 C h dX12_readWants_34 ?_
  refine lv_iload_n C.1 C.2.1 dX12_readWants_37 rfl (lv_at hl 1 rfl) ?_
  obtain ⟨g8, hm⟩ := grd_s hm
  refine al_71 C h dX12_readWants_38 g8 ?_
  obtain ⟨v9, e10, hm⟩ := bnd_s hm
  rw [e10]
  refine lv_istore_n (lv' := [(3, .int (Int32.ofInt v9)), (0, .ref (g 0)), (1, .int (Int32.ofInt x1)), (2, .int (Int32.ofInt x2))]) C.1 C.2.1 dX12_readWants_39 rfl hl (by decide) rfl (fun ls hl => ?_)
  refine lv_iload_n C.1 C.2.1 dX12_readWants_40 rfl (lv_at hl 0 rfl) ?_
  obtain ⟨g11, hm⟩ := grd_s hm
  refine z_if_ne (tgt := 50) C dX12_readWants_41 (by decide) g11 (fun c12 => ?_) (fun c12 => ?_)
  · have hm := ite_f c12 hm
    refine lv_iload_n C.1 C.2.1 dX12_readWants_50 rfl (lv_at hl 0 rfl) ?_
    refine lv_sipush (v := Int32.ofInt 999) C.1 C.2.1 dX12_readWants_51 (by decide) ?_
    refine z_icmp_le (tgt := 63) C dX12_readWants_54 (by decide) g11 (by decide) (fun c13 => ?_) (fun c13 => ?_)
    · have hm := ite_f c13 hm
      refine lv_iload_n C.1 C.2.1 dX12_readWants_63 rfl (lv_at hl 0 rfl) ?_
      refine lv_bipush (v := Int32.ofInt 99) C.1 C.2.1 dX12_readWants_64 (by decide) ?_
      refine z_icmp_le (tgt := 74) C dX12_readWants_66 (by decide) g11 (by decide) (fun c14 => ?_) (fun c14 => ?_)
      · have hm := ite_f c14 hm
        refine lv_iload_n C.1 C.2.1 dX12_readWants_74 rfl (lv_at hl 0 rfl) ?_
        refine lv_bipush (v := Int32.ofInt 9) C.1 C.2.1 dX12_readWants_75 (by decide) ?_
        refine z_icmp_le (tgt := 85) C dX12_readWants_77 (by decide) g11 (by decide) (fun c15 => ?_) (fun c15 => ?_)
        · have hm := ite_f c15 hm
          refine lv_iconst (v := Int32.ofInt 1) C.1 C.2.1 dX12_readWants_85 (by decide) ?_
          exact lm_readWants_86 (N := N) C hr hlk  (lv_sub hl [1, 2, 3, 0] rfl) h hm
        · have hm := ite_t c15 hm
          refine lv_bipush (v := Int32.ofInt 10) C.1 C.2.1 dX12_readWants_80 (by decide) ?_
          refine lv_goto (tgt := 86) C.1 C.2.1 dX12_readWants_82 (by decide) ?_
          exact lm_readWants_86 (N := N) C hr hlk  (lv_sub hl [1, 2, 3, 0] rfl) h hm
      · have hm := ite_t c14 hm
        refine lv_bipush (v := Int32.ofInt 100) C.1 C.2.1 dX12_readWants_69 (by decide) ?_
        refine lv_goto (tgt := 86) C.1 C.2.1 dX12_readWants_71 (by decide) ?_
        exact lm_readWants_86 (N := N) C hr hlk  (lv_sub hl [1, 2, 3, 0] rfl) h hm
    · have hm := ite_t c13 hm
      refine lv_sipush (v := Int32.ofInt 1000) C.1 C.2.1 dX12_readWants_57 (by decide) ?_
      refine lv_goto (tgt := 86) C.1 C.2.1 dX12_readWants_60 (by decide) ?_
      exact lm_readWants_86 (N := N) C hr hlk  (lv_sub hl [1, 2, 3, 0] rfl) h hm
  · have hm := ite_t c12 hm
    refine lv_aload_n C.1 C.2.1 dX12_readWants_44 rfl (lv_at hl 1 rfl) ?_
    refine lv_iload_n C.1 C.2.1 dX12_readWants_45 rfl (lv_at hl 3 rfl) ?_
    obtain ⟨r16, e17, hm⟩ := obd_s hm
    refine q_callVv C h (rc_finish l D k g N σ x2 r16 e17) (cwV 1 C.2.2.1 (gR_finish _) rfl rfl rfl hd_finish ⟨Nat.le_of_ble_eq_true rfl, Nat.le_of_ble_eq_true rfl⟩) rfl hl.1 rfl (Nat.le_of_ble_eq_true rfl) dX12_readWants_46 ⟨Nat.le_of_ble_eq_true rfl, Nat.le_of_ble_eq_true rfl⟩ (fun H locs h => ?_)
    cases hm
    exact q_vret C h hr hlk dX12_readWants_49
set_option maxHeartbeats 4000000 in
set_option maxRecDepth 100000 in
theorem rc_readWants (l : Launch) (D : va_G) (k : Nat → ClassId) (g : Nat → Nat) (N : Nat) (σ : St) (x1 : Int) (r : St) (hm : r_readWants N σ x1 = some r) : Mv l yX12_readWants (.code yX12_readWants cX12_readWants 6 none :: rW) { frames := 5, cells := 0, slots := 0, locals := 117 } [.ref (g 0), .int (Int32.ofInt x1)] D (TYs k) (mW k g σ) (fun _ => True) Unit (fun _ => True) (fun _ => mW k g r) 0 0 := by
  intro sz
  refine x_met (cc := cX12_readWants) (maxL := 6) (ret := none) (by decide) rfl (Nat.le_of_ble_eq_true rfl) ?_
  intro p e s m below meth c ls C hX hsz hr hlk hmn hl h
  have hl : lv_has ls 6 [(0, .ref (g 0)), (1, .int (Int32.ofInt x1))] := hl
  rw [r_readWants] at hm
  refine lv_aload_n C.1 C.2.1 dX12_readWants_0 rfl (lv_at hl 0 rfl) ?_
  refine fg_43 C h dX12_readWants_1 ?_
  refine lv_iload_n C.1 C.2.1 dX12_readWants_4 rfl (lv_at hl 1 rfl) ?_
  obtain ⟨g1, hm⟩ := grd_s hm
  refine al_73 C h dX12_readWants_5 g1 ?_
  obtain ⟨v2, e3, hm⟩ := bnd_s hm
  rw [e3]
  refine lv_istore_n (lv' := [(2, .int (Int32.ofInt v2)), (0, .ref (g 0)), (1, .int (Int32.ofInt x1))]) C.1 C.2.1 dX12_readWants_6 rfl hl (by decide) rfl (fun ls hl => ?_)
  refine lv_aload_n C.1 C.2.1 dX12_readWants_7 rfl (lv_at hl 1 rfl) ?_
  refine fg_44 C h dX12_readWants_8 ?_
  refine lv_iload_n C.1 C.2.1 dX12_readWants_11 rfl (lv_at hl 2 rfl) ?_
  refine al_72 C h dX12_readWants_12 g1 ?_
  refine lv_iconst (v := Int32.ofInt 1) C.1 C.2.1 dX12_readWants_13 (by decide) ?_
  obtain ⟨g4, hm⟩ := grd_s hm
  refine z_icmp_ne (tgt := 33) C dX12_readWants_14 (by decide) g4 (by decide) (fun c5 => ?_) (fun c5 => ?_)
  · have hm := ite_f c5 hm
    exact lm_readWants_33 (N := N) C hr hlk  (lv_sub hl [1, 2, 0] rfl) h hm
  · have hm := ite_t c5 hm
    refine lv_aload_n C.1 C.2.1 dX12_readWants_17 rfl (lv_at hl 1 rfl) ?_
    refine lv_iload_n C.1 C.2.1 dX12_readWants_18 rfl (lv_at hl 0 rfl) ?_
    refine lv_aload_n C.1 C.2.1 dX12_readWants_19 rfl (lv_at hl 1 rfl) ?_
    refine fg_46 C h dX12_readWants_20 ?_
    obtain ⟨r6, e7, hm⟩ := obd_s hm
    refine q_callVv C h (rc_append l D k g N σ v2 (fl σ 46 0) r6 e7) (cwV 2 C.2.2.1 (gR_append _) rfl rfl rfl hd_append ⟨Nat.le_of_ble_eq_true rfl, Nat.le_of_ble_eq_true rfl⟩) rfl hl.1 rfl (Nat.le_of_ble_eq_true rfl) dX12_readWants_23 ⟨Nat.le_of_ble_eq_true rfl, Nat.le_of_ble_eq_true rfl⟩ (fun H locs h => ?_)
    refine lv_aload_n C.1 C.2.1 dX12_readWants_26 rfl (lv_at hl 1 rfl) ?_
    refine fg_44 C h dX12_readWants_27 ?_
    refine lv_iload_n C.1 C.2.1 dX12_readWants_30 rfl (lv_at hl 2 rfl) ?_
    refine lv_iconst (v := Int32.ofInt 0) C.1 C.2.1 dX12_readWants_31 (by decide) ?_
    refine as_72 C h dX12_readWants_32 g1 (fun H locs h => ?_)
    exact lm_readWants_33 (N := N) C hr hlk  (lv_sub hl [1, 2, 0] rfl) h hm
end L_readWants
section L_readExp
variable {p : Program} {l : Launch} {e : Env} {s : State} {m : MethodId} {args : Array Value} {below : List Frame} {meth : Method} {c : Code} {D : va_G} {A : Nat → Prop} {k : Nat → ClassId} {g : Nat → Nat} {N : Nat} {cd : Cond}
set_option maxHeartbeats 4000000 in
set_option maxRecDepth 100000 in
theorem lm_readExp_205 {r : St} (C : Cx p s m args c cX12_readExp RX12 (cd :: rW) D (TYs k) 2) (hr : meth.sig.returnType = none) (hlk : meth.locks = false) {rec17 : St → Option St} (hrec17 : ∀ {ls : Array Slot} {H : Heap} {locs : List Loc} {σ : St} , lv_has ls 2 [(0, .ref (g 0))] → Hp D A s.heap H locs (mW k g σ) → rec17 σ  = some r → W p l e { frames := 7, cells := 0, slots := 0, locals := 160 } s m args below meth c H locs 0 0 (MQ below (va_Qv (fun (_ : Unit) => True) (fun _ t => PostW D (TYs k) A (mW k g r) t) A) args s 0 0 A) (F0 m 17 ls [])) {ls : Array Slot} {H : Heap} {locs : List Loc} {σ : St}  (hl : lv_has ls 2 [(0, .ref (g 0))]) (h : Hp D A s.heap H locs (mW k g σ)) (hm : r_readExp_205 N rec17 σ  = some r) : W p l e { frames := 7, cells := 0, slots := 0, locals := 160 } s m args below meth c H locs 0 0 (MQ below (va_Qv (fun (_ : Unit) => True) (fun _ t => PostW D (TYs k) A (mW k g r) t) A) args s 0 0 A) (F0 m 205 ls []) := by
  rw [r_readExp_205] at hm
  refine lv_goto (tgt := 17) C.1 C.2.1 dX12_readExp_205 (by decide) ?_
  exact hrec17 (lv_sub hl [0] rfl) h hm
set_option maxHeartbeats 4000000 in
set_option maxRecDepth 100000 in
theorem lm_readExp_17 {r : St} (C : Cx p s m args c cX12_readExp RX12 (cd :: rW) D (TYs k) 2) (hr : meth.sig.returnType = none) (hlk : meth.locks = false)  (n : Nat) : ∀ {ls : Array Slot} {H : Heap} {locs : List Loc} {σ : St} , lv_has ls 2 [(0, .ref (g 0))] → Hp D A s.heap H locs (mW k g σ) → r_readExp_17 N  n σ  = some r → W p l e { frames := 7, cells := 0, slots := 0, locals := 160 } s m args below meth c H locs 0 0 (MQ below (va_Qv (fun (_ : Unit) => True) (fun _ t => PostW D (TYs k) A (mW k g r) t) A) args s 0 0 A) (F0 m 17 ls []) := by
  induction n with
  | zero => intro ls H locs σ hl h hm; cases (show none = some r from hm)
  | succ n hrec17 =>
    intro ls H locs σ hl h hm
    rw [r_readExp_17] at hm
    refine lv_aload_n C.1 C.2.1 dX12_readExp_17 rfl (lv_at hl 0 rfl) ?_
    refine fg_41 C h dX12_readExp_18 ?_
    obtain ⟨g5, hm⟩ := grd_s hm
    refine z_if_le (tgt := 208) C dX12_readExp_21 (by decide) g5 (fun c6 => ?_) (fun c6 => ?_)
    · have hm := ite_f c6 hm
      cases hm
      exact q_vret C h hr hlk dX12_readExp_208
    · have hm := ite_t c6 hm
      refine lv_aload_n C.1 C.2.1 dX12_readExp_24 rfl (lv_at hl 0 rfl) ?_
      refine fg_11 C h dX12_readExp_25 ?_
      obtain ⟨g7, hm⟩ := grd_s hm
      refine z_if_ne (tgt := 208) C dX12_readExp_28 (by decide) g7 (fun c8 => ?_) (fun c8 => ?_)
      · have hm := ite_f c8 hm
        cases hm
        exact q_vret C h hr hlk dX12_readExp_208
      · have hm := ite_t c8 hm
        refine lv_aload_n C.1 C.2.1 dX12_readExp_31 rfl (lv_at hl 0 rfl) ?_
        refine fg_41 C h dX12_readExp_32 ?_
        refine lv_iconst (v := Int32.ofInt 1) C.1 C.2.1 dX12_readExp_35 (by decide) ?_
        refine z_isub C dX12_readExp_36 ?_
        obtain ⟨v9, e10, hm⟩ := bnd_s hm
        rw [e10]
        refine lv_istore_n (lv' := [(1, .int (Int32.ofInt v9)), (0, .ref (g 0))]) C.1 C.2.1 dX12_readExp_37 rfl hl (by decide) rfl (fun ls hl => ?_)
        refine lv_aload_n C.1 C.2.1 dX12_readExp_38 rfl (lv_at hl 1 rfl) ?_
        refine fg_42 C h dX12_readExp_39 ?_
        refine lv_iload_n C.1 C.2.1 dX12_readExp_42 rfl (lv_at hl 0 rfl) ?_
        obtain ⟨g11, hm⟩ := grd_s hm
        refine al_74 C h dX12_readExp_43 g11 ?_
        obtain ⟨g12, hm⟩ := grd_s hm
        by_cases c13 : (el σ 74 v9) = 1
        · refine x_topi (congrArg Int32.ofInt c13) ?_
          have hm := ite_t c13 hm
          refine lv_tableIn (tgt := 104) C.1 C.2.1 dX12_readExp_44 (by decide) (by decide) rfl (by decide) ?_
          refine lv_aload_n C.1 C.2.1 dX12_readExp_104 rfl (lv_at hl 1 rfl) ?_
          refine lv_iload_n C.1 C.2.1 dX12_readExp_105 rfl (lv_at hl 0 rfl) ?_
          refine lv_bipush (v := Int32.ofInt 38) C.1 C.2.1 dX12_readExp_106 (by decide) ?_
          refine lv_iconst (v := Int32.ofInt 1) C.1 C.2.1 dX12_readExp_108 (by decide) ?_
          refine lv_iconst (v := Int32.ofInt 2) C.1 C.2.1 dX12_readExp_109 (by decide) ?_
          obtain ⟨r14, e15, hm⟩ := obd_s hm
          refine q_callVv C h (rc_readRow l D k g N σ v9 38 1 2 r14 e15) (cwV 4 C.2.2.1 (gR_readRow _) rfl rfl rfl hd_readRow ⟨Nat.le_of_ble_eq_true rfl, Nat.le_of_ble_eq_true rfl⟩) rfl hl.1 rfl (Nat.le_of_ble_eq_true rfl) dX12_readExp_110 ⟨Nat.le_of_ble_eq_true rfl, Nat.le_of_ble_eq_true rfl⟩ (fun H locs h => ?_)
          refine lv_goto (tgt := 205) C.1 C.2.1 dX12_readExp_113 (by decide) ?_
          exact lm_readExp_205 (N := N) C hr hlk hrec17 (lv_sub hl [1] rfl) h hm
        have hm := ite_f c13 hm
        by_cases c16 : (el σ 74 v9) = 2
        · refine x_topi (congrArg Int32.ofInt c16) ?_
          have hm := ite_t c16 hm
          refine lv_tableIn (tgt := 116) C.1 C.2.1 dX12_readExp_44 (by decide) (by decide) rfl (by decide) ?_
          refine lv_aload_n C.1 C.2.1 dX12_readExp_116 rfl (lv_at hl 1 rfl) ?_
          refine lv_iload_n C.1 C.2.1 dX12_readExp_117 rfl (lv_at hl 0 rfl) ?_
          refine lv_bipush (v := Int32.ofInt 59) C.1 C.2.1 dX12_readExp_118 (by decide) ?_
          refine lv_iconst (v := Int32.ofInt 2) C.1 C.2.1 dX12_readExp_120 (by decide) ?_
          refine lv_iconst (v := Int32.ofInt 3) C.1 C.2.1 dX12_readExp_121 (by decide) ?_
          obtain ⟨r17, e18, hm⟩ := obd_s hm
          refine q_callVv C h (rc_readRow l D k g N σ v9 59 2 3 r17 e18) (cwV 4 C.2.2.1 (gR_readRow _) rfl rfl rfl hd_readRow ⟨Nat.le_of_ble_eq_true rfl, Nat.le_of_ble_eq_true rfl⟩) rfl hl.1 rfl (Nat.le_of_ble_eq_true rfl) dX12_readExp_122 ⟨Nat.le_of_ble_eq_true rfl, Nat.le_of_ble_eq_true rfl⟩ (fun H locs h => ?_)
          refine lv_goto (tgt := 205) C.1 C.2.1 dX12_readExp_125 (by decide) ?_
          exact lm_readExp_205 (N := N) C hr hlk hrec17 (lv_sub hl [1] rfl) h hm
        have hm := ite_f c16 hm
        by_cases c19 : (el σ 74 v9) = 3
        · refine x_topi (congrArg Int32.ofInt c19) ?_
          have hm := ite_t c19 hm
          refine lv_tableIn (tgt := 128) C.1 C.2.1 dX12_readExp_44 (by decide) (by decide) rfl (by decide) ?_
          refine lv_aload_n C.1 C.2.1 dX12_readExp_128 rfl (lv_at hl 1 rfl) ?_
          refine lv_iload_n C.1 C.2.1 dX12_readExp_129 rfl (lv_at hl 0 rfl) ?_
          obtain ⟨r20, e21, hm⟩ := obd_s hm
          refine q_callVv C h (rc_readSum l D k g N σ v9 r20 e21) (cwV 1 C.2.2.1 (gR_readSum _) rfl rfl rfl hd_readSum ⟨Nat.le_of_ble_eq_true rfl, Nat.le_of_ble_eq_true rfl⟩) rfl hl.1 rfl (Nat.le_of_ble_eq_true rfl) dX12_readExp_130 ⟨Nat.le_of_ble_eq_true rfl, Nat.le_of_ble_eq_true rfl⟩ (fun H locs h => ?_)
          refine lv_goto (tgt := 205) C.1 C.2.1 dX12_readExp_133 (by decide) ?_
          exact lm_readExp_205 (N := N) C hr hlk hrec17 (lv_sub hl [1] rfl) h hm
        have hm := ite_f c19 hm
        by_cases c22 : (el σ 74 v9) = 4
        · refine x_topi (congrArg Int32.ofInt c22) ?_
          have hm := ite_t c22 hm
          refine lv_tableIn (tgt := 136) C.1 C.2.1 dX12_readExp_44 (by decide) (by decide) rfl (by decide) ?_
          refine lv_aload_n C.1 C.2.1 dX12_readExp_136 rfl (lv_at hl 1 rfl) ?_
          refine lv_iload_n C.1 C.2.1 dX12_readExp_137 rfl (lv_at hl 0 rfl) ?_
          obtain ⟨r23, e24, hm⟩ := obd_s hm
          refine q_callVv C h (rc_readApp l D k g N σ v9 r23 e24) (cwV 1 C.2.2.1 (gR_readApp _) rfl rfl rfl hd_readApp ⟨Nat.le_of_ble_eq_true rfl, Nat.le_of_ble_eq_true rfl⟩) rfl hl.1 rfl (Nat.le_of_ble_eq_true rfl) dX12_readExp_138 ⟨Nat.le_of_ble_eq_true rfl, Nat.le_of_ble_eq_true rfl⟩ (fun H locs h => ?_)
          refine lv_goto (tgt := 205) C.1 C.2.1 dX12_readExp_141 (by decide) ?_
          exact lm_readExp_205 (N := N) C hr hlk hrec17 (lv_sub hl [1] rfl) h hm
        have hm := ite_f c22 hm
        by_cases c25 : (el σ 74 v9) = 5
        · refine x_topi (congrArg Int32.ofInt c25) ?_
          have hm := ite_t c25 hm
          refine lv_tableIn (tgt := 144) C.1 C.2.1 dX12_readExp_44 (by decide) (by decide) rfl (by decide) ?_
          refine lv_aload_n C.1 C.2.1 dX12_readExp_144 rfl (lv_at hl 1 rfl) ?_
          refine lv_iload_n C.1 C.2.1 dX12_readExp_145 rfl (lv_at hl 0 rfl) ?_
          obtain ⟨r26, e27, hm⟩ := obd_s hm
          refine q_callVv C h (rc_readArg l D k g N σ v9 r26 e27) (cwV 1 C.2.2.1 (gR_readArg _) rfl rfl rfl hd_readArg ⟨Nat.le_of_ble_eq_true rfl, Nat.le_of_ble_eq_true rfl⟩) rfl hl.1 rfl (Nat.le_of_ble_eq_true rfl) dX12_readExp_146 ⟨Nat.le_of_ble_eq_true rfl, Nat.le_of_ble_eq_true rfl⟩ (fun H locs h => ?_)
          refine lv_goto (tgt := 205) C.1 C.2.1 dX12_readExp_149 (by decide) ?_
          exact lm_readExp_205 (N := N) C hr hlk hrec17 (lv_sub hl [1] rfl) h hm
        have hm := ite_f c25 hm
        by_cases c28 : (el σ 74 v9) = 6
        · refine x_topi (congrArg Int32.ofInt c28) ?_
          have hm := ite_t c28 hm
          refine lv_tableIn (tgt := 152) C.1 C.2.1 dX12_readExp_44 (by decide) (by decide) rfl (by decide) ?_
          refine lv_aload_n C.1 C.2.1 dX12_readExp_152 rfl (lv_at hl 1 rfl) ?_
          refine lv_iload_n C.1 C.2.1 dX12_readExp_153 rfl (lv_at hl 0 rfl) ?_
          obtain ⟨r29, e30, hm⟩ := obd_s hm
          refine q_callVv C h (rc_readWants l D k g N σ v9 r29 e30) (cwV 1 C.2.2.1 (gR_readWants _) rfl rfl rfl hd_readWants ⟨Nat.le_of_ble_eq_true rfl, Nat.le_of_ble_eq_true rfl⟩) rfl hl.1 rfl (Nat.le_of_ble_eq_true rfl) dX12_readExp_154 ⟨Nat.le_of_ble_eq_true rfl, Nat.le_of_ble_eq_true rfl⟩ (fun H locs h => ?_)
          refine lv_goto (tgt := 205) C.1 C.2.1 dX12_readExp_157 (by decide) ?_
          exact lm_readExp_205 (N := N) C hr hlk hrec17 (lv_sub hl [1] rfl) h hm
        have hm := ite_f c28 hm
        by_cases c31 : (el σ 74 v9) = 7
        · refine x_topi (congrArg Int32.ofInt c31) ?_
          have hm := ite_t c31 hm
          refine lv_tableIn (tgt := 160) C.1 C.2.1 dX12_readExp_44 (by decide) (by decide) rfl (by decide) ?_
          refine lv_aload_n C.1 C.2.1 dX12_readExp_160 rfl (lv_at hl 1 rfl) ?_
          refine lv_iload_n C.1 C.2.1 dX12_readExp_161 rfl (lv_at hl 0 rfl) ?_
          obtain ⟨r32, e33, hm⟩ := obd_s hm
          refine q_callVv C h (rc_readFun l D k g N σ v9 r32 e33) (cwV 1 C.2.2.1 (gR_readFun _) rfl rfl rfl hd_readFun ⟨Nat.le_of_ble_eq_true rfl, Nat.le_of_ble_eq_true rfl⟩) rfl hl.1 rfl (Nat.le_of_ble_eq_true rfl) dX12_readExp_162 ⟨Nat.le_of_ble_eq_true rfl, Nat.le_of_ble_eq_true rfl⟩ (fun H locs h => ?_)
          refine lv_goto (tgt := 205) C.1 C.2.1 dX12_readExp_165 (by decide) ?_
          exact lm_readExp_205 (N := N) C hr hlk hrec17 (lv_sub hl [1] rfl) h hm
        have hm := ite_f c31 hm
        by_cases c34 : (el σ 74 v9) = 8
        · refine x_topi (congrArg Int32.ofInt c34) ?_
          have hm := ite_t c34 hm
          refine lv_tableIn (tgt := 168) C.1 C.2.1 dX12_readExp_44 (by decide) (by decide) rfl (by decide) ?_
          refine lv_aload_n C.1 C.2.1 dX12_readExp_168 rfl (lv_at hl 1 rfl) ?_
          refine lv_iload_n C.1 C.2.1 dX12_readExp_169 rfl (lv_at hl 0 rfl) ?_
          obtain ⟨r35, e36, hm⟩ := obd_s hm
          refine q_callVv C h (rc_readPieces l D k g N σ v9 r35 e36) (cwV 1 C.2.2.1 (gR_readPieces _) rfl rfl rfl hd_readPieces ⟨Nat.le_of_ble_eq_true rfl, Nat.le_of_ble_eq_true rfl⟩) rfl hl.1 rfl (Nat.le_of_ble_eq_true rfl) dX12_readExp_170 ⟨Nat.le_of_ble_eq_true rfl, Nat.le_of_ble_eq_true rfl⟩ (fun H locs h => ?_)
          refine lv_goto (tgt := 205) C.1 C.2.1 dX12_readExp_173 (by decide) ?_
          exact lm_readExp_205 (N := N) C hr hlk hrec17 (lv_sub hl [1] rfl) h hm
        have hm := ite_f c34 hm
        by_cases c37 : (el σ 74 v9) = 9
        · refine x_topi (congrArg Int32.ofInt c37) ?_
          have hm := ite_t c37 hm
          refine lv_tableIn (tgt := 176) C.1 C.2.1 dX12_readExp_44 (by decide) (by decide) rfl (by decide) ?_
          refine lv_aload_n C.1 C.2.1 dX12_readExp_176 rfl (lv_at hl 1 rfl) ?_
          refine lv_iload_n C.1 C.2.1 dX12_readExp_177 rfl (lv_at hl 0 rfl) ?_
          obtain ⟨r38, e39, hm⟩ := obd_s hm
          refine q_callVv C h (rc_readPiece l D k g N σ v9 r38 e39) (cwV 1 C.2.2.1 (gR_readPiece _) rfl rfl rfl hd_readPiece ⟨Nat.le_of_ble_eq_true rfl, Nat.le_of_ble_eq_true rfl⟩) rfl hl.1 rfl (Nat.le_of_ble_eq_true rfl) dX12_readExp_178 ⟨Nat.le_of_ble_eq_true rfl, Nat.le_of_ble_eq_true rfl⟩ (fun H locs h => ?_)
          refine lv_goto (tgt := 205) C.1 C.2.1 dX12_readExp_181 (by decide) ?_
          exact lm_readExp_205 (N := N) C hr hlk hrec17 (lv_sub hl [1] rfl) h hm
        have hm := ite_f c37 hm
        by_cases c40 : (el σ 74 v9) = 10
        · refine x_topi (congrArg Int32.ofInt c40) ?_
          have hm := ite_t c40 hm
          refine lv_tableIn (tgt := 184) C.1 C.2.1 dX12_readExp_44 (by decide) (by decide) rfl (by decide) ?_
          refine lv_aload_n C.1 C.2.1 dX12_readExp_184 rfl (lv_at hl 1 rfl) ?_
          refine lv_iload_n C.1 C.2.1 dX12_readExp_185 rfl (lv_at hl 0 rfl) ?_
          obtain ⟨r41, e42, hm⟩ := obd_s hm
          refine q_callVv C h (rc_readSeq l D k g N σ v9 r41 e42) (cwV 1 C.2.2.1 (gR_readSeq _) rfl rfl rfl hd_readSeq ⟨Nat.le_of_ble_eq_true rfl, Nat.le_of_ble_eq_true rfl⟩) rfl hl.1 rfl (Nat.le_of_ble_eq_true rfl) dX12_readExp_186 ⟨Nat.le_of_ble_eq_true rfl, Nat.le_of_ble_eq_true rfl⟩ (fun H locs h => ?_)
          refine lv_goto (tgt := 205) C.1 C.2.1 dX12_readExp_189 (by decide) ?_
          exact lm_readExp_205 (N := N) C hr hlk hrec17 (lv_sub hl [1] rfl) h hm
        have hm := ite_f c40 hm
        by_cases c43 : (el σ 74 v9) = 11
        · refine x_topi (congrArg Int32.ofInt c43) ?_
          have hm := ite_t c43 hm
          refine lv_tableIn (tgt := 192) C.1 C.2.1 dX12_readExp_44 (by decide) (by decide) rfl (by decide) ?_
          refine lv_aload_n C.1 C.2.1 dX12_readExp_192 rfl (lv_at hl 1 rfl) ?_
          refine lv_iload_n C.1 C.2.1 dX12_readExp_193 rfl (lv_at hl 0 rfl) ?_
          obtain ⟨r44, e45, hm⟩ := obd_s hm
          refine q_callVv C h (rc_readStep l D k g N σ v9 r44 e45) (cwV 1 C.2.2.1 (gR_readStep _) rfl rfl rfl hd_readStep ⟨Nat.le_of_ble_eq_true rfl, Nat.le_of_ble_eq_true rfl⟩) rfl hl.1 rfl (Nat.le_of_ble_eq_true rfl) dX12_readExp_194 ⟨Nat.le_of_ble_eq_true rfl, Nat.le_of_ble_eq_true rfl⟩ (fun H locs h => ?_)
          refine lv_goto (tgt := 205) C.1 C.2.1 dX12_readExp_197 (by decide) ?_
          exact lm_readExp_205 (N := N) C hr hlk hrec17 (lv_sub hl [1] rfl) h hm
        have hm := ite_f c43 hm
        refine lv_tableOut (tgt := 200) C.1 C.2.1 dX12_readExp_44 (by rw [c32_ti g12]; omega) (by decide) ?_
        refine lv_aload_n C.1 C.2.1 dX12_readExp_200 rfl (lv_at hl 1 rfl) ?_
        refine lv_iload_n C.1 C.2.1 dX12_readExp_201 rfl (lv_at hl 0 rfl) ?_
        obtain ⟨r46, e47, hm⟩ := obd_s hm
        refine q_callVv C h (rc_readPart l D k g N σ v9 r46 e47) (cwV 1 C.2.2.1 (gR_readPart _) rfl rfl rfl hd_readPart ⟨Nat.le_of_ble_eq_true rfl, Nat.le_of_ble_eq_true rfl⟩) rfl hl.1 rfl (Nat.le_of_ble_eq_true rfl) dX12_readExp_202 ⟨Nat.le_of_ble_eq_true rfl, Nat.le_of_ble_eq_true rfl⟩ (fun H locs h => ?_)
        exact lm_readExp_205 (N := N) C hr hlk hrec17 (lv_sub hl [1] rfl) h hm
set_option maxHeartbeats 4000000 in
set_option maxRecDepth 100000 in
theorem rc_readExp (l : Launch) (D : va_G) (k : Nat → ClassId) (g : Nat → Nat) (N : Nat) (σ : St)  (r : St) (hm : r_readExp N σ  = some r) : Mv l yX12_readExp (.code yX12_readExp cX12_readExp 2 none :: rW) { frames := 7, cells := 0, slots := 0, locals := 160 } [.ref (g 0)] D (TYs k) (mW k g σ) (fun _ => True) Unit (fun _ => True) (fun _ => mW k g r) 0 0 := by
  intro sz
  refine x_met (cc := cX12_readExp) (maxL := 2) (ret := none) (by decide) rfl (Nat.le_of_ble_eq_true rfl) ?_
  intro p e s m below meth c ls C hX hsz hr hlk hmn hl h
  have hl : lv_has ls 2 [(0, .ref (g 0))] := hl
  rw [r_readExp] at hm
  refine lv_aload_n C.1 C.2.1 dX12_readExp_0 rfl (lv_at hl 0 rfl) ?_
  refine lv_iconst (v := Int32.ofInt 0) C.1 C.2.1 dX12_readExp_1 (by decide) ?_
  refine fp_41 C h dX12_readExp_2 (fun H locs h => ?_)
  refine lv_aload_n C.1 C.2.1 dX12_readExp_5 rfl (lv_at hl 0 rfl) ?_
  refine lv_iconst (v := Int32.ofInt 0) C.1 C.2.1 dX12_readExp_6 (by decide) ?_
  refine fp_13 C h dX12_readExp_7 (fun H locs h => ?_)
  refine lv_aload_n C.1 C.2.1 dX12_readExp_10 rfl (lv_at hl 0 rfl) ?_
  refine lv_iconst (v := Int32.ofInt 1) C.1 C.2.1 dX12_readExp_11 (by decide) ?_
  refine lv_iconst (v := Int32.ofInt (-1)) C.1 C.2.1 dX12_readExp_12 (by decide) ?_
  refine lv_iconst (v := Int32.ofInt 0) C.1 C.2.1 dX12_readExp_13 (by decide) ?_
  obtain ⟨σ1, e2, hm⟩ := bnd_s hm
  rw [e2] at h
  obtain ⟨r3, e4, hm⟩ := obd_s hm
  refine q_callVv C h (rc_begin l D k g N σ1 1 (-1) 0 r3 e4) (cwV 3 C.2.2.1 (gR_begin _) rfl rfl rfl hd_begin ⟨Nat.le_of_ble_eq_true rfl, Nat.le_of_ble_eq_true rfl⟩) rfl hl.1 rfl (Nat.le_of_ble_eq_true rfl) dX12_readExp_14 ⟨Nat.le_of_ble_eq_true rfl, Nat.le_of_ble_eq_true rfl⟩ (fun H locs h => ?_)
  exact lm_readExp_17 (N := N) C hr hlk  N (lv_sub hl [0] rfl) h hm
end L_readExp
section L_task
variable {p : Program} {l : Launch} {e : Env} {s : State} {m : MethodId} {args : Array Value} {below : List Frame} {meth : Method} {c : Code} {D : va_G} {A : Nat → Prop} {k : Nat → ClassId} {g : Nat → Nat} {N : Nat} {cd : Cond}
set_option maxHeartbeats 4000000 in
set_option maxRecDepth 100000 in
theorem rc_task (l : Launch) (D : va_G) (k : Nat → ClassId) (g : Nat → Nat) (N : Nat) (σ : St) (x1 : Int) (x2 : Int) (r : St) (hm : r_task N σ x1 x2 = some r) : Mv l yX12_task (.code yX12_task cX12_task 3 none :: rW) { frames := 0, cells := 0, slots := 0, locals := 0 } [.ref (g 0), .int (Int32.ofInt x1), .int (Int32.ofInt x2)] D (TYs k) (mW k g σ) (fun _ => True) Unit (fun _ => True) (fun _ => mW k g r) 0 0 := by
  intro sz
  refine x_met (cc := cX12_task) (maxL := 3) (ret := none) (by decide) rfl (Nat.le_of_ble_eq_true rfl) ?_
  intro p e s m below meth c ls C hX hsz hr hlk hmn hl h
  have hl : lv_has ls 3 [(0, .ref (g 0)), (1, .int (Int32.ofInt x1)), (2, .int (Int32.ofInt x2))] := hl
  rw [r_task] at hm
  refine lv_aload_n C.1 C.2.1 dX12_task_0 rfl (lv_at hl 0 rfl) ?_
  refine fg_66 C h dX12_task_1 ?_
  refine lv_aload_n C.1 C.2.1 dX12_task_4 rfl (lv_at hl 0 rfl) ?_
  refine fg_65 C h dX12_task_5 ?_
  refine lv_iload_n C.1 C.2.1 dX12_task_8 rfl (lv_at hl 1 rfl) ?_
  obtain ⟨g1, hm⟩ := grd_s hm
  refine as_56 C h dX12_task_9 g1 (fun H locs h => ?_)
  refine lv_aload_n C.1 C.2.1 dX12_task_10 rfl (lv_at hl 0 rfl) ?_
  refine fg_67 C h dX12_task_11 ?_
  refine lv_aload_n C.1 C.2.1 dX12_task_14 rfl (lv_at hl 0 rfl) ?_
  refine fg_65 C h dX12_task_15 ?_
  refine x_topi (y := Int32.ofInt (fl σ 65 0)) rfl ?_
  refine lv_iload_n C.1 C.2.1 dX12_task_18 rfl (lv_at hl 2 rfl) ?_
  refine as_55 C h dX12_task_19 g1 (fun H locs h => ?_)
  refine lv_aload_n C.1 C.2.1 dX12_task_20 rfl (lv_at hl 0 rfl) ?_
  refine lv_dup C.1 C.2.1 dX12_task_21 rfl ?_
  refine fg_65 C h dX12_task_22 ?_
  refine x_topi (y := Int32.ofInt (fl σ 65 0)) rfl ?_
  refine lv_iconst (v := Int32.ofInt 1) C.1 C.2.1 dX12_task_25 (by decide) ?_
  refine z_iadd C dX12_task_26 ?_
  refine fp_65 C h dX12_task_27 (fun H locs h => ?_)
  cases hm
  exact q_vret C h hr hlk dX12_task_30
end L_task
section L_push
variable {p : Program} {l : Launch} {e : Env} {s : State} {m : MethodId} {args : Array Value} {below : List Frame} {meth : Method} {c : Code} {D : va_G} {A : Nat → Prop} {k : Nat → ClassId} {g : Nat → Nat} {N : Nat} {cd : Cond}
set_option maxHeartbeats 4000000 in
set_option maxRecDepth 100000 in
theorem rc_push (l : Launch) (D : va_G) (k : Nat → ClassId) (g : Nat → Nat) (N : Nat) (σ : St) (x1 : Int) (r : St) (hm : r_push N σ x1 = some r) : Mv l yX12_push (.code yX12_push cX12_push 2 none :: rW) { frames := 0, cells := 0, slots := 0, locals := 0 } [.ref (g 0), .int (Int32.ofInt x1)] D (TYs k) (mW k g σ) (fun _ => True) Unit (fun _ => True) (fun _ => mW k g r) 0 0 := by
  intro sz
  refine x_met (cc := cX12_push) (maxL := 2) (ret := none) (by decide) rfl (Nat.le_of_ble_eq_true rfl) ?_
  intro p e s m below meth c ls C hX hsz hr hlk hmn hl h
  have hl : lv_has ls 2 [(0, .ref (g 0)), (1, .int (Int32.ofInt x1))] := hl
  rw [r_push] at hm
  refine lv_aload_n C.1 C.2.1 dX12_push_0 rfl (lv_at hl 0 rfl) ?_
  refine fg_69 C h dX12_push_1 ?_
  refine lv_aload_n C.1 C.2.1 dX12_push_4 rfl (lv_at hl 0 rfl) ?_
  refine fg_68 C h dX12_push_5 ?_
  refine lv_iload_n C.1 C.2.1 dX12_push_8 rfl (lv_at hl 1 rfl) ?_
  obtain ⟨g1, hm⟩ := grd_s hm
  refine as_54 C h dX12_push_9 g1 (fun H locs h => ?_)
  refine lv_aload_n C.1 C.2.1 dX12_push_10 rfl (lv_at hl 0 rfl) ?_
  refine lv_dup C.1 C.2.1 dX12_push_11 rfl ?_
  refine fg_68 C h dX12_push_12 ?_
  refine x_topi (y := Int32.ofInt (fl σ 68 0)) rfl ?_
  refine lv_iconst (v := Int32.ofInt 1) C.1 C.2.1 dX12_push_15 (by decide) ?_
  refine z_iadd C dX12_push_16 ?_
  refine fp_68 C h dX12_push_17 (fun H locs h => ?_)
  cases hm
  exact q_vret C h hr hlk dX12_push_20
end L_push
section L_pop
variable {p : Program} {l : Launch} {e : Env} {s : State} {m : MethodId} {args : Array Value} {below : List Frame} {meth : Method} {c : Code} {D : va_G} {A : Nat → Prop} {k : Nat → ClassId} {g : Nat → Nat} {N : Nat} {cd : Cond}
set_option maxHeartbeats 4000000 in
set_option maxRecDepth 100000 in
theorem rc_pop (l : Launch) (D : va_G) (k : Nat → ClassId) (g : Nat → Nat) (N : Nat) (σ : St)  (r : St × Int) (hm : r_pop N σ  = some r) : Mi l yX12_pop (.code yX12_pop cX12_pop 1 (some .int) :: rW) { frames := 0, cells := 0, slots := 0, locals := 0 } [.ref (g 0)] D (TYs k) (mW k g σ) (fun _ => True) Unit (fun v _ => v = Int32.ofInt r.2) (fun _ => mW k g r.1) 0 0 := by
  intro sz
  refine x_met (cc := cX12_pop) (maxL := 1) (ret := (some .int)) (by decide) rfl (Nat.le_of_ble_eq_true rfl) ?_
  intro p e s m below meth c ls C hX hsz hr hlk hmn hl h
  have hl : lv_has ls 1 [(0, .ref (g 0))] := hl
  rw [r_pop] at hm
  refine lv_aload_n C.1 C.2.1 dX12_pop_0 rfl (lv_at hl 0 rfl) ?_
  refine lv_dup C.1 C.2.1 dX12_pop_1 rfl ?_
  refine fg_68 C h dX12_pop_2 ?_
  refine lv_iconst (v := Int32.ofInt 1) C.1 C.2.1 dX12_pop_5 (by decide) ?_
  refine z_isub C dX12_pop_6 ?_
  refine fp_68 C h dX12_pop_7 (fun H locs h => ?_)
  refine lv_aload_n C.1 C.2.1 dX12_pop_10 rfl (lv_at hl 0 rfl) ?_
  refine fg_69 C h dX12_pop_11 ?_
  refine lv_aload_n C.1 C.2.1 dX12_pop_14 rfl (lv_at hl 0 rfl) ?_
  refine fg_68 C h dX12_pop_15 ?_
  refine x_topi (y := Int32.ofInt ((fl σ 68 0) - 1)) rfl ?_
  obtain ⟨g1, hm⟩ := grd_s hm
  refine al_54 C h dX12_pop_18 g1 ?_
  refine x_topi (y := Int32.ofInt (el σ 54 ((fl σ 68 0) - 1))) rfl ?_
  cases hm
  exact q_iret C h hr hlk dX12_pop_19 rfl
end L_pop
section L_spot
variable {p : Program} {l : Launch} {e : Env} {s : State} {m : MethodId} {args : Array Value} {below : List Frame} {meth : Method} {c : Code} {D : va_G} {A : Nat → Prop} {k : Nat → ClassId} {g : Nat → Nat} {N : Nat} {cd : Cond}
set_option maxHeartbeats 4000000 in
set_option maxRecDepth 100000 in
theorem rc_spot (l : Launch) (D : va_G) (k : Nat → ClassId) (g : Nat → Nat) (N : Nat) (σ : St) (x1 : Int) (r : St × Int) (hm : r_spot N σ x1 = some r) : Mi l yX12_spot (.code yX12_spot cX12_spot 2 (some .int) :: rW) { frames := 0, cells := 0, slots := 0, locals := 0 } [.ref (g 0), .int (Int32.ofInt x1)] D (TYs k) (mW k g σ) (fun _ => True) Unit (fun v _ => v = Int32.ofInt r.2) (fun _ => mW k g r.1) 0 0 := by
  intro sz
  refine x_met (cc := cX12_spot) (maxL := 2) (ret := (some .int)) (by decide) rfl (Nat.le_of_ble_eq_true rfl) ?_
  intro p e s m below meth c ls C hX hsz hr hlk hmn hl h
  have hl : lv_has ls 2 [(0, .ref (g 0)), (1, .int (Int32.ofInt x1))] := hl
  rw [r_spot] at hm
  refine lv_aload_n C.1 C.2.1 dX12_spot_0 rfl (lv_at hl 0 rfl) ?_
  refine fg_70 C h dX12_spot_1 ?_
  obtain ⟨g1, hm⟩ := grd_s hm
  refine z_if_le (tgt := 14) C dX12_spot_4 (by decide) g1 (fun c2 => ?_) (fun c2 => ?_)
  · have hm := ite_f c2 hm
    refine lv_iload_n C.1 C.2.1 dX12_spot_14 rfl (lv_at hl 1 rfl) ?_
    cases hm
    exact q_iret C h hr hlk dX12_spot_15 rfl
  · have hm := ite_t c2 hm
    refine lv_aload_n C.1 C.2.1 dX12_spot_7 rfl (lv_at hl 0 rfl) ?_
    refine fg_71 C h dX12_spot_8 ?_
    refine lv_goto (tgt := 15) C.1 C.2.1 dX12_spot_11 (by decide) ?_
    cases hm
    exact q_iret C h hr hlk dX12_spot_15 rfl
end L_spot
section L_counts
variable {p : Program} {l : Launch} {e : Env} {s : State} {m : MethodId} {args : Array Value} {below : List Frame} {meth : Method} {c : Code} {D : va_G} {A : Nat → Prop} {k : Nat → ClassId} {g : Nat → Nat} {N : Nat} {cd : Cond}
set_option maxHeartbeats 4000000 in
set_option maxRecDepth 100000 in
theorem lm_counts_47 {r : St} (C : Cx p s m args c cX12_counts RX12 (cd :: rW) D (TYs k) 4) (hr : meth.sig.returnType = none) (hlk : meth.locks = false) {rec2 : St → Int → Int → Int → Option St} (hrec2 : ∀ {ls : Array Slot} {H : Heap} {locs : List Loc} {σ : St} {x1 : Int} {x2 : Int} {x3 : Int}, lv_has ls 4 [(0, .ref (g 0)), (1, .int (Int32.ofInt x1)), (2, .int (Int32.ofInt x2)), (3, .int (Int32.ofInt x3))] → Hp D A s.heap H locs (mW k g σ) → rec2 σ x1 x2 x3 = some r → W p l e { frames := 1, cells := 0, slots := 0, locals := 22 } s m args below meth c H locs 0 0 (MQ below (va_Qv (fun (_ : Unit) => True) (fun _ t => PostW D (TYs k) A (mW k g r) t) A) args s 0 0 A) (F0 m 2 ls [])) {ls : Array Slot} {H : Heap} {locs : List Loc} {σ : St} {x1 : Int} {x2 : Int} {x3 : Int} (hl : lv_has ls 4 [(0, .ref (g 0)), (1, .int (Int32.ofInt x1)), (2, .int (Int32.ofInt x2)), (3, .int (Int32.ofInt x3))]) (h : Hp D A s.heap H locs (mW k g σ)) (hm : r_counts_47 N rec2 σ x1 x2 x3 = some r) : W p l e { frames := 1, cells := 0, slots := 0, locals := 22 } s m args below meth c H locs 0 0 (MQ below (va_Qv (fun (_ : Unit) => True) (fun _ t => PostW D (TYs k) A (mW k g r) t) A) args s 0 0 A) (F0 m 47 ls []) := by
  rw [r_counts_47] at hm
  refine lv_iinc (v := Int32.ofInt (x3 + 1)) (lv' := [(3, .int (Int32.ofInt (x3 + 1))), (0, .ref (g 0)), (1, .int (Int32.ofInt x1)), (2, .int (Int32.ofInt x2))]) C.1 C.2.1 dX12_counts_47 hl (k := 3) rfl (c32_add _ _) (by decide) rfl (fun ls hl => ?_)
  refine lv_goto (tgt := 2) C.1 C.2.1 dX12_counts_50 (by decide) ?_
  exact hrec2 (lv_sub hl [1, 2, 3, 0] rfl) h hm
set_option maxHeartbeats 4000000 in
set_option maxRecDepth 100000 in
theorem lm_counts_2 {r : St} (C : Cx p s m args c cX12_counts RX12 (cd :: rW) D (TYs k) 4) (hr : meth.sig.returnType = none) (hlk : meth.locks = false)  (n : Nat) : ∀ {ls : Array Slot} {H : Heap} {locs : List Loc} {σ : St} {x1 : Int} {x2 : Int} {x3 : Int}, lv_has ls 4 [(0, .ref (g 0)), (1, .int (Int32.ofInt x1)), (2, .int (Int32.ofInt x2)), (3, .int (Int32.ofInt x3))] → Hp D A s.heap H locs (mW k g σ) → r_counts_2 N  n σ x1 x2 x3 = some r → W p l e { frames := 1, cells := 0, slots := 0, locals := 22 } s m args below meth c H locs 0 0 (MQ below (va_Qv (fun (_ : Unit) => True) (fun _ t => PostW D (TYs k) A (mW k g r) t) A) args s 0 0 A) (F0 m 2 ls []) := by
  induction n with
  | zero => intro ls H locs σ x1 x2 x3 hl h hm; cases (show none = some r from hm)
  | succ n hrec2 =>
    intro ls H locs σ x1 x2 x3 hl h hm
    rw [r_counts_2] at hm
    refine lv_iload_n C.1 C.2.1 dX12_counts_2 rfl (lv_at hl 3 rfl) ?_
    refine lv_iload_n C.1 C.2.1 dX12_counts_3 rfl (lv_at hl 2 rfl) ?_
    obtain ⟨g1, hm⟩ := grd_s hm
    obtain ⟨g2, hm⟩ := grd_s hm
    refine z_icmp_ge (tgt := 53) C dX12_counts_4 (by decide) g1 g2 (fun c3 => ?_) (fun c3 => ?_)
    · have hm := ite_f c3 hm
      cases hm
      exact q_vret C h hr hlk dX12_counts_53
    · have hm := ite_t c3 hm
      refine lv_aload_n C.1 C.2.1 dX12_counts_7 rfl (lv_at hl 0 rfl) ?_
      refine fg_11 C h dX12_counts_8 ?_
      obtain ⟨g4, hm⟩ := grd_s hm
      refine z_if_ne (tgt := 53) C dX12_counts_11 (by decide) g4 (fun c5 => ?_) (fun c5 => ?_)
      · have hm := ite_f c5 hm
        cases hm
        exact q_vret C h hr hlk dX12_counts_53
      · have hm := ite_t c5 hm
        refine lv_aload_n C.1 C.2.1 dX12_counts_14 rfl (lv_at hl 0 rfl) ?_
        refine fg_64 C h dX12_counts_15 ?_
        refine lv_sipush (v := Int32.ofInt 200) C.1 C.2.1 dX12_counts_18 (by decide) ?_
        obtain ⟨g6, hm⟩ := grd_s hm
        refine z_icmp_ne (tgt := 37) C dX12_counts_21 (by decide) g6 (by decide) (fun c7 => ?_) (fun c7 => ?_)
        · have hm := ite_f c7 hm
          refine lv_aload_n C.1 C.2.1 dX12_counts_37 rfl (lv_at hl 0 rfl) ?_
          refine lv_dup C.1 C.2.1 dX12_counts_38 rfl ?_
          refine fg_64 C h dX12_counts_39 ?_
          refine lv_iconst (v := Int32.ofInt 1) C.1 C.2.1 dX12_counts_42 (by decide) ?_
          refine z_iadd C dX12_counts_43 ?_
          refine fp_64 C h dX12_counts_44 (fun H locs h => ?_)
          exact lm_counts_47 (N := N) C hr hlk hrec2 (lv_sub hl [0, 1, 2, 3] rfl) h hm
        · have hm := ite_t c7 hm
          refine lv_aload_n C.1 C.2.1 dX12_counts_24 rfl (lv_at hl 0 rfl) ?_
          refine lv_iconst (v := Int32.ofInt 5) C.1 C.2.1 dX12_counts_25 (by decide) ?_
          refine lv_aload_n C.1 C.2.1 dX12_counts_26 rfl (lv_at hl 0 rfl) ?_
          refine lv_iload_n C.1 C.2.1 dX12_counts_27 rfl (lv_at hl 1 rfl) ?_
          obtain ⟨r8, e9, hm⟩ := obd_s hm
          refine q_callVi C h (rc_spot l D k g N σ x1 r8 e9) (cwV 1 C.2.2.1 (gR_spot _) rfl rfl rfl hd_spot ⟨Nat.le_of_ble_eq_true rfl, Nat.le_of_ble_eq_true rfl⟩) rfl hl.1 rfl (Nat.le_of_ble_eq_true rfl) dX12_counts_28 ⟨Nat.le_of_ble_eq_true rfl, Nat.le_of_ble_eq_true rfl⟩ (fun H locs h => ?_)
          obtain ⟨r10, e11, hm⟩ := obd_s hm
          refine q_callVv C h (rc_fail l D k g N r8.1 5 r8.2 r10 e11) (cwV 2 C.2.2.1 (gR_fail _) rfl rfl rfl hd_fail ⟨Nat.le_of_ble_eq_true rfl, Nat.le_of_ble_eq_true rfl⟩) rfl hl.1 rfl (Nat.le_of_ble_eq_true rfl) dX12_counts_31 ⟨Nat.le_of_ble_eq_true rfl, Nat.le_of_ble_eq_true rfl⟩ (fun H locs h => ?_)
          refine lv_goto (tgt := 47) C.1 C.2.1 dX12_counts_34 (by decide) ?_
          exact lm_counts_47 (N := N) C hr hlk hrec2 (lv_sub hl [0, 1, 2, 3] rfl) h hm
set_option maxHeartbeats 4000000 in
set_option maxRecDepth 100000 in
theorem rc_counts (l : Launch) (D : va_G) (k : Nat → ClassId) (g : Nat → Nat) (N : Nat) (σ : St) (x1 : Int) (x2 : Int) (r : St) (hm : r_counts N σ x1 x2 = some r) : Mv l yX12_counts (.code yX12_counts cX12_counts 4 none :: rW) { frames := 1, cells := 0, slots := 0, locals := 22 } [.ref (g 0), .int (Int32.ofInt x1), .int (Int32.ofInt x2)] D (TYs k) (mW k g σ) (fun _ => True) Unit (fun _ => True) (fun _ => mW k g r) 0 0 := by
  intro sz
  refine x_met (cc := cX12_counts) (maxL := 4) (ret := none) (by decide) rfl (Nat.le_of_ble_eq_true rfl) ?_
  intro p e s m below meth c ls C hX hsz hr hlk hmn hl h
  have hl : lv_has ls 4 [(0, .ref (g 0)), (1, .int (Int32.ofInt x1)), (2, .int (Int32.ofInt x2))] := hl
  rw [r_counts] at hm
  refine lv_iconst (v := Int32.ofInt 0) C.1 C.2.1 dX12_counts_0 (by decide) ?_
  refine lv_istore_n (lv' := [(3, .int (Int32.ofInt 0)), (0, .ref (g 0)), (1, .int (Int32.ofInt x1)), (2, .int (Int32.ofInt x2))]) C.1 C.2.1 dX12_counts_1 rfl hl (by decide) rfl (fun ls hl => ?_)
  exact lm_counts_2 (N := N) C hr hlk  N (lv_sub hl [1, 2, 3, 0] rfl) h hm
end L_counts
section L_commonOf
variable {p : Program} {l : Launch} {e : Env} {s : State} {m : MethodId} {args : Array Value} {below : List Frame} {meth : Method} {c : Code} {D : va_G} {A : Nat → Prop} {k : Nat → ClassId} {g : Nat → Nat} {N : Nat} {cd : Cond}
set_option maxHeartbeats 4000000 in
set_option maxRecDepth 100000 in
theorem lm_commonOf_6 {r : Int} (C : Cx p s m args c cX12_commonOf RX12 (cd :: rW) D (TYs k) 10) (hr : meth.sig.returnType = (some .long)) (hlk : meth.locks = false)  (n : Nat) : ∀ {ls : Array Slot} {H : Heap} {locs : List Loc} {x4 : Int} {x6 : Int}, lv_has ls 10 [(4, .long (Int64.ofInt x4)), (6, .long (Int64.ofInt x6))] → Hp D A s.heap H locs [] → r_commonOf_6 N  n x4 x6 = some r → W p l e { frames := 0, cells := 0, slots := 0, locals := 0 } s m args below meth c H locs 0 0 (MQ below (va_Ql (fun v (_ : Unit) => v = Int64.ofInt r) (fun _ t => PostW D (TYs k) A [] t) A) args s 0 0 A) (F0 m 6 ls []) := by
  induction n with
  | zero => intro ls H locs x4 x6 hl h hm; cases (show none = some r from hm)
  | succ n hrec6 =>
    intro ls H locs x4 x6 hl h hm
    rw [r_commonOf_6] at hm
    refine lv_lload C.1 C.2.1 dX12_commonOf_6 (lv_at hl 1 rfl) ?_
    refine lv_lconst (v := Int64.ofInt 0) C.1 C.2.1 dX12_commonOf_8 (by decide) ?_
    obtain ⟨g1, hm⟩ := grd_s hm
    refine W.lcmp C.1 C.2.1 dX12_commonOf_9 ?_
    refine z_lcmp_eq (tgt := 31) C dX12_commonOf_10 (by decide) g1 (by decide) (fun c2 => ?_) (fun c2 => ?_)
    · have hm := ite_t c2 hm
      refine lv_lload C.1 C.2.1 dX12_commonOf_31 (lv_at hl 0 rfl) ?_
      cases hm
      exact q_lretS C h hr hlk dX12_commonOf_33
    · have hm := ite_f c2 hm
      refine lv_lload C.1 C.2.1 dX12_commonOf_13 (lv_at hl 0 rfl) ?_
      refine lv_lload C.1 C.2.1 dX12_commonOf_15 (lv_at hl 1 rfl) ?_
      obtain ⟨g3, hm⟩ := grd_s hm
      obtain ⟨g4, hm⟩ := grd_s hm
      refine z_lrem C dX12_commonOf_17 g3 g1 g4 ?_
      obtain ⟨v5, e6, hm⟩ := bnd_s hm
      rw [e6]
      refine lv_lstore (lv' := [(8, .long (Int64.ofInt v5)), (4, .long (Int64.ofInt x4)), (6, .long (Int64.ofInt x6))]) C.1 C.2.1 dX12_commonOf_18 hl (by decide) rfl (fun ls hl => ?_)
      refine lv_lload C.1 C.2.1 dX12_commonOf_20 (lv_at hl 2 rfl) ?_
      refine lv_lstore (lv' := [(4, .long (Int64.ofInt x6)), (8, .long (Int64.ofInt v5)), (6, .long (Int64.ofInt x6))]) C.1 C.2.1 dX12_commonOf_22 hl (by decide) rfl (fun ls hl => ?_)
      refine lv_lload C.1 C.2.1 dX12_commonOf_24 (lv_at hl 1 rfl) ?_
      refine lv_lstore (lv' := [(6, .long (Int64.ofInt v5)), (4, .long (Int64.ofInt x6)), (8, .long (Int64.ofInt v5))]) C.1 C.2.1 dX12_commonOf_26 hl (by decide) rfl (fun ls hl => ?_)
      refine lv_goto (tgt := 6) C.1 C.2.1 dX12_commonOf_28 (by decide) ?_
      exact hrec6 (lv_sub hl [1, 0] rfl) h hm
set_option maxHeartbeats 4000000 in
set_option maxRecDepth 100000 in
theorem rc_commonOf (l : Launch) (D : va_G) (k : Nat → ClassId) (N : Nat) (x0 : Int) (x2 : Int) (r : Int) (hm : r_commonOf N x0 x2 = some r) : Ml l yX12_commonOf (.code yX12_commonOf cX12_commonOf 10 (some .long) :: rW) { frames := 0, cells := 0, slots := 0, locals := 0 } [.long (Int64.ofInt x0), .long (Int64.ofInt x2)] D (TYs k) [] (fun _ => True) Unit (fun v _ => v = Int64.ofInt r) (fun _ => []) 0 0 := by
  intro sz
  refine x_met (cc := cX12_commonOf) (maxL := 10) (ret := (some .long)) (by decide) rfl (Nat.le_of_ble_eq_true rfl) ?_
  intro p e s m below meth c ls C hX hsz hr hlk hmn hl h
  have hl : lv_has ls 10 [(0, .long (Int64.ofInt x0)), (2, .long (Int64.ofInt x2))] := hl
  rw [r_commonOf] at hm
  refine lv_lload_n C.1 C.2.1 dX12_commonOf_0 rfl (lv_at hl 0 rfl) ?_
  refine lv_lstore (lv' := [(4, .long (Int64.ofInt x0)), (0, .long (Int64.ofInt x0)), (2, .long (Int64.ofInt x2))]) C.1 C.2.1 dX12_commonOf_1 hl (by decide) rfl (fun ls hl => ?_)
  refine lv_lload_n C.1 C.2.1 dX12_commonOf_3 rfl (lv_at hl 2 rfl) ?_
  refine lv_lstore (lv' := [(6, .long (Int64.ofInt x2)), (4, .long (Int64.ofInt x0)), (0, .long (Int64.ofInt x0)), (2, .long (Int64.ofInt x2))]) C.1 C.2.1 dX12_commonOf_4 hl (by decide) rfl (fun ls hl => ?_)
  exact lm_commonOf_6 (N := N) C hr hlk  N (lv_sub hl [1, 0] rfl) h hm
end L_commonOf
section L_least
variable {p : Program} {l : Launch} {e : Env} {s : State} {m : MethodId} {args : Array Value} {below : List Frame} {meth : Method} {c : Code} {D : va_G} {A : Nat → Prop} {k : Nat → ClassId} {g : Nat → Nat} {N : Nat} {cd : Cond}
set_option maxHeartbeats 4000000 in
set_option maxRecDepth 100000 in
theorem lm_least_16 {r : Int} (C : Cx p s m args c cX12_least RX12 (cd :: rW) D (TYs k) 4) (hr : meth.sig.returnType = (some .long)) (hlk : meth.locks = false)  {ls : Array Slot} {H : Heap} {locs : List Loc}  (hl : lv_has ls 4 []) (h : Hp D A s.heap H locs []) (hm : r_least_16 N   = some r) : W p l e { frames := 1, cells := 0, slots := 0, locals := 29 } s m args below meth c H locs 0 0 (MQ below (va_Ql (fun v (_ : Unit) => v = Int64.ofInt r) (fun _ t => PostW D (TYs k) A [] t) A) args s 0 0 A) (F0 m 16 ls []) := by
  rw [r_least_16] at hm
  refine lv_ldc2 (v := 1125899906842624) C.1 C.2.1 C.2.2.2.1 (C.2.2.1 _ (List.mem_cons_of_mem _ wk_312)) dX12_least_16 ?_
  refine x_topl (y := Int64.ofInt 1125899906842624) (by decide) ?_
  refine lv_goto (tgt := 53) C.1 C.2.1 dX12_least_19 (by decide) ?_
  cases hm
  exact q_lretS C h hr hlk dX12_least_53
set_option maxHeartbeats 4000000 in
set_option maxRecDepth 100000 in
theorem rc_least (l : Launch) (D : va_G) (k : Nat → ClassId) (N : Nat) (x0 : Int) (x2 : Int) (r : Int) (hm : r_least N x0 x2 = some r) : Ml l yX12_least (.code yX12_least cX12_least 4 (some .long) :: rW) { frames := 1, cells := 0, slots := 0, locals := 29 } [.long (Int64.ofInt x0), .long (Int64.ofInt x2)] D (TYs k) [] (fun _ => True) Unit (fun v _ => v = Int64.ofInt r) (fun _ => []) 0 0 := by
  intro sz
  refine x_met (cc := cX12_least) (maxL := 4) (ret := (some .long)) (by decide) rfl (Nat.le_of_ble_eq_true rfl) ?_
  intro p e s m below meth c ls C hX hsz hr hlk hmn hl h
  have hl : lv_has ls 4 [(0, .long (Int64.ofInt x0)), (2, .long (Int64.ofInt x2))] := hl
  rw [r_least] at hm
  refine lv_lload_n C.1 C.2.1 dX12_least_0 rfl (lv_at hl 0 rfl) ?_
  refine lv_ldc2 (v := 1125899906842624) C.1 C.2.1 C.2.2.2.1 (C.2.2.1 _ (List.mem_cons_of_mem _ wk_312)) dX12_least_1 ?_
  refine x_topl (y := Int64.ofInt 1125899906842624) (by decide) ?_
  obtain ⟨g1, hm⟩ := grd_s hm
  refine W.lcmp C.1 C.2.1 dX12_least_4 ?_
  refine z_lcmp_ge (tgt := 16) C dX12_least_5 (by decide) g1 (by decide) (fun c2 => ?_) (fun c2 => ?_)
  · have hm := ite_f c2 hm
    exact lm_least_16 (N := N) C hr hlk  (lv_sub hl [] rfl) h hm
  · have hm := ite_t c2 hm
    refine lv_lload_n C.1 C.2.1 dX12_least_8 rfl (lv_at hl 1 rfl) ?_
    refine lv_ldc2 (v := 1125899906842624) C.1 C.2.1 C.2.2.2.1 (C.2.2.1 _ (List.mem_cons_of_mem _ wk_312)) dX12_least_9 ?_
    refine x_topl (y := Int64.ofInt 1125899906842624) (by decide) ?_
    obtain ⟨g3, hm⟩ := grd_s hm
    refine W.lcmp C.1 C.2.1 dX12_least_12 ?_
    refine z_lcmp_lt (tgt := 22) C dX12_least_13 (by decide) g3 (by decide) (fun c4 => ?_) (fun c4 => ?_)
    · have hm := ite_t c4 hm
      refine lv_lload_n C.1 C.2.1 dX12_least_22 rfl (lv_at hl 0 rfl) ?_
      refine lv_lload_n C.1 C.2.1 dX12_least_23 rfl (lv_at hl 0 rfl) ?_
      refine lv_lload_n C.1 C.2.1 dX12_least_24 rfl (lv_at hl 1 rfl) ?_
      obtain ⟨r5, e6, hm⟩ := obd_s hm
      refine q_callSl C h (rc_commonOf l D k N x0 x2 r5 e6) (cwS 2 C.2.2.1 (gR_commonOf _) rfl rfl rfl hd_commonOf ⟨Nat.le_of_ble_eq_true rfl, Nat.le_of_ble_eq_true rfl⟩) rfl hl.1 rfl (Nat.le_of_ble_eq_true rfl) dX12_least_25 ⟨Nat.le_of_ble_eq_true rfl, Nat.le_of_ble_eq_true rfl⟩ (fun H locs h => ?_)
      obtain ⟨g7, hm⟩ := grd_s hm
      obtain ⟨g8, hm⟩ := grd_s hm
      refine z_ldiv C dX12_least_28 g1 g7 g8 ?_
      refine lv_ldc2 (v := 1125899906842624) C.1 C.2.1 C.2.2.2.1 (C.2.2.1 _ (List.mem_cons_of_mem _ wk_312)) dX12_least_29 ?_
      refine x_topl (y := Int64.ofInt 1125899906842624) (by decide) ?_
      refine lv_lload_n C.1 C.2.1 dX12_least_32 rfl (lv_at hl 1 rfl) ?_
      obtain ⟨g9, hm⟩ := grd_s hm
      refine z_ldiv C dX12_least_33 (by decide) g3 g9 ?_
      obtain ⟨g10, hm⟩ := grd_s hm
      obtain ⟨g11, hm⟩ := grd_s hm
      refine W.lcmp C.1 C.2.1 dX12_least_34 ?_
      refine z_lcmp_lt (tgt := 44) C dX12_least_35 (by decide) g10 g11 (fun c12 => ?_) (fun c12 => ?_)
      · have hm := ite_t c12 hm
        refine lv_lload_n C.1 C.2.1 dX12_least_44 rfl (lv_at hl 0 rfl) ?_
        refine lv_lload_n C.1 C.2.1 dX12_least_45 rfl (lv_at hl 0 rfl) ?_
        refine lv_lload_n C.1 C.2.1 dX12_least_46 rfl (lv_at hl 1 rfl) ?_
        obtain ⟨r13, e14, hm⟩ := obd_s hm
        refine q_callSl C h (rc_commonOf l D k N x0 x2 r13 e14) (cwS 2 C.2.2.1 (gR_commonOf _) rfl rfl rfl hd_commonOf ⟨Nat.le_of_ble_eq_true rfl, Nat.le_of_ble_eq_true rfl⟩) rfl hl.1 rfl (Nat.le_of_ble_eq_true rfl) dX12_least_47 ⟨Nat.le_of_ble_eq_true rfl, Nat.le_of_ble_eq_true rfl⟩ (fun H locs h => ?_)
        obtain ⟨g15, hm⟩ := grd_s hm
        obtain ⟨g16, hm⟩ := grd_s hm
        refine z_ldiv C dX12_least_50 g1 g15 g16 ?_
        refine lv_lload_n C.1 C.2.1 dX12_least_51 rfl (lv_at hl 1 rfl) ?_
        refine z_lmul C dX12_least_52 ?_
        cases hm
        exact q_lretS C h hr hlk dX12_least_53
      · have hm := ite_f c12 hm
        refine lv_ldc2 (v := 1125899906842624) C.1 C.2.1 C.2.2.2.1 (C.2.2.1 _ (List.mem_cons_of_mem _ wk_312)) dX12_least_38 ?_
        refine x_topl (y := Int64.ofInt 1125899906842624) (by decide) ?_
        refine lv_goto (tgt := 53) C.1 C.2.1 dX12_least_41 (by decide) ?_
        cases hm
        exact q_lretS C h hr hlk dX12_least_53
    · have hm := ite_f c4 hm
      exact lm_least_16 (N := N) C hr hlk  (lv_sub hl [] rfl) h hm
end L_least
section L_times
variable {p : Program} {l : Launch} {e : Env} {s : State} {m : MethodId} {args : Array Value} {below : List Frame} {meth : Method} {c : Code} {D : va_G} {A : Nat → Prop} {k : Nat → ClassId} {g : Nat → Nat} {N : Nat} {cd : Cond}
set_option maxHeartbeats 4000000 in
set_option maxRecDepth 100000 in
theorem lm_times_22 {r : Int} (C : Cx p s m args c cX12_times RX12 (cd :: rW) D (TYs k) 4) (hr : meth.sig.returnType = (some .long)) (hlk : meth.locks = false)  {ls : Array Slot} {H : Heap} {locs : List Loc} {x0 : Int} {x2 : Int} (hl : lv_has ls 4 [(0, .long (Int64.ofInt x0)), (2, .long (Int64.ofInt x2))]) (h : Hp D A s.heap H locs []) (hm : r_times_22 N  x0 x2 = some r) : W p l e { frames := 0, cells := 0, slots := 0, locals := 0 } s m args below meth c H locs 0 0 (MQ below (va_Ql (fun v (_ : Unit) => v = Int64.ofInt r) (fun _ t => PostW D (TYs k) A [] t) A) args s 0 0 A) (F0 m 22 ls []) := by
  rw [r_times_22] at hm
  refine lv_lload_n C.1 C.2.1 dX12_times_22 rfl (lv_at hl 0 rfl) ?_
  refine lv_lload_n C.1 C.2.1 dX12_times_23 rfl (lv_at hl 1 rfl) ?_
  refine z_lmul C dX12_times_24 ?_
  cases hm
  exact q_lretS C h hr hlk dX12_times_25
set_option maxHeartbeats 4000000 in
set_option maxRecDepth 100000 in
theorem rc_times (l : Launch) (D : va_G) (k : Nat → ClassId) (N : Nat) (x0 : Int) (x2 : Int) (r : Int) (hm : r_times N x0 x2 = some r) : Ml l yX12_times (.code yX12_times cX12_times 4 (some .long) :: rW) { frames := 0, cells := 0, slots := 0, locals := 0 } [.long (Int64.ofInt x0), .long (Int64.ofInt x2)] D (TYs k) [] (fun _ => True) Unit (fun v _ => v = Int64.ofInt r) (fun _ => []) 0 0 := by
  intro sz
  refine x_met (cc := cX12_times) (maxL := 4) (ret := (some .long)) (by decide) rfl (Nat.le_of_ble_eq_true rfl) ?_
  intro p e s m below meth c ls C hX hsz hr hlk hmn hl h
  have hl : lv_has ls 4 [(0, .long (Int64.ofInt x0)), (2, .long (Int64.ofInt x2))] := hl
  rw [r_times] at hm
  refine lv_lload_n C.1 C.2.1 dX12_times_0 rfl (lv_at hl 1 rfl) ?_
  refine lv_lconst (v := Int64.ofInt 0) C.1 C.2.1 dX12_times_1 (by decide) ?_
  obtain ⟨g1, hm⟩ := grd_s hm
  refine W.lcmp C.1 C.2.1 dX12_times_2 ?_
  refine z_lcmp_eq (tgt := 22) C dX12_times_3 (by decide) g1 (by decide) (fun c2 => ?_) (fun c2 => ?_)
  · have hm := ite_t c2 hm
    exact lm_times_22 (N := N) C hr hlk  (lv_sub hl [0, 1] rfl) h hm
  · have hm := ite_f c2 hm
    refine lv_lload_n C.1 C.2.1 dX12_times_6 rfl (lv_at hl 0 rfl) ?_
    refine lv_ldc2 (v := 1125899906842624) C.1 C.2.1 C.2.2.2.1 (C.2.2.1 _ (List.mem_cons_of_mem _ wk_312)) dX12_times_7 ?_
    refine x_topl (y := Int64.ofInt 1125899906842624) (by decide) ?_
    refine lv_lload_n C.1 C.2.1 dX12_times_10 rfl (lv_at hl 1 rfl) ?_
    obtain ⟨g3, hm⟩ := grd_s hm
    refine z_ldiv C dX12_times_11 (by decide) g1 g3 ?_
    obtain ⟨g4, hm⟩ := grd_s hm
    obtain ⟨g5, hm⟩ := grd_s hm
    refine W.lcmp C.1 C.2.1 dX12_times_12 ?_
    refine z_lcmp_lt (tgt := 22) C dX12_times_13 (by decide) g4 g5 (fun c6 => ?_) (fun c6 => ?_)
    · have hm := ite_t c6 hm
      exact lm_times_22 (N := N) C hr hlk  (lv_sub hl [0, 1] rfl) h hm
    · have hm := ite_f c6 hm
      refine lv_ldc2 (v := 1125899906842624) C.1 C.2.1 C.2.2.2.1 (C.2.2.1 _ (List.mem_cons_of_mem _ wk_312)) dX12_times_16 ?_
      refine x_topl (y := Int64.ofInt 1125899906842624) (by decide) ?_
      refine lv_goto (tgt := 25) C.1 C.2.1 dX12_times_19 (by decide) ?_
      cases hm
      exact q_lretS C h hr hlk dX12_times_25
end L_times
section L_up
variable {p : Program} {l : Launch} {e : Env} {s : State} {m : MethodId} {args : Array Value} {below : List Frame} {meth : Method} {c : Code} {D : va_G} {A : Nat → Prop} {k : Nat → ClassId} {g : Nat → Nat} {N : Nat} {cd : Cond}
set_option maxHeartbeats 4000000 in
set_option maxRecDepth 100000 in
theorem rc_up (l : Launch) (D : va_G) (k : Nat → ClassId) (N : Nat) (x0 : Int) (x2 : Int) (r : Int) (hm : r_up N x0 x2 = some r) : Ml l yX12_up (.code yX12_up cX12_up 4 (some .long) :: rW) { frames := 0, cells := 0, slots := 0, locals := 0 } [.long (Int64.ofInt x0), .long (Int64.ofInt x2)] D (TYs k) [] (fun _ => True) Unit (fun v _ => v = Int64.ofInt r) (fun _ => []) 0 0 := by
  intro sz
  refine x_met (cc := cX12_up) (maxL := 4) (ret := (some .long)) (by decide) rfl (Nat.le_of_ble_eq_true rfl) ?_
  intro p e s m below meth c ls C hX hsz hr hlk hmn hl h
  have hl : lv_has ls 4 [(0, .long (Int64.ofInt x0)), (2, .long (Int64.ofInt x2))] := hl
  rw [r_up] at hm
  refine lv_lload_n C.1 C.2.1 dX12_up_0 rfl (lv_at hl 0 rfl) ?_
  refine lv_lload_n C.1 C.2.1 dX12_up_1 rfl (lv_at hl 1 rfl) ?_
  refine z_ladd C dX12_up_2 ?_
  refine lv_lconst (v := Int64.ofInt 1) C.1 C.2.1 dX12_up_3 (by decide) ?_
  refine z_lsub C dX12_up_4 ?_
  refine lv_lload_n C.1 C.2.1 dX12_up_5 rfl (lv_at hl 1 rfl) ?_
  obtain ⟨g1, hm⟩ := grd_s hm
  obtain ⟨g2, hm⟩ := grd_s hm
  obtain ⟨g3, hm⟩ := grd_s hm
  refine z_ldiv C dX12_up_6 g1 g2 g3 ?_
  cases hm
  exact q_lretS C h hr hlk dX12_up_7
end L_up
section L_gather
variable {p : Program} {l : Launch} {e : Env} {s : State} {m : MethodId} {args : Array Value} {below : List Frame} {meth : Method} {c : Code} {D : va_G} {A : Nat → Prop} {k : Nat → ClassId} {g : Nat → Nat} {N : Nat} {cd : Cond}
set_option maxHeartbeats 4000000 in
set_option maxRecDepth 100000 in
theorem lm_gather_261 {r : St} (C : Cx p s m args c cX12_gather RX12 (cd :: rW) D (TYs k) 5) (hr : meth.sig.returnType = none) (hlk : meth.locks = false) {rec42 : St → Int → Int → Option St} (hrec42 : ∀ {ls : Array Slot} {H : Heap} {locs : List Loc} {σ : St} {x1 : Int} {x2 : Int}, lv_has ls 5 [(0, .ref (g 0)), (1, .int (Int32.ofInt x1)), (2, .int (Int32.ofInt x2))] → Hp D A s.heap H locs (mW k g σ) → rec42 σ x1 x2 = some r → W p l e { frames := 2, cells := 0, slots := 0, locals := 52 } s m args below meth c H locs 0 0 (MQ below (va_Qv (fun (_ : Unit) => True) (fun _ t => PostW D (TYs k) A (mW k g r) t) A) args s 0 0 A) (F0 m 42 ls [])) {ls : Array Slot} {H : Heap} {locs : List Loc} {σ : St} {x1 : Int} {x2 : Int} {s0 : Int} (hl : lv_has ls 5 [(0, .ref (g 0)), (1, .int (Int32.ofInt x1)), (2, .int (Int32.ofInt x2))]) (h : Hp D A s.heap H locs (mW k g σ)) (hm : r_gather_261 N rec42 σ x1 x2 s0 = some r) : W p l e { frames := 2, cells := 0, slots := 0, locals := 52 } s m args below meth c H locs 0 0 (MQ below (va_Qv (fun (_ : Unit) => True) (fun _ t => PostW D (TYs k) A (mW k g r) t) A) args s 0 0 A) (F0 m 261 ls [.int (Int32.ofInt s0), .ref (g 0)]) := by
  rw [r_gather_261] at hm
  refine fp_79 C h dX12_gather_261 (fun H locs h => ?_)
  refine lv_iinc (v := Int32.ofInt (x2 + 1)) (lv' := [(2, .int (Int32.ofInt (x2 + 1))), (0, .ref (g 0)), (1, .int (Int32.ofInt x1))]) C.1 C.2.1 dX12_gather_264 hl (k := 2) rfl (c32_add _ _) (by decide) rfl (fun ls hl => ?_)
  refine lv_goto (tgt := 42) C.1 C.2.1 dX12_gather_267 (by decide) ?_
  exact hrec42 (lv_sub hl [1, 2, 0] rfl) h hm
set_option maxHeartbeats 4000000 in
set_option maxRecDepth 100000 in
theorem lm_gather_231 {r : St} (C : Cx p s m args c cX12_gather RX12 (cd :: rW) D (TYs k) 5) (hr : meth.sig.returnType = none) (hlk : meth.locks = false) {rec42 : St → Int → Int → Option St} (hrec42 : ∀ {ls : Array Slot} {H : Heap} {locs : List Loc} {σ : St} {x1 : Int} {x2 : Int}, lv_has ls 5 [(0, .ref (g 0)), (1, .int (Int32.ofInt x1)), (2, .int (Int32.ofInt x2))] → Hp D A s.heap H locs (mW k g σ) → rec42 σ x1 x2 = some r → W p l e { frames := 2, cells := 0, slots := 0, locals := 52 } s m args below meth c H locs 0 0 (MQ below (va_Qv (fun (_ : Unit) => True) (fun _ t => PostW D (TYs k) A (mW k g r) t) A) args s 0 0 A) (F0 m 42 ls [])) {ls : Array Slot} {H : Heap} {locs : List Loc} {σ : St} {x1 : Int} {x2 : Int} {x3 : Int} {s0 : Int} (hl : lv_has ls 5 [(0, .ref (g 0)), (1, .int (Int32.ofInt x1)), (2, .int (Int32.ofInt x2)), (3, .int (Int32.ofInt x3))]) (h : Hp D A s.heap H locs (mW k g σ)) (hm : r_gather_231 N rec42 σ x1 x2 x3 s0 = some r) : W p l e { frames := 2, cells := 0, slots := 0, locals := 52 } s m args below meth c H locs 0 0 (MQ below (va_Qv (fun (_ : Unit) => True) (fun _ t => PostW D (TYs k) A (mW k g r) t) A) args s 0 0 A) (F0 m 231 ls [.long (Int64.ofInt s0), .ref (g 0)]) := by
  rw [r_gather_231] at hm
  refine fp_78 C h dX12_gather_231 (fun H locs h => ?_)
  refine lv_aload_n C.1 C.2.1 dX12_gather_234 rfl (lv_at hl 0 rfl) ?_
  refine lv_aload_n C.1 C.2.1 dX12_gather_235 rfl (lv_at hl 0 rfl) ?_
  refine fg_60 C h dX12_gather_236 ?_
  refine lv_iload_n C.1 C.2.1 dX12_gather_239 rfl (lv_at hl 3 rfl) ?_
  obtain ⟨g34, hm⟩ := grd_s hm
  refine al_59 C h dX12_gather_240 g34 ?_
  refine x_topi (y := Int32.ofInt (el σ 59 x3)) rfl ?_
  refine lv_aload_n C.1 C.2.1 dX12_gather_241 rfl (lv_at hl 0 rfl) ?_
  refine fg_79 C h dX12_gather_242 ?_
  refine x_topi (y := Int32.ofInt (fl σ 79 0)) rfl ?_
  obtain ⟨g35, hm⟩ := grd_s hm
  obtain ⟨g36, hm⟩ := grd_s hm
  refine z_icmp_le (tgt := 257) C dX12_gather_245 (by decide) g35 g36 (fun c37 => ?_) (fun c37 => ?_)
  · have hm := ite_f c37 hm
    refine lv_aload_n C.1 C.2.1 dX12_gather_257 rfl (lv_at hl 0 rfl) ?_
    refine fg_79 C h dX12_gather_258 ?_
    refine x_topi (y := Int32.ofInt (fl σ 79 0)) rfl ?_
    exact lm_gather_261 (N := N) C hr hlk hrec42 (lv_sub hl [0, 1, 2] rfl) h hm
  · have hm := ite_t c37 hm
    refine lv_aload_n C.1 C.2.1 dX12_gather_248 rfl (lv_at hl 0 rfl) ?_
    refine fg_60 C h dX12_gather_249 ?_
    refine lv_iload_n C.1 C.2.1 dX12_gather_252 rfl (lv_at hl 3 rfl) ?_
    refine al_59 C h dX12_gather_253 g34 ?_
    refine x_topi (y := Int32.ofInt (el σ 59 x3)) rfl ?_
    refine lv_goto (tgt := 261) C.1 C.2.1 dX12_gather_254 (by decide) ?_
    exact lm_gather_261 (N := N) C hr hlk hrec42 (lv_sub hl [0, 1, 2] rfl) h hm
set_option maxHeartbeats 4000000 in
set_option maxRecDepth 100000 in
theorem lm_gather_178 {r : St} (C : Cx p s m args c cX12_gather RX12 (cd :: rW) D (TYs k) 5) (hr : meth.sig.returnType = none) (hlk : meth.locks = false) {rec42 : St → Int → Int → Option St} (hrec42 : ∀ {ls : Array Slot} {H : Heap} {locs : List Loc} {σ : St} {x1 : Int} {x2 : Int}, lv_has ls 5 [(0, .ref (g 0)), (1, .int (Int32.ofInt x1)), (2, .int (Int32.ofInt x2))] → Hp D A s.heap H locs (mW k g σ) → rec42 σ x1 x2 = some r → W p l e { frames := 2, cells := 0, slots := 0, locals := 52 } s m args below meth c H locs 0 0 (MQ below (va_Qv (fun (_ : Unit) => True) (fun _ t => PostW D (TYs k) A (mW k g r) t) A) args s 0 0 A) (F0 m 42 ls [])) {ls : Array Slot} {H : Heap} {locs : List Loc} {σ : St} {x1 : Int} {x2 : Int} {x3 : Int} {x4 : Int} {s0 : Int} (hl : lv_has ls 5 [(0, .ref (g 0)), (1, .int (Int32.ofInt x1)), (2, .int (Int32.ofInt x2)), (3, .int (Int32.ofInt x3)), (4, .int (Int32.ofInt x4))]) (h : Hp D A s.heap H locs (mW k g σ)) (hm : r_gather_178 N rec42 σ x1 x2 x3 x4 s0 = some r) : W p l e { frames := 2, cells := 0, slots := 0, locals := 52 } s m args below meth c H locs 0 0 (MQ below (va_Qv (fun (_ : Unit) => True) (fun _ t => PostW D (TYs k) A (mW k g r) t) A) args s 0 0 A) (F0 m 178 ls [.long (Int64.ofInt s0), .ref (g 0)]) := by
  rw [r_gather_178] at hm
  refine fp_76 C h dX12_gather_178 (fun H locs h => ?_)
  refine lv_aload_n C.1 C.2.1 dX12_gather_181 rfl (lv_at hl 0 rfl) ?_
  refine lv_dup C.1 C.2.1 dX12_gather_182 rfl ?_
  refine fg_77 C h dX12_gather_183 ?_
  refine x_topl (y := Int64.ofInt (fl σ 77 0)) rfl ?_
  refine lv_iload C.1 C.2.1 dX12_gather_186 (lv_at hl 4 rfl) ?_
  obtain ⟨g28, hm⟩ := grd_s hm
  refine z_i2l C dX12_gather_188 g28 ?_
  refine lv_aload_n C.1 C.2.1 dX12_gather_189 rfl (lv_at hl 0 rfl) ?_
  refine fg_59 C h dX12_gather_190 ?_
  refine lv_iload_n C.1 C.2.1 dX12_gather_193 rfl (lv_at hl 3 rfl) ?_
  obtain ⟨g29, hm⟩ := grd_s hm
  refine al_60 C h dX12_gather_194 g29 ?_
  refine x_topi (y := Int32.ofInt (el σ 60 x3)) rfl ?_
  obtain ⟨g30, hm⟩ := grd_s hm
  refine z_i2l C dX12_gather_195 g30 ?_
  refine z_lmul C dX12_gather_196 ?_
  refine z_ladd C dX12_gather_197 ?_
  refine fp_77 C h dX12_gather_198 (fun H locs h => ?_)
  refine lv_aload_n C.1 C.2.1 dX12_gather_201 rfl (lv_at hl 0 rfl) ?_
  refine lv_aload_n C.1 C.2.1 dX12_gather_202 rfl (lv_at hl 0 rfl) ?_
  refine fg_59 C h dX12_gather_203 ?_
  refine lv_iload_n C.1 C.2.1 dX12_gather_206 rfl (lv_at hl 3 rfl) ?_
  refine al_60 C h dX12_gather_207 g29 ?_
  refine x_topi (y := Int32.ofInt (el σ 60 x3)) rfl ?_
  refine z_i2l C dX12_gather_208 g30 ?_
  refine lv_aload_n C.1 C.2.1 dX12_gather_209 rfl (lv_at hl 0 rfl) ?_
  refine fg_78 C h dX12_gather_210 ?_
  refine x_topl (y := Int64.ofInt (fl σ 78 0)) rfl ?_
  obtain ⟨g31, hm⟩ := grd_s hm
  obtain ⟨g32, hm⟩ := grd_s hm
  refine W.lcmp C.1 C.2.1 dX12_gather_213 ?_
  refine z_lcmp_le (tgt := 227) C dX12_gather_214 (by decide) g31 g32 (fun c33 => ?_) (fun c33 => ?_)
  · have hm := ite_f c33 hm
    refine lv_aload_n C.1 C.2.1 dX12_gather_227 rfl (lv_at hl 0 rfl) ?_
    refine fg_78 C h dX12_gather_228 ?_
    refine x_topl (y := Int64.ofInt (fl σ 78 0)) rfl ?_
    exact lm_gather_231 (N := N) C hr hlk hrec42 (lv_sub hl [0, 1, 2, 3] rfl) h hm
  · have hm := ite_t c33 hm
    refine lv_aload_n C.1 C.2.1 dX12_gather_217 rfl (lv_at hl 0 rfl) ?_
    refine fg_59 C h dX12_gather_218 ?_
    refine lv_iload_n C.1 C.2.1 dX12_gather_221 rfl (lv_at hl 3 rfl) ?_
    refine al_60 C h dX12_gather_222 g29 ?_
    refine x_topi (y := Int32.ofInt (el σ 60 x3)) rfl ?_
    refine z_i2l C dX12_gather_223 g30 ?_
    refine lv_goto (tgt := 231) C.1 C.2.1 dX12_gather_224 (by decide) ?_
    exact lm_gather_231 (N := N) C hr hlk hrec42 (lv_sub hl [0, 1, 2, 3] rfl) h hm
set_option maxHeartbeats 4000000 in
set_option maxRecDepth 100000 in
theorem lm_gather_145 {r : St} (C : Cx p s m args c cX12_gather RX12 (cd :: rW) D (TYs k) 5) (hr : meth.sig.returnType = none) (hlk : meth.locks = false) {rec42 : St → Int → Int → Option St} (hrec42 : ∀ {ls : Array Slot} {H : Heap} {locs : List Loc} {σ : St} {x1 : Int} {x2 : Int}, lv_has ls 5 [(0, .ref (g 0)), (1, .int (Int32.ofInt x1)), (2, .int (Int32.ofInt x2))] → Hp D A s.heap H locs (mW k g σ) → rec42 σ x1 x2 = some r → W p l e { frames := 2, cells := 0, slots := 0, locals := 52 } s m args below meth c H locs 0 0 (MQ below (va_Qv (fun (_ : Unit) => True) (fun _ t => PostW D (TYs k) A (mW k g r) t) A) args s 0 0 A) (F0 m 42 ls [])) {ls : Array Slot} {H : Heap} {locs : List Loc} {σ : St} {x1 : Int} {x2 : Int} {x3 : Int} {x4 : Int} {s0 : Int} (hl : lv_has ls 5 [(0, .ref (g 0)), (1, .int (Int32.ofInt x1)), (2, .int (Int32.ofInt x2)), (3, .int (Int32.ofInt x3)), (4, .int (Int32.ofInt x4))]) (h : Hp D A s.heap H locs (mW k g σ)) (hm : r_gather_145 N rec42 σ x1 x2 x3 x4 s0 = some r) : W p l e { frames := 2, cells := 0, slots := 0, locals := 52 } s m args below meth c H locs 0 0 (MQ below (va_Qv (fun (_ : Unit) => True) (fun _ t => PostW D (TYs k) A (mW k g r) t) A) args s 0 0 A) (F0 m 145 ls [.long (Int64.ofInt s0), .ref (g 0)]) := by
  rw [r_gather_145] at hm
  refine fp_75 C h dX12_gather_145 (fun H locs h => ?_)
  refine lv_aload_n C.1 C.2.1 dX12_gather_148 rfl (lv_at hl 0 rfl) ?_
  refine lv_aload_n C.1 C.2.1 dX12_gather_149 rfl (lv_at hl 0 rfl) ?_
  refine fg_58 C h dX12_gather_150 ?_
  refine lv_iload_n C.1 C.2.1 dX12_gather_153 rfl (lv_at hl 3 rfl) ?_
  obtain ⟨g23, hm⟩ := grd_s hm
  refine al_61 C h dX12_gather_154 g23 ?_
  refine x_topi (y := Int32.ofInt (el σ 61 x3)) rfl ?_
  obtain ⟨g24, hm⟩ := grd_s hm
  refine z_i2l C dX12_gather_155 g24 ?_
  refine lv_aload_n C.1 C.2.1 dX12_gather_156 rfl (lv_at hl 0 rfl) ?_
  refine fg_76 C h dX12_gather_157 ?_
  refine x_topl (y := Int64.ofInt (fl σ 76 0)) rfl ?_
  obtain ⟨g25, hm⟩ := grd_s hm
  obtain ⟨g26, hm⟩ := grd_s hm
  refine W.lcmp C.1 C.2.1 dX12_gather_160 ?_
  refine z_lcmp_le (tgt := 174) C dX12_gather_161 (by decide) g25 g26 (fun c27 => ?_) (fun c27 => ?_)
  · have hm := ite_f c27 hm
    refine lv_aload_n C.1 C.2.1 dX12_gather_174 rfl (lv_at hl 0 rfl) ?_
    refine fg_76 C h dX12_gather_175 ?_
    refine x_topl (y := Int64.ofInt (fl σ 76 0)) rfl ?_
    exact lm_gather_178 (N := N) C hr hlk hrec42 (lv_sub hl [0, 1, 2, 3, 4] rfl) h hm
  · have hm := ite_t c27 hm
    refine lv_aload_n C.1 C.2.1 dX12_gather_164 rfl (lv_at hl 0 rfl) ?_
    refine fg_58 C h dX12_gather_165 ?_
    refine lv_iload_n C.1 C.2.1 dX12_gather_168 rfl (lv_at hl 3 rfl) ?_
    refine al_61 C h dX12_gather_169 g23 ?_
    refine x_topi (y := Int32.ofInt (el σ 61 x3)) rfl ?_
    refine z_i2l C dX12_gather_170 g24 ?_
    refine lv_goto (tgt := 178) C.1 C.2.1 dX12_gather_171 (by decide) ?_
    exact lm_gather_178 (N := N) C hr hlk hrec42 (lv_sub hl [0, 1, 2, 3, 4] rfl) h hm
set_option maxHeartbeats 4000000 in
set_option maxRecDepth 100000 in
theorem lm_gather_42 {r : St} (C : Cx p s m args c cX12_gather RX12 (cd :: rW) D (TYs k) 5) (hr : meth.sig.returnType = none) (hlk : meth.locks = false)  (n : Nat) : ∀ {ls : Array Slot} {H : Heap} {locs : List Loc} {σ : St} {x1 : Int} {x2 : Int}, lv_has ls 5 [(0, .ref (g 0)), (1, .int (Int32.ofInt x1)), (2, .int (Int32.ofInt x2))] → Hp D A s.heap H locs (mW k g σ) → r_gather_42 N  n σ x1 x2 = some r → W p l e { frames := 2, cells := 0, slots := 0, locals := 52 } s m args below meth c H locs 0 0 (MQ below (va_Qv (fun (_ : Unit) => True) (fun _ t => PostW D (TYs k) A (mW k g r) t) A) args s 0 0 A) (F0 m 42 ls []) := by
  induction n with
  | zero => intro ls H locs σ x1 x2 hl h hm; cases (show none = some r from hm)
  | succ n hrec42 =>
    intro ls H locs σ x1 x2 hl h hm
    rw [r_gather_42] at hm
    refine lv_iload_n C.1 C.2.1 dX12_gather_42 rfl (lv_at hl 2 rfl) ?_
    refine lv_aload_n C.1 C.2.1 dX12_gather_43 rfl (lv_at hl 0 rfl) ?_
    refine fg_54 C h dX12_gather_44 ?_
    refine lv_iload_n C.1 C.2.1 dX12_gather_47 rfl (lv_at hl 1 rfl) ?_
    obtain ⟨g4, hm⟩ := grd_s hm
    refine al_65 C h dX12_gather_48 g4 ?_
    refine lv_aload_n C.1 C.2.1 dX12_gather_49 rfl (lv_at hl 0 rfl) ?_
    refine fg_55 C h dX12_gather_50 ?_
    refine lv_iload_n C.1 C.2.1 dX12_gather_53 rfl (lv_at hl 1 rfl) ?_
    refine al_64 C h dX12_gather_54 g4 ?_
    refine z_iadd C dX12_gather_55 ?_
    obtain ⟨g5, hm⟩ := grd_s hm
    obtain ⟨g6, hm⟩ := grd_s hm
    refine z_icmp_ge (tgt := 270) C dX12_gather_56 (by decide) g5 g6 (fun c7 => ?_) (fun c7 => ?_)
    · have hm := ite_f c7 hm
      cases hm
      exact q_vret C h hr hlk dX12_gather_270
    · have hm := ite_t c7 hm
      refine lv_aload_n C.1 C.2.1 dX12_gather_59 rfl (lv_at hl 0 rfl) ?_
      refine fg_62 C h dX12_gather_60 ?_
      refine lv_iload_n C.1 C.2.1 dX12_gather_63 rfl (lv_at hl 2 rfl) ?_
      obtain ⟨g8, hm⟩ := grd_s hm
      refine al_58 C h dX12_gather_64 g8 ?_
      obtain ⟨v9, e10, hm⟩ := bnd_s hm
      rw [e10]
      refine lv_istore_n (lv' := [(3, .int (Int32.ofInt v9)), (0, .ref (g 0)), (1, .int (Int32.ofInt x1)), (2, .int (Int32.ofInt x2))]) C.1 C.2.1 dX12_gather_65 rfl hl (by decide) rfl (fun ls hl => ?_)
      refine lv_aload_n C.1 C.2.1 dX12_gather_66 rfl (lv_at hl 1 rfl) ?_
      refine fg_63 C h dX12_gather_67 ?_
      refine lv_iload_n C.1 C.2.1 dX12_gather_70 rfl (lv_at hl 3 rfl) ?_
      refine al_57 C h dX12_gather_71 g8 ?_
      refine lv_bipush (v := Int32.ofInt 32) C.1 C.2.1 dX12_gather_72 (by decide) ?_
      obtain ⟨g11, hm⟩ := grd_s hm
      refine z_idiv C dX12_gather_74 g11 (by decide) (by decide) ?_
      obtain ⟨v12, e13, hm⟩ := bnd_s hm
      rw [e13]
      refine lv_istore (lv' := [(4, .int (Int32.ofInt v12)), (3, .int (Int32.ofInt v9)), (0, .ref (g 0)), (1, .int (Int32.ofInt x1)), (2, .int (Int32.ofInt x2))]) C.1 C.2.1 dX12_gather_75 hl (by decide) rfl (fun ls hl => ?_)
      refine lv_aload_n C.1 C.2.1 dX12_gather_77 rfl (lv_at hl 2 rfl) ?_
      refine lv_aload_n C.1 C.2.1 dX12_gather_78 rfl (lv_at hl 2 rfl) ?_
      refine fg_73 C h dX12_gather_79 ?_
      refine lv_aload_n C.1 C.2.1 dX12_gather_82 rfl (lv_at hl 2 rfl) ?_
      refine fg_56 C h dX12_gather_83 ?_
      refine lv_iload_n C.1 C.2.1 dX12_gather_86 rfl (lv_at hl 1 rfl) ?_
      obtain ⟨g14, hm⟩ := grd_s hm
      refine al_63 C h dX12_gather_87 g14 ?_
      obtain ⟨g15, hm⟩ := grd_s hm
      refine z_i2l C dX12_gather_88 g15 ?_
      obtain ⟨r16, e17, hm⟩ := obd_s hm
      refine q_callSl C h (rc_least l D k N (fl σ 73 0) (el σ 63 v9) r16 e17) (cwS 2 C.2.2.1 (gR_least _) rfl rfl rfl hd_least ⟨Nat.le_of_ble_eq_true rfl, Nat.le_of_ble_eq_true rfl⟩) rfl hl.1 rfl (Nat.le_of_ble_eq_true rfl) dX12_gather_89 ⟨Nat.le_of_ble_eq_true rfl, Nat.le_of_ble_eq_true rfl⟩ (fun H locs h => ?_)
      refine fp_73 C h dX12_gather_92 (fun H locs h => ?_)
      refine lv_aload_n C.1 C.2.1 dX12_gather_95 rfl (lv_at hl 2 rfl) ?_
      refine lv_dup C.1 C.2.1 dX12_gather_96 rfl ?_
      refine fg_74 C h dX12_gather_97 ?_
      refine x_topl (y := Int64.ofInt (fl σ 74 0)) rfl ?_
      refine lv_iload C.1 C.2.1 dX12_gather_100 (lv_at hl 0 rfl) ?_
      obtain ⟨g18, hm⟩ := grd_s hm
      refine z_i2l C dX12_gather_102 g18 ?_
      refine lv_aload_n C.1 C.2.1 dX12_gather_103 rfl (lv_at hl 2 rfl) ?_
      refine fg_57 C h dX12_gather_104 ?_
      refine lv_iload_n C.1 C.2.1 dX12_gather_107 rfl (lv_at hl 1 rfl) ?_
      refine al_62 C h dX12_gather_108 g14 ?_
      refine x_topi (y := Int32.ofInt (el σ 62 v9)) rfl ?_
      obtain ⟨g19, hm⟩ := grd_s hm
      refine z_i2l C dX12_gather_109 g19 ?_
      refine z_lmul C dX12_gather_110 ?_
      refine z_ladd C dX12_gather_111 ?_
      refine fp_74 C h dX12_gather_112 (fun H locs h => ?_)
      refine lv_aload_n C.1 C.2.1 dX12_gather_115 rfl (lv_at hl 2 rfl) ?_
      refine lv_aload_n C.1 C.2.1 dX12_gather_116 rfl (lv_at hl 2 rfl) ?_
      refine fg_57 C h dX12_gather_117 ?_
      refine lv_iload_n C.1 C.2.1 dX12_gather_120 rfl (lv_at hl 1 rfl) ?_
      refine al_62 C h dX12_gather_121 g14 ?_
      refine x_topi (y := Int32.ofInt (el σ 62 v9)) rfl ?_
      refine z_i2l C dX12_gather_122 g19 ?_
      refine lv_aload_n C.1 C.2.1 dX12_gather_123 rfl (lv_at hl 2 rfl) ?_
      refine fg_75 C h dX12_gather_124 ?_
      refine x_topl (y := Int64.ofInt (fl σ 75 0)) rfl ?_
      obtain ⟨g20, hm⟩ := grd_s hm
      obtain ⟨g21, hm⟩ := grd_s hm
      refine W.lcmp C.1 C.2.1 dX12_gather_127 ?_
      refine z_lcmp_le (tgt := 141) C dX12_gather_128 (by decide) g20 g21 (fun c22 => ?_) (fun c22 => ?_)
      · have hm := ite_f c22 hm
        refine lv_aload_n C.1 C.2.1 dX12_gather_141 rfl (lv_at hl 2 rfl) ?_
        refine fg_75 C h dX12_gather_142 ?_
        refine x_topl (y := Int64.ofInt (fl σ 75 0)) rfl ?_
        exact lm_gather_145 (N := N) C hr hlk hrec42 (lv_sub hl [2, 3, 4, 1, 0] rfl) h hm
      · have hm := ite_t c22 hm
        refine lv_aload_n C.1 C.2.1 dX12_gather_131 rfl (lv_at hl 2 rfl) ?_
        refine fg_57 C h dX12_gather_132 ?_
        refine lv_iload_n C.1 C.2.1 dX12_gather_135 rfl (lv_at hl 1 rfl) ?_
        refine al_62 C h dX12_gather_136 g14 ?_
        refine x_topi (y := Int32.ofInt (el σ 62 v9)) rfl ?_
        refine z_i2l C dX12_gather_137 g19 ?_
        refine lv_goto (tgt := 145) C.1 C.2.1 dX12_gather_138 (by decide) ?_
        exact lm_gather_145 (N := N) C hr hlk hrec42 (lv_sub hl [2, 3, 4, 1, 0] rfl) h hm
set_option maxHeartbeats 4000000 in
set_option maxRecDepth 100000 in
theorem rc_gather (l : Launch) (D : va_G) (k : Nat → ClassId) (g : Nat → Nat) (N : Nat) (σ : St) (x1 : Int) (r : St) (hm : r_gather N σ x1 = some r) : Mv l yX12_gather (.code yX12_gather cX12_gather 5 none :: rW) { frames := 2, cells := 0, slots := 0, locals := 52 } [.ref (g 0), .int (Int32.ofInt x1)] D (TYs k) (mW k g σ) (fun _ => True) Unit (fun _ => True) (fun _ => mW k g r) 0 0 := by
  intro sz
  refine x_met (cc := cX12_gather) (maxL := 5) (ret := none) (by decide) rfl (Nat.le_of_ble_eq_true rfl) ?_
  intro p e s m below meth c ls C hX hsz hr hlk hmn hl h
  have hl : lv_has ls 5 [(0, .ref (g 0)), (1, .int (Int32.ofInt x1))] := hl
  rw [r_gather] at hm
  refine lv_aload_n C.1 C.2.1 dX12_gather_0 rfl (lv_at hl 0 rfl) ?_
  refine lv_lconst (v := Int64.ofInt 1) C.1 C.2.1 dX12_gather_1 (by decide) ?_
  refine fp_73 C h dX12_gather_2 (fun H locs h => ?_)
  refine lv_aload_n C.1 C.2.1 dX12_gather_5 rfl (lv_at hl 0 rfl) ?_
  refine lv_lconst (v := Int64.ofInt 0) C.1 C.2.1 dX12_gather_6 (by decide) ?_
  refine fp_74 C h dX12_gather_7 (fun H locs h => ?_)
  refine lv_aload_n C.1 C.2.1 dX12_gather_10 rfl (lv_at hl 0 rfl) ?_
  refine lv_lconst (v := Int64.ofInt 0) C.1 C.2.1 dX12_gather_11 (by decide) ?_
  refine fp_75 C h dX12_gather_12 (fun H locs h => ?_)
  refine lv_aload_n C.1 C.2.1 dX12_gather_15 rfl (lv_at hl 0 rfl) ?_
  refine lv_lconst (v := Int64.ofInt 0) C.1 C.2.1 dX12_gather_16 (by decide) ?_
  refine fp_76 C h dX12_gather_17 (fun H locs h => ?_)
  refine lv_aload_n C.1 C.2.1 dX12_gather_20 rfl (lv_at hl 0 rfl) ?_
  refine lv_lconst (v := Int64.ofInt 0) C.1 C.2.1 dX12_gather_21 (by decide) ?_
  refine fp_77 C h dX12_gather_22 (fun H locs h => ?_)
  refine lv_aload_n C.1 C.2.1 dX12_gather_25 rfl (lv_at hl 0 rfl) ?_
  refine lv_lconst (v := Int64.ofInt 0) C.1 C.2.1 dX12_gather_26 (by decide) ?_
  refine fp_78 C h dX12_gather_27 (fun H locs h => ?_)
  refine lv_aload_n C.1 C.2.1 dX12_gather_30 rfl (lv_at hl 0 rfl) ?_
  refine lv_iconst (v := Int32.ofInt 0) C.1 C.2.1 dX12_gather_31 (by decide) ?_
  refine fp_79 C h dX12_gather_32 (fun H locs h => ?_)
  refine lv_aload_n C.1 C.2.1 dX12_gather_35 rfl (lv_at hl 0 rfl) ?_
  refine fg_54 C h dX12_gather_36 ?_
  refine lv_iload_n C.1 C.2.1 dX12_gather_39 rfl (lv_at hl 1 rfl) ?_
  obtain ⟨g1, hm⟩ := grd_s hm
  refine al_65 C h dX12_gather_40 g1 ?_
  refine x_topi (y := Int32.ofInt (el σ 65 x1)) rfl ?_
  obtain ⟨v2, e3, hm⟩ := bnd_s hm
  rw [e3]
  refine lv_istore_n (lv' := [(2, .int (Int32.ofInt v2)), (0, .ref (g 0)), (1, .int (Int32.ofInt x1))]) C.1 C.2.1 dX12_gather_41 rfl hl (by decide) rfl (fun ls hl => ?_)
  exact lm_gather_42 (N := N) C hr hlk  N (lv_sub hl [1, 2, 0] rfl) h hm
end L_gather
