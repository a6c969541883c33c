section L_node
variable {p : Program} {l : Launch} {e : Env} {s : State} {m : MethodId} {args : Array Value} {below : List Frame} {meth : Method} {c : Code} {D : va_G} {A : Nat → Prop} {k : Nat → ClassId} {g : Nat → Nat} {N : Nat} {cd : Cond}
set_option maxHeartbeats 4000000 in
set_option maxRecDepth 100000 in
theorem rc_node (l : Launch) (D : va_G) (k : Nat → ClassId) (g : Nat → Nat) (N : Nat) (σ : St) (x1 : Int) (x2 : Int) (r : St × Int) (hm : r_node N σ x1 x2 = some r) : Mi l yX12_node (.code yX12_node cX12_node 4 (some .int) :: rW) { frames := 0, cells := 0, slots := 0, locals := 0 } [.ref (g 0), .int (Int32.ofInt x1), .int (Int32.ofInt x2)] D (TYs k) (mW k g σ) (fun _ => True) Unit (fun v _ => v = Int32.ofInt r.2) (fun _ => mW k g r.1) 0 0 := by
  intro sz
  refine x_met (cc := cX12_node) (maxL := 4) (ret := (some .int)) (by decide) rfl (Nat.le_of_ble_eq_true rfl) ?_
  intro p e s m below meth c ls C hX hsz hr hlk hmn hl h
  have hl : lv_has ls 4 [(0, .ref (g 0)), (1, .int (Int32.ofInt x1)), (2, .int (Int32.ofInt x2))] := hl
  rw [r_node] at hm
  refine lv_aload_n C.1 C.2.1 dX12_node_0 rfl (lv_at hl 0 rfl) ?_
  refine fg_16 C h dX12_node_1 ?_
  refine lv_istore_n (lv' := [(3, .int (Int32.ofInt (fl σ 16 0))), (0, .ref (g 0)), (1, .int (Int32.ofInt x1)), (2, .int (Int32.ofInt x2))]) C.1 C.2.1 dX12_node_4 rfl hl (by decide) rfl (fun ls hl => ?_)
  refine lv_aload_n C.1 C.2.1 dX12_node_5 rfl (lv_at hl 1 rfl) ?_
  refine lv_dup C.1 C.2.1 dX12_node_6 rfl ?_
  refine fg_16 C h dX12_node_7 ?_
  refine lv_iconst (v := Int32.ofInt 1) C.1 C.2.1 dX12_node_10 (by decide) ?_
  refine z_iadd C dX12_node_11 ?_
  refine fp_16 C h dX12_node_12 (fun H locs h => ?_)
  refine lv_aload_n C.1 C.2.1 dX12_node_15 rfl (lv_at hl 1 rfl) ?_
  refine fg_17 C h dX12_node_16 ?_
  refine lv_iload_n C.1 C.2.1 dX12_node_19 rfl (lv_at hl 0 rfl) ?_
  refine lv_iload_n C.1 C.2.1 dX12_node_20 rfl (lv_at hl 2 rfl) ?_
  obtain ⟨g1, hm⟩ := grd_s hm
  refine as_94 C h dX12_node_21 g1 (fun H locs h => ?_)
  refine lv_aload_n C.1 C.2.1 dX12_node_22 rfl (lv_at hl 1 rfl) ?_
  refine fg_18 C h dX12_node_23 ?_
  refine lv_iload_n C.1 C.2.1 dX12_node_26 rfl (lv_at hl 0 rfl) ?_
  refine lv_iload_n C.1 C.2.1 dX12_node_27 rfl (lv_at hl 3 rfl) ?_
  refine as_93 C h dX12_node_28 g1 (fun H locs h => ?_)
  refine lv_aload_n C.1 C.2.1 dX12_node_29 rfl (lv_at hl 1 rfl) ?_
  refine fg_19 C h dX12_node_30 ?_
  refine lv_iload_n C.1 C.2.1 dX12_node_33 rfl (lv_at hl 0 rfl) ?_
  refine lv_iconst (v := Int32.ofInt 0) C.1 C.2.1 dX12_node_34 (by decide) ?_
  refine as_92 C h dX12_node_35 g1 (fun H locs h => ?_)
  refine lv_aload_n C.1 C.2.1 dX12_node_36 rfl (lv_at hl 1 rfl) ?_
  refine fg_20 C h dX12_node_37 ?_
  refine lv_iload_n C.1 C.2.1 dX12_node_40 rfl (lv_at hl 0 rfl) ?_
  refine lv_iconst (v := Int32.ofInt 0) C.1 C.2.1 dX12_node_41 (by decide) ?_
  refine as_91 C h dX12_node_42 g1 (fun H locs h => ?_)
  refine lv_aload_n C.1 C.2.1 dX12_node_43 rfl (lv_at hl 1 rfl) ?_
  refine fg_21 C h dX12_node_44 ?_
  refine lv_iload_n C.1 C.2.1 dX12_node_47 rfl (lv_at hl 0 rfl) ?_
  refine lv_iconst (v := Int32.ofInt 0) C.1 C.2.1 dX12_node_48 (by decide) ?_
  refine as_90 C h dX12_node_49 g1 (fun H locs h => ?_)
  refine lv_aload_n C.1 C.2.1 dX12_node_50 rfl (lv_at hl 1 rfl) ?_
  refine fg_22 C h dX12_node_51 ?_
  refine lv_iload_n C.1 C.2.1 dX12_node_54 rfl (lv_at hl 0 rfl) ?_
  refine lv_iconst (v := Int32.ofInt 0) C.1 C.2.1 dX12_node_55 (by decide) ?_
  refine as_89 C h dX12_node_56 g1 (fun H locs h => ?_)
  refine lv_aload_n C.1 C.2.1 dX12_node_57 rfl (lv_at hl 1 rfl) ?_
  refine fg_23 C h dX12_node_58 ?_
  refine lv_iload_n C.1 C.2.1 dX12_node_61 rfl (lv_at hl 0 rfl) ?_
  refine lv_iconst (v := Int32.ofInt 0) C.1 C.2.1 dX12_node_62 (by decide) ?_
  refine as_88 C h dX12_node_63 g1 (fun H locs h => ?_)
  refine lv_aload_n C.1 C.2.1 dX12_node_64 rfl (lv_at hl 1 rfl) ?_
  refine fg_24 C h dX12_node_65 ?_
  refine lv_iload_n C.1 C.2.1 dX12_node_68 rfl (lv_at hl 0 rfl) ?_
  refine lv_iconst (v := Int32.ofInt (-1)) C.1 C.2.1 dX12_node_69 (by decide) ?_
  refine as_87 C h dX12_node_70 g1 (fun H locs h => ?_)
  refine lv_aload_n C.1 C.2.1 dX12_node_71 rfl (lv_at hl 1 rfl) ?_
  refine fg_25 C h dX12_node_72 ?_
  refine lv_iload_n C.1 C.2.1 dX12_node_75 rfl (lv_at hl 0 rfl) ?_
  refine lv_iconst (v := Int32.ofInt (-1)) C.1 C.2.1 dX12_node_76 (by decide) ?_
  refine as_86 C h dX12_node_77 g1 (fun H locs h => ?_)
  refine lv_aload_n C.1 C.2.1 dX12_node_78 rfl (lv_at hl 1 rfl) ?_
  refine fg_26 C h dX12_node_79 ?_
  refine lv_iload_n C.1 C.2.1 dX12_node_82 rfl (lv_at hl 0 rfl) ?_
  refine lv_iconst (v := Int32.ofInt (-1)) C.1 C.2.1 dX12_node_83 (by decide) ?_
  refine as_85 C h dX12_node_84 g1 (fun H locs h => ?_)
  refine lv_aload_n C.1 C.2.1 dX12_node_85 rfl (lv_at hl 1 rfl) ?_
  refine fg_27 C h dX12_node_86 ?_
  refine lv_iload_n C.1 C.2.1 dX12_node_89 rfl (lv_at hl 0 rfl) ?_
  refine lv_iconst (v := Int32.ofInt (-1)) C.1 C.2.1 dX12_node_90 (by decide) ?_
  refine as_84 C h dX12_node_91 g1 (fun H locs h => ?_)
  refine lv_iload_n C.1 C.2.1 dX12_node_92 rfl (lv_at hl 0 rfl) ?_
  cases hm
  exact q_iret C h hr hlk dX12_node_93 rfl
end L_node
section L_append
variable {p : Program} {l : Launch} {e : Env} {s : State} {m : MethodId} {args : Array Value} {below : List Frame} {meth : Method} {c : Code} {D : va_G} {A : Nat → Prop} {k : Nat → ClassId} {g : Nat → Nat} {N : Nat} {cd : Cond}
set_option maxHeartbeats 4000000 in
set_option maxRecDepth 100000 in
theorem lm_append_32 {r : St} (C : Cx p s m args c cX12_append RX12 (cd :: rW) D (TYs k) 3) (hr : meth.sig.returnType = none) (hlk : meth.locks = false)  {ls : Array Slot} {H : Heap} {locs : List Loc} {σ : St} {x1 : Int} {x2 : Int} (hl : lv_has ls 3 [(0, .ref (g 0)), (1, .int (Int32.ofInt x1)), (2, .int (Int32.ofInt x2))]) (h : Hp D A s.heap H locs (mW k g σ)) (hm : r_append_32 N  σ x1 x2 = some r) : W p l e { frames := 0, cells := 0, slots := 0, locals := 0 } s m args below meth c H locs 0 0 (MQ below (va_Qv (fun (_ : Unit) => True) (fun _ t => PostW D (TYs k) A (mW k g r) t) A) args s 0 0 A) (F0 m 32 ls []) := by
  rw [r_append_32] at hm
  refine lv_aload_n C.1 C.2.1 dX12_append_32 rfl (lv_at hl 0 rfl) ?_
  refine fg_25 C h dX12_append_33 ?_
  refine lv_iload_n C.1 C.2.1 dX12_append_36 rfl (lv_at hl 1 rfl) ?_
  refine lv_iload_n C.1 C.2.1 dX12_append_37 rfl (lv_at hl 2 rfl) ?_
  obtain ⟨g5, hm⟩ := grd_s hm
  refine as_86 C h dX12_append_38 g5 (fun H locs h => ?_)
  refine lv_aload_n C.1 C.2.1 dX12_append_39 rfl (lv_at hl 0 rfl) ?_
  refine fg_26 C h dX12_append_40 ?_
  refine lv_iload_n C.1 C.2.1 dX12_append_43 rfl (lv_at hl 2 rfl) ?_
  refine lv_iconst (v := Int32.ofInt (-1)) C.1 C.2.1 dX12_append_44 (by decide) ?_
  obtain ⟨g6, hm⟩ := grd_s hm
  refine as_85 C h dX12_append_45 g6 (fun H locs h => ?_)
  cases hm
  exact q_vret C h hr hlk dX12_append_46
set_option maxHeartbeats 4000000 in
set_option maxRecDepth 100000 in
theorem rc_append (l : Launch) (D : va_G) (k : Nat → ClassId) (g : Nat → Nat) (N : Nat) (σ : St) (x1 : Int) (x2 : Int) (r : St) (hm : r_append N σ x1 x2 = some r) : Mv l yX12_append (.code yX12_append cX12_append 3 none :: rW) { frames := 0, cells := 0, slots := 0, locals := 0 } [.ref (g 0), .int (Int32.ofInt x1), .int (Int32.ofInt x2)] D (TYs k) (mW k g σ) (fun _ => True) Unit (fun _ => True) (fun _ => mW k g r) 0 0 := by
  intro sz
  refine x_met (cc := cX12_append) (maxL := 3) (ret := none) (by decide) rfl (Nat.le_of_ble_eq_true rfl) ?_
  intro p e s m below meth c ls C hX hsz hr hlk hmn hl h
  have hl : lv_has ls 3 [(0, .ref (g 0)), (1, .int (Int32.ofInt x1)), (2, .int (Int32.ofInt x2))] := hl
  rw [r_append] at hm
  refine lv_aload_n C.1 C.2.1 dX12_append_0 rfl (lv_at hl 0 rfl) ?_
  refine fg_24 C h dX12_append_1 ?_
  refine lv_iload_n C.1 C.2.1 dX12_append_4 rfl (lv_at hl 1 rfl) ?_
  obtain ⟨g1, hm⟩ := grd_s hm
  refine al_87 C h dX12_append_5 g1 ?_
  refine lv_iconst (v := Int32.ofInt (-1)) C.1 C.2.1 dX12_append_6 (by decide) ?_
  obtain ⟨g2, hm⟩ := grd_s hm
  refine z_icmp_ne (tgt := 20) C dX12_append_7 (by decide) g2 (by decide) (fun c3 => ?_) (fun c3 => ?_)
  · have hm := ite_f c3 hm
    refine lv_aload_n C.1 C.2.1 dX12_append_20 rfl (lv_at hl 0 rfl) ?_
    refine fg_26 C h dX12_append_21 ?_
    refine lv_aload_n C.1 C.2.1 dX12_append_24 rfl (lv_at hl 0 rfl) ?_
    refine fg_25 C h dX12_append_25 ?_
    refine lv_iload_n C.1 C.2.1 dX12_append_28 rfl (lv_at hl 1 rfl) ?_
    refine al_86 C h dX12_append_29 g1 ?_
    refine lv_iload_n C.1 C.2.1 dX12_append_30 rfl (lv_at hl 2 rfl) ?_
    obtain ⟨g4, hm⟩ := grd_s hm
    refine as_85 C h dX12_append_31 g4 (fun H locs h => ?_)
    exact lm_append_32 (N := N) C hr hlk  (lv_sub hl [0, 1, 2] rfl) h hm
  · have hm := ite_t c3 hm
    refine lv_aload_n C.1 C.2.1 dX12_append_10 rfl (lv_at hl 0 rfl) ?_
    refine fg_24 C h dX12_append_11 ?_
    refine lv_iload_n C.1 C.2.1 dX12_append_14 rfl (lv_at hl 1 rfl) ?_
    refine lv_iload_n C.1 C.2.1 dX12_append_15 rfl (lv_at hl 2 rfl) ?_
    refine as_87 C h dX12_append_16 g1 (fun H locs h => ?_)
    refine lv_goto (tgt := 32) C.1 C.2.1 dX12_append_17 (by decide) ?_
    exact lm_append_32 (N := N) C hr hlk  (lv_sub hl [0, 1, 2] rfl) h hm
end L_append
section L_fail
variable {p : Program} {l : Launch} {e : Env} {s : State} {m : MethodId} {args : Array Value} {below : List Frame} {meth : Method} {c : Code} {D : va_G} {A : Nat → Prop} {k : Nat → ClassId} {g : Nat → Nat} {N : Nat} {cd : Cond}
set_option maxHeartbeats 4000000 in
set_option maxRecDepth 100000 in
theorem rc_fail (l : Launch) (D : va_G) (k : Nat → ClassId) (g : Nat → Nat) (N : Nat) (σ : St) (x1 : Int) (x2 : Int) (r : St) (hm : r_fail N σ x1 x2 = some r) : Mv l yX12_fail (.code yX12_fail cX12_fail 3 none :: rW) { frames := 0, cells := 0, slots := 0, locals := 0 } [.ref (g 0), .int (Int32.ofInt x1), .int (Int32.ofInt x2)] D (TYs k) (mW k g σ) (fun _ => True) Unit (fun _ => True) (fun _ => mW k g r) 0 0 := by
  intro sz
  refine x_met (cc := cX12_fail) (maxL := 3) (ret := none) (by decide) rfl (Nat.le_of_ble_eq_true rfl) ?_
  intro p e s m below meth c ls C hX hsz hr hlk hmn hl h
  have hl : lv_has ls 3 [(0, .ref (g 0)), (1, .int (Int32.ofInt x1)), (2, .int (Int32.ofInt x2))] := hl
  rw [r_fail] at hm
  refine lv_aload_n C.1 C.2.1 dX12_fail_0 rfl (lv_at hl 0 rfl) ?_
  refine fg_11 C h dX12_fail_1 ?_
  obtain ⟨g1, hm⟩ := grd_s hm
  refine z_if_eq (tgt := 8) C dX12_fail_4 (by decide) g1 (fun c2 => ?_) (fun c2 => ?_)
  · have hm := ite_t c2 hm
    refine lv_aload_n C.1 C.2.1 dX12_fail_8 rfl (lv_at hl 0 rfl) ?_
    refine lv_iload_n C.1 C.2.1 dX12_fail_9 rfl (lv_at hl 1 rfl) ?_
    refine fp_11 C h dX12_fail_10 (fun H locs h => ?_)
    refine lv_aload_n C.1 C.2.1 dX12_fail_13 rfl (lv_at hl 0 rfl) ?_
    refine lv_iload_n C.1 C.2.1 dX12_fail_14 rfl (lv_at hl 2 rfl) ?_
    refine fp_12 C h dX12_fail_15 (fun H locs h => ?_)
    cases hm
    exact q_vret C h hr hlk dX12_fail_18
  · have hm := ite_f c2 hm
    cases hm
    exact q_vret C h hr hlk dX12_fail_7
end L_fail
section L_byteAt
variable {p : Program} {l : Launch} {e : Env} {s : State} {m : MethodId} {args : Array Value} {below : List Frame} {meth : Method} {c : Code} {D : va_G} {A : Nat → Prop} {k : Nat → ClassId} {g : Nat → Nat} {N : Nat} {cd : Cond}
set_option maxHeartbeats 4000000 in
set_option maxRecDepth 100000 in
theorem rc_byteAt (l : Launch) (D : va_G) (k : Nat → ClassId) (g : Nat → Nat) (N : Nat) (σ : St) (x1 : Int) (r : St × Int) (hm : r_byteAt N σ x1 = some r) : Mi l yX12_byteAt (.code yX12_byteAt cX12_byteAt 2 (some .int) :: rW) { frames := 0, cells := 0, slots := 0, locals := 0 } [.ref (g 0), .int (Int32.ofInt x1)] D (TYs k) (mW k g σ) (fun _ => True) Unit (fun v _ => v = Int32.ofInt r.2) (fun _ => mW k g r.1) 0 0 := by
  intro sz
  refine x_met (cc := cX12_byteAt) (maxL := 2) (ret := (some .int)) (by decide) rfl (Nat.le_of_ble_eq_true rfl) ?_
  intro p e s m below meth c ls C hX hsz hr hlk hmn hl h
  have hl : lv_has ls 2 [(0, .ref (g 0)), (1, .int (Int32.ofInt x1))] := hl
  rw [r_byteAt] at hm
  refine lv_iload_n C.1 C.2.1 dX12_byteAt_0 rfl (lv_at hl 1 rfl) ?_
  obtain ⟨g1, hm⟩ := grd_s hm
  refine z_if_lt (tgt := 21) C dX12_byteAt_1 (by decide) g1 (fun c2 => ?_) (fun c2 => ?_)
  · have hm := ite_t c2 hm
    refine lv_iconst (v := Int32.ofInt 0) C.1 C.2.1 dX12_byteAt_21 (by decide) ?_
    cases hm
    exact q_iret C h hr hlk dX12_byteAt_22 rfl
  · have hm := ite_f c2 hm
    refine lv_iload_n C.1 C.2.1 dX12_byteAt_4 rfl (lv_at hl 1 rfl) ?_
    refine lv_aload_n C.1 C.2.1 dX12_byteAt_5 rfl (lv_at hl 0 rfl) ?_
    refine fg_1 C h dX12_byteAt_6 ?_
    obtain ⟨g3, hm⟩ := grd_s hm
    refine z_icmp_ge (tgt := 21) C dX12_byteAt_9 (by decide) g1 g3 (fun c4 => ?_) (fun c4 => ?_)
    · have hm := ite_f c4 hm
      refine lv_iconst (v := Int32.ofInt 0) C.1 C.2.1 dX12_byteAt_21 (by decide) ?_
      cases hm
      exact q_iret C h hr hlk dX12_byteAt_22 rfl
    · have hm := ite_t c4 hm
      refine lv_aload_n C.1 C.2.1 dX12_byteAt_12 rfl (lv_at hl 0 rfl) ?_
      refine fg_0 C h dX12_byteAt_13 ?_
      refine lv_iload_n C.1 C.2.1 dX12_byteAt_16 rfl (lv_at hl 1 rfl) ?_
      obtain ⟨g5, hm⟩ := grd_s hm
      refine al_97 C h dX12_byteAt_17 g5 ?_
      refine lv_goto (tgt := 22) C.1 C.2.1 dX12_byteAt_18 (by decide) ?_
      cases hm
      exact q_iret C h hr hlk dX12_byteAt_22 rfl
end L_byteAt
section L_isLow
variable {p : Program} {l : Launch} {e : Env} {s : State} {m : MethodId} {args : Array Value} {below : List Frame} {meth : Method} {c : Code} {D : va_G} {A : Nat → Prop} {k : Nat → ClassId} {g : Nat → Nat} {N : Nat} {cd : Cond}
set_option maxHeartbeats 4000000 in
set_option maxRecDepth 100000 in
theorem rc_isLow (l : Launch) (D : va_G) (k : Nat → ClassId) (N : Nat) (x0 : Int) (r : Int) (hm : r_isLow N x0 = some r) : Mi l yX12_isLow (.code yX12_isLow cX12_isLow 1 (some .boolean) :: rW) { frames := 0, cells := 0, slots := 0, locals := 0 } [.int (Int32.ofInt x0)] D (TYs k) [] (fun _ => True) Unit (fun v _ => v = Int32.ofInt r) (fun _ => []) 0 0 := by
  intro sz
  refine x_met (cc := cX12_isLow) (maxL := 1) (ret := (some .boolean)) (by decide) rfl (Nat.le_of_ble_eq_true rfl) ?_
  intro p e s m below meth c ls C hX hsz hr hlk hmn hl h
  have hl : lv_has ls 1 [(0, .int (Int32.ofInt x0))] := hl
  rw [r_isLow] at hm
  refine lv_iload_n C.1 C.2.1 dX12_isLow_0 rfl (lv_at hl 0 rfl) ?_
  refine lv_bipush (v := Int32.ofInt 97) C.1 C.2.1 dX12_isLow_1 (by decide) ?_
  obtain ⟨g1, hm⟩ := grd_s hm
  refine z_icmp_lt (tgt := 16) C dX12_isLow_3 (by decide) g1 (by decide) (fun c2 => ?_) (fun c2 => ?_)
  · have hm := ite_t c2 hm
    refine lv_iconst (v := Int32.ofInt 0) C.1 C.2.1 dX12_isLow_16 (by decide) ?_
    cases hm
    exact q_iretS C h hr hlk dX12_isLow_17 rfl
  · have hm := ite_f c2 hm
    refine lv_iload_n C.1 C.2.1 dX12_isLow_6 rfl (lv_at hl 0 rfl) ?_
    refine lv_bipush (v := Int32.ofInt 122) C.1 C.2.1 dX12_isLow_7 (by decide) ?_
    refine z_icmp_gt (tgt := 16) C dX12_isLow_9 (by decide) g1 (by decide) (fun c3 => ?_) (fun c3 => ?_)
    · have hm := ite_t c3 hm
      refine lv_iconst (v := Int32.ofInt 0) C.1 C.2.1 dX12_isLow_16 (by decide) ?_
      cases hm
      exact q_iretS C h hr hlk dX12_isLow_17 rfl
    · have hm := ite_f c3 hm
      refine lv_iconst (v := Int32.ofInt 1) C.1 C.2.1 dX12_isLow_12 (by decide) ?_
      refine lv_goto (tgt := 17) C.1 C.2.1 dX12_isLow_13 (by decide) ?_
      cases hm
      exact q_iretS C h hr hlk dX12_isLow_17 rfl
end L_isLow
section L_isDigit
variable {p : Program} {l : Launch} {e : Env} {s : State} {m : MethodId} {args : Array Value} {below : List Frame} {meth : Method} {c : Code} {D : va_G} {A : Nat → Prop} {k : Nat → ClassId} {g : Nat → Nat} {N : Nat} {cd : Cond}
set_option maxHeartbeats 4000000 in
set_option maxRecDepth 100000 in
theorem rc_isDigit (l : Launch) (D : va_G) (k : Nat → ClassId) (N : Nat) (x0 : Int) (r : Int) (hm : r_isDigit N x0 = some r) : Mi l yX12_isDigit (.code yX12_isDigit cX12_isDigit 1 (some .boolean) :: rW) { frames := 0, cells := 0, slots := 0, locals := 0 } [.int (Int32.ofInt x0)] D (TYs k) [] (fun _ => True) Unit (fun v _ => v = Int32.ofInt r) (fun _ => []) 0 0 := by
  intro sz
  refine x_met (cc := cX12_isDigit) (maxL := 1) (ret := (some .boolean)) (by decide) rfl (Nat.le_of_ble_eq_true rfl) ?_
  intro p e s m below meth c ls C hX hsz hr hlk hmn hl h
  have hl : lv_has ls 1 [(0, .int (Int32.ofInt x0))] := hl
  rw [r_isDigit] at hm
  refine lv_iload_n C.1 C.2.1 dX12_isDigit_0 rfl (lv_at hl 0 rfl) ?_
  refine lv_bipush (v := Int32.ofInt 48) C.1 C.2.1 dX12_isDigit_1 (by decide) ?_
  obtain ⟨g1, hm⟩ := grd_s hm
  refine z_icmp_lt (tgt := 16) C dX12_isDigit_3 (by decide) g1 (by decide) (fun c2 => ?_) (fun c2 => ?_)
  · have hm := ite_t c2 hm
    refine lv_iconst (v := Int32.ofInt 0) C.1 C.2.1 dX12_isDigit_16 (by decide) ?_
    cases hm
    exact q_iretS C h hr hlk dX12_isDigit_17 rfl
  · have hm := ite_f c2 hm
    refine lv_iload_n C.1 C.2.1 dX12_isDigit_6 rfl (lv_at hl 0 rfl) ?_
    refine lv_bipush (v := Int32.ofInt 57) C.1 C.2.1 dX12_isDigit_7 (by decide) ?_
    refine z_icmp_gt (tgt := 16) C dX12_isDigit_9 (by decide) g1 (by decide) (fun c3 => ?_) (fun c3 => ?_)
    · have hm := ite_t c3 hm
      refine lv_iconst (v := Int32.ofInt 0) C.1 C.2.1 dX12_isDigit_16 (by decide) ?_
      cases hm
      exact q_iretS C h hr hlk dX12_isDigit_17 rfl
    · have hm := ite_f c3 hm
      refine lv_iconst (v := Int32.ofInt 1) C.1 C.2.1 dX12_isDigit_12 (by decide) ?_
      refine lv_goto (tgt := 17) C.1 C.2.1 dX12_isDigit_13 (by decide) ?_
      cases hm
      exact q_iretS C h hr hlk dX12_isDigit_17 rfl
end L_isDigit
section L_isOp
variable {p : Program} {l : Launch} {e : Env} {s : State} {m : MethodId} {args : Array Value} {below : List Frame} {meth : Method} {c : Code} {D : va_G} {A : Nat → Prop} {k : Nat → ClassId} {g : Nat → Nat} {N : Nat} {cd : Cond}
set_option maxHeartbeats 4000000 in
set_option maxRecDepth 100000 in
theorem lm_isOp_24 {r : Int} (C : Cx p s m args c cX12_isOp RX12 (cd :: rW) D (TYs k) 1) (hr : meth.sig.returnType = (some .boolean)) (hlk : meth.locks = false)  {ls : Array Slot} {H : Heap} {locs : List Loc}  (hl : lv_has ls 1 []) (h : Hp D A s.heap H locs []) (hm : r_isOp_24 N   = some r) : W p l e { frames := 0, cells := 0, slots := 0, locals := 0 } s m args below meth c H locs 0 0 (MQ below (va_Qi (fun v (_ : Unit) => v = Int32.ofInt r) (fun _ t => PostW D (TYs k) A [] t) A) args s 0 0 A) (F0 m 24 ls []) := by
  rw [r_isOp_24] at hm
  refine lv_iconst (v := Int32.ofInt 1) C.1 C.2.1 dX12_isOp_24 (by decide) ?_
  refine lv_goto (tgt := 29) C.1 C.2.1 dX12_isOp_25 (by decide) ?_
  cases hm
  exact q_iretS C h hr hlk dX12_isOp_29 rfl
set_option maxHeartbeats 4000000 in
set_option maxRecDepth 100000 in
theorem rc_isOp (l : Launch) (D : va_G) (k : Nat → ClassId) (N : Nat) (x0 : Int) (r : Int) (hm : r_isOp N x0 = some r) : Mi l yX12_isOp (.code yX12_isOp cX12_isOp 1 (some .boolean) :: rW) { frames := 0, cells := 0, slots := 0, locals := 0 } [.int (Int32.ofInt x0)] D (TYs k) [] (fun _ => True) Unit (fun v _ => v = Int32.ofInt r) (fun _ => []) 0 0 := by
  intro sz
  refine x_met (cc := cX12_isOp) (maxL := 1) (ret := (some .boolean)) (by decide) rfl (Nat.le_of_ble_eq_true rfl) ?_
  intro p e s m below meth c ls C hX hsz hr hlk hmn hl h
  have hl : lv_has ls 1 [(0, .int (Int32.ofInt x0))] := hl
  rw [r_isOp] at hm
  refine lv_iload_n C.1 C.2.1 dX12_isOp_0 rfl (lv_at hl 0 rfl) ?_
  refine lv_bipush (v := Int32.ofInt 35) C.1 C.2.1 dX12_isOp_1 (by decide) ?_
  obtain ⟨g1, hm⟩ := grd_s hm
  refine z_icmp_eq (tgt := 24) C dX12_isOp_3 (by decide) g1 (by decide) (fun c2 => ?_) (fun c2 => ?_)
  · have hm := ite_t c2 hm
    exact lm_isOp_24 (N := N) C hr hlk  (lv_sub hl [] rfl) h hm
  · have hm := ite_f c2 hm
    refine lv_iload_n C.1 C.2.1 dX12_isOp_6 rfl (lv_at hl 0 rfl) ?_
    refine lv_bipush (v := Int32.ofInt 43) C.1 C.2.1 dX12_isOp_7 (by decide) ?_
    refine z_icmp_eq (tgt := 24) C dX12_isOp_9 (by decide) g1 (by decide) (fun c3 => ?_) (fun c3 => ?_)
    · have hm := ite_t c3 hm
      exact lm_isOp_24 (N := N) C hr hlk  (lv_sub hl [] rfl) h hm
    · have hm := ite_f c3 hm
      refine lv_iload_n C.1 C.2.1 dX12_isOp_12 rfl (lv_at hl 0 rfl) ?_
      refine lv_bipush (v := Int32.ofInt 45) C.1 C.2.1 dX12_isOp_13 (by decide) ?_
      refine z_icmp_eq (tgt := 24) C dX12_isOp_15 (by decide) g1 (by decide) (fun c4 => ?_) (fun c4 => ?_)
      · have hm := ite_t c4 hm
        exact lm_isOp_24 (N := N) C hr hlk  (lv_sub hl [] rfl) h hm
      · have hm := ite_f c4 hm
        refine lv_iload_n C.1 C.2.1 dX12_isOp_18 rfl (lv_at hl 0 rfl) ?_
        refine lv_bipush (v := Int32.ofInt 42) C.1 C.2.1 dX12_isOp_19 (by decide) ?_
        refine z_icmp_ne (tgt := 28) C dX12_isOp_21 (by decide) g1 (by decide) (fun c5 => ?_) (fun c5 => ?_)
        · have hm := ite_f c5 hm
          refine lv_iconst (v := Int32.ofInt 0) C.1 C.2.1 dX12_isOp_28 (by decide) ?_
          cases hm
          exact q_iretS C h hr hlk dX12_isOp_29 rfl
        · have hm := ite_t c5 hm
          exact lm_isOp_24 (N := N) C hr hlk  (lv_sub hl [] rfl) h hm
end L_isOp
section L_isSignByte
variable {p : Program} {l : Launch} {e : Env} {s : State} {m : MethodId} {args : Array Value} {below : List Frame} {meth : Method} {c : Code} {D : va_G} {A : Nat → Prop} {k : Nat → ClassId} {g : Nat → Nat} {N : Nat} {cd : Cond}
set_option maxHeartbeats 4000000 in
set_option maxRecDepth 100000 in
theorem lm_isSignByte_43 {r : Int} (C : Cx p s m args c cX12_isSignByte RX12 (cd :: rW) D (TYs k) 1) (hr : meth.sig.returnType = (some .boolean)) (hlk : meth.locks = false)  {ls : Array Slot} {H : Heap} {locs : List Loc}  (hl : lv_has ls 1 []) (h : Hp D A s.heap H locs []) (hm : r_isSignByte_43 N   = some r) : W p l e { frames := 1, cells := 0, slots := 0, locals := 20 } s m args below meth c H locs 0 0 (MQ below (va_Qi (fun v (_ : Unit) => v = Int32.ofInt r) (fun _ t => PostW D (TYs k) A [] t) A) args s 0 0 A) (F0 m 43 ls []) := by
  rw [r_isSignByte_43] at hm
  refine lv_iconst (v := Int32.ofInt 1) C.1 C.2.1 dX12_isSignByte_43 (by decide) ?_
  refine lv_goto (tgt := 48) C.1 C.2.1 dX12_isSignByte_44 (by decide) ?_
  cases hm
  exact q_iretS C h hr hlk dX12_isSignByte_48 rfl
set_option maxHeartbeats 4000000 in
set_option maxRecDepth 100000 in
theorem rc_isSignByte (l : Launch) (D : va_G) (k : Nat → ClassId) (N : Nat) (x0 : Int) (r : Int) (hm : r_isSignByte N x0 = some r) : Mi l yX12_isSignByte (.code yX12_isSignByte cX12_isSignByte 1 (some .boolean) :: rW) { frames := 1, cells := 0, slots := 0, locals := 20 } [.int (Int32.ofInt x0)] D (TYs k) [] (fun _ => True) Unit (fun v _ => v = Int32.ofInt r) (fun _ => []) 0 0 := by
  intro sz
  refine x_met (cc := cX12_isSignByte) (maxL := 1) (ret := (some .boolean)) (by decide) rfl (Nat.le_of_ble_eq_true rfl) ?_
  intro p e s m below meth c ls C hX hsz hr hlk hmn hl h
  have hl : lv_has ls 1 [(0, .int (Int32.ofInt x0))] := hl
  rw [r_isSignByte] at hm
  refine lv_iload_n C.1 C.2.1 dX12_isSignByte_0 rfl (lv_at hl 0 rfl) ?_
  refine lv_bipush (v := Int32.ofInt 40) C.1 C.2.1 dX12_isSignByte_1 (by decide) ?_
  obtain ⟨g1, hm⟩ := grd_s hm
  refine z_icmp_eq (tgt := 43) C dX12_isSignByte_3 (by decide) g1 (by decide) (fun c2 => ?_) (fun c2 => ?_)
  · have hm := ite_t c2 hm
    exact lm_isSignByte_43 (N := N) C hr hlk  (lv_sub hl [] rfl) h hm
  · have hm := ite_f c2 hm
    refine lv_iload_n C.1 C.2.1 dX12_isSignByte_6 rfl (lv_at hl 0 rfl) ?_
    refine lv_bipush (v := Int32.ofInt 41) C.1 C.2.1 dX12_isSignByte_7 (by decide) ?_
    refine z_icmp_eq (tgt := 43) C dX12_isSignByte_9 (by decide) g1 (by decide) (fun c3 => ?_) (fun c3 => ?_)
    · have hm := ite_t c3 hm
      exact lm_isSignByte_43 (N := N) C hr hlk  (lv_sub hl [] rfl) h hm
    · have hm := ite_f c3 hm
      refine lv_iload_n C.1 C.2.1 dX12_isSignByte_12 rfl (lv_at hl 0 rfl) ?_
      refine lv_bipush (v := Int32.ofInt 38) C.1 C.2.1 dX12_isSignByte_13 (by decide) ?_
      refine z_icmp_eq (tgt := 43) C dX12_isSignByte_15 (by decide) g1 (by decide) (fun c4 => ?_) (fun c4 => ?_)
      · have hm := ite_t c4 hm
        exact lm_isSignByte_43 (N := N) C hr hlk  (lv_sub hl [] rfl) h hm
      · have hm := ite_f c4 hm
        refine lv_iload_n C.1 C.2.1 dX12_isSignByte_18 rfl (lv_at hl 0 rfl) ?_
        refine lv_bipush (v := Int32.ofInt 59) C.1 C.2.1 dX12_isSignByte_19 (by decide) ?_
        refine z_icmp_eq (tgt := 43) C dX12_isSignByte_21 (by decide) g1 (by decide) (fun c5 => ?_) (fun c5 => ?_)
        · have hm := ite_t c5 hm
          exact lm_isSignByte_43 (N := N) C hr hlk  (lv_sub hl [] rfl) h hm
        · have hm := ite_f c5 hm
          refine lv_iload_n C.1 C.2.1 dX12_isSignByte_24 rfl (lv_at hl 0 rfl) ?_
          refine lv_bipush (v := Int32.ofInt 46) C.1 C.2.1 dX12_isSignByte_25 (by decide) ?_
          refine z_icmp_eq (tgt := 43) C dX12_isSignByte_27 (by decide) g1 (by decide) (fun c6 => ?_) (fun c6 => ?_)
          · have hm := ite_t c6 hm
            exact lm_isSignByte_43 (N := N) C hr hlk  (lv_sub hl [] rfl) h hm
          · have hm := ite_f c6 hm
            refine lv_iload_n C.1 C.2.1 dX12_isSignByte_30 rfl (lv_at hl 0 rfl) ?_
            refine lv_bipush (v := Int32.ofInt 61) C.1 C.2.1 dX12_isSignByte_31 (by decide) ?_
            refine z_icmp_eq (tgt := 43) C dX12_isSignByte_33 (by decide) g1 (by decide) (fun c7 => ?_) (fun c7 => ?_)
            · have hm := ite_t c7 hm
              exact lm_isSignByte_43 (N := N) C hr hlk  (lv_sub hl [] rfl) h hm
            · have hm := ite_f c7 hm
              refine lv_iload_n C.1 C.2.1 dX12_isSignByte_36 rfl (lv_at hl 0 rfl) ?_
              obtain ⟨r8, e9, hm⟩ := obd_s hm
              refine q_callSi C h (rc_isOp l D k N x0 r8 e9) (cwS 1 C.2.2.1 (gR_isOp _) rfl rfl rfl hd_isOp ⟨Nat.le_of_ble_eq_true rfl, Nat.le_of_ble_eq_true rfl⟩) rfl hl.1 rfl (Nat.le_of_ble_eq_true rfl) dX12_isSignByte_37 ⟨Nat.le_of_ble_eq_true rfl, Nat.le_of_ble_eq_true rfl⟩ (fun H locs h => ?_)
              obtain ⟨g10, hm⟩ := grd_s hm
              refine z_if_eq (tgt := 47) C dX12_isSignByte_40 (by decide) g10 (fun c11 => ?_) (fun c11 => ?_)
              · have hm := ite_t c11 hm
                refine lv_iconst (v := Int32.ofInt 0) C.1 C.2.1 dX12_isSignByte_47 (by decide) ?_
                cases hm
                exact q_iretS C h hr hlk dX12_isSignByte_48 rfl
              · have hm := ite_f c11 hm
                exact lm_isSignByte_43 (N := N) C hr hlk  (lv_sub hl [] rfl) h hm
end L_isSignByte
section L_lookName
variable {p : Program} {l : Launch} {e : Env} {s : State} {m : MethodId} {args : Array Value} {below : List Frame} {meth : Method} {c : Code} {D : va_G} {A : Nat → Prop} {k : Nat → ClassId} {g : Nat → Nat} {N : Nat} {cd : Cond}
set_option maxHeartbeats 4000000 in
set_option maxRecDepth 100000 in
theorem lm_lookName_113 {r : St} (C : Cx p s m args c cX12_lookName RX12 (cd :: rW) D (TYs k) 6) (hr : meth.sig.returnType = none) (hlk : meth.locks = false) {rec17 : St → Int → Int → Option St} (hrec17 : ∀ {ls : Array Slot} {H : Heap} {locs : List Loc} {σ : St} {x1 : Int} {x2 : Int}, lv_has ls 6 [(0, .ref (g 0)), (1, .int (Int32.ofInt x1)), (2, .int (Int32.ofInt x2))] → Hp D A s.heap H locs (mW k g σ) → rec17 σ x1 x2 = some r → W p l e { frames := 1, cells := 0, slots := 0, locals := 21 } s m args below meth c H locs 0 0 (MQ below (va_Qv (fun (_ : Unit) => True) (fun _ t => PostW D (TYs k) A (mW k g r) t) A) args s 0 0 A) (F0 m 17 ls [])) {ls : Array Slot} {H : Heap} {locs : List Loc} {σ : St} {x1 : Int} {x2 : Int} (hl : lv_has ls 6 [(0, .ref (g 0)), (1, .int (Int32.ofInt x1)), (2, .int (Int32.ofInt x2))]) (h : Hp D A s.heap H locs (mW k g σ)) (hm : r_lookName_113 N rec17 σ x1 x2 = some r) : W p l e { frames := 1, cells := 0, slots := 0, locals := 21 } s m args below meth c H locs 0 0 (MQ below (va_Qv (fun (_ : Unit) => True) (fun _ t => PostW D (TYs k) A (mW k g r) t) A) args s 0 0 A) (F0 m 113 ls []) := by
  rw [r_lookName_113] at hm
  refine lv_iinc (v := Int32.ofInt (x2 + 1)) (lv' := [(2, .int (Int32.ofInt (x2 + 1))), (0, .ref (g 0)), (1, .int (Int32.ofInt x1))]) C.1 C.2.1 dX12_lookName_113 hl (k := 2) rfl (c32_add _ _) (by decide) rfl (fun ls hl => ?_)
  refine lv_iinc (v := Int32.ofInt (x1 + 1)) (lv' := [(1, .int (Int32.ofInt (x1 + 1))), (2, .int (Int32.ofInt (x2 + 1))), (0, .ref (g 0))]) C.1 C.2.1 dX12_lookName_116 hl (k := 2) rfl (c32_add _ _) (by decide) rfl (fun ls hl => ?_)
  refine lv_goto (tgt := 17) C.1 C.2.1 dX12_lookName_119 (by decide) ?_
  exact hrec17 (lv_sub hl [2, 0, 1] rfl) h hm
set_option maxHeartbeats 4000000 in
set_option maxRecDepth 100000 in
theorem lm_lookName_70 {r : St} (C : Cx p s m args c cX12_lookName RX12 (cd :: rW) D (TYs k) 6) (hr : meth.sig.returnType = none) (hlk : meth.locks = false) {rec17 : St → Int → Int → Option St} (hrec17 : ∀ {ls : Array Slot} {H : Heap} {locs : List Loc} {σ : St} {x1 : Int} {x2 : Int}, lv_has ls 6 [(0, .ref (g 0)), (1, .int (Int32.ofInt x1)), (2, .int (Int32.ofInt x2))] → Hp D A s.heap H locs (mW k g σ) → rec17 σ x1 x2 = some r → W p l e { frames := 1, cells := 0, slots := 0, locals := 21 } s m args below meth c H locs 0 0 (MQ below (va_Qv (fun (_ : Unit) => True) (fun _ t => PostW D (TYs k) A (mW k g r) t) A) args s 0 0 A) (F0 m 17 ls [])) {ls : Array Slot} {H : Heap} {locs : List Loc} {σ : St} {x1 : Int} {x2 : Int} {s0 : Int} (hl : lv_has ls 6 [(0, .ref (g 0)), (1, .int (Int32.ofInt x1)), (2, .int (Int32.ofInt x2))]) (h : Hp D A s.heap H locs (mW k g σ)) (hm : r_lookName_70 N rec17 σ x1 x2 s0 = some r) : W p l e { frames := 1, cells := 0, slots := 0, locals := 21 } s m args below meth c H locs 0 0 (MQ below (va_Qv (fun (_ : Unit) => True) (fun _ t => PostW D (TYs k) A (mW k g r) t) A) args s 0 0 A) (F0 m 70 ls [.long (Int64.ofInt s0)]) := by
  rw [r_lookName_70] at hm
  refine lv_lstore (lv' := [(4, .long (Int64.ofInt s0)), (0, .ref (g 0)), (1, .int (Int32.ofInt x1)), (2, .int (Int32.ofInt x2))]) C.1 C.2.1 dX12_lookName_70 hl (by decide) rfl (fun ls hl => ?_)
  refine lv_iload_n C.1 C.2.1 dX12_lookName_72 rfl (lv_at hl 3 rfl) ?_
  refine lv_bipush (v := Int32.ofInt 6) C.1 C.2.1 dX12_lookName_73 (by decide) ?_
  obtain ⟨g23, hm⟩ := grd_s hm
  refine z_icmp_ge (tgt := 95) C dX12_lookName_75 (by decide) g23 (by decide) (fun c24 => ?_) (fun c24 => ?_)
  · have hm := ite_f c24 hm
    refine lv_aload_n C.1 C.2.1 dX12_lookName_95 rfl (lv_at hl 1 rfl) ?_
    refine lv_aload_n C.1 C.2.1 dX12_lookName_96 rfl (lv_at hl 1 rfl) ?_
    refine fg_8 C h dX12_lookName_97 ?_
    refine lv_ldc2 (v := 1099511627775) C.1 C.2.1 C.2.2.2.1 (C.2.2.1 _ (List.mem_cons_of_mem _ wk_100)) dX12_lookName_100 ?_
    refine x_topl (y := Int64.ofInt 1099511627775) (by decide) ?_
    refine z_land C dX12_lookName_103 ?_
    refine lv_bipush (v := Int32.ofInt 6) C.1 C.2.1 dX12_lookName_104 (by decide) ?_
    refine z_lshl C dX12_lookName_106 ?_
    refine lv_lload C.1 C.2.1 dX12_lookName_107 (lv_at hl 0 rfl) ?_
    refine z_lor C dX12_lookName_109 ?_
    refine fp_8 C h dX12_lookName_110 (fun H locs h => ?_)
    exact lm_lookName_113 (N := N) C hr hlk hrec17 (lv_sub hl [1, 2, 3] rfl) h hm
  · have hm := ite_t c24 hm
    refine lv_aload_n C.1 C.2.1 dX12_lookName_78 rfl (lv_at hl 1 rfl) ?_
    refine lv_aload_n C.1 C.2.1 dX12_lookName_79 rfl (lv_at hl 1 rfl) ?_
    refine fg_7 C h dX12_lookName_80 ?_
    refine lv_bipush (v := Int32.ofInt 6) C.1 C.2.1 dX12_lookName_83 (by decide) ?_
    refine z_lshl C dX12_lookName_85 ?_
    refine lv_lload C.1 C.2.1 dX12_lookName_86 (lv_at hl 0 rfl) ?_
    refine z_lor C dX12_lookName_88 ?_
    refine fp_7 C h dX12_lookName_89 (fun H locs h => ?_)
    refine lv_goto (tgt := 113) C.1 C.2.1 dX12_lookName_92 (by decide) ?_
    exact lm_lookName_113 (N := N) C hr hlk hrec17 (lv_sub hl [1, 2, 3] rfl) h hm
set_option maxHeartbeats 4000000 in
set_option maxRecDepth 100000 in
theorem lm_lookName_39 {r : St} (C : Cx p s m args c cX12_lookName RX12 (cd :: rW) D (TYs k) 6) (hr : meth.sig.returnType = none) (hlk : meth.locks = false) {rec17 : St → Int → Int → Option St} (hrec17 : ∀ {ls : Array Slot} {H : Heap} {locs : List Loc} {σ : St} {x1 : Int} {x2 : Int}, lv_has ls 6 [(0, .ref (g 0)), (1, .int (Int32.ofInt x1)), (2, .int (Int32.ofInt x2))] → Hp D A s.heap H locs (mW k g σ) → rec17 σ x1 x2 = some r → W p l e { frames := 1, cells := 0, slots := 0, locals := 21 } s m args below meth c H locs 0 0 (MQ below (va_Qv (fun (_ : Unit) => True) (fun _ t => PostW D (TYs k) A (mW k g r) t) A) args s 0 0 A) (F0 m 17 ls [])) {ls : Array Slot} {H : Heap} {locs : List Loc} {σ : St} {x1 : Int} {x2 : Int} (hl : lv_has ls 6 [(0, .ref (g 0)), (1, .int (Int32.ofInt x1)), (2, .int (Int32.ofInt x2))]) (h : Hp D A s.heap H locs (mW k g σ)) (hm : r_lookName_39 N rec17 σ x1 x2 = some r) : W p l e { frames := 1, cells := 0, slots := 0, locals := 21 } s m args below meth c H locs 0 0 (MQ below (va_Qv (fun (_ : Unit) => True) (fun _ t => PostW D (TYs k) A (mW k g r) t) A) args s 0 0 A) (F0 m 39 ls []) := by
  rw [r_lookName_39] at hm
  refine lv_aload_n C.1 C.2.1 dX12_lookName_39 rfl (lv_at hl 0 rfl) ?_
  refine lv_iload_n C.1 C.2.1 dX12_lookName_40 rfl (lv_at hl 1 rfl) ?_
  obtain ⟨r15, e16, hm⟩ := obd_s hm
  refine q_callVi C h (rc_byteAt l D k g N σ x1 r15 e16) (cwV 1 C.2.2.1 (gR_byteAt _) rfl rfl rfl hd_byteAt ⟨Nat.le_of_ble_eq_true rfl, Nat.le_of_ble_eq_true rfl⟩) rfl hl.1 rfl (Nat.le_of_ble_eq_true rfl) dX12_lookName_41 ⟨Nat.le_of_ble_eq_true rfl, Nat.le_of_ble_eq_true rfl⟩ (fun H locs h => ?_)
  refine lv_istore_n (lv' := [(3, .int (Int32.ofInt r15.2)), (0, .ref (g 0)), (1, .int (Int32.ofInt x1)), (2, .int (Int32.ofInt x2))]) C.1 C.2.1 dX12_lookName_44 rfl hl (by decide) rfl (fun ls hl => ?_)
  refine lv_iload_n C.1 C.2.1 dX12_lookName_45 rfl (lv_at hl 0 rfl) ?_
  obtain ⟨r17, e18, hm⟩ := obd_s hm
  refine q_callSi C h (rc_isDigit l D k N r15.2 r17 e18) (cwS 1 C.2.2.1 (gR_isDigit _) rfl rfl rfl hd_isDigit ⟨Nat.le_of_ble_eq_true rfl, Nat.le_of_ble_eq_true rfl⟩) rfl hl.1 rfl (Nat.le_of_ble_eq_true rfl) dX12_lookName_46 ⟨Nat.le_of_ble_eq_true rfl, Nat.le_of_ble_eq_true rfl⟩ (fun H locs h => ?_)
  obtain ⟨g19, hm⟩ := grd_s hm
  refine z_if_eq (tgt := 63) C dX12_lookName_49 (by decide) g19 (fun c20 => ?_) (fun c20 => ?_)
  · have hm := ite_t c20 hm
    refine lv_iload_n C.1 C.2.1 dX12_lookName_63 rfl (lv_at hl 0 rfl) ?_
    refine lv_bipush (v := Int32.ofInt 97) C.1 C.2.1 dX12_lookName_64 (by decide) ?_
    refine z_isub C dX12_lookName_66 ?_
    refine lv_iconst (v := Int32.ofInt 1) C.1 C.2.1 dX12_lookName_67 (by decide) ?_
    refine z_iadd C dX12_lookName_68 ?_
    obtain ⟨g21, hm⟩ := grd_s hm
    refine z_i2l C dX12_lookName_69 g21 ?_
    exact lm_lookName_70 (N := N) C hr hlk hrec17 (lv_sub hl [1, 2, 3] rfl) h hm
  · have hm := ite_f c20 hm
    refine lv_iload_n C.1 C.2.1 dX12_lookName_52 rfl (lv_at hl 0 rfl) ?_
    refine lv_bipush (v := Int32.ofInt 48) C.1 C.2.1 dX12_lookName_53 (by decide) ?_
    refine z_isub C dX12_lookName_55 ?_
    refine lv_bipush (v := Int32.ofInt 27) C.1 C.2.1 dX12_lookName_56 (by decide) ?_
    refine z_iadd C dX12_lookName_58 ?_
    obtain ⟨g22, hm⟩ := grd_s hm
    refine z_i2l C dX12_lookName_59 g22 ?_
    refine lv_goto (tgt := 70) C.1 C.2.1 dX12_lookName_60 (by decide) ?_
    exact lm_lookName_70 (N := N) C hr hlk hrec17 (lv_sub hl [1, 2, 3] rfl) h hm
set_option maxHeartbeats 4000000 in
set_option maxRecDepth 100000 in
theorem lm_lookName_140 {r : St} (C : Cx p s m args c cX12_lookName RX12 (cd :: rW) D (TYs k) 6) (hr : meth.sig.returnType = none) (hlk : meth.locks = false)  {ls : Array Slot} {H : Heap} {locs : List Loc} {σ : St} {s0 : Int} (hl : lv_has ls 6 []) (h : Hp D A s.heap H locs (mW k g σ)) (hm : r_lookName_140 N  σ s0 = some r) : W p l e { frames := 1, cells := 0, slots := 0, locals := 21 } s m args below meth c H locs 0 0 (MQ below (va_Qv (fun (_ : Unit) => True) (fun _ t => PostW D (TYs k) A (mW k g r) t) A) args s 0 0 A) (F0 m 140 ls [.int (Int32.ofInt s0), .ref (g 0)]) := by
  rw [r_lookName_140] at hm
  refine fp_3 C h dX12_lookName_140 (fun H locs h => ?_)
  cases hm
  exact q_vret C h hr hlk dX12_lookName_143
set_option maxHeartbeats 4000000 in
set_option maxRecDepth 100000 in
theorem lm_lookName_17 {r : St} (C : Cx p s m args c cX12_lookName RX12 (cd :: rW) D (TYs k) 6) (hr : meth.sig.returnType = none) (hlk : meth.locks = false)  (n : Nat) : ∀ {ls : Array Slot} {H : Heap} {locs : List Loc} {σ : St} {x1 : Int} {x2 : Int}, lv_has ls 6 [(0, .ref (g 0)), (1, .int (Int32.ofInt x1)), (2, .int (Int32.ofInt x2))] → Hp D A s.heap H locs (mW k g σ) → r_lookName_17 N  n σ x1 x2 = some r → W p l e { frames := 1, cells := 0, slots := 0, locals := 21 } s m args below meth c H locs 0 0 (MQ below (va_Qv (fun (_ : Unit) => True) (fun _ t => PostW D (TYs k) A (mW k g r) t) A) args s 0 0 A) (F0 m 17 ls []) := by
  induction n with
  | zero => intro ls H locs σ x1 x2 hl h hm; cases (show none = some r from hm)
  | succ n hrec17 =>
    intro ls H locs σ x1 x2 hl h hm
    rw [r_lookName_17] at hm
    refine lv_aload_n C.1 C.2.1 dX12_lookName_17 rfl (lv_at hl 0 rfl) ?_
    refine lv_iload_n C.1 C.2.1 dX12_lookName_18 rfl (lv_at hl 1 rfl) ?_
    obtain ⟨r1, e2, hm⟩ := obd_s hm
    refine q_callVi C h (rc_byteAt l D k g N σ x1 r1 e2) (cwV 1 C.2.2.1 (gR_byteAt _) rfl rfl rfl hd_byteAt ⟨Nat.le_of_ble_eq_true rfl, Nat.le_of_ble_eq_true rfl⟩) rfl hl.1 rfl (Nat.le_of_ble_eq_true rfl) dX12_lookName_19 ⟨Nat.le_of_ble_eq_true rfl, Nat.le_of_ble_eq_true rfl⟩ (fun H locs h => ?_)
    obtain ⟨r3, e4, hm⟩ := obd_s hm
    refine q_callSi C h (rc_isLow l D k N r1.2 r3 e4) (cwS 1 C.2.2.1 (gR_isLow _) rfl rfl rfl hd_isLow ⟨Nat.le_of_ble_eq_true rfl, Nat.le_of_ble_eq_true rfl⟩) rfl hl.1 rfl (Nat.le_of_ble_eq_true rfl) dX12_lookName_22 ⟨Nat.le_of_ble_eq_true rfl, Nat.le_of_ble_eq_true rfl⟩ (fun H locs h => ?_)
    obtain ⟨g5, hm⟩ := grd_s hm
    refine z_if_ne (tgt := 39) C dX12_lookName_25 (by decide) g5 (fun c6 => ?_) (fun c6 => ?_)
    · have hm := ite_f c6 hm
      exact lm_lookName_39 (N := N) C hr hlk hrec17 (lv_sub hl [0, 1, 2] rfl) h hm
    · have hm := ite_t c6 hm
      refine lv_aload_n C.1 C.2.1 dX12_lookName_28 rfl (lv_at hl 0 rfl) ?_
      refine lv_iload_n C.1 C.2.1 dX12_lookName_29 rfl (lv_at hl 1 rfl) ?_
      obtain ⟨r7, e8, hm⟩ := obd_s hm
      refine q_callVi C h (rc_byteAt l D k g N r1.1 x1 r7 e8) (cwV 1 C.2.2.1 (gR_byteAt _) rfl rfl rfl hd_byteAt ⟨Nat.le_of_ble_eq_true rfl, Nat.le_of_ble_eq_true rfl⟩) rfl hl.1 rfl (Nat.le_of_ble_eq_true rfl) dX12_lookName_30 ⟨Nat.le_of_ble_eq_true rfl, Nat.le_of_ble_eq_true rfl⟩ (fun H locs h => ?_)
      obtain ⟨r9, e10, hm⟩ := obd_s hm
      refine q_callSi C h (rc_isDigit l D k N r7.2 r9 e10) (cwS 1 C.2.2.1 (gR_isDigit _) rfl rfl rfl hd_isDigit ⟨Nat.le_of_ble_eq_true rfl, Nat.le_of_ble_eq_true rfl⟩) rfl hl.1 rfl (Nat.le_of_ble_eq_true rfl) dX12_lookName_33 ⟨Nat.le_of_ble_eq_true rfl, Nat.le_of_ble_eq_true rfl⟩ (fun H locs h => ?_)
      obtain ⟨g11, hm⟩ := grd_s hm
      refine z_if_eq (tgt := 122) C dX12_lookName_36 (by decide) g11 (fun c12 => ?_) (fun c12 => ?_)
      · have hm := ite_t c12 hm
        refine lv_aload_n C.1 C.2.1 dX12_lookName_122 rfl (lv_at hl 0 rfl) ?_
        refine lv_iload_n C.1 C.2.1 dX12_lookName_123 rfl (lv_at hl 1 rfl) ?_
        refine fp_5 C h dX12_lookName_124 (fun H locs h => ?_)
        refine lv_aload_n C.1 C.2.1 dX12_lookName_127 rfl (lv_at hl 0 rfl) ?_
        refine lv_iload_n C.1 C.2.1 dX12_lookName_128 rfl (lv_at hl 2 rfl) ?_
        refine lv_bipush (v := Int32.ofInt 12) C.1 C.2.1 dX12_lookName_129 (by decide) ?_
        obtain ⟨g13, hm⟩ := grd_s hm
        refine z_icmp_le (tgt := 139) C dX12_lookName_131 (by decide) g13 (by decide) (fun c14 => ?_) (fun c14 => ?_)
        · have hm := ite_f c14 hm
          refine lv_iconst (v := Int32.ofInt 2) C.1 C.2.1 dX12_lookName_139 (by decide) ?_
          exact lm_lookName_140 (N := N) C hr hlk  (lv_sub hl [] rfl) h hm
        · have hm := ite_t c14 hm
          refine lv_bipush (v := Int32.ofInt 7) C.1 C.2.1 dX12_lookName_134 (by decide) ?_
          refine lv_goto (tgt := 140) C.1 C.2.1 dX12_lookName_136 (by decide) ?_
          exact lm_lookName_140 (N := N) C hr hlk  (lv_sub hl [] rfl) h hm
      · have hm := ite_f c12 hm
        exact lm_lookName_39 (N := N) C hr hlk hrec17 (lv_sub hl [0, 1, 2] rfl) h hm
set_option maxHeartbeats 4000000 in
set_option maxRecDepth 100000 in
theorem rc_lookName (l : Launch) (D : va_G) (k : Nat → ClassId) (g : Nat → Nat) (N : Nat) (σ : St)  (r : St) (hm : r_lookName N σ  = some r) : Mv l yX12_lookName (.code yX12_lookName cX12_lookName 6 none :: rW) { frames := 1, cells := 0, slots := 0, locals := 21 } [.ref (g 0)] D (TYs k) (mW k g σ) (fun _ => True) Unit (fun _ => True) (fun _ => mW k g r) 0 0 := by
  intro sz
  refine x_met (cc := cX12_lookName) (maxL := 6) (ret := none) (by decide) rfl (Nat.le_of_ble_eq_true rfl) ?_
  intro p e s m below meth c ls C hX hsz hr hlk hmn hl h
  have hl : lv_has ls 6 [(0, .ref (g 0))] := hl
  rw [r_lookName] at hm
  refine lv_aload_n C.1 C.2.1 dX12_lookName_0 rfl (lv_at hl 0 rfl) ?_
  refine fg_4 C h dX12_lookName_1 ?_
  refine lv_istore_n (lv' := [(1, .int (Int32.ofInt (fl σ 4 0))), (0, .ref (g 0))]) C.1 C.2.1 dX12_lookName_4 rfl hl (by decide) rfl (fun ls hl => ?_)
  refine lv_aload_n C.1 C.2.1 dX12_lookName_5 rfl (lv_at hl 1 rfl) ?_
  refine lv_lconst (v := Int64.ofInt 0) C.1 C.2.1 dX12_lookName_6 (by decide) ?_
  refine fp_7 C h dX12_lookName_7 (fun H locs h => ?_)
  refine lv_aload_n C.1 C.2.1 dX12_lookName_10 rfl (lv_at hl 1 rfl) ?_
  refine lv_lconst (v := Int64.ofInt 0) C.1 C.2.1 dX12_lookName_11 (by decide) ?_
  refine fp_8 C h dX12_lookName_12 (fun H locs h => ?_)
  refine lv_iconst (v := Int32.ofInt 0) C.1 C.2.1 dX12_lookName_15 (by decide) ?_
  refine lv_istore_n (lv' := [(2, .int (Int32.ofInt 0)), (1, .int (Int32.ofInt (fl σ 4 0))), (0, .ref (g 0))]) C.1 C.2.1 dX12_lookName_16 rfl hl (by decide) rfl (fun ls hl => ?_)
  exact lm_lookName_17 (N := N) C hr hlk  N (lv_sub hl [2, 1, 0] rfl) h hm
end L_lookName
section L_lookNumber
variable {p : Program} {l : Launch} {e : Env} {s : State} {m : MethodId} {args : Array Value} {below : List Frame} {meth : Method} {c : Code} {D : va_G} {A : Nat → Prop} {k : Nat → ClassId} {g : Nat → Nat} {N : Nat} {cd : Cond}
set_option maxHeartbeats 4000000 in
set_option maxRecDepth 100000 in
theorem lm_lookNumber_42 {r : St} (C : Cx p s m args c cX12_lookNumber RX12 (cd :: rW) D (TYs k) 5) (hr : meth.sig.returnType = none) (hlk : meth.locks = false) {rec9 : St → Int → Int → Int → Option St} (hrec9 : ∀ {ls : Array Slot} {H : Heap} {locs : List Loc} {σ : St} {x1 : Int} {x2 : Int} {x3 : Int}, lv_has ls 5 [(0, .ref (g 0)), (1, .int (Int32.ofInt x1)), (2, .int (Int32.ofInt x2)), (3, .int (Int32.ofInt x3))] → Hp D A s.heap H locs (mW k g σ) → rec9 σ x1 x2 x3 = some r → W p l e { frames := 1, cells := 0, slots := 0, locals := 21 } s m args below meth c H locs 0 0 (MQ below (va_Qv (fun (_ : Unit) => True) (fun _ t => PostW D (TYs k) A (mW k g r) t) A) args s 0 0 A) (F0 m 9 ls [])) {ls : Array Slot} {H : Heap} {locs : List Loc} {σ : St} {x1 : Int} {x3 : Int} {s0 : Int} (hl : lv_has ls 5 [(0, .ref (g 0)), (1, .int (Int32.ofInt x1)), (3, .int (Int32.ofInt x3))]) (h : Hp D A s.heap H locs (mW k g σ)) (hm : r_lookNumber_42 N rec9 σ x1 x3 s0 = some r) : W p l e { frames := 1, cells := 0, slots := 0, locals := 21 } s m args below meth c H locs 0 0 (MQ below (va_Qv (fun (_ : Unit) => True) (fun _ t => PostW D (TYs k) A (mW k g r) t) A) args s 0 0 A) (F0 m 42 ls [.int (Int32.ofInt s0)]) := by
  rw [r_lookNumber_42] at hm
  refine lv_istore_n (lv' := [(2, .int (Int32.ofInt s0)), (0, .ref (g 0)), (1, .int (Int32.ofInt x1)), (3, .int (Int32.ofInt x3))]) C.1 C.2.1 dX12_lookNumber_42 rfl hl (by decide) rfl (fun ls hl => ?_)
  refine lv_iinc (v := Int32.ofInt (x3 + 1)) (lv' := [(3, .int (Int32.ofInt (x3 + 1))), (2, .int (Int32.ofInt s0)), (0, .ref (g 0)), (1, .int (Int32.ofInt x1))]) C.1 C.2.1 dX12_lookNumber_43 hl (k := 3) rfl (c32_add _ _) (by decide) rfl (fun ls hl => ?_)
  refine lv_iinc (v := Int32.ofInt (x1 + 1)) (lv' := [(1, .int (Int32.ofInt (x1 + 1))), (3, .int (Int32.ofInt (x3 + 1))), (2, .int (Int32.ofInt s0)), (0, .ref (g 0))]) C.1 C.2.1 dX12_lookNumber_46 hl (k := 3) rfl (c32_add _ _) (by decide) rfl (fun ls hl => ?_)
  refine lv_goto (tgt := 9) C.1 C.2.1 dX12_lookNumber_49 (by decide) ?_
  exact hrec9 (lv_sub hl [3, 0, 2, 1] rfl) h hm
set_option maxHeartbeats 4000000 in
set_option maxRecDepth 100000 in
theorem lm_lookNumber_137 {r : St} (C : Cx p s m args c cX12_lookNumber RX12 (cd :: rW) D (TYs k) 5) (hr : meth.sig.returnType = none) (hlk : meth.locks = false) {rec103 : St → Int → Int → Int → Int → Option St} (hrec103 : ∀ {ls : Array Slot} {H : Heap} {locs : List Loc} {σ : St} {x1 : Int} {x2 : Int} {x3 : Int} {x4 : Int}, lv_has ls 5 [(0, .ref (g 0)), (1, .int (Int32.ofInt x1)), (2, .int (Int32.ofInt x2)), (3, .int (Int32.ofInt x3)), (4, .int (Int32.ofInt x4))] → Hp D A s.heap H locs (mW k g σ) → rec103 σ x1 x2 x3 x4 = some r → W p l e { frames := 1, cells := 0, slots := 0, locals := 21 } s m args below meth c H locs 0 0 (MQ below (va_Qv (fun (_ : Unit) => True) (fun _ t => PostW D (TYs k) A (mW k g r) t) A) args s 0 0 A) (F0 m 103 ls [])) {ls : Array Slot} {H : Heap} {locs : List Loc} {σ : St} {x1 : Int} {x3 : Int} {x4 : Int} {s0 : Int} (hl : lv_has ls 5 [(0, .ref (g 0)), (1, .int (Int32.ofInt x1)), (3, .int (Int32.ofInt x3)), (4, .int (Int32.ofInt x4))]) (h : Hp D A s.heap H locs (mW k g σ)) (hm : r_lookNumber_137 N rec103 σ x1 x3 x4 s0 = some r) : W p l e { frames := 1, cells := 0, slots := 0, locals := 21 } s m args below meth c H locs 0 0 (MQ below (va_Qv (fun (_ : Unit) => True) (fun _ t => PostW D (TYs k) A (mW k g r) t) A) args s 0 0 A) (F0 m 137 ls [.int (Int32.ofInt s0)]) := by
  rw [r_lookNumber_137] at hm
  refine lv_istore_n (lv' := [(2, .int (Int32.ofInt s0)), (0, .ref (g 0)), (1, .int (Int32.ofInt x1)), (3, .int (Int32.ofInt x3)), (4, .int (Int32.ofInt x4))]) C.1 C.2.1 dX12_lookNumber_137 rfl hl (by decide) rfl (fun ls hl => ?_)
  refine lv_iinc (v := Int32.ofInt (x4 + 1)) (lv' := [(4, .int (Int32.ofInt (x4 + 1))), (2, .int (Int32.ofInt s0)), (0, .ref (g 0)), (1, .int (Int32.ofInt x1)), (3, .int (Int32.ofInt x3))]) C.1 C.2.1 dX12_lookNumber_138 hl (k := 4) rfl (c32_add _ _) (by decide) rfl (fun ls hl => ?_)
  refine lv_iinc (v := Int32.ofInt (x1 + 1)) (lv' := [(1, .int (Int32.ofInt (x1 + 1))), (4, .int (Int32.ofInt (x4 + 1))), (2, .int (Int32.ofInt s0)), (0, .ref (g 0)), (3, .int (Int32.ofInt x3))]) C.1 C.2.1 dX12_lookNumber_141 hl (k := 3) rfl (c32_add _ _) (by decide) rfl (fun ls hl => ?_)
  refine lv_goto (tgt := 103) C.1 C.2.1 dX12_lookNumber_144 (by decide) ?_
  exact hrec103 (lv_sub hl [3, 0, 2, 4, 1] rfl) h hm
set_option maxHeartbeats 4000000 in
set_option maxRecDepth 100000 in
theorem lm_lookNumber_173 {r : St} (C : Cx p s m args c cX12_lookNumber RX12 (cd :: rW) D (TYs k) 5) (hr : meth.sig.returnType = none) (hlk : meth.locks = false)  {ls : Array Slot} {H : Heap} {locs : List Loc} {σ : St} {x1 : Int} (hl : lv_has ls 5 [(0, .ref (g 0)), (1, .int (Int32.ofInt x1))]) (h : Hp D A s.heap H locs (mW k g σ)) (hm : r_lookNumber_173 N  σ x1 = some r) : W p l e { frames := 1, cells := 0, slots := 0, locals := 21 } s m args below meth c H locs 0 0 (MQ below (va_Qv (fun (_ : Unit) => True) (fun _ t => PostW D (TYs k) A (mW k g r) t) A) args s 0 0 A) (F0 m 173 ls []) := by
  rw [r_lookNumber_173] at hm
  refine lv_aload_n C.1 C.2.1 dX12_lookNumber_173 rfl (lv_at hl 0 rfl) ?_
  refine lv_iload_n C.1 C.2.1 dX12_lookNumber_174 rfl (lv_at hl 1 rfl) ?_
  refine fp_5 C h dX12_lookNumber_175 (fun H locs h => ?_)
  cases hm
  exact q_vret C h hr hlk dX12_lookNumber_178
set_option maxHeartbeats 4000000 in
set_option maxRecDepth 100000 in
theorem lm_lookNumber_170 {r : St} (C : Cx p s m args c cX12_lookNumber RX12 (cd :: rW) D (TYs k) 5) (hr : meth.sig.returnType = none) (hlk : meth.locks = false)  {ls : Array Slot} {H : Heap} {locs : List Loc} {σ : St} {x1 : Int} {s0 : Int} (hl : lv_has ls 5 [(0, .ref (g 0)), (1, .int (Int32.ofInt x1))]) (h : Hp D A s.heap H locs (mW k g σ)) (hm : r_lookNumber_170 N  σ x1 s0 = some r) : W p l e { frames := 1, cells := 0, slots := 0, locals := 21 } s m args below meth c H locs 0 0 (MQ below (va_Qv (fun (_ : Unit) => True) (fun _ t => PostW D (TYs k) A (mW k g r) t) A) args s 0 0 A) (F0 m 170 ls [.int (Int32.ofInt s0), .ref (g 0)]) := by
  rw [r_lookNumber_170] at hm
  refine fp_3 C h dX12_lookNumber_170 (fun H locs h => ?_)
  exact lm_lookNumber_173 (N := N) C hr hlk  (lv_sub hl [0, 1] rfl) h hm
set_option maxHeartbeats 4000000 in
set_option maxRecDepth 100000 in
theorem lm_lookNumber_164 {r : St} (C : Cx p s m args c cX12_lookNumber RX12 (cd :: rW) D (TYs k) 5) (hr : meth.sig.returnType = none) (hlk : meth.locks = false)  {ls : Array Slot} {H : Heap} {locs : List Loc} {σ : St} {x1 : Int} (hl : lv_has ls 5 [(0, .ref (g 0)), (1, .int (Int32.ofInt x1))]) (h : Hp D A s.heap H locs (mW k g σ)) (hm : r_lookNumber_164 N  σ x1 = some r) : W p l e { frames := 1, cells := 0, slots := 0, locals := 21 } s m args below meth c H locs 0 0 (MQ below (va_Qv (fun (_ : Unit) => True) (fun _ t => PostW D (TYs k) A (mW k g r) t) A) args s 0 0 A) (F0 m 164 ls [.ref (g 0)]) := by
  rw [r_lookNumber_164] at hm
  refine lv_bipush (v := Int32.ofInt 7) C.1 C.2.1 dX12_lookNumber_164 (by decide) ?_
  refine lv_goto (tgt := 170) C.1 C.2.1 dX12_lookNumber_166 (by decide) ?_
  exact lm_lookNumber_170 (N := N) C hr hlk  (lv_sub hl [0, 1] rfl) h hm
set_option maxHeartbeats 4000000 in
set_option maxRecDepth 100000 in
theorem lm_lookNumber_103 {r : St} (C : Cx p s m args c cX12_lookNumber RX12 (cd :: rW) D (TYs k) 5) (hr : meth.sig.returnType = none) (hlk : meth.locks = false)  (n : Nat) : ∀ {ls : Array Slot} {H : Heap} {locs : List Loc} {σ : St} {x1 : Int} {x2 : Int} {x3 : Int} {x4 : Int}, lv_has ls 5 [(0, .ref (g 0)), (1, .int (Int32.ofInt x1)), (2, .int (Int32.ofInt x2)), (3, .int (Int32.ofInt x3)), (4, .int (Int32.ofInt x4))] → Hp D A s.heap H locs (mW k g σ) → r_lookNumber_103 N  n σ x1 x2 x3 x4 = some r → W p l e { frames := 1, cells := 0, slots := 0, locals := 21 } s m args below meth c H locs 0 0 (MQ below (va_Qv (fun (_ : Unit) => True) (fun _ t => PostW D (TYs k) A (mW k g r) t) A) args s 0 0 A) (F0 m 103 ls []) := by
  induction n with
  | zero => intro ls H locs σ x1 x2 x3 x4 hl h hm; cases (show none = some r from hm)
  | succ n hrec103 =>
    intro ls H locs σ x1 x2 x3 x4 hl h hm
    rw [r_lookNumber_103] at hm
    refine lv_aload_n C.1 C.2.1 dX12_lookNumber_103 rfl (lv_at hl 0 rfl) ?_
    refine lv_iload_n C.1 C.2.1 dX12_lookNumber_104 rfl (lv_at hl 1 rfl) ?_
    obtain ⟨r25, e26, hm⟩ := obd_s hm
    refine q_callVi C h (rc_byteAt l D k g N σ x1 r25 e26) (cwV 1 C.2.2.1 (gR_byteAt _) rfl rfl rfl hd_byteAt ⟨Nat.le_of_ble_eq_true rfl, Nat.le_of_ble_eq_true rfl⟩) rfl hl.1 rfl (Nat.le_of_ble_eq_true rfl) dX12_lookNumber_105 ⟨Nat.le_of_ble_eq_true rfl, Nat.le_of_ble_eq_true rfl⟩ (fun H locs h => ?_)
    obtain ⟨r27, e28, hm⟩ := obd_s hm
    refine q_callSi C h (rc_isDigit l D k N r25.2 r27 e28) (cwS 1 C.2.2.1 (gR_isDigit _) rfl rfl rfl hd_isDigit ⟨Nat.le_of_ble_eq_true rfl, Nat.le_of_ble_eq_true rfl⟩) rfl hl.1 rfl (Nat.le_of_ble_eq_true rfl) dX12_lookNumber_108 ⟨Nat.le_of_ble_eq_true rfl, Nat.le_of_ble_eq_true rfl⟩ (fun H locs h => ?_)
    obtain ⟨g29, hm⟩ := grd_s hm
    refine z_if_eq (tgt := 147) C dX12_lookNumber_111 (by decide) g29 (fun c30 => ?_) (fun c30 => ?_)
    · have hm := ite_t c30 hm
      refine lv_aload_n C.1 C.2.1 dX12_lookNumber_147 rfl (lv_at hl 0 rfl) ?_
      refine lv_iload_n C.1 C.2.1 dX12_lookNumber_148 rfl (lv_at hl 2 rfl) ?_
      refine fp_10 C h dX12_lookNumber_149 (fun H locs h => ?_)
      refine lv_aload_n C.1 C.2.1 dX12_lookNumber_152 rfl (lv_at hl 0 rfl) ?_
      refine lv_iload_n C.1 C.2.1 dX12_lookNumber_153 rfl (lv_at hl 3 rfl) ?_
      refine lv_iconst (v := Int32.ofInt 4) C.1 C.2.1 dX12_lookNumber_154 (by decide) ?_
      obtain ⟨g31, hm⟩ := grd_s hm
      refine z_icmp_gt (tgt := 164) C dX12_lookNumber_155 (by decide) g31 (by decide) (fun c32 => ?_) (fun c32 => ?_)
      · have hm := ite_t c32 hm
        exact lm_lookNumber_164 (N := N) C hr hlk  (lv_sub hl [0, 1] rfl) h hm
      · have hm := ite_f c32 hm
        refine lv_iload C.1 C.2.1 dX12_lookNumber_158 (lv_at hl 4 rfl) ?_
        refine lv_iconst (v := Int32.ofInt 4) C.1 C.2.1 dX12_lookNumber_160 (by decide) ?_
        obtain ⟨g33, hm⟩ := grd_s hm
        refine z_icmp_le (tgt := 169) C dX12_lookNumber_161 (by decide) g33 (by decide) (fun c34 => ?_) (fun c34 => ?_)
        · have hm := ite_f c34 hm
          refine lv_iconst (v := Int32.ofInt 4) C.1 C.2.1 dX12_lookNumber_169 (by decide) ?_
          exact lm_lookNumber_170 (N := N) C hr hlk  (lv_sub hl [0, 1] rfl) h hm
        · have hm := ite_t c34 hm
          exact lm_lookNumber_164 (N := N) C hr hlk  (lv_sub hl [0, 1] rfl) h hm
    · have hm := ite_f c30 hm
      refine lv_iload C.1 C.2.1 dX12_lookNumber_114 (lv_at hl 4 rfl) ?_
      refine lv_iconst (v := Int32.ofInt 4) C.1 C.2.1 dX12_lookNumber_116 (by decide) ?_
      obtain ⟨g35, hm⟩ := grd_s hm
      refine z_icmp_ge (tgt := 136) C dX12_lookNumber_117 (by decide) g35 (by decide) (fun c36 => ?_) (fun c36 => ?_)
      · have hm := ite_f c36 hm
        refine lv_iload_n C.1 C.2.1 dX12_lookNumber_136 rfl (lv_at hl 2 rfl) ?_
        exact lm_lookNumber_137 (N := N) C hr hlk hrec103 (lv_sub hl [0, 1, 3, 4] rfl) h hm
      · have hm := ite_t c36 hm
        refine lv_bipush (v := Int32.ofInt 10) C.1 C.2.1 dX12_lookNumber_120 (by decide) ?_
        refine lv_iload_n C.1 C.2.1 dX12_lookNumber_122 rfl (lv_at hl 2 rfl) ?_
        refine z_imul C dX12_lookNumber_123 ?_
        refine lv_aload_n C.1 C.2.1 dX12_lookNumber_124 rfl (lv_at hl 0 rfl) ?_
        refine lv_iload_n C.1 C.2.1 dX12_lookNumber_125 rfl (lv_at hl 1 rfl) ?_
        obtain ⟨r37, e38, hm⟩ := obd_s hm
        refine q_callVi C h (rc_byteAt l D k g N r25.1 x1 r37 e38) (cwV 1 C.2.2.1 (gR_byteAt _) rfl rfl rfl hd_byteAt ⟨Nat.le_of_ble_eq_true rfl, Nat.le_of_ble_eq_true rfl⟩) rfl hl.1 rfl (Nat.le_of_ble_eq_true rfl) dX12_lookNumber_126 ⟨Nat.le_of_ble_eq_true rfl, Nat.le_of_ble_eq_true rfl⟩ (fun H locs h => ?_)
        refine z_iadd C dX12_lookNumber_129 ?_
        refine lv_bipush (v := Int32.ofInt 48) C.1 C.2.1 dX12_lookNumber_130 (by decide) ?_
        refine z_isub C dX12_lookNumber_132 ?_
        refine lv_goto (tgt := 137) C.1 C.2.1 dX12_lookNumber_133 (by decide) ?_
        exact lm_lookNumber_137 (N := N) C hr hlk hrec103 (lv_sub hl [0, 1, 3, 4] rfl) h hm
set_option maxHeartbeats 4000000 in
set_option maxRecDepth 100000 in
theorem lm_lookNumber_69 {r : St} (C : Cx p s m args c cX12_lookNumber RX12 (cd :: rW) D (TYs k) 5) (hr : meth.sig.returnType = none) (hlk : meth.locks = false)  {ls : Array Slot} {H : Heap} {locs : List Loc} {σ : St} {x1 : Int} {x3 : Int} {s0 : Int} (hl : lv_has ls 5 [(0, .ref (g 0)), (1, .int (Int32.ofInt x1)), (3, .int (Int32.ofInt x3))]) (h : Hp D A s.heap H locs (mW k g σ)) (hm : r_lookNumber_69 N  σ x1 x3 s0 = some r) : W p l e { frames := 1, cells := 0, slots := 0, locals := 21 } s m args below meth c H locs 0 0 (MQ below (va_Qv (fun (_ : Unit) => True) (fun _ t => PostW D (TYs k) A (mW k g r) t) A) args s 0 0 A) (F0 m 69 ls [.int (Int32.ofInt s0), .ref (g 0)]) := by
  rw [r_lookNumber_69] at hm
  refine fp_3 C h dX12_lookNumber_69 (fun H locs h => ?_)
  refine lv_aload_n C.1 C.2.1 dX12_lookNumber_72 rfl (lv_at hl 0 rfl) ?_
  refine lv_iload_n C.1 C.2.1 dX12_lookNumber_73 rfl (lv_at hl 1 rfl) ?_
  obtain ⟨σ13, e14, hm⟩ := bnd_s hm
  rw [e14] at h
  obtain ⟨r15, e16, hm⟩ := obd_s hm
  refine q_callVi C h (rc_byteAt l D k g N σ13 x1 r15 e16) (cwV 1 C.2.2.1 (gR_byteAt _) rfl rfl rfl hd_byteAt ⟨Nat.le_of_ble_eq_true rfl, Nat.le_of_ble_eq_true rfl⟩) rfl hl.1 rfl (Nat.le_of_ble_eq_true rfl) dX12_lookNumber_74 ⟨Nat.le_of_ble_eq_true rfl, Nat.le_of_ble_eq_true rfl⟩ (fun H locs h => ?_)
  refine lv_bipush (v := Int32.ofInt 58) C.1 C.2.1 dX12_lookNumber_77 (by decide) ?_
  obtain ⟨g17, hm⟩ := grd_s hm
  refine z_icmp_ne (tgt := 173) C dX12_lookNumber_79 (by decide) g17 (by decide) (fun c18 => ?_) (fun c18 => ?_)
  · have hm := ite_f c18 hm
    exact lm_lookNumber_173 (N := N) C hr hlk  (lv_sub hl [0, 1] rfl) h hm
  · have hm := ite_t c18 hm
    refine lv_aload_n C.1 C.2.1 dX12_lookNumber_82 rfl (lv_at hl 0 rfl) ?_
    refine lv_iload_n C.1 C.2.1 dX12_lookNumber_83 rfl (lv_at hl 1 rfl) ?_
    refine lv_iconst (v := Int32.ofInt 1) C.1 C.2.1 dX12_lookNumber_84 (by decide) ?_
    refine z_iadd C dX12_lookNumber_85 ?_
    obtain ⟨r19, e20, hm⟩ := obd_s hm
    refine q_callVi C h (rc_byteAt l D k g N r15.1 (x1 + 1) r19 e20) (cwV 1 C.2.2.1 (gR_byteAt _) rfl rfl rfl hd_byteAt ⟨Nat.le_of_ble_eq_true rfl, Nat.le_of_ble_eq_true rfl⟩) rfl hl.1 rfl (Nat.le_of_ble_eq_true rfl) dX12_lookNumber_86 ⟨Nat.le_of_ble_eq_true rfl, Nat.le_of_ble_eq_true rfl⟩ (fun H locs h => ?_)
    obtain ⟨r21, e22, hm⟩ := obd_s hm
    refine q_callSi C h (rc_isDigit l D k N r19.2 r21 e22) (cwS 1 C.2.2.1 (gR_isDigit _) rfl rfl rfl hd_isDigit ⟨Nat.le_of_ble_eq_true rfl, Nat.le_of_ble_eq_true rfl⟩) rfl hl.1 rfl (Nat.le_of_ble_eq_true rfl) dX12_lookNumber_89 ⟨Nat.le_of_ble_eq_true rfl, Nat.le_of_ble_eq_true rfl⟩ (fun H locs h => ?_)
    obtain ⟨g23, hm⟩ := grd_s hm
    refine z_if_eq (tgt := 173) C dX12_lookNumber_92 (by decide) g23 (fun c24 => ?_) (fun c24 => ?_)
    · have hm := ite_t c24 hm
      exact lm_lookNumber_173 (N := N) C hr hlk  (lv_sub hl [0, 1] rfl) h hm
    · have hm := ite_f c24 hm
      refine lv_iinc (v := Int32.ofInt (x1 + 1)) (lv' := [(1, .int (Int32.ofInt (x1 + 1))), (0, .ref (g 0)), (3, .int (Int32.ofInt x3))]) C.1 C.2.1 dX12_lookNumber_95 hl (k := 1) rfl (c32_add _ _) (by decide) rfl (fun ls hl => ?_)
      refine lv_iconst (v := Int32.ofInt 0) C.1 C.2.1 dX12_lookNumber_98 (by decide) ?_
      refine lv_istore_n (lv' := [(2, .int (Int32.ofInt 0)), (1, .int (Int32.ofInt (x1 + 1))), (0, .ref (g 0)), (3, .int (Int32.ofInt x3))]) C.1 C.2.1 dX12_lookNumber_99 rfl hl (by decide) rfl (fun ls hl => ?_)
      refine lv_iconst (v := Int32.ofInt 0) C.1 C.2.1 dX12_lookNumber_100 (by decide) ?_
      refine lv_istore (lv' := [(4, .int (Int32.ofInt 0)), (2, .int (Int32.ofInt 0)), (1, .int (Int32.ofInt (x1 + 1))), (0, .ref (g 0)), (3, .int (Int32.ofInt x3))]) C.1 C.2.1 dX12_lookNumber_101 hl (by decide) rfl (fun ls hl => ?_)
      exact lm_lookNumber_103 (N := N) C hr hlk  N (lv_sub hl [3, 2, 1, 4, 0] rfl) h hm
set_option maxHeartbeats 4000000 in
set_option maxRecDepth 100000 in
theorem lm_lookNumber_9 {r : St} (C : Cx p s m args c cX12_lookNumber RX12 (cd :: rW) D (TYs k) 5) (hr : meth.sig.returnType = none) (hlk : meth.locks = false)  (n : Nat) : ∀ {ls : Array Slot} {H : Heap} {locs : List Loc} {σ : St} {x1 : Int} {x2 : Int} {x3 : Int}, lv_has ls 5 [(0, .ref (g 0)), (1, .int (Int32.ofInt x1)), (2, .int (Int32.ofInt x2)), (3, .int (Int32.ofInt x3))] → Hp D A s.heap H locs (mW k g σ) → r_lookNumber_9 N  n σ x1 x2 x3 = some r → W p l e { frames := 1, cells := 0, slots := 0, locals := 21 } s m args below meth c H locs 0 0 (MQ below (va_Qv (fun (_ : Unit) => True) (fun _ t => PostW D (TYs k) A (mW k g r) t) A) args s 0 0 A) (F0 m 9 ls []) := by
  induction n with
  | zero => intro ls H locs σ x1 x2 x3 hl h hm; cases (show none = some r from hm)
  | succ n hrec9 =>
    intro ls H locs σ x1 x2 x3 hl h hm
    rw [r_lookNumber_9] at hm
    refine lv_aload_n C.1 C.2.1 dX12_lookNumber_9 rfl (lv_at hl 0 rfl) ?_
    refine lv_iload_n C.1 C.2.1 dX12_lookNumber_10 rfl (lv_at hl 1 rfl) ?_
    obtain ⟨r1, e2, hm⟩ := obd_s hm
    refine q_callVi C h (rc_byteAt l D k g N σ x1 r1 e2) (cwV 1 C.2.2.1 (gR_byteAt _) rfl rfl rfl hd_byteAt ⟨Nat.le_of_ble_eq_true rfl, Nat.le_of_ble_eq_true rfl⟩) rfl hl.1 rfl (Nat.le_of_ble_eq_true rfl) dX12_lookNumber_11 ⟨Nat.le_of_ble_eq_true rfl, Nat.le_of_ble_eq_true rfl⟩ (fun H locs h => ?_)
    obtain ⟨r3, e4, hm⟩ := obd_s hm
    refine q_callSi C h (rc_isDigit l D k N r1.2 r3 e4) (cwS 1 C.2.2.1 (gR_isDigit _) rfl rfl rfl hd_isDigit ⟨Nat.le_of_ble_eq_true rfl, Nat.le_of_ble_eq_true rfl⟩) rfl hl.1 rfl (Nat.le_of_ble_eq_true rfl) dX12_lookNumber_14 ⟨Nat.le_of_ble_eq_true rfl, Nat.le_of_ble_eq_true rfl⟩ (fun H locs h => ?_)
    obtain ⟨g5, hm⟩ := grd_s hm
    refine z_if_eq (tgt := 52) C dX12_lookNumber_17 (by decide) g5 (fun c6 => ?_) (fun c6 => ?_)
    · have hm := ite_t c6 hm
      refine lv_aload_n C.1 C.2.1 dX12_lookNumber_52 rfl (lv_at hl 0 rfl) ?_
      refine lv_iload_n C.1 C.2.1 dX12_lookNumber_53 rfl (lv_at hl 2 rfl) ?_
      refine fp_9 C h dX12_lookNumber_54 (fun H locs h => ?_)
      refine lv_aload_n C.1 C.2.1 dX12_lookNumber_57 rfl (lv_at hl 0 rfl) ?_
      refine lv_iload_n C.1 C.2.1 dX12_lookNumber_58 rfl (lv_at hl 3 rfl) ?_
      refine lv_iconst (v := Int32.ofInt 4) C.1 C.2.1 dX12_lookNumber_59 (by decide) ?_
      obtain ⟨g7, hm⟩ := grd_s hm
      refine z_icmp_le (tgt := 68) C dX12_lookNumber_60 (by decide) g7 (by decide) (fun c8 => ?_) (fun c8 => ?_)
      · have hm := ite_f c8 hm
        refine lv_iconst (v := Int32.ofInt 3) C.1 C.2.1 dX12_lookNumber_68 (by decide) ?_
        exact lm_lookNumber_69 (N := N) C hr hlk  (lv_sub hl [0, 1, 3] rfl) h hm
      · have hm := ite_t c8 hm
        refine lv_bipush (v := Int32.ofInt 7) C.1 C.2.1 dX12_lookNumber_63 (by decide) ?_
        refine lv_goto (tgt := 69) C.1 C.2.1 dX12_lookNumber_65 (by decide) ?_
        exact lm_lookNumber_69 (N := N) C hr hlk  (lv_sub hl [0, 1, 3] rfl) h hm
    · have hm := ite_f c6 hm
      refine lv_iload_n C.1 C.2.1 dX12_lookNumber_20 rfl (lv_at hl 3 rfl) ?_
      refine lv_iconst (v := Int32.ofInt 4) C.1 C.2.1 dX12_lookNumber_21 (by decide) ?_
      obtain ⟨g9, hm⟩ := grd_s hm
      refine z_icmp_ge (tgt := 41) C dX12_lookNumber_22 (by decide) g9 (by decide) (fun c10 => ?_) (fun c10 => ?_)
      · have hm := ite_f c10 hm
        refine lv_iload_n C.1 C.2.1 dX12_lookNumber_41 rfl (lv_at hl 2 rfl) ?_
        exact lm_lookNumber_42 (N := N) C hr hlk hrec9 (lv_sub hl [0, 1, 3] rfl) h hm
      · have hm := ite_t c10 hm
        refine lv_bipush (v := Int32.ofInt 10) C.1 C.2.1 dX12_lookNumber_25 (by decide) ?_
        refine lv_iload_n C.1 C.2.1 dX12_lookNumber_27 rfl (lv_at hl 2 rfl) ?_
        refine z_imul C dX12_lookNumber_28 ?_
        refine lv_aload_n C.1 C.2.1 dX12_lookNumber_29 rfl (lv_at hl 0 rfl) ?_
        refine lv_iload_n C.1 C.2.1 dX12_lookNumber_30 rfl (lv_at hl 1 rfl) ?_
        obtain ⟨r11, e12, hm⟩ := obd_s hm
        refine q_callVi C h (rc_byteAt l D k g N r1.1 x1 r11 e12) (cwV 1 C.2.2.1 (gR_byteAt _) rfl rfl rfl hd_byteAt ⟨Nat.le_of_ble_eq_true rfl, Nat.le_of_ble_eq_true rfl⟩) rfl hl.1 rfl (Nat.le_of_ble_eq_true rfl) dX12_lookNumber_31 ⟨Nat.le_of_ble_eq_true rfl, Nat.le_of_ble_eq_true rfl⟩ (fun H locs h => ?_)
        refine z_iadd C dX12_lookNumber_34 ?_
        refine lv_bipush (v := Int32.ofInt 48) C.1 C.2.1 dX12_lookNumber_35 (by decide) ?_
        refine z_isub C dX12_lookNumber_37 ?_
        refine lv_goto (tgt := 42) C.1 C.2.1 dX12_lookNumber_38 (by decide) ?_
        exact lm_lookNumber_42 (N := N) C hr hlk hrec9 (lv_sub hl [0, 1, 3] rfl) h hm
set_option maxHeartbeats 4000000 in
set_option maxRecDepth 100000 in
theorem rc_lookNumber (l : Launch) (D : va_G) (k : Nat → ClassId) (g : Nat → Nat) (N : Nat) (σ : St)  (r : St) (hm : r_lookNumber N σ  = some r) : Mv l yX12_lookNumber (.code yX12_lookNumber cX12_lookNumber 5 none :: rW) { frames := 1, cells := 0, slots := 0, locals := 21 } [.ref (g 0)] D (TYs k) (mW k g σ) (fun _ => True) Unit (fun _ => True) (fun _ => mW k g r) 0 0 := by
  intro sz
  refine x_met (cc := cX12_lookNumber) (maxL := 5) (ret := none) (by decide) rfl (Nat.le_of_ble_eq_true rfl) ?_
  intro p e s m below meth c ls C hX hsz hr hlk hmn hl h
  have hl : lv_has ls 5 [(0, .ref (g 0))] := hl
  rw [r_lookNumber] at hm
  refine lv_aload_n C.1 C.2.1 dX12_lookNumber_0 rfl (lv_at hl 0 rfl) ?_
  refine fg_4 C h dX12_lookNumber_1 ?_
  refine lv_istore_n (lv' := [(1, .int (Int32.ofInt (fl σ 4 0))), (0, .ref (g 0))]) C.1 C.2.1 dX12_lookNumber_4 rfl hl (by decide) rfl (fun ls hl => ?_)
  refine lv_iconst (v := Int32.ofInt 0) C.1 C.2.1 dX12_lookNumber_5 (by decide) ?_
  refine lv_istore_n (lv' := [(2, .int (Int32.ofInt 0)), (1, .int (Int32.ofInt (fl σ 4 0))), (0, .ref (g 0))]) C.1 C.2.1 dX12_lookNumber_6 rfl hl (by decide) rfl (fun ls hl => ?_)
  refine lv_iconst (v := Int32.ofInt 0) C.1 C.2.1 dX12_lookNumber_7 (by decide) ?_
  refine lv_istore_n (lv' := [(3, .int (Int32.ofInt 0)), (2, .int (Int32.ofInt 0)), (1, .int (Int32.ofInt (fl σ 4 0))), (0, .ref (g 0))]) C.1 C.2.1 dX12_lookNumber_8 rfl hl (by decide) rfl (fun ls hl => ?_)
  exact lm_lookNumber_9 (N := N) C hr hlk  N (lv_sub hl [3, 2, 1, 0] rfl) h hm
end L_lookNumber
section L_lookText
variable {p : Program} {l : Launch} {e : Env} {s : State} {m : MethodId} {args : Array Value} {below : List Frame} {meth : Method} {c : Code} {D : va_G} {A : Nat → Prop} {k : Nat → ClassId} {g : Nat → Nat} {N : Nat} {cd : Cond}
set_option maxHeartbeats 4000000 in
set_option maxRecDepth 100000 in
theorem lm_lookText_80 {r : St} (C : Cx p s m args c cX12_lookText RX12 (cd :: rW) D (TYs k) 2) (hr : meth.sig.returnType = none) (hlk : meth.locks = false)  {ls : Array Slot} {H : Heap} {locs : List Loc} {σ : St} {x1 : Int} {s0 : Int} (hl : lv_has ls 2 [(0, .ref (g 0)), (1, .int (Int32.ofInt x1))]) (h : Hp D A s.heap H locs (mW k g σ)) (hm : r_lookText_80 N  σ x1 s0 = some r) : W p l e { frames := 0, cells := 0, slots := 0, locals := 0 } s m args below meth c H locs 0 0 (MQ below (va_Qv (fun (_ : Unit) => True) (fun _ t => PostW D (TYs k) A (mW k g r) t) A) args s 0 0 A) (F0 m 80 ls [.int (Int32.ofInt s0), .ref (g 0)]) := by
  rw [r_lookText_80] at hm
  refine fp_3 C h dX12_lookText_80 (fun H locs h => ?_)
  refine lv_aload_n C.1 C.2.1 dX12_lookText_83 rfl (lv_at hl 0 rfl) ?_
  refine lv_iload_n C.1 C.2.1 dX12_lookText_84 rfl (lv_at hl 1 rfl) ?_
  refine lv_iconst (v := Int32.ofInt 1) C.1 C.2.1 dX12_lookText_85 (by decide) ?_
  refine z_iadd C dX12_lookText_86 ?_
  refine fp_5 C h dX12_lookText_87 (fun H locs h => ?_)
  cases hm
  exact q_vret C h hr hlk dX12_lookText_90
set_option maxHeartbeats 4000000 in
set_option maxRecDepth 100000 in
theorem lm_lookText_78 {r : St} (C : Cx p s m args c cX12_lookText RX12 (cd :: rW) D (TYs k) 2) (hr : meth.sig.returnType = none) (hlk : meth.locks = false)  {ls : Array Slot} {H : Heap} {locs : List Loc} {σ : St} {x1 : Int} (hl : lv_has ls 2 [(0, .ref (g 0)), (1, .int (Int32.ofInt x1))]) (h : Hp D A s.heap H locs (mW k g σ)) (hm : r_lookText_78 N  σ x1 = some r) : W p l e { frames := 0, cells := 0, slots := 0, locals := 0 } s m args below meth c H locs 0 0 (MQ below (va_Qv (fun (_ : Unit) => True) (fun _ t => PostW D (TYs k) A (mW k g r) t) A) args s 0 0 A) (F0 m 78 ls [.ref (g 0)]) := by
  rw [r_lookText_78] at hm
  refine lv_bipush (v := Int32.ofInt 7) C.1 C.2.1 dX12_lookText_78 (by decide) ?_
  exact lm_lookText_80 (N := N) C hr hlk  (lv_sub hl [0, 1] rfl) h hm
set_option maxHeartbeats 4000000 in
set_option maxRecDepth 100000 in
theorem lm_lookText_54 {r : St} (C : Cx p s m args c cX12_lookText RX12 (cd :: rW) D (TYs k) 2) (hr : meth.sig.returnType = none) (hlk : meth.locks = false)  {ls : Array Slot} {H : Heap} {locs : List Loc} {σ : St} {x1 : Int} (hl : lv_has ls 2 [(0, .ref (g 0)), (1, .int (Int32.ofInt x1))]) (h : Hp D A s.heap H locs (mW k g σ)) (hm : r_lookText_54 N  σ x1 = some r) : W p l e { frames := 0, cells := 0, slots := 0, locals := 0 } s m args below meth c H locs 0 0 (MQ below (va_Qv (fun (_ : Unit) => True) (fun _ t => PostW D (TYs k) A (mW k g r) t) A) args s 0 0 A) (F0 m 54 ls []) := by
  rw [r_lookText_54] at hm
  refine lv_aload_n C.1 C.2.1 dX12_lookText_54 rfl (lv_at hl 0 rfl) ?_
  refine lv_iload_n C.1 C.2.1 dX12_lookText_55 rfl (lv_at hl 1 rfl) ?_
  refine lv_aload_n C.1 C.2.1 dX12_lookText_56 rfl (lv_at hl 0 rfl) ?_
  refine fg_1 C h dX12_lookText_57 ?_
  obtain ⟨g11, hm⟩ := grd_s hm
  obtain ⟨g12, hm⟩ := grd_s hm
  refine z_icmp_ge (tgt := 78) C dX12_lookText_60 (by decide) g11 g12 (fun c13 => ?_) (fun c13 => ?_)
  · have hm := ite_f c13 hm
    exact lm_lookText_78 (N := N) C hr hlk  (lv_sub hl [0, 1] rfl) h hm
  · have hm := ite_t c13 hm
    refine lv_aload_n C.1 C.2.1 dX12_lookText_63 rfl (lv_at hl 0 rfl) ?_
    refine fg_0 C h dX12_lookText_64 ?_
    refine lv_iload_n C.1 C.2.1 dX12_lookText_67 rfl (lv_at hl 1 rfl) ?_
    obtain ⟨g14, hm⟩ := grd_s hm
    refine al_97 C h dX12_lookText_68 g14 ?_
    refine lv_bipush (v := Int32.ofInt 34) C.1 C.2.1 dX12_lookText_69 (by decide) ?_
    obtain ⟨g15, hm⟩ := grd_s hm
    refine z_icmp_ne (tgt := 78) C dX12_lookText_71 (by decide) g15 (by decide) (fun c16 => ?_) (fun c16 => ?_)
    · have hm := ite_f c16 hm
      exact lm_lookText_78 (N := N) C hr hlk  (lv_sub hl [0, 1] rfl) h hm
    · have hm := ite_t c16 hm
      refine lv_iconst (v := Int32.ofInt 5) C.1 C.2.1 dX12_lookText_74 (by decide) ?_
      refine lv_goto (tgt := 80) C.1 C.2.1 dX12_lookText_75 (by decide) ?_
      exact lm_lookText_80 (N := N) C hr hlk  (lv_sub hl [0, 1] rfl) h hm
set_option maxHeartbeats 4000000 in
set_option maxRecDepth 100000 in
theorem lm_lookText_7 {r : St} (C : Cx p s m args c cX12_lookText RX12 (cd :: rW) D (TYs k) 2) (hr : meth.sig.returnType = none) (hlk : meth.locks = false)  (n : Nat) : ∀ {ls : Array Slot} {H : Heap} {locs : List Loc} {σ : St} {x1 : Int}, lv_has ls 2 [(0, .ref (g 0)), (1, .int (Int32.ofInt x1))] → Hp D A s.heap H locs (mW k g σ) → r_lookText_7 N  n σ x1 = some r → W p l e { frames := 0, cells := 0, slots := 0, locals := 0 } s m args below meth c H locs 0 0 (MQ below (va_Qv (fun (_ : Unit) => True) (fun _ t => PostW D (TYs k) A (mW k g r) t) A) args s 0 0 A) (F0 m 7 ls []) := by
  induction n with
  | zero => intro ls H locs σ x1 hl h hm; cases (show none = some r from hm)
  | succ n hrec7 =>
    intro ls H locs σ x1 hl h hm
    rw [r_lookText_7] at hm
    refine lv_iload_n C.1 C.2.1 dX12_lookText_7 rfl (lv_at hl 1 rfl) ?_
    refine lv_aload_n C.1 C.2.1 dX12_lookText_8 rfl (lv_at hl 0 rfl) ?_
    refine fg_1 C h dX12_lookText_9 ?_
    obtain ⟨g3, hm⟩ := grd_s hm
    obtain ⟨g4, hm⟩ := grd_s hm
    refine z_icmp_ge (tgt := 54) C dX12_lookText_12 (by decide) g3 g4 (fun c5 => ?_) (fun c5 => ?_)
    · have hm := ite_f c5 hm
      exact lm_lookText_54 (N := N) C hr hlk  (lv_sub hl [0, 1] rfl) h hm
    · have hm := ite_t c5 hm
      refine lv_aload_n C.1 C.2.1 dX12_lookText_15 rfl (lv_at hl 0 rfl) ?_
      refine fg_0 C h dX12_lookText_16 ?_
      refine lv_iload_n C.1 C.2.1 dX12_lookText_19 rfl (lv_at hl 1 rfl) ?_
      obtain ⟨g6, hm⟩ := grd_s hm
      refine al_97 C h dX12_lookText_20 g6 ?_
      refine lv_bipush (v := Int32.ofInt 34) C.1 C.2.1 dX12_lookText_21 (by decide) ?_
      obtain ⟨g7, hm⟩ := grd_s hm
      refine z_icmp_eq (tgt := 54) C dX12_lookText_23 (by decide) g7 (by decide) (fun c8 => ?_) (fun c8 => ?_)
      · have hm := ite_t c8 hm
        exact lm_lookText_54 (N := N) C hr hlk  (lv_sub hl [0, 1] rfl) h hm
      · have hm := ite_f c8 hm
        refine lv_aload_n C.1 C.2.1 dX12_lookText_26 rfl (lv_at hl 0 rfl) ?_
        refine fg_0 C h dX12_lookText_27 ?_
        refine lv_iload_n C.1 C.2.1 dX12_lookText_30 rfl (lv_at hl 1 rfl) ?_
        refine al_97 C h dX12_lookText_31 g6 ?_
        refine lv_bipush (v := Int32.ofInt 32) C.1 C.2.1 dX12_lookText_32 (by decide) ?_
        refine z_icmp_lt (tgt := 54) C dX12_lookText_34 (by decide) g7 (by decide) (fun c9 => ?_) (fun c9 => ?_)
        · have hm := ite_t c9 hm
          exact lm_lookText_54 (N := N) C hr hlk  (lv_sub hl [0, 1] rfl) h hm
        · have hm := ite_f c9 hm
          refine lv_aload_n C.1 C.2.1 dX12_lookText_37 rfl (lv_at hl 0 rfl) ?_
          refine fg_0 C h dX12_lookText_38 ?_
          refine lv_iload_n C.1 C.2.1 dX12_lookText_41 rfl (lv_at hl 1 rfl) ?_
          refine al_97 C h dX12_lookText_42 g6 ?_
          refine lv_bipush (v := Int32.ofInt 127) C.1 C.2.1 dX12_lookText_43 (by decide) ?_
          refine z_icmp_ge (tgt := 54) C dX12_lookText_45 (by decide) g7 (by decide) (fun c10 => ?_) (fun c10 => ?_)
          · have hm := ite_f c10 hm
            exact lm_lookText_54 (N := N) C hr hlk  (lv_sub hl [0, 1] rfl) h hm
          · have hm := ite_t c10 hm
            refine lv_iinc (v := Int32.ofInt (x1 + 1)) (lv' := [(1, .int (Int32.ofInt (x1 + 1))), (0, .ref (g 0))]) C.1 C.2.1 dX12_lookText_48 hl (k := 1) rfl (c32_add _ _) (by decide) rfl (fun ls hl => ?_)
            refine lv_goto (tgt := 7) C.1 C.2.1 dX12_lookText_51 (by decide) ?_
            exact hrec7 (lv_sub hl [1, 0] rfl) h hm
set_option maxHeartbeats 4000000 in
set_option maxRecDepth 100000 in
theorem rc_lookText (l : Launch) (D : va_G) (k : Nat → ClassId) (g : Nat → Nat) (N : Nat) (σ : St)  (r : St) (hm : r_lookText N σ  = some r) : Mv l yX12_lookText (.code yX12_lookText cX12_lookText 2 none :: rW) { frames := 0, cells := 0, slots := 0, locals := 0 } [.ref (g 0)] D (TYs k) (mW k g σ) (fun _ => True) Unit (fun _ => True) (fun _ => mW k g r) 0 0 := by
  intro sz
  refine x_met (cc := cX12_lookText) (maxL := 2) (ret := none) (by decide) rfl (Nat.le_of_ble_eq_true rfl) ?_
  intro p e s m below meth c ls C hX hsz hr hlk hmn hl h
  have hl : lv_has ls 2 [(0, .ref (g 0))] := hl
  rw [r_lookText] at hm
  refine lv_aload_n C.1 C.2.1 dX12_lookText_0 rfl (lv_at hl 0 rfl) ?_
  refine fg_4 C h dX12_lookText_1 ?_
  refine lv_iconst (v := Int32.ofInt 1) C.1 C.2.1 dX12_lookText_4 (by decide) ?_
  refine z_iadd C dX12_lookText_5 ?_
  obtain ⟨v1, e2, hm⟩ := bnd_s hm
  rw [e2]
  refine lv_istore_n (lv' := [(1, .int (Int32.ofInt v1)), (0, .ref (g 0))]) C.1 C.2.1 dX12_lookText_6 rfl hl (by decide) rfl (fun ls hl => ?_)
  exact lm_lookText_7 (N := N) C hr hlk  N (lv_sub hl [1, 0] rfl) h hm
end L_lookText
section L_look
variable {p : Program} {l : Launch} {e : Env} {s : State} {m : MethodId} {args : Array Value} {below : List Frame} {meth : Method} {c : Code} {D : va_G} {A : Nat → Prop} {k : Nat → ClassId} {g : Nat → Nat} {N : Nat} {cd : Cond}
set_option maxHeartbeats 4000000 in
set_option maxRecDepth 100000 in
theorem lm_look_27 {r : St} (C : Cx p s m args c cX12_look RX12 (cd :: rW) D (TYs k) 4) (hr : meth.sig.returnType = none) (hlk : meth.locks = false)  {ls : Array Slot} {H : Heap} {locs : List Loc} {σ : St} {x2 : Int} (hl : lv_has ls 4 [(0, .ref (g 0)), (2, .int (Int32.ofInt x2))]) (h : Hp D A s.heap H locs (mW k g σ)) (hm : r_look_27 N  σ x2 = some r) : W p l e { frames := 2, cells := 0, slots := 0, locals := 46 } s m args below meth c H locs 0 0 (MQ below (va_Qv (fun (_ : Unit) => True) (fun _ t => PostW D (TYs k) A (mW k g r) t) A) args s 0 0 A) (F0 m 27 ls []) := by
  rw [r_look_27] at hm
  refine lv_aload_n C.1 C.2.1 dX12_look_27 rfl (lv_at hl 0 rfl) ?_
  refine lv_iload_n C.1 C.2.1 dX12_look_28 rfl (lv_at hl 1 rfl) ?_
  refine fp_4 C h dX12_look_29 (fun H locs h => ?_)
  refine lv_aload_n C.1 C.2.1 dX12_look_32 rfl (lv_at hl 0 rfl) ?_
  refine lv_iload_n C.1 C.2.1 dX12_look_33 rfl (lv_at hl 1 rfl) ?_
  refine lv_iconst (v := Int32.ofInt 1) C.1 C.2.1 dX12_look_34 (by decide) ?_
  refine z_iadd C dX12_look_35 ?_
  refine fp_5 C h dX12_look_36 (fun H locs h => ?_)
  refine lv_aload_n C.1 C.2.1 dX12_look_39 rfl (lv_at hl 0 rfl) ?_
  refine lv_iload_n C.1 C.2.1 dX12_look_40 rfl (lv_at hl 1 rfl) ?_
  obtain ⟨σ7, e8, hm⟩ := bnd_s hm
  rw [e8] at h
  obtain ⟨r9, e10, hm⟩ := obd_s hm
  refine q_callVi C h (rc_byteAt l D k g N σ7 x2 r9 e10) (cwV 1 C.2.2.1 (gR_byteAt _) rfl rfl rfl hd_byteAt ⟨Nat.le_of_ble_eq_true rfl, Nat.le_of_ble_eq_true rfl⟩) rfl hl.1 rfl (Nat.le_of_ble_eq_true rfl) dX12_look_41 ⟨Nat.le_of_ble_eq_true rfl, Nat.le_of_ble_eq_true rfl⟩ (fun H locs h => ?_)
  refine lv_istore_n (lv' := [(3, .int (Int32.ofInt r9.2)), (0, .ref (g 0)), (2, .int (Int32.ofInt x2))]) C.1 C.2.1 dX12_look_44 rfl hl (by decide) rfl (fun ls hl => ?_)
  refine lv_iload_n C.1 C.2.1 dX12_look_45 rfl (lv_at hl 2 rfl) ?_
  refine lv_aload_n C.1 C.2.1 dX12_look_46 rfl (lv_at hl 1 rfl) ?_
  refine fg_1 C h dX12_look_47 ?_
  obtain ⟨g11, hm⟩ := grd_s hm
  obtain ⟨g12, hm⟩ := grd_s hm
  refine z_icmp_lt (tgt := 69) C dX12_look_50 (by decide) g11 g12 (fun c13 => ?_) (fun c13 => ?_)
  · have hm := ite_t c13 hm
    refine lv_iload_n C.1 C.2.1 dX12_look_69 rfl (lv_at hl 0 rfl) ?_
    refine lv_bipush (v := Int32.ofInt 10) C.1 C.2.1 dX12_look_70 (by decide) ?_
    obtain ⟨g14, hm⟩ := grd_s hm
    refine z_icmp_ne (tgt := 83) C dX12_look_72 (by decide) g14 (by decide) (fun c15 => ?_) (fun c15 => ?_)
    · have hm := ite_f c15 hm
      refine lv_iload_n C.1 C.2.1 dX12_look_83 rfl (lv_at hl 0 rfl) ?_
      obtain ⟨r16, e17, hm⟩ := obd_s hm
      refine q_callSi C h (rc_isLow l D k N r9.2 r16 e17) (cwS 1 C.2.2.1 (gR_isLow _) rfl rfl rfl hd_isLow ⟨Nat.le_of_ble_eq_true rfl, Nat.le_of_ble_eq_true rfl⟩) rfl hl.1 rfl (Nat.le_of_ble_eq_true rfl) dX12_look_84 ⟨Nat.le_of_ble_eq_true rfl, Nat.le_of_ble_eq_true rfl⟩ (fun H locs h => ?_)
      obtain ⟨g18, hm⟩ := grd_s hm
      refine z_if_eq (tgt := 97) C dX12_look_87 (by decide) g18 (fun c19 => ?_) (fun c19 => ?_)
      · have hm := ite_t c19 hm
        refine lv_iload_n C.1 C.2.1 dX12_look_97 rfl (lv_at hl 0 rfl) ?_
        obtain ⟨r20, e21, hm⟩ := obd_s hm
        refine q_callSi C h (rc_isDigit l D k N r9.2 r20 e21) (cwS 1 C.2.2.1 (gR_isDigit _) rfl rfl rfl hd_isDigit ⟨Nat.le_of_ble_eq_true rfl, Nat.le_of_ble_eq_true rfl⟩) rfl hl.1 rfl (Nat.le_of_ble_eq_true rfl) dX12_look_98 ⟨Nat.le_of_ble_eq_true rfl, Nat.le_of_ble_eq_true rfl⟩ (fun H locs h => ?_)
        obtain ⟨g22, hm⟩ := grd_s hm
        refine z_if_eq (tgt := 111) C dX12_look_101 (by decide) g22 (fun c23 => ?_) (fun c23 => ?_)
        · have hm := ite_t c23 hm
          refine lv_iload_n C.1 C.2.1 dX12_look_111 rfl (lv_at hl 0 rfl) ?_
          refine lv_bipush (v := Int32.ofInt 34) C.1 C.2.1 dX12_look_112 (by decide) ?_
          refine z_icmp_ne (tgt := 124) C dX12_look_114 (by decide) g14 (by decide) (fun c24 => ?_) (fun c24 => ?_)
          · have hm := ite_f c24 hm
            refine lv_iload_n C.1 C.2.1 dX12_look_124 rfl (lv_at hl 0 rfl) ?_
            obtain ⟨r25, e26, hm⟩ := obd_s hm
            refine q_callSi C h (rc_isSignByte l D k N r9.2 r25 e26) (cwS 1 C.2.2.1 (gR_isSignByte _) rfl rfl rfl hd_isSignByte ⟨Nat.le_of_ble_eq_true rfl, Nat.le_of_ble_eq_true rfl⟩) rfl hl.1 rfl (Nat.le_of_ble_eq_true rfl) dX12_look_125 ⟨Nat.le_of_ble_eq_true rfl, Nat.le_of_ble_eq_true rfl⟩ (fun H locs h => ?_)
            obtain ⟨g27, hm⟩ := grd_s hm
            refine z_if_eq (tgt := 145) C dX12_look_128 (by decide) g27 (fun c28 => ?_) (fun c28 => ?_)
            · have hm := ite_t c28 hm
              refine lv_aload_n C.1 C.2.1 dX12_look_145 rfl (lv_at hl 1 rfl) ?_
              refine lv_bipush (v := Int32.ofInt 7) C.1 C.2.1 dX12_look_146 (by decide) ?_
              refine fp_3 C h dX12_look_148 (fun H locs h => ?_)
              cases hm
              exact q_vret C h hr hlk dX12_look_151
            · have hm := ite_f c28 hm
              refine lv_aload_n C.1 C.2.1 dX12_look_131 rfl (lv_at hl 1 rfl) ?_
              refine lv_bipush (v := Int32.ofInt 6) C.1 C.2.1 dX12_look_132 (by decide) ?_
              refine fp_3 C h dX12_look_134 (fun H locs h => ?_)
              refine lv_aload_n C.1 C.2.1 dX12_look_137 rfl (lv_at hl 1 rfl) ?_
              refine lv_iload_n C.1 C.2.1 dX12_look_138 rfl (lv_at hl 0 rfl) ?_
              refine fp_6 C h dX12_look_139 (fun H locs h => ?_)
              refine lv_goto (tgt := 151) C.1 C.2.1 dX12_look_142 (by decide) ?_
              cases hm
              exact q_vret C h hr hlk dX12_look_151
          · have hm := ite_t c24 hm
            refine lv_aload_n C.1 C.2.1 dX12_look_117 rfl (lv_at hl 1 rfl) ?_
            obtain ⟨r29, e30, hm⟩ := obd_s hm
            refine q_callVv C h (rc_lookText l D k g N r9.1  r29 e30) (cwV 0 C.2.2.1 (gR_lookText _) rfl rfl rfl hd_lookText ⟨Nat.le_of_ble_eq_true rfl, Nat.le_of_ble_eq_true rfl⟩) rfl hl.1 rfl (Nat.le_of_ble_eq_true rfl) dX12_look_118 ⟨Nat.le_of_ble_eq_true rfl, Nat.le_of_ble_eq_true rfl⟩ (fun H locs h => ?_)
            refine lv_goto (tgt := 151) C.1 C.2.1 dX12_look_121 (by decide) ?_
            cases hm
            exact q_vret C h hr hlk dX12_look_151
        · have hm := ite_f c23 hm
          refine lv_aload_n C.1 C.2.1 dX12_look_104 rfl (lv_at hl 1 rfl) ?_
          obtain ⟨r31, e32, hm⟩ := obd_s hm
          refine q_callVv C h (rc_lookNumber l D k g N r9.1  r31 e32) (cwV 0 C.2.2.1 (gR_lookNumber _) rfl rfl rfl hd_lookNumber ⟨Nat.le_of_ble_eq_true rfl, Nat.le_of_ble_eq_true rfl⟩) rfl hl.1 rfl (Nat.le_of_ble_eq_true rfl) dX12_look_105 ⟨Nat.le_of_ble_eq_true rfl, Nat.le_of_ble_eq_true rfl⟩ (fun H locs h => ?_)
          refine lv_goto (tgt := 151) C.1 C.2.1 dX12_look_108 (by decide) ?_
          cases hm
          exact q_vret C h hr hlk dX12_look_151
      · have hm := ite_f c19 hm
        refine lv_aload_n C.1 C.2.1 dX12_look_90 rfl (lv_at hl 1 rfl) ?_
        obtain ⟨r33, e34, hm⟩ := obd_s hm
        refine q_callVv C h (rc_lookName l D k g N r9.1  r33 e34) (cwV 0 C.2.2.1 (gR_lookName _) rfl rfl rfl hd_lookName ⟨Nat.le_of_ble_eq_true rfl, Nat.le_of_ble_eq_true rfl⟩) rfl hl.1 rfl (Nat.le_of_ble_eq_true rfl) dX12_look_91 ⟨Nat.le_of_ble_eq_true rfl, Nat.le_of_ble_eq_true rfl⟩ (fun H locs h => ?_)
        refine lv_goto (tgt := 151) C.1 C.2.1 dX12_look_94 (by decide) ?_
        cases hm
        exact q_vret C h hr hlk dX12_look_151
    · have hm := ite_t c15 hm
      refine lv_aload_n C.1 C.2.1 dX12_look_75 rfl (lv_at hl 1 rfl) ?_
      refine lv_iconst (v := Int32.ofInt 1) C.1 C.2.1 dX12_look_76 (by decide) ?_
      refine fp_3 C h dX12_look_77 (fun H locs h => ?_)
      refine lv_goto (tgt := 151) C.1 C.2.1 dX12_look_80 (by decide) ?_
      cases hm
      exact q_vret C h hr hlk dX12_look_151
  · have hm := ite_f c13 hm
    refine lv_aload_n C.1 C.2.1 dX12_look_53 rfl (lv_at hl 1 rfl) ?_
    refine lv_iconst (v := Int32.ofInt 0) C.1 C.2.1 dX12_look_54 (by decide) ?_
    refine fp_3 C h dX12_look_55 (fun H locs h => ?_)
    refine lv_aload_n C.1 C.2.1 dX12_look_58 rfl (lv_at hl 1 rfl) ?_
    refine lv_aload_n C.1 C.2.1 dX12_look_59 rfl (lv_at hl 1 rfl) ?_
    refine fg_1 C h dX12_look_60 ?_
    refine x_topi (y := Int32.ofInt (fl r9.1 1 0)) rfl ?_
    refine fp_5 C h dX12_look_63 (fun H locs h => ?_)
    refine lv_goto (tgt := 151) C.1 C.2.1 dX12_look_66 (by decide) ?_
    cases hm
    exact q_vret C h hr hlk dX12_look_151
set_option maxHeartbeats 4000000 in
set_option maxRecDepth 100000 in
theorem lm_look_2 {r : St} (C : Cx p s m args c cX12_look RX12 (cd :: rW) D (TYs k) 4) (hr : meth.sig.returnType = none) (hlk : meth.locks = false)  (n : Nat) : ∀ {ls : Array Slot} {H : Heap} {locs : List Loc} {σ : St} {x2 : Int}, lv_has ls 4 [(0, .ref (g 0)), (2, .int (Int32.ofInt x2))] → Hp D A s.heap H locs (mW k g σ) → r_look_2 N  n σ x2 = some r → W p l e { frames := 2, cells := 0, slots := 0, locals := 46 } s m args below meth c H locs 0 0 (MQ below (va_Qv (fun (_ : Unit) => True) (fun _ t => PostW D (TYs k) A (mW k g r) t) A) args s 0 0 A) (F0 m 2 ls []) := by
  induction n with
  | zero => intro ls H locs σ x2 hl h hm; cases (show none = some r from hm)
  | succ n hrec2 =>
    intro ls H locs σ x2 hl h hm
    rw [r_look_2] at hm
    refine lv_iload_n C.1 C.2.1 dX12_look_2 rfl (lv_at hl 1 rfl) ?_
    refine lv_aload_n C.1 C.2.1 dX12_look_3 rfl (lv_at hl 0 rfl) ?_
    refine fg_1 C h dX12_look_4 ?_
    obtain ⟨g1, hm⟩ := grd_s hm
    obtain ⟨g2, hm⟩ := grd_s hm
    refine z_icmp_ge (tgt := 27) C dX12_look_7 (by decide) g1 g2 (fun c3 => ?_) (fun c3 => ?_)
    · have hm := ite_f c3 hm
      exact lm_look_27 (N := N) C hr hlk  (lv_sub hl [0, 1] rfl) h hm
    · have hm := ite_t c3 hm
      refine lv_aload_n C.1 C.2.1 dX12_look_10 rfl (lv_at hl 0 rfl) ?_
      refine fg_0 C h dX12_look_11 ?_
      refine lv_iload_n C.1 C.2.1 dX12_look_14 rfl (lv_at hl 1 rfl) ?_
      obtain ⟨g4, hm⟩ := grd_s hm
      refine al_97 C h dX12_look_15 g4 ?_
      refine lv_bipush (v := Int32.ofInt 32) C.1 C.2.1 dX12_look_16 (by decide) ?_
      obtain ⟨g5, hm⟩ := grd_s hm
      refine z_icmp_ne (tgt := 27) C dX12_look_18 (by decide) g5 (by decide) (fun c6 => ?_) (fun c6 => ?_)
      · have hm := ite_f c6 hm
        exact lm_look_27 (N := N) C hr hlk  (lv_sub hl [0, 1] rfl) h hm
      · have hm := ite_t c6 hm
        refine lv_iinc (v := Int32.ofInt (x2 + 1)) (lv' := [(2, .int (Int32.ofInt (x2 + 1))), (0, .ref (g 0))]) C.1 C.2.1 dX12_look_21 hl (k := 1) rfl (c32_add _ _) (by decide) rfl (fun ls hl => ?_)
        refine lv_goto (tgt := 2) C.1 C.2.1 dX12_look_24 (by decide) ?_
        exact hrec2 (lv_sub hl [1, 0] rfl) h hm
set_option maxHeartbeats 4000000 in
set_option maxRecDepth 100000 in
theorem rc_look (l : Launch) (D : va_G) (k : Nat → ClassId) (g : Nat → Nat) (N : Nat) (σ : St) (x1 : Int) (r : St) (hm : r_look N σ x1 = some r) : Mv l yX12_look (.code yX12_look cX12_look 4 none :: rW) { frames := 2, cells := 0, slots := 0, locals := 46 } [.ref (g 0), .int (Int32.ofInt x1)] D (TYs k) (mW k g σ) (fun _ => True) Unit (fun _ => True) (fun _ => mW k g r) 0 0 := by
  intro sz
  refine x_met (cc := cX12_look) (maxL := 4) (ret := none) (by decide) rfl (Nat.le_of_ble_eq_true rfl) ?_
  intro p e s m below meth c ls C hX hsz hr hlk hmn hl h
  have hl : lv_has ls 4 [(0, .ref (g 0)), (1, .int (Int32.ofInt x1))] := hl
  rw [r_look] at hm
  refine lv_iload_n C.1 C.2.1 dX12_look_0 rfl (lv_at hl 1 rfl) ?_
  refine lv_istore_n (lv' := [(2, .int (Int32.ofInt x1)), (0, .ref (g 0)), (1, .int (Int32.ofInt x1))]) C.1 C.2.1 dX12_look_1 rfl hl (by decide) rfl (fun ls hl => ?_)
  exact lm_look_2 (N := N) C hr hlk  N (lv_sub hl [1, 0] rfl) h hm
end L_look
section L_advance
variable {p : Program} {l : Launch} {e : Env} {s : State} {m : MethodId} {args : Array Value} {below : List Frame} {meth : Method} {c : Code} {D : va_G} {A : Nat → Prop} {k : Nat → ClassId} {g : Nat → Nat} {N : Nat} {cd : Cond}
set_option maxHeartbeats 4000000 in
set_option maxRecDepth 100000 in
theorem rc_advance (l : Launch) (D : va_G) (k : Nat → ClassId) (g : Nat → Nat) (N : Nat) (σ : St)  (r : St) (hm : r_advance N σ  = some r) : Mv l yX12_advance (.code yX12_advance cX12_advance 1 none :: rW) { frames := 3, cells := 0, slots := 0, locals := 69 } [.ref (g 0)] D (TYs k) (mW k g σ) (fun _ => True) Unit (fun _ => True) (fun _ => mW k g r) 0 0 := by
  intro sz
  refine x_met (cc := cX12_advance) (maxL := 1) (ret := none) (by decide) rfl (Nat.le_of_ble_eq_true rfl) ?_
  intro p e s m below meth c ls C hX hsz hr hlk hmn hl h
  have hl : lv_has ls 1 [(0, .ref (g 0))] := hl
  rw [r_advance] at hm
  refine lv_aload_n C.1 C.2.1 dX12_advance_0 rfl (lv_at hl 0 rfl) ?_
  refine lv_aload_n C.1 C.2.1 dX12_advance_1 rfl (lv_at hl 0 rfl) ?_
  refine fg_5 C h dX12_advance_2 ?_
  obtain ⟨r1, e2, hm⟩ := obd_s hm
  refine q_callVv C h (rc_look l D k g N σ (fl σ 5 0) r1 e2) (cwV 1 C.2.2.1 (gR_look _) rfl rfl rfl hd_look ⟨Nat.le_of_ble_eq_true rfl, Nat.le_of_ble_eq_true rfl⟩) rfl hl.1 rfl (Nat.le_of_ble_eq_true rfl) dX12_advance_5 ⟨Nat.le_of_ble_eq_true rfl, Nat.le_of_ble_eq_true rfl⟩ (fun H locs h => ?_)
  cases hm
  exact q_vret C h hr hlk dX12_advance_8
end L_advance
section L_isSign
variable {p : Program} {l : Launch} {e : Env} {s : State} {m : MethodId} {args : Array Value} {below : List Frame} {meth : Method} {c : Code} {D : va_G} {A : Nat → Prop} {k : Nat → ClassId} {g : Nat → Nat} {N : Nat} {cd : Cond}
set_option maxHeartbeats 4000000 in
set_option maxRecDepth 100000 in
theorem rc_isSign (l : Launch) (D : va_G) (k : Nat → ClassId) (g : Nat → Nat) (N : Nat) (σ : St) (x1 : Int) (r : St × Int) (hm : r_isSign N σ x1 = some r) : Mi l yX12_isSign (.code yX12_isSign cX12_isSign 2 (some .boolean) :: rW) { frames := 0, cells := 0, slots := 0, locals := 0 } [.ref (g 0), .int (Int32.ofInt x1)] D (TYs k) (mW k g σ) (fun _ => True) Unit (fun v _ => v = Int32.ofInt r.2) (fun _ => mW k g r.1) 0 0 := by
  intro sz
  refine x_met (cc := cX12_isSign) (maxL := 2) (ret := (some .boolean)) (by decide) rfl (Nat.le_of_ble_eq_true rfl) ?_
  intro p e s m below meth c ls C hX hsz hr hlk hmn hl h
  have hl : lv_has ls 2 [(0, .ref (g 0)), (1, .int (Int32.ofInt x1))] := hl
  rw [r_isSign] at hm
  refine lv_aload_n C.1 C.2.1 dX12_isSign_0 rfl (lv_at hl 0 rfl) ?_
  refine fg_3 C h dX12_isSign_1 ?_
  refine lv_bipush (v := Int32.ofInt 6) C.1 C.2.1 dX12_isSign_4 (by decide) ?_
  obtain ⟨g1, hm⟩ := grd_s hm
  refine z_icmp_ne (tgt := 21) C dX12_isSign_6 (by decide) g1 (by decide) (fun c2 => ?_) (fun c2 => ?_)
  · have hm := ite_f c2 hm
    refine lv_iconst (v := Int32.ofInt 0) C.1 C.2.1 dX12_isSign_21 (by decide) ?_
    cases hm
    exact q_iret C h hr hlk dX12_isSign_22 rfl
  · have hm := ite_t c2 hm
    refine lv_aload_n C.1 C.2.1 dX12_isSign_9 rfl (lv_at hl 0 rfl) ?_
    refine fg_6 C h dX12_isSign_10 ?_
    refine lv_iload_n C.1 C.2.1 dX12_isSign_13 rfl (lv_at hl 1 rfl) ?_
    obtain ⟨g3, hm⟩ := grd_s hm
    obtain ⟨g4, hm⟩ := grd_s hm
    refine z_icmp_ne (tgt := 21) C dX12_isSign_14 (by decide) g3 g4 (fun c5 => ?_) (fun c5 => ?_)
    · have hm := ite_f c5 hm
      refine lv_iconst (v := Int32.ofInt 0) C.1 C.2.1 dX12_isSign_21 (by decide) ?_
      cases hm
      exact q_iret C h hr hlk dX12_isSign_22 rfl
    · have hm := ite_t c5 hm
      refine lv_iconst (v := Int32.ofInt 1) C.1 C.2.1 dX12_isSign_17 (by decide) ?_
      refine lv_goto (tgt := 22) C.1 C.2.1 dX12_isSign_18 (by decide) ?_
      cases hm
      exact q_iret C h hr hlk dX12_isSign_22 rfl
end L_isSign
section L_isOpToken
variable {p : Program} {l : Launch} {e : Env} {s : State} {m : MethodId} {args : Array Value} {below : List Frame} {meth : Method} {c : Code} {D : va_G} {A : Nat → Prop} {k : Nat → ClassId} {g : Nat → Nat} {N : Nat} {cd : Cond}
set_option maxHeartbeats 4000000 in
set_option maxRecDepth 100000 in
theorem rc_isOpToken (l : Launch) (D : va_G) (k : Nat → ClassId) (g : Nat → Nat) (N : Nat) (σ : St)  (r : St × Int) (hm : r_isOpToken N σ  = some r) : Mi l yX12_isOpToken (.code yX12_isOpToken cX12_isOpToken 1 (some .boolean) :: rW) { frames := 1, cells := 0, slots := 0, locals := 20 } [.ref (g 0)] D (TYs k) (mW k g σ) (fun _ => True) Unit (fun v _ => v = Int32.ofInt r.2) (fun _ => mW k g r.1) 0 0 := by
  intro sz
  refine x_met (cc := cX12_isOpToken) (maxL := 1) (ret := (some .boolean)) (by decide) rfl (Nat.le_of_ble_eq_true rfl) ?_
  intro p e s m below meth c ls C hX hsz hr hlk hmn hl h
  have hl : lv_has ls 1 [(0, .ref (g 0))] := hl
  rw [r_isOpToken] at hm
  refine lv_aload_n C.1 C.2.1 dX12_isOpToken_0 rfl (lv_at hl 0 rfl) ?_
  refine fg_3 C h dX12_isOpToken_1 ?_
  refine lv_bipush (v := Int32.ofInt 6) C.1 C.2.1 dX12_isOpToken_4 (by decide) ?_
  obtain ⟨g1, hm⟩ := grd_s hm
  refine z_icmp_ne (tgt := 23) C dX12_isOpToken_6 (by decide) g1 (by decide) (fun c2 => ?_) (fun c2 => ?_)
  · have hm := ite_f c2 hm
    refine lv_iconst (v := Int32.ofInt 0) C.1 C.2.1 dX12_isOpToken_23 (by decide) ?_
    cases hm
    exact q_iret C h hr hlk dX12_isOpToken_24 rfl
  · have hm := ite_t c2 hm
    refine lv_aload_n C.1 C.2.1 dX12_isOpToken_9 rfl (lv_at hl 0 rfl) ?_
    refine fg_6 C h dX12_isOpToken_10 ?_
    obtain ⟨r3, e4, hm⟩ := obd_s hm
    refine q_callSi C h (rc_isOp l D k N (fl σ 6 0) r3 e4) (cwS 1 C.2.2.1 (gR_isOp _) rfl rfl rfl hd_isOp ⟨Nat.le_of_ble_eq_true rfl, Nat.le_of_ble_eq_true rfl⟩) rfl hl.1 rfl (Nat.le_of_ble_eq_true rfl) dX12_isOpToken_13 ⟨Nat.le_of_ble_eq_true rfl, Nat.le_of_ble_eq_true rfl⟩ (fun H locs h => ?_)
    obtain ⟨g5, hm⟩ := grd_s hm
    refine z_if_eq (tgt := 23) C dX12_isOpToken_16 (by decide) g5 (fun c6 => ?_) (fun c6 => ?_)
    · have hm := ite_t c6 hm
      refine lv_iconst (v := Int32.ofInt 0) C.1 C.2.1 dX12_isOpToken_23 (by decide) ?_
      cases hm
      exact q_iret C h hr hlk dX12_isOpToken_24 rfl
    · have hm := ite_f c6 hm
      refine lv_iconst (v := Int32.ofInt 1) C.1 C.2.1 dX12_isOpToken_19 (by decide) ?_
      refine lv_goto (tgt := 24) C.1 C.2.1 dX12_isOpToken_20 (by decide) ?_
      cases hm
      exact q_iret C h hr hlk dX12_isOpToken_24 rfl
end L_isOpToken
section L_functionHere
variable {p : Program} {l : Launch} {e : Env} {s : State} {m : MethodId} {args : Array Value} {below : List Frame} {meth : Method} {c : Code} {D : va_G} {A : Nat → Prop} {k : Nat → ClassId} {g : Nat → Nat} {N : Nat} {cd : Cond}
set_option maxHeartbeats 4000000 in
set_option maxRecDepth 100000 in
theorem lm_functionHere_65 {r : St × Int} (C : Cx p s m args c cX12_functionHere RX12 (cd :: rW) D (TYs k) 6) (hr : meth.sig.returnType = (some .int)) (hlk : meth.locks = false) {rec6 : St → Int → Int → Int → Option (St × Int)} (hrec6 : ∀ {ls : Array Slot} {H : Heap} {locs : List Loc} {σ : St} {x1 : Int} {x2 : Int} {x3 : Int}, lv_has ls 6 [(0, .ref (g 0)), (1, .int (Int32.ofInt x1)), (2, .int (Int32.ofInt x2)), (3, .int (Int32.ofInt x3))] → Hp D A s.heap H locs (mW k g σ) → rec6 σ x1 x2 x3 = some r → W p l e { frames := 1, cells := 0, slots := 0, locals := 21 } s m args below meth c H locs 0 0 (MQ below (va_Qi (fun v (_ : Unit) => v = Int32.ofInt r.2) (fun _ t => PostW D (TYs k) A (mW k g r.1) t) A) args s 0 0 A) (F0 m 6 ls [])) {rec18 : St → Int → Int → Int → Int → Int → Option (St × Int)} (hrec18 : ∀ {ls : Array Slot} {H : Heap} {locs : List Loc} {σ : St} {x1 : Int} {x2 : Int} {x3 : Int} {x4 : Int} {x5 : Int}, lv_has ls 6 [(0, .ref (g 0)), (1, .int (Int32.ofInt x1)), (2, .int (Int32.ofInt x2)), (3, .int (Int32.ofInt x3)), (4, .int (Int32.ofInt x4)), (5, .int (Int32.ofInt x5))] → Hp D A s.heap H locs (mW k g σ) → rec18 σ x1 x2 x3 x4 x5 = some r → W p l e { frames := 1, cells := 0, slots := 0, locals := 21 } s m args below meth c H locs 0 0 (MQ below (va_Qi (fun v (_ : Unit) => v = Int32.ofInt r.2) (fun _ t => PostW D (TYs k) A (mW k g r.1) t) A) args s 0 0 A) (F0 m 18 ls [])) {ls : Array Slot} {H : Heap} {locs : List Loc} {σ : St} {x1 : Int} {x2 : Int} {x3 : Int} {x4 : Int} {s0 : Int} (hl : lv_has ls 6 [(0, .ref (g 0)), (1, .int (Int32.ofInt x1)), (2, .int (Int32.ofInt x2)), (3, .int (Int32.ofInt x3)), (4, .int (Int32.ofInt x4))]) (h : Hp D A s.heap H locs (mW k g σ)) (hm : r_functionHere_65 N rec6 rec18 σ x1 x2 x3 x4 s0 = some r) : W p l e { frames := 1, cells := 0, slots := 0, locals := 21 } s m args below meth c H locs 0 0 (MQ below (va_Qi (fun v (_ : Unit) => v = Int32.ofInt r.2) (fun _ t => PostW D (TYs k) A (mW k g r.1) t) A) args s 0 0 A) (F0 m 65 ls [.int (Int32.ofInt s0)]) := by
  rw [r_functionHere_65] at hm
  refine lv_istore (lv' := [(5, .int (Int32.ofInt s0)), (0, .ref (g 0)), (1, .int (Int32.ofInt x1)), (2, .int (Int32.ofInt x2)), (3, .int (Int32.ofInt x3)), (4, .int (Int32.ofInt x4))]) C.1 C.2.1 dX12_functionHere_65 hl (by decide) rfl (fun ls hl => ?_)
  refine lv_iinc (v := Int32.ofInt (x4 + 1)) (lv' := [(4, .int (Int32.ofInt (x4 + 1))), (5, .int (Int32.ofInt s0)), (0, .ref (g 0)), (1, .int (Int32.ofInt x1)), (2, .int (Int32.ofInt x2)), (3, .int (Int32.ofInt x3))]) C.1 C.2.1 dX12_functionHere_67 hl (k := 5) rfl (c32_add _ _) (by decide) rfl (fun ls hl => ?_)
  refine lv_goto (tgt := 18) C.1 C.2.1 dX12_functionHere_70 (by decide) ?_
  exact hrec18 (lv_sub hl [2, 3, 4, 5, 0, 1] rfl) h hm
set_option maxHeartbeats 4000000 in
set_option maxRecDepth 100000 in
theorem lm_functionHere_64 {r : St × Int} (C : Cx p s m args c cX12_functionHere RX12 (cd :: rW) D (TYs k) 6) (hr : meth.sig.returnType = (some .int)) (hlk : meth.locks = false) {rec6 : St → Int → Int → Int → Option (St × Int)} (hrec6 : ∀ {ls : Array Slot} {H : Heap} {locs : List Loc} {σ : St} {x1 : Int} {x2 : Int} {x3 : Int}, lv_has ls 6 [(0, .ref (g 0)), (1, .int (Int32.ofInt x1)), (2, .int (Int32.ofInt x2)), (3, .int (Int32.ofInt x3))] → Hp D A s.heap H locs (mW k g σ) → rec6 σ x1 x2 x3 = some r → W p l e { frames := 1, cells := 0, slots := 0, locals := 21 } s m args below meth c H locs 0 0 (MQ below (va_Qi (fun v (_ : Unit) => v = Int32.ofInt r.2) (fun _ t => PostW D (TYs k) A (mW k g r.1) t) A) args s 0 0 A) (F0 m 6 ls [])) {rec18 : St → Int → Int → Int → Int → Int → Option (St × Int)} (hrec18 : ∀ {ls : Array Slot} {H : Heap} {locs : List Loc} {σ : St} {x1 : Int} {x2 : Int} {x3 : Int} {x4 : Int} {x5 : Int}, lv_has ls 6 [(0, .ref (g 0)), (1, .int (Int32.ofInt x1)), (2, .int (Int32.ofInt x2)), (3, .int (Int32.ofInt x3)), (4, .int (Int32.ofInt x4)), (5, .int (Int32.ofInt x5))] → Hp D A s.heap H locs (mW k g σ) → rec18 σ x1 x2 x3 x4 x5 = some r → W p l e { frames := 1, cells := 0, slots := 0, locals := 21 } s m args below meth c H locs 0 0 (MQ below (va_Qi (fun v (_ : Unit) => v = Int32.ofInt r.2) (fun _ t => PostW D (TYs k) A (mW k g r.1) t) A) args s 0 0 A) (F0 m 18 ls [])) {ls : Array Slot} {H : Heap} {locs : List Loc} {σ : St} {x1 : Int} {x2 : Int} {x3 : Int} {x4 : Int} (hl : lv_has ls 6 [(0, .ref (g 0)), (1, .int (Int32.ofInt x1)), (2, .int (Int32.ofInt x2)), (3, .int (Int32.ofInt x3)), (4, .int (Int32.ofInt x4))]) (h : Hp D A s.heap H locs (mW k g σ)) (hm : r_functionHere_64 N rec6 rec18 σ x1 x2 x3 x4 = some r) : W p l e { frames := 1, cells := 0, slots := 0, locals := 21 } s m args below meth c H locs 0 0 (MQ below (va_Qi (fun v (_ : Unit) => v = Int32.ofInt r.2) (fun _ t => PostW D (TYs k) A (mW k g r.1) t) A) args s 0 0 A) (F0 m 64 ls []) := by
  rw [r_functionHere_64] at hm
  refine lv_iconst (v := Int32.ofInt 0) C.1 C.2.1 dX12_functionHere_64 (by decide) ?_
  exact lm_functionHere_65 (N := N) C hr hlk hrec6 hrec18 (lv_sub hl [0, 1, 2, 3, 4] rfl) h hm
set_option maxHeartbeats 4000000 in
set_option maxRecDepth 100000 in
theorem lm_functionHere_94 {r : St × Int} (C : Cx p s m args c cX12_functionHere RX12 (cd :: rW) D (TYs k) 6) (hr : meth.sig.returnType = (some .int)) (hlk : meth.locks = false) {rec6 : St → Int → Int → Int → Option (St × Int)} (hrec6 : ∀ {ls : Array Slot} {H : Heap} {locs : List Loc} {σ : St} {x1 : Int} {x2 : Int} {x3 : Int}, lv_has ls 6 [(0, .ref (g 0)), (1, .int (Int32.ofInt x1)), (2, .int (Int32.ofInt x2)), (3, .int (Int32.ofInt x3))] → Hp D A s.heap H locs (mW k g σ) → rec6 σ x1 x2 x3 = some r → W p l e { frames := 1, cells := 0, slots := 0, locals := 21 } s m args below meth c H locs 0 0 (MQ below (va_Qi (fun v (_ : Unit) => v = Int32.ofInt r.2) (fun _ t => PostW D (TYs k) A (mW k g r.1) t) A) args s 0 0 A) (F0 m 6 ls [])) {ls : Array Slot} {H : Heap} {locs : List Loc} {σ : St} {x1 : Int} {x2 : Int} {x3 : Int} {x4 : Int} (hl : lv_has ls 6 [(0, .ref (g 0)), (1, .int (Int32.ofInt x1)), (2, .int (Int32.ofInt x2)), (3, .int (Int32.ofInt x3)), (4, .int (Int32.ofInt x4))]) (h : Hp D A s.heap H locs (mW k g σ)) (hm : r_functionHere_94 N rec6 σ x1 x2 x3 x4 = some r) : W p l e { frames := 1, cells := 0, slots := 0, locals := 21 } s m args below meth c H locs 0 0 (MQ below (va_Qi (fun v (_ : Unit) => v = Int32.ofInt r.2) (fun _ t => PostW D (TYs k) A (mW k g r.1) t) A) args s 0 0 A) (F0 m 94 ls []) := by
  rw [r_functionHere_94] at hm
  refine lv_iload_n C.1 C.2.1 dX12_functionHere_94 rfl (lv_at hl 1 rfl) ?_
  refine lv_iload C.1 C.2.1 dX12_functionHere_95 (lv_at hl 4 rfl) ?_
  refine lv_iconst (v := Int32.ofInt 1) C.1 C.2.1 dX12_functionHere_97 (by decide) ?_
  refine z_iadd C dX12_functionHere_98 ?_
  refine z_iadd C dX12_functionHere_99 ?_
  obtain ⟨v18, e19, hm⟩ := bnd_s hm
  rw [e19]
  refine lv_istore_n (lv' := [(1, .int (Int32.ofInt v18)), (0, .ref (g 0)), (2, .int (Int32.ofInt x2)), (3, .int (Int32.ofInt x3)), (4, .int (Int32.ofInt x4))]) C.1 C.2.1 dX12_functionHere_100 rfl hl (by decide) rfl (fun ls hl => ?_)
  refine lv_iinc (v := Int32.ofInt (x3 + 1)) (lv' := [(3, .int (Int32.ofInt (x3 + 1))), (1, .int (Int32.ofInt v18)), (0, .ref (g 0)), (2, .int (Int32.ofInt x2)), (4, .int (Int32.ofInt x4))]) C.1 C.2.1 dX12_functionHere_101 hl (k := 3) rfl (c32_add _ _) (by decide) rfl (fun ls hl => ?_)
  refine lv_goto (tgt := 6) C.1 C.2.1 dX12_functionHere_104 (by decide) ?_
  exact hrec6 (lv_sub hl [2, 1, 3, 0] rfl) h hm
set_option maxHeartbeats 4000000 in
set_option maxRecDepth 100000 in
theorem lm_functionHere_18 {r : St × Int} (C : Cx p s m args c cX12_functionHere RX12 (cd :: rW) D (TYs k) 6) (hr : meth.sig.returnType = (some .int)) (hlk : meth.locks = false) {rec6 : St → Int → Int → Int → Option (St × Int)} (hrec6 : ∀ {ls : Array Slot} {H : Heap} {locs : List Loc} {σ : St} {x1 : Int} {x2 : Int} {x3 : Int}, lv_has ls 6 [(0, .ref (g 0)), (1, .int (Int32.ofInt x1)), (2, .int (Int32.ofInt x2)), (3, .int (Int32.ofInt x3))] → Hp D A s.heap H locs (mW k g σ) → rec6 σ x1 x2 x3 = some r → W p l e { frames := 1, cells := 0, slots := 0, locals := 21 } s m args below meth c H locs 0 0 (MQ below (va_Qi (fun v (_ : Unit) => v = Int32.ofInt r.2) (fun _ t => PostW D (TYs k) A (mW k g r.1) t) A) args s 0 0 A) (F0 m 6 ls [])) (n : Nat) : ∀ {ls : Array Slot} {H : Heap} {locs : List Loc} {σ : St} {x1 : Int} {x2 : Int} {x3 : Int} {x4 : Int} {x5 : Int}, lv_has ls 6 [(0, .ref (g 0)), (1, .int (Int32.ofInt x1)), (2, .int (Int32.ofInt x2)), (3, .int (Int32.ofInt x3)), (4, .int (Int32.ofInt x4)), (5, .int (Int32.ofInt x5))] → Hp D A s.heap H locs (mW k g σ) → r_functionHere_18 N rec6 n σ x1 x2 x3 x4 x5 = some r → W p l e { frames := 1, cells := 0, slots := 0, locals := 21 } s m args below meth c H locs 0 0 (MQ below (va_Qi (fun v (_ : Unit) => v = Int32.ofInt r.2) (fun _ t => PostW D (TYs k) A (mW k g r.1) t) A) args s 0 0 A) (F0 m 18 ls []) := by
  induction n with
  | zero => intro ls H locs σ x1 x2 x3 x4 x5 hl h hm; cases (show none = some r from hm)
  | succ n hrec18 =>
    intro ls H locs σ x1 x2 x3 x4 x5 hl h hm
    rw [r_functionHere_18] at hm
    refine lv_aload_n C.1 C.2.1 dX12_functionHere_18 rfl (lv_at hl 0 rfl) ?_
    refine fg_14 C h dX12_functionHere_19 ?_
    refine lv_iload_n C.1 C.2.1 dX12_functionHere_22 rfl (lv_at hl 1 rfl) ?_
    refine lv_iload C.1 C.2.1 dX12_functionHere_23 (lv_at hl 4 rfl) ?_
    refine z_iadd C dX12_functionHere_25 ?_
    obtain ⟨g3, hm⟩ := grd_s hm
    refine al_96 C h dX12_functionHere_26 g3 ?_
    refine lv_bipush (v := Int32.ofInt 32) C.1 C.2.1 dX12_functionHere_27 (by decide) ?_
    obtain ⟨g4, hm⟩ := grd_s hm
    refine z_icmp_eq (tgt := 73) C dX12_functionHere_29 (by decide) g4 (by decide) (fun c5 => ?_) (fun c5 => ?_)
    · have hm := ite_t c5 hm
      refine lv_iload C.1 C.2.1 dX12_functionHere_73 (lv_at hl 5 rfl) ?_
      obtain ⟨g6, hm⟩ := grd_s hm
      refine z_if_eq (tgt := 94) C dX12_functionHere_75 (by decide) g6 (fun c7 => ?_) (fun c7 => ?_)
      · have hm := ite_t c7 hm
        exact lm_functionHere_94 (N := N) C hr hlk hrec6 (lv_sub hl [0, 1, 2, 3, 4] rfl) h hm
      · have hm := ite_f c7 hm
        refine lv_iload C.1 C.2.1 dX12_functionHere_78 (lv_at hl 4 rfl) ?_
        refine lv_aload_n C.1 C.2.1 dX12_functionHere_80 rfl (lv_at hl 0 rfl) ?_
        refine fg_5 C h dX12_functionHere_81 ?_
        refine lv_aload_n C.1 C.2.1 dX12_functionHere_84 rfl (lv_at hl 0 rfl) ?_
        refine fg_4 C h dX12_functionHere_85 ?_
        refine z_isub C dX12_functionHere_88 ?_
        obtain ⟨g8, hm⟩ := grd_s hm
        obtain ⟨g9, hm⟩ := grd_s hm
        refine z_icmp_ne (tgt := 94) C dX12_functionHere_89 (by decide) g8 g9 (fun c10 => ?_) (fun c10 => ?_)
        · have hm := ite_f c10 hm
          exact lm_functionHere_94 (N := N) C hr hlk hrec6 (lv_sub hl [0, 1, 2, 3, 4] rfl) h hm
        · have hm := ite_t c10 hm
          refine lv_iload_n C.1 C.2.1 dX12_functionHere_92 rfl (lv_at hl 3 rfl) ?_
          refine lv_istore_n (lv' := [(2, .int (Int32.ofInt x3)), (0, .ref (g 0)), (1, .int (Int32.ofInt x1)), (3, .int (Int32.ofInt x3)), (4, .int (Int32.ofInt x4)), (5, .int (Int32.ofInt x5))]) C.1 C.2.1 dX12_functionHere_93 rfl hl (by decide) rfl (fun ls hl => ?_)
          exact lm_functionHere_94 (N := N) C hr hlk hrec6 (lv_sub hl [1, 2, 0, 3, 4] rfl) h hm
    · have hm := ite_f c5 hm
      refine lv_iload C.1 C.2.1 dX12_functionHere_32 (lv_at hl 5 rfl) ?_
      obtain ⟨g11, hm⟩ := grd_s hm
      refine z_if_eq (tgt := 64) C dX12_functionHere_34 (by decide) g11 (fun c12 => ?_) (fun c12 => ?_)
      · have hm := ite_t c12 hm
        exact lm_functionHere_64 (N := N) C hr hlk hrec6 hrec18 (lv_sub hl [0, 1, 2, 3, 4] rfl) h hm
      · have hm := ite_f c12 hm
        refine lv_aload_n C.1 C.2.1 dX12_functionHere_37 rfl (lv_at hl 0 rfl) ?_
        refine lv_aload_n C.1 C.2.1 dX12_functionHere_38 rfl (lv_at hl 0 rfl) ?_
        refine fg_4 C h dX12_functionHere_39 ?_
        refine lv_iload C.1 C.2.1 dX12_functionHere_42 (lv_at hl 4 rfl) ?_
        refine z_iadd C dX12_functionHere_44 ?_
        obtain ⟨r13, e14, hm⟩ := obd_s hm
        refine q_callVi C h (rc_byteAt l D k g N σ ((fl σ 4 0) + x4) r13 e14) (cwV 1 C.2.2.1 (gR_byteAt _) rfl rfl rfl hd_byteAt ⟨Nat.le_of_ble_eq_true rfl, Nat.le_of_ble_eq_true rfl⟩) rfl hl.1 rfl (Nat.le_of_ble_eq_true rfl) dX12_functionHere_45 ⟨Nat.le_of_ble_eq_true rfl, Nat.le_of_ble_eq_true rfl⟩ (fun H locs h => ?_)
        refine lv_aload_n C.1 C.2.1 dX12_functionHere_48 rfl (lv_at hl 0 rfl) ?_
        refine fg_14 C h dX12_functionHere_49 ?_
        refine lv_iload_n C.1 C.2.1 dX12_functionHere_52 rfl (lv_at hl 1 rfl) ?_
        refine lv_iload C.1 C.2.1 dX12_functionHere_53 (lv_at hl 4 rfl) ?_
        refine z_iadd C dX12_functionHere_55 ?_
        refine al_96 C h dX12_functionHere_56 g3 ?_
        obtain ⟨g15, hm⟩ := grd_s hm
        obtain ⟨g16, hm⟩ := grd_s hm
        refine z_icmp_ne (tgt := 64) C dX12_functionHere_57 (by decide) g15 g16 (fun c17 => ?_) (fun c17 => ?_)
        · have hm := ite_f c17 hm
          exact lm_functionHere_64 (N := N) C hr hlk hrec6 hrec18 (lv_sub hl [0, 1, 2, 3, 4] rfl) h hm
        · have hm := ite_t c17 hm
          refine lv_iconst (v := Int32.ofInt 1) C.1 C.2.1 dX12_functionHere_60 (by decide) ?_
          refine lv_goto (tgt := 65) C.1 C.2.1 dX12_functionHere_61 (by decide) ?_
          exact lm_functionHere_65 (N := N) C hr hlk hrec6 hrec18 (lv_sub hl [0, 1, 2, 3, 4] rfl) h hm
set_option maxHeartbeats 4000000 in
set_option maxRecDepth 100000 in
theorem lm_functionHere_6 {r : St × Int} (C : Cx p s m args c cX12_functionHere RX12 (cd :: rW) D (TYs k) 6) (hr : meth.sig.returnType = (some .int)) (hlk : meth.locks = false)  (n : Nat) : ∀ {ls : Array Slot} {H : Heap} {locs : List Loc} {σ : St} {x1 : Int} {x2 : Int} {x3 : Int}, lv_has ls 6 [(0, .ref (g 0)), (1, .int (Int32.ofInt x1)), (2, .int (Int32.ofInt x2)), (3, .int (Int32.ofInt x3))] → Hp D A s.heap H locs (mW k g σ) → r_functionHere_6 N  n σ x1 x2 x3 = some r → W p l e { frames := 1, cells := 0, slots := 0, locals := 21 } s m args below meth c H locs 0 0 (MQ below (va_Qi (fun v (_ : Unit) => v = Int32.ofInt r.2) (fun _ t => PostW D (TYs k) A (mW k g r.1) t) A) args s 0 0 A) (F0 m 6 ls []) := by
  induction n with
  | zero => intro ls H locs σ x1 x2 x3 hl h hm; cases (show none = some r from hm)
  | succ n hrec6 =>
    intro ls H locs σ x1 x2 x3 hl h hm
    rw [r_functionHere_6] at hm
    refine lv_iload_n C.1 C.2.1 dX12_functionHere_6 rfl (lv_at hl 3 rfl) ?_
    refine lv_bipush (v := Int32.ofInt 20) C.1 C.2.1 dX12_functionHere_7 (by decide) ?_
    obtain ⟨g1, hm⟩ := grd_s hm
    refine z_icmp_gt (tgt := 107) C dX12_functionHere_9 (by decide) g1 (by decide) (fun c2 => ?_) (fun c2 => ?_)
    · have hm := ite_t c2 hm
      refine lv_iload_n C.1 C.2.1 dX12_functionHere_107 rfl (lv_at hl 2 rfl) ?_
      cases hm
      exact q_iret C h hr hlk dX12_functionHere_108 rfl
    · have hm := ite_f c2 hm
      refine lv_iconst (v := Int32.ofInt 0) C.1 C.2.1 dX12_functionHere_12 (by decide) ?_
      refine lv_istore (lv' := [(4, .int (Int32.ofInt 0)), (0, .ref (g 0)), (1, .int (Int32.ofInt x1)), (2, .int (Int32.ofInt x2)), (3, .int (Int32.ofInt x3))]) C.1 C.2.1 dX12_functionHere_13 hl (by decide) rfl (fun ls hl => ?_)
      refine lv_iconst (v := Int32.ofInt 1) C.1 C.2.1 dX12_functionHere_15 (by decide) ?_
      refine lv_istore (lv' := [(5, .int (Int32.ofInt 1)), (4, .int (Int32.ofInt 0)), (0, .ref (g 0)), (1, .int (Int32.ofInt x1)), (2, .int (Int32.ofInt x2)), (3, .int (Int32.ofInt x3))]) C.1 C.2.1 dX12_functionHere_16 hl (by decide) rfl (fun ls hl => ?_)
      exact lm_functionHere_18 (N := N) C hr hlk hrec6 N (lv_sub hl [2, 3, 4, 5, 1, 0] rfl) h hm
set_option maxHeartbeats 4000000 in
set_option maxRecDepth 100000 in
theorem rc_functionHere (l : Launch) (D : va_G) (k : Nat → ClassId) (g : Nat → Nat) (N : Nat) (σ : St)  (r : St × Int) (hm : r_functionHere N σ  = some r) : Mi l yX12_functionHere (.code yX12_functionHere cX12_functionHere 6 (some .int) :: rW) { frames := 1, cells := 0, slots := 0, locals := 21 } [.ref (g 0)] D (TYs k) (mW k g σ) (fun _ => True) Unit (fun v _ => v = Int32.ofInt r.2) (fun _ => mW k g r.1) 0 0 := by
  intro sz
  refine x_met (cc := cX12_functionHere) (maxL := 6) (ret := (some .int)) (by decide) rfl (Nat.le_of_ble_eq_true rfl) ?_
  intro p e s m below meth c ls C hX hsz hr hlk hmn hl h
  have hl : lv_has ls 6 [(0, .ref (g 0))] := hl
  rw [r_functionHere] at hm
  refine lv_iconst (v := Int32.ofInt 0) C.1 C.2.1 dX12_functionHere_0 (by decide) ?_
  refine lv_istore_n (lv' := [(1, .int (Int32.ofInt 0)), (0, .ref (g 0))]) C.1 C.2.1 dX12_functionHere_1 rfl hl (by decide) rfl (fun ls hl => ?_)
  refine lv_iconst (v := Int32.ofInt (-1)) C.1 C.2.1 dX12_functionHere_2 (by decide) ?_
  refine lv_istore_n (lv' := [(2, .int (Int32.ofInt (-1))), (1, .int (Int32.ofInt 0)), (0, .ref (g 0))]) C.1 C.2.1 dX12_functionHere_3 rfl hl (by decide) rfl (fun ls hl => ?_)
  refine lv_iconst (v := Int32.ofInt 0) C.1 C.2.1 dX12_functionHere_4 (by decide) ?_
  refine lv_istore_n (lv' := [(3, .int (Int32.ofInt 0)), (2, .int (Int32.ofInt (-1))), (1, .int (Int32.ofInt 0)), (0, .ref (g 0))]) C.1 C.2.1 dX12_functionHere_5 rfl hl (by decide) rfl (fun ls hl => ?_)
  exact lm_functionHere_6 (N := N) C hr hlk  N (lv_sub hl [3, 2, 1, 0] rfl) h hm
end L_functionHere
section L_paramHere
variable {p : Program} {l : Launch} {e : Env} {s : State} {m : MethodId} {args : Array Value} {below : List Frame} {meth : Method} {c : Code} {D : va_G} {A : Nat → Prop} {k : Nat → ClassId} {g : Nat → Nat} {N : Nat} {cd : Cond}
set_option maxHeartbeats 4000000 in
set_option maxRecDepth 100000 in
theorem lm_paramHere_40 {r : St × Int} (C : Cx p s m args c cX12_paramHere RX12 (cd :: rW) D (TYs k) 2) (hr : meth.sig.returnType = (some .int)) (hlk : meth.locks = false) {rec2 : St → Int → Option (St × Int)} (hrec2 : ∀ {ls : Array Slot} {H : Heap} {locs : List Loc} {σ : St} {x1 : Int}, lv_has ls 2 [(0, .ref (g 0)), (1, .int (Int32.ofInt x1))] → Hp D A s.heap H locs (mW k g σ) → rec2 σ x1 = some r → W p l e { frames := 0, cells := 0, slots := 0, locals := 0 } s m args below meth c H locs 0 0 (MQ below (va_Qi (fun v (_ : Unit) => v = Int32.ofInt r.2) (fun _ t => PostW D (TYs k) A (mW k g r.1) t) A) args s 0 0 A) (F0 m 2 ls [])) {ls : Array Slot} {H : Heap} {locs : List Loc} {σ : St} {x1 : Int} (hl : lv_has ls 2 [(0, .ref (g 0)), (1, .int (Int32.ofInt x1))]) (h : Hp D A s.heap H locs (mW k g σ)) (hm : r_paramHere_40 N rec2 σ x1 = some r) : W p l e { frames := 0, cells := 0, slots := 0, locals := 0 } s m args below meth c H locs 0 0 (MQ below (va_Qi (fun v (_ : Unit) => v = Int32.ofInt r.2) (fun _ t => PostW D (TYs k) A (mW k g r.1) t) A) args s 0 0 A) (F0 m 40 ls []) := by
  rw [r_paramHere_40] at hm
  refine lv_iinc (v := Int32.ofInt (x1 + 1)) (lv' := [(1, .int (Int32.ofInt (x1 + 1))), (0, .ref (g 0))]) C.1 C.2.1 dX12_paramHere_40 hl (k := 1) rfl (c32_add _ _) (by decide) rfl (fun ls hl => ?_)
  refine lv_goto (tgt := 2) C.1 C.2.1 dX12_paramHere_43 (by decide) ?_
  exact hrec2 (lv_sub hl [1, 0] rfl) h hm
set_option maxHeartbeats 4000000 in
set_option maxRecDepth 100000 in
theorem lm_paramHere_2 {r : St × Int} (C : Cx p s m args c cX12_paramHere RX12 (cd :: rW) D (TYs k) 2) (hr : meth.sig.returnType = (some .int)) (hlk : meth.locks = false)  (n : Nat) : ∀ {ls : Array Slot} {H : Heap} {locs : List Loc} {σ : St} {x1 : Int}, lv_has ls 2 [(0, .ref (g 0)), (1, .int (Int32.ofInt x1))] → Hp D A s.heap H locs (mW k g σ) → r_paramHere_2 N  n σ x1 = some r → W p l e { frames := 0, cells := 0, slots := 0, locals := 0 } s m args below meth c H locs 0 0 (MQ below (va_Qi (fun v (_ : Unit) => v = Int32.ofInt r.2) (fun _ t => PostW D (TYs k) A (mW k g r.1) t) A) args s 0 0 A) (F0 m 2 ls []) := by
  induction n with
  | zero => intro ls H locs σ x1 hl h hm; cases (show none = some r from hm)
  | succ n hrec2 =>
    intro ls H locs σ x1 hl h hm
    rw [r_paramHere_2] at hm
    refine lv_iload_n C.1 C.2.1 dX12_paramHere_2 rfl (lv_at hl 1 rfl) ?_
    refine lv_aload_n C.1 C.2.1 dX12_paramHere_3 rfl (lv_at hl 0 rfl) ?_
    refine fg_38 C h dX12_paramHere_4 ?_
    obtain ⟨g1, hm⟩ := grd_s hm
    obtain ⟨g2, hm⟩ := grd_s hm
    refine z_icmp_ge (tgt := 46) C dX12_paramHere_7 (by decide) g1 g2 (fun c3 => ?_) (fun c3 => ?_)
    · have hm := ite_f c3 hm
      refine lv_iconst (v := Int32.ofInt (-1)) C.1 C.2.1 dX12_paramHere_46 (by decide) ?_
      cases hm
      exact q_iret C h hr hlk dX12_paramHere_47 rfl
    · have hm := ite_t c3 hm
      refine lv_aload_n C.1 C.2.1 dX12_paramHere_10 rfl (lv_at hl 0 rfl) ?_
      refine fg_39 C h dX12_paramHere_11 ?_
      refine lv_iload_n C.1 C.2.1 dX12_paramHere_14 rfl (lv_at hl 1 rfl) ?_
      obtain ⟨g4, hm⟩ := grd_s hm
      refine al_76 C h dX12_paramHere_15 g4 ?_
      refine lv_aload_n C.1 C.2.1 dX12_paramHere_16 rfl (lv_at hl 0 rfl) ?_
      refine fg_7 C h dX12_paramHere_17 ?_
      obtain ⟨g5, hm⟩ := grd_s hm
      obtain ⟨g6, hm⟩ := grd_s hm
      refine W.lcmp C.1 C.2.1 dX12_paramHere_20 ?_
      refine z_lcmp_ne (tgt := 40) C dX12_paramHere_21 (by decide) g5 g6 (fun c7 => ?_) (fun c7 => ?_)
      · have hm := ite_f c7 hm
        exact lm_paramHere_40 (N := N) C hr hlk hrec2 (lv_sub hl [0, 1] rfl) h hm
      · have hm := ite_t c7 hm
        refine lv_aload_n C.1 C.2.1 dX12_paramHere_24 rfl (lv_at hl 0 rfl) ?_
        refine fg_40 C h dX12_paramHere_25 ?_
        refine lv_iload_n C.1 C.2.1 dX12_paramHere_28 rfl (lv_at hl 1 rfl) ?_
        refine al_75 C h dX12_paramHere_29 g4 ?_
        refine lv_aload_n C.1 C.2.1 dX12_paramHere_30 rfl (lv_at hl 0 rfl) ?_
        refine fg_8 C h dX12_paramHere_31 ?_
        obtain ⟨g8, hm⟩ := grd_s hm
        obtain ⟨g9, hm⟩ := grd_s hm
        refine W.lcmp C.1 C.2.1 dX12_paramHere_34 ?_
        refine z_lcmp_ne (tgt := 40) C dX12_paramHere_35 (by decide) g8 g9 (fun c10 => ?_) (fun c10 => ?_)
        · have hm := ite_f c10 hm
          exact lm_paramHere_40 (N := N) C hr hlk hrec2 (lv_sub hl [0, 1] rfl) h hm
        · have hm := ite_t c10 hm
          refine lv_iload_n C.1 C.2.1 dX12_paramHere_38 rfl (lv_at hl 1 rfl) ?_
          cases hm
          exact q_iret C h hr hlk dX12_paramHere_39 rfl
set_option maxHeartbeats 4000000 in
set_option maxRecDepth 100000 in
theorem rc_paramHere (l : Launch) (D : va_G) (k : Nat → ClassId) (g : Nat → Nat) (N : Nat) (σ : St)  (r : St × Int) (hm : r_paramHere N σ  = some r) : Mi l yX12_paramHere (.code yX12_paramHere cX12_paramHere 2 (some .int) :: rW) { frames := 0, cells := 0, slots := 0, locals := 0 } [.ref (g 0)] D (TYs k) (mW k g σ) (fun _ => True) Unit (fun v _ => v = Int32.ofInt r.2) (fun _ => mW k g r.1) 0 0 := by
  intro sz
  refine x_met (cc := cX12_paramHere) (maxL := 2) (ret := (some .int)) (by decide) rfl (Nat.le_of_ble_eq_true rfl) ?_
  intro p e s m below meth c ls C hX hsz hr hlk hmn hl h
  have hl : lv_has ls 2 [(0, .ref (g 0))] := hl
  rw [r_paramHere] at hm
  refine lv_iconst (v := Int32.ofInt 0) C.1 C.2.1 dX12_paramHere_0 (by decide) ?_
  refine lv_istore_n (lv' := [(1, .int (Int32.ofInt 0)), (0, .ref (g 0))]) C.1 C.2.1 dX12_paramHere_1 rfl hl (by decide) rfl (fun ls hl => ?_)
  exact lm_paramHere_2 (N := N) C hr hlk  N (lv_sub hl [1, 0] rfl) h hm
end L_paramHere
section L_definitionHere
variable {p : Program} {l : Launch} {e : Env} {s : State} {m : MethodId} {args : Array Value} {below : List Frame} {meth : Method} {c : Code} {D : va_G} {A : Nat → Prop} {k : Nat → ClassId} {g : Nat → Nat} {N : Nat} {cd : Cond}
set_option maxHeartbeats 4000000 in
set_option maxRecDepth 100000 in
theorem lm_definitionHere_55 {r : St × Int} (C : Cx p s m args c cX12_definitionHere RX12 (cd :: rW) D (TYs k) 2) (hr : meth.sig.returnType = (some .int)) (hlk : meth.locks = false) {rec2 : St → Int → Option (St × Int)} (hrec2 : ∀ {ls : Array Slot} {H : Heap} {locs : List Loc} {σ : St} {x1 : Int}, lv_has ls 2 [(0, .ref (g 0)), (1, .int (Int32.ofInt x1))] → Hp D A s.heap H locs (mW k g σ) → rec2 σ x1 = some r → W p l e { frames := 0, cells := 0, slots := 0, locals := 0 } s m args below meth c H locs 0 0 (MQ below (va_Qi (fun v (_ : Unit) => v = Int32.ofInt r.2) (fun _ t => PostW D (TYs k) A (mW k g r.1) t) A) args s 0 0 A) (F0 m 2 ls [])) {ls : Array Slot} {H : Heap} {locs : List Loc} {σ : St} {x1 : Int} (hl : lv_has ls 2 [(0, .ref (g 0)), (1, .int (Int32.ofInt x1))]) (h : Hp D A s.heap H locs (mW k g σ)) (hm : r_definitionHere_55 N rec2 σ x1 = some r) : W p l e { frames := 0, cells := 0, slots := 0, locals := 0 } s m args below meth c H locs 0 0 (MQ below (va_Qi (fun v (_ : Unit) => v = Int32.ofInt r.2) (fun _ t => PostW D (TYs k) A (mW k g r.1) t) A) args s 0 0 A) (F0 m 55 ls []) := by
  rw [r_definitionHere_55] at hm
  refine lv_iinc (v := Int32.ofInt (x1 + 1)) (lv' := [(1, .int (Int32.ofInt (x1 + 1))), (0, .ref (g 0))]) C.1 C.2.1 dX12_definitionHere_55 hl (k := 1) rfl (c32_add _ _) (by decide) rfl (fun ls hl => ?_)
  refine lv_goto (tgt := 2) C.1 C.2.1 dX12_definitionHere_58 (by decide) ?_
  exact hrec2 (lv_sub hl [1, 0] rfl) h hm
set_option maxHeartbeats 4000000 in
set_option maxRecDepth 100000 in
theorem lm_definitionHere_2 {r : St × Int} (C : Cx p s m args c cX12_definitionHere RX12 (cd :: rW) D (TYs k) 2) (hr : meth.sig.returnType = (some .int)) (hlk : meth.locks = false)  (n : Nat) : ∀ {ls : Array Slot} {H : Heap} {locs : List Loc} {σ : St} {x1 : Int}, lv_has ls 2 [(0, .ref (g 0)), (1, .int (Int32.ofInt x1))] → Hp D A s.heap H locs (mW k g σ) → r_definitionHere_2 N  n σ x1 = some r → W p l e { frames := 0, cells := 0, slots := 0, locals := 0 } s m args below meth c H locs 0 0 (MQ below (va_Qi (fun v (_ : Unit) => v = Int32.ofInt r.2) (fun _ t => PostW D (TYs k) A (mW k g r.1) t) A) args s 0 0 A) (F0 m 2 ls []) := by
  induction n with
  | zero => intro ls H locs σ x1 hl h hm; cases (show none = some r from hm)
  | succ n hrec2 =>
    intro ls H locs σ x1 hl h hm
    rw [r_definitionHere_2] at hm
    refine lv_iload_n C.1 C.2.1 dX12_definitionHere_2 rfl (lv_at hl 1 rfl) ?_
    refine lv_aload_n C.1 C.2.1 dX12_definitionHere_3 rfl (lv_at hl 0 rfl) ?_
    refine fg_36 C h dX12_definitionHere_4 ?_
    obtain ⟨g1, hm⟩ := grd_s hm
    obtain ⟨g2, hm⟩ := grd_s hm
    refine z_icmp_ge (tgt := 61) C dX12_definitionHere_7 (by decide) g1 g2 (fun c3 => ?_) (fun c3 => ?_)
    · have hm := ite_f c3 hm
      refine lv_iconst (v := Int32.ofInt (-1)) C.1 C.2.1 dX12_definitionHere_61 (by decide) ?_
      cases hm
      exact q_iret C h hr hlk dX12_definitionHere_62 rfl
    · have hm := ite_t c3 hm
      refine lv_aload_n C.1 C.2.1 dX12_definitionHere_10 rfl (lv_at hl 0 rfl) ?_
      refine fg_29 C h dX12_definitionHere_11 ?_
      refine lv_aload_n C.1 C.2.1 dX12_definitionHere_14 rfl (lv_at hl 0 rfl) ?_
      refine fg_37 C h dX12_definitionHere_15 ?_
      refine lv_iload_n C.1 C.2.1 dX12_definitionHere_18 rfl (lv_at hl 1 rfl) ?_
      obtain ⟨g4, hm⟩ := grd_s hm
      refine al_77 C h dX12_definitionHere_19 g4 ?_
      obtain ⟨g5, hm⟩ := grd_s hm
      refine al_83 C h dX12_definitionHere_20 g5 ?_
      refine lv_aload_n C.1 C.2.1 dX12_definitionHere_21 rfl (lv_at hl 0 rfl) ?_
      refine fg_7 C h dX12_definitionHere_22 ?_
      obtain ⟨g6, hm⟩ := grd_s hm
      obtain ⟨g7, hm⟩ := grd_s hm
      refine W.lcmp C.1 C.2.1 dX12_definitionHere_25 ?_
      refine z_lcmp_ne (tgt := 55) C dX12_definitionHere_26 (by decide) g6 g7 (fun c8 => ?_) (fun c8 => ?_)
      · have hm := ite_f c8 hm
        exact lm_definitionHere_55 (N := N) C hr hlk hrec2 (lv_sub hl [0, 1] rfl) h hm
      · have hm := ite_t c8 hm
        refine lv_aload_n C.1 C.2.1 dX12_definitionHere_29 rfl (lv_at hl 0 rfl) ?_
        refine fg_30 C h dX12_definitionHere_30 ?_
        refine lv_aload_n C.1 C.2.1 dX12_definitionHere_33 rfl (lv_at hl 0 rfl) ?_
        refine fg_37 C h dX12_definitionHere_34 ?_
        refine lv_iload_n C.1 C.2.1 dX12_definitionHere_37 rfl (lv_at hl 1 rfl) ?_
        refine al_77 C h dX12_definitionHere_38 g4 ?_
        refine al_82 C h dX12_definitionHere_39 g5 ?_
        refine lv_aload_n C.1 C.2.1 dX12_definitionHere_40 rfl (lv_at hl 0 rfl) ?_
        refine fg_8 C h dX12_definitionHere_41 ?_
        obtain ⟨g9, hm⟩ := grd_s hm
        obtain ⟨g10, hm⟩ := grd_s hm
        refine W.lcmp C.1 C.2.1 dX12_definitionHere_44 ?_
        refine z_lcmp_ne (tgt := 55) C dX12_definitionHere_45 (by decide) g9 g10 (fun c11 => ?_) (fun c11 => ?_)
        · have hm := ite_f c11 hm
          exact lm_definitionHere_55 (N := N) C hr hlk hrec2 (lv_sub hl [0, 1] rfl) h hm
        · have hm := ite_t c11 hm
          refine lv_aload_n C.1 C.2.1 dX12_definitionHere_48 rfl (lv_at hl 0 rfl) ?_
          refine fg_37 C h dX12_definitionHere_49 ?_
          refine lv_iload_n C.1 C.2.1 dX12_definitionHere_52 rfl (lv_at hl 1 rfl) ?_
          refine al_77 C h dX12_definitionHere_53 g4 ?_
          cases hm
          exact q_iret C h hr hlk dX12_definitionHere_54 rfl
set_option maxHeartbeats 4000000 in
set_option maxRecDepth 100000 in
theorem rc_definitionHere (l : Launch) (D : va_G) (k : Nat → ClassId) (g : Nat → Nat) (N : Nat) (σ : St)  (r : St × Int) (hm : r_definitionHere N σ  = some r) : Mi l yX12_definitionHere (.code yX12_definitionHere cX12_definitionHere 2 (some .int) :: rW) { frames := 0, cells := 0, slots := 0, locals := 0 } [.ref (g 0)] D (TYs k) (mW k g σ) (fun _ => True) Unit (fun v _ => v = Int32.ofInt r.2) (fun _ => mW k g r.1) 0 0 := by
  intro sz
  refine x_met (cc := cX12_definitionHere) (maxL := 2) (ret := (some .int)) (by decide) rfl (Nat.le_of_ble_eq_true rfl) ?_
  intro p e s m below meth c ls C hX hsz hr hlk hmn hl h
  have hl : lv_has ls 2 [(0, .ref (g 0))] := hl
  rw [r_definitionHere] at hm
  refine lv_iconst (v := Int32.ofInt 0) C.1 C.2.1 dX12_definitionHere_0 (by decide) ?_
  refine lv_istore_n (lv' := [(1, .int (Int32.ofInt 0)), (0, .ref (g 0))]) C.1 C.2.1 dX12_definitionHere_1 rfl hl (by decide) rfl (fun ls hl => ?_)
  exact lm_definitionHere_2 (N := N) C hr hlk  N (lv_sub hl [1, 0] rfl) h hm
end L_definitionHere
section L_begin
variable {p : Program} {l : Launch} {e : Env} {s : State} {m : MethodId} {args : Array Value} {below : List Frame} {meth : Method} {c : Code} {D : va_G} {A : Nat → Prop} {k : Nat → ClassId} {g : Nat → Nat} {N : Nat} {cd : Cond}
set_option maxHeartbeats 4000000 in
set_option maxRecDepth 100000 in
theorem rc_begin (l : Launch) (D : va_G) (k : Nat → ClassId) (g : Nat → Nat) (N : Nat) (σ : St) (x1 : Int) (x2 : Int) (x3 : Int) (r : St) (hm : r_begin N σ x1 x2 x3 = some r) : Mv l yX12_begin (.code yX12_begin cX12_begin 4 none :: rW) { frames := 0, cells := 0, slots := 0, locals := 0 } [.ref (g 0), .int (Int32.ofInt x1), .int (Int32.ofInt x2), .int (Int32.ofInt x3)] D (TYs k) (mW k g σ) (fun _ => True) Unit (fun _ => True) (fun _ => mW k g r) 0 0 := by
  intro sz
  refine x_met (cc := cX12_begin) (maxL := 4) (ret := none) (by decide) rfl (Nat.le_of_ble_eq_true rfl) ?_
  intro p e s m below meth c ls C hX hsz hr hlk hmn hl h
  have hl : lv_has ls 4 [(0, .ref (g 0)), (1, .int (Int32.ofInt x1)), (2, .int (Int32.ofInt x2)), (3, .int (Int32.ofInt x3))] := hl
  rw [r_begin] at hm
  refine lv_aload_n C.1 C.2.1 dX12_begin_0 rfl (lv_at hl 0 rfl) ?_
  refine fg_42 C h dX12_begin_1 ?_
  refine lv_aload_n C.1 C.2.1 dX12_begin_4 rfl (lv_at hl 0 rfl) ?_
  refine fg_41 C h dX12_begin_5 ?_
  refine lv_iload_n C.1 C.2.1 dX12_begin_8 rfl (lv_at hl 1 rfl) ?_
  obtain ⟨g1, hm⟩ := grd_s hm
  refine as_74 C h dX12_begin_9 g1 (fun H locs h => ?_)
  refine lv_aload_n C.1 C.2.1 dX12_begin_10 rfl (lv_at hl 0 rfl) ?_
  refine fg_43 C h dX12_begin_11 ?_
  refine lv_aload_n C.1 C.2.1 dX12_begin_14 rfl (lv_at hl 0 rfl) ?_
  refine fg_41 C h dX12_begin_15 ?_
  refine x_topi (y := Int32.ofInt (fl σ 41 0)) rfl ?_
  refine lv_iload_n C.1 C.2.1 dX12_begin_18 rfl (lv_at hl 2 rfl) ?_
  refine as_73 C h dX12_begin_19 g1 (fun H locs h => ?_)
  refine lv_aload_n C.1 C.2.1 dX12_begin_20 rfl (lv_at hl 0 rfl) ?_
  refine fg_44 C h dX12_begin_21 ?_
  refine lv_aload_n C.1 C.2.1 dX12_begin_24 rfl (lv_at hl 0 rfl) ?_
  refine fg_41 C h dX12_begin_25 ?_
  refine x_topi (y := Int32.ofInt (fl σ 41 0)) rfl ?_
  refine lv_iconst (v := Int32.ofInt 0) C.1 C.2.1 dX12_begin_28 (by decide) ?_
  refine as_72 C h dX12_begin_29 g1 (fun H locs h => ?_)
  refine lv_aload_n C.1 C.2.1 dX12_begin_30 rfl (lv_at hl 0 rfl) ?_
  refine fg_45 C h dX12_begin_31 ?_
  refine lv_aload_n C.1 C.2.1 dX12_begin_34 rfl (lv_at hl 0 rfl) ?_
  refine fg_41 C h dX12_begin_35 ?_
  refine x_topi (y := Int32.ofInt (fl σ 41 0)) rfl ?_
  refine lv_iload_n C.1 C.2.1 dX12_begin_38 rfl (lv_at hl 3 rfl) ?_
  refine as_71 C h dX12_begin_39 g1 (fun H locs h => ?_)
  refine lv_aload_n C.1 C.2.1 dX12_begin_40 rfl (lv_at hl 0 rfl) ?_
  refine lv_dup C.1 C.2.1 dX12_begin_41 rfl ?_
  refine fg_41 C h dX12_begin_42 ?_
  refine x_topi (y := Int32.ofInt (fl σ 41 0)) rfl ?_
  refine lv_iconst (v := Int32.ofInt 1) C.1 C.2.1 dX12_begin_45 (by decide) ?_
  refine z_iadd C dX12_begin_46 ?_
  refine fp_41 C h dX12_begin_47 (fun H locs h => ?_)
  cases hm
  exact q_vret C h hr hlk dX12_begin_50
end L_begin
section L_finish
variable {p : Program} {l : Launch} {e : Env} {s : State} {m : MethodId} {args : Array Value} {below : List Frame} {meth : Method} {c : Code} {D : va_G} {A : Nat → Prop} {k : Nat → ClassId} {g : Nat → Nat} {N : Nat} {cd : Cond}
set_option maxHeartbeats 4000000 in
set_option maxRecDepth 100000 in
theorem rc_finish (l : Launch) (D : va_G) (k : Nat → ClassId) (g : Nat → Nat) (N : Nat) (σ : St) (x1 : Int) (r : St) (hm : r_finish N σ x1 = some r) : Mv l yX12_finish (.code yX12_finish cX12_finish 2 none :: rW) { frames := 0, cells := 0, slots := 0, locals := 0 } [.ref (g 0), .int (Int32.ofInt x1)] D (TYs k) (mW k g σ) (fun _ => True) Unit (fun _ => True) (fun _ => mW k g r) 0 0 := by
  intro sz
  refine x_met (cc := cX12_finish) (maxL := 2) (ret := none) (by decide) rfl (Nat.le_of_ble_eq_true rfl) ?_
  intro p e s m below meth c ls C hX hsz hr hlk hmn hl h
  have hl : lv_has ls 2 [(0, .ref (g 0)), (1, .int (Int32.ofInt x1))] := hl
  rw [r_finish] at hm
  refine lv_aload_n C.1 C.2.1 dX12_finish_0 rfl (lv_at hl 0 rfl) ?_
  refine lv_iload_n C.1 C.2.1 dX12_finish_1 rfl (lv_at hl 1 rfl) ?_
  refine fp_46 C h dX12_finish_2 (fun H locs h => ?_)
  refine lv_aload_n C.1 C.2.1 dX12_finish_5 rfl (lv_at hl 0 rfl) ?_
  refine lv_dup C.1 C.2.1 dX12_finish_6 rfl ?_
  refine fg_41 C h dX12_finish_7 ?_
  refine x_topi (y := Int32.ofInt (fl σ 41 0)) rfl ?_
  refine lv_iconst (v := Int32.ofInt 1) C.1 C.2.1 dX12_finish_10 (by decide) ?_
  refine z_isub C dX12_finish_11 ?_
  refine fp_41 C h dX12_finish_12 (fun H locs h => ?_)
  cases hm
  exact q_vret C h hr hlk dX12_finish_15
end L_finish
section L_all
variable {p : Program} {l : Launch} {e : Env} {s : State} {m : MethodId} {args : Array Value} {below : List Frame} {meth : Method} {c : Code} {D : va_G} {A : Nat → Prop} {k : Nat → ClassId} {g : Nat → Nat} {N : Nat} {cd : Cond}
set_option maxHeartbeats 4000000 in
set_option maxRecDepth 100000 in
theorem rc_all (l : Launch) (D : va_G) (k : Nat → ClassId) (N : Nat) (x0 : Int) (r : Int) (hm : r_all N x0 = some r) : Mi l yX12_all (.code yX12_all cX12_all 1 (some .int) :: rW) { frames := 0, cells := 0, slots := 0, locals := 0 } [.int (Int32.ofInt x0)] D (TYs k) [] (fun _ => True) Unit (fun v _ => v = Int32.ofInt r) (fun _ => []) 0 0 := by
  intro sz
  refine x_met (cc := cX12_all) (maxL := 1) (ret := (some .int)) (by decide) rfl (Nat.le_of_ble_eq_true rfl) ?_
  intro p e s m below meth c ls C hX hsz hr hlk hmn hl h
  have hl : lv_has ls 1 [(0, .int (Int32.ofInt x0))] := hl
  rw [r_all] at hm
  refine lv_iload_n C.1 C.2.1 dX12_all_0 rfl (lv_at hl 0 rfl) ?_
  obtain ⟨g1, hm⟩ := grd_s hm
  refine z_if_ne (tgt := 8) C dX12_all_1 (by decide) g1 (fun c2 => ?_) (fun c2 => ?_)
  · have hm := ite_f c2 hm
    refine lv_iload_n C.1 C.2.1 dX12_all_8 rfl (lv_at hl 0 rfl) ?_
    refine lv_iconst (v := Int32.ofInt 1) C.1 C.2.1 dX12_all_9 (by decide) ?_
    refine z_icmp_ne (tgt := 17) C dX12_all_10 (by decide) g1 (by decide) (fun c3 => ?_) (fun c3 => ?_)
    · have hm := ite_f c3 hm
      refine lv_iload_n C.1 C.2.1 dX12_all_17 rfl (lv_at hl 0 rfl) ?_
      refine lv_iconst (v := Int32.ofInt 2) C.1 C.2.1 dX12_all_18 (by decide) ?_
      refine z_icmp_ne (tgt := 27) C dX12_all_19 (by decide) g1 (by decide) (fun c4 => ?_) (fun c4 => ?_)
      · have hm := ite_f c4 hm
        refine lv_iload_n C.1 C.2.1 dX12_all_27 rfl (lv_at hl 0 rfl) ?_
        refine lv_iconst (v := Int32.ofInt 3) C.1 C.2.1 dX12_all_28 (by decide) ?_
        refine z_icmp_ne (tgt := 38) C dX12_all_29 (by decide) g1 (by decide) (fun c5 => ?_) (fun c5 => ?_)
        · have hm := ite_f c5 hm
          refine lv_sipush (v := Int32.ofInt 4444) C.1 C.2.1 dX12_all_38 (by decide) ?_
          cases hm
          exact q_iretS C h hr hlk dX12_all_41 rfl
        · have hm := ite_t c5 hm
          refine lv_sipush (v := Int32.ofInt 444) C.1 C.2.1 dX12_all_32 (by decide) ?_
          refine lv_goto (tgt := 41) C.1 C.2.1 dX12_all_35 (by decide) ?_
          cases hm
          exact q_iretS C h hr hlk dX12_all_41 rfl
      · have hm := ite_t c4 hm
        refine lv_bipush (v := Int32.ofInt 44) C.1 C.2.1 dX12_all_22 (by decide) ?_
        refine lv_goto (tgt := 41) C.1 C.2.1 dX12_all_24 (by decide) ?_
        cases hm
        exact q_iretS C h hr hlk dX12_all_41 rfl
    · have hm := ite_t c3 hm
      refine lv_iconst (v := Int32.ofInt 4) C.1 C.2.1 dX12_all_13 (by decide) ?_
      refine lv_goto (tgt := 41) C.1 C.2.1 dX12_all_14 (by decide) ?_
      cases hm
      exact q_iretS C h hr hlk dX12_all_41 rfl
  · have hm := ite_t c2 hm
    refine lv_iconst (v := Int32.ofInt 0) C.1 C.2.1 dX12_all_4 (by decide) ?_
    refine lv_goto (tgt := 41) C.1 C.2.1 dX12_all_5 (by decide) ?_
    cases hm
    exact q_iretS C h hr hlk dX12_all_41 rfl
end L_all
section L_readApp
variable {p : Program} {l : Launch} {e : Env} {s : State} {m : MethodId} {args : Array Value} {below : List Frame} {meth : Method} {c : Code} {D : va_G} {A : Nat → Prop} {k : Nat → ClassId} {g : Nat → Nat} {N : Nat} {cd : Cond}
set_option maxHeartbeats 4000000 in
set_option maxRecDepth 100000 in
theorem lm_readApp_203 {r : St} (C : Cx p s m args c cX12_readApp RX12 (cd :: rW) D (TYs k) 5) (hr : meth.sig.returnType = none) (hlk : meth.locks = false)  {ls : Array Slot} {H : Heap} {locs : List Loc} {σ : St}  (hl : lv_has ls 5 [(0, .ref (g 0))]) (h : Hp D A s.heap H locs (mW k g σ)) (hm : r_readApp_203 N  σ  = some r) : W p l e { frames := 4, cells := 0, slots := 0, locals := 89 } s m args below meth c H locs 0 0 (MQ below (va_Qv (fun (_ : Unit) => True) (fun _ t => PostW D (TYs k) A (mW k g r) t) A) args s 0 0 A) (F0 m 203 ls []) := by
  rw [r_readApp_203] at hm
  refine lv_aload_n C.1 C.2.1 dX12_readApp_203 rfl (lv_at hl 0 rfl) ?_
  refine lv_dup C.1 C.2.1 dX12_readApp_204 rfl ?_
  refine fg_41 C h dX12_readApp_205 ?_
  refine lv_iconst (v := Int32.ofInt 1) C.1 C.2.1 dX12_readApp_208 (by decide) ?_
  refine z_isub C dX12_readApp_209 ?_
  refine fp_41 C h dX12_readApp_210 (fun H locs h => ?_)
  refine lv_aload_n C.1 C.2.1 dX12_readApp_213 rfl (lv_at hl 0 rfl) ?_
  refine lv_iconst (v := Int32.ofInt 5) C.1 C.2.1 dX12_readApp_214 (by decide) ?_
  refine lv_iconst (v := Int32.ofInt (-1)) C.1 C.2.1 dX12_readApp_215 (by decide) ?_
  refine lv_iconst (v := Int32.ofInt 0) C.1 C.2.1 dX12_readApp_216 (by decide) ?_
  obtain ⟨σ56, e57, hm⟩ := bnd_s hm
  rw [e57] at h
  obtain ⟨r58, e59, hm⟩ := obd_s hm
  refine q_callVv C h (rc_begin l D k g N σ56 5 (-1) 0 r58 e59) (cwV 3 C.2.2.1 (gR_begin _) rfl rfl rfl hd_begin ⟨Nat.le_of_ble_eq_true rfl, Nat.le_of_ble_eq_true rfl⟩) rfl hl.1 rfl (Nat.le_of_ble_eq_true rfl) dX12_readApp_217 ⟨Nat.le_of_ble_eq_true rfl, Nat.le_of_ble_eq_true rfl⟩ (fun H locs h => ?_)
  cases hm
  exact q_vret C h hr hlk dX12_readApp_220
set_option maxHeartbeats 4000000 in
set_option maxRecDepth 100000 in
theorem lm_readApp_70 {r : St} (C : Cx p s m args c cX12_readApp RX12 (cd :: rW) D (TYs k) 5) (hr : meth.sig.returnType = none) (hlk : meth.locks = false)  {ls : Array Slot} {H : Heap} {locs : List Loc} {σ : St} {x1 : Int} {x2 : Int} {s0 : Int} (hl : lv_has ls 5 [(0, .ref (g 0)), (1, .int (Int32.ofInt x1)), (2, .int (Int32.ofInt x2))]) (h : Hp D A s.heap H locs (mW k g σ)) (hm : r_readApp_70 N  σ x1 x2 s0 = some r) : W p l e { frames := 4, cells := 0, slots := 0, locals := 89 } s m args below meth c H locs 0 0 (MQ below (va_Qv (fun (_ : Unit) => True) (fun _ t => PostW D (TYs k) A (mW k g r) t) A) args s 0 0 A) (F0 m 70 ls [.int (Int32.ofInt s0)]) := by
  rw [r_readApp_70] at hm
  refine lv_istore_n (lv' := [(3, .int (Int32.ofInt s0)), (0, .ref (g 0)), (1, .int (Int32.ofInt x1)), (2, .int (Int32.ofInt x2))]) C.1 C.2.1 dX12_readApp_70 rfl hl (by decide) rfl (fun ls hl => ?_)
  refine lv_iload_n C.1 C.2.1 dX12_readApp_71 rfl (lv_at hl 0 rfl) ?_
  obtain ⟨g22, hm⟩ := grd_s hm
  refine z_if_lt (tgt := 131) C dX12_readApp_72 (by decide) g22 (fun c23 => ?_) (fun c23 => ?_)
  · have hm := ite_t c23 hm
    refine lv_iload_n C.1 C.2.1 dX12_readApp_131 rfl (lv_at hl 3 rfl) ?_
    obtain ⟨g24, hm⟩ := grd_s hm
    refine z_if_lt (tgt := 203) C dX12_readApp_132 (by decide) g24 (fun c25 => ?_) (fun c25 => ?_)
    · have hm := ite_t c25 hm
      exact lm_readApp_203 (N := N) C hr hlk  (lv_sub hl [1] rfl) h hm
    · have hm := ite_f c25 hm
      refine lv_aload_n C.1 C.2.1 dX12_readApp_135 rfl (lv_at hl 1 rfl) ?_
      refine fg_31 C h dX12_readApp_136 ?_
      refine lv_iload_n C.1 C.2.1 dX12_readApp_139 rfl (lv_at hl 3 rfl) ?_
      obtain ⟨g26, hm⟩ := grd_s hm
      refine al_81 C h dX12_readApp_140 g26 ?_
      obtain ⟨g27, hm⟩ := grd_s hm
      refine z_if_le (tgt := 203) C dX12_readApp_141 (by decide) g27 (fun c28 => ?_) (fun c28 => ?_)
      · have hm := ite_f c28 hm
        exact lm_readApp_203 (N := N) C hr hlk  (lv_sub hl [1] rfl) h hm
      · have hm := ite_t c28 hm
        refine lv_aload_n C.1 C.2.1 dX12_readApp_144 rfl (lv_at hl 1 rfl) ?_
        refine lv_bipush (v := Int32.ofInt 7) C.1 C.2.1 dX12_readApp_145 (by decide) ?_
        refine lv_aload_n C.1 C.2.1 dX12_readApp_147 rfl (lv_at hl 1 rfl) ?_
        refine fg_4 C h dX12_readApp_148 ?_
        obtain ⟨r29, e30, hm⟩ := obd_s hm
        refine q_callVi C h (rc_node l D k g N σ 7 (fl σ 4 0) r29 e30) (cwV 2 C.2.2.1 (gR_node _) rfl rfl rfl hd_node ⟨Nat.le_of_ble_eq_true rfl, Nat.le_of_ble_eq_true rfl⟩) rfl hl.1 rfl (Nat.le_of_ble_eq_true rfl) dX12_readApp_151 ⟨Nat.le_of_ble_eq_true rfl, Nat.le_of_ble_eq_true rfl⟩ (fun H locs h => ?_)
        refine lv_istore (lv' := [(4, .int (Int32.ofInt r29.2)), (3, .int (Int32.ofInt s0)), (0, .ref (g 0)), (1, .int (Int32.ofInt x1)), (2, .int (Int32.ofInt x2))]) C.1 C.2.1 dX12_readApp_154 hl (by decide) rfl (fun ls hl => ?_)
        refine lv_aload_n C.1 C.2.1 dX12_readApp_156 rfl (lv_at hl 2 rfl) ?_
        refine fg_19 C h dX12_readApp_157 ?_
        refine lv_iload C.1 C.2.1 dX12_readApp_160 (lv_at hl 0 rfl) ?_
        refine lv_iload_n C.1 C.2.1 dX12_readApp_162 rfl (lv_at hl 4 rfl) ?_
        obtain ⟨g31, hm⟩ := grd_s hm
        refine as_92 C h dX12_readApp_163 g31 (fun H locs h => ?_)
        refine lv_aload_n C.1 C.2.1 dX12_readApp_164 rfl (lv_at hl 2 rfl) ?_
        obtain ⟨σ32, e33, hm⟩ := bnd_s hm
        rw [e33] at h
        obtain ⟨r34, e35, hm⟩ := obd_s hm
        refine q_callVv C h (rc_advance l D k g N σ32  r34 e35) (cwV 0 C.2.2.1 (gR_advance _) rfl rfl rfl hd_advance ⟨Nat.le_of_ble_eq_true rfl, Nat.le_of_ble_eq_true rfl⟩) rfl hl.1 rfl (Nat.le_of_ble_eq_true rfl) dX12_readApp_165 ⟨Nat.le_of_ble_eq_true rfl, Nat.le_of_ble_eq_true rfl⟩ (fun H locs h => ?_)
        refine lv_aload_n C.1 C.2.1 dX12_readApp_168 rfl (lv_at hl 2 rfl) ?_
        refine fg_44 C h dX12_readApp_169 ?_
        refine lv_iload_n C.1 C.2.1 dX12_readApp_172 rfl (lv_at hl 3 rfl) ?_
        refine lv_iconst (v := Int32.ofInt 1) C.1 C.2.1 dX12_readApp_173 (by decide) ?_
        obtain ⟨g36, hm⟩ := grd_s hm
        refine as_72 C h dX12_readApp_174 g36 (fun H locs h => ?_)
        refine lv_aload_n C.1 C.2.1 dX12_readApp_175 rfl (lv_at hl 2 rfl) ?_
        refine fg_43 C h dX12_readApp_176 ?_
        refine lv_iload_n C.1 C.2.1 dX12_readApp_179 rfl (lv_at hl 3 rfl) ?_
        refine lv_iload C.1 C.2.1 dX12_readApp_180 (lv_at hl 0 rfl) ?_
        refine as_73 C h dX12_readApp_182 g36 (fun H locs h => ?_)
        refine lv_aload_n C.1 C.2.1 dX12_readApp_183 rfl (lv_at hl 2 rfl) ?_
        refine lv_bipush (v := Int32.ofInt 6) C.1 C.2.1 dX12_readApp_184 (by decide) ?_
        refine lv_iload C.1 C.2.1 dX12_readApp_186 (lv_at hl 0 rfl) ?_
        refine lv_aload_n C.1 C.2.1 dX12_readApp_188 rfl (lv_at hl 2 rfl) ?_
        refine fg_31 C h dX12_readApp_189 ?_
        refine lv_iload_n C.1 C.2.1 dX12_readApp_192 rfl (lv_at hl 4 rfl) ?_
        refine al_81 C h dX12_readApp_193 g26 ?_
        refine x_topi (y := Int32.ofInt (el r34 81 x2)) rfl ?_
        obtain ⟨r37, e38, hm⟩ := obd_s hm
        refine q_callSi C h (rc_all l D k N (el r34 81 x2) r37 e38) (cwS 1 C.2.2.1 (gR_all _) rfl rfl rfl hd_all ⟨Nat.le_of_ble_eq_true rfl, Nat.le_of_ble_eq_true rfl⟩) rfl hl.1 rfl (Nat.le_of_ble_eq_true rfl) dX12_readApp_194 ⟨Nat.le_of_ble_eq_true rfl, Nat.le_of_ble_eq_true rfl⟩ (fun H locs h => ?_)
        obtain ⟨σ39, e40, hm⟩ := bnd_s hm
        rw [e40] at h
        obtain ⟨r41, e42, hm⟩ := obd_s hm
        refine q_callVv C h (rc_begin l D k g N σ39 6 r29.2 r37 r41 e42) (cwV 3 C.2.2.1 (gR_begin _) rfl rfl rfl hd_begin ⟨Nat.le_of_ble_eq_true rfl, Nat.le_of_ble_eq_true rfl⟩) rfl hl.1 rfl (Nat.le_of_ble_eq_true rfl) dX12_readApp_197 ⟨Nat.le_of_ble_eq_true rfl, Nat.le_of_ble_eq_true rfl⟩ (fun H locs h => ?_)
        refine lv_goto (tgt := 220) C.1 C.2.1 dX12_readApp_200 (by decide) ?_
        cases hm
        exact q_vret C h hr hlk dX12_readApp_220
  · have hm := ite_f c23 hm
    refine lv_aload_n C.1 C.2.1 dX12_readApp_75 rfl (lv_at hl 1 rfl) ?_
    refine lv_bipush (v := Int32.ofInt 8) C.1 C.2.1 dX12_readApp_76 (by decide) ?_
    refine lv_aload_n C.1 C.2.1 dX12_readApp_78 rfl (lv_at hl 1 rfl) ?_
    refine fg_4 C h dX12_readApp_79 ?_
    obtain ⟨r43, e44, hm⟩ := obd_s hm
    refine q_callVi C h (rc_node l D k g N σ 8 (fl σ 4 0) r43 e44) (cwV 2 C.2.2.1 (gR_node _) rfl rfl rfl hd_node ⟨Nat.le_of_ble_eq_true rfl, Nat.le_of_ble_eq_true rfl⟩) rfl hl.1 rfl (Nat.le_of_ble_eq_true rfl) dX12_readApp_82 ⟨Nat.le_of_ble_eq_true rfl, Nat.le_of_ble_eq_true rfl⟩ (fun H locs h => ?_)
    refine lv_istore (lv' := [(4, .int (Int32.ofInt r43.2)), (3, .int (Int32.ofInt s0)), (0, .ref (g 0)), (1, .int (Int32.ofInt x1)), (2, .int (Int32.ofInt x2))]) C.1 C.2.1 dX12_readApp_85 hl (by decide) rfl (fun ls hl => ?_)
    refine lv_aload_n C.1 C.2.1 dX12_readApp_87 rfl (lv_at hl 2 rfl) ?_
    refine fg_19 C h dX12_readApp_88 ?_
    refine lv_iload C.1 C.2.1 dX12_readApp_91 (lv_at hl 0 rfl) ?_
    refine lv_iload_n C.1 C.2.1 dX12_readApp_93 rfl (lv_at hl 1 rfl) ?_
    obtain ⟨g45, hm⟩ := grd_s hm
    refine as_92 C h dX12_readApp_94 g45 (fun H locs h => ?_)
    refine lv_aload_n C.1 C.2.1 dX12_readApp_95 rfl (lv_at hl 2 rfl) ?_
    obtain ⟨σ46, e47, hm⟩ := bnd_s hm
    rw [e47] at h
    obtain ⟨r48, e49, hm⟩ := obd_s hm
    refine q_callVv C h (rc_advance l D k g N σ46  r48 e49) (cwV 0 C.2.2.1 (gR_advance _) rfl rfl rfl hd_advance ⟨Nat.le_of_ble_eq_true rfl, Nat.le_of_ble_eq_true rfl⟩) rfl hl.1 rfl (Nat.le_of_ble_eq_true rfl) dX12_readApp_96 ⟨Nat.le_of_ble_eq_true rfl, Nat.le_of_ble_eq_true rfl⟩ (fun H locs h => ?_)
    refine lv_aload_n C.1 C.2.1 dX12_readApp_99 rfl (lv_at hl 2 rfl) ?_
    refine fg_44 C h dX12_readApp_100 ?_
    refine lv_iload_n C.1 C.2.1 dX12_readApp_103 rfl (lv_at hl 3 rfl) ?_
    refine lv_iconst (v := Int32.ofInt 1) C.1 C.2.1 dX12_readApp_104 (by decide) ?_
    obtain ⟨g50, hm⟩ := grd_s hm
    refine as_72 C h dX12_readApp_105 g50 (fun H locs h => ?_)
    refine lv_aload_n C.1 C.2.1 dX12_readApp_106 rfl (lv_at hl 2 rfl) ?_
    refine fg_43 C h dX12_readApp_107 ?_
    refine lv_iload_n C.1 C.2.1 dX12_readApp_110 rfl (lv_at hl 3 rfl) ?_
    refine lv_iload C.1 C.2.1 dX12_readApp_111 (lv_at hl 0 rfl) ?_
    refine as_73 C h dX12_readApp_113 g50 (fun H locs h => ?_)
    refine lv_aload_n C.1 C.2.1 dX12_readApp_114 rfl (lv_at hl 2 rfl) ?_
    refine lv_bipush (v := Int32.ofInt 6) C.1 C.2.1 dX12_readApp_115 (by decide) ?_
    refine lv_iload C.1 C.2.1 dX12_readApp_117 (lv_at hl 0 rfl) ?_
    refine lv_aload_n C.1 C.2.1 dX12_readApp_119 rfl (lv_at hl 2 rfl) ?_
    refine fg_15 C h dX12_readApp_120 ?_
    refine lv_iload_n C.1 C.2.1 dX12_readApp_123 rfl (lv_at hl 1 rfl) ?_
    obtain ⟨g51, hm⟩ := grd_s hm
    refine al_95 C h dX12_readApp_124 g51 ?_
    refine x_topi (y := Int32.ofInt (el r48 95 s0)) rfl ?_
    obtain ⟨σ52, e53, hm⟩ := bnd_s hm
    rw [e53] at h
    obtain ⟨r54, e55, hm⟩ := obd_s hm
    refine q_callVv C h (rc_begin l D k g N σ52 6 r43.2 (el r48 95 s0) r54 e55) (cwV 3 C.2.2.1 (gR_begin _) rfl rfl rfl hd_begin ⟨Nat.le_of_ble_eq_true rfl, Nat.le_of_ble_eq_true rfl⟩) rfl hl.1 rfl (Nat.le_of_ble_eq_true rfl) dX12_readApp_125 ⟨Nat.le_of_ble_eq_true rfl, Nat.le_of_ble_eq_true rfl⟩ (fun H locs h => ?_)
    refine lv_goto (tgt := 220) C.1 C.2.1 dX12_readApp_128 (by decide) ?_
    cases hm
    exact q_vret C h hr hlk dX12_readApp_220
set_option maxHeartbeats 4000000 in
set_option maxRecDepth 100000 in
theorem lm_readApp_69 {r : St} (C : Cx p s m args c cX12_readApp RX12 (cd :: rW) D (TYs k) 5) (hr : meth.sig.returnType = none) (hlk : meth.locks = false)  {ls : Array Slot} {H : Heap} {locs : List Loc} {σ : St} {x1 : Int} {x2 : Int} (hl : lv_has ls 5 [(0, .ref (g 0)), (1, .int (Int32.ofInt x1)), (2, .int (Int32.ofInt x2))]) (h : Hp D A s.heap H locs (mW k g σ)) (hm : r_readApp_69 N  σ x1 x2 = some r) : W p l e { frames := 4, cells := 0, slots := 0, locals := 89 } s m args below meth c H locs 0 0 (MQ below (va_Qv (fun (_ : Unit) => True) (fun _ t => PostW D (TYs k) A (mW k g r) t) A) args s 0 0 A) (F0 m 69 ls []) := by
  rw [r_readApp_69] at hm
  refine lv_iconst (v := Int32.ofInt (-1)) C.1 C.2.1 dX12_readApp_69 (by decide) ?_
  exact lm_readApp_70 (N := N) C hr hlk  (lv_sub hl [0, 1, 2] rfl) h hm
set_option maxHeartbeats 4000000 in
set_option maxRecDepth 100000 in
theorem lm_readApp_45 {r : St} (C : Cx p s m args c cX12_readApp RX12 (cd :: rW) D (TYs k) 5) (hr : meth.sig.returnType = none) (hlk : meth.locks = false)  {ls : Array Slot} {H : Heap} {locs : List Loc} {σ : St} {x1 : Int} {s0 : Int} (hl : lv_has ls 5 [(0, .ref (g 0)), (1, .int (Int32.ofInt x1))]) (h : Hp D A s.heap H locs (mW k g σ)) (hm : r_readApp_45 N  σ x1 s0 = some r) : W p l e { frames := 4, cells := 0, slots := 0, locals := 89 } s m args below meth c H locs 0 0 (MQ below (va_Qv (fun (_ : Unit) => True) (fun _ t => PostW D (TYs k) A (mW k g r) t) A) args s 0 0 A) (F0 m 45 ls [.int (Int32.ofInt s0)]) := by
  rw [r_readApp_45] at hm
  refine lv_istore_n (lv' := [(2, .int (Int32.ofInt s0)), (0, .ref (g 0)), (1, .int (Int32.ofInt x1))]) C.1 C.2.1 dX12_readApp_45 rfl hl (by decide) rfl (fun ls hl => ?_)
  refine lv_aload_n C.1 C.2.1 dX12_readApp_46 rfl (lv_at hl 1 rfl) ?_
  refine fg_3 C h dX12_readApp_47 ?_
  refine lv_iconst (v := Int32.ofInt 2) C.1 C.2.1 dX12_readApp_50 (by decide) ?_
  obtain ⟨g14, hm⟩ := grd_s hm
  refine z_icmp_ne (tgt := 69) C dX12_readApp_51 (by decide) g14 (by decide) (fun c15 => ?_) (fun c15 => ?_)
  · have hm := ite_f c15 hm
    exact lm_readApp_69 (N := N) C hr hlk  (lv_sub hl [1, 2, 0] rfl) h hm
  · have hm := ite_t c15 hm
    refine lv_aload_n C.1 C.2.1 dX12_readApp_54 rfl (lv_at hl 1 rfl) ?_
    obtain ⟨r16, e17, hm⟩ := obd_s hm
    refine q_callVi C h (rc_paramHere l D k g N σ  r16 e17) (cwV 0 C.2.2.1 (gR_paramHere _) rfl rfl rfl hd_paramHere ⟨Nat.le_of_ble_eq_true rfl, Nat.le_of_ble_eq_true rfl⟩) rfl hl.1 rfl (Nat.le_of_ble_eq_true rfl) dX12_readApp_55 ⟨Nat.le_of_ble_eq_true rfl, Nat.le_of_ble_eq_true rfl⟩ (fun H locs h => ?_)
    refine lv_iconst (v := Int32.ofInt (-1)) C.1 C.2.1 dX12_readApp_58 (by decide) ?_
    obtain ⟨g18, hm⟩ := grd_s hm
    refine z_icmp_ne (tgt := 69) C dX12_readApp_59 (by decide) g18 (by decide) (fun c19 => ?_) (fun c19 => ?_)
    · have hm := ite_f c19 hm
      exact lm_readApp_69 (N := N) C hr hlk  (lv_sub hl [1, 2, 0] rfl) h hm
    · have hm := ite_t c19 hm
      refine lv_aload_n C.1 C.2.1 dX12_readApp_62 rfl (lv_at hl 1 rfl) ?_
      obtain ⟨r20, e21, hm⟩ := obd_s hm
      refine q_callVi C h (rc_functionHere l D k g N r16.1  r20 e21) (cwV 0 C.2.2.1 (gR_functionHere _) rfl rfl rfl hd_functionHere ⟨Nat.le_of_ble_eq_true rfl, Nat.le_of_ble_eq_true rfl⟩) rfl hl.1 rfl (Nat.le_of_ble_eq_true rfl) dX12_readApp_63 ⟨Nat.le_of_ble_eq_true rfl, Nat.le_of_ble_eq_true rfl⟩ (fun H locs h => ?_)
      refine lv_goto (tgt := 70) C.1 C.2.1 dX12_readApp_66 (by decide) ?_
      exact lm_readApp_70 (N := N) C hr hlk  (lv_sub hl [1, 2, 0] rfl) h hm
set_option maxHeartbeats 4000000 in
set_option maxRecDepth 100000 in
theorem lm_readApp_44 {r : St} (C : Cx p s m args c cX12_readApp RX12 (cd :: rW) D (TYs k) 5) (hr : meth.sig.returnType = none) (hlk : meth.locks = false)  {ls : Array Slot} {H : Heap} {locs : List Loc} {σ : St} {x1 : Int} (hl : lv_has ls 5 [(0, .ref (g 0)), (1, .int (Int32.ofInt x1))]) (h : Hp D A s.heap H locs (mW k g σ)) (hm : r_readApp_44 N  σ x1 = some r) : W p l e { frames := 4, cells := 0, slots := 0, locals := 89 } s m args below meth c H locs 0 0 (MQ below (va_Qv (fun (_ : Unit) => True) (fun _ t => PostW D (TYs k) A (mW k g r) t) A) args s 0 0 A) (F0 m 44 ls []) := by
  rw [r_readApp_44] at hm
  refine lv_iconst (v := Int32.ofInt (-1)) C.1 C.2.1 dX12_readApp_44 (by decide) ?_
  exact lm_readApp_45 (N := N) C hr hlk  (lv_sub hl [0, 1] rfl) h hm
set_option maxHeartbeats 4000000 in
set_option maxRecDepth 100000 in
theorem rc_readApp (l : Launch) (D : va_G) (k : Nat → ClassId) (g : Nat → Nat) (N : Nat) (σ : St) (x1 : Int) (r : St) (hm : r_readApp N σ x1 = some r) : Mv l yX12_readApp (.code yX12_readApp cX12_readApp 5 none :: rW) { frames := 4, cells := 0, slots := 0, locals := 89 } [.ref (g 0), .int (Int32.ofInt x1)] D (TYs k) (mW k g σ) (fun _ => True) Unit (fun _ => True) (fun _ => mW k g r) 0 0 := by
  intro sz
  refine x_met (cc := cX12_readApp) (maxL := 5) (ret := none) (by decide) rfl (Nat.le_of_ble_eq_true rfl) ?_
  intro p e s m below meth c ls C hX hsz hr hlk hmn hl h
  have hl : lv_has ls 5 [(0, .ref (g 0)), (1, .int (Int32.ofInt x1))] := hl
  rw [r_readApp] at hm
  refine lv_aload_n C.1 C.2.1 dX12_readApp_0 rfl (lv_at hl 0 rfl) ?_
  refine fg_44 C h dX12_readApp_1 ?_
  refine lv_iload_n C.1 C.2.1 dX12_readApp_4 rfl (lv_at hl 1 rfl) ?_
  obtain ⟨g1, hm⟩ := grd_s hm
  refine al_72 C h dX12_readApp_5 g1 ?_
  refine lv_iconst (v := Int32.ofInt 1) C.1 C.2.1 dX12_readApp_6 (by decide) ?_
  obtain ⟨g2, hm⟩ := grd_s hm
  refine z_icmp_ne (tgt := 21) C dX12_readApp_7 (by decide) g2 (by decide) (fun c3 => ?_) (fun c3 => ?_)
  · have hm := ite_f c3 hm
    refine lv_aload_n C.1 C.2.1 dX12_readApp_21 rfl (lv_at hl 0 rfl) ?_
    refine fg_3 C h dX12_readApp_22 ?_
    refine lv_iconst (v := Int32.ofInt 2) C.1 C.2.1 dX12_readApp_25 (by decide) ?_
    obtain ⟨g4, hm⟩ := grd_s hm
    refine z_icmp_ne (tgt := 44) C dX12_readApp_26 (by decide) g4 (by decide) (fun c5 => ?_) (fun c5 => ?_)
    · have hm := ite_f c5 hm
      exact lm_readApp_44 (N := N) C hr hlk  (lv_sub hl [0, 1] rfl) h hm
    · have hm := ite_t c5 hm
      refine lv_aload_n C.1 C.2.1 dX12_readApp_29 rfl (lv_at hl 0 rfl) ?_
      obtain ⟨r6, e7, hm⟩ := obd_s hm
      refine q_callVi C h (rc_paramHere l D k g N σ  r6 e7) (cwV 0 C.2.2.1 (gR_paramHere _) rfl rfl rfl hd_paramHere ⟨Nat.le_of_ble_eq_true rfl, Nat.le_of_ble_eq_true rfl⟩) rfl hl.1 rfl (Nat.le_of_ble_eq_true rfl) dX12_readApp_30 ⟨Nat.le_of_ble_eq_true rfl, Nat.le_of_ble_eq_true rfl⟩ (fun H locs h => ?_)
      refine lv_iconst (v := Int32.ofInt (-1)) C.1 C.2.1 dX12_readApp_33 (by decide) ?_
      obtain ⟨g8, hm⟩ := grd_s hm
      refine z_icmp_ne (tgt := 44) C dX12_readApp_34 (by decide) g8 (by decide) (fun c9 => ?_) (fun c9 => ?_)
      · have hm := ite_f c9 hm
        exact lm_readApp_44 (N := N) C hr hlk  (lv_sub hl [0, 1] rfl) h hm
      · have hm := ite_t c9 hm
        refine lv_aload_n C.1 C.2.1 dX12_readApp_37 rfl (lv_at hl 0 rfl) ?_
        obtain ⟨r10, e11, hm⟩ := obd_s hm
        refine q_callVi C h (rc_definitionHere l D k g N r6.1  r10 e11) (cwV 0 C.2.2.1 (gR_definitionHere _) rfl rfl rfl hd_definitionHere ⟨Nat.le_of_ble_eq_true rfl, Nat.le_of_ble_eq_true rfl⟩) rfl hl.1 rfl (Nat.le_of_ble_eq_true rfl) dX12_readApp_38 ⟨Nat.le_of_ble_eq_true rfl, Nat.le_of_ble_eq_true rfl⟩ (fun H locs h => ?_)
        refine lv_goto (tgt := 45) C.1 C.2.1 dX12_readApp_41 (by decide) ?_
        exact lm_readApp_45 (N := N) C hr hlk  (lv_sub hl [0, 1] rfl) h hm
  · have hm := ite_t c3 hm
    refine lv_aload_n C.1 C.2.1 dX12_readApp_10 rfl (lv_at hl 0 rfl) ?_
    refine lv_aload_n C.1 C.2.1 dX12_readApp_11 rfl (lv_at hl 0 rfl) ?_
    refine fg_43 C h dX12_readApp_12 ?_
    refine lv_iload_n C.1 C.2.1 dX12_readApp_15 rfl (lv_at hl 1 rfl) ?_
    refine al_73 C h dX12_readApp_16 g1 ?_
    obtain ⟨r12, e13, hm⟩ := obd_s hm
    refine q_callVv C h (rc_finish l D k g N σ (el σ 73 x1) r12 e13) (cwV 1 C.2.2.1 (gR_finish _) rfl rfl rfl hd_finish ⟨Nat.le_of_ble_eq_true rfl, Nat.le_of_ble_eq_true rfl⟩) rfl hl.1 rfl (Nat.le_of_ble_eq_true rfl) dX12_readApp_17 ⟨Nat.le_of_ble_eq_true rfl, Nat.le_of_ble_eq_true rfl⟩ (fun H locs h => ?_)
    cases hm
    exact q_vret C h hr hlk dX12_readApp_20
end L_readApp
section L_isOpen
variable {p : Program} {l : Launch} {e : Env} {s : State} {m : MethodId} {args : Array Value} {below : List Frame} {meth : Method} {c : Code} {D : va_G} {A : Nat → Prop} {k : Nat → ClassId} {g : Nat → Nat} {N : Nat} {cd : Cond}
set_option maxHeartbeats 4000000 in
set_option maxRecDepth 100000 in
theorem rc_isOpen (l : Launch) (D : va_G) (k : Nat → ClassId) (g : Nat → Nat) (N : Nat) (σ : St) (x1 : Int) (r : St × Int) (hm : r_isOpen N σ x1 = some r) : Mi l yX12_isOpen (.code yX12_isOpen cX12_isOpen 2 (some .boolean) :: rW) { frames := 1, cells := 0, slots := 0, locals := 22 } [.ref (g 0), .int (Int32.ofInt x1)] D (TYs k) (mW k g σ) (fun _ => True) Unit (fun v _ => v = Int32.ofInt r.2) (fun _ => mW k g r.1) 0 0 := by
  intro sz
  refine x_met (cc := cX12_isOpen) (maxL := 2) (ret := (some .boolean)) (by decide) rfl (Nat.le_of_ble_eq_true rfl) ?_
  intro p e s m below meth c ls C hX hsz hr hlk hmn hl h
  have hl : lv_has ls 2 [(0, .ref (g 0)), (1, .int (Int32.ofInt x1))] := hl
  rw [r_isOpen] at hm
  refine lv_aload_n C.1 C.2.1 dX12_isOpen_0 rfl (lv_at hl 0 rfl) ?_
  refine fg_13 C h dX12_isOpen_1 ?_
  refine lv_bipush (v := Int32.ofInt 20) C.1 C.2.1 dX12_isOpen_4 (by decide) ?_
  obtain ⟨g1, hm⟩ := grd_s hm
  refine z_icmp_ne (tgt := 17) C dX12_isOpen_6 (by decide) g1 (by decide) (fun c2 => ?_) (fun c2 => ?_)
  · have hm := ite_f c2 hm
    refine lv_aload_n C.1 C.2.1 dX12_isOpen_17 rfl (lv_at hl 0 rfl) ?_
    refine lv_dup C.1 C.2.1 dX12_isOpen_18 rfl ?_
    refine fg_13 C h dX12_isOpen_19 ?_
    refine lv_iconst (v := Int32.ofInt 1) C.1 C.2.1 dX12_isOpen_22 (by decide) ?_
    refine z_iadd C dX12_isOpen_23 ?_
    refine fp_13 C h dX12_isOpen_24 (fun H locs h => ?_)
    refine lv_iconst (v := Int32.ofInt 1) C.1 C.2.1 dX12_isOpen_27 (by decide) ?_
    cases hm
    exact q_iret C h hr hlk dX12_isOpen_28 rfl
  · have hm := ite_t c2 hm
    refine lv_aload_n C.1 C.2.1 dX12_isOpen_9 rfl (lv_at hl 0 rfl) ?_
    refine lv_iconst (v := Int32.ofInt 4) C.1 C.2.1 dX12_isOpen_10 (by decide) ?_
    refine lv_iload_n C.1 C.2.1 dX12_isOpen_11 rfl (lv_at hl 1 rfl) ?_
    obtain ⟨r3, e4, hm⟩ := obd_s hm
    refine q_callVv C h (rc_fail l D k g N σ 4 x1 r3 e4) (cwV 2 C.2.2.1 (gR_fail _) rfl rfl rfl hd_fail ⟨Nat.le_of_ble_eq_true rfl, Nat.le_of_ble_eq_true rfl⟩) rfl hl.1 rfl (Nat.le_of_ble_eq_true rfl) dX12_isOpen_12 ⟨Nat.le_of_ble_eq_true rfl, Nat.le_of_ble_eq_true rfl⟩ (fun H locs h => ?_)
    refine lv_iconst (v := Int32.ofInt 0) C.1 C.2.1 dX12_isOpen_15 (by decide) ?_
    cases hm
    exact q_iret C h hr hlk dX12_isOpen_16 rfl
end L_isOpen
section L_readArg
variable {p : Program} {l : Launch} {e : Env} {s : State} {m : MethodId} {args : Array Value} {below : List Frame} {meth : Method} {c : Code} {D : va_G} {A : Nat → Prop} {k : Nat → ClassId} {g : Nat → Nat} {N : Nat} {cd : Cond}
set_option maxHeartbeats 4000000 in
set_option maxRecDepth 100000 in
theorem lm_readArg_90 {r : St} (C : Cx p s m args c cX12_readArg RX12 (cd :: rW) D (TYs k) 5) (hr : meth.sig.returnType = none) (hlk : meth.locks = false)  {ls : Array Slot} {H : Heap} {locs : List Loc} {σ : St}  (hl : lv_has ls 5 [(0, .ref (g 0))]) (h : Hp D A s.heap H locs (mW k g σ)) (hm : r_readArg_90 N  σ  = some r) : W p l e { frames := 4, cells := 0, slots := 0, locals := 89 } s m args below meth c H locs 0 0 (MQ below (va_Qv (fun (_ : Unit) => True) (fun _ t => PostW D (TYs k) A (mW k g r) t) A) args s 0 0 A) (F0 m 90 ls []) := by
  rw [r_readArg_90] at hm
  refine lv_aload_n C.1 C.2.1 dX12_readArg_90 rfl (lv_at hl 0 rfl) ?_
  refine lv_iconst (v := Int32.ofInt 1) C.1 C.2.1 dX12_readArg_91 (by decide) ?_
  refine lv_aload_n C.1 C.2.1 dX12_readArg_92 rfl (lv_at hl 0 rfl) ?_
  refine fg_2 C h dX12_readArg_93 ?_
  obtain ⟨r77, e78, hm⟩ := obd_s hm
  refine q_callVv C h (rc_fail l D k g N σ 1 (fl σ 2 0) r77 e78) (cwV 2 C.2.2.1 (gR_fail _) rfl rfl rfl hd_fail ⟨Nat.le_of_ble_eq_true rfl, Nat.le_of_ble_eq_true rfl⟩) rfl hl.1 rfl (Nat.le_of_ble_eq_true rfl) dX12_readArg_96 ⟨Nat.le_of_ble_eq_true rfl, Nat.le_of_ble_eq_true rfl⟩ (fun H locs h => ?_)
  cases hm
  exact q_vret C h hr hlk dX12_readArg_99
set_option maxHeartbeats 4000000 in
set_option maxRecDepth 100000 in
theorem lm_readArg_282 {r : St} (C : Cx p s m args c cX12_readArg RX12 (cd :: rW) D (TYs k) 5) (hr : meth.sig.returnType = none) (hlk : meth.locks = false)  {ls : Array Slot} {H : Heap} {locs : List Loc} {σ : St}  (hl : lv_has ls 5 [(0, .ref (g 0))]) (h : Hp D A s.heap H locs (mW k g σ)) (hm : r_readArg_282 N  σ  = some r) : W p l e { frames := 4, cells := 0, slots := 0, locals := 89 } s m args below meth c H locs 0 0 (MQ below (va_Qv (fun (_ : Unit) => True) (fun _ t => PostW D (TYs k) A (mW k g r) t) A) args s 0 0 A) (F0 m 282 ls []) := by
  rw [r_readArg_282] at hm
  refine lv_aload_n C.1 C.2.1 dX12_readArg_282 rfl (lv_at hl 0 rfl) ?_
  refine lv_iconst (v := Int32.ofInt 2) C.1 C.2.1 dX12_readArg_283 (by decide) ?_
  refine lv_aload_n C.1 C.2.1 dX12_readArg_284 rfl (lv_at hl 0 rfl) ?_
  refine fg_4 C h dX12_readArg_285 ?_
  obtain ⟨r75, e76, hm⟩ := obd_s hm
  refine q_callVv C h (rc_fail l D k g N σ 2 (fl σ 4 0) r75 e76) (cwV 2 C.2.2.1 (gR_fail _) rfl rfl rfl hd_fail ⟨Nat.le_of_ble_eq_true rfl, Nat.le_of_ble_eq_true rfl⟩) rfl hl.1 rfl (Nat.le_of_ble_eq_true rfl) dX12_readArg_288 ⟨Nat.le_of_ble_eq_true rfl, Nat.le_of_ble_eq_true rfl⟩ (fun H locs h => ?_)
  cases hm
  exact q_vret C h hr hlk dX12_readArg_291
set_option maxHeartbeats 4000000 in
set_option maxRecDepth 100000 in
theorem lm_readArg_332 {r : St} (C : Cx p s m args c cX12_readArg RX12 (cd :: rW) D (TYs k) 5) (hr : meth.sig.returnType = none) (hlk : meth.locks = false)  {ls : Array Slot} {H : Heap} {locs : List Loc} {σ : St} {x4 : Int} {s0 : Int} {s1 : Int} (hl : lv_has ls 5 [(0, .ref (g 0)), (4, .int (Int32.ofInt x4))]) (h : Hp D A s.heap H locs (mW k g σ)) (hm : r_readArg_332 N  σ x4 s0 s1 = some r) : W p l e { frames := 4, cells := 0, slots := 0, locals := 89 } s m args below meth c H locs 0 0 (MQ below (va_Qv (fun (_ : Unit) => True) (fun _ t => PostW D (TYs k) A (mW k g r) t) A) args s 0 0 A) (F0 m 332 ls [.int (Int32.ofInt s0), .int (Int32.ofInt s1), .ref (g 92)]) := by
  rw [r_readArg_332] at hm
  obtain ⟨g84, hm⟩ := grd_s hm
  refine as_92 C h dX12_readArg_332 g84 (fun H locs h => ?_)
  refine lv_aload_n C.1 C.2.1 dX12_readArg_333 rfl (lv_at hl 0 rfl) ?_
  obtain ⟨σ85, e86, hm⟩ := bnd_s hm
  rw [e86] at h
  obtain ⟨r87, e88, hm⟩ := obd_s hm
  refine q_callVv C h (rc_advance l D k g N σ85  r87 e88) (cwV 0 C.2.2.1 (gR_advance _) rfl rfl rfl hd_advance ⟨Nat.le_of_ble_eq_true rfl, Nat.le_of_ble_eq_true rfl⟩) rfl hl.1 rfl (Nat.le_of_ble_eq_true rfl) dX12_readArg_334 ⟨Nat.le_of_ble_eq_true rfl, Nat.le_of_ble_eq_true rfl⟩ (fun H locs h => ?_)
  refine lv_aload_n C.1 C.2.1 dX12_readArg_337 rfl (lv_at hl 0 rfl) ?_
  refine lv_iload C.1 C.2.1 dX12_readArg_338 (lv_at hl 1 rfl) ?_
  obtain ⟨r89, e90, hm⟩ := obd_s hm
  refine q_callVv C h (rc_finish l D k g N r87 x4 r89 e90) (cwV 1 C.2.2.1 (gR_finish _) rfl rfl rfl hd_finish ⟨Nat.le_of_ble_eq_true rfl, Nat.le_of_ble_eq_true rfl⟩) rfl hl.1 rfl (Nat.le_of_ble_eq_true rfl) dX12_readArg_340 ⟨Nat.le_of_ble_eq_true rfl, Nat.le_of_ble_eq_true rfl⟩ (fun H locs h => ?_)
  refine lv_goto (tgt := 355) C.1 C.2.1 dX12_readArg_343 (by decide) ?_
  cases hm
  exact q_vret C h hr hlk dX12_readArg_355
set_option maxHeartbeats 4000000 in
set_option maxRecDepth 100000 in
theorem lm_readArg_303 {r : St} (C : Cx p s m args c cX12_readArg RX12 (cd :: rW) D (TYs k) 5) (hr : meth.sig.returnType = none) (hlk : meth.locks = false)  {ls : Array Slot} {H : Heap} {locs : List Loc} {σ : St} {x2 : Int} {x3 : Int} {s0 : Int} (hl : lv_has ls 5 [(0, .ref (g 0)), (2, .int (Int32.ofInt x2)), (3, .int (Int32.ofInt x3))]) (h : Hp D A s.heap H locs (mW k g σ)) (hm : r_readArg_303 N  σ x2 x3 s0 = some r) : W p l e { frames := 4, cells := 0, slots := 0, locals := 89 } s m args below meth c H locs 0 0 (MQ below (va_Qv (fun (_ : Unit) => True) (fun _ t => PostW D (TYs k) A (mW k g r) t) A) args s 0 0 A) (F0 m 303 ls [.int (Int32.ofInt s0), .ref (g 0)]) := by
  rw [r_readArg_303] at hm
  refine lv_aload_n C.1 C.2.1 dX12_readArg_303 rfl (lv_at hl 0 rfl) ?_
  refine fg_4 C h dX12_readArg_304 ?_
  obtain ⟨r79, e80, hm⟩ := obd_s hm
  refine q_callVi C h (rc_node l D k g N σ s0 (fl σ 4 0) r79 e80) (cwV 2 C.2.2.1 (gR_node _) rfl rfl rfl hd_node ⟨Nat.le_of_ble_eq_true rfl, Nat.le_of_ble_eq_true rfl⟩) rfl hl.1 rfl (Nat.le_of_ble_eq_true rfl) dX12_readArg_307 ⟨Nat.le_of_ble_eq_true rfl, Nat.le_of_ble_eq_true rfl⟩ (fun H locs h => ?_)
  refine lv_istore (lv' := [(4, .int (Int32.ofInt r79.2)), (0, .ref (g 0)), (2, .int (Int32.ofInt x2)), (3, .int (Int32.ofInt x3))]) C.1 C.2.1 dX12_readArg_310 hl (by decide) rfl (fun ls hl => ?_)
  refine lv_aload_n C.1 C.2.1 dX12_readArg_312 rfl (lv_at hl 1 rfl) ?_
  refine fg_19 C h dX12_readArg_313 ?_
  refine lv_iload C.1 C.2.1 dX12_readArg_316 (lv_at hl 0 rfl) ?_
  refine lv_iload_n C.1 C.2.1 dX12_readArg_318 rfl (lv_at hl 2 rfl) ?_
  obtain ⟨g81, hm⟩ := grd_s hm
  refine z_if_lt (tgt := 326) C dX12_readArg_319 (by decide) g81 (fun c82 => ?_) (fun c82 => ?_)
  · have hm := ite_t c82 hm
    refine lv_aload_n C.1 C.2.1 dX12_readArg_326 rfl (lv_at hl 1 rfl) ?_
    refine fg_33 C h dX12_readArg_327 ?_
    refine lv_iload_n C.1 C.2.1 dX12_readArg_330 rfl (lv_at hl 3 rfl) ?_
    obtain ⟨g83, hm⟩ := grd_s hm
    refine al_79 C h dX12_readArg_331 g83 ?_
    exact lm_readArg_332 (N := N) C hr hlk  (lv_sub hl [1, 0] rfl) h hm
  · have hm := ite_f c82 hm
    refine lv_iload_n C.1 C.2.1 dX12_readArg_322 rfl (lv_at hl 2 rfl) ?_
    refine lv_goto (tgt := 332) C.1 C.2.1 dX12_readArg_323 (by decide) ?_
    exact lm_readArg_332 (N := N) C hr hlk  (lv_sub hl [1, 0] rfl) h hm
set_option maxHeartbeats 4000000 in
set_option maxRecDepth 100000 in
theorem lm_readArg_292 {r : St} (C : Cx p s m args c cX12_readArg RX12 (cd :: rW) D (TYs k) 5) (hr : meth.sig.returnType = none) (hlk : meth.locks = false)  {ls : Array Slot} {H : Heap} {locs : List Loc} {σ : St} {x2 : Int} {x3 : Int} (hl : lv_has ls 5 [(0, .ref (g 0)), (2, .int (Int32.ofInt x2)), (3, .int (Int32.ofInt x3))]) (h : Hp D A s.heap H locs (mW k g σ)) (hm : r_readArg_292 N  σ x2 x3 = some r) : W p l e { frames := 4, cells := 0, slots := 0, locals := 89 } s m args below meth c H locs 0 0 (MQ below (va_Qv (fun (_ : Unit) => True) (fun _ t => PostW D (TYs k) A (mW k g r) t) A) args s 0 0 A) (F0 m 292 ls []) := by
  rw [r_readArg_292] at hm
  refine lv_aload_n C.1 C.2.1 dX12_readArg_292 rfl (lv_at hl 0 rfl) ?_
  refine lv_iload_n C.1 C.2.1 dX12_readArg_293 rfl (lv_at hl 1 rfl) ?_
  obtain ⟨g73, hm⟩ := grd_s hm
  refine z_if_lt (tgt := 301) C dX12_readArg_294 (by decide) g73 (fun c74 => ?_) (fun c74 => ?_)
  · have hm := ite_t c74 hm
    refine lv_bipush (v := Int32.ofInt 6) C.1 C.2.1 dX12_readArg_301 (by decide) ?_
    exact lm_readArg_303 (N := N) C hr hlk  (lv_sub hl [0, 1, 2] rfl) h hm
  · have hm := ite_f c74 hm
    refine lv_iconst (v := Int32.ofInt 5) C.1 C.2.1 dX12_readArg_297 (by decide) ?_
    refine lv_goto (tgt := 303) C.1 C.2.1 dX12_readArg_298 (by decide) ?_
    exact lm_readArg_303 (N := N) C hr hlk  (lv_sub hl [0, 1, 2] rfl) h hm
set_option maxHeartbeats 4000000 in
set_option maxRecDepth 100000 in
theorem rc_readArg (l : Launch) (D : va_G) (k : Nat → ClassId) (g : Nat → Nat) (N : Nat) (σ : St) (x1 : Int) (r : St) (hm : r_readArg N σ x1 = some r) : Mv l yX12_readArg (.code yX12_readArg cX12_readArg 5 none :: rW) { frames := 4, cells := 0, slots := 0, locals := 89 } [.ref (g 0), .int (Int32.ofInt x1)] D (TYs k) (mW k g σ) (fun _ => True) Unit (fun _ => True) (fun _ => mW k g r) 0 0 := by
  intro sz
  refine x_met (cc := cX12_readArg) (maxL := 5) (ret := none) (by decide) rfl (Nat.le_of_ble_eq_true rfl) ?_
  intro p e s m below meth c ls C hX hsz hr hlk hmn hl h
  have hl : lv_has ls 5 [(0, .ref (g 0)), (1, .int (Int32.ofInt x1))] := hl
  rw [r_readArg] at hm
  refine lv_aload_n C.1 C.2.1 dX12_readArg_0 rfl (lv_at hl 0 rfl) ?_
  refine fg_44 C h dX12_readArg_1 ?_
  refine lv_iload_n C.1 C.2.1 dX12_readArg_4 rfl (lv_at hl 1 rfl) ?_
  obtain ⟨g1, hm⟩ := grd_s hm
  refine al_72 C h dX12_readArg_5 g1 ?_
  refine lv_iconst (v := Int32.ofInt 1) C.1 C.2.1 dX12_readArg_6 (by decide) ?_
  obtain ⟨g2, hm⟩ := grd_s hm
  refine z_icmp_ne (tgt := 54) C dX12_readArg_7 (by decide) g2 (by decide) (fun c3 => ?_) (fun c3 => ?_)
  · have hm := ite_f c3 hm
    refine lv_aload_n C.1 C.2.1 dX12_readArg_54 rfl (lv_at hl 0 rfl) ?_
    refine fg_44 C h dX12_readArg_55 ?_
    refine lv_iload_n C.1 C.2.1 dX12_readArg_58 rfl (lv_at hl 1 rfl) ?_
    refine al_72 C h dX12_readArg_59 g1 ?_
    refine lv_iconst (v := Int32.ofInt 2) C.1 C.2.1 dX12_readArg_60 (by decide) ?_
    refine z_icmp_ne (tgt := 131) C dX12_readArg_61 (by decide) g2 (by decide) (fun c4 => ?_) (fun c4 => ?_)
    · have hm := ite_f c4 hm
      refine lv_aload_n C.1 C.2.1 dX12_readArg_131 rfl (lv_at hl 0 rfl) ?_
      refine fg_3 C h dX12_readArg_132 ?_
      refine lv_iconst (v := Int32.ofInt 5) C.1 C.2.1 dX12_readArg_135 (by decide) ?_
      obtain ⟨g5, hm⟩ := grd_s hm
      refine z_icmp_ne (tgt := 196) C dX12_readArg_136 (by decide) g5 (by decide) (fun c6 => ?_) (fun c6 => ?_)
      · have hm := ite_f c6 hm
        refine lv_aload_n C.1 C.2.1 dX12_readArg_196 rfl (lv_at hl 0 rfl) ?_
        refine lv_bipush (v := Int32.ofInt 40) C.1 C.2.1 dX12_readArg_197 (by decide) ?_
        obtain ⟨r7, e8, hm⟩ := obd_s hm
        refine q_callVi C h (rc_isSign l D k g N σ 40 r7 e8) (cwV 1 C.2.2.1 (gR_isSign _) rfl rfl rfl hd_isSign ⟨Nat.le_of_ble_eq_true rfl, Nat.le_of_ble_eq_true rfl⟩) rfl hl.1 rfl (Nat.le_of_ble_eq_true rfl) dX12_readArg_199 ⟨Nat.le_of_ble_eq_true rfl, Nat.le_of_ble_eq_true rfl⟩ (fun H locs h => ?_)
        obtain ⟨g9, hm⟩ := grd_s hm
        refine z_if_eq (tgt := 238) C dX12_readArg_202 (by decide) g9 (fun c10 => ?_) (fun c10 => ?_)
        · have hm := ite_t c10 hm
          refine lv_aload_n C.1 C.2.1 dX12_readArg_238 rfl (lv_at hl 0 rfl) ?_
          refine fg_3 C h dX12_readArg_239 ?_
          refine lv_iconst (v := Int32.ofInt 2) C.1 C.2.1 dX12_readArg_242 (by decide) ?_
          obtain ⟨g11, hm⟩ := grd_s hm
          refine z_icmp_ne (tgt := 346) C dX12_readArg_243 (by decide) g11 (by decide) (fun c12 => ?_) (fun c12 => ?_)
          · have hm := ite_f c12 hm
            refine lv_aload_n C.1 C.2.1 dX12_readArg_346 rfl (lv_at hl 0 rfl) ?_
            refine lv_iconst (v := Int32.ofInt 1) C.1 C.2.1 dX12_readArg_347 (by decide) ?_
            refine lv_aload_n C.1 C.2.1 dX12_readArg_348 rfl (lv_at hl 0 rfl) ?_
            refine fg_4 C h dX12_readArg_349 ?_
            obtain ⟨r13, e14, hm⟩ := obd_s hm
            refine q_callVv C h (rc_fail l D k g N r7.1 1 (fl r7.1 4 0) r13 e14) (cwV 2 C.2.2.1 (gR_fail _) rfl rfl rfl hd_fail ⟨Nat.le_of_ble_eq_true rfl, Nat.le_of_ble_eq_true rfl⟩) rfl hl.1 rfl (Nat.le_of_ble_eq_true rfl) dX12_readArg_352 ⟨Nat.le_of_ble_eq_true rfl, Nat.le_of_ble_eq_true rfl⟩ (fun H locs h => ?_)
            cases hm
            exact q_vret C h hr hlk dX12_readArg_355
          · have hm := ite_t c12 hm
            refine lv_aload_n C.1 C.2.1 dX12_readArg_246 rfl (lv_at hl 0 rfl) ?_
            obtain ⟨r15, e16, hm⟩ := obd_s hm
            refine q_callVi C h (rc_paramHere l D k g N r7.1  r15 e16) (cwV 0 C.2.2.1 (gR_paramHere _) rfl rfl rfl hd_paramHere ⟨Nat.le_of_ble_eq_true rfl, Nat.le_of_ble_eq_true rfl⟩) rfl hl.1 rfl (Nat.le_of_ble_eq_true rfl) dX12_readArg_247 ⟨Nat.le_of_ble_eq_true rfl, Nat.le_of_ble_eq_true rfl⟩ (fun H locs h => ?_)
            refine lv_istore_n (lv' := [(2, .int (Int32.ofInt r15.2)), (0, .ref (g 0)), (1, .int (Int32.ofInt x1))]) C.1 C.2.1 dX12_readArg_250 rfl hl (by decide) rfl (fun ls hl => ?_)
            refine lv_aload_n C.1 C.2.1 dX12_readArg_251 rfl (lv_at hl 1 rfl) ?_
            obtain ⟨r17, e18, hm⟩ := obd_s hm
            refine q_callVi C h (rc_definitionHere l D k g N r15.1  r17 e18) (cwV 0 C.2.2.1 (gR_definitionHere _) rfl rfl rfl hd_definitionHere ⟨Nat.le_of_ble_eq_true rfl, Nat.le_of_ble_eq_true rfl⟩) rfl hl.1 rfl (Nat.le_of_ble_eq_true rfl) dX12_readArg_252 ⟨Nat.le_of_ble_eq_true rfl, Nat.le_of_ble_eq_true rfl⟩ (fun H locs h => ?_)
            refine lv_istore_n (lv' := [(3, .int (Int32.ofInt r17.2)), (2, .int (Int32.ofInt r15.2)), (0, .ref (g 0)), (1, .int (Int32.ofInt x1))]) C.1 C.2.1 dX12_readArg_255 rfl hl (by decide) rfl (fun ls hl => ?_)
            refine lv_iload_n C.1 C.2.1 dX12_readArg_256 rfl (lv_at hl 1 rfl) ?_
            refine lv_iconst (v := Int32.ofInt (-1)) C.1 C.2.1 dX12_readArg_257 (by decide) ?_
            obtain ⟨g19, hm⟩ := grd_s hm
            refine z_icmp_ne (tgt := 292) C dX12_readArg_258 (by decide) g19 (by decide) (fun c20 => ?_) (fun c20 => ?_)
            · have hm := ite_f c20 hm
              exact lm_readArg_292 (N := N) C hr hlk  (lv_sub hl [2, 1, 0] rfl) h hm
            · have hm := ite_t c20 hm
              refine lv_aload_n C.1 C.2.1 dX12_readArg_261 rfl (lv_at hl 2 rfl) ?_
              obtain ⟨r21, e22, hm⟩ := obd_s hm
              refine q_callVi C h (rc_functionHere l D k g N r17.1  r21 e22) (cwV 0 C.2.2.1 (gR_functionHere _) rfl rfl rfl hd_functionHere ⟨Nat.le_of_ble_eq_true rfl, Nat.le_of_ble_eq_true rfl⟩) rfl hl.1 rfl (Nat.le_of_ble_eq_true rfl) dX12_readArg_262 ⟨Nat.le_of_ble_eq_true rfl, Nat.le_of_ble_eq_true rfl⟩ (fun H locs h => ?_)
              obtain ⟨g23, hm⟩ := grd_s hm
              refine z_if_ge (tgt := 282) C dX12_readArg_265 (by decide) g23 (fun c24 => ?_) (fun c24 => ?_)
              · have hm := ite_f c24 hm
                exact lm_readArg_282 (N := N) C hr hlk  (lv_sub hl [2] rfl) h hm
              · have hm := ite_t c24 hm
                refine lv_iload_n C.1 C.2.1 dX12_readArg_268 rfl (lv_at hl 0 rfl) ?_
                refine lv_iconst (v := Int32.ofInt (-1)) C.1 C.2.1 dX12_readArg_269 (by decide) ?_
                obtain ⟨g25, hm⟩ := grd_s hm
                refine z_icmp_eq (tgt := 282) C dX12_readArg_270 (by decide) g25 (by decide) (fun c26 => ?_) (fun c26 => ?_)
                · have hm := ite_t c26 hm
                  exact lm_readArg_282 (N := N) C hr hlk  (lv_sub hl [2] rfl) h hm
                · have hm := ite_f c26 hm
                  refine lv_aload_n C.1 C.2.1 dX12_readArg_273 rfl (lv_at hl 2 rfl) ?_
                  refine fg_31 C h dX12_readArg_274 ?_
                  refine lv_iload_n C.1 C.2.1 dX12_readArg_277 rfl (lv_at hl 0 rfl) ?_
                  obtain ⟨g27, hm⟩ := grd_s hm
                  refine al_81 C h dX12_readArg_278 g27 ?_
                  obtain ⟨g28, hm⟩ := grd_s hm
                  refine z_if_le (tgt := 292) C dX12_readArg_279 (by decide) g28 (fun c29 => ?_) (fun c29 => ?_)
                  · have hm := ite_f c29 hm
                    exact lm_readArg_292 (N := N) C hr hlk  (lv_sub hl [2, 1, 0] rfl) h hm
                  · have hm := ite_t c29 hm
                    exact lm_readArg_282 (N := N) C hr hlk  (lv_sub hl [2] rfl) h hm
        · have hm := ite_f c10 hm
          refine lv_aload_n C.1 C.2.1 dX12_readArg_205 rfl (lv_at hl 0 rfl) ?_
          refine lv_aload_n C.1 C.2.1 dX12_readArg_206 rfl (lv_at hl 0 rfl) ?_
          refine fg_4 C h dX12_readArg_207 ?_
          obtain ⟨r30, e31, hm⟩ := obd_s hm
          refine q_callVi C h (rc_isOpen l D k g N r7.1 (fl r7.1 4 0) r30 e31) (cwV 1 C.2.2.1 (gR_isOpen _) rfl rfl rfl hd_isOpen ⟨Nat.le_of_ble_eq_true rfl, Nat.le_of_ble_eq_true rfl⟩) rfl hl.1 rfl (Nat.le_of_ble_eq_true rfl) dX12_readArg_210 ⟨Nat.le_of_ble_eq_true rfl, Nat.le_of_ble_eq_true rfl⟩ (fun H locs h => ?_)
          obtain ⟨g32, hm⟩ := grd_s hm
          refine z_if_ne (tgt := 217) C dX12_readArg_213 (by decide) g32 (fun c33 => ?_) (fun c33 => ?_)
          · have hm := ite_f c33 hm
            refine lv_aload_n C.1 C.2.1 dX12_readArg_217 rfl (lv_at hl 0 rfl) ?_
            refine fg_44 C h dX12_readArg_218 ?_
            refine lv_iload_n C.1 C.2.1 dX12_readArg_221 rfl (lv_at hl 1 rfl) ?_
            refine lv_iconst (v := Int32.ofInt 1) C.1 C.2.1 dX12_readArg_222 (by decide) ?_
            refine as_72 C h dX12_readArg_223 g1 (fun H locs h => ?_)
            refine lv_aload_n C.1 C.2.1 dX12_readArg_224 rfl (lv_at hl 0 rfl) ?_
            obtain ⟨σ34, e35, hm⟩ := bnd_s hm
            rw [e35] at h
            obtain ⟨r36, e37, hm⟩ := obd_s hm
            refine q_callVv C h (rc_advance l D k g N σ34  r36 e37) (cwV 0 C.2.2.1 (gR_advance _) rfl rfl rfl hd_advance ⟨Nat.le_of_ble_eq_true rfl, Nat.le_of_ble_eq_true rfl⟩) rfl hl.1 rfl (Nat.le_of_ble_eq_true rfl) dX12_readArg_225 ⟨Nat.le_of_ble_eq_true rfl, Nat.le_of_ble_eq_true rfl⟩ (fun H locs h => ?_)
            refine lv_aload_n C.1 C.2.1 dX12_readArg_228 rfl (lv_at hl 0 rfl) ?_
            refine lv_iconst (v := Int32.ofInt 1) C.1 C.2.1 dX12_readArg_229 (by decide) ?_
            refine lv_iconst (v := Int32.ofInt (-1)) C.1 C.2.1 dX12_readArg_230 (by decide) ?_
            refine lv_iconst (v := Int32.ofInt 0) C.1 C.2.1 dX12_readArg_231 (by decide) ?_
            obtain ⟨r38, e39, hm⟩ := obd_s hm
            refine q_callVv C h (rc_begin l D k g N r36 1 (-1) 0 r38 e39) (cwV 3 C.2.2.1 (gR_begin _) rfl rfl rfl hd_begin ⟨Nat.le_of_ble_eq_true rfl, Nat.le_of_ble_eq_true rfl⟩) rfl hl.1 rfl (Nat.le_of_ble_eq_true rfl) dX12_readArg_232 ⟨Nat.le_of_ble_eq_true rfl, Nat.le_of_ble_eq_true rfl⟩ (fun H locs h => ?_)
            refine lv_goto (tgt := 355) C.1 C.2.1 dX12_readArg_235 (by decide) ?_
            cases hm
            exact q_vret C h hr hlk dX12_readArg_355
          · have hm := ite_t c33 hm
            cases hm
            exact q_vret C h hr hlk dX12_readArg_216
      · have hm := ite_t c6 hm
        refine lv_aload_n C.1 C.2.1 dX12_readArg_139 rfl (lv_at hl 0 rfl) ?_
        refine lv_aload_n C.1 C.2.1 dX12_readArg_140 rfl (lv_at hl 0 rfl) ?_
        refine fg_4 C h dX12_readArg_141 ?_
        obtain ⟨r40, e41, hm⟩ := obd_s hm
        refine q_callVi C h (rc_isOpen l D k g N σ (fl σ 4 0) r40 e41) (cwV 1 C.2.2.1 (gR_isOpen _) rfl rfl rfl hd_isOpen ⟨Nat.le_of_ble_eq_true rfl, Nat.le_of_ble_eq_true rfl⟩) rfl hl.1 rfl (Nat.le_of_ble_eq_true rfl) dX12_readArg_144 ⟨Nat.le_of_ble_eq_true rfl, Nat.le_of_ble_eq_true rfl⟩ (fun H locs h => ?_)
        obtain ⟨g42, hm⟩ := grd_s hm
        refine z_if_ne (tgt := 151) C dX12_readArg_147 (by decide) g42 (fun c43 => ?_) (fun c43 => ?_)
        · have hm := ite_f c43 hm
          refine lv_aload_n C.1 C.2.1 dX12_readArg_151 rfl (lv_at hl 0 rfl) ?_
          refine fg_44 C h dX12_readArg_152 ?_
          refine lv_iload_n C.1 C.2.1 dX12_readArg_155 rfl (lv_at hl 1 rfl) ?_
          refine lv_iconst (v := Int32.ofInt 2) C.1 C.2.1 dX12_readArg_156 (by decide) ?_
          refine as_72 C h dX12_readArg_157 g1 (fun H locs h => ?_)
          refine lv_aload_n C.1 C.2.1 dX12_readArg_158 rfl (lv_at hl 0 rfl) ?_
          refine fg_45 C h dX12_readArg_159 ?_
          refine lv_iload_n C.1 C.2.1 dX12_readArg_162 rfl (lv_at hl 1 rfl) ?_
          refine lv_aload_n C.1 C.2.1 dX12_readArg_163 rfl (lv_at hl 0 rfl) ?_
          refine fg_5 C h dX12_readArg_164 ?_
          refine x_topi (y := Int32.ofInt (fl r40.1 5 0)) rfl ?_
          refine lv_iconst (v := Int32.ofInt 1) C.1 C.2.1 dX12_readArg_167 (by decide) ?_
          refine z_isub C dX12_readArg_168 ?_
          refine as_71 C h dX12_readArg_169 g1 (fun H locs h => ?_)
          refine lv_aload_n C.1 C.2.1 dX12_readArg_170 rfl (lv_at hl 0 rfl) ?_
          refine lv_aload_n C.1 C.2.1 dX12_readArg_171 rfl (lv_at hl 0 rfl) ?_
          refine fg_4 C h dX12_readArg_172 ?_
          refine x_topi (y := Int32.ofInt (fl r40.1 4 0)) rfl ?_
          refine lv_iconst (v := Int32.ofInt 1) C.1 C.2.1 dX12_readArg_175 (by decide) ?_
          refine z_iadd C dX12_readArg_176 ?_
          refine fp_2 C h dX12_readArg_177 (fun H locs h => ?_)
          refine lv_aload_n C.1 C.2.1 dX12_readArg_180 rfl (lv_at hl 0 rfl) ?_
          refine lv_iconst (v := Int32.ofInt 0) C.1 C.2.1 dX12_readArg_181 (by decide) ?_
          refine fp_47 C h dX12_readArg_182 (fun H locs h => ?_)
          refine lv_aload_n C.1 C.2.1 dX12_readArg_185 rfl (lv_at hl 0 rfl) ?_
          refine lv_bipush (v := Int32.ofInt 10) C.1 C.2.1 dX12_readArg_186 (by decide) ?_
          refine lv_iconst (v := Int32.ofInt (-1)) C.1 C.2.1 dX12_readArg_188 (by decide) ?_
          refine lv_iconst (v := Int32.ofInt 0) C.1 C.2.1 dX12_readArg_189 (by decide) ?_
          obtain ⟨σ44, e45, hm⟩ := bnd_s hm
          rw [e45] at h
          obtain ⟨r46, e47, hm⟩ := obd_s hm
          refine q_callVv C h (rc_begin l D k g N σ44 10 (-1) 0 r46 e47) (cwV 3 C.2.2.1 (gR_begin _) rfl rfl rfl hd_begin ⟨Nat.le_of_ble_eq_true rfl, Nat.le_of_ble_eq_true rfl⟩) rfl hl.1 rfl (Nat.le_of_ble_eq_true rfl) dX12_readArg_190 ⟨Nat.le_of_ble_eq_true rfl, Nat.le_of_ble_eq_true rfl⟩ (fun H locs h => ?_)
          refine lv_goto (tgt := 355) C.1 C.2.1 dX12_readArg_193 (by decide) ?_
          cases hm
          exact q_vret C h hr hlk dX12_readArg_355
        · have hm := ite_t c43 hm
          cases hm
          exact q_vret C h hr hlk dX12_readArg_150
    · have hm := ite_t c4 hm
      refine lv_aload_n C.1 C.2.1 dX12_readArg_64 rfl (lv_at hl 0 rfl) ?_
      refine lv_aload_n C.1 C.2.1 dX12_readArg_65 rfl (lv_at hl 0 rfl) ?_
      refine fg_2 C h dX12_readArg_66 ?_
      obtain ⟨r48, e49, hm⟩ := obd_s hm
      refine q_callVi C h (rc_byteAt l D k g N σ (fl σ 2 0) r48 e49) (cwV 1 C.2.2.1 (gR_byteAt _) rfl rfl rfl hd_byteAt ⟨Nat.le_of_ble_eq_true rfl, Nat.le_of_ble_eq_true rfl⟩) rfl hl.1 rfl (Nat.le_of_ble_eq_true rfl) dX12_readArg_69 ⟨Nat.le_of_ble_eq_true rfl, Nat.le_of_ble_eq_true rfl⟩ (fun H locs h => ?_)
      refine lv_bipush (v := Int32.ofInt 34) C.1 C.2.1 dX12_readArg_72 (by decide) ?_
      obtain ⟨g50, hm⟩ := grd_s hm
      refine z_icmp_ne (tgt := 90) C dX12_readArg_74 (by decide) g50 (by decide) (fun c51 => ?_) (fun c51 => ?_)
      · have hm := ite_f c51 hm
        exact lm_readArg_90 (N := N) C hr hlk  (lv_sub hl [0] rfl) h hm
      · have hm := ite_t c51 hm
        refine lv_aload_n C.1 C.2.1 dX12_readArg_77 rfl (lv_at hl 0 rfl) ?_
        refine fg_2 C h dX12_readArg_78 ?_
        refine lv_aload_n C.1 C.2.1 dX12_readArg_81 rfl (lv_at hl 0 rfl) ?_
        refine fg_45 C h dX12_readArg_82 ?_
        refine lv_iload_n C.1 C.2.1 dX12_readArg_85 rfl (lv_at hl 1 rfl) ?_
        refine al_71 C h dX12_readArg_86 g1 ?_
        obtain ⟨g52, hm⟩ := grd_s hm
        obtain ⟨g53, hm⟩ := grd_s hm
        refine z_icmp_eq (tgt := 100) C dX12_readArg_87 (by decide) g52 g53 (fun c54 => ?_) (fun c54 => ?_)
        · have hm := ite_t c54 hm
          refine lv_aload_n C.1 C.2.1 dX12_readArg_100 rfl (lv_at hl 0 rfl) ?_
          refine lv_dup C.1 C.2.1 dX12_readArg_101 rfl ?_
          refine fg_13 C h dX12_readArg_102 ?_
          refine lv_iconst (v := Int32.ofInt 1) C.1 C.2.1 dX12_readArg_105 (by decide) ?_
          refine z_isub C dX12_readArg_106 ?_
          refine fp_13 C h dX12_readArg_107 (fun H locs h => ?_)
          refine lv_aload_n C.1 C.2.1 dX12_readArg_110 rfl (lv_at hl 0 rfl) ?_
          refine lv_aload_n C.1 C.2.1 dX12_readArg_111 rfl (lv_at hl 0 rfl) ?_
          refine fg_2 C h dX12_readArg_112 ?_
          refine x_topi (y := Int32.ofInt (fl r48.1 2 0)) rfl ?_
          refine lv_iconst (v := Int32.ofInt 1) C.1 C.2.1 dX12_readArg_115 (by decide) ?_
          refine z_iadd C dX12_readArg_116 ?_
          obtain ⟨σ55, e56, hm⟩ := bnd_s hm
          rw [e56] at h
          obtain ⟨r57, e58, hm⟩ := obd_s hm
          refine q_callVv C h (rc_look l D k g N σ55 ((fl r48.1 2 0) + 1) r57 e58) (cwV 1 C.2.2.1 (gR_look _) rfl rfl rfl hd_look ⟨Nat.le_of_ble_eq_true rfl, Nat.le_of_ble_eq_true rfl⟩) rfl hl.1 rfl (Nat.le_of_ble_eq_true rfl) dX12_readArg_117 ⟨Nat.le_of_ble_eq_true rfl, Nat.le_of_ble_eq_true rfl⟩ (fun H locs h => ?_)
          refine lv_aload_n C.1 C.2.1 dX12_readArg_120 rfl (lv_at hl 0 rfl) ?_
          refine lv_aload_n C.1 C.2.1 dX12_readArg_121 rfl (lv_at hl 0 rfl) ?_
          refine fg_46 C h dX12_readArg_122 ?_
          obtain ⟨r59, e60, hm⟩ := obd_s hm
          refine q_callVv C h (rc_finish l D k g N r57 (fl r57 46 0) r59 e60) (cwV 1 C.2.2.1 (gR_finish _) rfl rfl rfl hd_finish ⟨Nat.le_of_ble_eq_true rfl, Nat.le_of_ble_eq_true rfl⟩) rfl hl.1 rfl (Nat.le_of_ble_eq_true rfl) dX12_readArg_125 ⟨Nat.le_of_ble_eq_true rfl, Nat.le_of_ble_eq_true rfl⟩ (fun H locs h => ?_)
          refine lv_goto (tgt := 355) C.1 C.2.1 dX12_readArg_128 (by decide) ?_
          cases hm
          exact q_vret C h hr hlk dX12_readArg_355
        · have hm := ite_f c54 hm
          exact lm_readArg_90 (N := N) C hr hlk  (lv_sub hl [0] rfl) h hm
  · have hm := ite_t c3 hm
    refine lv_aload_n C.1 C.2.1 dX12_readArg_10 rfl (lv_at hl 0 rfl) ?_
    refine lv_bipush (v := Int32.ofInt 41) C.1 C.2.1 dX12_readArg_11 (by decide) ?_
    obtain ⟨r61, e62, hm⟩ := obd_s hm
    refine q_callVi C h (rc_isSign l D k g N σ 41 r61 e62) (cwV 1 C.2.2.1 (gR_isSign _) rfl rfl rfl hd_isSign ⟨Nat.le_of_ble_eq_true rfl, Nat.le_of_ble_eq_true rfl⟩) rfl hl.1 rfl (Nat.le_of_ble_eq_true rfl) dX12_readArg_13 ⟨Nat.le_of_ble_eq_true rfl, Nat.le_of_ble_eq_true rfl⟩ (fun H locs h => ?_)
    obtain ⟨g63, hm⟩ := grd_s hm
    refine z_if_ne (tgt := 29) C dX12_readArg_16 (by decide) g63 (fun c64 => ?_) (fun c64 => ?_)
    · have hm := ite_f c64 hm
      refine lv_aload_n C.1 C.2.1 dX12_readArg_29 rfl (lv_at hl 0 rfl) ?_
      refine lv_dup C.1 C.2.1 dX12_readArg_30 rfl ?_
      refine fg_13 C h dX12_readArg_31 ?_
      refine lv_iconst (v := Int32.ofInt 1) C.1 C.2.1 dX12_readArg_34 (by decide) ?_
      refine z_isub C dX12_readArg_35 ?_
      refine fp_13 C h dX12_readArg_36 (fun H locs h => ?_)
      refine lv_aload_n C.1 C.2.1 dX12_readArg_39 rfl (lv_at hl 0 rfl) ?_
      obtain ⟨σ65, e66, hm⟩ := bnd_s hm
      rw [e66] at h
      obtain ⟨r67, e68, hm⟩ := obd_s hm
      refine q_callVv C h (rc_advance l D k g N σ65  r67 e68) (cwV 0 C.2.2.1 (gR_advance _) rfl rfl rfl hd_advance ⟨Nat.le_of_ble_eq_true rfl, Nat.le_of_ble_eq_true rfl⟩) rfl hl.1 rfl (Nat.le_of_ble_eq_true rfl) dX12_readArg_40 ⟨Nat.le_of_ble_eq_true rfl, Nat.le_of_ble_eq_true rfl⟩ (fun H locs h => ?_)
      refine lv_aload_n C.1 C.2.1 dX12_readArg_43 rfl (lv_at hl 0 rfl) ?_
      refine lv_aload_n C.1 C.2.1 dX12_readArg_44 rfl (lv_at hl 0 rfl) ?_
      refine fg_46 C h dX12_readArg_45 ?_
      obtain ⟨r69, e70, hm⟩ := obd_s hm
      refine q_callVv C h (rc_finish l D k g N r67 (fl r67 46 0) r69 e70) (cwV 1 C.2.2.1 (gR_finish _) rfl rfl rfl hd_finish ⟨Nat.le_of_ble_eq_true rfl, Nat.le_of_ble_eq_true rfl⟩) rfl hl.1 rfl (Nat.le_of_ble_eq_true rfl) dX12_readArg_48 ⟨Nat.le_of_ble_eq_true rfl, Nat.le_of_ble_eq_true rfl⟩ (fun H locs h => ?_)
      refine lv_goto (tgt := 355) C.1 C.2.1 dX12_readArg_51 (by decide) ?_
      cases hm
      exact q_vret C h hr hlk dX12_readArg_355
    · have hm := ite_t c64 hm
      refine lv_aload_n C.1 C.2.1 dX12_readArg_19 rfl (lv_at hl 0 rfl) ?_
      refine lv_iconst (v := Int32.ofInt 1) C.1 C.2.1 dX12_readArg_20 (by decide) ?_
      refine lv_aload_n C.1 C.2.1 dX12_readArg_21 rfl (lv_at hl 0 rfl) ?_
      refine fg_4 C h dX12_readArg_22 ?_
      obtain ⟨r71, e72, hm⟩ := obd_s hm
      refine q_callVv C h (rc_fail l D k g N r61.1 1 (fl r61.1 4 0) r71 e72) (cwV 2 C.2.2.1 (gR_fail _) rfl rfl rfl hd_fail ⟨Nat.le_of_ble_eq_true rfl, Nat.le_of_ble_eq_true rfl⟩) rfl hl.1 rfl (Nat.le_of_ble_eq_true rfl) dX12_readArg_25 ⟨Nat.le_of_ble_eq_true rfl, Nat.le_of_ble_eq_true rfl⟩ (fun H locs h => ?_)
      cases hm
      exact q_vret C h hr hlk dX12_readArg_28
end L_readArg
