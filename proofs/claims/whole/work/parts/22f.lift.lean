section L_grainOf
variable {p : Program} {l : Launch} {e : Env} {s : State} {m : MethodId} {args : Array Value} {below : List Frame} {meth : Method} {c : Code} {D : va_G} {A : Nat → Prop} {k : Nat → ClassId} {g : Nat → Nat} {N : Nat} {cd : Cond}
set_option maxHeartbeats 4000000 in
set_option maxRecDepth 100000 in
theorem rc_grainOf (l : Launch) (D : va_G) (k : Nat → ClassId) (g : Nat → Nat) (N : Nat) (σ : St) (x1 : Int) (r : St × Int) (hm : r_grainOf N σ x1 = some r) : Ml l yX12_grainOf (.code yX12_grainOf cX12_grainOf 2 (some .long) :: rW) { frames := 0, cells := 0, slots := 0, locals := 0 } [.ref (g 0), .int (Int32.ofInt x1)] D (TYs k) (mW k g σ) (fun _ => True) Unit (fun v _ => v = Int64.ofInt r.2) (fun _ => mW k g r.1) 0 0 := by
  intro sz
  refine x_met (cc := cX12_grainOf) (maxL := 2) (ret := (some .long)) (by decide) rfl (Nat.le_of_ble_eq_true rfl) ?_
  intro p e s m below meth c ls C hX hsz hr hlk hmn hl h
  have hl : lv_has ls 2 [(0, .ref (g 0)), (1, .int (Int32.ofInt x1))] := hl
  rw [r_grainOf] at hm
  refine lv_aload_n C.1 C.2.1 dX12_grainOf_0 rfl (lv_at hl 0 rfl) ?_
  refine fg_56 C h dX12_grainOf_1 ?_
  refine lv_aload_n C.1 C.2.1 dX12_grainOf_4 rfl (lv_at hl 0 rfl) ?_
  refine fg_62 C h dX12_grainOf_5 ?_
  refine lv_aload_n C.1 C.2.1 dX12_grainOf_8 rfl (lv_at hl 0 rfl) ?_
  refine fg_54 C h dX12_grainOf_9 ?_
  refine lv_aload_n C.1 C.2.1 dX12_grainOf_12 rfl (lv_at hl 0 rfl) ?_
  refine fg_97 C h dX12_grainOf_13 ?_
  refine lv_iload_n C.1 C.2.1 dX12_grainOf_16 rfl (lv_at hl 1 rfl) ?_
  obtain ⟨g1, hm⟩ := grd_s hm
  refine al_42 C h dX12_grainOf_17 g1 ?_
  obtain ⟨g2, hm⟩ := grd_s hm
  refine al_65 C h dX12_grainOf_18 g2 ?_
  refine lv_aload_n C.1 C.2.1 dX12_grainOf_19 rfl (lv_at hl 0 rfl) ?_
  refine fg_102 C h dX12_grainOf_20 ?_
  refine lv_iload_n C.1 C.2.1 dX12_grainOf_23 rfl (lv_at hl 1 rfl) ?_
  refine al_37 C h dX12_grainOf_24 g1 ?_
  refine z_iadd C dX12_grainOf_25 ?_
  obtain ⟨g3, hm⟩ := grd_s hm
  refine al_58 C h dX12_grainOf_26 g3 ?_
  obtain ⟨g4, hm⟩ := grd_s hm
  refine al_63 C h dX12_grainOf_27 g4 ?_
  obtain ⟨g5, hm⟩ := grd_s hm
  refine z_i2l C dX12_grainOf_28 g5 ?_
  cases hm
  exact q_lret C h hr hlk dX12_grainOf_29
end L_grainOf
section L_kidAt
variable {p : Program} {l : Launch} {e : Env} {s : State} {m : MethodId} {args : Array Value} {below : List Frame} {meth : Method} {c : Code} {D : va_G} {A : Nat → Prop} {k : Nat → ClassId} {g : Nat → Nat} {N : Nat} {cd : Cond}
set_option maxHeartbeats 4000000 in
set_option maxRecDepth 100000 in
theorem lm_kidAt_68 {r : St × Int} (C : Cx p s m args c cX12_kidAt RX12 (cd :: rW) D (TYs k) 8) (hr : meth.sig.returnType = (some .int)) (hlk : meth.locks = false) {rec9 : St → Int → Int → Int → Int → Int → Option (St × Int)} (hrec9 : ∀ {ls : Array Slot} {H : Heap} {locs : List Loc} {σ : St} {x1 : Int} {x2 : Int} {x4 : Int} {x6 : Int} {x7 : Int}, lv_has ls 8 [(0, .ref (g 0)), (1, .int (Int32.ofInt x1)), (2, .long (Int64.ofInt x2)), (4, .long (Int64.ofInt x4)), (6, .int (Int32.ofInt x6)), (7, .int (Int32.ofInt x7))] → Hp D A s.heap H locs (mW k g σ) → rec9 σ x1 x2 x4 x6 x7 = some r → W p l e { frames := 0, cells := 0, slots := 0, locals := 0 } s m args below meth c H locs 0 0 (MQ below (va_Qi (fun v (_ : Unit) => v = Int32.ofInt r.2) (fun _ t => PostW D (TYs k) A (mW k g r.1) t) A) args s 0 0 A) (F0 m 9 ls [])) {ls : Array Slot} {H : Heap} {locs : List Loc} {σ : St} {x1 : Int} {x2 : Int} {x4 : Int} {x6 : Int} {s0 : Int} (hl : lv_has ls 8 [(0, .ref (g 0)), (1, .int (Int32.ofInt x1)), (2, .long (Int64.ofInt x2)), (4, .long (Int64.ofInt x4)), (6, .int (Int32.ofInt x6))]) (h : Hp D A s.heap H locs (mW k g σ)) (hm : r_kidAt_68 N rec9 σ x1 x2 x4 x6 s0 = some r) : W p l e { frames := 0, cells := 0, slots := 0, locals := 0 } s m args below meth c H locs 0 0 (MQ below (va_Qi (fun v (_ : Unit) => v = Int32.ofInt r.2) (fun _ t => PostW D (TYs k) A (mW k g r.1) t) A) args s 0 0 A) (F0 m 68 ls [.int (Int32.ofInt s0)]) := by
  rw [r_kidAt_68] at hm
  refine lv_istore (lv' := [(7, .int (Int32.ofInt s0)), (0, .ref (g 0)), (1, .int (Int32.ofInt x1)), (2, .long (Int64.ofInt x2)), (4, .long (Int64.ofInt x4)), (6, .int (Int32.ofInt x6))]) C.1 C.2.1 dX12_kidAt_68 hl (by decide) rfl (fun ls hl => ?_)
  refine lv_iload C.1 C.2.1 dX12_kidAt_70 (lv_at hl 0 rfl) ?_
  obtain ⟨g13, hm⟩ := grd_s hm
  refine z_if_ne (tgt := 9) C dX12_kidAt_72 (by decide) g13 (fun c14 => ?_) (fun c14 => ?_)
  · have hm := ite_f c14 hm
    exact hrec9 (lv_sub hl [1, 2, 3, 4, 5, 0] rfl) h hm
  · have hm := ite_t c14 hm
    refine lv_iinc (v := Int32.ofInt (x6 + 1)) (lv' := [(6, .int (Int32.ofInt (x6 + 1))), (7, .int (Int32.ofInt s0)), (0, .ref (g 0)), (1, .int (Int32.ofInt x1)), (2, .long (Int64.ofInt x2)), (4, .long (Int64.ofInt x4))]) C.1 C.2.1 dX12_kidAt_75 hl (k := 5) rfl (c32_add _ _) (by decide) rfl (fun ls hl => ?_)
    refine lv_goto (tgt := 9) C.1 C.2.1 dX12_kidAt_78 (by decide) ?_
    exact hrec9 (lv_sub hl [2, 3, 4, 5, 0, 1] rfl) h hm
set_option maxHeartbeats 4000000 in
set_option maxRecDepth 100000 in
theorem lm_kidAt_9 {r : St × Int} (C : Cx p s m args c cX12_kidAt RX12 (cd :: rW) D (TYs k) 8) (hr : meth.sig.returnType = (some .int)) (hlk : meth.locks = false)  (n : Nat) : ∀ {ls : Array Slot} {H : Heap} {locs : List Loc} {σ : St} {x1 : Int} {x2 : Int} {x4 : Int} {x6 : Int} {x7 : Int}, lv_has ls 8 [(0, .ref (g 0)), (1, .int (Int32.ofInt x1)), (2, .long (Int64.ofInt x2)), (4, .long (Int64.ofInt x4)), (6, .int (Int32.ofInt x6)), (7, .int (Int32.ofInt x7))] → Hp D A s.heap H locs (mW k g σ) → r_kidAt_9 N  n σ x1 x2 x4 x6 x7 = some r → W p l e { frames := 0, cells := 0, slots := 0, locals := 0 } s m args below meth c H locs 0 0 (MQ below (va_Qi (fun v (_ : Unit) => v = Int32.ofInt r.2) (fun _ t => PostW D (TYs k) A (mW k g r.1) t) A) args s 0 0 A) (F0 m 9 ls []) := by
  induction n with
  | zero => intro ls H locs σ x1 x2 x4 x6 x7 hl h hm; cases (show none = some r from hm)
  | succ n hrec9 =>
    intro ls H locs σ x1 x2 x4 x6 x7 hl h hm
    rw [r_kidAt_9] at hm
    refine lv_iload C.1 C.2.1 dX12_kidAt_9 (lv_at hl 5 rfl) ?_
    obtain ⟨g1, hm⟩ := grd_s hm
    refine z_if_ne (tgt := 81) C dX12_kidAt_11 (by decide) g1 (fun c2 => ?_) (fun c2 => ?_)
    · have hm := ite_f c2 hm
      refine lv_iload C.1 C.2.1 dX12_kidAt_81 (lv_at hl 4 rfl) ?_
      cases hm
      exact q_iret C h hr hlk dX12_kidAt_83 rfl
    · have hm := ite_t c2 hm
      refine lv_lload C.1 C.2.1 dX12_kidAt_14 (lv_at hl 3 rfl) ?_
      refine lv_aload_n C.1 C.2.1 dX12_kidAt_16 rfl (lv_at hl 0 rfl) ?_
      refine fg_63 C h dX12_kidAt_17 ?_
      refine lv_aload_n C.1 C.2.1 dX12_kidAt_20 rfl (lv_at hl 0 rfl) ?_
      refine fg_54 C h dX12_kidAt_21 ?_
      refine lv_iload_n C.1 C.2.1 dX12_kidAt_24 rfl (lv_at hl 1 rfl) ?_
      obtain ⟨g3, hm⟩ := grd_s hm
      refine al_65 C h dX12_kidAt_25 g3 ?_
      refine lv_iload C.1 C.2.1 dX12_kidAt_26 (lv_at hl 4 rfl) ?_
      refine z_iadd C dX12_kidAt_28 ?_
      obtain ⟨g4, hm⟩ := grd_s hm
      refine al_57 C h dX12_kidAt_29 g4 ?_
      refine lv_bipush (v := Int32.ofInt 32) C.1 C.2.1 dX12_kidAt_30 (by decide) ?_
      obtain ⟨g5, hm⟩ := grd_s hm
      refine z_irem C dX12_kidAt_32 g5 (by decide) (by decide) ?_
      obtain ⟨g6, hm⟩ := grd_s hm
      refine z_i2l C dX12_kidAt_33 g6 ?_
      refine lv_aload_n C.1 C.2.1 dX12_kidAt_34 rfl (lv_at hl 0 rfl) ?_
      refine fg_63 C h dX12_kidAt_35 ?_
      refine lv_aload_n C.1 C.2.1 dX12_kidAt_38 rfl (lv_at hl 0 rfl) ?_
      refine fg_54 C h dX12_kidAt_39 ?_
      refine lv_iload_n C.1 C.2.1 dX12_kidAt_42 rfl (lv_at hl 1 rfl) ?_
      refine al_65 C h dX12_kidAt_43 g3 ?_
      refine lv_iload C.1 C.2.1 dX12_kidAt_44 (lv_at hl 4 rfl) ?_
      refine z_iadd C dX12_kidAt_46 ?_
      refine al_57 C h dX12_kidAt_47 g4 ?_
      refine lv_bipush (v := Int32.ofInt 32) C.1 C.2.1 dX12_kidAt_48 (by decide) ?_
      refine z_idiv C dX12_kidAt_50 g5 (by decide) (by decide) ?_
      obtain ⟨g7, hm⟩ := grd_s hm
      refine z_i2l C dX12_kidAt_51 g7 ?_
      refine z_lmul C dX12_kidAt_52 ?_
      refine z_ladd C dX12_kidAt_53 ?_
      obtain ⟨v8, e9, hm⟩ := bnd_s hm
      rw [e9]
      refine lv_lstore (lv' := [(4, .long (Int64.ofInt v8)), (0, .ref (g 0)), (1, .int (Int32.ofInt x1)), (2, .long (Int64.ofInt x2)), (6, .int (Int32.ofInt x6)), (7, .int (Int32.ofInt x7))]) C.1 C.2.1 dX12_kidAt_54 hl (by decide) rfl (fun ls hl => ?_)
      refine lv_lload_n C.1 C.2.1 dX12_kidAt_56 rfl (lv_at hl 3 rfl) ?_
      refine lv_lload C.1 C.2.1 dX12_kidAt_57 (lv_at hl 0 rfl) ?_
      obtain ⟨g10, hm⟩ := grd_s hm
      obtain ⟨g11, hm⟩ := grd_s hm
      refine W.lcmp C.1 C.2.1 dX12_kidAt_59 ?_
      refine z_lcmp_ge (tgt := 67) C dX12_kidAt_60 (by decide) g10 g11 (fun c12 => ?_) (fun c12 => ?_)
      · have hm := ite_f c12 hm
        refine lv_iconst (v := Int32.ofInt 0) C.1 C.2.1 dX12_kidAt_67 (by decide) ?_
        exact lm_kidAt_68 (N := N) C hr hlk hrec9 (lv_sub hl [1, 2, 3, 0, 4] rfl) h hm
      · have hm := ite_t c12 hm
        refine lv_iconst (v := Int32.ofInt 1) C.1 C.2.1 dX12_kidAt_63 (by decide) ?_
        refine lv_goto (tgt := 68) C.1 C.2.1 dX12_kidAt_64 (by decide) ?_
        exact lm_kidAt_68 (N := N) C hr hlk hrec9 (lv_sub hl [1, 2, 3, 0, 4] rfl) h hm
set_option maxHeartbeats 4000000 in
set_option maxRecDepth 100000 in
theorem rc_kidAt (l : Launch) (D : va_G) (k : Nat → ClassId) (g : Nat → Nat) (N : Nat) (σ : St) (x1 : Int) (x2 : Int) (r : St × Int) (hm : r_kidAt N σ x1 x2 = some r) : Mi l yX12_kidAt (.code yX12_kidAt cX12_kidAt 8 (some .int) :: rW) { frames := 0, cells := 0, slots := 0, locals := 0 } [.ref (g 0), .int (Int32.ofInt x1), .long (Int64.ofInt x2)] D (TYs k) (mW k g σ) (fun _ => True) Unit (fun v _ => v = Int32.ofInt r.2) (fun _ => mW k g r.1) 0 0 := by
  intro sz
  refine x_met (cc := cX12_kidAt) (maxL := 8) (ret := (some .int)) (by decide) rfl (Nat.le_of_ble_eq_true rfl) ?_
  intro p e s m below meth c ls C hX hsz hr hlk hmn hl h
  have hl : lv_has ls 8 [(0, .ref (g 0)), (1, .int (Int32.ofInt x1)), (2, .long (Int64.ofInt x2))] := hl
  rw [r_kidAt] at hm
  refine lv_lconst (v := Int64.ofInt 0) C.1 C.2.1 dX12_kidAt_0 (by decide) ?_
  refine lv_lstore (lv' := [(4, .long (Int64.ofInt 0)), (0, .ref (g 0)), (1, .int (Int32.ofInt x1)), (2, .long (Int64.ofInt x2))]) C.1 C.2.1 dX12_kidAt_1 hl (by decide) rfl (fun ls hl => ?_)
  refine lv_iconst (v := Int32.ofInt 0) C.1 C.2.1 dX12_kidAt_3 (by decide) ?_
  refine lv_istore (lv' := [(6, .int (Int32.ofInt 0)), (4, .long (Int64.ofInt 0)), (0, .ref (g 0)), (1, .int (Int32.ofInt x1)), (2, .long (Int64.ofInt x2))]) C.1 C.2.1 dX12_kidAt_4 hl (by decide) rfl (fun ls hl => ?_)
  refine lv_iconst (v := Int32.ofInt 0) C.1 C.2.1 dX12_kidAt_6 (by decide) ?_
  refine lv_istore (lv' := [(7, .int (Int32.ofInt 0)), (6, .int (Int32.ofInt 0)), (4, .long (Int64.ofInt 0)), (0, .ref (g 0)), (1, .int (Int32.ofInt x1)), (2, .long (Int64.ofInt x2))]) C.1 C.2.1 dX12_kidAt_7 hl (by decide) rfl (fun ls hl => ?_)
  exact lm_kidAt_9 (N := N) C hr hlk  N (lv_sub hl [3, 4, 5, 2, 1, 0] rfl) h hm
end L_kidAt
section L_move
variable {p : Program} {l : Launch} {e : Env} {s : State} {m : MethodId} {args : Array Value} {below : List Frame} {meth : Method} {c : Code} {D : va_G} {A : Nat → Prop} {k : Nat → ClassId} {g : Nat → Nat} {N : Nat} {cd : Cond}
set_option maxHeartbeats 4000000 in
set_option maxRecDepth 100000 in
theorem lm_move_3 {r : St} (C : Cx p s m args c cX12_move RX12 (cd :: rW) D (TYs k) 7) (hr : meth.sig.returnType = none) (hlk : meth.locks = false)  (n : Nat) : ∀ {ls : Array Slot} {H : Heap} {locs : List Loc} {σ : St} {x2 : Int} {x4 : Int} {x6 : Int}, lv_has ls 7 [(0, .ref (g 0)), (2, .long (Int64.ofInt x2)), (4, .long (Int64.ofInt x4)), (6, .int (Int32.ofInt x6))] → Hp D A s.heap H locs (mW k g σ) → r_move_3 N  n σ x2 x4 x6 = some r → W p l e { frames := 0, cells := 0, slots := 0, locals := 0 } s m args below meth c H locs 0 0 (MQ below (va_Qv (fun (_ : Unit) => True) (fun _ t => PostW D (TYs k) A (mW k g r) t) A) args s 0 0 A) (F0 m 3 ls []) := by
  induction n with
  | zero => intro ls H locs σ x2 x4 x6 hl h hm; cases (show none = some r from hm)
  | succ n hrec3 =>
    intro ls H locs σ x2 x4 x6 hl h hm
    rw [r_move_3] at hm
    refine lv_iload C.1 C.2.1 dX12_move_3 (lv_at hl 3 rfl) ?_
    refine lv_aload_n C.1 C.2.1 dX12_move_5 rfl (lv_at hl 0 rfl) ?_
    refine fg_84 C h dX12_move_6 ?_
    obtain ⟨g1, hm⟩ := grd_s hm
    obtain ⟨g2, hm⟩ := grd_s hm
    refine z_icmp_ge (tgt := 56) C dX12_move_9 (by decide) g1 g2 (fun c3 => ?_) (fun c3 => ?_)
    · have hm := ite_f c3 hm
      cases hm
      exact q_vret C h hr hlk dX12_move_56
    · have hm := ite_t c3 hm
      refine lv_aload_n C.1 C.2.1 dX12_move_12 rfl (lv_at hl 0 rfl) ?_
      refine fg_85 C h dX12_move_13 ?_
      refine lv_iload C.1 C.2.1 dX12_move_16 (lv_at hl 3 rfl) ?_
      refine lv_aload_n C.1 C.2.1 dX12_move_18 rfl (lv_at hl 0 rfl) ?_
      refine fg_85 C h dX12_move_19 ?_
      refine lv_iload C.1 C.2.1 dX12_move_22 (lv_at hl 3 rfl) ?_
      obtain ⟨g4, hm⟩ := grd_s hm
      refine al_52 C h dX12_move_24 g4 ?_
      refine lv_lload_n C.1 C.2.1 dX12_move_25 rfl (lv_at hl 1 rfl) ?_
      refine z_lmul C dX12_move_26 ?_
      refine lv_lload C.1 C.2.1 dX12_move_27 (lv_at hl 2 rfl) ?_
      refine z_ladd C dX12_move_29 ?_
      refine as_52 C h dX12_move_30 g4 (fun H locs h => ?_)
      refine lv_aload_n C.1 C.2.1 dX12_move_31 rfl (lv_at hl 0 rfl) ?_
      refine fg_86 C h dX12_move_32 ?_
      refine lv_iload C.1 C.2.1 dX12_move_35 (lv_at hl 3 rfl) ?_
      refine lv_aload_n C.1 C.2.1 dX12_move_37 rfl (lv_at hl 0 rfl) ?_
      refine fg_86 C h dX12_move_38 ?_
      refine lv_iload C.1 C.2.1 dX12_move_41 (lv_at hl 3 rfl) ?_
      refine al_51 C h dX12_move_43 g4 ?_
      refine x_topl (y := Int64.ofInt (el σ 51 x6)) rfl ?_
      refine lv_lload_n C.1 C.2.1 dX12_move_44 rfl (lv_at hl 1 rfl) ?_
      refine z_lmul C dX12_move_45 ?_
      refine lv_lload C.1 C.2.1 dX12_move_46 (lv_at hl 2 rfl) ?_
      refine z_ladd C dX12_move_48 ?_
      refine as_51 C h dX12_move_49 g4 (fun H locs h => ?_)
      refine lv_iinc (v := Int32.ofInt (x6 + 1)) (lv' := [(6, .int (Int32.ofInt (x6 + 1))), (0, .ref (g 0)), (2, .long (Int64.ofInt x2)), (4, .long (Int64.ofInt x4))]) C.1 C.2.1 dX12_move_50 hl (k := 3) rfl (c32_add _ _) (by decide) rfl (fun ls hl => ?_)
      refine lv_goto (tgt := 3) C.1 C.2.1 dX12_move_53 (by decide) ?_
      exact hrec3 (lv_sub hl [1, 2, 3, 0] rfl) h hm
set_option maxHeartbeats 4000000 in
set_option maxRecDepth 100000 in
theorem rc_move (l : Launch) (D : va_G) (k : Nat → ClassId) (g : Nat → Nat) (N : Nat) (σ : St) (x1 : Int) (x2 : Int) (x4 : Int) (r : St) (hm : r_move N σ x1 x2 x4 = some r) : Mv l yX12_move (.code yX12_move cX12_move 7 none :: rW) { frames := 0, cells := 0, slots := 0, locals := 0 } [.ref (g 0), .int (Int32.ofInt x1), .long (Int64.ofInt x2), .long (Int64.ofInt x4)] D (TYs k) (mW k g σ) (fun _ => True) Unit (fun _ => True) (fun _ => mW k g r) 0 0 := by
  intro sz
  refine x_met (cc := cX12_move) (maxL := 7) (ret := none) (by decide) rfl (Nat.le_of_ble_eq_true rfl) ?_
  intro p e s m below meth c ls C hX hsz hr hlk hmn hl h
  have hl : lv_has ls 7 [(0, .ref (g 0)), (1, .int (Int32.ofInt x1)), (2, .long (Int64.ofInt x2)), (4, .long (Int64.ofInt x4))] := hl
  rw [r_move] at hm
  refine lv_iload_n C.1 C.2.1 dX12_move_0 rfl (lv_at hl 1 rfl) ?_
  refine lv_istore (lv' := [(6, .int (Int32.ofInt x1)), (0, .ref (g 0)), (1, .int (Int32.ofInt x1)), (2, .long (Int64.ofInt x2)), (4, .long (Int64.ofInt x4))]) C.1 C.2.1 dX12_move_1 hl (by decide) rfl (fun ls hl => ?_)
  exact lm_move_3 (N := N) C hr hlk  N (lv_sub hl [1, 3, 4, 0] rfl) h hm
end L_move
section L_poly
variable {p : Program} {l : Launch} {e : Env} {s : State} {m : MethodId} {args : Array Value} {below : List Frame} {meth : Method} {c : Code} {D : va_G} {A : Nat → Prop} {k : Nat → ClassId} {g : Nat → Nat} {N : Nat} {cd : Cond}
set_option maxHeartbeats 4000000 in
set_option maxRecDepth 100000 in
theorem lm_poly_98 {r : St × Int} (C : Cx p s m args c cX12_poly RX12 (cd :: rW) D (TYs k) 10) (hr : meth.sig.returnType = (some .boolean)) (hlk : meth.locks = false)  {ls : Array Slot} {H : Heap} {locs : List Loc} {σ : St} {x1 : Int} {x2 : Int} {x3 : Int} {x5 : Int} (hl : lv_has ls 10 [(0, .ref (g 0)), (1, .int (Int32.ofInt x1)), (2, .int (Int32.ofInt x2)), (3, .long (Int64.ofInt x3)), (5, .int (Int32.ofInt x5))]) (h : Hp D A s.heap H locs (mW k g σ)) (hm : r_poly_98 N  σ x1 x2 x3 x5 = some r) : W p l e { frames := 2, cells := 0, slots := 0, locals := 48 } s m args below meth c H locs 0 0 (MQ below (va_Qi (fun v (_ : Unit) => v = Int32.ofInt r.2) (fun _ t => PostW D (TYs k) A (mW k g r.1) t) A) args s 0 0 A) (F0 m 98 ls []) := by
  rw [r_poly_98] at hm
  refine lv_aload_n C.1 C.2.1 dX12_poly_98 rfl (lv_at hl 0 rfl) ?_
  refine fg_103 C h dX12_poly_99 ?_
  refine lv_iload_n C.1 C.2.1 dX12_poly_102 rfl (lv_at hl 1 rfl) ?_
  obtain ⟨g26, hm⟩ := grd_s hm
  refine al_36 C h dX12_poly_103 g26 ?_
  refine lv_iload C.1 C.2.1 dX12_poly_104 (lv_at hl 4 rfl) ?_
  obtain ⟨g27, hm⟩ := grd_s hm
  obtain ⟨g28, hm⟩ := grd_s hm
  refine z_icmp_ne (tgt := 111) C dX12_poly_106 (by decide) g27 g28 (fun c29 => ?_) (fun c29 => ?_)
  · have hm := ite_f c29 hm
    refine lv_aload_n C.1 C.2.1 dX12_poly_111 rfl (lv_at hl 0 rfl) ?_
    refine lv_iload_n C.1 C.2.1 dX12_poly_112 rfl (lv_at hl 2 rfl) ?_
    obtain ⟨r30, e31, hm⟩ := obd_s hm
    refine q_callVl C h (rc_weights l D k g N σ x2 r30 e31) (cwV 1 C.2.2.1 (gR_weights _) rfl rfl rfl hd_weights ⟨Nat.le_of_ble_eq_true rfl, Nat.le_of_ble_eq_true rfl⟩) rfl hl.1 rfl (Nat.le_of_ble_eq_true rfl) dX12_poly_113 ⟨Nat.le_of_ble_eq_true rfl, Nat.le_of_ble_eq_true rfl⟩ (fun H locs h => ?_)
    refine lv_lstore (lv' := [(6, .long (Int64.ofInt r30.2)), (0, .ref (g 0)), (1, .int (Int32.ofInt x1)), (2, .int (Int32.ofInt x2)), (3, .long (Int64.ofInt x3)), (5, .int (Int32.ofInt x5))]) C.1 C.2.1 dX12_poly_116 hl (by decide) rfl (fun ls hl => ?_)
    refine lv_lload_n C.1 C.2.1 dX12_poly_118 rfl (lv_at hl 4 rfl) ?_
    refine lv_iload C.1 C.2.1 dX12_poly_119 (lv_at hl 5 rfl) ?_
    refine z_i2l C dX12_poly_121 g28 ?_
    refine z_lmul C dX12_poly_122 ?_
    refine lv_aload_n C.1 C.2.1 dX12_poly_123 rfl (lv_at hl 1 rfl) ?_
    refine fg_103 C h dX12_poly_124 ?_
    refine lv_iload_n C.1 C.2.1 dX12_poly_127 rfl (lv_at hl 2 rfl) ?_
    refine al_36 C h dX12_poly_128 g26 ?_
    obtain ⟨g32, hm⟩ := grd_s hm
    refine z_i2l C dX12_poly_129 g32 ?_
    refine z_ladd C dX12_poly_130 ?_
    obtain ⟨v33, e34, hm⟩ := bnd_s hm
    rw [e34]
    refine lv_lstore (lv' := [(8, .long (Int64.ofInt v33)), (6, .long (Int64.ofInt r30.2)), (0, .ref (g 0)), (1, .int (Int32.ofInt x1)), (2, .int (Int32.ofInt x2)), (3, .long (Int64.ofInt x3)), (5, .int (Int32.ofInt x5))]) C.1 C.2.1 dX12_poly_131 hl (by decide) rfl (fun ls hl => ?_)
    refine lv_aload_n C.1 C.2.1 dX12_poly_133 rfl (lv_at hl 2 rfl) ?_
    refine fg_105 C h dX12_poly_134 ?_
    refine lv_iload_n C.1 C.2.1 dX12_poly_137 rfl (lv_at hl 3 rfl) ?_
    refine lv_lload C.1 C.2.1 dX12_poly_138 (lv_at hl 0 rfl) ?_
    refine lv_lload C.1 C.2.1 dX12_poly_140 (lv_at hl 1 rfl) ?_
    obtain ⟨r35, e36, hm⟩ := obd_s hm
    refine q_callSl C h (rc_div l D k N v33 r30.2 r35 e36) (cwS 2 C.2.2.1 (gR_div _) rfl rfl rfl hd_div ⟨Nat.le_of_ble_eq_true rfl, Nat.le_of_ble_eq_true rfl⟩) rfl hl.1 rfl (Nat.le_of_ble_eq_true rfl) dX12_poly_142 ⟨Nat.le_of_ble_eq_true rfl, Nat.le_of_ble_eq_true rfl⟩ (fun H locs h => ?_)
    refine as_34 C h dX12_poly_145 g26 (fun H locs h => ?_)
    refine lv_aload_n C.1 C.2.1 dX12_poly_146 rfl (lv_at hl 2 rfl) ?_
    refine lv_iload_n C.1 C.2.1 dX12_poly_147 rfl (lv_at hl 3 rfl) ?_
    refine lv_aload_n C.1 C.2.1 dX12_poly_148 rfl (lv_at hl 2 rfl) ?_
    refine lv_iload_n C.1 C.2.1 dX12_poly_149 rfl (lv_at hl 4 rfl) ?_
    refine lv_lload C.1 C.2.1 dX12_poly_150 (lv_at hl 0 rfl) ?_
    refine lv_lload C.1 C.2.1 dX12_poly_152 (lv_at hl 1 rfl) ?_
    obtain ⟨r37, e38, hm⟩ := obd_s hm
    refine q_callSl C h (rc_mod l D k N v33 r30.2 r37 e38) (cwS 2 C.2.2.1 (gR_mod _) rfl rfl rfl hd_mod ⟨Nat.le_of_ble_eq_true rfl, Nat.le_of_ble_eq_true rfl⟩) rfl hl.1 rfl (Nat.le_of_ble_eq_true rfl) dX12_poly_154 ⟨Nat.le_of_ble_eq_true rfl, Nat.le_of_ble_eq_true rfl⟩ (fun H locs h => ?_)
    obtain ⟨σ39, e40, hm⟩ := bnd_s hm
    rw [e40] at h
    obtain ⟨r41, e42, hm⟩ := obd_s hm
    refine q_callVi C h (rc_kidAt l D k g N σ39 x2 r37 r41 e42) (cwV 2 C.2.2.1 (gR_kidAt _) rfl rfl rfl hd_kidAt ⟨Nat.le_of_ble_eq_true rfl, Nat.le_of_ble_eq_true rfl⟩) rfl hl.1 rfl (Nat.le_of_ble_eq_true rfl) dX12_poly_157 ⟨Nat.le_of_ble_eq_true rfl, Nat.le_of_ble_eq_true rfl⟩ (fun H locs h => ?_)
    refine lv_aload_n C.1 C.2.1 dX12_poly_160 rfl (lv_at hl 2 rfl) ?_
    refine fg_105 C h dX12_poly_161 ?_
    refine lv_iload_n C.1 C.2.1 dX12_poly_164 rfl (lv_at hl 3 rfl) ?_
    refine al_34 C h dX12_poly_165 g26 ?_
    obtain ⟨r43, e44, hm⟩ := obd_s hm
    refine q_callVv C h (rc_callKid l D k g N r41.1 x1 r41.2 (el r41.1 34 x1) r43 e44) (cwV 3 C.2.2.1 (gR_callKid _) rfl rfl rfl hd_callKid ⟨Nat.le_of_ble_eq_true rfl, Nat.le_of_ble_eq_true rfl⟩) rfl hl.1 rfl (Nat.le_of_ble_eq_true rfl) dX12_poly_166 ⟨Nat.le_of_ble_eq_true rfl, Nat.le_of_ble_eq_true rfl⟩ (fun H locs h => ?_)
    refine lv_iconst (v := Int32.ofInt 1) C.1 C.2.1 dX12_poly_169 (by decide) ?_
    cases hm
    exact q_iret C h hr hlk dX12_poly_170 rfl
  · have hm := ite_t c29 hm
    refine lv_iconst (v := Int32.ofInt 0) C.1 C.2.1 dX12_poly_109 (by decide) ?_
    cases hm
    exact q_iret C h hr hlk dX12_poly_110 rfl
set_option maxHeartbeats 4000000 in
set_option maxRecDepth 100000 in
theorem rc_poly (l : Launch) (D : va_G) (k : Nat → ClassId) (g : Nat → Nat) (N : Nat) (σ : St) (x1 : Int) (x2 : Int) (x3 : Int) (r : St × Int) (hm : r_poly N σ x1 x2 x3 = some r) : Mi l yX12_poly (.code yX12_poly cX12_poly 10 (some .boolean) :: rW) { frames := 2, cells := 0, slots := 0, locals := 48 } [.ref (g 0), .int (Int32.ofInt x1), .int (Int32.ofInt x2), .long (Int64.ofInt x3)] D (TYs k) (mW k g σ) (fun _ => True) Unit (fun v _ => v = Int32.ofInt r.2) (fun _ => mW k g r.1) 0 0 := by
  intro sz
  refine x_met (cc := cX12_poly) (maxL := 10) (ret := (some .boolean)) (by decide) rfl (Nat.le_of_ble_eq_true rfl) ?_
  intro p e s m below meth c ls C hX hsz hr hlk hmn hl h
  have hl : lv_has ls 10 [(0, .ref (g 0)), (1, .int (Int32.ofInt x1)), (2, .int (Int32.ofInt x2)), (3, .long (Int64.ofInt x3))] := hl
  rw [r_poly] at hm
  refine lv_aload_n C.1 C.2.1 dX12_poly_0 rfl (lv_at hl 0 rfl) ?_
  refine fg_50 C h dX12_poly_1 ?_
  refine lv_iload_n C.1 C.2.1 dX12_poly_4 rfl (lv_at hl 2 rfl) ?_
  obtain ⟨g1, hm⟩ := grd_s hm
  refine al_69 C h dX12_poly_5 g1 ?_
  obtain ⟨v2, e3, hm⟩ := bnd_s hm
  rw [e3]
  refine lv_istore (lv' := [(5, .int (Int32.ofInt v2)), (0, .ref (g 0)), (1, .int (Int32.ofInt x1)), (2, .int (Int32.ofInt x2)), (3, .long (Int64.ofInt x3))]) C.1 C.2.1 dX12_poly_6 hl (by decide) rfl (fun ls hl => ?_)
  refine lv_aload_n C.1 C.2.1 dX12_poly_8 rfl (lv_at hl 1 rfl) ?_
  refine fg_99 C h dX12_poly_9 ?_
  refine lv_iload_n C.1 C.2.1 dX12_poly_12 rfl (lv_at hl 2 rfl) ?_
  obtain ⟨g4, hm⟩ := grd_s hm
  refine al_40 C h dX12_poly_13 g4 ?_
  refine lv_iconst (v := Int32.ofInt 1) C.1 C.2.1 dX12_poly_14 (by decide) ?_
  obtain ⟨g5, hm⟩ := grd_s hm
  refine z_icmp_ne (tgt := 98) C dX12_poly_15 (by decide) g5 (by decide) (fun c6 => ?_) (fun c6 => ?_)
  · have hm := ite_f c6 hm
    exact lm_poly_98 (N := N) C hr hlk  (lv_sub hl [1, 2, 3, 4, 0] rfl) h hm
  · have hm := ite_t c6 hm
    refine lv_aload_n C.1 C.2.1 dX12_poly_18 rfl (lv_at hl 1 rfl) ?_
    refine fg_56 C h dX12_poly_19 ?_
    refine lv_iload_n C.1 C.2.1 dX12_poly_22 rfl (lv_at hl 3 rfl) ?_
    refine al_63 C h dX12_poly_23 g1 ?_
    refine lv_iload C.1 C.2.1 dX12_poly_24 (lv_at hl 0 rfl) ?_
    obtain ⟨g7, hm⟩ := grd_s hm
    obtain ⟨g8, hm⟩ := grd_s hm
    obtain ⟨g9, hm⟩ := grd_s hm
    refine z_idiv C dX12_poly_26 g7 g8 g9 ?_
    obtain ⟨g10, hm⟩ := grd_s hm
    refine z_i2l C dX12_poly_27 g10 ?_
    obtain ⟨v11, e12, hm⟩ := bnd_s hm
    rw [e12]
    refine lv_lstore (lv' := [(6, .long (Int64.ofInt v11)), (5, .int (Int32.ofInt v2)), (0, .ref (g 0)), (1, .int (Int32.ofInt x1)), (2, .int (Int32.ofInt x2)), (3, .long (Int64.ofInt x3))]) C.1 C.2.1 dX12_poly_28 hl (by decide) rfl (fun ls hl => ?_)
    refine lv_lload C.1 C.2.1 dX12_poly_30 (lv_at hl 0 rfl) ?_
    refine lv_aload_n C.1 C.2.1 dX12_poly_32 rfl (lv_at hl 2 rfl) ?_
    refine lv_iload_n C.1 C.2.1 dX12_poly_33 rfl (lv_at hl 3 rfl) ?_
    obtain ⟨r13, e14, hm⟩ := obd_s hm
    refine q_callVl C h (rc_grainOf l D k g N σ x1 r13 e14) (cwV 1 C.2.2.1 (gR_grainOf _) rfl rfl rfl hd_grainOf ⟨Nat.le_of_ble_eq_true rfl, Nat.le_of_ble_eq_true rfl⟩) rfl hl.1 rfl (Nat.le_of_ble_eq_true rfl) dX12_poly_34 ⟨Nat.le_of_ble_eq_true rfl, Nat.le_of_ble_eq_true rfl⟩ (fun H locs h => ?_)
    obtain ⟨g15, hm⟩ := grd_s hm
    obtain ⟨g16, hm⟩ := grd_s hm
    obtain ⟨g17, hm⟩ := grd_s hm
    refine z_ldiv C dX12_poly_37 g15 g16 g17 ?_
    obtain ⟨v18, e19, hm⟩ := bnd_s hm
    rw [e19]
    refine lv_lstore (lv' := [(8, .long (Int64.ofInt v18)), (6, .long (Int64.ofInt v11)), (5, .int (Int32.ofInt v2)), (0, .ref (g 0)), (1, .int (Int32.ofInt x1)), (2, .int (Int32.ofInt x2)), (3, .long (Int64.ofInt x3))]) C.1 C.2.1 dX12_poly_38 hl (by decide) rfl (fun ls hl => ?_)
    refine lv_aload_n C.1 C.2.1 dX12_poly_40 rfl (lv_at hl 3 rfl) ?_
    refine lv_aload_n C.1 C.2.1 dX12_poly_41 rfl (lv_at hl 3 rfl) ?_
    refine fg_101 C h dX12_poly_42 ?_
    refine lv_iload_n C.1 C.2.1 dX12_poly_45 rfl (lv_at hl 4 rfl) ?_
    refine al_38 C h dX12_poly_46 g4 ?_
    refine lv_lload C.1 C.2.1 dX12_poly_47 (lv_at hl 0 rfl) ?_
    refine lv_lload_n C.1 C.2.1 dX12_poly_49 rfl (lv_at hl 6 rfl) ?_
    refine lv_aload_n C.1 C.2.1 dX12_poly_50 rfl (lv_at hl 3 rfl) ?_
    refine fg_56 C h dX12_poly_51 ?_
    refine lv_iload_n C.1 C.2.1 dX12_poly_54 rfl (lv_at hl 5 rfl) ?_
    refine al_63 C h dX12_poly_55 g1 ?_
    obtain ⟨g20, hm⟩ := grd_s hm
    refine z_i2l C dX12_poly_56 g20 ?_
    refine z_lmul C dX12_poly_57 ?_
    refine lv_aload_n C.1 C.2.1 dX12_poly_58 rfl (lv_at hl 3 rfl) ?_
    refine fg_103 C h dX12_poly_59 ?_
    refine lv_iload_n C.1 C.2.1 dX12_poly_62 rfl (lv_at hl 4 rfl) ?_
    refine al_36 C h dX12_poly_63 g4 ?_
    obtain ⟨g21, hm⟩ := grd_s hm
    refine z_i2l C dX12_poly_64 g21 ?_
    refine lv_lload C.1 C.2.1 dX12_poly_65 (lv_at hl 1 rfl) ?_
    refine z_lmul C dX12_poly_67 ?_
    refine z_ladd C dX12_poly_68 ?_
    refine lv_aload_n C.1 C.2.1 dX12_poly_69 rfl (lv_at hl 3 rfl) ?_
    refine fg_105 C h dX12_poly_70 ?_
    refine lv_iload_n C.1 C.2.1 dX12_poly_73 rfl (lv_at hl 4 rfl) ?_
    refine al_34 C h dX12_poly_74 g4 ?_
    refine lv_aload_n C.1 C.2.1 dX12_poly_75 rfl (lv_at hl 3 rfl) ?_
    refine lv_iload_n C.1 C.2.1 dX12_poly_76 rfl (lv_at hl 4 rfl) ?_
    obtain ⟨r22, e23, hm⟩ := obd_s hm
    refine q_callVl C h (rc_grainOf l D k g N r13.1 x1 r22 e23) (cwV 1 C.2.2.1 (gR_grainOf _) rfl rfl rfl hd_grainOf ⟨Nat.le_of_ble_eq_true rfl, Nat.le_of_ble_eq_true rfl⟩) rfl hl.1 rfl (Nat.le_of_ble_eq_true rfl) dX12_poly_77 ⟨Nat.le_of_ble_eq_true rfl, Nat.le_of_ble_eq_true rfl⟩ (fun H locs h => ?_)
    refine z_lmul C dX12_poly_80 ?_
    refine lv_lload C.1 C.2.1 dX12_poly_81 (lv_at hl 0 rfl) ?_
    refine z_lmul C dX12_poly_83 ?_
    refine z_lsub C dX12_poly_84 ?_
    obtain ⟨r24, e25, hm⟩ := obd_s hm
    refine q_callVv C h (rc_move l D k g N r22.1 (el r13.1 38 x1) v18 (((x3 * (el r13.1 63 x2)) + ((el r13.1 36 x1) * v11)) - (((el r13.1 34 x1) * r22.2) * v18)) r24 e25) (cwV 3 C.2.2.1 (gR_move _) rfl rfl rfl hd_move ⟨Nat.le_of_ble_eq_true rfl, Nat.le_of_ble_eq_true rfl⟩) rfl hl.1 rfl (Nat.le_of_ble_eq_true rfl) dX12_poly_85 ⟨Nat.le_of_ble_eq_true rfl, Nat.le_of_ble_eq_true rfl⟩ (fun H locs h => ?_)
    refine lv_aload_n C.1 C.2.1 dX12_poly_88 rfl (lv_at hl 3 rfl) ?_
    refine fg_103 C h dX12_poly_89 ?_
    refine lv_iload_n C.1 C.2.1 dX12_poly_92 rfl (lv_at hl 4 rfl) ?_
    refine lv_dup2_11 C.1 C.2.1 dX12_poly_93 rfl rfl ?_
    refine al_36 C h dX12_poly_94 g4 ?_
    refine lv_iconst (v := Int32.ofInt 1) C.1 C.2.1 dX12_poly_95 (by decide) ?_
    refine z_iadd C dX12_poly_96 ?_
    refine as_36 C h dX12_poly_97 g4 (fun H locs h => ?_)
    exact lm_poly_98 (N := N) C hr hlk  (lv_sub hl [3, 4, 5, 6, 2] rfl) h hm
end L_poly
section L_copy
variable {p : Program} {l : Launch} {e : Env} {s : State} {m : MethodId} {args : Array Value} {below : List Frame} {meth : Method} {c : Code} {D : va_G} {A : Nat → Prop} {k : Nat → ClassId} {g : Nat → Nat} {N : Nat} {cd : Cond}
set_option maxHeartbeats 4000000 in
set_option maxRecDepth 100000 in
theorem rc_copy (l : Launch) (D : va_G) (k : Nat → ClassId) (g : Nat → Nat) (N : Nat) (σ : St) (x1 : Int) (x2 : Int) (r : St) (hm : r_copy N σ x1 x2 = some r) : Mv l yX12_copy (.code yX12_copy cX12_copy 3 none :: rW) { frames := 0, cells := 0, slots := 0, locals := 0 } [.ref (g 0), .int (Int32.ofInt x1), .int (Int32.ofInt x2)] D (TYs k) (mW k g σ) (fun _ => True) Unit (fun _ => True) (fun _ => mW k g r) 0 0 := by
  intro sz
  refine x_met (cc := cX12_copy) (maxL := 3) (ret := none) (by decide) rfl (Nat.le_of_ble_eq_true rfl) ?_
  intro p e s m below meth c ls C hX hsz hr hlk hmn hl h
  have hl : lv_has ls 3 [(0, .ref (g 0)), (1, .int (Int32.ofInt x1)), (2, .int (Int32.ofInt x2))] := hl
  rw [r_copy] at hm
  refine lv_aload_n C.1 C.2.1 dX12_copy_0 rfl (lv_at hl 0 rfl) ?_
  refine fg_85 C h dX12_copy_1 ?_
  refine lv_iload_n C.1 C.2.1 dX12_copy_4 rfl (lv_at hl 2 rfl) ?_
  refine lv_aload_n C.1 C.2.1 dX12_copy_5 rfl (lv_at hl 0 rfl) ?_
  refine fg_85 C h dX12_copy_6 ?_
  refine lv_iload_n C.1 C.2.1 dX12_copy_9 rfl (lv_at hl 1 rfl) ?_
  obtain ⟨g1, hm⟩ := grd_s hm
  refine al_52 C h dX12_copy_10 g1 ?_
  obtain ⟨g2, hm⟩ := grd_s hm
  refine as_52 C h dX12_copy_11 g2 (fun H locs h => ?_)
  refine lv_aload_n C.1 C.2.1 dX12_copy_12 rfl (lv_at hl 0 rfl) ?_
  refine fg_86 C h dX12_copy_13 ?_
  refine lv_iload_n C.1 C.2.1 dX12_copy_16 rfl (lv_at hl 2 rfl) ?_
  refine lv_aload_n C.1 C.2.1 dX12_copy_17 rfl (lv_at hl 0 rfl) ?_
  refine fg_86 C h dX12_copy_18 ?_
  refine lv_iload_n C.1 C.2.1 dX12_copy_21 rfl (lv_at hl 1 rfl) ?_
  refine al_51 C h dX12_copy_22 g1 ?_
  refine x_topl (y := Int64.ofInt (el σ 51 x1)) rfl ?_
  refine as_51 C h dX12_copy_23 g2 (fun H locs h => ?_)
  refine lv_aload_n C.1 C.2.1 dX12_copy_24 rfl (lv_at hl 0 rfl) ?_
  refine fg_87 C h dX12_copy_25 ?_
  refine lv_iload_n C.1 C.2.1 dX12_copy_28 rfl (lv_at hl 2 rfl) ?_
  refine lv_aload_n C.1 C.2.1 dX12_copy_29 rfl (lv_at hl 0 rfl) ?_
  refine fg_87 C h dX12_copy_30 ?_
  refine lv_iload_n C.1 C.2.1 dX12_copy_33 rfl (lv_at hl 1 rfl) ?_
  refine al_50 C h dX12_copy_34 g1 ?_
  refine x_topi (y := Int32.ofInt (el σ 50 x1)) rfl ?_
  refine as_50 C h dX12_copy_35 g2 (fun H locs h => ?_)
  refine lv_aload_n C.1 C.2.1 dX12_copy_36 rfl (lv_at hl 0 rfl) ?_
  refine fg_88 C h dX12_copy_37 ?_
  refine lv_iload_n C.1 C.2.1 dX12_copy_40 rfl (lv_at hl 2 rfl) ?_
  refine lv_aload_n C.1 C.2.1 dX12_copy_41 rfl (lv_at hl 0 rfl) ?_
  refine fg_88 C h dX12_copy_42 ?_
  refine lv_iload_n C.1 C.2.1 dX12_copy_45 rfl (lv_at hl 1 rfl) ?_
  refine al_49 C h dX12_copy_46 g1 ?_
  refine x_topi (y := Int32.ofInt (el σ 49 x1)) rfl ?_
  refine as_49 C h dX12_copy_47 g2 (fun H locs h => ?_)
  refine lv_aload_n C.1 C.2.1 dX12_copy_48 rfl (lv_at hl 0 rfl) ?_
  refine fg_89 C h dX12_copy_49 ?_
  refine lv_iload_n C.1 C.2.1 dX12_copy_52 rfl (lv_at hl 2 rfl) ?_
  refine lv_aload_n C.1 C.2.1 dX12_copy_53 rfl (lv_at hl 0 rfl) ?_
  refine fg_89 C h dX12_copy_54 ?_
  refine lv_iload_n C.1 C.2.1 dX12_copy_57 rfl (lv_at hl 1 rfl) ?_
  refine al_48 C h dX12_copy_58 g1 ?_
  refine x_topi (y := Int32.ofInt (el σ 48 x1)) rfl ?_
  refine as_48 C h dX12_copy_59 g2 (fun H locs h => ?_)
  refine lv_aload_n C.1 C.2.1 dX12_copy_60 rfl (lv_at hl 0 rfl) ?_
  refine fg_90 C h dX12_copy_61 ?_
  refine lv_iload_n C.1 C.2.1 dX12_copy_64 rfl (lv_at hl 2 rfl) ?_
  refine lv_aload_n C.1 C.2.1 dX12_copy_65 rfl (lv_at hl 0 rfl) ?_
  refine fg_90 C h dX12_copy_66 ?_
  refine lv_iload_n C.1 C.2.1 dX12_copy_69 rfl (lv_at hl 1 rfl) ?_
  refine al_47 C h dX12_copy_70 g1 ?_
  refine x_topi (y := Int32.ofInt (el σ 47 x1)) rfl ?_
  refine as_47 C h dX12_copy_71 g2 (fun H locs h => ?_)
  refine lv_aload_n C.1 C.2.1 dX12_copy_72 rfl (lv_at hl 0 rfl) ?_
  refine fg_91 C h dX12_copy_73 ?_
  refine lv_iload_n C.1 C.2.1 dX12_copy_76 rfl (lv_at hl 2 rfl) ?_
  refine lv_aload_n C.1 C.2.1 dX12_copy_77 rfl (lv_at hl 0 rfl) ?_
  refine fg_91 C h dX12_copy_78 ?_
  refine lv_iload_n C.1 C.2.1 dX12_copy_81 rfl (lv_at hl 1 rfl) ?_
  refine al_46 C h dX12_copy_82 g1 ?_
  refine x_topi (y := Int32.ofInt (el σ 46 x1)) rfl ?_
  refine as_46 C h dX12_copy_83 g2 (fun H locs h => ?_)
  refine lv_aload_n C.1 C.2.1 dX12_copy_84 rfl (lv_at hl 0 rfl) ?_
  refine fg_92 C h dX12_copy_85 ?_
  refine lv_iload_n C.1 C.2.1 dX12_copy_88 rfl (lv_at hl 2 rfl) ?_
  refine lv_aload_n C.1 C.2.1 dX12_copy_89 rfl (lv_at hl 0 rfl) ?_
  refine fg_92 C h dX12_copy_90 ?_
  refine lv_iload_n C.1 C.2.1 dX12_copy_93 rfl (lv_at hl 1 rfl) ?_
  refine al_45 C h dX12_copy_94 g1 ?_
  refine x_topi (y := Int32.ofInt (el σ 45 x1)) rfl ?_
  refine as_45 C h dX12_copy_95 g2 (fun H locs h => ?_)
  refine lv_aload_n C.1 C.2.1 dX12_copy_96 rfl (lv_at hl 0 rfl) ?_
  refine fg_93 C h dX12_copy_97 ?_
  refine lv_iload_n C.1 C.2.1 dX12_copy_100 rfl (lv_at hl 2 rfl) ?_
  refine lv_aload_n C.1 C.2.1 dX12_copy_101 rfl (lv_at hl 0 rfl) ?_
  refine fg_93 C h dX12_copy_102 ?_
  refine lv_iload_n C.1 C.2.1 dX12_copy_105 rfl (lv_at hl 1 rfl) ?_
  refine al_44 C h dX12_copy_106 g1 ?_
  refine x_topi (y := Int32.ofInt (el σ 44 x1)) rfl ?_
  refine as_44 C h dX12_copy_107 g2 (fun H locs h => ?_)
  refine lv_aload_n C.1 C.2.1 dX12_copy_108 rfl (lv_at hl 0 rfl) ?_
  refine fg_94 C h dX12_copy_109 ?_
  refine lv_iload_n C.1 C.2.1 dX12_copy_112 rfl (lv_at hl 2 rfl) ?_
  refine lv_aload_n C.1 C.2.1 dX12_copy_113 rfl (lv_at hl 0 rfl) ?_
  refine fg_94 C h dX12_copy_114 ?_
  refine lv_iload_n C.1 C.2.1 dX12_copy_117 rfl (lv_at hl 1 rfl) ?_
  refine al_43 C h dX12_copy_118 g1 ?_
  refine x_topi (y := Int32.ofInt (el σ 43 x1)) rfl ?_
  refine as_43 C h dX12_copy_119 g2 (fun H locs h => ?_)
  cases hm
  exact q_vret C h hr hlk dX12_copy_120
end L_copy
section L_clip
variable {p : Program} {l : Launch} {e : Env} {s : State} {m : MethodId} {args : Array Value} {below : List Frame} {meth : Method} {c : Code} {D : va_G} {A : Nat → Prop} {k : Nat → ClassId} {g : Nat → Nat} {N : Nat} {cd : Cond}
set_option maxHeartbeats 4000000 in
set_option maxRecDepth 100000 in
theorem lm_clip_54 {r : St} (C : Cx p s m args c cX12_clip RX12 (cd :: rW) D (TYs k) 8) (hr : meth.sig.returnType = none) (hlk : meth.locks = false) {rec6 : St → Int → Int → Int → Int → Option St} (hrec6 : ∀ {ls : Array Slot} {H : Heap} {locs : List Loc} {σ : St} {x2 : Int} {x4 : Int} {x6 : Int} {x7 : Int}, lv_has ls 8 [(0, .ref (g 0)), (2, .long (Int64.ofInt x2)), (4, .long (Int64.ofInt x4)), (6, .int (Int32.ofInt x6)), (7, .int (Int32.ofInt x7))] → Hp D A s.heap H locs (mW k g σ) → rec6 σ x2 x4 x6 x7 = some r → W p l e { frames := 1, cells := 0, slots := 0, locals := 22 } s m args below meth c H locs 0 0 (MQ below (va_Qv (fun (_ : Unit) => True) (fun _ t => PostW D (TYs k) A (mW k g r) t) A) args s 0 0 A) (F0 m 6 ls [])) {ls : Array Slot} {H : Heap} {locs : List Loc} {σ : St} {x2 : Int} {x4 : Int} {x6 : Int} {x7 : Int} (hl : lv_has ls 8 [(0, .ref (g 0)), (2, .long (Int64.ofInt x2)), (4, .long (Int64.ofInt x4)), (6, .int (Int32.ofInt x6)), (7, .int (Int32.ofInt x7))]) (h : Hp D A s.heap H locs (mW k g σ)) (hm : r_clip_54 N rec6 σ x2 x4 x6 x7 = some r) : W p l e { frames := 1, cells := 0, slots := 0, locals := 22 } s m args below meth c H locs 0 0 (MQ below (va_Qv (fun (_ : Unit) => True) (fun _ t => PostW D (TYs k) A (mW k g r) t) A) args s 0 0 A) (F0 m 54 ls []) := by
  rw [r_clip_54] at hm
  refine lv_iinc (v := Int32.ofInt (x7 + 1)) (lv' := [(7, .int (Int32.ofInt (x7 + 1))), (0, .ref (g 0)), (2, .long (Int64.ofInt x2)), (4, .long (Int64.ofInt x4)), (6, .int (Int32.ofInt x6))]) C.1 C.2.1 dX12_clip_54 hl (k := 4) rfl (c32_add _ _) (by decide) rfl (fun ls hl => ?_)
  refine lv_goto (tgt := 6) C.1 C.2.1 dX12_clip_57 (by decide) ?_
  exact hrec6 (lv_sub hl [1, 2, 3, 4, 0] rfl) h hm
set_option maxHeartbeats 4000000 in
set_option maxRecDepth 100000 in
theorem lm_clip_6 {r : St} (C : Cx p s m args c cX12_clip RX12 (cd :: rW) D (TYs k) 8) (hr : meth.sig.returnType = none) (hlk : meth.locks = false)  (n : Nat) : ∀ {ls : Array Slot} {H : Heap} {locs : List Loc} {σ : St} {x2 : Int} {x4 : Int} {x6 : Int} {x7 : Int}, lv_has ls 8 [(0, .ref (g 0)), (2, .long (Int64.ofInt x2)), (4, .long (Int64.ofInt x4)), (6, .int (Int32.ofInt x6)), (7, .int (Int32.ofInt x7))] → Hp D A s.heap H locs (mW k g σ) → r_clip_6 N  n σ x2 x4 x6 x7 = some r → W p l e { frames := 1, cells := 0, slots := 0, locals := 22 } s m args below meth c H locs 0 0 (MQ below (va_Qv (fun (_ : Unit) => True) (fun _ t => PostW D (TYs k) A (mW k g r) t) A) args s 0 0 A) (F0 m 6 ls []) := by
  induction n with
  | zero => intro ls H locs σ x2 x4 x6 x7 hl h hm; cases (show none = some r from hm)
  | succ n hrec6 =>
    intro ls H locs σ x2 x4 x6 x7 hl h hm
    rw [r_clip_6] at hm
    refine lv_iload C.1 C.2.1 dX12_clip_6 (lv_at hl 4 rfl) ?_
    refine lv_aload_n C.1 C.2.1 dX12_clip_8 rfl (lv_at hl 0 rfl) ?_
    refine fg_84 C h dX12_clip_9 ?_
    obtain ⟨g1, hm⟩ := grd_s hm
    obtain ⟨g2, hm⟩ := grd_s hm
    refine z_icmp_ge (tgt := 60) C dX12_clip_12 (by decide) g1 g2 (fun c3 => ?_) (fun c3 => ?_)
    · have hm := ite_f c3 hm
      refine lv_aload_n C.1 C.2.1 dX12_clip_60 rfl (lv_at hl 0 rfl) ?_
      refine lv_iload C.1 C.2.1 dX12_clip_61 (lv_at hl 3 rfl) ?_
      refine fp_84 C h dX12_clip_63 (fun H locs h => ?_)
      cases hm
      exact q_vret C h hr hlk dX12_clip_66
    · have hm := ite_t c3 hm
      refine lv_aload_n C.1 C.2.1 dX12_clip_15 rfl (lv_at hl 0 rfl) ?_
      refine fg_85 C h dX12_clip_16 ?_
      refine lv_iload C.1 C.2.1 dX12_clip_19 (lv_at hl 4 rfl) ?_
      obtain ⟨g4, hm⟩ := grd_s hm
      refine al_52 C h dX12_clip_21 g4 ?_
      refine lv_lload_n C.1 C.2.1 dX12_clip_22 rfl (lv_at hl 1 rfl) ?_
      obtain ⟨g5, hm⟩ := grd_s hm
      obtain ⟨g6, hm⟩ := grd_s hm
      refine W.lcmp C.1 C.2.1 dX12_clip_23 ?_
      refine z_lcmp_lt (tgt := 54) C dX12_clip_24 (by decide) g5 g6 (fun c7 => ?_) (fun c7 => ?_)
      · have hm := ite_t c7 hm
        exact lm_clip_54 (N := N) C hr hlk hrec6 (lv_sub hl [0, 1, 2, 3, 4] rfl) h hm
      · have hm := ite_f c7 hm
        refine lv_aload_n C.1 C.2.1 dX12_clip_27 rfl (lv_at hl 0 rfl) ?_
        refine fg_85 C h dX12_clip_28 ?_
        refine lv_iload C.1 C.2.1 dX12_clip_31 (lv_at hl 4 rfl) ?_
        refine al_52 C h dX12_clip_33 g4 ?_
        refine lv_lload C.1 C.2.1 dX12_clip_34 (lv_at hl 2 rfl) ?_
        obtain ⟨g8, hm⟩ := grd_s hm
        refine W.lcmp C.1 C.2.1 dX12_clip_36 ?_
        refine z_lcmp_lt (tgt := 43) C dX12_clip_37 (by decide) g5 g8 (fun c9 => ?_) (fun c9 => ?_)
        · have hm := ite_t c9 hm
          refine lv_aload_n C.1 C.2.1 dX12_clip_43 rfl (lv_at hl 0 rfl) ?_
          refine lv_iload C.1 C.2.1 dX12_clip_44 (lv_at hl 4 rfl) ?_
          refine lv_iload C.1 C.2.1 dX12_clip_46 (lv_at hl 3 rfl) ?_
          obtain ⟨r10, e11, hm⟩ := obd_s hm
          refine q_callVv C h (rc_copy l D k g N σ x7 x6 r10 e11) (cwV 2 C.2.2.1 (gR_copy _) rfl rfl rfl hd_copy ⟨Nat.le_of_ble_eq_true rfl, Nat.le_of_ble_eq_true rfl⟩) rfl hl.1 rfl (Nat.le_of_ble_eq_true rfl) dX12_clip_48 ⟨Nat.le_of_ble_eq_true rfl, Nat.le_of_ble_eq_true rfl⟩ (fun H locs h => ?_)
          refine lv_iinc (v := Int32.ofInt (x6 + 1)) (lv' := [(6, .int (Int32.ofInt (x6 + 1))), (0, .ref (g 0)), (2, .long (Int64.ofInt x2)), (4, .long (Int64.ofInt x4)), (7, .int (Int32.ofInt x7))]) C.1 C.2.1 dX12_clip_51 hl (k := 3) rfl (c32_add _ _) (by decide) rfl (fun ls hl => ?_)
          exact lm_clip_54 (N := N) C hr hlk hrec6 (lv_sub hl [1, 2, 3, 0, 4] rfl) h hm
        · have hm := ite_f c9 hm
          refine lv_goto (tgt := 54) C.1 C.2.1 dX12_clip_40 (by decide) ?_
          exact lm_clip_54 (N := N) C hr hlk hrec6 (lv_sub hl [0, 1, 2, 3, 4] rfl) h hm
set_option maxHeartbeats 4000000 in
set_option maxRecDepth 100000 in
theorem rc_clip (l : Launch) (D : va_G) (k : Nat → ClassId) (g : Nat → Nat) (N : Nat) (σ : St) (x1 : Int) (x2 : Int) (x4 : Int) (r : St) (hm : r_clip N σ x1 x2 x4 = some r) : Mv l yX12_clip (.code yX12_clip cX12_clip 8 none :: rW) { frames := 1, cells := 0, slots := 0, locals := 22 } [.ref (g 0), .int (Int32.ofInt x1), .long (Int64.ofInt x2), .long (Int64.ofInt x4)] D (TYs k) (mW k g σ) (fun _ => True) Unit (fun _ => True) (fun _ => mW k g r) 0 0 := by
  intro sz
  refine x_met (cc := cX12_clip) (maxL := 8) (ret := none) (by decide) rfl (Nat.le_of_ble_eq_true rfl) ?_
  intro p e s m below meth c ls C hX hsz hr hlk hmn hl h
  have hl : lv_has ls 8 [(0, .ref (g 0)), (1, .int (Int32.ofInt x1)), (2, .long (Int64.ofInt x2)), (4, .long (Int64.ofInt x4))] := hl
  rw [r_clip] at hm
  refine lv_iload_n C.1 C.2.1 dX12_clip_0 rfl (lv_at hl 1 rfl) ?_
  refine lv_istore (lv' := [(6, .int (Int32.ofInt x1)), (0, .ref (g 0)), (1, .int (Int32.ofInt x1)), (2, .long (Int64.ofInt x2)), (4, .long (Int64.ofInt x4))]) C.1 C.2.1 dX12_clip_1 hl (by decide) rfl (fun ls hl => ?_)
  refine lv_iload_n C.1 C.2.1 dX12_clip_3 rfl (lv_at hl 2 rfl) ?_
  refine lv_istore (lv' := [(7, .int (Int32.ofInt x1)), (6, .int (Int32.ofInt x1)), (0, .ref (g 0)), (1, .int (Int32.ofInt x1)), (2, .long (Int64.ofInt x2)), (4, .long (Int64.ofInt x4))]) C.1 C.2.1 dX12_clip_4 hl (by decide) rfl (fun ls hl => ?_)
  exact lm_clip_6 (N := N) C hr hlk  N (lv_sub hl [2, 4, 5, 1, 0] rfl) h hm
end L_clip
section L_ply
variable {p : Program} {l : Launch} {e : Env} {s : State} {m : MethodId} {args : Array Value} {below : List Frame} {meth : Method} {c : Code} {D : va_G} {A : Nat → Prop} {k : Nat → ClassId} {g : Nat → Nat} {N : Nat} {cd : Cond}
set_option maxHeartbeats 4000000 in
set_option maxRecDepth 100000 in
theorem lm_ply_43 {r : St} (C : Cx p s m args c cX12_ply RX12 (cd :: rW) D (TYs k) 9) (hr : meth.sig.returnType = none) (hlk : meth.locks = false) {rec16 : St → Int → Int → Int → Int → Option St} (hrec16 : ∀ {ls : Array Slot} {H : Heap} {locs : List Loc} {σ : St} {x2 : Int} {x3 : Int} {x4 : Int} {x5 : Int}, lv_has ls 9 [(0, .ref (g 0)), (2, .int (Int32.ofInt x2)), (3, .int (Int32.ofInt x3)), (4, .int (Int32.ofInt x4)), (5, .int (Int32.ofInt x5))] → Hp D A s.heap H locs (mW k g σ) → rec16 σ x2 x3 x4 x5 = some r → W p l e { frames := 1, cells := 0, slots := 0, locals := 28 } s m args below meth c H locs 0 0 (MQ below (va_Qv (fun (_ : Unit) => True) (fun _ t => PostW D (TYs k) A (mW k g r) t) A) args s 0 0 A) (F0 m 16 ls [])) (n : Nat) : ∀ {ls : Array Slot} {H : Heap} {locs : List Loc} {σ : St} {x2 : Int} {x3 : Int} {x4 : Int} {x5 : Int} {x6 : Int} {x8 : Int}, lv_has ls 9 [(0, .ref (g 0)), (2, .int (Int32.ofInt x2)), (3, .int (Int32.ofInt x3)), (4, .int (Int32.ofInt x4)), (5, .int (Int32.ofInt x5)), (6, .long (Int64.ofInt x6)), (8, .int (Int32.ofInt x8))] → Hp D A s.heap H locs (mW k g σ) → r_ply_43 N rec16 n σ x2 x3 x4 x5 x6 x8 = some r → W p l e { frames := 1, cells := 0, slots := 0, locals := 28 } s m args below meth c H locs 0 0 (MQ below (va_Qv (fun (_ : Unit) => True) (fun _ t => PostW D (TYs k) A (mW k g r) t) A) args s 0 0 A) (F0 m 43 ls []) := by
  induction n with
  | zero => intro ls H locs σ x2 x3 x4 x5 x6 x8 hl h hm; cases (show none = some r from hm)
  | succ n hrec43 =>
    intro ls H locs σ x2 x3 x4 x5 x6 x8 hl h hm
    rw [r_ply_43] at hm
    refine lv_iload C.1 C.2.1 dX12_ply_43 (lv_at hl 6 rfl) ?_
    refine lv_iload_n C.1 C.2.1 dX12_ply_45 rfl (lv_at hl 1 rfl) ?_
    obtain ⟨g17, hm⟩ := grd_s hm
    obtain ⟨g18, hm⟩ := grd_s hm
    refine z_icmp_ge (tgt := 123) C dX12_ply_46 (by decide) g17 g18 (fun c19 => ?_) (fun c19 => ?_)
    · have hm := ite_f c19 hm
      refine lv_iinc (v := Int32.ofInt (x5 + 1)) (lv' := [(5, .int (Int32.ofInt (x5 + 1))), (0, .ref (g 0)), (2, .int (Int32.ofInt x2)), (3, .int (Int32.ofInt x3)), (4, .int (Int32.ofInt x4)), (6, .long (Int64.ofInt x6)), (8, .int (Int32.ofInt x8))]) C.1 C.2.1 dX12_ply_123 hl (k := 4) rfl (c32_add _ _) (by decide) rfl (fun ls hl => ?_)
      refine lv_goto (tgt := 16) C.1 C.2.1 dX12_ply_126 (by decide) ?_
      exact hrec16 (lv_sub hl [1, 2, 3, 4, 0] rfl) h hm
    · have hm := ite_t c19 hm
      refine lv_aload_n C.1 C.2.1 dX12_ply_49 rfl (lv_at hl 0 rfl) ?_
      refine lv_aload_n C.1 C.2.1 dX12_ply_50 rfl (lv_at hl 0 rfl) ?_
      refine fg_85 C h dX12_ply_51 ?_
      refine lv_iload C.1 C.2.1 dX12_ply_54 (lv_at hl 4 rfl) ?_
      obtain ⟨g20, hm⟩ := grd_s hm
      refine al_52 C h dX12_ply_56 g20 ?_
      refine lv_iload_n C.1 C.2.1 dX12_ply_57 rfl (lv_at hl 1 rfl) ?_
      refine z_i2l C dX12_ply_58 g18 ?_
      refine z_lmul C dX12_ply_59 ?_
      refine lv_iload C.1 C.2.1 dX12_ply_60 (lv_at hl 6 rfl) ?_
      refine z_i2l C dX12_ply_62 g17 ?_
      refine lv_lload C.1 C.2.1 dX12_ply_63 (lv_at hl 5 rfl) ?_
      refine z_lmul C dX12_ply_65 ?_
      refine z_ladd C dX12_ply_66 ?_
      refine lv_aload_n C.1 C.2.1 dX12_ply_67 rfl (lv_at hl 0 rfl) ?_
      refine fg_85 C h dX12_ply_68 ?_
      refine lv_iload C.1 C.2.1 dX12_ply_71 (lv_at hl 4 rfl) ?_
      refine al_52 C h dX12_ply_73 g20 ?_
      refine lv_iload_n C.1 C.2.1 dX12_ply_74 rfl (lv_at hl 1 rfl) ?_
      refine z_i2l C dX12_ply_75 g18 ?_
      refine z_lmul C dX12_ply_76 ?_
      refine lv_iload C.1 C.2.1 dX12_ply_77 (lv_at hl 6 rfl) ?_
      refine z_i2l C dX12_ply_79 g17 ?_
      refine lv_lconst (v := Int64.ofInt 1) C.1 C.2.1 dX12_ply_80 (by decide) ?_
      refine z_ladd C dX12_ply_81 ?_
      refine lv_lload C.1 C.2.1 dX12_ply_82 (lv_at hl 5 rfl) ?_
      refine z_lmul C dX12_ply_84 ?_
      refine z_ladd C dX12_ply_85 ?_
      refine lv_aload_n C.1 C.2.1 dX12_ply_86 rfl (lv_at hl 0 rfl) ?_
      refine fg_87 C h dX12_ply_87 ?_
      refine lv_iload C.1 C.2.1 dX12_ply_90 (lv_at hl 4 rfl) ?_
      refine al_50 C h dX12_ply_92 g20 ?_
      refine lv_aload_n C.1 C.2.1 dX12_ply_93 rfl (lv_at hl 0 rfl) ?_
      refine fg_88 C h dX12_ply_94 ?_
      refine lv_iload C.1 C.2.1 dX12_ply_97 (lv_at hl 4 rfl) ?_
      refine al_49 C h dX12_ply_99 g20 ?_
      refine lv_aload_n C.1 C.2.1 dX12_ply_100 rfl (lv_at hl 0 rfl) ?_
      refine fg_89 C h dX12_ply_101 ?_
      refine lv_iload C.1 C.2.1 dX12_ply_104 (lv_at hl 4 rfl) ?_
      refine al_48 C h dX12_ply_106 g20 ?_
      refine lv_aload_n C.1 C.2.1 dX12_ply_107 rfl (lv_at hl 0 rfl) ?_
      refine fg_90 C h dX12_ply_108 ?_
      refine lv_iload C.1 C.2.1 dX12_ply_111 (lv_at hl 4 rfl) ?_
      refine al_47 C h dX12_ply_113 g20 ?_
      obtain ⟨r21, e22, hm⟩ := obd_s hm
      refine q_callVv C h (rc_emit l D k g N σ (((el σ 52 x5) * x2) + (x8 * x6)) (((el σ 52 x5) * x2) + ((x8 + 1) * x6)) (el σ 50 x5) (el σ 49 x5) (el σ 48 x5) (el σ 47 x5) r21 e22) (cwV 6 C.2.2.1 (gR_emit _) rfl rfl rfl hd_emit ⟨Nat.le_of_ble_eq_true rfl, Nat.le_of_ble_eq_true rfl⟩) rfl hl.1 rfl (Nat.le_of_ble_eq_true rfl) dX12_ply_114 ⟨Nat.le_of_ble_eq_true rfl, Nat.le_of_ble_eq_true rfl⟩ (fun H locs h => ?_)
      refine lv_iinc (v := Int32.ofInt (x8 + 1)) (lv' := [(8, .int (Int32.ofInt (x8 + 1))), (0, .ref (g 0)), (2, .int (Int32.ofInt x2)), (3, .int (Int32.ofInt x3)), (4, .int (Int32.ofInt x4)), (5, .int (Int32.ofInt x5)), (6, .long (Int64.ofInt x6))]) C.1 C.2.1 dX12_ply_117 hl (k := 6) rfl (c32_add _ _) (by decide) rfl (fun ls hl => ?_)
      refine lv_goto (tgt := 43) C.1 C.2.1 dX12_ply_120 (by decide) ?_
      exact hrec43 (lv_sub hl [1, 2, 3, 4, 5, 6, 0] rfl) h hm
set_option maxHeartbeats 4000000 in
set_option maxRecDepth 100000 in
theorem lm_ply_141 {r : St} (C : Cx p s m args c cX12_ply RX12 (cd :: rW) D (TYs k) 9) (hr : meth.sig.returnType = none) (hlk : meth.locks = false)  (n : Nat) : ∀ {ls : Array Slot} {H : Heap} {locs : List Loc} {σ : St} {x3 : Int} {x4 : Int} {x5 : Int} {x6 : Int}, lv_has ls 9 [(0, .ref (g 0)), (3, .int (Int32.ofInt x3)), (4, .int (Int32.ofInt x4)), (5, .int (Int32.ofInt x5)), (6, .int (Int32.ofInt x6))] → Hp D A s.heap H locs (mW k g σ) → r_ply_141 N  n σ x3 x4 x5 x6 = some r → W p l e { frames := 1, cells := 0, slots := 0, locals := 28 } s m args below meth c H locs 0 0 (MQ below (va_Qv (fun (_ : Unit) => True) (fun _ t => PostW D (TYs k) A (mW k g r) t) A) args s 0 0 A) (F0 m 141 ls []) := by
  induction n with
  | zero => intro ls H locs σ x3 x4 x5 x6 hl h hm; cases (show none = some r from hm)
  | succ n hrec141 =>
    intro ls H locs σ x3 x4 x5 x6 hl h hm
    rw [r_ply_141] at hm
    refine lv_iload C.1 C.2.1 dX12_ply_141 (lv_at hl 4 rfl) ?_
    refine lv_iload C.1 C.2.1 dX12_ply_143 (lv_at hl 3 rfl) ?_
    obtain ⟨g12, hm⟩ := grd_s hm
    obtain ⟨g13, hm⟩ := grd_s hm
    refine z_icmp_ge (tgt := 167) C dX12_ply_145 (by decide) g12 g13 (fun c14 => ?_) (fun c14 => ?_)
    · have hm := ite_f c14 hm
      refine lv_aload_n C.1 C.2.1 dX12_ply_167 rfl (lv_at hl 0 rfl) ?_
      refine lv_iload_n C.1 C.2.1 dX12_ply_168 rfl (lv_at hl 1 rfl) ?_
      refine lv_iload C.1 C.2.1 dX12_ply_169 (lv_at hl 3 rfl) ?_
      refine z_iadd C dX12_ply_171 ?_
      refine fp_84 C h dX12_ply_172 (fun H locs h => ?_)
      cases hm
      exact q_vret C h hr hlk dX12_ply_175
    · have hm := ite_t c14 hm
      refine lv_aload_n C.1 C.2.1 dX12_ply_148 rfl (lv_at hl 0 rfl) ?_
      refine lv_iload C.1 C.2.1 dX12_ply_149 (lv_at hl 2 rfl) ?_
      refine lv_iload C.1 C.2.1 dX12_ply_151 (lv_at hl 4 rfl) ?_
      refine z_iadd C dX12_ply_153 ?_
      refine lv_iload_n C.1 C.2.1 dX12_ply_154 rfl (lv_at hl 1 rfl) ?_
      refine lv_iload C.1 C.2.1 dX12_ply_155 (lv_at hl 4 rfl) ?_
      refine z_iadd C dX12_ply_157 ?_
      obtain ⟨r15, e16, hm⟩ := obd_s hm
      refine q_callVv C h (rc_copy l D k g N σ (x4 + x6) (x3 + x6) r15 e16) (cwV 2 C.2.2.1 (gR_copy _) rfl rfl rfl hd_copy ⟨Nat.le_of_ble_eq_true rfl, Nat.le_of_ble_eq_true rfl⟩) rfl hl.1 rfl (Nat.le_of_ble_eq_true rfl) dX12_ply_158 ⟨Nat.le_of_ble_eq_true rfl, Nat.le_of_ble_eq_true rfl⟩ (fun H locs h => ?_)
      refine lv_iinc (v := Int32.ofInt (x6 + 1)) (lv' := [(6, .int (Int32.ofInt (x6 + 1))), (0, .ref (g 0)), (3, .int (Int32.ofInt x3)), (4, .int (Int32.ofInt x4)), (5, .int (Int32.ofInt x5))]) C.1 C.2.1 dX12_ply_161 hl (k := 4) rfl (c32_add _ _) (by decide) rfl (fun ls hl => ?_)
      refine lv_goto (tgt := 141) C.1 C.2.1 dX12_ply_164 (by decide) ?_
      exact hrec141 (lv_sub hl [1, 2, 3, 4, 0] rfl) h hm
set_option maxHeartbeats 4000000 in
set_option maxRecDepth 100000 in
theorem lm_ply_16 {r : St} (C : Cx p s m args c cX12_ply RX12 (cd :: rW) D (TYs k) 9) (hr : meth.sig.returnType = none) (hlk : meth.locks = false)  (n : Nat) : ∀ {ls : Array Slot} {H : Heap} {locs : List Loc} {σ : St} {x2 : Int} {x3 : Int} {x4 : Int} {x5 : Int}, lv_has ls 9 [(0, .ref (g 0)), (2, .int (Int32.ofInt x2)), (3, .int (Int32.ofInt x3)), (4, .int (Int32.ofInt x4)), (5, .int (Int32.ofInt x5))] → Hp D A s.heap H locs (mW k g σ) → r_ply_16 N  n σ x2 x3 x4 x5 = some r → W p l e { frames := 1, cells := 0, slots := 0, locals := 28 } s m args below meth c H locs 0 0 (MQ below (va_Qv (fun (_ : Unit) => True) (fun _ t => PostW D (TYs k) A (mW k g r) t) A) args s 0 0 A) (F0 m 16 ls []) := by
  induction n with
  | zero => intro ls H locs σ x2 x3 x4 x5 hl h hm; cases (show none = some r from hm)
  | succ n hrec16 =>
    intro ls H locs σ x2 x3 x4 x5 hl h hm
    rw [r_ply_16] at hm
    refine lv_iload C.1 C.2.1 dX12_ply_16 (lv_at hl 4 rfl) ?_
    refine lv_iload C.1 C.2.1 dX12_ply_18 (lv_at hl 3 rfl) ?_
    obtain ⟨g4, hm⟩ := grd_s hm
    obtain ⟨g5, hm⟩ := grd_s hm
    refine z_icmp_ge (tgt := 129) C dX12_ply_20 (by decide) g4 g5 (fun c6 => ?_) (fun c6 => ?_)
    · have hm := ite_f c6 hm
      refine lv_aload_n C.1 C.2.1 dX12_ply_129 rfl (lv_at hl 0 rfl) ?_
      refine fg_84 C h dX12_ply_130 ?_
      refine lv_iload C.1 C.2.1 dX12_ply_133 (lv_at hl 3 rfl) ?_
      refine z_isub C dX12_ply_135 ?_
      obtain ⟨v7, e8, hm⟩ := bnd_s hm
      rw [e8]
      refine lv_istore (lv' := [(5, .int (Int32.ofInt v7)), (0, .ref (g 0)), (2, .int (Int32.ofInt x2)), (3, .int (Int32.ofInt x3)), (4, .int (Int32.ofInt x4))]) C.1 C.2.1 dX12_ply_136 hl (by decide) rfl (fun ls hl => ?_)
      refine lv_iconst (v := Int32.ofInt 0) C.1 C.2.1 dX12_ply_138 (by decide) ?_
      refine lv_istore (lv' := [(6, .int (Int32.ofInt 0)), (5, .int (Int32.ofInt v7)), (0, .ref (g 0)), (2, .int (Int32.ofInt x2)), (3, .int (Int32.ofInt x3)), (4, .int (Int32.ofInt x4))]) C.1 C.2.1 dX12_ply_139 hl (by decide) rfl (fun ls hl => ?_)
      exact lm_ply_141 (N := N) C hr hlk  N (lv_sub hl [2, 4, 5, 1, 0] rfl) h hm
    · have hm := ite_t c6 hm
      refine lv_aload_n C.1 C.2.1 dX12_ply_23 rfl (lv_at hl 0 rfl) ?_
      refine fg_86 C h dX12_ply_24 ?_
      refine lv_iload C.1 C.2.1 dX12_ply_27 (lv_at hl 4 rfl) ?_
      obtain ⟨g9, hm⟩ := grd_s hm
      refine al_51 C h dX12_ply_29 g9 ?_
      refine lv_aload_n C.1 C.2.1 dX12_ply_30 rfl (lv_at hl 0 rfl) ?_
      refine fg_85 C h dX12_ply_31 ?_
      refine lv_iload C.1 C.2.1 dX12_ply_34 (lv_at hl 4 rfl) ?_
      refine al_52 C h dX12_ply_36 g9 ?_
      refine z_lsub C dX12_ply_37 ?_
      obtain ⟨v10, e11, hm⟩ := bnd_s hm
      rw [e11]
      refine lv_lstore (lv' := [(6, .long (Int64.ofInt v10)), (0, .ref (g 0)), (2, .int (Int32.ofInt x2)), (3, .int (Int32.ofInt x3)), (4, .int (Int32.ofInt x4)), (5, .int (Int32.ofInt x5))]) C.1 C.2.1 dX12_ply_38 hl (by decide) rfl (fun ls hl => ?_)
      refine lv_iconst (v := Int32.ofInt 0) C.1 C.2.1 dX12_ply_40 (by decide) ?_
      refine lv_istore (lv' := [(8, .int (Int32.ofInt 0)), (6, .long (Int64.ofInt v10)), (0, .ref (g 0)), (2, .int (Int32.ofInt x2)), (3, .int (Int32.ofInt x3)), (4, .int (Int32.ofInt x4)), (5, .int (Int32.ofInt x5))]) C.1 C.2.1 dX12_ply_41 hl (by decide) rfl (fun ls hl => ?_)
      exact lm_ply_43 (N := N) C hr hlk hrec16 N (lv_sub hl [2, 3, 4, 5, 6, 1, 0] rfl) h hm
set_option maxHeartbeats 4000000 in
set_option maxRecDepth 100000 in
theorem rc_ply (l : Launch) (D : va_G) (k : Nat → ClassId) (g : Nat → Nat) (N : Nat) (σ : St) (x1 : Int) (x2 : Int) (r : St) (hm : r_ply N σ x1 x2 = some r) : Mv l yX12_ply (.code yX12_ply cX12_ply 9 none :: rW) { frames := 1, cells := 0, slots := 0, locals := 28 } [.ref (g 0), .int (Int32.ofInt x1), .int (Int32.ofInt x2)] D (TYs k) (mW k g σ) (fun _ => True) Unit (fun _ => True) (fun _ => mW k g r) 0 0 := by
  intro sz
  refine x_met (cc := cX12_ply) (maxL := 9) (ret := none) (by decide) rfl (Nat.le_of_ble_eq_true rfl) ?_
  intro p e s m below meth c ls C hX hsz hr hlk hmn hl h
  have hl : lv_has ls 9 [(0, .ref (g 0)), (1, .int (Int32.ofInt x1)), (2, .int (Int32.ofInt x2))] := hl
  rw [r_ply] at hm
  refine lv_aload_n C.1 C.2.1 dX12_ply_0 rfl (lv_at hl 0 rfl) ?_
  refine fg_101 C h dX12_ply_1 ?_
  refine lv_iload_n C.1 C.2.1 dX12_ply_4 rfl (lv_at hl 1 rfl) ?_
  obtain ⟨g1, hm⟩ := grd_s hm
  refine al_38 C h dX12_ply_5 g1 ?_
  obtain ⟨v2, e3, hm⟩ := bnd_s hm
  rw [e3]
  refine lv_istore_n (lv' := [(3, .int (Int32.ofInt v2)), (0, .ref (g 0)), (1, .int (Int32.ofInt x1)), (2, .int (Int32.ofInt x2))]) C.1 C.2.1 dX12_ply_6 rfl hl (by decide) rfl (fun ls hl => ?_)
  refine lv_aload_n C.1 C.2.1 dX12_ply_7 rfl (lv_at hl 1 rfl) ?_
  refine fg_84 C h dX12_ply_8 ?_
  refine lv_istore (lv' := [(4, .int (Int32.ofInt (fl σ 84 0))), (3, .int (Int32.ofInt v2)), (0, .ref (g 0)), (1, .int (Int32.ofInt x1)), (2, .int (Int32.ofInt x2))]) C.1 C.2.1 dX12_ply_11 hl (by decide) rfl (fun ls hl => ?_)
  refine lv_iload_n C.1 C.2.1 dX12_ply_13 rfl (lv_at hl 1 rfl) ?_
  refine lv_istore (lv' := [(5, .int (Int32.ofInt v2)), (4, .int (Int32.ofInt (fl σ 84 0))), (3, .int (Int32.ofInt v2)), (0, .ref (g 0)), (1, .int (Int32.ofInt x1)), (2, .int (Int32.ofInt x2))]) C.1 C.2.1 dX12_ply_14 hl (by decide) rfl (fun ls hl => ?_)
  exact lm_ply_16 (N := N) C hr hlk  N (lv_sub hl [3, 5, 2, 1, 0] rfl) h hm
end L_ply
section L_shift
variable {p : Program} {l : Launch} {e : Env} {s : State} {m : MethodId} {args : Array Value} {below : List Frame} {meth : Method} {c : Code} {D : va_G} {A : Nat → Prop} {k : Nat → ClassId} {g : Nat → Nat} {N : Nat} {cd : Cond}
set_option maxHeartbeats 4000000 in
set_option maxRecDepth 100000 in
theorem rc_shift (l : Launch) (D : va_G) (k : Nat → ClassId) (g : Nat → Nat) (N : Nat) (σ : St) (x1 : Int) (x2 : Int) (r : St × Int) (hm : r_shift N σ x1 x2 = some r) : Ml l yX12_shift (.code yX12_shift cX12_shift 6 (some .long) :: rW) { frames := 2, cells := 0, slots := 0, locals := 48 } [.ref (g 0), .int (Int32.ofInt x1), .long (Int64.ofInt x2)] D (TYs k) (mW k g σ) (fun _ => True) Unit (fun v _ => v = Int64.ofInt r.2) (fun _ => mW k g r.1) 0 0 := by
  intro sz
  refine x_met (cc := cX12_shift) (maxL := 6) (ret := (some .long)) (by decide) rfl (Nat.le_of_ble_eq_true rfl) ?_
  intro p e s m below meth c ls C hX hsz hr hlk hmn hl h
  have hl : lv_has ls 6 [(0, .ref (g 0)), (1, .int (Int32.ofInt x1)), (2, .long (Int64.ofInt x2))] := hl
  rw [r_shift] at hm
  refine lv_aload_n C.1 C.2.1 dX12_shift_0 rfl (lv_at hl 0 rfl) ?_
  refine fg_49 C h dX12_shift_1 ?_
  refine lv_iload_n C.1 C.2.1 dX12_shift_4 rfl (lv_at hl 1 rfl) ?_
  obtain ⟨g1, hm⟩ := grd_s hm
  refine al_70 C h dX12_shift_5 g1 ?_
  refine lv_bipush (v := Int32.ofInt 17) C.1 C.2.1 dX12_shift_6 (by decide) ?_
  obtain ⟨g2, hm⟩ := grd_s hm
  refine z_icmp_ne (tgt := 39) C dX12_shift_8 (by decide) g2 (by decide) (fun c3 => ?_) (fun c3 => ?_)
  · have hm := ite_f c3 hm
    refine lv_aload_n C.1 C.2.1 dX12_shift_39 rfl (lv_at hl 0 rfl) ?_
    refine fg_50 C h dX12_shift_40 ?_
    refine lv_iload_n C.1 C.2.1 dX12_shift_43 rfl (lv_at hl 1 rfl) ?_
    refine al_69 C h dX12_shift_44 g1 ?_
    obtain ⟨g4, hm⟩ := grd_s hm
    refine z_i2l C dX12_shift_45 g4 ?_
    refine lv_aload_n C.1 C.2.1 dX12_shift_46 rfl (lv_at hl 0 rfl) ?_
    refine fg_56 C h dX12_shift_47 ?_
    refine lv_iload_n C.1 C.2.1 dX12_shift_50 rfl (lv_at hl 1 rfl) ?_
    refine al_63 C h dX12_shift_51 g1 ?_
    refine lv_aload_n C.1 C.2.1 dX12_shift_52 rfl (lv_at hl 0 rfl) ?_
    refine fg_51 C h dX12_shift_53 ?_
    refine lv_iload_n C.1 C.2.1 dX12_shift_56 rfl (lv_at hl 1 rfl) ?_
    refine al_68 C h dX12_shift_57 g1 ?_
    obtain ⟨g5, hm⟩ := grd_s hm
    obtain ⟨g6, hm⟩ := grd_s hm
    obtain ⟨g7, hm⟩ := grd_s hm
    refine z_idiv C dX12_shift_58 g5 g6 g7 ?_
    obtain ⟨g8, hm⟩ := grd_s hm
    refine z_i2l C dX12_shift_59 g8 ?_
    refine z_lmul C dX12_shift_60 ?_
    obtain ⟨v9, e10, hm⟩ := bnd_s hm
    rw [e10]
    refine lv_lstore (lv' := [(4, .long (Int64.ofInt v9)), (0, .ref (g 0)), (1, .int (Int32.ofInt x1)), (2, .long (Int64.ofInt x2))]) C.1 C.2.1 dX12_shift_61 hl (by decide) rfl (fun ls hl => ?_)
    refine lv_aload_n C.1 C.2.1 dX12_shift_63 rfl (lv_at hl 1 rfl) ?_
    refine fg_49 C h dX12_shift_64 ?_
    refine lv_iload_n C.1 C.2.1 dX12_shift_67 rfl (lv_at hl 2 rfl) ?_
    refine al_70 C h dX12_shift_68 g1 ?_
    refine lv_bipush (v := Int32.ofInt 10) C.1 C.2.1 dX12_shift_69 (by decide) ?_
    refine z_icmp_ne (tgt := 80) C dX12_shift_71 (by decide) g2 (by decide) (fun c11 => ?_) (fun c11 => ?_)
    · have hm := ite_f c11 hm
      refine lv_lload C.1 C.2.1 dX12_shift_80 (lv_at hl 0 rfl) ?_
      cases hm
      exact q_lret C h hr hlk dX12_shift_82
    · have hm := ite_t c11 hm
      refine lv_lload C.1 C.2.1 dX12_shift_74 (lv_at hl 0 rfl) ?_
      refine z_lneg C dX12_shift_76 ?_
      refine lv_goto (tgt := 82) C.1 C.2.1 dX12_shift_77 (by decide) ?_
      cases hm
      exact q_lret C h hr hlk dX12_shift_82
  · have hm := ite_t c3 hm
    refine lv_lload_n C.1 C.2.1 dX12_shift_11 rfl (lv_at hl 2 rfl) ?_
    refine lv_aload_n C.1 C.2.1 dX12_shift_12 rfl (lv_at hl 0 rfl) ?_
    refine fg_50 C h dX12_shift_13 ?_
    refine lv_iload_n C.1 C.2.1 dX12_shift_16 rfl (lv_at hl 1 rfl) ?_
    refine al_69 C h dX12_shift_17 g1 ?_
    obtain ⟨g12, hm⟩ := grd_s hm
    refine z_i2l C dX12_shift_18 g12 ?_
    obtain ⟨r13, e14, hm⟩ := obd_s hm
    refine q_callSl C h (rc_mod l D k N x2 (el σ 69 x1) r13 e14) (cwS 2 C.2.2.1 (gR_mod _) rfl rfl rfl hd_mod ⟨Nat.le_of_ble_eq_true rfl, Nat.le_of_ble_eq_true rfl⟩) rfl hl.1 rfl (Nat.le_of_ble_eq_true rfl) dX12_shift_19 ⟨Nat.le_of_ble_eq_true rfl, Nat.le_of_ble_eq_true rfl⟩ (fun H locs h => ?_)
    refine z_lneg C dX12_shift_22 ?_
    refine lv_aload_n C.1 C.2.1 dX12_shift_23 rfl (lv_at hl 0 rfl) ?_
    refine fg_56 C h dX12_shift_24 ?_
    refine lv_iload_n C.1 C.2.1 dX12_shift_27 rfl (lv_at hl 1 rfl) ?_
    refine al_63 C h dX12_shift_28 g1 ?_
    refine lv_aload_n C.1 C.2.1 dX12_shift_29 rfl (lv_at hl 0 rfl) ?_
    refine fg_50 C h dX12_shift_30 ?_
    refine lv_iload_n C.1 C.2.1 dX12_shift_33 rfl (lv_at hl 1 rfl) ?_
    refine al_69 C h dX12_shift_34 g1 ?_
    obtain ⟨g15, hm⟩ := grd_s hm
    obtain ⟨g16, hm⟩ := grd_s hm
    refine z_idiv C dX12_shift_35 g15 g12 g16 ?_
    obtain ⟨g17, hm⟩ := grd_s hm
    refine z_i2l C dX12_shift_36 g17 ?_
    refine z_lmul C dX12_shift_37 ?_
    cases hm
    exact q_lret C h hr hlk dX12_shift_38
end L_shift
section L_sort
variable {p : Program} {l : Launch} {e : Env} {s : State} {m : MethodId} {args : Array Value} {below : List Frame} {meth : Method} {c : Code} {D : va_G} {A : Nat → Prop} {k : Nat → ClassId} {g : Nat → Nat} {N : Nat} {cd : Cond}
set_option maxHeartbeats 4000000 in
set_option maxRecDepth 100000 in
theorem lm_sort_91 {r : St} (C : Cx p s m args c cX12_sort RX12 (cd :: rW) D (TYs k) 6) (hr : meth.sig.returnType = none) (hlk : meth.locks = false) {rec4 : St → Int → Int → Option St} (hrec4 : ∀ {ls : Array Slot} {H : Heap} {locs : List Loc} {σ : St} {x1 : Int} {x2 : Int}, lv_has ls 6 [(0, .ref (g 0)), (1, .int (Int32.ofInt x1)), (2, .int (Int32.ofInt x2))] → Hp D A s.heap H locs (mW k g σ) → rec4 σ x1 x2 = some r → W p l e { frames := 1, cells := 0, slots := 0, locals := 22 } s m args below meth c H locs 0 0 (MQ below (va_Qv (fun (_ : Unit) => True) (fun _ t => PostW D (TYs k) A (mW k g r) t) A) args s 0 0 A) (F0 m 4 ls [])) {ls : Array Slot} {H : Heap} {locs : List Loc} {σ : St} {x1 : Int} {x2 : Int} (hl : lv_has ls 6 [(0, .ref (g 0)), (1, .int (Int32.ofInt x1)), (2, .int (Int32.ofInt x2))]) (h : Hp D A s.heap H locs (mW k g σ)) (hm : r_sort_91 N rec4 σ x1 x2 = some r) : W p l e { frames := 1, cells := 0, slots := 0, locals := 22 } s m args below meth c H locs 0 0 (MQ below (va_Qv (fun (_ : Unit) => True) (fun _ t => PostW D (TYs k) A (mW k g r) t) A) args s 0 0 A) (F0 m 91 ls []) := by
  rw [r_sort_91] at hm
  refine lv_iinc (v := Int32.ofInt (x2 + 1)) (lv' := [(2, .int (Int32.ofInt (x2 + 1))), (0, .ref (g 0)), (1, .int (Int32.ofInt x1))]) C.1 C.2.1 dX12_sort_91 hl (k := 2) rfl (c32_add _ _) (by decide) rfl (fun ls hl => ?_)
  refine lv_goto (tgt := 4) C.1 C.2.1 dX12_sort_94 (by decide) ?_
  exact hrec4 (lv_sub hl [1, 2, 0] rfl) h hm
set_option maxHeartbeats 4000000 in
set_option maxRecDepth 100000 in
theorem lm_sort_82 {r : St} (C : Cx p s m args c cX12_sort RX12 (cd :: rW) D (TYs k) 6) (hr : meth.sig.returnType = none) (hlk : meth.locks = false) {rec4 : St → Int → Int → Option St} (hrec4 : ∀ {ls : Array Slot} {H : Heap} {locs : List Loc} {σ : St} {x1 : Int} {x2 : Int}, lv_has ls 6 [(0, .ref (g 0)), (1, .int (Int32.ofInt x1)), (2, .int (Int32.ofInt x2))] → Hp D A s.heap H locs (mW k g σ) → rec4 σ x1 x2 = some r → W p l e { frames := 1, cells := 0, slots := 0, locals := 22 } s m args below meth c H locs 0 0 (MQ below (va_Qv (fun (_ : Unit) => True) (fun _ t => PostW D (TYs k) A (mW k g r) t) A) args s 0 0 A) (F0 m 4 ls [])) {ls : Array Slot} {H : Heap} {locs : List Loc} {σ : St} {x1 : Int} {x2 : Int} {x5 : Int} (hl : lv_has ls 6 [(0, .ref (g 0)), (1, .int (Int32.ofInt x1)), (2, .int (Int32.ofInt x2)), (5, .int (Int32.ofInt x5))]) (h : Hp D A s.heap H locs (mW k g σ)) (hm : r_sort_82 N rec4 σ x1 x2 x5 = some r) : W p l e { frames := 1, cells := 0, slots := 0, locals := 22 } s m args below meth c H locs 0 0 (MQ below (va_Qv (fun (_ : Unit) => True) (fun _ t => PostW D (TYs k) A (mW k g r) t) A) args s 0 0 A) (F0 m 82 ls []) := by
  rw [r_sort_82] at hm
  refine lv_aload_n C.1 C.2.1 dX12_sort_82 rfl (lv_at hl 0 rfl) ?_
  refine lv_sipush (v := Int32.ofInt 29999) C.1 C.2.1 dX12_sort_83 (by decide) ?_
  refine lv_iload C.1 C.2.1 dX12_sort_86 (lv_at hl 3 rfl) ?_
  obtain ⟨r24, e25, hm⟩ := obd_s hm
  refine q_callVv C h (rc_copy l D k g N σ 29999 x5 r24 e25) (cwV 2 C.2.2.1 (gR_copy _) rfl rfl rfl hd_copy ⟨Nat.le_of_ble_eq_true rfl, Nat.le_of_ble_eq_true rfl⟩) rfl hl.1 rfl (Nat.le_of_ble_eq_true rfl) dX12_sort_88 ⟨Nat.le_of_ble_eq_true rfl, Nat.le_of_ble_eq_true rfl⟩ (fun H locs h => ?_)
  exact lm_sort_91 (N := N) C hr hlk hrec4 (lv_sub hl [0, 1, 2] rfl) h hm
set_option maxHeartbeats 4000000 in
set_option maxRecDepth 100000 in
theorem lm_sort_46 {r : St} (C : Cx p s m args c cX12_sort RX12 (cd :: rW) D (TYs k) 6) (hr : meth.sig.returnType = none) (hlk : meth.locks = false) {rec4 : St → Int → Int → Option St} (hrec4 : ∀ {ls : Array Slot} {H : Heap} {locs : List Loc} {σ : St} {x1 : Int} {x2 : Int}, lv_has ls 6 [(0, .ref (g 0)), (1, .int (Int32.ofInt x1)), (2, .int (Int32.ofInt x2))] → Hp D A s.heap H locs (mW k g σ) → rec4 σ x1 x2 = some r → W p l e { frames := 1, cells := 0, slots := 0, locals := 22 } s m args below meth c H locs 0 0 (MQ below (va_Qv (fun (_ : Unit) => True) (fun _ t => PostW D (TYs k) A (mW k g r) t) A) args s 0 0 A) (F0 m 4 ls [])) (n : Nat) : ∀ {ls : Array Slot} {H : Heap} {locs : List Loc} {σ : St} {x1 : Int} {x2 : Int} {x3 : Int} {x5 : Int}, lv_has ls 6 [(0, .ref (g 0)), (1, .int (Int32.ofInt x1)), (2, .int (Int32.ofInt x2)), (3, .long (Int64.ofInt x3)), (5, .int (Int32.ofInt x5))] → Hp D A s.heap H locs (mW k g σ) → r_sort_46 N rec4 n σ x1 x2 x3 x5 = some r → W p l e { frames := 1, cells := 0, slots := 0, locals := 22 } s m args below meth c H locs 0 0 (MQ below (va_Qv (fun (_ : Unit) => True) (fun _ t => PostW D (TYs k) A (mW k g r) t) A) args s 0 0 A) (F0 m 46 ls []) := by
  induction n with
  | zero => intro ls H locs σ x1 x2 x3 x5 hl h hm; cases (show none = some r from hm)
  | succ n hrec46 =>
    intro ls H locs σ x1 x2 x3 x5 hl h hm
    rw [r_sort_46] at hm
    refine lv_iload C.1 C.2.1 dX12_sort_46 (lv_at hl 4 rfl) ?_
    refine lv_iload_n C.1 C.2.1 dX12_sort_48 rfl (lv_at hl 1 rfl) ?_
    obtain ⟨g15, hm⟩ := grd_s hm
    obtain ⟨g16, hm⟩ := grd_s hm
    refine z_icmp_le (tgt := 82) C dX12_sort_49 (by decide) g15 g16 (fun c17 => ?_) (fun c17 => ?_)
    · have hm := ite_f c17 hm
      exact lm_sort_82 (N := N) C hr hlk hrec4 (lv_sub hl [0, 1, 2, 4] rfl) h hm
    · have hm := ite_t c17 hm
      refine lv_aload_n C.1 C.2.1 dX12_sort_52 rfl (lv_at hl 0 rfl) ?_
      refine fg_85 C h dX12_sort_53 ?_
      refine lv_iload C.1 C.2.1 dX12_sort_56 (lv_at hl 4 rfl) ?_
      refine lv_iconst (v := Int32.ofInt 1) C.1 C.2.1 dX12_sort_58 (by decide) ?_
      refine z_isub C dX12_sort_59 ?_
      obtain ⟨g18, hm⟩ := grd_s hm
      refine al_52 C h dX12_sort_60 g18 ?_
      refine lv_lload_n C.1 C.2.1 dX12_sort_61 rfl (lv_at hl 3 rfl) ?_
      obtain ⟨g19, hm⟩ := grd_s hm
      obtain ⟨g20, hm⟩ := grd_s hm
      refine W.lcmp C.1 C.2.1 dX12_sort_62 ?_
      refine z_lcmp_le (tgt := 82) C dX12_sort_63 (by decide) g19 g20 (fun c21 => ?_) (fun c21 => ?_)
      · have hm := ite_f c21 hm
        exact lm_sort_82 (N := N) C hr hlk hrec4 (lv_sub hl [0, 1, 2, 4] rfl) h hm
      · have hm := ite_t c21 hm
        refine lv_aload_n C.1 C.2.1 dX12_sort_66 rfl (lv_at hl 0 rfl) ?_
        refine lv_iload C.1 C.2.1 dX12_sort_67 (lv_at hl 4 rfl) ?_
        refine lv_iconst (v := Int32.ofInt 1) C.1 C.2.1 dX12_sort_69 (by decide) ?_
        refine z_isub C dX12_sort_70 ?_
        refine lv_iload C.1 C.2.1 dX12_sort_71 (lv_at hl 4 rfl) ?_
        obtain ⟨r22, e23, hm⟩ := obd_s hm
        refine q_callVv C h (rc_copy l D k g N σ (x5 - 1) x5 r22 e23) (cwV 2 C.2.2.1 (gR_copy _) rfl rfl rfl hd_copy ⟨Nat.le_of_ble_eq_true rfl, Nat.le_of_ble_eq_true rfl⟩) rfl hl.1 rfl (Nat.le_of_ble_eq_true rfl) dX12_sort_73 ⟨Nat.le_of_ble_eq_true rfl, Nat.le_of_ble_eq_true rfl⟩ (fun H locs h => ?_)
        refine lv_iinc (v := Int32.ofInt (x5 + (-1))) (lv' := [(5, .int (Int32.ofInt (x5 + (-1)))), (0, .ref (g 0)), (1, .int (Int32.ofInt x1)), (2, .int (Int32.ofInt x2)), (3, .long (Int64.ofInt x3))]) C.1 C.2.1 dX12_sort_76 hl (k := 4) rfl (c32_add _ _) (by decide) rfl (fun ls hl => ?_)
        refine lv_goto (tgt := 46) C.1 C.2.1 dX12_sort_79 (by decide) ?_
        exact hrec46 (lv_sub hl [1, 2, 3, 4, 0] rfl) h hm
set_option maxHeartbeats 4000000 in
set_option maxRecDepth 100000 in
theorem lm_sort_4 {r : St} (C : Cx p s m args c cX12_sort RX12 (cd :: rW) D (TYs k) 6) (hr : meth.sig.returnType = none) (hlk : meth.locks = false)  (n : Nat) : ∀ {ls : Array Slot} {H : Heap} {locs : List Loc} {σ : St} {x1 : Int} {x2 : Int}, lv_has ls 6 [(0, .ref (g 0)), (1, .int (Int32.ofInt x1)), (2, .int (Int32.ofInt x2))] → Hp D A s.heap H locs (mW k g σ) → r_sort_4 N  n σ x1 x2 = some r → W p l e { frames := 1, cells := 0, slots := 0, locals := 22 } s m args below meth c H locs 0 0 (MQ below (va_Qv (fun (_ : Unit) => True) (fun _ t => PostW D (TYs k) A (mW k g r) t) A) args s 0 0 A) (F0 m 4 ls []) := by
  induction n with
  | zero => intro ls H locs σ x1 x2 hl h hm; cases (show none = some r from hm)
  | succ n hrec4 =>
    intro ls H locs σ x1 x2 hl h hm
    rw [r_sort_4] at hm
    refine lv_iload_n C.1 C.2.1 dX12_sort_4 rfl (lv_at hl 2 rfl) ?_
    refine lv_aload_n C.1 C.2.1 dX12_sort_5 rfl (lv_at hl 0 rfl) ?_
    refine fg_84 C h dX12_sort_6 ?_
    obtain ⟨g3, hm⟩ := grd_s hm
    obtain ⟨g4, hm⟩ := grd_s hm
    refine z_icmp_ge (tgt := 97) C dX12_sort_9 (by decide) g3 g4 (fun c5 => ?_) (fun c5 => ?_)
    · have hm := ite_f c5 hm
      cases hm
      exact q_vret C h hr hlk dX12_sort_97
    · have hm := ite_t c5 hm
      refine lv_aload_n C.1 C.2.1 dX12_sort_12 rfl (lv_at hl 0 rfl) ?_
      refine fg_85 C h dX12_sort_13 ?_
      refine lv_iload_n C.1 C.2.1 dX12_sort_16 rfl (lv_at hl 2 rfl) ?_
      obtain ⟨g6, hm⟩ := grd_s hm
      refine al_52 C h dX12_sort_17 g6 ?_
      obtain ⟨v7, e8, hm⟩ := bnd_s hm
      rw [e8]
      refine lv_lstore_n (lv' := [(3, .long (Int64.ofInt v7)), (0, .ref (g 0)), (1, .int (Int32.ofInt x1)), (2, .int (Int32.ofInt x2))]) C.1 C.2.1 dX12_sort_18 rfl hl (by decide) rfl (fun ls hl => ?_)
      refine lv_aload_n C.1 C.2.1 dX12_sort_19 rfl (lv_at hl 1 rfl) ?_
      refine fg_85 C h dX12_sort_20 ?_
      refine lv_iload_n C.1 C.2.1 dX12_sort_23 rfl (lv_at hl 3 rfl) ?_
      refine lv_iconst (v := Int32.ofInt 1) C.1 C.2.1 dX12_sort_24 (by decide) ?_
      refine z_isub C dX12_sort_25 ?_
      obtain ⟨g9, hm⟩ := grd_s hm
      refine al_52 C h dX12_sort_26 g9 ?_
      refine lv_lload_n C.1 C.2.1 dX12_sort_27 rfl (lv_at hl 0 rfl) ?_
      obtain ⟨g10, hm⟩ := grd_s hm
      obtain ⟨g11, hm⟩ := grd_s hm
      refine W.lcmp C.1 C.2.1 dX12_sort_28 ?_
      refine z_lcmp_gt (tgt := 35) C dX12_sort_29 (by decide) g10 g11 (fun c12 => ?_) (fun c12 => ?_)
      · have hm := ite_t c12 hm
        refine lv_aload_n C.1 C.2.1 dX12_sort_35 rfl (lv_at hl 1 rfl) ?_
        refine lv_iload_n C.1 C.2.1 dX12_sort_36 rfl (lv_at hl 3 rfl) ?_
        refine lv_sipush (v := Int32.ofInt 29999) C.1 C.2.1 dX12_sort_37 (by decide) ?_
        obtain ⟨r13, e14, hm⟩ := obd_s hm
        refine q_callVv C h (rc_copy l D k g N σ x2 29999 r13 e14) (cwV 2 C.2.2.1 (gR_copy _) rfl rfl rfl hd_copy ⟨Nat.le_of_ble_eq_true rfl, Nat.le_of_ble_eq_true rfl⟩) rfl hl.1 rfl (Nat.le_of_ble_eq_true rfl) dX12_sort_40 ⟨Nat.le_of_ble_eq_true rfl, Nat.le_of_ble_eq_true rfl⟩ (fun H locs h => ?_)
        refine lv_iload_n C.1 C.2.1 dX12_sort_43 rfl (lv_at hl 3 rfl) ?_
        refine lv_istore (lv' := [(5, .int (Int32.ofInt x2)), (3, .long (Int64.ofInt v7)), (0, .ref (g 0)), (1, .int (Int32.ofInt x1)), (2, .int (Int32.ofInt x2))]) C.1 C.2.1 dX12_sort_44 hl (by decide) rfl (fun ls hl => ?_)
        exact lm_sort_46 (N := N) C hr hlk hrec4 N (lv_sub hl [2, 3, 4, 1, 0] rfl) h hm
      · have hm := ite_f c12 hm
        refine lv_goto (tgt := 91) C.1 C.2.1 dX12_sort_32 (by decide) ?_
        exact lm_sort_91 (N := N) C hr hlk hrec4 (lv_sub hl [1, 2, 3] rfl) h hm
set_option maxHeartbeats 4000000 in
set_option maxRecDepth 100000 in
theorem rc_sort (l : Launch) (D : va_G) (k : Nat → ClassId) (g : Nat → Nat) (N : Nat) (σ : St) (x1 : Int) (r : St) (hm : r_sort N σ x1 = some r) : Mv l yX12_sort (.code yX12_sort cX12_sort 6 none :: rW) { frames := 1, cells := 0, slots := 0, locals := 22 } [.ref (g 0), .int (Int32.ofInt x1)] D (TYs k) (mW k g σ) (fun _ => True) Unit (fun _ => True) (fun _ => mW k g r) 0 0 := by
  intro sz
  refine x_met (cc := cX12_sort) (maxL := 6) (ret := none) (by decide) rfl (Nat.le_of_ble_eq_true rfl) ?_
  intro p e s m below meth c ls C hX hsz hr hlk hmn hl h
  have hl : lv_has ls 6 [(0, .ref (g 0)), (1, .int (Int32.ofInt x1))] := hl
  rw [r_sort] at hm
  refine lv_iload_n C.1 C.2.1 dX12_sort_0 rfl (lv_at hl 1 rfl) ?_
  refine lv_iconst (v := Int32.ofInt 1) C.1 C.2.1 dX12_sort_1 (by decide) ?_
  refine z_iadd C dX12_sort_2 ?_
  obtain ⟨v1, e2, hm⟩ := bnd_s hm
  rw [e2]
  refine lv_istore_n (lv' := [(2, .int (Int32.ofInt v1)), (0, .ref (g 0)), (1, .int (Int32.ofInt x1))]) C.1 C.2.1 dX12_sort_3 rfl hl (by decide) rfl (fun ls hl => ?_)
  exact lm_sort_4 (N := N) C hr hlk  N (lv_sub hl [1, 2, 0] rfl) h hm
end L_sort
section L_span
variable {p : Program} {l : Launch} {e : Env} {s : State} {m : MethodId} {args : Array Value} {below : List Frame} {meth : Method} {c : Code} {D : va_G} {A : Nat → Prop} {k : Nat → ClassId} {g : Nat → Nat} {N : Nat} {cd : Cond}
set_option maxHeartbeats 4000000 in
set_option maxRecDepth 100000 in
theorem lm_span_154 {r : St} (C : Cx p s m args c cX12_span RX12 (cd :: rW) D (TYs k) 9) (hr : meth.sig.returnType = none) (hlk : meth.locks = false)  {ls : Array Slot} {H : Heap} {locs : List Loc} {σ : St} {s0 : Int} {s1 : Int} {s2 : Int} (hl : lv_has ls 9 []) (h : Hp D A s.heap H locs (mW k g σ)) (hm : r_span_154 N  σ s0 s1 s2 = some r) : W p l e { frames := 2, cells := 0, slots := 0, locals := 48 } s m args below meth c H locs 0 0 (MQ below (va_Qv (fun (_ : Unit) => True) (fun _ t => PostW D (TYs k) A (mW k g r) t) A) args s 0 0 A) (F0 m 154 ls [.long (Int64.ofInt s0), .long (Int64.ofInt s1), .int (Int32.ofInt s2), .ref (g 33)]) := by
  rw [r_span_154] at hm
  refine z_ladd C dX12_span_154 ?_
  obtain ⟨g61, hm⟩ := grd_s hm
  refine as_33 C h dX12_span_155 g61 (fun H locs h => ?_)
  refine lv_goto (tgt := 284) C.1 C.2.1 dX12_span_156 (by decide) ?_
  cases hm
  exact q_vret C h hr hlk dX12_span_284
set_option maxHeartbeats 4000000 in
set_option maxRecDepth 100000 in
theorem lm_span_214 {r : St} (C : Cx p s m args c cX12_span RX12 (cd :: rW) D (TYs k) 9) (hr : meth.sig.returnType = none) (hlk : meth.locks = false)  {ls : Array Slot} {H : Heap} {locs : List Loc} {σ : St} {s0 : Int} {s1 : Int} (hl : lv_has ls 9 []) (h : Hp D A s.heap H locs (mW k g σ)) (hm : r_span_214 N  σ s0 s1 = some r) : W p l e { frames := 2, cells := 0, slots := 0, locals := 48 } s m args below meth c H locs 0 0 (MQ below (va_Qv (fun (_ : Unit) => True) (fun _ t => PostW D (TYs k) A (mW k g r) t) A) args s 0 0 A) (F0 m 214 ls [.long (Int64.ofInt s0), .int (Int32.ofInt s1), .ref (g 33)]) := by
  rw [r_span_214] at hm
  obtain ⟨g68, hm⟩ := grd_s hm
  refine as_33 C h dX12_span_214 g68 (fun H locs h => ?_)
  refine lv_goto (tgt := 284) C.1 C.2.1 dX12_span_215 (by decide) ?_
  cases hm
  exact q_vret C h hr hlk dX12_span_284
set_option maxHeartbeats 4000000 in
set_option maxRecDepth 100000 in
theorem lm_span_187 {r : St} (C : Cx p s m args c cX12_span RX12 (cd :: rW) D (TYs k) 9) (hr : meth.sig.returnType = none) (hlk : meth.locks = false)  {ls : Array Slot} {H : Heap} {locs : List Loc} {σ : St} {x1 : Int} {x3 : Int} {x5 : Int} {x7 : Int} {s0 : Int} {s1 : Int} (hl : lv_has ls 9 [(0, .ref (g 0)), (1, .int (Int32.ofInt x1)), (3, .long (Int64.ofInt x3)), (5, .long (Int64.ofInt x5)), (7, .long (Int64.ofInt x7))]) (h : Hp D A s.heap H locs (mW k g σ)) (hm : r_span_187 N  σ x1 x3 x5 x7 s0 s1 = some r) : W p l e { frames := 2, cells := 0, slots := 0, locals := 48 } s m args below meth c H locs 0 0 (MQ below (va_Qv (fun (_ : Unit) => True) (fun _ t => PostW D (TYs k) A (mW k g r) t) A) args s 0 0 A) (F0 m 187 ls [.long (Int64.ofInt s0), .int (Int32.ofInt s1), .ref (g 34)]) := by
  rw [r_span_187] at hm
  obtain ⟨g62, hm⟩ := grd_s hm
  refine as_34 C h dX12_span_187 g62 (fun H locs h => ?_)
  refine lv_aload_n C.1 C.2.1 dX12_span_188 rfl (lv_at hl 0 rfl) ?_
  refine fg_106 C h dX12_span_189 ?_
  refine lv_iload_n C.1 C.2.1 dX12_span_192 rfl (lv_at hl 1 rfl) ?_
  refine lv_lload C.1 C.2.1 dX12_span_193 (lv_at hl 4 rfl) ?_
  refine lv_lconst (v := Int64.ofInt 1) C.1 C.2.1 dX12_span_195 (by decide) ?_
  obtain ⟨g63, hm⟩ := grd_s hm
  refine W.lcmp C.1 C.2.1 dX12_span_196 ?_
  refine z_lcmp_ne (tgt := 207) C dX12_span_197 (by decide) g63 (by decide) (fun c64 => ?_) (fun c64 => ?_)
  · have hm := ite_f c64 hm
    refine lv_lload_n C.1 C.2.1 dX12_span_207 rfl (lv_at hl 2 rfl) ?_
    refine lv_lload C.1 C.2.1 dX12_span_208 (lv_at hl 3 rfl) ?_
    refine lv_lload C.1 C.2.1 dX12_span_210 (lv_at hl 4 rfl) ?_
    obtain ⟨g65, hm⟩ := grd_s hm
    obtain ⟨g66, hm⟩ := grd_s hm
    refine z_ldiv C dX12_span_212 g65 g63 g66 ?_
    refine z_lsub C dX12_span_213 ?_
    exact lm_span_214 (N := N) C hr hlk  (lv_sub hl [] rfl) h hm
  · have hm := ite_t c64 hm
    refine lv_lload_n C.1 C.2.1 dX12_span_200 rfl (lv_at hl 2 rfl) ?_
    refine lv_lload C.1 C.2.1 dX12_span_201 (lv_at hl 3 rfl) ?_
    refine z_lsub C dX12_span_203 ?_
    refine lv_goto (tgt := 214) C.1 C.2.1 dX12_span_204 (by decide) ?_
    exact lm_span_214 (N := N) C hr hlk  (lv_sub hl [] rfl) h hm
set_option maxHeartbeats 4000000 in
set_option maxRecDepth 100000 in
theorem lm_span_248 {r : St} (C : Cx p s m args c cX12_span RX12 (cd :: rW) D (TYs k) 9) (hr : meth.sig.returnType = none) (hlk : meth.locks = false)  {ls : Array Slot} {H : Heap} {locs : List Loc} {σ : St} {s0 : Int} {s1 : Int} (hl : lv_has ls 9 []) (h : Hp D A s.heap H locs (mW k g σ)) (hm : r_span_248 N  σ s0 s1 = some r) : W p l e { frames := 2, cells := 0, slots := 0, locals := 48 } s m args below meth c H locs 0 0 (MQ below (va_Qv (fun (_ : Unit) => True) (fun _ t => PostW D (TYs k) A (mW k g r) t) A) args s 0 0 A) (F0 m 248 ls [.long (Int64.ofInt s0), .int (Int32.ofInt s1), .ref (g 33)]) := by
  rw [r_span_248] at hm
  obtain ⟨g67, hm⟩ := grd_s hm
  refine as_33 C h dX12_span_248 g67 (fun H locs h => ?_)
  refine lv_goto (tgt := 284) C.1 C.2.1 dX12_span_249 (by decide) ?_
  cases hm
  exact q_vret C h hr hlk dX12_span_284
set_option maxHeartbeats 4000000 in
set_option maxRecDepth 100000 in
theorem rc_span (l : Launch) (D : va_G) (k : Nat → ClassId) (g : Nat → Nat) (N : Nat) (σ : St) (x1 : Int) (x2 : Int) (x3 : Int) (r : St) (hm : r_span N σ x1 x2 x3 = some r) : Mv l yX12_span (.code yX12_span cX12_span 9 none :: rW) { frames := 2, cells := 0, slots := 0, locals := 48 } [.ref (g 0), .int (Int32.ofInt x1), .int (Int32.ofInt x2), .long (Int64.ofInt x3)] D (TYs k) (mW k g σ) (fun _ => True) Unit (fun _ => True) (fun _ => mW k g r) 0 0 := by
  intro sz
  refine x_met (cc := cX12_span) (maxL := 9) (ret := none) (by decide) rfl (Nat.le_of_ble_eq_true rfl) ?_
  intro p e s m below meth c ls C hX hsz hr hlk hmn hl h
  have hl : lv_has ls 9 [(0, .ref (g 0)), (1, .int (Int32.ofInt x1)), (2, .int (Int32.ofInt x2)), (3, .long (Int64.ofInt x3))] := hl
  rw [r_span] at hm
  refine lv_aload_n C.1 C.2.1 dX12_span_0 rfl (lv_at hl 0 rfl) ?_
  refine fg_50 C h dX12_span_1 ?_
  refine lv_iload_n C.1 C.2.1 dX12_span_4 rfl (lv_at hl 2 rfl) ?_
  obtain ⟨g1, hm⟩ := grd_s hm
  refine al_69 C h dX12_span_5 g1 ?_
  obtain ⟨g2, hm⟩ := grd_s hm
  refine z_i2l C dX12_span_6 g2 ?_
  obtain ⟨v3, e4, hm⟩ := bnd_s hm
  rw [e4]
  refine lv_lstore (lv' := [(5, .long (Int64.ofInt v3)), (0, .ref (g 0)), (1, .int (Int32.ofInt x1)), (2, .int (Int32.ofInt x2)), (3, .long (Int64.ofInt x3))]) C.1 C.2.1 dX12_span_7 hl (by decide) rfl (fun ls hl => ?_)
  refine lv_aload_n C.1 C.2.1 dX12_span_9 rfl (lv_at hl 1 rfl) ?_
  refine fg_51 C h dX12_span_10 ?_
  refine lv_iload_n C.1 C.2.1 dX12_span_13 rfl (lv_at hl 3 rfl) ?_
  refine al_68 C h dX12_span_14 g1 ?_
  obtain ⟨g5, hm⟩ := grd_s hm
  refine z_i2l C dX12_span_15 g5 ?_
  obtain ⟨v6, e7, hm⟩ := bnd_s hm
  rw [e7]
  refine lv_lstore (lv' := [(7, .long (Int64.ofInt v6)), (5, .long (Int64.ofInt v3)), (0, .ref (g 0)), (1, .int (Int32.ofInt x1)), (2, .int (Int32.ofInt x2)), (3, .long (Int64.ofInt x3))]) C.1 C.2.1 dX12_span_16 hl (by decide) rfl (fun ls hl => ?_)
  refine lv_aload_n C.1 C.2.1 dX12_span_18 rfl (lv_at hl 2 rfl) ?_
  refine fg_49 C h dX12_span_19 ?_
  refine lv_iload_n C.1 C.2.1 dX12_span_22 rfl (lv_at hl 4 rfl) ?_
  refine al_70 C h dX12_span_23 g1 ?_
  obtain ⟨g8, hm⟩ := grd_s hm
  by_cases c9 : (el σ 70 x2) = 9
  · refine x_topi (congrArg Int32.ofInt c9) ?_
    have hm := ite_t c9 hm
    refine lv_tableIn (tgt := 76) C.1 C.2.1 dX12_span_24 (by decide) (by decide) rfl (by decide) ?_
    refine lv_aload_n C.1 C.2.1 dX12_span_76 rfl (lv_at hl 2 rfl) ?_
    refine fg_105 C h dX12_span_77 ?_
    refine lv_iload_n C.1 C.2.1 dX12_span_80 rfl (lv_at hl 3 rfl) ?_
    refine lv_lload_n C.1 C.2.1 dX12_span_81 rfl (lv_at hl 5 rfl) ?_
    refine lv_lload C.1 C.2.1 dX12_span_82 (lv_at hl 1 rfl) ?_
    refine z_lmul C dX12_span_84 ?_
    refine lv_lload C.1 C.2.1 dX12_span_85 (lv_at hl 0 rfl) ?_
    obtain ⟨r10, e11, hm⟩ := obd_s hm
    refine q_callSl C h (rc_div l D k N (x3 * v3) v6 r10 e11) (cwS 2 C.2.2.1 (gR_div _) rfl rfl rfl hd_div ⟨Nat.le_of_ble_eq_true rfl, Nat.le_of_ble_eq_true rfl⟩) rfl hl.1 rfl (Nat.le_of_ble_eq_true rfl) dX12_span_87 ⟨Nat.le_of_ble_eq_true rfl, Nat.le_of_ble_eq_true rfl⟩ (fun H locs h => ?_)
    obtain ⟨g12, hm⟩ := grd_s hm
    refine as_34 C h dX12_span_90 g12 (fun H locs h => ?_)
    refine lv_aload_n C.1 C.2.1 dX12_span_91 rfl (lv_at hl 2 rfl) ?_
    refine fg_106 C h dX12_span_92 ?_
    refine lv_iload_n C.1 C.2.1 dX12_span_95 rfl (lv_at hl 3 rfl) ?_
    refine lv_lload_n C.1 C.2.1 dX12_span_96 rfl (lv_at hl 5 rfl) ?_
    refine lv_lconst (v := Int64.ofInt 1) C.1 C.2.1 dX12_span_97 (by decide) ?_
    refine z_ladd C dX12_span_98 ?_
    refine lv_lload C.1 C.2.1 dX12_span_99 (lv_at hl 1 rfl) ?_
    refine z_lmul C dX12_span_101 ?_
    refine lv_lload C.1 C.2.1 dX12_span_102 (lv_at hl 0 rfl) ?_
    refine z_ladd C dX12_span_104 ?_
    refine lv_lconst (v := Int64.ofInt 1) C.1 C.2.1 dX12_span_105 (by decide) ?_
    refine z_lsub C dX12_span_106 ?_
    refine lv_lload C.1 C.2.1 dX12_span_107 (lv_at hl 0 rfl) ?_
    obtain ⟨r13, e14, hm⟩ := obd_s hm
    refine q_callSl C h (rc_div l D k N ((((x3 + 1) * v3) + v6) - 1) v6 r13 e14) (cwS 2 C.2.2.1 (gR_div _) rfl rfl rfl hd_div ⟨Nat.le_of_ble_eq_true rfl, Nat.le_of_ble_eq_true rfl⟩) rfl hl.1 rfl (Nat.le_of_ble_eq_true rfl) dX12_span_109 ⟨Nat.le_of_ble_eq_true rfl, Nat.le_of_ble_eq_true rfl⟩ (fun H locs h => ?_)
    refine lv_lconst (v := Int64.ofInt 1) C.1 C.2.1 dX12_span_112 (by decide) ?_
    refine z_lsub C dX12_span_113 ?_
    refine as_33 C h dX12_span_114 g12 (fun H locs h => ?_)
    refine lv_goto (tgt := 284) C.1 C.2.1 dX12_span_115 (by decide) ?_
    cases hm
    exact q_vret C h hr hlk dX12_span_284
  have hm := ite_f c9 hm
  by_cases c15 : (el σ 70 x2) = 10
  · refine x_topi (congrArg Int32.ofInt c15) ?_
    have hm := ite_t c15 hm
    refine lv_tableIn (tgt := 118) C.1 C.2.1 dX12_span_24 (by decide) (by decide) rfl (by decide) ?_
    refine lv_aload_n C.1 C.2.1 dX12_span_118 rfl (lv_at hl 2 rfl) ?_
    refine fg_105 C h dX12_span_119 ?_
    refine lv_iload_n C.1 C.2.1 dX12_span_122 rfl (lv_at hl 3 rfl) ?_
    refine lv_lload_n C.1 C.2.1 dX12_span_123 rfl (lv_at hl 5 rfl) ?_
    refine lv_lload C.1 C.2.1 dX12_span_124 (lv_at hl 1 rfl) ?_
    refine lv_lload C.1 C.2.1 dX12_span_126 (lv_at hl 0 rfl) ?_
    obtain ⟨g16, hm⟩ := grd_s hm
    obtain ⟨g17, hm⟩ := grd_s hm
    obtain ⟨g18, hm⟩ := grd_s hm
    refine z_ldiv C dX12_span_128 g16 g17 g18 ?_
    refine z_ladd C dX12_span_129 ?_
    obtain ⟨g19, hm⟩ := grd_s hm
    refine as_34 C h dX12_span_130 g19 (fun H locs h => ?_)
    refine lv_aload_n C.1 C.2.1 dX12_span_131 rfl (lv_at hl 2 rfl) ?_
    refine fg_106 C h dX12_span_132 ?_
    refine lv_iload_n C.1 C.2.1 dX12_span_135 rfl (lv_at hl 3 rfl) ?_
    refine lv_aload_n C.1 C.2.1 dX12_span_136 rfl (lv_at hl 2 rfl) ?_
    refine fg_105 C h dX12_span_137 ?_
    refine lv_iload_n C.1 C.2.1 dX12_span_140 rfl (lv_at hl 3 rfl) ?_
    refine al_34 C h dX12_span_141 g19 ?_
    refine x_topl (y := Int64.ofInt (x3 + (Int.tdiv v3 v6))) (by simp [el, se, sf]) ?_
    refine lv_lload C.1 C.2.1 dX12_span_142 (lv_at hl 0 rfl) ?_
    refine lv_lconst (v := Int64.ofInt 1) C.1 C.2.1 dX12_span_144 (by decide) ?_
    refine W.lcmp C.1 C.2.1 dX12_span_145 ?_
    refine z_lcmp_ne (tgt := 153) C dX12_span_146 (by decide) g17 (by decide) (fun c20 => ?_) (fun c20 => ?_)
    · have hm := ite_f c20 hm
      refine lv_lconst (v := Int64.ofInt 1) C.1 C.2.1 dX12_span_153 (by decide) ?_
      exact lm_span_154 (N := N) C hr hlk  (lv_sub hl [] rfl) h hm
    · have hm := ite_t c20 hm
      refine lv_lconst (v := Int64.ofInt 0) C.1 C.2.1 dX12_span_149 (by decide) ?_
      refine lv_goto (tgt := 154) C.1 C.2.1 dX12_span_150 (by decide) ?_
      exact lm_span_154 (N := N) C hr hlk  (lv_sub hl [] rfl) h hm
  have hm := ite_f c15 hm
  by_cases c21 : (el σ 70 x2) = 11
  · refine x_topi (congrArg Int32.ofInt c21) ?_
    have hm := ite_t c21 hm
    refine lv_tableIn (tgt := 159) C.1 C.2.1 dX12_span_24 (by decide) (by decide) rfl (by decide) ?_
    refine lv_aload_n C.1 C.2.1 dX12_span_159 rfl (lv_at hl 2 rfl) ?_
    refine fg_105 C h dX12_span_160 ?_
    refine lv_iload_n C.1 C.2.1 dX12_span_163 rfl (lv_at hl 3 rfl) ?_
    refine lv_lload C.1 C.2.1 dX12_span_164 (lv_at hl 0 rfl) ?_
    refine lv_lconst (v := Int64.ofInt 1) C.1 C.2.1 dX12_span_166 (by decide) ?_
    obtain ⟨g22, hm⟩ := grd_s hm
    refine W.lcmp C.1 C.2.1 dX12_span_167 ?_
    refine z_lcmp_ne (tgt := 178) C dX12_span_168 (by decide) g22 (by decide) (fun c23 => ?_) (fun c23 => ?_)
    · have hm := ite_f c23 hm
      refine lv_lload_n C.1 C.2.1 dX12_span_178 rfl (lv_at hl 5 rfl) ?_
      refine lv_lload C.1 C.2.1 dX12_span_179 (lv_at hl 1 rfl) ?_
      refine lv_lload C.1 C.2.1 dX12_span_181 (lv_at hl 0 rfl) ?_
      obtain ⟨g24, hm⟩ := grd_s hm
      obtain ⟨g25, hm⟩ := grd_s hm
      refine z_ldiv C dX12_span_183 g24 g22 g25 ?_
      refine z_lsub C dX12_span_184 ?_
      refine lv_lconst (v := Int64.ofInt 1) C.1 C.2.1 dX12_span_185 (by decide) ?_
      refine z_lsub C dX12_span_186 ?_
      exact lm_span_187 (N := N) C hr hlk  (lv_sub hl [2, 3, 5, 1, 0] rfl) h hm
    · have hm := ite_t c23 hm
      refine lv_lload_n C.1 C.2.1 dX12_span_171 rfl (lv_at hl 5 rfl) ?_
      refine lv_lload C.1 C.2.1 dX12_span_172 (lv_at hl 1 rfl) ?_
      refine z_lsub C dX12_span_174 ?_
      refine lv_goto (tgt := 187) C.1 C.2.1 dX12_span_175 (by decide) ?_
      exact lm_span_187 (N := N) C hr hlk  (lv_sub hl [2, 3, 5, 1, 0] rfl) h hm
  have hm := ite_f c21 hm
  by_cases c26 : (el σ 70 x2) = 12
  · refine x_topi (congrArg Int32.ofInt c26) ?_
    have hm := ite_t c26 hm
    refine lv_tableIn (tgt := 252) C.1 C.2.1 dX12_span_24 (by decide) (by decide) rfl (by decide) ?_
    refine lv_aload_n C.1 C.2.1 dX12_span_252 rfl (lv_at hl 2 rfl) ?_
    refine fg_105 C h dX12_span_253 ?_
    refine lv_iload_n C.1 C.2.1 dX12_span_256 rfl (lv_at hl 3 rfl) ?_
    refine lv_lload_n C.1 C.2.1 dX12_span_257 rfl (lv_at hl 5 rfl) ?_
    refine lv_aload_n C.1 C.2.1 dX12_span_258 rfl (lv_at hl 2 rfl) ?_
    refine fg_58 C h dX12_span_259 ?_
    refine lv_aload_n C.1 C.2.1 dX12_span_262 rfl (lv_at hl 2 rfl) ?_
    refine fg_62 C h dX12_span_263 ?_
    refine lv_aload_n C.1 C.2.1 dX12_span_266 rfl (lv_at hl 2 rfl) ?_
    refine fg_54 C h dX12_span_267 ?_
    refine lv_iload_n C.1 C.2.1 dX12_span_270 rfl (lv_at hl 4 rfl) ?_
    refine al_65 C h dX12_span_271 g1 ?_
    obtain ⟨g27, hm⟩ := grd_s hm
    refine al_58 C h dX12_span_272 g27 ?_
    obtain ⟨g28, hm⟩ := grd_s hm
    refine al_61 C h dX12_span_273 g28 ?_
    obtain ⟨g29, hm⟩ := grd_s hm
    refine z_i2l C dX12_span_274 g29 ?_
    refine z_lsub C dX12_span_275 ?_
    obtain ⟨g30, hm⟩ := grd_s hm
    refine as_34 C h dX12_span_276 g30 (fun H locs h => ?_)
    refine lv_aload_n C.1 C.2.1 dX12_span_277 rfl (lv_at hl 2 rfl) ?_
    refine fg_106 C h dX12_span_278 ?_
    refine lv_iload_n C.1 C.2.1 dX12_span_281 rfl (lv_at hl 3 rfl) ?_
    refine lv_lload_n C.1 C.2.1 dX12_span_282 rfl (lv_at hl 5 rfl) ?_
    refine as_33 C h dX12_span_283 g30 (fun H locs h => ?_)
    cases hm
    exact q_vret C h hr hlk dX12_span_284
  have hm := ite_f c26 hm
  by_cases c31 : (el σ 70 x2) = 13
  · refine x_topi (congrArg Int32.ofInt c31) ?_
    have hm := ite_t c31 hm
    refine lv_tableIn (tgt := 252) C.1 C.2.1 dX12_span_24 (by decide) (by decide) rfl (by decide) ?_
    refine lv_aload_n C.1 C.2.1 dX12_span_252 rfl (lv_at hl 2 rfl) ?_
    refine fg_105 C h dX12_span_253 ?_
    refine lv_iload_n C.1 C.2.1 dX12_span_256 rfl (lv_at hl 3 rfl) ?_
    refine lv_lload_n C.1 C.2.1 dX12_span_257 rfl (lv_at hl 5 rfl) ?_
    refine lv_aload_n C.1 C.2.1 dX12_span_258 rfl (lv_at hl 2 rfl) ?_
    refine fg_58 C h dX12_span_259 ?_
    refine lv_aload_n C.1 C.2.1 dX12_span_262 rfl (lv_at hl 2 rfl) ?_
    refine fg_62 C h dX12_span_263 ?_
    refine lv_aload_n C.1 C.2.1 dX12_span_266 rfl (lv_at hl 2 rfl) ?_
    refine fg_54 C h dX12_span_267 ?_
    refine lv_iload_n C.1 C.2.1 dX12_span_270 rfl (lv_at hl 4 rfl) ?_
    refine al_65 C h dX12_span_271 g1 ?_
    obtain ⟨g32, hm⟩ := grd_s hm
    refine al_58 C h dX12_span_272 g32 ?_
    obtain ⟨g33, hm⟩ := grd_s hm
    refine al_61 C h dX12_span_273 g33 ?_
    obtain ⟨g34, hm⟩ := grd_s hm
    refine z_i2l C dX12_span_274 g34 ?_
    refine z_lsub C dX12_span_275 ?_
    obtain ⟨g35, hm⟩ := grd_s hm
    refine as_34 C h dX12_span_276 g35 (fun H locs h => ?_)
    refine lv_aload_n C.1 C.2.1 dX12_span_277 rfl (lv_at hl 2 rfl) ?_
    refine fg_106 C h dX12_span_278 ?_
    refine lv_iload_n C.1 C.2.1 dX12_span_281 rfl (lv_at hl 3 rfl) ?_
    refine lv_lload_n C.1 C.2.1 dX12_span_282 rfl (lv_at hl 5 rfl) ?_
    refine as_33 C h dX12_span_283 g35 (fun H locs h => ?_)
    cases hm
    exact q_vret C h hr hlk dX12_span_284
  have hm := ite_f c31 hm
  by_cases c36 : (el σ 70 x2) = 14
  · refine x_topi (congrArg Int32.ofInt c36) ?_
    have hm := ite_t c36 hm
    refine lv_tableIn (tgt := 252) C.1 C.2.1 dX12_span_24 (by decide) (by decide) rfl (by decide) ?_
    refine lv_aload_n C.1 C.2.1 dX12_span_252 rfl (lv_at hl 2 rfl) ?_
    refine fg_105 C h dX12_span_253 ?_
    refine lv_iload_n C.1 C.2.1 dX12_span_256 rfl (lv_at hl 3 rfl) ?_
    refine lv_lload_n C.1 C.2.1 dX12_span_257 rfl (lv_at hl 5 rfl) ?_
    refine lv_aload_n C.1 C.2.1 dX12_span_258 rfl (lv_at hl 2 rfl) ?_
    refine fg_58 C h dX12_span_259 ?_
    refine lv_aload_n C.1 C.2.1 dX12_span_262 rfl (lv_at hl 2 rfl) ?_
    refine fg_62 C h dX12_span_263 ?_
    refine lv_aload_n C.1 C.2.1 dX12_span_266 rfl (lv_at hl 2 rfl) ?_
    refine fg_54 C h dX12_span_267 ?_
    refine lv_iload_n C.1 C.2.1 dX12_span_270 rfl (lv_at hl 4 rfl) ?_
    refine al_65 C h dX12_span_271 g1 ?_
    obtain ⟨g37, hm⟩ := grd_s hm
    refine al_58 C h dX12_span_272 g37 ?_
    obtain ⟨g38, hm⟩ := grd_s hm
    refine al_61 C h dX12_span_273 g38 ?_
    obtain ⟨g39, hm⟩ := grd_s hm
    refine z_i2l C dX12_span_274 g39 ?_
    refine z_lsub C dX12_span_275 ?_
    obtain ⟨g40, hm⟩ := grd_s hm
    refine as_34 C h dX12_span_276 g40 (fun H locs h => ?_)
    refine lv_aload_n C.1 C.2.1 dX12_span_277 rfl (lv_at hl 2 rfl) ?_
    refine fg_106 C h dX12_span_278 ?_
    refine lv_iload_n C.1 C.2.1 dX12_span_281 rfl (lv_at hl 3 rfl) ?_
    refine lv_lload_n C.1 C.2.1 dX12_span_282 rfl (lv_at hl 5 rfl) ?_
    refine as_33 C h dX12_span_283 g40 (fun H locs h => ?_)
    cases hm
    exact q_vret C h hr hlk dX12_span_284
  have hm := ite_f c36 hm
  by_cases c41 : (el σ 70 x2) = 15
  · refine x_topi (congrArg Int32.ofInt c41) ?_
    have hm := ite_t c41 hm
    refine lv_tableIn (tgt := 252) C.1 C.2.1 dX12_span_24 (by decide) (by decide) rfl (by decide) ?_
    refine lv_aload_n C.1 C.2.1 dX12_span_252 rfl (lv_at hl 2 rfl) ?_
    refine fg_105 C h dX12_span_253 ?_
    refine lv_iload_n C.1 C.2.1 dX12_span_256 rfl (lv_at hl 3 rfl) ?_
    refine lv_lload_n C.1 C.2.1 dX12_span_257 rfl (lv_at hl 5 rfl) ?_
    refine lv_aload_n C.1 C.2.1 dX12_span_258 rfl (lv_at hl 2 rfl) ?_
    refine fg_58 C h dX12_span_259 ?_
    refine lv_aload_n C.1 C.2.1 dX12_span_262 rfl (lv_at hl 2 rfl) ?_
    refine fg_62 C h dX12_span_263 ?_
    refine lv_aload_n C.1 C.2.1 dX12_span_266 rfl (lv_at hl 2 rfl) ?_
    refine fg_54 C h dX12_span_267 ?_
    refine lv_iload_n C.1 C.2.1 dX12_span_270 rfl (lv_at hl 4 rfl) ?_
    refine al_65 C h dX12_span_271 g1 ?_
    obtain ⟨g42, hm⟩ := grd_s hm
    refine al_58 C h dX12_span_272 g42 ?_
    obtain ⟨g43, hm⟩ := grd_s hm
    refine al_61 C h dX12_span_273 g43 ?_
    obtain ⟨g44, hm⟩ := grd_s hm
    refine z_i2l C dX12_span_274 g44 ?_
    refine z_lsub C dX12_span_275 ?_
    obtain ⟨g45, hm⟩ := grd_s hm
    refine as_34 C h dX12_span_276 g45 (fun H locs h => ?_)
    refine lv_aload_n C.1 C.2.1 dX12_span_277 rfl (lv_at hl 2 rfl) ?_
    refine fg_106 C h dX12_span_278 ?_
    refine lv_iload_n C.1 C.2.1 dX12_span_281 rfl (lv_at hl 3 rfl) ?_
    refine lv_lload_n C.1 C.2.1 dX12_span_282 rfl (lv_at hl 5 rfl) ?_
    refine as_33 C h dX12_span_283 g45 (fun H locs h => ?_)
    cases hm
    exact q_vret C h hr hlk dX12_span_284
  have hm := ite_f c41 hm
  by_cases c46 : (el σ 70 x2) = 16
  · refine x_topi (congrArg Int32.ofInt c46) ?_
    have hm := ite_t c46 hm
    refine lv_tableIn (tgt := 252) C.1 C.2.1 dX12_span_24 (by decide) (by decide) rfl (by decide) ?_
    refine lv_aload_n C.1 C.2.1 dX12_span_252 rfl (lv_at hl 2 rfl) ?_
    refine fg_105 C h dX12_span_253 ?_
    refine lv_iload_n C.1 C.2.1 dX12_span_256 rfl (lv_at hl 3 rfl) ?_
    refine lv_lload_n C.1 C.2.1 dX12_span_257 rfl (lv_at hl 5 rfl) ?_
    refine lv_aload_n C.1 C.2.1 dX12_span_258 rfl (lv_at hl 2 rfl) ?_
    refine fg_58 C h dX12_span_259 ?_
    refine lv_aload_n C.1 C.2.1 dX12_span_262 rfl (lv_at hl 2 rfl) ?_
    refine fg_62 C h dX12_span_263 ?_
    refine lv_aload_n C.1 C.2.1 dX12_span_266 rfl (lv_at hl 2 rfl) ?_
    refine fg_54 C h dX12_span_267 ?_
    refine lv_iload_n C.1 C.2.1 dX12_span_270 rfl (lv_at hl 4 rfl) ?_
    refine al_65 C h dX12_span_271 g1 ?_
    obtain ⟨g47, hm⟩ := grd_s hm
    refine al_58 C h dX12_span_272 g47 ?_
    obtain ⟨g48, hm⟩ := grd_s hm
    refine al_61 C h dX12_span_273 g48 ?_
    obtain ⟨g49, hm⟩ := grd_s hm
    refine z_i2l C dX12_span_274 g49 ?_
    refine z_lsub C dX12_span_275 ?_
    obtain ⟨g50, hm⟩ := grd_s hm
    refine as_34 C h dX12_span_276 g50 (fun H locs h => ?_)
    refine lv_aload_n C.1 C.2.1 dX12_span_277 rfl (lv_at hl 2 rfl) ?_
    refine fg_106 C h dX12_span_278 ?_
    refine lv_iload_n C.1 C.2.1 dX12_span_281 rfl (lv_at hl 3 rfl) ?_
    refine lv_lload_n C.1 C.2.1 dX12_span_282 rfl (lv_at hl 5 rfl) ?_
    refine as_33 C h dX12_span_283 g50 (fun H locs h => ?_)
    cases hm
    exact q_vret C h hr hlk dX12_span_284
  have hm := ite_f c46 hm
  by_cases c51 : (el σ 70 x2) = 17
  · refine x_topi (congrArg Int32.ofInt c51) ?_
    have hm := ite_t c51 hm
    refine lv_tableIn (tgt := 218) C.1 C.2.1 dX12_span_24 (by decide) (by decide) rfl (by decide) ?_
    refine lv_aload_n C.1 C.2.1 dX12_span_218 rfl (lv_at hl 2 rfl) ?_
    refine fg_105 C h dX12_span_219 ?_
    refine lv_iload_n C.1 C.2.1 dX12_span_222 rfl (lv_at hl 3 rfl) ?_
    refine lv_lload_n C.1 C.2.1 dX12_span_223 rfl (lv_at hl 5 rfl) ?_
    obtain ⟨g52, hm⟩ := grd_s hm
    refine as_34 C h dX12_span_224 g52 (fun H locs h => ?_)
    refine lv_aload_n C.1 C.2.1 dX12_span_225 rfl (lv_at hl 2 rfl) ?_
    refine fg_106 C h dX12_span_226 ?_
    refine lv_iload_n C.1 C.2.1 dX12_span_229 rfl (lv_at hl 3 rfl) ?_
    refine lv_lload_n C.1 C.2.1 dX12_span_230 rfl (lv_at hl 5 rfl) ?_
    refine lv_lload C.1 C.2.1 dX12_span_231 (lv_at hl 1 rfl) ?_
    obtain ⟨r53, e54, hm⟩ := obd_s hm
    refine q_callSl C h (rc_mod l D k N x3 v3 r53 e54) (cwS 2 C.2.2.1 (gR_mod _) rfl rfl rfl hd_mod ⟨Nat.le_of_ble_eq_true rfl, Nat.le_of_ble_eq_true rfl⟩) rfl hl.1 rfl (Nat.le_of_ble_eq_true rfl) dX12_span_233 ⟨Nat.le_of_ble_eq_true rfl, Nat.le_of_ble_eq_true rfl⟩ (fun H locs h => ?_)
    refine lv_lconst (v := Int64.ofInt 0) C.1 C.2.1 dX12_span_236 (by decide) ?_
    obtain ⟨g55, hm⟩ := grd_s hm
    refine W.lcmp C.1 C.2.1 dX12_span_237 ?_
    refine z_lcmp_ne (tgt := 245) C dX12_span_238 (by decide) g55 (by decide) (fun c56 => ?_) (fun c56 => ?_)
    · have hm := ite_f c56 hm
      refine lv_lload_n C.1 C.2.1 dX12_span_245 rfl (lv_at hl 5 rfl) ?_
      refine lv_lconst (v := Int64.ofInt 1) C.1 C.2.1 dX12_span_246 (by decide) ?_
      refine z_ladd C dX12_span_247 ?_
      exact lm_span_248 (N := N) C hr hlk  (lv_sub hl [] rfl) h hm
    · have hm := ite_t c56 hm
      refine lv_lload_n C.1 C.2.1 dX12_span_241 rfl (lv_at hl 5 rfl) ?_
      refine lv_goto (tgt := 248) C.1 C.2.1 dX12_span_242 (by decide) ?_
      exact lm_span_248 (N := N) C hr hlk  (lv_sub hl [] rfl) h hm
  have hm := ite_f c51 hm
  refine lv_tableOut (tgt := 252) C.1 C.2.1 dX12_span_24 (by rw [c32_ti g8]; omega) (by decide) ?_
  refine lv_aload_n C.1 C.2.1 dX12_span_252 rfl (lv_at hl 2 rfl) ?_
  refine fg_105 C h dX12_span_253 ?_
  refine lv_iload_n C.1 C.2.1 dX12_span_256 rfl (lv_at hl 3 rfl) ?_
  refine lv_lload_n C.1 C.2.1 dX12_span_257 rfl (lv_at hl 5 rfl) ?_
  refine lv_aload_n C.1 C.2.1 dX12_span_258 rfl (lv_at hl 2 rfl) ?_
  refine fg_58 C h dX12_span_259 ?_
  refine lv_aload_n C.1 C.2.1 dX12_span_262 rfl (lv_at hl 2 rfl) ?_
  refine fg_62 C h dX12_span_263 ?_
  refine lv_aload_n C.1 C.2.1 dX12_span_266 rfl (lv_at hl 2 rfl) ?_
  refine fg_54 C h dX12_span_267 ?_
  refine lv_iload_n C.1 C.2.1 dX12_span_270 rfl (lv_at hl 4 rfl) ?_
  refine al_65 C h dX12_span_271 g1 ?_
  obtain ⟨g57, hm⟩ := grd_s hm
  refine al_58 C h dX12_span_272 g57 ?_
  obtain ⟨g58, hm⟩ := grd_s hm
  refine al_61 C h dX12_span_273 g58 ?_
  obtain ⟨g59, hm⟩ := grd_s hm
  refine z_i2l C dX12_span_274 g59 ?_
  refine z_lsub C dX12_span_275 ?_
  obtain ⟨g60, hm⟩ := grd_s hm
  refine as_34 C h dX12_span_276 g60 (fun H locs h => ?_)
  refine lv_aload_n C.1 C.2.1 dX12_span_277 rfl (lv_at hl 2 rfl) ?_
  refine fg_106 C h dX12_span_278 ?_
  refine lv_iload_n C.1 C.2.1 dX12_span_281 rfl (lv_at hl 3 rfl) ?_
  refine lv_lload_n C.1 C.2.1 dX12_span_282 rfl (lv_at hl 5 rfl) ?_
  refine as_33 C h dX12_span_283 g60 (fun H locs h => ?_)
  cases hm
  exact q_vret C h hr hlk dX12_span_284
end L_span
section L_rows
variable {p : Program} {l : Launch} {e : Env} {s : State} {m : MethodId} {args : Array Value} {below : List Frame} {meth : Method} {c : Code} {D : va_G} {A : Nat → Prop} {k : Nat → ClassId} {g : Nat → Nat} {N : Nat} {cd : Cond}
set_option maxHeartbeats 4000000 in
set_option maxRecDepth 100000 in
theorem lm_rows_145 {r : St × Int} (C : Cx p s m args c cX12_rows RX12 (cd :: rW) D (TYs k) 5) (hr : meth.sig.returnType = (some .boolean)) (hlk : meth.locks = false)  {ls : Array Slot} {H : Heap} {locs : List Loc} {σ : St} {x1 : Int} {x2 : Int} (hl : lv_has ls 5 [(0, .ref (g 0)), (1, .int (Int32.ofInt x1)), (2, .int (Int32.ofInt x2))]) (h : Hp D A s.heap H locs (mW k g σ)) (hm : r_rows_145 N  σ x1 x2 = some r) : W p l e { frames := 3, cells := 0, slots := 0, locals := 76 } s m args below meth c H locs 0 0 (MQ below (va_Qi (fun v (_ : Unit) => v = Int32.ofInt r.2) (fun _ t => PostW D (TYs k) A (mW k g r.1) t) A) args s 0 0 A) (F0 m 145 ls []) := by
  rw [r_rows_145] at hm
  refine lv_aload_n C.1 C.2.1 dX12_rows_145 rfl (lv_at hl 0 rfl) ?_
  refine fg_105 C h dX12_rows_146 ?_
  refine lv_iload_n C.1 C.2.1 dX12_rows_149 rfl (lv_at hl 1 rfl) ?_
  obtain ⟨g30, hm⟩ := grd_s hm
  refine al_34 C h dX12_rows_150 g30 ?_
  refine lv_aload_n C.1 C.2.1 dX12_rows_151 rfl (lv_at hl 0 rfl) ?_
  refine fg_106 C h dX12_rows_152 ?_
  refine lv_iload_n C.1 C.2.1 dX12_rows_155 rfl (lv_at hl 1 rfl) ?_
  refine al_33 C h dX12_rows_156 g30 ?_
  obtain ⟨g31, hm⟩ := grd_s hm
  obtain ⟨g32, hm⟩ := grd_s hm
  refine W.lcmp C.1 C.2.1 dX12_rows_157 ?_
  refine z_lcmp_gt (tgt := 175) C dX12_rows_158 (by decide) g31 g32 (fun c33 => ?_) (fun c33 => ?_)
  · have hm := ite_t c33 hm
    refine lv_aload_n C.1 C.2.1 dX12_rows_175 rfl (lv_at hl 0 rfl) ?_
    refine fg_49 C h dX12_rows_176 ?_
    refine lv_iload_n C.1 C.2.1 dX12_rows_179 rfl (lv_at hl 2 rfl) ?_
    obtain ⟨g34, hm⟩ := grd_s hm
    refine al_70 C h dX12_rows_180 g34 ?_
    refine lv_bipush (v := Int32.ofInt 18) C.1 C.2.1 dX12_rows_181 (by decide) ?_
    obtain ⟨g35, hm⟩ := grd_s hm
    refine z_icmp_ne (tgt := 196) C dX12_rows_183 (by decide) g35 (by decide) (fun c36 => ?_) (fun c36 => ?_)
    · have hm := ite_f c36 hm
      refine lv_iconst (v := Int32.ofInt 0) C.1 C.2.1 dX12_rows_196 (by decide) ?_
      cases hm
      exact q_iret C h hr hlk dX12_rows_197 rfl
    · have hm := ite_t c36 hm
      refine lv_aload_n C.1 C.2.1 dX12_rows_186 rfl (lv_at hl 0 rfl) ?_
      refine lv_aload_n C.1 C.2.1 dX12_rows_187 rfl (lv_at hl 0 rfl) ?_
      refine fg_100 C h dX12_rows_188 ?_
      refine lv_iload_n C.1 C.2.1 dX12_rows_191 rfl (lv_at hl 1 rfl) ?_
      refine al_39 C h dX12_rows_192 g30 ?_
      obtain ⟨r37, e38, hm⟩ := obd_s hm
      refine q_callVv C h (rc_sort l D k g N σ (el σ 39 x1) r37 e38) (cwV 1 C.2.2.1 (gR_sort _) rfl rfl rfl hd_sort ⟨Nat.le_of_ble_eq_true rfl, Nat.le_of_ble_eq_true rfl⟩) rfl hl.1 rfl (Nat.le_of_ble_eq_true rfl) dX12_rows_193 ⟨Nat.le_of_ble_eq_true rfl, Nat.le_of_ble_eq_true rfl⟩ (fun H locs h => ?_)
      refine lv_iconst (v := Int32.ofInt 0) C.1 C.2.1 dX12_rows_196 (by decide) ?_
      cases hm
      exact q_iret C h hr hlk dX12_rows_197 rfl
  · have hm := ite_f c33 hm
    refine lv_aload_n C.1 C.2.1 dX12_rows_161 rfl (lv_at hl 0 rfl) ?_
    refine lv_iload_n C.1 C.2.1 dX12_rows_162 rfl (lv_at hl 1 rfl) ?_
    refine lv_iconst (v := Int32.ofInt 0) C.1 C.2.1 dX12_rows_163 (by decide) ?_
    refine lv_aload_n C.1 C.2.1 dX12_rows_164 rfl (lv_at hl 0 rfl) ?_
    refine fg_105 C h dX12_rows_165 ?_
    refine lv_iload_n C.1 C.2.1 dX12_rows_168 rfl (lv_at hl 1 rfl) ?_
    refine al_34 C h dX12_rows_169 g30 ?_
    obtain ⟨r39, e40, hm⟩ := obd_s hm
    refine q_callVv C h (rc_callKid l D k g N σ x1 0 (el σ 34 x1) r39 e40) (cwV 3 C.2.2.1 (gR_callKid _) rfl rfl rfl hd_callKid ⟨Nat.le_of_ble_eq_true rfl, Nat.le_of_ble_eq_true rfl⟩) rfl hl.1 rfl (Nat.le_of_ble_eq_true rfl) dX12_rows_170 ⟨Nat.le_of_ble_eq_true rfl, Nat.le_of_ble_eq_true rfl⟩ (fun H locs h => ?_)
    refine lv_iconst (v := Int32.ofInt 1) C.1 C.2.1 dX12_rows_173 (by decide) ?_
    cases hm
    exact q_iret C h hr hlk dX12_rows_174 rfl
set_option maxHeartbeats 4000000 in
set_option maxRecDepth 100000 in
theorem lm_rows_105 {r : St × Int} (C : Cx p s m args c cX12_rows RX12 (cd :: rW) D (TYs k) 5) (hr : meth.sig.returnType = (some .boolean)) (hlk : meth.locks = false)  {ls : Array Slot} {H : Heap} {locs : List Loc} {σ : St} {x1 : Int} {x2 : Int} {x3 : Int} (hl : lv_has ls 5 [(0, .ref (g 0)), (1, .int (Int32.ofInt x1)), (2, .int (Int32.ofInt x2)), (3, .long (Int64.ofInt x3))]) (h : Hp D A s.heap H locs (mW k g σ)) (hm : r_rows_105 N  σ x1 x2 x3 = some r) : W p l e { frames := 3, cells := 0, slots := 0, locals := 76 } s m args below meth c H locs 0 0 (MQ below (va_Qi (fun v (_ : Unit) => v = Int32.ofInt r.2) (fun _ t => PostW D (TYs k) A (mW k g r.1) t) A) args s 0 0 A) (F0 m 105 ls []) := by
  rw [r_rows_105] at hm
  refine lv_aload_n C.1 C.2.1 dX12_rows_105 rfl (lv_at hl 0 rfl) ?_
  refine lv_aload_n C.1 C.2.1 dX12_rows_106 rfl (lv_at hl 0 rfl) ?_
  refine fg_101 C h dX12_rows_107 ?_
  refine lv_iload_n C.1 C.2.1 dX12_rows_110 rfl (lv_at hl 1 rfl) ?_
  obtain ⟨g25, hm⟩ := grd_s hm
  refine al_38 C h dX12_rows_111 g25 ?_
  refine lv_lload_n C.1 C.2.1 dX12_rows_112 rfl (lv_at hl 3 rfl) ?_
  refine lv_aload_n C.1 C.2.1 dX12_rows_113 rfl (lv_at hl 0 rfl) ?_
  refine fg_56 C h dX12_rows_114 ?_
  refine lv_iload_n C.1 C.2.1 dX12_rows_117 rfl (lv_at hl 2 rfl) ?_
  obtain ⟨g26, hm⟩ := grd_s hm
  refine al_63 C h dX12_rows_118 g26 ?_
  obtain ⟨g27, hm⟩ := grd_s hm
  refine z_i2l C dX12_rows_119 g27 ?_
  refine z_lmul C dX12_rows_120 ?_
  refine lv_lload_n C.1 C.2.1 dX12_rows_121 rfl (lv_at hl 3 rfl) ?_
  refine lv_lconst (v := Int64.ofInt 1) C.1 C.2.1 dX12_rows_122 (by decide) ?_
  refine z_ladd C dX12_rows_123 ?_
  refine lv_aload_n C.1 C.2.1 dX12_rows_124 rfl (lv_at hl 0 rfl) ?_
  refine fg_56 C h dX12_rows_125 ?_
  refine lv_iload_n C.1 C.2.1 dX12_rows_128 rfl (lv_at hl 2 rfl) ?_
  refine al_63 C h dX12_rows_129 g26 ?_
  refine z_i2l C dX12_rows_130 g27 ?_
  refine z_lmul C dX12_rows_131 ?_
  obtain ⟨r28, e29, hm⟩ := obd_s hm
  refine q_callVv C h (rc_clip l D k g N σ (el σ 38 x1) (x3 * (el σ 63 x2)) ((x3 + 1) * (el σ 63 x2)) r28 e29) (cwV 3 C.2.2.1 (gR_clip _) rfl rfl rfl hd_clip ⟨Nat.le_of_ble_eq_true rfl, Nat.le_of_ble_eq_true rfl⟩) rfl hl.1 rfl (Nat.le_of_ble_eq_true rfl) dX12_rows_132 ⟨Nat.le_of_ble_eq_true rfl, Nat.le_of_ble_eq_true rfl⟩ (fun H locs h => ?_)
  refine lv_aload_n C.1 C.2.1 dX12_rows_135 rfl (lv_at hl 0 rfl) ?_
  refine fg_105 C h dX12_rows_136 ?_
  refine lv_iload_n C.1 C.2.1 dX12_rows_139 rfl (lv_at hl 1 rfl) ?_
  refine lv_dup2_11 C.1 C.2.1 dX12_rows_140 rfl rfl ?_
  refine al_34 C h dX12_rows_141 g25 ?_
  refine lv_lconst (v := Int64.ofInt 1) C.1 C.2.1 dX12_rows_142 (by decide) ?_
  refine z_ladd C dX12_rows_143 ?_
  refine as_34 C h dX12_rows_144 g25 (fun H locs h => ?_)
  exact lm_rows_145 (N := N) C hr hlk  (lv_sub hl [0, 1, 2] rfl) h hm
set_option maxHeartbeats 4000000 in
set_option maxRecDepth 100000 in
theorem rc_rows (l : Launch) (D : va_G) (k : Nat → ClassId) (g : Nat → Nat) (N : Nat) (σ : St) (x1 : Int) (x2 : Int) (x3 : Int) (r : St × Int) (hm : r_rows N σ x1 x2 x3 = some r) : Mi l yX12_rows (.code yX12_rows cX12_rows 5 (some .boolean) :: rW) { frames := 3, cells := 0, slots := 0, locals := 76 } [.ref (g 0), .int (Int32.ofInt x1), .int (Int32.ofInt x2), .long (Int64.ofInt x3)] D (TYs k) (mW k g σ) (fun _ => True) Unit (fun v _ => v = Int32.ofInt r.2) (fun _ => mW k g r.1) 0 0 := by
  intro sz
  refine x_met (cc := cX12_rows) (maxL := 5) (ret := (some .boolean)) (by decide) rfl (Nat.le_of_ble_eq_true rfl) ?_
  intro p e s m below meth c ls C hX hsz hr hlk hmn hl h
  have hl : lv_has ls 5 [(0, .ref (g 0)), (1, .int (Int32.ofInt x1)), (2, .int (Int32.ofInt x2)), (3, .long (Int64.ofInt x3))] := hl
  rw [r_rows] at hm
  refine lv_aload_n C.1 C.2.1 dX12_rows_0 rfl (lv_at hl 0 rfl) ?_
  refine fg_99 C h dX12_rows_1 ?_
  refine lv_iload_n C.1 C.2.1 dX12_rows_4 rfl (lv_at hl 1 rfl) ?_
  obtain ⟨g1, hm⟩ := grd_s hm
  refine al_40 C h dX12_rows_5 g1 ?_
  obtain ⟨g2, hm⟩ := grd_s hm
  refine z_if_ne (tgt := 19) C dX12_rows_6 (by decide) g2 (fun c3 => ?_) (fun c3 => ?_)
  · have hm := ite_f c3 hm
    refine lv_aload_n C.1 C.2.1 dX12_rows_19 rfl (lv_at hl 0 rfl) ?_
    refine fg_49 C h dX12_rows_20 ?_
    refine lv_iload_n C.1 C.2.1 dX12_rows_23 rfl (lv_at hl 2 rfl) ?_
    obtain ⟨g4, hm⟩ := grd_s hm
    refine al_70 C h dX12_rows_24 g4 ?_
    refine lv_bipush (v := Int32.ofInt 18) C.1 C.2.1 dX12_rows_25 (by decide) ?_
    obtain ⟨g5, hm⟩ := grd_s hm
    refine z_icmp_ne (tgt := 44) C dX12_rows_27 (by decide) g5 (by decide) (fun c6 => ?_) (fun c6 => ?_)
    · have hm := ite_f c6 hm
      refine lv_aload_n C.1 C.2.1 dX12_rows_44 rfl (lv_at hl 0 rfl) ?_
      refine fg_49 C h dX12_rows_45 ?_
      refine lv_iload_n C.1 C.2.1 dX12_rows_48 rfl (lv_at hl 2 rfl) ?_
      refine al_70 C h dX12_rows_49 g4 ?_
      refine lv_bipush (v := Int32.ofInt 9) C.1 C.2.1 dX12_rows_50 (by decide) ?_
      refine z_icmp_ne (tgt := 76) C dX12_rows_52 (by decide) g5 (by decide) (fun c7 => ?_) (fun c7 => ?_)
      · have hm := ite_f c7 hm
        refine lv_aload_n C.1 C.2.1 dX12_rows_76 rfl (lv_at hl 0 rfl) ?_
        refine lv_aload_n C.1 C.2.1 dX12_rows_77 rfl (lv_at hl 0 rfl) ?_
        refine fg_101 C h dX12_rows_78 ?_
        refine lv_iload_n C.1 C.2.1 dX12_rows_81 rfl (lv_at hl 1 rfl) ?_
        refine al_38 C h dX12_rows_82 g1 ?_
        refine lv_aload_n C.1 C.2.1 dX12_rows_83 rfl (lv_at hl 0 rfl) ?_
        refine fg_56 C h dX12_rows_84 ?_
        refine lv_iload_n C.1 C.2.1 dX12_rows_87 rfl (lv_at hl 2 rfl) ?_
        refine al_63 C h dX12_rows_88 g4 ?_
        obtain ⟨g8, hm⟩ := grd_s hm
        refine z_i2l C dX12_rows_89 g8 ?_
        refine lv_aload_n C.1 C.2.1 dX12_rows_90 rfl (lv_at hl 0 rfl) ?_
        refine lv_iload_n C.1 C.2.1 dX12_rows_91 rfl (lv_at hl 1 rfl) ?_
        obtain ⟨r9, e10, hm⟩ := obd_s hm
        refine q_callVl C h (rc_grainOf l D k g N σ x1 r9 e10) (cwV 1 C.2.2.1 (gR_grainOf _) rfl rfl rfl hd_grainOf ⟨Nat.le_of_ble_eq_true rfl, Nat.le_of_ble_eq_true rfl⟩) rfl hl.1 rfl (Nat.le_of_ble_eq_true rfl) dX12_rows_92 ⟨Nat.le_of_ble_eq_true rfl, Nat.le_of_ble_eq_true rfl⟩ (fun H locs h => ?_)
        obtain ⟨g11, hm⟩ := grd_s hm
        obtain ⟨g12, hm⟩ := grd_s hm
        obtain ⟨g13, hm⟩ := grd_s hm
        refine z_ldiv C dX12_rows_95 g11 g12 g13 ?_
        refine lv_aload_n C.1 C.2.1 dX12_rows_96 rfl (lv_at hl 0 rfl) ?_
        refine lv_iload_n C.1 C.2.1 dX12_rows_97 rfl (lv_at hl 2 rfl) ?_
        refine lv_lload_n C.1 C.2.1 dX12_rows_98 rfl (lv_at hl 3 rfl) ?_
        obtain ⟨r14, e15, hm⟩ := obd_s hm
        refine q_callVl C h (rc_shift l D k g N r9.1 x2 x3 r14 e15) (cwV 2 C.2.2.1 (gR_shift _) rfl rfl rfl hd_shift ⟨Nat.le_of_ble_eq_true rfl, Nat.le_of_ble_eq_true rfl⟩) rfl hl.1 rfl (Nat.le_of_ble_eq_true rfl) dX12_rows_99 ⟨Nat.le_of_ble_eq_true rfl, Nat.le_of_ble_eq_true rfl⟩ (fun H locs h => ?_)
        obtain ⟨r16, e17, hm⟩ := obd_s hm
        refine q_callVv C h (rc_move l D k g N r14.1 (el σ 38 x1) (Int.tdiv (el σ 63 x2) r9.2) r14.2 r16 e17) (cwV 3 C.2.2.1 (gR_move _) rfl rfl rfl hd_move ⟨Nat.le_of_ble_eq_true rfl, Nat.le_of_ble_eq_true rfl⟩) rfl hl.1 rfl (Nat.le_of_ble_eq_true rfl) dX12_rows_102 ⟨Nat.le_of_ble_eq_true rfl, Nat.le_of_ble_eq_true rfl⟩ (fun H locs h => ?_)
        exact lm_rows_105 (N := N) C hr hlk  (lv_sub hl [0, 1, 2, 3] rfl) h hm
      · have hm := ite_t c7 hm
        refine lv_aload_n C.1 C.2.1 dX12_rows_55 rfl (lv_at hl 0 rfl) ?_
        refine lv_aload_n C.1 C.2.1 dX12_rows_56 rfl (lv_at hl 0 rfl) ?_
        refine fg_101 C h dX12_rows_57 ?_
        refine lv_iload_n C.1 C.2.1 dX12_rows_60 rfl (lv_at hl 1 rfl) ?_
        refine al_38 C h dX12_rows_61 g1 ?_
        refine lv_aload_n C.1 C.2.1 dX12_rows_62 rfl (lv_at hl 0 rfl) ?_
        refine fg_51 C h dX12_rows_63 ?_
        refine lv_iload_n C.1 C.2.1 dX12_rows_66 rfl (lv_at hl 2 rfl) ?_
        refine al_68 C h dX12_rows_67 g4 ?_
        obtain ⟨g18, hm⟩ := grd_s hm
        refine z_i2l C dX12_rows_68 g18 ?_
        refine lv_lconst (v := Int64.ofInt 0) C.1 C.2.1 dX12_rows_69 (by decide) ?_
        obtain ⟨r19, e20, hm⟩ := obd_s hm
        refine q_callVv C h (rc_move l D k g N σ (el σ 38 x1) (el σ 68 x2) 0 r19 e20) (cwV 3 C.2.2.1 (gR_move _) rfl rfl rfl hd_move ⟨Nat.le_of_ble_eq_true rfl, Nat.le_of_ble_eq_true rfl⟩) rfl hl.1 rfl (Nat.le_of_ble_eq_true rfl) dX12_rows_70 ⟨Nat.le_of_ble_eq_true rfl, Nat.le_of_ble_eq_true rfl⟩ (fun H locs h => ?_)
        refine lv_goto (tgt := 105) C.1 C.2.1 dX12_rows_73 (by decide) ?_
        exact lm_rows_105 (N := N) C hr hlk  (lv_sub hl [0, 1, 2, 3] rfl) h hm
    · have hm := ite_t c6 hm
      refine lv_aload_n C.1 C.2.1 dX12_rows_30 rfl (lv_at hl 0 rfl) ?_
      refine lv_iload_n C.1 C.2.1 dX12_rows_31 rfl (lv_at hl 1 rfl) ?_
      refine lv_aload_n C.1 C.2.1 dX12_rows_32 rfl (lv_at hl 0 rfl) ?_
      refine fg_50 C h dX12_rows_33 ?_
      refine lv_iload_n C.1 C.2.1 dX12_rows_36 rfl (lv_at hl 2 rfl) ?_
      refine al_69 C h dX12_rows_37 g4 ?_
      obtain ⟨r21, e22, hm⟩ := obd_s hm
      refine q_callVv C h (rc_ply l D k g N σ x1 (el σ 69 x2) r21 e22) (cwV 2 C.2.2.1 (gR_ply _) rfl rfl rfl hd_ply ⟨Nat.le_of_ble_eq_true rfl, Nat.le_of_ble_eq_true rfl⟩) rfl hl.1 rfl (Nat.le_of_ble_eq_true rfl) dX12_rows_38 ⟨Nat.le_of_ble_eq_true rfl, Nat.le_of_ble_eq_true rfl⟩ (fun H locs h => ?_)
      refine lv_goto (tgt := 105) C.1 C.2.1 dX12_rows_41 (by decide) ?_
      exact lm_rows_105 (N := N) C hr hlk  (lv_sub hl [0, 1, 2, 3] rfl) h hm
  · have hm := ite_t c3 hm
    refine lv_aload_n C.1 C.2.1 dX12_rows_9 rfl (lv_at hl 0 rfl) ?_
    refine lv_iload_n C.1 C.2.1 dX12_rows_10 rfl (lv_at hl 1 rfl) ?_
    refine lv_iload_n C.1 C.2.1 dX12_rows_11 rfl (lv_at hl 2 rfl) ?_
    refine lv_lload_n C.1 C.2.1 dX12_rows_12 rfl (lv_at hl 3 rfl) ?_
    obtain ⟨r23, e24, hm⟩ := obd_s hm
    refine q_callVv C h (rc_span l D k g N σ x1 x2 x3 r23 e24) (cwV 3 C.2.2.1 (gR_span _) rfl rfl rfl hd_span ⟨Nat.le_of_ble_eq_true rfl, Nat.le_of_ble_eq_true rfl⟩) rfl hl.1 rfl (Nat.le_of_ble_eq_true rfl) dX12_rows_13 ⟨Nat.le_of_ble_eq_true rfl, Nat.le_of_ble_eq_true rfl⟩ (fun H locs h => ?_)
    refine lv_goto (tgt := 145) C.1 C.2.1 dX12_rows_16 (by decide) ?_
    exact lm_rows_145 (N := N) C hr hlk  (lv_sub hl [0, 1, 2] rfl) h hm
end L_rows
section L_sequence
variable {p : Program} {l : Launch} {e : Env} {s : State} {m : MethodId} {args : Array Value} {below : List Frame} {meth : Method} {c : Code} {D : va_G} {A : Nat → Prop} {k : Nat → ClassId} {g : Nat → Nat} {N : Nat} {cd : Cond}
set_option maxHeartbeats 4000000 in
set_option maxRecDepth 100000 in
theorem lm_sequence_186 {r : St × Int} (C : Cx p s m args c cX12_sequence RX12 (cd :: rW) D (TYs k) 12) (hr : meth.sig.returnType = (some .boolean)) (hlk : meth.locks = false)  {ls : Array Slot} {H : Heap} {locs : List Loc} {σ : St} {x1 : Int} {x2 : Int} {x3 : Int} (hl : lv_has ls 12 [(0, .ref (g 0)), (1, .int (Int32.ofInt x1)), (2, .int (Int32.ofInt x2)), (3, .long (Int64.ofInt x3))]) (h : Hp D A s.heap H locs (mW k g σ)) (hm : r_sequence_186 N  σ x1 x2 x3 = some r) : W p l e { frames := 2, cells := 0, slots := 0, locals := 48 } s m args below meth c H locs 0 0 (MQ below (va_Qi (fun v (_ : Unit) => v = Int32.ofInt r.2) (fun _ t => PostW D (TYs k) A (mW k g r.1) t) A) args s 0 0 A) (F0 m 186 ls []) := by
  rw [r_sequence_186] at hm
  refine lv_aload_n C.1 C.2.1 dX12_sequence_186 rfl (lv_at hl 0 rfl) ?_
  refine fg_102 C h dX12_sequence_187 ?_
  refine lv_iload_n C.1 C.2.1 dX12_sequence_190 rfl (lv_at hl 1 rfl) ?_
  obtain ⟨g36, hm⟩ := grd_s hm
  refine al_37 C h dX12_sequence_191 g36 ?_
  refine lv_aload_n C.1 C.2.1 dX12_sequence_192 rfl (lv_at hl 0 rfl) ?_
  refine fg_55 C h dX12_sequence_193 ?_
  refine lv_iload_n C.1 C.2.1 dX12_sequence_196 rfl (lv_at hl 2 rfl) ?_
  obtain ⟨g37, hm⟩ := grd_s hm
  refine al_64 C h dX12_sequence_197 g37 ?_
  obtain ⟨g38, hm⟩ := grd_s hm
  obtain ⟨g39, hm⟩ := grd_s hm
  refine z_icmp_ne (tgt := 203) C dX12_sequence_198 (by decide) g38 g39 (fun c40 => ?_) (fun c40 => ?_)
  · have hm := ite_f c40 hm
    refine lv_aload_n C.1 C.2.1 dX12_sequence_203 rfl (lv_at hl 0 rfl) ?_
    refine lv_iload_n C.1 C.2.1 dX12_sequence_204 rfl (lv_at hl 1 rfl) ?_
    refine lv_aload_n C.1 C.2.1 dX12_sequence_205 rfl (lv_at hl 0 rfl) ?_
    refine fg_102 C h dX12_sequence_206 ?_
    refine lv_iload_n C.1 C.2.1 dX12_sequence_209 rfl (lv_at hl 1 rfl) ?_
    refine al_37 C h dX12_sequence_210 g36 ?_
    refine lv_lload_n C.1 C.2.1 dX12_sequence_211 rfl (lv_at hl 3 rfl) ?_
    obtain ⟨r41, e42, hm⟩ := obd_s hm
    refine q_callVv C h (rc_callKid l D k g N σ x1 (el σ 37 x1) x3 r41 e42) (cwV 3 C.2.2.1 (gR_callKid _) rfl rfl rfl hd_callKid ⟨Nat.le_of_ble_eq_true rfl, Nat.le_of_ble_eq_true rfl⟩) rfl hl.1 rfl (Nat.le_of_ble_eq_true rfl) dX12_sequence_212 ⟨Nat.le_of_ble_eq_true rfl, Nat.le_of_ble_eq_true rfl⟩ (fun H locs h => ?_)
    refine lv_iconst (v := Int32.ofInt 1) C.1 C.2.1 dX12_sequence_215 (by decide) ?_
    cases hm
    exact q_iret C h hr hlk dX12_sequence_216 rfl
  · have hm := ite_t c40 hm
    refine lv_iconst (v := Int32.ofInt 0) C.1 C.2.1 dX12_sequence_201 (by decide) ?_
    cases hm
    exact q_iret C h hr hlk dX12_sequence_202 rfl
set_option maxHeartbeats 4000000 in
set_option maxRecDepth 100000 in
theorem rc_sequence (l : Launch) (D : va_G) (k : Nat → ClassId) (g : Nat → Nat) (N : Nat) (σ : St) (x1 : Int) (x2 : Int) (x3 : Int) (r : St × Int) (hm : r_sequence N σ x1 x2 x3 = some r) : Mi l yX12_sequence (.code yX12_sequence cX12_sequence 12 (some .boolean) :: rW) { frames := 2, cells := 0, slots := 0, locals := 48 } [.ref (g 0), .int (Int32.ofInt x1), .int (Int32.ofInt x2), .long (Int64.ofInt x3)] D (TYs k) (mW k g σ) (fun _ => True) Unit (fun v _ => v = Int32.ofInt r.2) (fun _ => mW k g r.1) 0 0 := by
  intro sz
  refine x_met (cc := cX12_sequence) (maxL := 12) (ret := (some .boolean)) (by decide) rfl (Nat.le_of_ble_eq_true rfl) ?_
  intro p e s m below meth c ls C hX hsz hr hlk hmn hl h
  have hl : lv_has ls 12 [(0, .ref (g 0)), (1, .int (Int32.ofInt x1)), (2, .int (Int32.ofInt x2)), (3, .long (Int64.ofInt x3))] := hl
  rw [r_sequence] at hm
  refine lv_aload_n C.1 C.2.1 dX12_sequence_0 rfl (lv_at hl 0 rfl) ?_
  refine fg_56 C h dX12_sequence_1 ?_
  refine lv_iload_n C.1 C.2.1 dX12_sequence_4 rfl (lv_at hl 2 rfl) ?_
  obtain ⟨g1, hm⟩ := grd_s hm
  refine al_63 C h dX12_sequence_5 g1 ?_
  obtain ⟨g2, hm⟩ := grd_s hm
  refine z_i2l C dX12_sequence_6 g2 ?_
  obtain ⟨v3, e4, hm⟩ := bnd_s hm
  rw [e4]
  refine lv_lstore (lv' := [(5, .long (Int64.ofInt v3)), (0, .ref (g 0)), (1, .int (Int32.ofInt x1)), (2, .int (Int32.ofInt x2)), (3, .long (Int64.ofInt x3))]) C.1 C.2.1 dX12_sequence_7 hl (by decide) rfl (fun ls hl => ?_)
  refine lv_aload_n C.1 C.2.1 dX12_sequence_9 rfl (lv_at hl 1 rfl) ?_
  refine fg_99 C h dX12_sequence_10 ?_
  refine lv_iload_n C.1 C.2.1 dX12_sequence_13 rfl (lv_at hl 2 rfl) ?_
  obtain ⟨g5, hm⟩ := grd_s hm
  refine al_40 C h dX12_sequence_14 g5 ?_
  obtain ⟨g6, hm⟩ := grd_s hm
  refine z_if_ne (tgt := 32) C dX12_sequence_15 (by decide) g6 (fun c7 => ?_) (fun c7 => ?_)
  · have hm := ite_f c7 hm
    refine lv_lload C.1 C.2.1 dX12_sequence_32 (lv_at hl 0 rfl) ?_
    refine lv_aload_n C.1 C.2.1 dX12_sequence_34 rfl (lv_at hl 1 rfl) ?_
    refine fg_106 C h dX12_sequence_35 ?_
    refine lv_iload_n C.1 C.2.1 dX12_sequence_38 rfl (lv_at hl 2 rfl) ?_
    refine al_33 C h dX12_sequence_39 g5 ?_
    obtain ⟨g8, hm⟩ := grd_s hm
    obtain ⟨g9, hm⟩ := grd_s hm
    obtain ⟨g10, hm⟩ := grd_s hm
    refine z_ldiv C dX12_sequence_40 g8 g9 g10 ?_
    obtain ⟨v11, e12, hm⟩ := bnd_s hm
    rw [e12]
    refine lv_lstore (lv' := [(7, .long (Int64.ofInt v11)), (5, .long (Int64.ofInt v3)), (0, .ref (g 0)), (1, .int (Int32.ofInt x1)), (2, .int (Int32.ofInt x2)), (3, .long (Int64.ofInt x3))]) C.1 C.2.1 dX12_sequence_41 hl (by decide) rfl (fun ls hl => ?_)
    refine lv_aload_n C.1 C.2.1 dX12_sequence_43 rfl (lv_at hl 2 rfl) ?_
    refine fg_63 C h dX12_sequence_44 ?_
    refine lv_aload_n C.1 C.2.1 dX12_sequence_47 rfl (lv_at hl 2 rfl) ?_
    refine fg_54 C h dX12_sequence_48 ?_
    refine lv_iload_n C.1 C.2.1 dX12_sequence_51 rfl (lv_at hl 4 rfl) ?_
    refine al_65 C h dX12_sequence_52 g1 ?_
    refine lv_aload_n C.1 C.2.1 dX12_sequence_53 rfl (lv_at hl 2 rfl) ?_
    refine fg_102 C h dX12_sequence_54 ?_
    refine lv_iload_n C.1 C.2.1 dX12_sequence_57 rfl (lv_at hl 3 rfl) ?_
    refine al_37 C h dX12_sequence_58 g5 ?_
    refine z_iadd C dX12_sequence_59 ?_
    obtain ⟨g13, hm⟩ := grd_s hm
    refine al_57 C h dX12_sequence_60 g13 ?_
    refine lv_bipush (v := Int32.ofInt 32) C.1 C.2.1 dX12_sequence_61 (by decide) ?_
    obtain ⟨g14, hm⟩ := grd_s hm
    refine z_irem C dX12_sequence_63 g14 (by decide) (by decide) ?_
    obtain ⟨v15, e16, hm⟩ := bnd_s hm
    rw [e16]
    refine lv_istore (lv' := [(9, .int (Int32.ofInt v15)), (7, .long (Int64.ofInt v11)), (5, .long (Int64.ofInt v3)), (0, .ref (g 0)), (1, .int (Int32.ofInt x1)), (2, .int (Int32.ofInt x2)), (3, .long (Int64.ofInt x3))]) C.1 C.2.1 dX12_sequence_64 hl (by decide) rfl (fun ls hl => ?_)
    refine lv_iload C.1 C.2.1 dX12_sequence_66 (lv_at hl 0 rfl) ?_
    obtain ⟨g17, hm⟩ := grd_s hm
    refine z_i2l C dX12_sequence_68 g17 ?_
    refine lv_lload C.1 C.2.1 dX12_sequence_69 (lv_at hl 1 rfl) ?_
    refine lv_aload_n C.1 C.2.1 dX12_sequence_71 rfl (lv_at hl 3 rfl) ?_
    refine lv_iload_n C.1 C.2.1 dX12_sequence_72 rfl (lv_at hl 4 rfl) ?_
    obtain ⟨r18, e19, hm⟩ := obd_s hm
    refine q_callVl C h (rc_grainOf l D k g N σ x1 r18 e19) (cwV 1 C.2.2.1 (gR_grainOf _) rfl rfl rfl hd_grainOf ⟨Nat.le_of_ble_eq_true rfl, Nat.le_of_ble_eq_true rfl⟩) rfl hl.1 rfl (Nat.le_of_ble_eq_true rfl) dX12_sequence_73 ⟨Nat.le_of_ble_eq_true rfl, Nat.le_of_ble_eq_true rfl⟩ (fun H locs h => ?_)
    obtain ⟨g20, hm⟩ := grd_s hm
    obtain ⟨g21, hm⟩ := grd_s hm
    obtain ⟨g22, hm⟩ := grd_s hm
    refine z_ldiv C dX12_sequence_76 g20 g21 g22 ?_
    refine z_lmul C dX12_sequence_77 ?_
    obtain ⟨v23, e24, hm⟩ := bnd_s hm
    rw [e24]
    refine lv_lstore (lv' := [(10, .long (Int64.ofInt v23)), (9, .int (Int32.ofInt v15)), (7, .long (Int64.ofInt v11)), (5, .long (Int64.ofInt v3)), (0, .ref (g 0)), (1, .int (Int32.ofInt x1)), (2, .int (Int32.ofInt x2)), (3, .long (Int64.ofInt x3))]) C.1 C.2.1 dX12_sequence_78 hl (by decide) rfl (fun ls hl => ?_)
    refine lv_aload_n C.1 C.2.1 dX12_sequence_80 rfl (lv_at hl 4 rfl) ?_
    refine lv_aload_n C.1 C.2.1 dX12_sequence_81 rfl (lv_at hl 4 rfl) ?_
    refine fg_101 C h dX12_sequence_82 ?_
    refine lv_iload_n C.1 C.2.1 dX12_sequence_85 rfl (lv_at hl 5 rfl) ?_
    refine al_38 C h dX12_sequence_86 g5 ?_
    refine lv_lload C.1 C.2.1 dX12_sequence_87 (lv_at hl 0 rfl) ?_
    refine lv_lload_n C.1 C.2.1 dX12_sequence_89 rfl (lv_at hl 7 rfl) ?_
    refine lv_lload C.1 C.2.1 dX12_sequence_90 (lv_at hl 3 rfl) ?_
    refine z_lmul C dX12_sequence_92 ?_
    refine lv_aload_n C.1 C.2.1 dX12_sequence_93 rfl (lv_at hl 4 rfl) ?_
    refine fg_104 C h dX12_sequence_94 ?_
    refine lv_iload_n C.1 C.2.1 dX12_sequence_97 rfl (lv_at hl 5 rfl) ?_
    refine al_35 C h dX12_sequence_98 g5 ?_
    refine lv_lload C.1 C.2.1 dX12_sequence_99 (lv_at hl 2 rfl) ?_
    refine z_lmul C dX12_sequence_101 ?_
    refine z_ladd C dX12_sequence_102 ?_
    refine lv_lload_n C.1 C.2.1 dX12_sequence_103 rfl (lv_at hl 7 rfl) ?_
    refine lv_aload_n C.1 C.2.1 dX12_sequence_104 rfl (lv_at hl 4 rfl) ?_
    refine lv_iload_n C.1 C.2.1 dX12_sequence_105 rfl (lv_at hl 5 rfl) ?_
    obtain ⟨r25, e26, hm⟩ := obd_s hm
    refine q_callVl C h (rc_grainOf l D k g N r18.1 x1 r25 e26) (cwV 1 C.2.2.1 (gR_grainOf _) rfl rfl rfl hd_grainOf ⟨Nat.le_of_ble_eq_true rfl, Nat.le_of_ble_eq_true rfl⟩) rfl hl.1 rfl (Nat.le_of_ble_eq_true rfl) dX12_sequence_106 ⟨Nat.le_of_ble_eq_true rfl, Nat.le_of_ble_eq_true rfl⟩ (fun H locs h => ?_)
    refine z_lmul C dX12_sequence_109 ?_
    refine lv_lload C.1 C.2.1 dX12_sequence_110 (lv_at hl 0 rfl) ?_
    refine z_lmul C dX12_sequence_112 ?_
    refine z_lsub C dX12_sequence_113 ?_
    obtain ⟨r27, e28, hm⟩ := obd_s hm
    refine q_callVv C h (rc_move l D k g N r25.1 (el r18.1 38 x1) v23 (((x3 * v3) + ((el r18.1 35 x1) * v11)) - ((x3 * r25.2) * v23)) r27 e28) (cwV 3 C.2.2.1 (gR_move _) rfl rfl rfl hd_move ⟨Nat.le_of_ble_eq_true rfl, Nat.le_of_ble_eq_true rfl⟩) rfl hl.1 rfl (Nat.le_of_ble_eq_true rfl) dX12_sequence_114 ⟨Nat.le_of_ble_eq_true rfl, Nat.le_of_ble_eq_true rfl⟩ (fun H locs h => ?_)
    refine lv_aload_n C.1 C.2.1 dX12_sequence_117 rfl (lv_at hl 4 rfl) ?_
    refine fg_104 C h dX12_sequence_118 ?_
    refine lv_iload_n C.1 C.2.1 dX12_sequence_121 rfl (lv_at hl 5 rfl) ?_
    refine lv_dup2_11 C.1 C.2.1 dX12_sequence_122 rfl rfl ?_
    refine al_35 C h dX12_sequence_123 g5 ?_
    refine lv_iload C.1 C.2.1 dX12_sequence_124 (lv_at hl 1 rfl) ?_
    refine z_i2l C dX12_sequence_126 g17 ?_
    refine z_ladd C dX12_sequence_127 ?_
    refine as_35 C h dX12_sequence_128 g5 (fun H locs h => ?_)
    refine lv_aload_n C.1 C.2.1 dX12_sequence_129 rfl (lv_at hl 4 rfl) ?_
    refine fg_103 C h dX12_sequence_130 ?_
    refine lv_iload_n C.1 C.2.1 dX12_sequence_133 rfl (lv_at hl 5 rfl) ?_
    refine lv_dup2_11 C.1 C.2.1 dX12_sequence_134 rfl rfl ?_
    refine al_36 C h dX12_sequence_135 g5 ?_
    refine x_topi (y := Int32.ofInt (el r27 36 x1)) rfl ?_
    refine lv_iconst (v := Int32.ofInt 1) C.1 C.2.1 dX12_sequence_136 (by decide) ?_
    refine z_iadd C dX12_sequence_137 ?_
    refine as_36 C h dX12_sequence_138 g5 (fun H locs h => ?_)
    refine lv_aload_n C.1 C.2.1 dX12_sequence_139 rfl (lv_at hl 4 rfl) ?_
    refine fg_103 C h dX12_sequence_140 ?_
    refine lv_iload_n C.1 C.2.1 dX12_sequence_143 rfl (lv_at hl 5 rfl) ?_
    refine al_36 C h dX12_sequence_144 g5 ?_
    refine x_topi (y := Int32.ofInt ((el r27 36 x1) + 1)) (by simp [el, se, sf]) ?_
    refine lv_aload_n C.1 C.2.1 dX12_sequence_145 rfl (lv_at hl 4 rfl) ?_
    refine fg_63 C h dX12_sequence_146 ?_
    refine lv_aload_n C.1 C.2.1 dX12_sequence_149 rfl (lv_at hl 4 rfl) ?_
    refine fg_54 C h dX12_sequence_150 ?_
    refine lv_iload_n C.1 C.2.1 dX12_sequence_153 rfl (lv_at hl 6 rfl) ?_
    refine al_65 C h dX12_sequence_154 g1 ?_
    refine x_topi (y := Int32.ofInt (el r27 65 x2)) rfl ?_
    refine lv_aload_n C.1 C.2.1 dX12_sequence_155 rfl (lv_at hl 4 rfl) ?_
    refine fg_102 C h dX12_sequence_156 ?_
    refine lv_iload_n C.1 C.2.1 dX12_sequence_159 rfl (lv_at hl 5 rfl) ?_
    refine al_37 C h dX12_sequence_160 g5 ?_
    refine x_topi (y := Int32.ofInt (el r27 37 x1)) rfl ?_
    refine z_iadd C dX12_sequence_161 ?_
    obtain ⟨g29, hm⟩ := grd_s hm
    refine al_57 C h dX12_sequence_162 g29 ?_
    refine x_topi (y := Int32.ofInt (el r27 57 ((el r27 65 x2) + (el r27 37 x1)))) rfl ?_
    refine lv_bipush (v := Int32.ofInt 32) C.1 C.2.1 dX12_sequence_163 (by decide) ?_
    obtain ⟨g30, hm⟩ := grd_s hm
    refine z_idiv C dX12_sequence_165 g30 (by decide) (by decide) ?_
    obtain ⟨g31, hm⟩ := grd_s hm
    obtain ⟨g32, hm⟩ := grd_s hm
    refine z_icmp_ne (tgt := 186) C dX12_sequence_166 (by decide) g31 g32 (fun c33 => ?_) (fun c33 => ?_)
    · have hm := ite_f c33 hm
      exact lm_sequence_186 (N := N) C hr hlk  (lv_sub hl [4, 5, 6, 7] rfl) h hm
    · have hm := ite_t c33 hm
      refine lv_aload_n C.1 C.2.1 dX12_sequence_169 rfl (lv_at hl 4 rfl) ?_
      refine fg_103 C h dX12_sequence_170 ?_
      refine lv_iload_n C.1 C.2.1 dX12_sequence_173 rfl (lv_at hl 5 rfl) ?_
      refine lv_iconst (v := Int32.ofInt 0) C.1 C.2.1 dX12_sequence_174 (by decide) ?_
      refine as_36 C h dX12_sequence_175 g5 (fun H locs h => ?_)
      refine lv_aload_n C.1 C.2.1 dX12_sequence_176 rfl (lv_at hl 4 rfl) ?_
      refine fg_102 C h dX12_sequence_177 ?_
      refine lv_iload_n C.1 C.2.1 dX12_sequence_180 rfl (lv_at hl 5 rfl) ?_
      refine lv_dup2_11 C.1 C.2.1 dX12_sequence_181 rfl rfl ?_
      refine al_37 C h dX12_sequence_182 g5 ?_
      refine x_topi (y := Int32.ofInt (el r27 37 x1)) rfl ?_
      refine lv_iconst (v := Int32.ofInt 1) C.1 C.2.1 dX12_sequence_183 (by decide) ?_
      refine z_iadd C dX12_sequence_184 ?_
      refine as_37 C h dX12_sequence_185 g5 (fun H locs h => ?_)
      exact lm_sequence_186 (N := N) C hr hlk  (lv_sub hl [4, 5, 6, 7] rfl) h hm
  · have hm := ite_t c7 hm
    refine lv_aload_n C.1 C.2.1 dX12_sequence_18 rfl (lv_at hl 1 rfl) ?_
    refine fg_106 C h dX12_sequence_19 ?_
    refine lv_iload_n C.1 C.2.1 dX12_sequence_22 rfl (lv_at hl 2 rfl) ?_
    refine lv_aload_n C.1 C.2.1 dX12_sequence_23 rfl (lv_at hl 1 rfl) ?_
    refine lv_iload_n C.1 C.2.1 dX12_sequence_24 rfl (lv_at hl 3 rfl) ?_
    obtain ⟨r34, e35, hm⟩ := obd_s hm
    refine q_callVl C h (rc_weights l D k g N σ x2 r34 e35) (cwV 1 C.2.2.1 (gR_weights _) rfl rfl rfl hd_weights ⟨Nat.le_of_ble_eq_true rfl, Nat.le_of_ble_eq_true rfl⟩) rfl hl.1 rfl (Nat.le_of_ble_eq_true rfl) dX12_sequence_25 ⟨Nat.le_of_ble_eq_true rfl, Nat.le_of_ble_eq_true rfl⟩ (fun H locs h => ?_)
    refine as_33 C h dX12_sequence_28 g5 (fun H locs h => ?_)
    refine lv_goto (tgt := 186) C.1 C.2.1 dX12_sequence_29 (by decide) ?_
    exact lm_sequence_186 (N := N) C hr hlk  (lv_sub hl [1, 2, 3, 4] rfl) h hm
end L_sequence
section L_draw
variable {p : Program} {l : Launch} {e : Env} {s : State} {m : MethodId} {args : Array Value} {below : List Frame} {meth : Method} {c : Code} {D : va_G} {A : Nat → Prop} {k : Nat → ClassId} {g : Nat → Nat} {N : Nat} {cd : Cond}
set_option maxHeartbeats 4000000 in
set_option maxRecDepth 100000 in
theorem lm_draw_198 {r : St} (C : Cx p s m args c cX12_draw RX12 (cd :: rW) D (TYs k) 13) (hr : meth.sig.returnType = none) (hlk : meth.locks = false) {rec16 : St → Int → Int → Int → Int → Option St} (hrec16 : ∀ {ls : Array Slot} {H : Heap} {locs : List Loc} {σ : St} {x2 : Int} {x3 : Int} {x5 : Int} {x6 : Int}, lv_has ls 13 [(0, .ref (g 0)), (2, .int (Int32.ofInt x2)), (3, .long (Int64.ofInt x3)), (5, .int (Int32.ofInt x5)), (6, .int (Int32.ofInt x6))] → Hp D A s.heap H locs (mW k g σ) → rec16 σ x2 x3 x5 x6 = some r → W p l e { frames := 1, cells := 0, slots := 0, locals := 29 } s m args below meth c H locs 0 0 (MQ below (va_Qv (fun (_ : Unit) => True) (fun _ t => PostW D (TYs k) A (mW k g r) t) A) args s 0 0 A) (F0 m 16 ls [])) {ls : Array Slot} {H : Heap} {locs : List Loc} {σ : St} {x2 : Int} {x3 : Int} {x5 : Int} {x6 : Int} (hl : lv_has ls 13 [(0, .ref (g 0)), (2, .int (Int32.ofInt x2)), (3, .long (Int64.ofInt x3)), (5, .int (Int32.ofInt x5)), (6, .int (Int32.ofInt x6))]) (h : Hp D A s.heap H locs (mW k g σ)) (hm : r_draw_198 N rec16 σ x2 x3 x5 x6 = some r) : W p l e { frames := 1, cells := 0, slots := 0, locals := 29 } s m args below meth c H locs 0 0 (MQ below (va_Qv (fun (_ : Unit) => True) (fun _ t => PostW D (TYs k) A (mW k g r) t) A) args s 0 0 A) (F0 m 198 ls []) := by
  rw [r_draw_198] at hm
  refine lv_iinc (v := Int32.ofInt (x6 + 1)) (lv' := [(6, .int (Int32.ofInt (x6 + 1))), (0, .ref (g 0)), (2, .int (Int32.ofInt x2)), (3, .long (Int64.ofInt x3)), (5, .int (Int32.ofInt x5))]) C.1 C.2.1 dX12_draw_198 hl (k := 4) rfl (c32_add _ _) (by decide) rfl (fun ls hl => ?_)
  refine lv_goto (tgt := 16) C.1 C.2.1 dX12_draw_201 (by decide) ?_
  exact hrec16 (lv_sub hl [1, 2, 3, 4, 0] rfl) h hm
set_option maxHeartbeats 4000000 in
set_option maxRecDepth 100000 in
theorem lm_draw_181 {r : St} (C : Cx p s m args c cX12_draw RX12 (cd :: rW) D (TYs k) 13) (hr : meth.sig.returnType = none) (hlk : meth.locks = false) {rec16 : St → Int → Int → Int → Int → Option St} (hrec16 : ∀ {ls : Array Slot} {H : Heap} {locs : List Loc} {σ : St} {x2 : Int} {x3 : Int} {x5 : Int} {x6 : Int}, lv_has ls 13 [(0, .ref (g 0)), (2, .int (Int32.ofInt x2)), (3, .long (Int64.ofInt x3)), (5, .int (Int32.ofInt x5)), (6, .int (Int32.ofInt x6))] → Hp D A s.heap H locs (mW k g σ) → rec16 σ x2 x3 x5 x6 = some r → W p l e { frames := 1, cells := 0, slots := 0, locals := 29 } s m args below meth c H locs 0 0 (MQ below (va_Qv (fun (_ : Unit) => True) (fun _ t => PostW D (TYs k) A (mW k g r) t) A) args s 0 0 A) (F0 m 16 ls [])) {ls : Array Slot} {H : Heap} {locs : List Loc} {σ : St} {x2 : Int} {x3 : Int} {x5 : Int} {x6 : Int} {s0 : Int} {s1 : Int} (hl : lv_has ls 13 [(0, .ref (g 0)), (2, .int (Int32.ofInt x2)), (3, .long (Int64.ofInt x3)), (5, .int (Int32.ofInt x5)), (6, .int (Int32.ofInt x6))]) (h : Hp D A s.heap H locs (mW k g σ)) (hm : r_draw_181 N rec16 σ x2 x3 x5 x6 s0 s1 = some r) : W p l e { frames := 1, cells := 0, slots := 0, locals := 29 } s m args below meth c H locs 0 0 (MQ below (va_Qv (fun (_ : Unit) => True) (fun _ t => PostW D (TYs k) A (mW k g r) t) A) args s 0 0 A) (F0 m 181 ls [.int (Int32.ofInt s0), .int (Int32.ofInt s1)]) := by
  rw [r_draw_181] at hm
  obtain ⟨g35, hm⟩ := grd_s hm
  obtain ⟨g36, hm⟩ := grd_s hm
  refine z_icmp_eq (tgt := 187) C dX12_draw_181 (by decide) g35 g36 (fun c37 => ?_) (fun c37 => ?_)
  · have hm := ite_t c37 hm
    refine lv_aload_n C.1 C.2.1 dX12_draw_187 rfl (lv_at hl 0 rfl) ?_
    refine lv_iload C.1 C.2.1 dX12_draw_188 (lv_at hl 4 rfl) ?_
    refine lv_iload C.1 C.2.1 dX12_draw_190 (lv_at hl 3 rfl) ?_
    obtain ⟨r38, e39, hm⟩ := obd_s hm
    refine q_callVv C h (rc_copy l D k g N σ x6 x5 r38 e39) (cwV 2 C.2.2.1 (gR_copy _) rfl rfl rfl hd_copy ⟨Nat.le_of_ble_eq_true rfl, Nat.le_of_ble_eq_true rfl⟩) rfl hl.1 rfl (Nat.le_of_ble_eq_true rfl) dX12_draw_192 ⟨Nat.le_of_ble_eq_true rfl, Nat.le_of_ble_eq_true rfl⟩ (fun H locs h => ?_)
    refine lv_iinc (v := Int32.ofInt (x5 + 1)) (lv' := [(5, .int (Int32.ofInt (x5 + 1))), (0, .ref (g 0)), (2, .int (Int32.ofInt x2)), (3, .long (Int64.ofInt x3)), (6, .int (Int32.ofInt x6))]) C.1 C.2.1 dX12_draw_195 hl (k := 3) rfl (c32_add _ _) (by decide) rfl (fun ls hl => ?_)
    exact lm_draw_198 (N := N) C hr hlk hrec16 (lv_sub hl [1, 2, 3, 0, 4] rfl) h hm
  · have hm := ite_f c37 hm
    refine lv_goto (tgt := 198) C.1 C.2.1 dX12_draw_184 (by decide) ?_
    exact lm_draw_198 (N := N) C hr hlk hrec16 (lv_sub hl [0, 1, 2, 3, 4] rfl) h hm
set_option maxHeartbeats 4000000 in
set_option maxRecDepth 100000 in
theorem lm_draw_161 {r : St} (C : Cx p s m args c cX12_draw RX12 (cd :: rW) D (TYs k) 13) (hr : meth.sig.returnType = none) (hlk : meth.locks = false) {rec16 : St → Int → Int → Int → Int → Option St} (hrec16 : ∀ {ls : Array Slot} {H : Heap} {locs : List Loc} {σ : St} {x2 : Int} {x3 : Int} {x5 : Int} {x6 : Int}, lv_has ls 13 [(0, .ref (g 0)), (2, .int (Int32.ofInt x2)), (3, .long (Int64.ofInt x3)), (5, .int (Int32.ofInt x5)), (6, .int (Int32.ofInt x6))] → Hp D A s.heap H locs (mW k g σ) → rec16 σ x2 x3 x5 x6 = some r → W p l e { frames := 1, cells := 0, slots := 0, locals := 29 } s m args below meth c H locs 0 0 (MQ below (va_Qv (fun (_ : Unit) => True) (fun _ t => PostW D (TYs k) A (mW k g r) t) A) args s 0 0 A) (F0 m 16 ls [])) {ls : Array Slot} {H : Heap} {locs : List Loc} {σ : St} {x2 : Int} {x3 : Int} {x5 : Int} {x6 : Int} {s0 : Int} (hl : lv_has ls 13 [(0, .ref (g 0)), (2, .int (Int32.ofInt x2)), (3, .long (Int64.ofInt x3)), (5, .int (Int32.ofInt x5)), (6, .int (Int32.ofInt x6))]) (h : Hp D A s.heap H locs (mW k g σ)) (hm : r_draw_161 N rec16 σ x2 x3 x5 x6 s0 = some r) : W p l e { frames := 1, cells := 0, slots := 0, locals := 29 } s m args below meth c H locs 0 0 (MQ below (va_Qv (fun (_ : Unit) => True) (fun _ t => PostW D (TYs k) A (mW k g r) t) A) args s 0 0 A) (F0 m 161 ls [.int (Int32.ofInt s0)]) := by
  rw [r_draw_161] at hm
  refine lv_istore (lv' := [(12, .int (Int32.ofInt s0)), (0, .ref (g 0)), (2, .int (Int32.ofInt x2)), (3, .long (Int64.ofInt x3)), (5, .int (Int32.ofInt x5)), (6, .int (Int32.ofInt x6))]) C.1 C.2.1 dX12_draw_161 hl (by decide) rfl (fun ls hl => ?_)
  refine lv_iload C.1 C.2.1 dX12_draw_163 (lv_at hl 0 rfl) ?_
  refine lv_aload_n C.1 C.2.1 dX12_draw_165 rfl (lv_at hl 1 rfl) ?_
  refine fg_49 C h dX12_draw_166 ?_
  refine lv_iload_n C.1 C.2.1 dX12_draw_169 rfl (lv_at hl 2 rfl) ?_
  obtain ⟨g32, hm⟩ := grd_s hm
  refine al_70 C h dX12_draw_170 g32 ?_
  refine lv_bipush (v := Int32.ofInt 22) C.1 C.2.1 dX12_draw_171 (by decide) ?_
  obtain ⟨g33, hm⟩ := grd_s hm
  refine z_icmp_ne (tgt := 180) C dX12_draw_173 (by decide) g33 (by decide) (fun c34 => ?_) (fun c34 => ?_)
  · have hm := ite_f c34 hm
    refine lv_iconst (v := Int32.ofInt 0) C.1 C.2.1 dX12_draw_180 (by decide) ?_
    exact lm_draw_181 (N := N) C hr hlk hrec16 (lv_sub hl [1, 2, 3, 4, 5] rfl) h hm
  · have hm := ite_t c34 hm
    refine lv_iconst (v := Int32.ofInt 1) C.1 C.2.1 dX12_draw_176 (by decide) ?_
    refine lv_goto (tgt := 181) C.1 C.2.1 dX12_draw_177 (by decide) ?_
    exact lm_draw_181 (N := N) C hr hlk hrec16 (lv_sub hl [1, 2, 3, 4, 5] rfl) h hm
set_option maxHeartbeats 4000000 in
set_option maxRecDepth 100000 in
theorem lm_draw_16 {r : St} (C : Cx p s m args c cX12_draw RX12 (cd :: rW) D (TYs k) 13) (hr : meth.sig.returnType = none) (hlk : meth.locks = false)  (n : Nat) : ∀ {ls : Array Slot} {H : Heap} {locs : List Loc} {σ : St} {x2 : Int} {x3 : Int} {x5 : Int} {x6 : Int}, lv_has ls 13 [(0, .ref (g 0)), (2, .int (Int32.ofInt x2)), (3, .long (Int64.ofInt x3)), (5, .int (Int32.ofInt x5)), (6, .int (Int32.ofInt x6))] → Hp D A s.heap H locs (mW k g σ) → r_draw_16 N  n σ x2 x3 x5 x6 = some r → W p l e { frames := 1, cells := 0, slots := 0, locals := 29 } s m args below meth c H locs 0 0 (MQ below (va_Qv (fun (_ : Unit) => True) (fun _ t => PostW D (TYs k) A (mW k g r) t) A) args s 0 0 A) (F0 m 16 ls []) := by
  induction n with
  | zero => intro ls H locs σ x2 x3 x5 x6 hl h hm; cases (show none = some r from hm)
  | succ n hrec16 =>
    intro ls H locs σ x2 x3 x5 x6 hl h hm
    rw [r_draw_16] at hm
    refine lv_iload C.1 C.2.1 dX12_draw_16 (lv_at hl 4 rfl) ?_
    refine lv_aload_n C.1 C.2.1 dX12_draw_18 rfl (lv_at hl 0 rfl) ?_
    refine fg_84 C h dX12_draw_19 ?_
    obtain ⟨g6, hm⟩ := grd_s hm
    obtain ⟨g7, hm⟩ := grd_s hm
    refine z_icmp_ge (tgt := 204) C dX12_draw_22 (by decide) g6 g7 (fun c8 => ?_) (fun c8 => ?_)
    · have hm := ite_f c8 hm
      refine lv_aload_n C.1 C.2.1 dX12_draw_204 rfl (lv_at hl 0 rfl) ?_
      refine lv_iload C.1 C.2.1 dX12_draw_205 (lv_at hl 3 rfl) ?_
      refine fp_84 C h dX12_draw_207 (fun H locs h => ?_)
      cases hm
      exact q_vret C h hr hlk dX12_draw_210
    · have hm := ite_t c8 hm
      refine lv_aload_n C.1 C.2.1 dX12_draw_25 rfl (lv_at hl 0 rfl) ?_
      refine fg_85 C h dX12_draw_26 ?_
      refine lv_iload C.1 C.2.1 dX12_draw_29 (lv_at hl 4 rfl) ?_
      obtain ⟨g9, hm⟩ := grd_s hm
      refine al_52 C h dX12_draw_31 g9 ?_
      refine lv_lload_n C.1 C.2.1 dX12_draw_32 rfl (lv_at hl 2 rfl) ?_
      refine lv_aload_n C.1 C.2.1 dX12_draw_33 rfl (lv_at hl 0 rfl) ?_
      refine fg_56 C h dX12_draw_34 ?_
      refine lv_iload_n C.1 C.2.1 dX12_draw_37 rfl (lv_at hl 1 rfl) ?_
      obtain ⟨g10, hm⟩ := grd_s hm
      refine al_63 C h dX12_draw_38 g10 ?_
      obtain ⟨g11, hm⟩ := grd_s hm
      refine z_i2l C dX12_draw_39 g11 ?_
      refine z_lmul C dX12_draw_40 ?_
      refine z_lsub C dX12_draw_41 ?_
      obtain ⟨v12, e13, hm⟩ := bnd_s hm
      rw [e13]
      refine lv_lstore (lv' := [(7, .long (Int64.ofInt v12)), (0, .ref (g 0)), (2, .int (Int32.ofInt x2)), (3, .long (Int64.ofInt x3)), (5, .int (Int32.ofInt x5)), (6, .int (Int32.ofInt x6))]) C.1 C.2.1 dX12_draw_42 hl (by decide) rfl (fun ls hl => ?_)
      refine lv_lload C.1 C.2.1 dX12_draw_44 (lv_at hl 0 rfl) ?_
      refine lv_aload_n C.1 C.2.1 dX12_draw_46 rfl (lv_at hl 1 rfl) ?_
      refine fg_56 C h dX12_draw_47 ?_
      refine lv_iload_n C.1 C.2.1 dX12_draw_50 rfl (lv_at hl 2 rfl) ?_
      refine al_63 C h dX12_draw_51 g10 ?_
      refine z_i2l C dX12_draw_52 g11 ?_
      obtain ⟨r14, e15, hm⟩ := obd_s hm
      refine q_callSl C h (rc_commonOf l D k N v12 (el σ 63 x2) r14 e15) (cwS 2 C.2.2.1 (gR_commonOf _) rfl rfl rfl hd_commonOf ⟨Nat.le_of_ble_eq_true rfl, Nat.le_of_ble_eq_true rfl⟩) rfl hl.1 rfl (Nat.le_of_ble_eq_true rfl) dX12_draw_53 ⟨Nat.le_of_ble_eq_true rfl, Nat.le_of_ble_eq_true rfl⟩ (fun H locs h => ?_)
      refine lv_lstore (lv' := [(9, .long (Int64.ofInt r14)), (7, .long (Int64.ofInt v12)), (0, .ref (g 0)), (2, .int (Int32.ofInt x2)), (3, .long (Int64.ofInt x3)), (5, .int (Int32.ofInt x5)), (6, .int (Int32.ofInt x6))]) C.1 C.2.1 dX12_draw_56 hl (by decide) rfl (fun ls hl => ?_)
      refine lv_aload_n C.1 C.2.1 dX12_draw_58 rfl (lv_at hl 2 rfl) ?_
      refine fg_95 C h dX12_draw_59 ?_
      refine lv_sipush (v := Int32.ofInt 9973) C.1 C.2.1 dX12_draw_62 (by decide) ?_
      refine lv_lload_n C.1 C.2.1 dX12_draw_65 rfl (lv_at hl 4 rfl) ?_
      refine z_l2i C dX12_draw_66 ?_
      refine z_imul C dX12_draw_67 ?_
      refine z_iadd C dX12_draw_68 ?_
      refine lv_sipush (v := Int32.ofInt 7919) C.1 C.2.1 dX12_draw_69 (by decide) ?_
      refine lv_lload C.1 C.2.1 dX12_draw_72 (lv_at hl 1 rfl) ?_
      refine lv_lload C.1 C.2.1 dX12_draw_74 (lv_at hl 0 rfl) ?_
      obtain ⟨g16, hm⟩ := grd_s hm
      obtain ⟨g17, hm⟩ := grd_s hm
      obtain ⟨g18, hm⟩ := grd_s hm
      refine z_ldiv C dX12_draw_76 g16 g17 g18 ?_
      refine z_l2i C dX12_draw_77 ?_
      refine z_imul C dX12_draw_78 ?_
      refine z_iadd C dX12_draw_79 ?_
      refine lv_ldcw (v := 104729) C.1 C.2.1 C.2.2.2.1 (C.2.2.1 _ (List.mem_cons_of_mem _ wk_681)) dX12_draw_80 ?_
      refine x_topi (y := Int32.ofInt 104729) (by decide) ?_
      refine lv_aload_n C.1 C.2.1 dX12_draw_83 rfl (lv_at hl 2 rfl) ?_
      refine fg_56 C h dX12_draw_84 ?_
      refine lv_iload_n C.1 C.2.1 dX12_draw_87 rfl (lv_at hl 3 rfl) ?_
      refine al_63 C h dX12_draw_88 g10 ?_
      refine z_i2l C dX12_draw_89 g11 ?_
      refine lv_lload C.1 C.2.1 dX12_draw_90 (lv_at hl 0 rfl) ?_
      obtain ⟨g19, hm⟩ := grd_s hm
      refine z_ldiv C dX12_draw_92 g19 g17 g18 ?_
      refine z_l2i C dX12_draw_93 ?_
      refine z_imul C dX12_draw_94 ?_
      refine z_iadd C dX12_draw_95 ?_
      refine lv_ldcw (v := 1000003) C.1 C.2.1 C.2.2.2.1 (C.2.2.1 _ (List.mem_cons_of_mem _ wk_682)) dX12_draw_96 ?_
      refine x_topi (y := Int32.ofInt 1000003) (by decide) ?_
      refine lv_aload_n C.1 C.2.1 dX12_draw_99 rfl (lv_at hl 2 rfl) ?_
      refine fg_51 C h dX12_draw_100 ?_
      refine lv_iload_n C.1 C.2.1 dX12_draw_103 rfl (lv_at hl 3 rfl) ?_
      refine al_68 C h dX12_draw_104 g10 ?_
      refine z_imul C dX12_draw_105 ?_
      refine z_iadd C dX12_draw_106 ?_
      obtain ⟨v20, e21, hm⟩ := bnd_s hm
      rw [e21]
      refine lv_istore (lv' := [(11, .int (Int32.ofInt v20)), (9, .long (Int64.ofInt r14)), (7, .long (Int64.ofInt v12)), (0, .ref (g 0)), (2, .int (Int32.ofInt x2)), (3, .long (Int64.ofInt x3)), (5, .int (Int32.ofInt x5)), (6, .int (Int32.ofInt x6))]) C.1 C.2.1 dX12_draw_107 hl (by decide) rfl (fun ls hl => ?_)
      refine lv_iload C.1 C.2.1 dX12_draw_109 (lv_at hl 0 rfl) ?_
      refine lv_iload C.1 C.2.1 dX12_draw_111 (lv_at hl 0 rfl) ?_
      refine lv_bipush (v := Int32.ofInt 15) C.1 C.2.1 dX12_draw_113 (by decide) ?_
      refine z_iushr C dX12_draw_115 ?_
      refine z_ixor C dX12_draw_116 ?_
      obtain ⟨v22, e23, hm⟩ := bnd_s hm
      rw [e23]
      refine lv_istore (lv' := [(11, .int (Int32.ofInt v22)), (9, .long (Int64.ofInt r14)), (7, .long (Int64.ofInt v12)), (0, .ref (g 0)), (2, .int (Int32.ofInt x2)), (3, .long (Int64.ofInt x3)), (5, .int (Int32.ofInt x5)), (6, .int (Int32.ofInt x6))]) C.1 C.2.1 dX12_draw_117 hl (by decide) rfl (fun ls hl => ?_)
      refine lv_iload C.1 C.2.1 dX12_draw_119 (lv_at hl 0 rfl) ?_
      refine lv_ldcw (v := 668265263) C.1 C.2.1 C.2.2.2.1 (C.2.2.1 _ (List.mem_cons_of_mem _ wk_683)) dX12_draw_121 ?_
      refine x_topi (y := Int32.ofInt 668265263) (by decide) ?_
      refine z_imul C dX12_draw_124 ?_
      obtain ⟨v24, e25, hm⟩ := bnd_s hm
      rw [e25]
      refine lv_istore (lv' := [(11, .int (Int32.ofInt v24)), (9, .long (Int64.ofInt r14)), (7, .long (Int64.ofInt v12)), (0, .ref (g 0)), (2, .int (Int32.ofInt x2)), (3, .long (Int64.ofInt x3)), (5, .int (Int32.ofInt x5)), (6, .int (Int32.ofInt x6))]) C.1 C.2.1 dX12_draw_125 hl (by decide) rfl (fun ls hl => ?_)
      refine lv_iload C.1 C.2.1 dX12_draw_127 (lv_at hl 0 rfl) ?_
      refine lv_iload C.1 C.2.1 dX12_draw_129 (lv_at hl 0 rfl) ?_
      refine lv_bipush (v := Int32.ofInt 13) C.1 C.2.1 dX12_draw_131 (by decide) ?_
      refine z_iushr C dX12_draw_133 ?_
      refine z_ixor C dX12_draw_134 ?_
      obtain ⟨v26, e27, hm⟩ := bnd_s hm
      rw [e27]
      refine lv_istore (lv' := [(11, .int (Int32.ofInt v26)), (9, .long (Int64.ofInt r14)), (7, .long (Int64.ofInt v12)), (0, .ref (g 0)), (2, .int (Int32.ofInt x2)), (3, .long (Int64.ofInt x3)), (5, .int (Int32.ofInt x5)), (6, .int (Int32.ofInt x6))]) C.1 C.2.1 dX12_draw_135 hl (by decide) rfl (fun ls hl => ?_)
      refine lv_iload C.1 C.2.1 dX12_draw_137 (lv_at hl 0 rfl) ?_
      refine lv_ldcw (v := 1048575) C.1 C.2.1 C.2.2.2.1 (C.2.2.1 _ (List.mem_cons_of_mem _ wk_684)) dX12_draw_139 ?_
      refine x_topi (y := Int32.ofInt 1048575) (by decide) ?_
      refine z_iand C dX12_draw_142 ?_
      refine lv_sipush (v := Int32.ofInt 1000) C.1 C.2.1 dX12_draw_143 (by decide) ?_
      obtain ⟨g28, hm⟩ := grd_s hm
      refine z_irem C dX12_draw_146 g28 (by decide) (by decide) ?_
      refine lv_aload_n C.1 C.2.1 dX12_draw_147 rfl (lv_at hl 3 rfl) ?_
      refine fg_50 C h dX12_draw_148 ?_
      refine lv_iload_n C.1 C.2.1 dX12_draw_151 rfl (lv_at hl 4 rfl) ?_
      refine al_69 C h dX12_draw_152 g10 ?_
      obtain ⟨g29, hm⟩ := grd_s hm
      obtain ⟨g30, hm⟩ := grd_s hm
      refine z_icmp_ge (tgt := 160) C dX12_draw_153 (by decide) g29 g30 (fun c31 => ?_) (fun c31 => ?_)
      · have hm := ite_f c31 hm
        refine lv_iconst (v := Int32.ofInt 0) C.1 C.2.1 dX12_draw_160 (by decide) ?_
        exact lm_draw_161 (N := N) C hr hlk hrec16 (lv_sub hl [3, 4, 5, 6, 7] rfl) h hm
      · have hm := ite_t c31 hm
        refine lv_iconst (v := Int32.ofInt 1) C.1 C.2.1 dX12_draw_156 (by decide) ?_
        refine lv_goto (tgt := 161) C.1 C.2.1 dX12_draw_157 (by decide) ?_
        exact lm_draw_161 (N := N) C hr hlk hrec16 (lv_sub hl [3, 4, 5, 6, 7] rfl) h hm
set_option maxHeartbeats 4000000 in
set_option maxRecDepth 100000 in
theorem rc_draw (l : Launch) (D : va_G) (k : Nat → ClassId) (g : Nat → Nat) (N : Nat) (σ : St) (x1 : Int) (x2 : Int) (x3 : Int) (r : St) (hm : r_draw N σ x1 x2 x3 = some r) : Mv l yX12_draw (.code yX12_draw cX12_draw 13 none :: rW) { frames := 1, cells := 0, slots := 0, locals := 29 } [.ref (g 0), .int (Int32.ofInt x1), .int (Int32.ofInt x2), .long (Int64.ofInt x3)] D (TYs k) (mW k g σ) (fun _ => True) Unit (fun _ => True) (fun _ => mW k g r) 0 0 := by
  intro sz
  refine x_met (cc := cX12_draw) (maxL := 13) (ret := none) (by decide) rfl (Nat.le_of_ble_eq_true rfl) ?_
  intro p e s m below meth c ls C hX hsz hr hlk hmn hl h
  have hl : lv_has ls 13 [(0, .ref (g 0)), (1, .int (Int32.ofInt x1)), (2, .int (Int32.ofInt x2)), (3, .long (Int64.ofInt x3))] := hl
  rw [r_draw] at hm
  refine lv_aload_n C.1 C.2.1 dX12_draw_0 rfl (lv_at hl 0 rfl) ?_
  refine fg_101 C h dX12_draw_1 ?_
  refine lv_iload_n C.1 C.2.1 dX12_draw_4 rfl (lv_at hl 1 rfl) ?_
  obtain ⟨g1, hm⟩ := grd_s hm
  refine al_38 C h dX12_draw_5 g1 ?_
  obtain ⟨v2, e3, hm⟩ := bnd_s hm
  rw [e3]
  refine lv_istore (lv' := [(5, .int (Int32.ofInt v2)), (0, .ref (g 0)), (1, .int (Int32.ofInt x1)), (2, .int (Int32.ofInt x2)), (3, .long (Int64.ofInt x3))]) C.1 C.2.1 dX12_draw_6 hl (by decide) rfl (fun ls hl => ?_)
  refine lv_aload_n C.1 C.2.1 dX12_draw_8 rfl (lv_at hl 1 rfl) ?_
  refine fg_101 C h dX12_draw_9 ?_
  refine lv_iload_n C.1 C.2.1 dX12_draw_12 rfl (lv_at hl 2 rfl) ?_
  refine al_38 C h dX12_draw_13 g1 ?_
  obtain ⟨v4, e5, hm⟩ := bnd_s hm
  rw [e5]
  refine lv_istore (lv' := [(6, .int (Int32.ofInt v4)), (5, .int (Int32.ofInt v2)), (0, .ref (g 0)), (1, .int (Int32.ofInt x1)), (2, .int (Int32.ofInt x2)), (3, .long (Int64.ofInt x3))]) C.1 C.2.1 dX12_draw_14 hl (by decide) rfl (fun ls hl => ?_)
  exact lm_draw_16 (N := N) C hr hlk  N (lv_sub hl [2, 4, 5, 1, 0] rfl) h hm
end L_draw
section L_rotate
variable {p : Program} {l : Launch} {e : Env} {s : State} {m : MethodId} {args : Array Value} {below : List Frame} {meth : Method} {c : Code} {D : va_G} {A : Nat → Prop} {k : Nat → ClassId} {g : Nat → Nat} {N : Nat} {cd : Cond}
set_option maxHeartbeats 4000000 in
set_option maxRecDepth 100000 in
theorem lm_rotate_91 {r : St} (C : Cx p s m args c cX12_rotate RX12 (cd :: rW) D (TYs k) 6) (hr : meth.sig.returnType = none) (hlk : meth.locks = false)  (n : Nat) : ∀ {ls : Array Slot} {H : Heap} {locs : List Loc} {σ : St} {x1 : Int} {x3 : Int} {x4 : Int}, lv_has ls 6 [(0, .ref (g 0)), (1, .int (Int32.ofInt x1)), (3, .int (Int32.ofInt x3)), (4, .int (Int32.ofInt x4))] → Hp D A s.heap H locs (mW k g σ) → r_rotate_91 N  n σ x1 x3 x4 = some r → W p l e { frames := 0, cells := 0, slots := 0, locals := 0 } s m args below meth c H locs 0 0 (MQ below (va_Qv (fun (_ : Unit) => True) (fun _ t => PostW D (TYs k) A (mW k g r) t) A) args s 0 0 A) (F0 m 91 ls []) := by
  induction n with
  | zero => intro ls H locs σ x1 x3 x4 hl h hm; cases (show none = some r from hm)
  | succ n hrec91 =>
    intro ls H locs σ x1 x3 x4 hl h hm
    rw [r_rotate_91] at hm
    refine lv_iload C.1 C.2.1 dX12_rotate_91 (lv_at hl 3 rfl) ?_
    refine lv_iload_n C.1 C.2.1 dX12_rotate_93 rfl (lv_at hl 2 rfl) ?_
    obtain ⟨g12, hm⟩ := grd_s hm
    obtain ⟨g13, hm⟩ := grd_s hm
    refine z_icmp_ge (tgt := 167) C dX12_rotate_94 (by decide) g12 g13 (fun c14 => ?_) (fun c14 => ?_)
    · have hm := ite_f c14 hm
      cases hm
      exact q_vret C h hr hlk dX12_rotate_167
    · have hm := ite_t c14 hm
      refine lv_aload_n C.1 C.2.1 dX12_rotate_97 rfl (lv_at hl 0 rfl) ?_
      refine fg_87 C h dX12_rotate_98 ?_
      refine lv_iload_n C.1 C.2.1 dX12_rotate_101 rfl (lv_at hl 1 rfl) ?_
      refine lv_iload C.1 C.2.1 dX12_rotate_102 (lv_at hl 3 rfl) ?_
      refine z_iadd C dX12_rotate_104 ?_
      refine lv_aload_n C.1 C.2.1 dX12_rotate_105 rfl (lv_at hl 0 rfl) ?_
      refine fg_107 C h dX12_rotate_106 ?_
      refine lv_iload C.1 C.2.1 dX12_rotate_109 (lv_at hl 3 rfl) ?_
      obtain ⟨g15, hm⟩ := grd_s hm
      refine al_32 C h dX12_rotate_111 g15 ?_
      obtain ⟨g16, hm⟩ := grd_s hm
      refine as_50 C h dX12_rotate_112 g16 (fun H locs h => ?_)
      refine lv_aload_n C.1 C.2.1 dX12_rotate_113 rfl (lv_at hl 0 rfl) ?_
      refine fg_88 C h dX12_rotate_114 ?_
      refine lv_iload_n C.1 C.2.1 dX12_rotate_117 rfl (lv_at hl 1 rfl) ?_
      refine lv_iload C.1 C.2.1 dX12_rotate_118 (lv_at hl 3 rfl) ?_
      refine z_iadd C dX12_rotate_120 ?_
      refine lv_aload_n C.1 C.2.1 dX12_rotate_121 rfl (lv_at hl 0 rfl) ?_
      refine fg_108 C h dX12_rotate_122 ?_
      refine lv_iload C.1 C.2.1 dX12_rotate_125 (lv_at hl 3 rfl) ?_
      refine al_31 C h dX12_rotate_127 g15 ?_
      refine x_topi (y := Int32.ofInt (el σ 31 x4)) rfl ?_
      refine as_49 C h dX12_rotate_128 g16 (fun H locs h => ?_)
      refine lv_aload_n C.1 C.2.1 dX12_rotate_129 rfl (lv_at hl 0 rfl) ?_
      refine fg_89 C h dX12_rotate_130 ?_
      refine lv_iload_n C.1 C.2.1 dX12_rotate_133 rfl (lv_at hl 1 rfl) ?_
      refine lv_iload C.1 C.2.1 dX12_rotate_134 (lv_at hl 3 rfl) ?_
      refine z_iadd C dX12_rotate_136 ?_
      refine lv_aload_n C.1 C.2.1 dX12_rotate_137 rfl (lv_at hl 0 rfl) ?_
      refine fg_109 C h dX12_rotate_138 ?_
      refine lv_iload C.1 C.2.1 dX12_rotate_141 (lv_at hl 3 rfl) ?_
      refine al_30 C h dX12_rotate_143 g15 ?_
      refine x_topi (y := Int32.ofInt (el σ 30 x4)) rfl ?_
      refine as_48 C h dX12_rotate_144 g16 (fun H locs h => ?_)
      refine lv_aload_n C.1 C.2.1 dX12_rotate_145 rfl (lv_at hl 0 rfl) ?_
      refine fg_90 C h dX12_rotate_146 ?_
      refine lv_iload_n C.1 C.2.1 dX12_rotate_149 rfl (lv_at hl 1 rfl) ?_
      refine lv_iload C.1 C.2.1 dX12_rotate_150 (lv_at hl 3 rfl) ?_
      refine z_iadd C dX12_rotate_152 ?_
      refine lv_aload_n C.1 C.2.1 dX12_rotate_153 rfl (lv_at hl 0 rfl) ?_
      refine fg_110 C h dX12_rotate_154 ?_
      refine lv_iload C.1 C.2.1 dX12_rotate_157 (lv_at hl 3 rfl) ?_
      refine al_29 C h dX12_rotate_159 g15 ?_
      refine x_topi (y := Int32.ofInt (el σ 29 x4)) rfl ?_
      refine as_47 C h dX12_rotate_160 g16 (fun H locs h => ?_)
      refine lv_iinc (v := Int32.ofInt (x4 + 1)) (lv' := [(4, .int (Int32.ofInt (x4 + 1))), (0, .ref (g 0)), (1, .int (Int32.ofInt x1)), (3, .int (Int32.ofInt x3))]) C.1 C.2.1 dX12_rotate_161 hl (k := 3) rfl (c32_add _ _) (by decide) rfl (fun ls hl => ?_)
      refine lv_goto (tgt := 91) C.1 C.2.1 dX12_rotate_164 (by decide) ?_
      exact hrec91 (lv_sub hl [1, 2, 3, 0] rfl) h hm
set_option maxHeartbeats 4000000 in
set_option maxRecDepth 100000 in
theorem lm_rotate_10 {r : St} (C : Cx p s m args c cX12_rotate RX12 (cd :: rW) D (TYs k) 6) (hr : meth.sig.returnType = none) (hlk : meth.locks = false)  (n : Nat) : ∀ {ls : Array Slot} {H : Heap} {locs : List Loc} {σ : St} {x1 : Int} {x2 : Int} {x3 : Int} {x4 : Int}, lv_has ls 6 [(0, .ref (g 0)), (1, .int (Int32.ofInt x1)), (2, .int (Int32.ofInt x2)), (3, .int (Int32.ofInt x3)), (4, .int (Int32.ofInt x4))] → Hp D A s.heap H locs (mW k g σ) → r_rotate_10 N  n σ x1 x2 x3 x4 = some r → W p l e { frames := 0, cells := 0, slots := 0, locals := 0 } s m args below meth c H locs 0 0 (MQ below (va_Qv (fun (_ : Unit) => True) (fun _ t => PostW D (TYs k) A (mW k g r) t) A) args s 0 0 A) (F0 m 10 ls []) := by
  induction n with
  | zero => intro ls H locs σ x1 x2 x3 x4 hl h hm; cases (show none = some r from hm)
  | succ n hrec10 =>
    intro ls H locs σ x1 x2 x3 x4 hl h hm
    rw [r_rotate_10] at hm
    refine lv_iload C.1 C.2.1 dX12_rotate_10 (lv_at hl 4 rfl) ?_
    refine lv_iload_n C.1 C.2.1 dX12_rotate_12 rfl (lv_at hl 3 rfl) ?_
    obtain ⟨g3, hm⟩ := grd_s hm
    obtain ⟨g4, hm⟩ := grd_s hm
    refine z_icmp_ge (tgt := 88) C dX12_rotate_13 (by decide) g3 g4 (fun c5 => ?_) (fun c5 => ?_)
    · have hm := ite_f c5 hm
      refine lv_iconst (v := Int32.ofInt 0) C.1 C.2.1 dX12_rotate_88 (by decide) ?_
      refine lv_istore (lv' := [(4, .int (Int32.ofInt 0)), (0, .ref (g 0)), (1, .int (Int32.ofInt x1)), (2, .int (Int32.ofInt x2)), (3, .int (Int32.ofInt x3))]) C.1 C.2.1 dX12_rotate_89 hl (by decide) rfl (fun ls hl => ?_)
      exact lm_rotate_91 (N := N) C hr hlk  N (lv_sub hl [1, 2, 4, 0] rfl) h hm
    · have hm := ite_t c5 hm
      refine lv_iload_n C.1 C.2.1 dX12_rotate_16 rfl (lv_at hl 1 rfl) ?_
      refine lv_iload C.1 C.2.1 dX12_rotate_17 (lv_at hl 4 rfl) ?_
      refine lv_iload_n C.1 C.2.1 dX12_rotate_19 rfl (lv_at hl 2 rfl) ?_
      refine z_iadd C dX12_rotate_20 ?_
      refine lv_iload_n C.1 C.2.1 dX12_rotate_21 rfl (lv_at hl 3 rfl) ?_
      obtain ⟨g6, hm⟩ := grd_s hm
      obtain ⟨g7, hm⟩ := grd_s hm
      refine z_irem C dX12_rotate_22 g6 g4 g7 ?_
      refine z_iadd C dX12_rotate_23 ?_
      obtain ⟨v8, e9, hm⟩ := bnd_s hm
      rw [e9]
      refine lv_istore (lv' := [(5, .int (Int32.ofInt v8)), (0, .ref (g 0)), (1, .int (Int32.ofInt x1)), (2, .int (Int32.ofInt x2)), (3, .int (Int32.ofInt x3)), (4, .int (Int32.ofInt x4))]) C.1 C.2.1 dX12_rotate_24 hl (by decide) rfl (fun ls hl => ?_)
      refine lv_aload_n C.1 C.2.1 dX12_rotate_26 rfl (lv_at hl 1 rfl) ?_
      refine fg_107 C h dX12_rotate_27 ?_
      refine lv_iload C.1 C.2.1 dX12_rotate_30 (lv_at hl 5 rfl) ?_
      refine lv_aload_n C.1 C.2.1 dX12_rotate_32 rfl (lv_at hl 1 rfl) ?_
      refine fg_87 C h dX12_rotate_33 ?_
      refine lv_iload C.1 C.2.1 dX12_rotate_36 (lv_at hl 0 rfl) ?_
      obtain ⟨g10, hm⟩ := grd_s hm
      refine al_50 C h dX12_rotate_38 g10 ?_
      obtain ⟨g11, hm⟩ := grd_s hm
      refine as_32 C h dX12_rotate_39 g11 (fun H locs h => ?_)
      refine lv_aload_n C.1 C.2.1 dX12_rotate_40 rfl (lv_at hl 1 rfl) ?_
      refine fg_108 C h dX12_rotate_41 ?_
      refine lv_iload C.1 C.2.1 dX12_rotate_44 (lv_at hl 5 rfl) ?_
      refine lv_aload_n C.1 C.2.1 dX12_rotate_46 rfl (lv_at hl 1 rfl) ?_
      refine fg_88 C h dX12_rotate_47 ?_
      refine lv_iload C.1 C.2.1 dX12_rotate_50 (lv_at hl 0 rfl) ?_
      refine al_49 C h dX12_rotate_52 g10 ?_
      refine x_topi (y := Int32.ofInt (el σ 49 v8)) rfl ?_
      refine as_31 C h dX12_rotate_53 g11 (fun H locs h => ?_)
      refine lv_aload_n C.1 C.2.1 dX12_rotate_54 rfl (lv_at hl 1 rfl) ?_
      refine fg_109 C h dX12_rotate_55 ?_
      refine lv_iload C.1 C.2.1 dX12_rotate_58 (lv_at hl 5 rfl) ?_
      refine lv_aload_n C.1 C.2.1 dX12_rotate_60 rfl (lv_at hl 1 rfl) ?_
      refine fg_89 C h dX12_rotate_61 ?_
      refine lv_iload C.1 C.2.1 dX12_rotate_64 (lv_at hl 0 rfl) ?_
      refine al_48 C h dX12_rotate_66 g10 ?_
      refine x_topi (y := Int32.ofInt (el σ 48 v8)) rfl ?_
      refine as_30 C h dX12_rotate_67 g11 (fun H locs h => ?_)
      refine lv_aload_n C.1 C.2.1 dX12_rotate_68 rfl (lv_at hl 1 rfl) ?_
      refine fg_110 C h dX12_rotate_69 ?_
      refine lv_iload C.1 C.2.1 dX12_rotate_72 (lv_at hl 5 rfl) ?_
      refine lv_aload_n C.1 C.2.1 dX12_rotate_74 rfl (lv_at hl 1 rfl) ?_
      refine fg_90 C h dX12_rotate_75 ?_
      refine lv_iload C.1 C.2.1 dX12_rotate_78 (lv_at hl 0 rfl) ?_
      refine al_47 C h dX12_rotate_80 g10 ?_
      refine x_topi (y := Int32.ofInt (el σ 47 v8)) rfl ?_
      refine as_29 C h dX12_rotate_81 g11 (fun H locs h => ?_)
      refine lv_iinc (v := Int32.ofInt (x4 + 1)) (lv' := [(4, .int (Int32.ofInt (x4 + 1))), (5, .int (Int32.ofInt v8)), (0, .ref (g 0)), (1, .int (Int32.ofInt x1)), (2, .int (Int32.ofInt x2)), (3, .int (Int32.ofInt x3))]) C.1 C.2.1 dX12_rotate_82 hl (k := 5) rfl (c32_add _ _) (by decide) rfl (fun ls hl => ?_)
      refine lv_goto (tgt := 10) C.1 C.2.1 dX12_rotate_85 (by decide) ?_
      exact hrec10 (lv_sub hl [2, 3, 4, 5, 0] rfl) h hm
set_option maxHeartbeats 4000000 in
set_option maxRecDepth 100000 in
theorem rc_rotate (l : Launch) (D : va_G) (k : Nat → ClassId) (g : Nat → Nat) (N : Nat) (σ : St) (x1 : Int) (x2 : Int) (r : St) (hm : r_rotate N σ x1 x2 = some r) : Mv l yX12_rotate (.code yX12_rotate cX12_rotate 6 none :: rW) { frames := 0, cells := 0, slots := 0, locals := 0 } [.ref (g 0), .int (Int32.ofInt x1), .int (Int32.ofInt x2)] D (TYs k) (mW k g σ) (fun _ => True) Unit (fun _ => True) (fun _ => mW k g r) 0 0 := by
  intro sz
  refine x_met (cc := cX12_rotate) (maxL := 6) (ret := none) (by decide) rfl (Nat.le_of_ble_eq_true rfl) ?_
  intro p e s m below meth c ls C hX hsz hr hlk hmn hl h
  have hl : lv_has ls 6 [(0, .ref (g 0)), (1, .int (Int32.ofInt x1)), (2, .int (Int32.ofInt x2))] := hl
  rw [r_rotate] at hm
  refine lv_aload_n C.1 C.2.1 dX12_rotate_0 rfl (lv_at hl 0 rfl) ?_
  refine fg_84 C h dX12_rotate_1 ?_
  refine lv_iload_n C.1 C.2.1 dX12_rotate_4 rfl (lv_at hl 1 rfl) ?_
  refine z_isub C dX12_rotate_5 ?_
  obtain ⟨v1, e2, hm⟩ := bnd_s hm
  rw [e2]
  refine lv_istore_n (lv' := [(3, .int (Int32.ofInt v1)), (0, .ref (g 0)), (1, .int (Int32.ofInt x1)), (2, .int (Int32.ofInt x2))]) C.1 C.2.1 dX12_rotate_6 rfl hl (by decide) rfl (fun ls hl => ?_)
  refine lv_iconst (v := Int32.ofInt 0) C.1 C.2.1 dX12_rotate_7 (by decide) ?_
  refine lv_istore (lv' := [(4, .int (Int32.ofInt 0)), (3, .int (Int32.ofInt v1)), (0, .ref (g 0)), (1, .int (Int32.ofInt x1)), (2, .int (Int32.ofInt x2))]) C.1 C.2.1 dX12_rotate_8 hl (by decide) rfl (fun ls hl => ?_)
  exact lm_rotate_10 (N := N) C hr hlk  N (lv_sub hl [2, 3, 4, 1, 0] rfl) h hm
end L_rotate
