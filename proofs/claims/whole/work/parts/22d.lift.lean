section L_addKid
variable {p : Program} {l : Launch} {e : Env} {s : State} {m : MethodId} {args : Array Value} {below : List Frame} {meth : Method} {c : Code} {D : va_G} {A : Nat → Prop} {k : Nat → ClassId} {g : Nat → Nat} {N : Nat} {cd : Cond}
set_option maxHeartbeats 4000000 in
set_option maxRecDepth 100000 in
theorem rc_addKid (l : Launch) (D : va_G) (k : Nat → ClassId) (g : Nat → Nat) (N : Nat) (σ : St) (x1 : Int) (x2 : Int) (x3 : Int) (r : St) (hm : r_addKid N σ x1 x2 x3 = some r) : Mv l yX12_addKid (.code yX12_addKid cX12_addKid 4 none :: rW) { frames := 0, cells := 0, slots := 0, locals := 0 } [.ref (g 0), .int (Int32.ofInt x1), .int (Int32.ofInt x2), .int (Int32.ofInt x3)] D (TYs k) (mW k g σ) (fun _ => True) Unit (fun _ => True) (fun _ => mW k g r) 0 0 := by
  intro sz
  refine x_met (cc := cX12_addKid) (maxL := 4) (ret := none) (by decide) rfl (Nat.le_of_ble_eq_true rfl) ?_
  intro p e s m below meth c ls C hX hsz hr hlk hmn hl h
  have hl : lv_has ls 4 [(0, .ref (g 0)), (1, .int (Int32.ofInt x1)), (2, .int (Int32.ofInt x2)), (3, .int (Int32.ofInt x3))] := hl
  rw [r_addKid] at hm
  refine lv_aload_n C.1 C.2.1 dX12_addKid_0 rfl (lv_at hl 0 rfl) ?_
  refine fg_62 C h dX12_addKid_1 ?_
  refine lv_aload_n C.1 C.2.1 dX12_addKid_4 rfl (lv_at hl 0 rfl) ?_
  refine fg_61 C h dX12_addKid_5 ?_
  refine lv_iload_n C.1 C.2.1 dX12_addKid_8 rfl (lv_at hl 1 rfl) ?_
  obtain ⟨g1, hm⟩ := grd_s hm
  refine as_58 C h dX12_addKid_9 g1 (fun H locs h => ?_)
  refine lv_aload_n C.1 C.2.1 dX12_addKid_10 rfl (lv_at hl 0 rfl) ?_
  refine fg_63 C h dX12_addKid_11 ?_
  refine lv_aload_n C.1 C.2.1 dX12_addKid_14 rfl (lv_at hl 0 rfl) ?_
  refine fg_61 C h dX12_addKid_15 ?_
  refine x_topi (y := Int32.ofInt (fl σ 61 0)) rfl ?_
  refine lv_iload_n C.1 C.2.1 dX12_addKid_18 rfl (lv_at hl 2 rfl) ?_
  refine lv_bipush (v := Int32.ofInt 32) C.1 C.2.1 dX12_addKid_19 (by decide) ?_
  refine lv_iload_n C.1 C.2.1 dX12_addKid_21 rfl (lv_at hl 3 rfl) ?_
  refine z_imul C dX12_addKid_22 ?_
  refine z_iadd C dX12_addKid_23 ?_
  refine as_57 C h dX12_addKid_24 g1 (fun H locs h => ?_)
  refine lv_aload_n C.1 C.2.1 dX12_addKid_25 rfl (lv_at hl 0 rfl) ?_
  refine lv_dup C.1 C.2.1 dX12_addKid_26 rfl ?_
  refine fg_61 C h dX12_addKid_27 ?_
  refine x_topi (y := Int32.ofInt (fl σ 61 0)) rfl ?_
  refine lv_iconst (v := Int32.ofInt 1) C.1 C.2.1 dX12_addKid_30 (by decide) ?_
  refine z_iadd C dX12_addKid_31 ?_
  refine fp_61 C h dX12_addKid_32 (fun H locs h => ?_)
  refine lv_aload_n C.1 C.2.1 dX12_addKid_35 rfl (lv_at hl 0 rfl) ?_
  refine fg_55 C h dX12_addKid_36 ?_
  refine lv_aload_n C.1 C.2.1 dX12_addKid_39 rfl (lv_at hl 0 rfl) ?_
  refine fg_48 C h dX12_addKid_40 ?_
  refine x_topi (y := Int32.ofInt (fl σ 48 0)) rfl ?_
  refine lv_dup2_11 C.1 C.2.1 dX12_addKid_43 rfl rfl ?_
  obtain ⟨g2, hm⟩ := grd_s hm
  refine al_64 C h dX12_addKid_44 g2 ?_
  refine x_topi (y := Int32.ofInt (el σ 64 (fl σ 48 0))) rfl ?_
  refine lv_iconst (v := Int32.ofInt 1) C.1 C.2.1 dX12_addKid_45 (by decide) ?_
  refine z_iadd C dX12_addKid_46 ?_
  refine as_64 C h dX12_addKid_47 g2 (fun H locs h => ?_)
  cases hm
  exact q_vret C h hr hlk dX12_addKid_48
end L_addKid
section L_opens
variable {p : Program} {l : Launch} {e : Env} {s : State} {m : MethodId} {args : Array Value} {below : List Frame} {meth : Method} {c : Code} {D : va_G} {A : Nat → Prop} {k : Nat → ClassId} {g : Nat → Nat} {N : Nat} {cd : Cond}
set_option maxHeartbeats 4000000 in
set_option maxRecDepth 100000 in
theorem rc_opens (l : Launch) (D : va_G) (k : Nat → ClassId) (g : Nat → Nat) (N : Nat) (σ : St) (x1 : Int) (x2 : Int) (x3 : Int) (x4 : Int) (x5 : Int) (r : St) (hm : r_opens N σ x1 x2 x3 x4 x5 = some r) : Mv l yX12_opens (.code yX12_opens cX12_opens 7 none :: rW) { frames := 0, cells := 0, slots := 0, locals := 0 } [.ref (g 0), .int (Int32.ofInt x1), .int (Int32.ofInt x2), .int (Int32.ofInt x3), .int (Int32.ofInt x4), .int (Int32.ofInt x5)] D (TYs k) (mW k g σ) (fun _ => True) Unit (fun _ => True) (fun _ => mW k g r) 0 0 := by
  intro sz
  refine x_met (cc := cX12_opens) (maxL := 7) (ret := none) (by decide) rfl (Nat.le_of_ble_eq_true rfl) ?_
  intro p e s m below meth c ls C hX hsz hr hlk hmn hl h
  have hl : lv_has ls 7 [(0, .ref (g 0)), (1, .int (Int32.ofInt x1)), (2, .int (Int32.ofInt x2)), (3, .int (Int32.ofInt x3)), (4, .int (Int32.ofInt x4)), (5, .int (Int32.ofInt x5))] := hl
  rw [r_opens] at hm
  refine lv_aload_n C.1 C.2.1 dX12_opens_0 rfl (lv_at hl 0 rfl) ?_
  refine fg_48 C h dX12_opens_1 ?_
  refine lv_istore (lv' := [(6, .int (Int32.ofInt (fl σ 48 0))), (0, .ref (g 0)), (1, .int (Int32.ofInt x1)), (2, .int (Int32.ofInt x2)), (3, .int (Int32.ofInt x3)), (4, .int (Int32.ofInt x4)), (5, .int (Int32.ofInt x5))]) C.1 C.2.1 dX12_opens_4 hl (by decide) rfl (fun ls hl => ?_)
  refine lv_aload_n C.1 C.2.1 dX12_opens_6 rfl (lv_at hl 1 rfl) ?_
  refine fg_49 C h dX12_opens_7 ?_
  refine lv_iload C.1 C.2.1 dX12_opens_10 (lv_at hl 0 rfl) ?_
  refine lv_iload_n C.1 C.2.1 dX12_opens_12 rfl (lv_at hl 2 rfl) ?_
  obtain ⟨g1, hm⟩ := grd_s hm
  refine as_70 C h dX12_opens_13 g1 (fun H locs h => ?_)
  refine lv_aload_n C.1 C.2.1 dX12_opens_14 rfl (lv_at hl 1 rfl) ?_
  refine fg_50 C h dX12_opens_15 ?_
  refine lv_iload C.1 C.2.1 dX12_opens_18 (lv_at hl 0 rfl) ?_
  refine lv_iload_n C.1 C.2.1 dX12_opens_20 rfl (lv_at hl 3 rfl) ?_
  refine as_69 C h dX12_opens_21 g1 (fun H locs h => ?_)
  refine lv_aload_n C.1 C.2.1 dX12_opens_22 rfl (lv_at hl 1 rfl) ?_
  refine fg_51 C h dX12_opens_23 ?_
  refine lv_iload C.1 C.2.1 dX12_opens_26 (lv_at hl 0 rfl) ?_
  refine lv_iload_n C.1 C.2.1 dX12_opens_28 rfl (lv_at hl 4 rfl) ?_
  refine as_68 C h dX12_opens_29 g1 (fun H locs h => ?_)
  refine lv_aload_n C.1 C.2.1 dX12_opens_30 rfl (lv_at hl 1 rfl) ?_
  refine fg_52 C h dX12_opens_31 ?_
  refine lv_iload C.1 C.2.1 dX12_opens_34 (lv_at hl 0 rfl) ?_
  refine lv_iload C.1 C.2.1 dX12_opens_36 (lv_at hl 5 rfl) ?_
  refine as_67 C h dX12_opens_38 g1 (fun H locs h => ?_)
  refine lv_aload_n C.1 C.2.1 dX12_opens_39 rfl (lv_at hl 1 rfl) ?_
  refine fg_53 C h dX12_opens_40 ?_
  refine lv_iload C.1 C.2.1 dX12_opens_43 (lv_at hl 0 rfl) ?_
  refine lv_iload C.1 C.2.1 dX12_opens_45 (lv_at hl 6 rfl) ?_
  refine as_66 C h dX12_opens_47 g1 (fun H locs h => ?_)
  refine lv_aload_n C.1 C.2.1 dX12_opens_48 rfl (lv_at hl 1 rfl) ?_
  refine fg_54 C h dX12_opens_49 ?_
  refine lv_iload C.1 C.2.1 dX12_opens_52 (lv_at hl 0 rfl) ?_
  refine lv_aload_n C.1 C.2.1 dX12_opens_54 rfl (lv_at hl 1 rfl) ?_
  refine fg_61 C h dX12_opens_55 ?_
  refine x_topi (y := Int32.ofInt (fl σ 61 0)) rfl ?_
  refine as_65 C h dX12_opens_58 g1 (fun H locs h => ?_)
  refine lv_aload_n C.1 C.2.1 dX12_opens_59 rfl (lv_at hl 1 rfl) ?_
  refine fg_55 C h dX12_opens_60 ?_
  refine lv_iload C.1 C.2.1 dX12_opens_63 (lv_at hl 0 rfl) ?_
  refine lv_iconst (v := Int32.ofInt 0) C.1 C.2.1 dX12_opens_65 (by decide) ?_
  refine as_64 C h dX12_opens_66 g1 (fun H locs h => ?_)
  cases hm
  exact q_vret C h hr hlk dX12_opens_67
end L_opens
section L_bounds
variable {p : Program} {l : Launch} {e : Env} {s : State} {m : MethodId} {args : Array Value} {below : List Frame} {meth : Method} {c : Code} {D : va_G} {A : Nat → Prop} {k : Nat → ClassId} {g : Nat → Nat} {N : Nat} {cd : Cond}
set_option maxHeartbeats 4000000 in
set_option maxRecDepth 100000 in
theorem rc_bounds (l : Launch) (D : va_G) (k : Nat → ClassId) (g : Nat → Nat) (N : Nat) (σ : St) (x1 : Int) (x3 : Int) (x5 : Int) (x7 : Int) (r : St) (hm : r_bounds N σ x1 x3 x5 x7 = some r) : Mv l yX12_bounds (.code yX12_bounds cX12_bounds 9 none :: rW) { frames := 0, cells := 0, slots := 0, locals := 0 } [.ref (g 0), .long (Int64.ofInt x1), .long (Int64.ofInt x3), .long (Int64.ofInt x5), .long (Int64.ofInt x7)] D (TYs k) (mW k g σ) (fun _ => True) Unit (fun _ => True) (fun _ => mW k g r) 0 0 := by
  intro sz
  refine x_met (cc := cX12_bounds) (maxL := 9) (ret := none) (by decide) rfl (Nat.le_of_ble_eq_true rfl) ?_
  intro p e s m below meth c ls C hX hsz hr hlk hmn hl h
  have hl : lv_has ls 9 [(0, .ref (g 0)), (1, .long (Int64.ofInt x1)), (3, .long (Int64.ofInt x3)), (5, .long (Int64.ofInt x5)), (7, .long (Int64.ofInt x7))] := hl
  rw [r_bounds] at hm
  refine lv_aload_n C.1 C.2.1 dX12_bounds_0 rfl (lv_at hl 0 rfl) ?_
  refine lv_lload_n C.1 C.2.1 dX12_bounds_1 rfl (lv_at hl 1 rfl) ?_
  refine fp_80 C h dX12_bounds_2 (fun H locs h => ?_)
  refine lv_aload_n C.1 C.2.1 dX12_bounds_5 rfl (lv_at hl 0 rfl) ?_
  refine lv_lload_n C.1 C.2.1 dX12_bounds_6 rfl (lv_at hl 2 rfl) ?_
  refine fp_81 C h dX12_bounds_7 (fun H locs h => ?_)
  refine lv_aload_n C.1 C.2.1 dX12_bounds_10 rfl (lv_at hl 0 rfl) ?_
  refine lv_lload C.1 C.2.1 dX12_bounds_11 (lv_at hl 3 rfl) ?_
  refine fp_82 C h dX12_bounds_13 (fun H locs h => ?_)
  refine lv_aload_n C.1 C.2.1 dX12_bounds_16 rfl (lv_at hl 0 rfl) ?_
  refine lv_lload C.1 C.2.1 dX12_bounds_17 (lv_at hl 4 rfl) ?_
  refine fp_83 C h dX12_bounds_19 (fun H locs h => ?_)
  cases hm
  exact q_vret C h hr hlk dX12_bounds_22
end L_bounds
section L_ofTwo
variable {p : Program} {l : Launch} {e : Env} {s : State} {m : MethodId} {args : Array Value} {below : List Frame} {meth : Method} {c : Code} {D : va_G} {A : Nat → Prop} {k : Nat → ClassId} {g : Nat → Nat} {N : Nat} {cd : Cond}
set_option maxHeartbeats 4000000 in
set_option maxRecDepth 100000 in
theorem lm_ofTwo_60 {r : St} (C : Cx p s m args c cX12_ofTwo RX12 (cd :: rW) D (TYs k) 6) (hr : meth.sig.returnType = none) (hlk : meth.locks = false)  {ls : Array Slot} {H : Heap} {locs : List Loc} {σ : St} {x4 : Int} {s0 : Int} (hl : lv_has ls 6 [(0, .ref (g 0)), (4, .int (Int32.ofInt x4))]) (h : Hp D A s.heap H locs (mW k g σ)) (hm : r_ofTwo_60 N  σ x4 s0 = some r) : W p l e { frames := 1, cells := 0, slots := 0, locals := 28 } s m args below meth c H locs 0 0 (MQ below (va_Qv (fun (_ : Unit) => True) (fun _ t => PostW D (TYs k) A (mW k g r) t) A) args s 0 0 A) (F0 m 60 ls [.int (Int32.ofInt s0)]) := by
  rw [r_ofTwo_60] at hm
  refine lv_istore (lv' := [(5, .int (Int32.ofInt s0)), (0, .ref (g 0)), (4, .int (Int32.ofInt x4))]) C.1 C.2.1 dX12_ofTwo_60 hl (by decide) rfl (fun ls hl => ?_)
  refine lv_aload_n C.1 C.2.1 dX12_ofTwo_62 rfl (lv_at hl 1 rfl) ?_
  refine lv_aload_n C.1 C.2.1 dX12_ofTwo_63 rfl (lv_at hl 1 rfl) ?_
  refine fg_56 C h dX12_ofTwo_64 ?_
  refine lv_iload C.1 C.2.1 dX12_ofTwo_67 (lv_at hl 2 rfl) ?_
  obtain ⟨g13, hm⟩ := grd_s hm
  refine al_63 C h dX12_ofTwo_69 g13 ?_
  obtain ⟨g14, hm⟩ := grd_s hm
  refine z_i2l C dX12_ofTwo_70 g14 ?_
  refine lv_aload_n C.1 C.2.1 dX12_ofTwo_71 rfl (lv_at hl 1 rfl) ?_
  refine fg_57 C h dX12_ofTwo_72 ?_
  refine lv_iload C.1 C.2.1 dX12_ofTwo_75 (lv_at hl 2 rfl) ?_
  refine al_62 C h dX12_ofTwo_77 g13 ?_
  obtain ⟨g15, hm⟩ := grd_s hm
  refine z_i2l C dX12_ofTwo_78 g15 ?_
  refine lv_aload_n C.1 C.2.1 dX12_ofTwo_79 rfl (lv_at hl 1 rfl) ?_
  refine fg_58 C h dX12_ofTwo_80 ?_
  refine lv_iload C.1 C.2.1 dX12_ofTwo_83 (lv_at hl 2 rfl) ?_
  refine al_61 C h dX12_ofTwo_85 g13 ?_
  obtain ⟨g16, hm⟩ := grd_s hm
  refine z_i2l C dX12_ofTwo_86 g16 ?_
  refine lv_aload_n C.1 C.2.1 dX12_ofTwo_87 rfl (lv_at hl 1 rfl) ?_
  refine fg_59 C h dX12_ofTwo_88 ?_
  refine lv_iload C.1 C.2.1 dX12_ofTwo_91 (lv_at hl 2 rfl) ?_
  refine al_60 C h dX12_ofTwo_93 g13 ?_
  obtain ⟨g17, hm⟩ := grd_s hm
  refine z_i2l C dX12_ofTwo_94 g17 ?_
  refine lv_aload_n C.1 C.2.1 dX12_ofTwo_95 rfl (lv_at hl 1 rfl) ?_
  refine fg_57 C h dX12_ofTwo_96 ?_
  refine lv_iload C.1 C.2.1 dX12_ofTwo_99 (lv_at hl 2 rfl) ?_
  refine al_62 C h dX12_ofTwo_101 g13 ?_
  refine z_i2l C dX12_ofTwo_102 g15 ?_
  refine lv_aload_n C.1 C.2.1 dX12_ofTwo_103 rfl (lv_at hl 1 rfl) ?_
  refine fg_58 C h dX12_ofTwo_104 ?_
  refine lv_iload C.1 C.2.1 dX12_ofTwo_107 (lv_at hl 0 rfl) ?_
  obtain ⟨g18, hm⟩ := grd_s hm
  refine al_61 C h dX12_ofTwo_109 g18 ?_
  obtain ⟨g19, hm⟩ := grd_s hm
  refine z_i2l C dX12_ofTwo_110 g19 ?_
  refine lv_lconst (v := Int64.ofInt 1) C.1 C.2.1 dX12_ofTwo_111 (by decide) ?_
  refine z_ladd C dX12_ofTwo_112 ?_
  refine z_lmul C dX12_ofTwo_113 ?_
  refine lv_aload_n C.1 C.2.1 dX12_ofTwo_114 rfl (lv_at hl 1 rfl) ?_
  refine fg_59 C h dX12_ofTwo_115 ?_
  refine lv_iload C.1 C.2.1 dX12_ofTwo_118 (lv_at hl 0 rfl) ?_
  refine al_60 C h dX12_ofTwo_120 g18 ?_
  obtain ⟨g20, hm⟩ := grd_s hm
  refine z_i2l C dX12_ofTwo_121 g20 ?_
  refine z_lmul C dX12_ofTwo_122 ?_
  refine z_ladd C dX12_ofTwo_123 ?_
  refine lv_lconst (v := Int64.ofInt 1) C.1 C.2.1 dX12_ofTwo_124 (by decide) ?_
  refine z_ladd C dX12_ofTwo_125 ?_
  obtain ⟨r21, e22, hm⟩ := obd_s hm
  refine q_callVv C h (rc_bounds l D k g N σ (el σ 63 x4) (el σ 62 x4) (el σ 61 x4) (((el σ 60 x4) + (((el σ 62 x4) * ((el σ 61 s0) + 1)) * (el σ 60 s0))) + 1) r21 e22) (cwV 4 C.2.2.1 (gR_bounds _) rfl rfl rfl hd_bounds ⟨Nat.le_of_ble_eq_true rfl, Nat.le_of_ble_eq_true rfl⟩) rfl hl.1 rfl (Nat.le_of_ble_eq_true rfl) dX12_ofTwo_126 ⟨Nat.le_of_ble_eq_true rfl, Nat.le_of_ble_eq_true rfl⟩ (fun H locs h => ?_)
  cases hm
  exact q_vret C h hr hlk dX12_ofTwo_129
set_option maxHeartbeats 4000000 in
set_option maxRecDepth 100000 in
theorem lm_ofTwo_42 {r : St} (C : Cx p s m args c cX12_ofTwo RX12 (cd :: rW) D (TYs k) 6) (hr : meth.sig.returnType = none) (hlk : meth.locks = false)  {ls : Array Slot} {H : Heap} {locs : List Loc} {σ : St} {x1 : Int} {x2 : Int} {x3 : Int} {s0 : Int} (hl : lv_has ls 6 [(0, .ref (g 0)), (1, .int (Int32.ofInt x1)), (2, .int (Int32.ofInt x2)), (3, .int (Int32.ofInt x3))]) (h : Hp D A s.heap H locs (mW k g σ)) (hm : r_ofTwo_42 N  σ x1 x2 x3 s0 = some r) : W p l e { frames := 1, cells := 0, slots := 0, locals := 28 } s m args below meth c H locs 0 0 (MQ below (va_Qv (fun (_ : Unit) => True) (fun _ t => PostW D (TYs k) A (mW k g r) t) A) args s 0 0 A) (F0 m 42 ls [.int (Int32.ofInt s0)]) := by
  rw [r_ofTwo_42] at hm
  refine lv_istore (lv' := [(4, .int (Int32.ofInt s0)), (0, .ref (g 0)), (1, .int (Int32.ofInt x1)), (2, .int (Int32.ofInt x2)), (3, .int (Int32.ofInt x3))]) C.1 C.2.1 dX12_ofTwo_42 hl (by decide) rfl (fun ls hl => ?_)
  refine lv_aload_n C.1 C.2.1 dX12_ofTwo_44 rfl (lv_at hl 1 rfl) ?_
  refine fg_49 C h dX12_ofTwo_45 ?_
  refine lv_iload_n C.1 C.2.1 dX12_ofTwo_48 rfl (lv_at hl 2 rfl) ?_
  obtain ⟨g10, hm⟩ := grd_s hm
  refine al_70 C h dX12_ofTwo_49 g10 ?_
  refine lv_bipush (v := Int32.ofInt 24) C.1 C.2.1 dX12_ofTwo_50 (by decide) ?_
  obtain ⟨g11, hm⟩ := grd_s hm
  refine z_icmp_ne (tgt := 59) C dX12_ofTwo_52 (by decide) g11 (by decide) (fun c12 => ?_) (fun c12 => ?_)
  · have hm := ite_f c12 hm
    refine lv_iload_n C.1 C.2.1 dX12_ofTwo_59 rfl (lv_at hl 4 rfl) ?_
    exact lm_ofTwo_60 (N := N) C hr hlk  (lv_sub hl [1, 0] rfl) h hm
  · have hm := ite_t c12 hm
    refine lv_iload_n C.1 C.2.1 dX12_ofTwo_55 rfl (lv_at hl 3 rfl) ?_
    refine lv_goto (tgt := 60) C.1 C.2.1 dX12_ofTwo_56 (by decide) ?_
    exact lm_ofTwo_60 (N := N) C hr hlk  (lv_sub hl [1, 0] rfl) h hm
set_option maxHeartbeats 4000000 in
set_option maxRecDepth 100000 in
theorem rc_ofTwo (l : Launch) (D : va_G) (k : Nat → ClassId) (g : Nat → Nat) (N : Nat) (σ : St) (x1 : Int) (r : St) (hm : r_ofTwo N σ x1 = some r) : Mv l yX12_ofTwo (.code yX12_ofTwo cX12_ofTwo 6 none :: rW) { frames := 1, cells := 0, slots := 0, locals := 28 } [.ref (g 0), .int (Int32.ofInt x1)] D (TYs k) (mW k g σ) (fun _ => True) Unit (fun _ => True) (fun _ => mW k g r) 0 0 := by
  intro sz
  refine x_met (cc := cX12_ofTwo) (maxL := 6) (ret := none) (by decide) rfl (Nat.le_of_ble_eq_true rfl) ?_
  intro p e s m below meth c ls C hX hsz hr hlk hmn hl h
  have hl : lv_has ls 6 [(0, .ref (g 0)), (1, .int (Int32.ofInt x1))] := hl
  rw [r_ofTwo] at hm
  refine lv_aload_n C.1 C.2.1 dX12_ofTwo_0 rfl (lv_at hl 0 rfl) ?_
  refine fg_62 C h dX12_ofTwo_1 ?_
  refine lv_aload_n C.1 C.2.1 dX12_ofTwo_4 rfl (lv_at hl 0 rfl) ?_
  refine fg_54 C h dX12_ofTwo_5 ?_
  refine lv_iload_n C.1 C.2.1 dX12_ofTwo_8 rfl (lv_at hl 1 rfl) ?_
  obtain ⟨g1, hm⟩ := grd_s hm
  refine al_65 C h dX12_ofTwo_9 g1 ?_
  obtain ⟨g2, hm⟩ := grd_s hm
  refine al_58 C h dX12_ofTwo_10 g2 ?_
  obtain ⟨v3, e4, hm⟩ := bnd_s hm
  rw [e4]
  refine lv_istore_n (lv' := [(2, .int (Int32.ofInt v3)), (0, .ref (g 0)), (1, .int (Int32.ofInt x1))]) C.1 C.2.1 dX12_ofTwo_11 rfl hl (by decide) rfl (fun ls hl => ?_)
  refine lv_aload_n C.1 C.2.1 dX12_ofTwo_12 rfl (lv_at hl 1 rfl) ?_
  refine fg_62 C h dX12_ofTwo_13 ?_
  refine lv_aload_n C.1 C.2.1 dX12_ofTwo_16 rfl (lv_at hl 1 rfl) ?_
  refine fg_54 C h dX12_ofTwo_17 ?_
  refine lv_iload_n C.1 C.2.1 dX12_ofTwo_20 rfl (lv_at hl 2 rfl) ?_
  refine al_65 C h dX12_ofTwo_21 g1 ?_
  refine lv_iconst (v := Int32.ofInt 1) C.1 C.2.1 dX12_ofTwo_22 (by decide) ?_
  refine z_iadd C dX12_ofTwo_23 ?_
  obtain ⟨g5, hm⟩ := grd_s hm
  refine al_58 C h dX12_ofTwo_24 g5 ?_
  obtain ⟨v6, e7, hm⟩ := bnd_s hm
  rw [e7]
  refine lv_istore_n (lv' := [(3, .int (Int32.ofInt v6)), (2, .int (Int32.ofInt v3)), (0, .ref (g 0)), (1, .int (Int32.ofInt x1))]) C.1 C.2.1 dX12_ofTwo_25 rfl hl (by decide) rfl (fun ls hl => ?_)
  refine lv_aload_n C.1 C.2.1 dX12_ofTwo_26 rfl (lv_at hl 2 rfl) ?_
  refine fg_49 C h dX12_ofTwo_27 ?_
  refine lv_iload_n C.1 C.2.1 dX12_ofTwo_30 rfl (lv_at hl 3 rfl) ?_
  refine al_70 C h dX12_ofTwo_31 g1 ?_
  refine lv_bipush (v := Int32.ofInt 24) C.1 C.2.1 dX12_ofTwo_32 (by decide) ?_
  obtain ⟨g8, hm⟩ := grd_s hm
  refine z_icmp_ne (tgt := 41) C dX12_ofTwo_34 (by decide) g8 (by decide) (fun c9 => ?_) (fun c9 => ?_)
  · have hm := ite_f c9 hm
    refine lv_iload_n C.1 C.2.1 dX12_ofTwo_41 rfl (lv_at hl 1 rfl) ?_
    exact lm_ofTwo_42 (N := N) C hr hlk  (lv_sub hl [2, 3, 1, 0] rfl) h hm
  · have hm := ite_t c9 hm
    refine lv_iload_n C.1 C.2.1 dX12_ofTwo_37 rfl (lv_at hl 0 rfl) ?_
    refine lv_goto (tgt := 42) C.1 C.2.1 dX12_ofTwo_38 (by decide) ?_
    exact lm_ofTwo_42 (N := N) C hr hlk  (lv_sub hl [2, 3, 1, 0] rfl) h hm
end L_ofTwo
section L_spanBelow
variable {p : Program} {l : Launch} {e : Env} {s : State} {m : MethodId} {args : Array Value} {below : List Frame} {meth : Method} {c : Code} {D : va_G} {A : Nat → Prop} {k : Nat → ClassId} {g : Nat → Nat} {N : Nat} {cd : Cond}
set_option maxHeartbeats 4000000 in
set_option maxRecDepth 100000 in
theorem rc_spanBelow (l : Launch) (D : va_G) (k : Nat → ClassId) (g : Nat → Nat) (N : Nat) (σ : St) (x1 : Int) (r : St × Int) (hm : r_spanBelow N σ x1 = some r) : Mi l yX12_spanBelow (.code yX12_spanBelow cX12_spanBelow 4 (some .int) :: rW) { frames := 1, cells := 0, slots := 0, locals := 24 } [.ref (g 0), .int (Int32.ofInt x1)] D (TYs k) (mW k g σ) (fun _ => True) Unit (fun v _ => v = Int32.ofInt r.2) (fun _ => mW k g r.1) 0 0 := by
  intro sz
  refine x_met (cc := cX12_spanBelow) (maxL := 4) (ret := (some .int)) (by decide) rfl (Nat.le_of_ble_eq_true rfl) ?_
  intro p e s m below meth c ls C hX hsz hr hlk hmn hl h
  have hl : lv_has ls 4 [(0, .ref (g 0)), (1, .int (Int32.ofInt x1))] := hl
  rw [r_spanBelow] at hm
  refine lv_aload_n C.1 C.2.1 dX12_spanBelow_0 rfl (lv_at hl 0 rfl) ?_
  refine fg_52 C h dX12_spanBelow_1 ?_
  refine lv_iload_n C.1 C.2.1 dX12_spanBelow_4 rfl (lv_at hl 1 rfl) ?_
  obtain ⟨g1, hm⟩ := grd_s hm
  refine al_67 C h dX12_spanBelow_5 g1 ?_
  refine lv_aload_n C.1 C.2.1 dX12_spanBelow_6 rfl (lv_at hl 0 rfl) ?_
  refine fg_51 C h dX12_spanBelow_7 ?_
  refine lv_iload_n C.1 C.2.1 dX12_spanBelow_10 rfl (lv_at hl 1 rfl) ?_
  refine al_68 C h dX12_spanBelow_11 g1 ?_
  refine z_imul C dX12_spanBelow_12 ?_
  refine lv_aload_n C.1 C.2.1 dX12_spanBelow_13 rfl (lv_at hl 0 rfl) ?_
  refine fg_50 C h dX12_spanBelow_14 ?_
  refine lv_iload_n C.1 C.2.1 dX12_spanBelow_17 rfl (lv_at hl 1 rfl) ?_
  refine al_69 C h dX12_spanBelow_18 g1 ?_
  refine lv_aload_n C.1 C.2.1 dX12_spanBelow_19 rfl (lv_at hl 0 rfl) ?_
  refine fg_53 C h dX12_spanBelow_20 ?_
  refine lv_iload_n C.1 C.2.1 dX12_spanBelow_23 rfl (lv_at hl 1 rfl) ?_
  refine al_66 C h dX12_spanBelow_24 g1 ?_
  refine z_imul C dX12_spanBelow_25 ?_
  refine z_isub C dX12_spanBelow_26 ?_
  obtain ⟨v2, e3, hm⟩ := bnd_s hm
  rw [e3]
  refine lv_istore_n (lv' := [(2, .int (Int32.ofInt v2)), (0, .ref (g 0)), (1, .int (Int32.ofInt x1))]) C.1 C.2.1 dX12_spanBelow_27 rfl hl (by decide) rfl (fun ls hl => ?_)
  refine lv_aload_n C.1 C.2.1 dX12_spanBelow_28 rfl (lv_at hl 1 rfl) ?_
  refine fg_51 C h dX12_spanBelow_29 ?_
  refine lv_iload_n C.1 C.2.1 dX12_spanBelow_32 rfl (lv_at hl 2 rfl) ?_
  refine al_68 C h dX12_spanBelow_33 g1 ?_
  refine lv_aload_n C.1 C.2.1 dX12_spanBelow_34 rfl (lv_at hl 1 rfl) ?_
  refine fg_53 C h dX12_spanBelow_35 ?_
  refine lv_iload_n C.1 C.2.1 dX12_spanBelow_38 rfl (lv_at hl 2 rfl) ?_
  refine al_66 C h dX12_spanBelow_39 g1 ?_
  refine z_imul C dX12_spanBelow_40 ?_
  obtain ⟨v4, e5, hm⟩ := bnd_s hm
  rw [e5]
  refine lv_istore_n (lv' := [(3, .int (Int32.ofInt v4)), (2, .int (Int32.ofInt v2)), (0, .ref (g 0)), (1, .int (Int32.ofInt x1))]) C.1 C.2.1 dX12_spanBelow_41 rfl hl (by decide) rfl (fun ls hl => ?_)
  refine lv_iload_n C.1 C.2.1 dX12_spanBelow_42 rfl (lv_at hl 0 rfl) ?_
  refine lv_iload_n C.1 C.2.1 dX12_spanBelow_43 rfl (lv_at hl 1 rfl) ?_
  refine lv_iload_n C.1 C.2.1 dX12_spanBelow_44 rfl (lv_at hl 0 rfl) ?_
  obtain ⟨r6, e7, hm⟩ := obd_s hm
  refine q_callSi C h (rc_common l D k N v2 v4 r6 e7) (cwS 2 C.2.2.1 (gR_common _) rfl rfl rfl hd_common ⟨Nat.le_of_ble_eq_true rfl, Nat.le_of_ble_eq_true rfl⟩) rfl hl.1 rfl (Nat.le_of_ble_eq_true rfl) dX12_spanBelow_45 ⟨Nat.le_of_ble_eq_true rfl, Nat.le_of_ble_eq_true rfl⟩ (fun H locs h => ?_)
  obtain ⟨g8, hm⟩ := grd_s hm
  obtain ⟨g9, hm⟩ := grd_s hm
  obtain ⟨g10, hm⟩ := grd_s hm
  refine z_idiv C dX12_spanBelow_48 g8 g9 g10 ?_
  cases hm
  exact q_iret C h hr hlk dX12_spanBelow_49 rfl
end L_spanBelow
section L_weights
variable {p : Program} {l : Launch} {e : Env} {s : State} {m : MethodId} {args : Array Value} {below : List Frame} {meth : Method} {c : Code} {D : va_G} {A : Nat → Prop} {k : Nat → ClassId} {g : Nat → Nat} {N : Nat} {cd : Cond}
set_option maxHeartbeats 4000000 in
set_option maxRecDepth 100000 in
theorem lm_weights_10 {r : St × Int} (C : Cx p s m args c cX12_weights RX12 (cd :: rW) D (TYs k) 5) (hr : meth.sig.returnType = (some .long)) (hlk : meth.locks = false)  (n : Nat) : ∀ {ls : Array Slot} {H : Heap} {locs : List Loc} {σ : St} {x1 : Int} {x2 : Int} {x4 : Int}, lv_has ls 5 [(0, .ref (g 0)), (1, .int (Int32.ofInt x1)), (2, .long (Int64.ofInt x2)), (4, .int (Int32.ofInt x4))] → Hp D A s.heap H locs (mW k g σ) → r_weights_10 N  n σ x1 x2 x4 = some r → W p l e { frames := 0, cells := 0, slots := 0, locals := 0 } s m args below meth c H locs 0 0 (MQ below (va_Ql (fun v (_ : Unit) => v = Int64.ofInt r.2) (fun _ t => PostW D (TYs k) A (mW k g r.1) t) A) args s 0 0 A) (F0 m 10 ls []) := by
  induction n with
  | zero => intro ls H locs σ x1 x2 x4 hl h hm; cases (show none = some r from hm)
  | succ n hrec10 =>
    intro ls H locs σ x1 x2 x4 hl h hm
    rw [r_weights_10] at hm
    refine lv_iload C.1 C.2.1 dX12_weights_10 (lv_at hl 3 rfl) ?_
    refine lv_aload_n C.1 C.2.1 dX12_weights_12 rfl (lv_at hl 0 rfl) ?_
    refine fg_54 C h dX12_weights_13 ?_
    refine lv_iload_n C.1 C.2.1 dX12_weights_16 rfl (lv_at hl 1 rfl) ?_
    obtain ⟨g4, hm⟩ := grd_s hm
    refine al_65 C h dX12_weights_17 g4 ?_
    refine lv_aload_n C.1 C.2.1 dX12_weights_18 rfl (lv_at hl 0 rfl) ?_
    refine fg_55 C h dX12_weights_19 ?_
    refine lv_iload_n C.1 C.2.1 dX12_weights_22 rfl (lv_at hl 1 rfl) ?_
    refine al_64 C h dX12_weights_23 g4 ?_
    refine z_iadd C dX12_weights_24 ?_
    obtain ⟨g5, hm⟩ := grd_s hm
    obtain ⟨g6, hm⟩ := grd_s hm
    refine z_icmp_ge (tgt := 60) C dX12_weights_25 (by decide) g5 g6 (fun c7 => ?_) (fun c7 => ?_)
    · have hm := ite_f c7 hm
      refine lv_lload_n C.1 C.2.1 dX12_weights_60 rfl (lv_at hl 2 rfl) ?_
      cases hm
      exact q_lret C h hr hlk dX12_weights_61
    · have hm := ite_t c7 hm
      refine lv_lload_n C.1 C.2.1 dX12_weights_28 rfl (lv_at hl 2 rfl) ?_
      refine lv_aload_n C.1 C.2.1 dX12_weights_29 rfl (lv_at hl 0 rfl) ?_
      refine fg_63 C h dX12_weights_30 ?_
      refine lv_iload C.1 C.2.1 dX12_weights_33 (lv_at hl 3 rfl) ?_
      obtain ⟨g8, hm⟩ := grd_s hm
      refine al_57 C h dX12_weights_35 g8 ?_
      refine lv_bipush (v := Int32.ofInt 32) C.1 C.2.1 dX12_weights_36 (by decide) ?_
      obtain ⟨g9, hm⟩ := grd_s hm
      refine z_irem C dX12_weights_38 g9 (by decide) (by decide) ?_
      obtain ⟨g10, hm⟩ := grd_s hm
      refine z_i2l C dX12_weights_39 g10 ?_
      refine lv_aload_n C.1 C.2.1 dX12_weights_40 rfl (lv_at hl 0 rfl) ?_
      refine fg_63 C h dX12_weights_41 ?_
      refine lv_iload C.1 C.2.1 dX12_weights_44 (lv_at hl 3 rfl) ?_
      refine al_57 C h dX12_weights_46 g8 ?_
      refine lv_bipush (v := Int32.ofInt 32) C.1 C.2.1 dX12_weights_47 (by decide) ?_
      refine z_idiv C dX12_weights_49 g9 (by decide) (by decide) ?_
      obtain ⟨g11, hm⟩ := grd_s hm
      refine z_i2l C dX12_weights_50 g11 ?_
      refine z_lmul C dX12_weights_51 ?_
      refine z_ladd C dX12_weights_52 ?_
      obtain ⟨v12, e13, hm⟩ := bnd_s hm
      rw [e13]
      refine lv_lstore_n (lv' := [(2, .long (Int64.ofInt v12)), (0, .ref (g 0)), (1, .int (Int32.ofInt x1)), (4, .int (Int32.ofInt x4))]) C.1 C.2.1 dX12_weights_53 rfl hl (by decide) rfl (fun ls hl => ?_)
      refine lv_iinc (v := Int32.ofInt (x4 + 1)) (lv' := [(4, .int (Int32.ofInt (x4 + 1))), (2, .long (Int64.ofInt v12)), (0, .ref (g 0)), (1, .int (Int32.ofInt x1))]) C.1 C.2.1 dX12_weights_54 hl (k := 3) rfl (c32_add _ _) (by decide) rfl (fun ls hl => ?_)
      refine lv_goto (tgt := 10) C.1 C.2.1 dX12_weights_57 (by decide) ?_
      exact hrec10 (lv_sub hl [2, 3, 1, 0] rfl) h hm
set_option maxHeartbeats 4000000 in
set_option maxRecDepth 100000 in
theorem rc_weights (l : Launch) (D : va_G) (k : Nat → ClassId) (g : Nat → Nat) (N : Nat) (σ : St) (x1 : Int) (r : St × Int) (hm : r_weights N σ x1 = some r) : Ml l yX12_weights (.code yX12_weights cX12_weights 5 (some .long) :: rW) { frames := 0, cells := 0, slots := 0, locals := 0 } [.ref (g 0), .int (Int32.ofInt x1)] D (TYs k) (mW k g σ) (fun _ => True) Unit (fun v _ => v = Int64.ofInt r.2) (fun _ => mW k g r.1) 0 0 := by
  intro sz
  refine x_met (cc := cX12_weights) (maxL := 5) (ret := (some .long)) (by decide) rfl (Nat.le_of_ble_eq_true rfl) ?_
  intro p e s m below meth c ls C hX hsz hr hlk hmn hl h
  have hl : lv_has ls 5 [(0, .ref (g 0)), (1, .int (Int32.ofInt x1))] := hl
  rw [r_weights] at hm
  refine lv_lconst (v := Int64.ofInt 0) C.1 C.2.1 dX12_weights_0 (by decide) ?_
  refine lv_lstore_n (lv' := [(2, .long (Int64.ofInt 0)), (0, .ref (g 0)), (1, .int (Int32.ofInt x1))]) C.1 C.2.1 dX12_weights_1 rfl hl (by decide) rfl (fun ls hl => ?_)
  refine lv_aload_n C.1 C.2.1 dX12_weights_2 rfl (lv_at hl 1 rfl) ?_
  refine fg_54 C h dX12_weights_3 ?_
  refine lv_iload_n C.1 C.2.1 dX12_weights_6 rfl (lv_at hl 2 rfl) ?_
  obtain ⟨g1, hm⟩ := grd_s hm
  refine al_65 C h dX12_weights_7 g1 ?_
  obtain ⟨v2, e3, hm⟩ := bnd_s hm
  rw [e3]
  refine lv_istore (lv' := [(4, .int (Int32.ofInt v2)), (2, .long (Int64.ofInt 0)), (0, .ref (g 0)), (1, .int (Int32.ofInt x1))]) C.1 C.2.1 dX12_weights_8 hl (by decide) rfl (fun ls hl => ?_)
  exact lm_weights_10 (N := N) C hr hlk  N (lv_sub hl [2, 3, 1, 0] rfl) h hm
end L_weights
section L_boundsOf
variable {p : Program} {l : Launch} {e : Env} {s : State} {m : MethodId} {args : Array Value} {below : List Frame} {meth : Method} {c : Code} {D : va_G} {A : Nat → Prop} {k : Nat → ClassId} {g : Nat → Nat} {N : Nat} {cd : Cond}
set_option maxHeartbeats 4000000 in
set_option maxRecDepth 100000 in
theorem lm_boundsOf_322 {r : St} (C : Cx p s m args c cX12_boundsOf RX12 (cd :: rW) D (TYs k) 8) (hr : meth.sig.returnType = none) (hlk : meth.locks = false)  {ls : Array Slot} {H : Heap} {locs : List Loc} {σ : St} {x2 : Int} {x3 : Int} {s0 : Int} {s1 : Int} (hl : lv_has ls 8 [(0, .ref (g 0)), (2, .int (Int32.ofInt x2)), (3, .int (Int32.ofInt x3))]) (h : Hp D A s.heap H locs (mW k g σ)) (hm : r_boundsOf_322 N  σ x2 x3 s0 s1 = some r) : W p l e { frames := 2, cells := 0, slots := 0, locals := 53 } s m args below meth c H locs 0 0 (MQ below (va_Qv (fun (_ : Unit) => True) (fun _ t => PostW D (TYs k) A (mW k g r) t) A) args s 0 0 A) (F0 m 322 ls [.long (Int64.ofInt s0), .long (Int64.ofInt s1)]) := by
  rw [r_boundsOf_322] at hm
  refine z_ladd C dX12_boundsOf_322 ?_
  obtain ⟨v109, e110, hm⟩ := bnd_s hm
  rw [e110]
  refine lv_lstore (lv' := [(6, .long (Int64.ofInt v109)), (0, .ref (g 0)), (2, .int (Int32.ofInt x2)), (3, .int (Int32.ofInt x3))]) C.1 C.2.1 dX12_boundsOf_323 hl (by decide) rfl (fun ls hl => ?_)
  refine lv_aload_n C.1 C.2.1 dX12_boundsOf_325 rfl (lv_at hl 1 rfl) ?_
  refine lv_aload_n C.1 C.2.1 dX12_boundsOf_326 rfl (lv_at hl 1 rfl) ?_
  refine fg_73 C h dX12_boundsOf_327 ?_
  refine lv_iload_n C.1 C.2.1 dX12_boundsOf_330 rfl (lv_at hl 2 rfl) ?_
  obtain ⟨g111, hm⟩ := grd_s hm
  refine z_i2l C dX12_boundsOf_331 g111 ?_
  obtain ⟨r112, e113, hm⟩ := obd_s hm
  refine q_callSl C h (rc_times l D k N (fl σ 73 0) x2 r112 e113) (cwS 2 C.2.2.1 (gR_times _) rfl rfl rfl hd_times ⟨Nat.le_of_ble_eq_true rfl, Nat.le_of_ble_eq_true rfl⟩) rfl hl.1 rfl (Nat.le_of_ble_eq_true rfl) dX12_boundsOf_332 ⟨Nat.le_of_ble_eq_true rfl, Nat.le_of_ble_eq_true rfl⟩ (fun H locs h => ?_)
  refine lv_lload C.1 C.2.1 dX12_boundsOf_335 (lv_at hl 0 rfl) ?_
  refine lv_aload_n C.1 C.2.1 dX12_boundsOf_337 rfl (lv_at hl 1 rfl) ?_
  refine fg_75 C h dX12_boundsOf_338 ?_
  refine z_lmul C dX12_boundsOf_341 ?_
  refine lv_aload_n C.1 C.2.1 dX12_boundsOf_342 rfl (lv_at hl 1 rfl) ?_
  refine fg_76 C h dX12_boundsOf_343 ?_
  refine lv_iload_n C.1 C.2.1 dX12_boundsOf_346 rfl (lv_at hl 3 rfl) ?_
  obtain ⟨g114, hm⟩ := grd_s hm
  refine z_i2l C dX12_boundsOf_347 g114 ?_
  refine z_lmul C dX12_boundsOf_348 ?_
  refine lv_iload_n C.1 C.2.1 dX12_boundsOf_349 rfl (lv_at hl 2 rfl) ?_
  refine z_i2l C dX12_boundsOf_350 g111 ?_
  obtain ⟨r115, e116, hm⟩ := obd_s hm
  refine q_callSl C h (rc_up l D k N ((fl σ 76 0) * x3) x2 r115 e116) (cwS 2 C.2.2.1 (gR_up _) rfl rfl rfl hd_up ⟨Nat.le_of_ble_eq_true rfl, Nat.le_of_ble_eq_true rfl⟩) rfl hl.1 rfl (Nat.le_of_ble_eq_true rfl) dX12_boundsOf_351 ⟨Nat.le_of_ble_eq_true rfl, Nat.le_of_ble_eq_true rfl⟩ (fun H locs h => ?_)
  refine lv_lload C.1 C.2.1 dX12_boundsOf_354 (lv_at hl 0 rfl) ?_
  refine lv_aload_n C.1 C.2.1 dX12_boundsOf_356 rfl (lv_at hl 1 rfl) ?_
  refine fg_78 C h dX12_boundsOf_357 ?_
  refine z_lmul C dX12_boundsOf_360 ?_
  refine lv_lconst (v := Int64.ofInt 1) C.1 C.2.1 dX12_boundsOf_361 (by decide) ?_
  refine z_ladd C dX12_boundsOf_362 ?_
  obtain ⟨r117, e118, hm⟩ := obd_s hm
  refine q_callVv C h (rc_bounds l D k g N σ r112 (v109 * (fl σ 75 0)) r115 ((v109 * (fl σ 78 0)) + 1) r117 e118) (cwV 4 C.2.2.1 (gR_bounds _) rfl rfl rfl hd_bounds ⟨Nat.le_of_ble_eq_true rfl, Nat.le_of_ble_eq_true rfl⟩) rfl hl.1 rfl (Nat.le_of_ble_eq_true rfl) dX12_boundsOf_363 ⟨Nat.le_of_ble_eq_true rfl, Nat.le_of_ble_eq_true rfl⟩ (fun H locs h => ?_)
  refine lv_goto (tgt := 627) C.1 C.2.1 dX12_boundsOf_366 (by decide) ?_
  cases hm
  exact q_vret C h hr hlk dX12_boundsOf_627
set_option maxHeartbeats 4000000 in
set_option maxRecDepth 100000 in
theorem lm_boundsOf_412 {r : St} (C : Cx p s m args c cX12_boundsOf RX12 (cd :: rW) D (TYs k) 8) (hr : meth.sig.returnType = none) (hlk : meth.locks = false)  {ls : Array Slot} {H : Heap} {locs : List Loc} {σ : St} {s0 : Int} {s1 : Int} {s2 : Int} {s3 : Int} (hl : lv_has ls 8 [(0, .ref (g 0))]) (h : Hp D A s.heap H locs (mW k g σ)) (hm : r_boundsOf_412 N  σ s0 s1 s2 s3 = some r) : W p l e { frames := 2, cells := 0, slots := 0, locals := 53 } s m args below meth c H locs 0 0 (MQ below (va_Qv (fun (_ : Unit) => True) (fun _ t => PostW D (TYs k) A (mW k g r) t) A) args s 0 0 A) (F0 m 412 ls [.long (Int64.ofInt s0), .long (Int64.ofInt s1), .long (Int64.ofInt s2), .long (Int64.ofInt s3), .ref (g 0)]) := by
  rw [r_boundsOf_412] at hm
  refine lv_aload_n C.1 C.2.1 dX12_boundsOf_412 rfl (lv_at hl 0 rfl) ?_
  refine fg_78 C h dX12_boundsOf_413 ?_
  refine z_lmul C dX12_boundsOf_416 ?_
  refine lv_lconst (v := Int64.ofInt 1) C.1 C.2.1 dX12_boundsOf_417 (by decide) ?_
  refine z_ladd C dX12_boundsOf_418 ?_
  obtain ⟨r121, e122, hm⟩ := obd_s hm
  refine q_callVv C h (rc_bounds l D k g N σ s3 s2 s1 ((s0 * (fl σ 78 0)) + 1) r121 e122) (cwV 4 C.2.2.1 (gR_bounds _) rfl rfl rfl hd_bounds ⟨Nat.le_of_ble_eq_true rfl, Nat.le_of_ble_eq_true rfl⟩) rfl hl.1 rfl (Nat.le_of_ble_eq_true rfl) dX12_boundsOf_419 ⟨Nat.le_of_ble_eq_true rfl, Nat.le_of_ble_eq_true rfl⟩ (fun H locs h => ?_)
  refine lv_goto (tgt := 627) C.1 C.2.1 dX12_boundsOf_422 (by decide) ?_
  cases hm
  exact q_vret C h hr hlk dX12_boundsOf_627
set_option maxHeartbeats 4000000 in
set_option maxRecDepth 100000 in
theorem lm_boundsOf_391 {r : St} (C : Cx p s m args c cX12_boundsOf RX12 (cd :: rW) D (TYs k) 8) (hr : meth.sig.returnType = none) (hlk : meth.locks = false)  {ls : Array Slot} {H : Heap} {locs : List Loc} {σ : St} {x3 : Int} {s0 : Int} {s1 : Int} (hl : lv_has ls 8 [(0, .ref (g 0)), (3, .int (Int32.ofInt x3))]) (h : Hp D A s.heap H locs (mW k g σ)) (hm : r_boundsOf_391 N  σ x3 s0 s1 = some r) : W p l e { frames := 2, cells := 0, slots := 0, locals := 53 } s m args below meth c H locs 0 0 (MQ below (va_Qv (fun (_ : Unit) => True) (fun _ t => PostW D (TYs k) A (mW k g r) t) A) args s 0 0 A) (F0 m 391 ls [.long (Int64.ofInt s0), .long (Int64.ofInt s1), .ref (g 0)]) := by
  rw [r_boundsOf_391] at hm
  refine lv_aload_n C.1 C.2.1 dX12_boundsOf_391 rfl (lv_at hl 0 rfl) ?_
  refine fg_75 C h dX12_boundsOf_392 ?_
  refine z_lmul C dX12_boundsOf_395 ?_
  refine lv_aload_n C.1 C.2.1 dX12_boundsOf_396 rfl (lv_at hl 0 rfl) ?_
  refine fg_76 C h dX12_boundsOf_397 ?_
  refine lv_iload_n C.1 C.2.1 dX12_boundsOf_400 rfl (lv_at hl 1 rfl) ?_
  refine lv_iconst (v := Int32.ofInt 1) C.1 C.2.1 dX12_boundsOf_401 (by decide) ?_
  obtain ⟨g119, hm⟩ := grd_s hm
  refine z_icmp_ne (tgt := 409) C dX12_boundsOf_402 (by decide) g119 (by decide) (fun c120 => ?_) (fun c120 => ?_)
  · have hm := ite_f c120 hm
    refine lv_ldc2 (v := 2) C.1 C.2.1 C.2.2.2.1 (C.2.2.1 _ (List.mem_cons_of_mem _ wk_433)) dX12_boundsOf_409 ?_
    refine x_topl (y := Int64.ofInt 2) (by decide) ?_
    exact lm_boundsOf_412 (N := N) C hr hlk  (lv_sub hl [0] rfl) h hm
  · have hm := ite_t c120 hm
    refine lv_lconst (v := Int64.ofInt 1) C.1 C.2.1 dX12_boundsOf_405 (by decide) ?_
    refine lv_goto (tgt := 412) C.1 C.2.1 dX12_boundsOf_406 (by decide) ?_
    exact lm_boundsOf_412 (N := N) C hr hlk  (lv_sub hl [0] rfl) h hm
set_option maxHeartbeats 4000000 in
set_option maxRecDepth 100000 in
theorem rc_boundsOf (l : Launch) (D : va_G) (k : Nat → ClassId) (g : Nat → Nat) (N : Nat) (σ : St) (x1 : Int) (r : St) (hm : r_boundsOf N σ x1 = some r) : Mv l yX12_boundsOf (.code yX12_boundsOf cX12_boundsOf 8 none :: rW) { frames := 2, cells := 0, slots := 0, locals := 53 } [.ref (g 0), .int (Int32.ofInt x1)] D (TYs k) (mW k g σ) (fun _ => True) Unit (fun _ => True) (fun _ => mW k g r) 0 0 := by
  intro sz
  refine x_met (cc := cX12_boundsOf) (maxL := 8) (ret := none) (by decide) rfl (Nat.le_of_ble_eq_true rfl) ?_
  intro p e s m below meth c ls C hX hsz hr hlk hmn hl h
  have hl : lv_has ls 8 [(0, .ref (g 0)), (1, .int (Int32.ofInt x1))] := hl
  rw [r_boundsOf] at hm
  refine lv_aload_n C.1 C.2.1 dX12_boundsOf_0 rfl (lv_at hl 0 rfl) ?_
  refine fg_50 C h dX12_boundsOf_1 ?_
  refine lv_iload_n C.1 C.2.1 dX12_boundsOf_4 rfl (lv_at hl 1 rfl) ?_
  obtain ⟨g1, hm⟩ := grd_s hm
  refine al_69 C h dX12_boundsOf_5 g1 ?_
  obtain ⟨v2, e3, hm⟩ := bnd_s hm
  rw [e3]
  refine lv_istore_n (lv' := [(2, .int (Int32.ofInt v2)), (0, .ref (g 0)), (1, .int (Int32.ofInt x1))]) C.1 C.2.1 dX12_boundsOf_6 rfl hl (by decide) rfl (fun ls hl => ?_)
  refine lv_aload_n C.1 C.2.1 dX12_boundsOf_7 rfl (lv_at hl 1 rfl) ?_
  refine fg_51 C h dX12_boundsOf_8 ?_
  refine lv_iload_n C.1 C.2.1 dX12_boundsOf_11 rfl (lv_at hl 2 rfl) ?_
  refine al_68 C h dX12_boundsOf_12 g1 ?_
  obtain ⟨v4, e5, hm⟩ := bnd_s hm
  rw [e5]
  refine lv_istore_n (lv' := [(3, .int (Int32.ofInt v4)), (2, .int (Int32.ofInt v2)), (0, .ref (g 0)), (1, .int (Int32.ofInt x1))]) C.1 C.2.1 dX12_boundsOf_13 rfl hl (by decide) rfl (fun ls hl => ?_)
  refine lv_aload_n C.1 C.2.1 dX12_boundsOf_14 rfl (lv_at hl 2 rfl) ?_
  refine fg_78 C h dX12_boundsOf_15 ?_
  refine lv_lconst (v := Int64.ofInt 1) C.1 C.2.1 dX12_boundsOf_18 (by decide) ?_
  refine z_ladd C dX12_boundsOf_19 ?_
  obtain ⟨v6, e7, hm⟩ := bnd_s hm
  rw [e7]
  refine lv_lstore (lv' := [(4, .long (Int64.ofInt v6)), (3, .int (Int32.ofInt v4)), (2, .int (Int32.ofInt v2)), (0, .ref (g 0)), (1, .int (Int32.ofInt x1))]) C.1 C.2.1 dX12_boundsOf_20 hl (by decide) rfl (fun ls hl => ?_)
  refine lv_aload_n C.1 C.2.1 dX12_boundsOf_22 rfl (lv_at hl 3 rfl) ?_
  refine fg_49 C h dX12_boundsOf_23 ?_
  refine lv_iload_n C.1 C.2.1 dX12_boundsOf_26 rfl (lv_at hl 4 rfl) ?_
  refine al_70 C h dX12_boundsOf_27 g1 ?_
  obtain ⟨g8, hm⟩ := grd_s hm
  by_cases c9 : (el σ 70 x1) = 1
  · refine x_topi (congrArg Int32.ofInt c9) ?_
    have hm := ite_t c9 hm
    refine lv_tableIn (tgt := 132) C.1 C.2.1 dX12_boundsOf_28 (by decide) (by decide) rfl (by decide) ?_
    refine lv_aload_n C.1 C.2.1 dX12_boundsOf_132 rfl (lv_at hl 3 rfl) ?_
    refine lv_lconst (v := Int64.ofInt 1) C.1 C.2.1 dX12_boundsOf_133 (by decide) ?_
    refine lv_lconst (v := Int64.ofInt 1) C.1 C.2.1 dX12_boundsOf_134 (by decide) ?_
    refine lv_lconst (v := Int64.ofInt 1) C.1 C.2.1 dX12_boundsOf_135 (by decide) ?_
    refine lv_lconst (v := Int64.ofInt 1) C.1 C.2.1 dX12_boundsOf_136 (by decide) ?_
    obtain ⟨r10, e11, hm⟩ := obd_s hm
    refine q_callVv C h (rc_bounds l D k g N σ 1 1 1 1 r10 e11) (cwV 4 C.2.2.1 (gR_bounds _) rfl rfl rfl hd_bounds ⟨Nat.le_of_ble_eq_true rfl, Nat.le_of_ble_eq_true rfl⟩) rfl hl.1 rfl (Nat.le_of_ble_eq_true rfl) dX12_boundsOf_137 ⟨Nat.le_of_ble_eq_true rfl, Nat.le_of_ble_eq_true rfl⟩ (fun H locs h => ?_)
    refine lv_goto (tgt := 627) C.1 C.2.1 dX12_boundsOf_140 (by decide) ?_
    cases hm
    exact q_vret C h hr hlk dX12_boundsOf_627
  have hm := ite_f c9 hm
  by_cases c12 : (el σ 70 x1) = 2
  · refine x_topi (congrArg Int32.ofInt c12) ?_
    have hm := ite_t c12 hm
    refine lv_tableIn (tgt := 132) C.1 C.2.1 dX12_boundsOf_28 (by decide) (by decide) rfl (by decide) ?_
    refine lv_aload_n C.1 C.2.1 dX12_boundsOf_132 rfl (lv_at hl 3 rfl) ?_
    refine lv_lconst (v := Int64.ofInt 1) C.1 C.2.1 dX12_boundsOf_133 (by decide) ?_
    refine lv_lconst (v := Int64.ofInt 1) C.1 C.2.1 dX12_boundsOf_134 (by decide) ?_
    refine lv_lconst (v := Int64.ofInt 1) C.1 C.2.1 dX12_boundsOf_135 (by decide) ?_
    refine lv_lconst (v := Int64.ofInt 1) C.1 C.2.1 dX12_boundsOf_136 (by decide) ?_
    obtain ⟨r13, e14, hm⟩ := obd_s hm
    refine q_callVv C h (rc_bounds l D k g N σ 1 1 1 1 r13 e14) (cwV 4 C.2.2.1 (gR_bounds _) rfl rfl rfl hd_bounds ⟨Nat.le_of_ble_eq_true rfl, Nat.le_of_ble_eq_true rfl⟩) rfl hl.1 rfl (Nat.le_of_ble_eq_true rfl) dX12_boundsOf_137 ⟨Nat.le_of_ble_eq_true rfl, Nat.le_of_ble_eq_true rfl⟩ (fun H locs h => ?_)
    refine lv_goto (tgt := 627) C.1 C.2.1 dX12_boundsOf_140 (by decide) ?_
    cases hm
    exact q_vret C h hr hlk dX12_boundsOf_627
  have hm := ite_f c12 hm
  by_cases c15 : (el σ 70 x1) = 3
  · refine x_topi (congrArg Int32.ofInt c15) ?_
    have hm := ite_t c15 hm
    refine lv_tableIn (tgt := 143) C.1 C.2.1 dX12_boundsOf_28 (by decide) (by decide) rfl (by decide) ?_
    refine lv_aload_n C.1 C.2.1 dX12_boundsOf_143 rfl (lv_at hl 3 rfl) ?_
    refine lv_lconst (v := Int64.ofInt 1) C.1 C.2.1 dX12_boundsOf_144 (by decide) ?_
    refine lv_lconst (v := Int64.ofInt 0) C.1 C.2.1 dX12_boundsOf_145 (by decide) ?_
    refine lv_lconst (v := Int64.ofInt 1) C.1 C.2.1 dX12_boundsOf_146 (by decide) ?_
    refine lv_lconst (v := Int64.ofInt 1) C.1 C.2.1 dX12_boundsOf_147 (by decide) ?_
    obtain ⟨r16, e17, hm⟩ := obd_s hm
    refine q_callVv C h (rc_bounds l D k g N σ 1 0 1 1 r16 e17) (cwV 4 C.2.2.1 (gR_bounds _) rfl rfl rfl hd_bounds ⟨Nat.le_of_ble_eq_true rfl, Nat.le_of_ble_eq_true rfl⟩) rfl hl.1 rfl (Nat.le_of_ble_eq_true rfl) dX12_boundsOf_148 ⟨Nat.le_of_ble_eq_true rfl, Nat.le_of_ble_eq_true rfl⟩ (fun H locs h => ?_)
    refine lv_goto (tgt := 627) C.1 C.2.1 dX12_boundsOf_151 (by decide) ?_
    cases hm
    exact q_vret C h hr hlk dX12_boundsOf_627
  have hm := ite_f c15 hm
  by_cases c18 : (el σ 70 x1) = 4
  · refine x_topi (congrArg Int32.ofInt c18) ?_
    have hm := ite_t c18 hm
    refine lv_tableIn (tgt := 154) C.1 C.2.1 dX12_boundsOf_28 (by decide) (by decide) rfl (by decide) ?_
    refine lv_aload_n C.1 C.2.1 dX12_boundsOf_154 rfl (lv_at hl 3 rfl) ?_
    refine lv_aload_n C.1 C.2.1 dX12_boundsOf_155 rfl (lv_at hl 3 rfl) ?_
    refine fg_73 C h dX12_boundsOf_156 ?_
    refine lv_aload_n C.1 C.2.1 dX12_boundsOf_159 rfl (lv_at hl 3 rfl) ?_
    refine lv_iload_n C.1 C.2.1 dX12_boundsOf_160 rfl (lv_at hl 4 rfl) ?_
    obtain ⟨r19, e20, hm⟩ := obd_s hm
    refine q_callVl C h (rc_weights l D k g N σ x1 r19 e20) (cwV 1 C.2.2.1 (gR_weights _) rfl rfl rfl hd_weights ⟨Nat.le_of_ble_eq_true rfl, Nat.le_of_ble_eq_true rfl⟩) rfl hl.1 rfl (Nat.le_of_ble_eq_true rfl) dX12_boundsOf_161 ⟨Nat.le_of_ble_eq_true rfl, Nat.le_of_ble_eq_true rfl⟩ (fun H locs h => ?_)
    obtain ⟨r21, e22, hm⟩ := obd_s hm
    refine q_callSl C h (rc_times l D k N (fl σ 73 0) r19.2 r21 e22) (cwS 2 C.2.2.1 (gR_times _) rfl rfl rfl hd_times ⟨Nat.le_of_ble_eq_true rfl, Nat.le_of_ble_eq_true rfl⟩) rfl hl.1 rfl (Nat.le_of_ble_eq_true rfl) dX12_boundsOf_164 ⟨Nat.le_of_ble_eq_true rfl, Nat.le_of_ble_eq_true rfl⟩ (fun H locs h => ?_)
    refine lv_aload_n C.1 C.2.1 dX12_boundsOf_167 rfl (lv_at hl 3 rfl) ?_
    refine fg_74 C h dX12_boundsOf_168 ?_
    refine lv_aload_n C.1 C.2.1 dX12_boundsOf_171 rfl (lv_at hl 3 rfl) ?_
    refine fg_76 C h dX12_boundsOf_172 ?_
    refine lv_aload_n C.1 C.2.1 dX12_boundsOf_175 rfl (lv_at hl 3 rfl) ?_
    refine fg_77 C h dX12_boundsOf_176 ?_
    refine lv_lconst (v := Int64.ofInt 1) C.1 C.2.1 dX12_boundsOf_179 (by decide) ?_
    refine z_ladd C dX12_boundsOf_180 ?_
    obtain ⟨r23, e24, hm⟩ := obd_s hm
    refine q_callVv C h (rc_bounds l D k g N r19.1 r21 (fl r19.1 74 0) (fl r19.1 76 0) ((fl r19.1 77 0) + 1) r23 e24) (cwV 4 C.2.2.1 (gR_bounds _) rfl rfl rfl hd_bounds ⟨Nat.le_of_ble_eq_true rfl, Nat.le_of_ble_eq_true rfl⟩) rfl hl.1 rfl (Nat.le_of_ble_eq_true rfl) dX12_boundsOf_181 ⟨Nat.le_of_ble_eq_true rfl, Nat.le_of_ble_eq_true rfl⟩ (fun H locs h => ?_)
    refine lv_goto (tgt := 627) C.1 C.2.1 dX12_boundsOf_184 (by decide) ?_
    cases hm
    exact q_vret C h hr hlk dX12_boundsOf_627
  have hm := ite_f c18 hm
  by_cases c25 : (el σ 70 x1) = 5
  · refine x_topi (congrArg Int32.ofInt c25) ?_
    have hm := ite_t c25 hm
    refine lv_tableIn (tgt := 187) C.1 C.2.1 dX12_boundsOf_28 (by decide) (by decide) rfl (by decide) ?_
    refine lv_aload_n C.1 C.2.1 dX12_boundsOf_187 rfl (lv_at hl 3 rfl) ?_
    refine lv_aload_n C.1 C.2.1 dX12_boundsOf_188 rfl (lv_at hl 3 rfl) ?_
    refine fg_73 C h dX12_boundsOf_189 ?_
    refine lv_aload_n C.1 C.2.1 dX12_boundsOf_192 rfl (lv_at hl 3 rfl) ?_
    refine fg_74 C h dX12_boundsOf_193 ?_
    refine lv_aload_n C.1 C.2.1 dX12_boundsOf_196 rfl (lv_at hl 3 rfl) ?_
    refine fg_76 C h dX12_boundsOf_197 ?_
    refine lv_aload_n C.1 C.2.1 dX12_boundsOf_200 rfl (lv_at hl 3 rfl) ?_
    refine fg_77 C h dX12_boundsOf_201 ?_
    refine lv_lconst (v := Int64.ofInt 1) C.1 C.2.1 dX12_boundsOf_204 (by decide) ?_
    refine z_ladd C dX12_boundsOf_205 ?_
    obtain ⟨r26, e27, hm⟩ := obd_s hm
    refine q_callVv C h (rc_bounds l D k g N σ (fl σ 73 0) (fl σ 74 0) (fl σ 76 0) ((fl σ 77 0) + 1) r26 e27) (cwV 4 C.2.2.1 (gR_bounds _) rfl rfl rfl hd_bounds ⟨Nat.le_of_ble_eq_true rfl, Nat.le_of_ble_eq_true rfl⟩) rfl hl.1 rfl (Nat.le_of_ble_eq_true rfl) dX12_boundsOf_206 ⟨Nat.le_of_ble_eq_true rfl, Nat.le_of_ble_eq_true rfl⟩ (fun H locs h => ?_)
    refine lv_goto (tgt := 627) C.1 C.2.1 dX12_boundsOf_209 (by decide) ?_
    cases hm
    exact q_vret C h hr hlk dX12_boundsOf_627
  have hm := ite_f c25 hm
  by_cases c28 : (el σ 70 x1) = 6
  · refine x_topi (congrArg Int32.ofInt c28) ?_
    have hm := ite_t c28 hm
    refine lv_tableIn (tgt := 212) C.1 C.2.1 dX12_boundsOf_28 (by decide) (by decide) rfl (by decide) ?_
    refine lv_aload_n C.1 C.2.1 dX12_boundsOf_212 rfl (lv_at hl 3 rfl) ?_
    refine lv_aload_n C.1 C.2.1 dX12_boundsOf_213 rfl (lv_at hl 3 rfl) ?_
    refine fg_73 C h dX12_boundsOf_214 ?_
    refine lv_aload_n C.1 C.2.1 dX12_boundsOf_217 rfl (lv_at hl 3 rfl) ?_
    refine fg_75 C h dX12_boundsOf_218 ?_
    refine lv_aload_n C.1 C.2.1 dX12_boundsOf_221 rfl (lv_at hl 3 rfl) ?_
    refine fg_76 C h dX12_boundsOf_222 ?_
    refine lv_lload C.1 C.2.1 dX12_boundsOf_225 (lv_at hl 0 rfl) ?_
    obtain ⟨r29, e30, hm⟩ := obd_s hm
    refine q_callVv C h (rc_bounds l D k g N σ (fl σ 73 0) (fl σ 75 0) (fl σ 76 0) v6 r29 e30) (cwV 4 C.2.2.1 (gR_bounds _) rfl rfl rfl hd_bounds ⟨Nat.le_of_ble_eq_true rfl, Nat.le_of_ble_eq_true rfl⟩) rfl hl.1 rfl (Nat.le_of_ble_eq_true rfl) dX12_boundsOf_227 ⟨Nat.le_of_ble_eq_true rfl, Nat.le_of_ble_eq_true rfl⟩ (fun H locs h => ?_)
    refine lv_goto (tgt := 627) C.1 C.2.1 dX12_boundsOf_230 (by decide) ?_
    cases hm
    exact q_vret C h hr hlk dX12_boundsOf_627
  have hm := ite_f c28 hm
  by_cases c31 : (el σ 70 x1) = 7
  · refine x_topi (congrArg Int32.ofInt c31) ?_
    have hm := ite_t c31 hm
    refine lv_tableIn (tgt := 233) C.1 C.2.1 dX12_boundsOf_28 (by decide) (by decide) rfl (by decide) ?_
    refine lv_aload_n C.1 C.2.1 dX12_boundsOf_233 rfl (lv_at hl 3 rfl) ?_
    refine lv_aload_n C.1 C.2.1 dX12_boundsOf_234 rfl (lv_at hl 3 rfl) ?_
    refine fg_73 C h dX12_boundsOf_235 ?_
    refine lv_iload_n C.1 C.2.1 dX12_boundsOf_238 rfl (lv_at hl 2 rfl) ?_
    obtain ⟨g32, hm⟩ := grd_s hm
    refine z_i2l C dX12_boundsOf_239 g32 ?_
    obtain ⟨r33, e34, hm⟩ := obd_s hm
    refine q_callSl C h (rc_times l D k N (fl σ 73 0) v2 r33 e34) (cwS 2 C.2.2.1 (gR_times _) rfl rfl rfl hd_times ⟨Nat.le_of_ble_eq_true rfl, Nat.le_of_ble_eq_true rfl⟩) rfl hl.1 rfl (Nat.le_of_ble_eq_true rfl) dX12_boundsOf_240 ⟨Nat.le_of_ble_eq_true rfl, Nat.le_of_ble_eq_true rfl⟩ (fun H locs h => ?_)
    refine lv_iload_n C.1 C.2.1 dX12_boundsOf_243 rfl (lv_at hl 2 rfl) ?_
    refine z_i2l C dX12_boundsOf_244 g32 ?_
    refine lv_aload_n C.1 C.2.1 dX12_boundsOf_245 rfl (lv_at hl 3 rfl) ?_
    refine fg_75 C h dX12_boundsOf_246 ?_
    refine z_lmul C dX12_boundsOf_249 ?_
    refine lv_aload_n C.1 C.2.1 dX12_boundsOf_250 rfl (lv_at hl 3 rfl) ?_
    refine fg_76 C h dX12_boundsOf_251 ?_
    refine lv_iload_n C.1 C.2.1 dX12_boundsOf_254 rfl (lv_at hl 2 rfl) ?_
    refine z_i2l C dX12_boundsOf_255 g32 ?_
    refine lv_aload_n C.1 C.2.1 dX12_boundsOf_256 rfl (lv_at hl 3 rfl) ?_
    refine fg_78 C h dX12_boundsOf_257 ?_
    refine z_lmul C dX12_boundsOf_260 ?_
    refine lv_lconst (v := Int64.ofInt 1) C.1 C.2.1 dX12_boundsOf_261 (by decide) ?_
    refine z_ladd C dX12_boundsOf_262 ?_
    obtain ⟨r35, e36, hm⟩ := obd_s hm
    refine q_callVv C h (rc_bounds l D k g N σ r33 (v2 * (fl σ 75 0)) (fl σ 76 0) ((v2 * (fl σ 78 0)) + 1) r35 e36) (cwV 4 C.2.2.1 (gR_bounds _) rfl rfl rfl hd_bounds ⟨Nat.le_of_ble_eq_true rfl, Nat.le_of_ble_eq_true rfl⟩) rfl hl.1 rfl (Nat.le_of_ble_eq_true rfl) dX12_boundsOf_263 ⟨Nat.le_of_ble_eq_true rfl, Nat.le_of_ble_eq_true rfl⟩ (fun H locs h => ?_)
    refine lv_goto (tgt := 627) C.1 C.2.1 dX12_boundsOf_266 (by decide) ?_
    cases hm
    exact q_vret C h hr hlk dX12_boundsOf_627
  have hm := ite_f c31 hm
  by_cases c37 : (el σ 70 x1) = 8
  · refine x_topi (congrArg Int32.ofInt c37) ?_
    have hm := ite_t c37 hm
    refine lv_tableIn (tgt := 269) C.1 C.2.1 dX12_boundsOf_28 (by decide) (by decide) rfl (by decide) ?_
    refine lv_aload_n C.1 C.2.1 dX12_boundsOf_269 rfl (lv_at hl 3 rfl) ?_
    refine lv_aload_n C.1 C.2.1 dX12_boundsOf_270 rfl (lv_at hl 3 rfl) ?_
    refine fg_73 C h dX12_boundsOf_271 ?_
    refine lv_iload_n C.1 C.2.1 dX12_boundsOf_274 rfl (lv_at hl 1 rfl) ?_
    obtain ⟨g38, hm⟩ := grd_s hm
    refine z_i2l C dX12_boundsOf_275 g38 ?_
    obtain ⟨r39, e40, hm⟩ := obd_s hm
    refine q_callSl C h (rc_times l D k N (fl σ 73 0) v4 r39 e40) (cwS 2 C.2.2.1 (gR_times _) rfl rfl rfl hd_times ⟨Nat.le_of_ble_eq_true rfl, Nat.le_of_ble_eq_true rfl⟩) rfl hl.1 rfl (Nat.le_of_ble_eq_true rfl) dX12_boundsOf_276 ⟨Nat.le_of_ble_eq_true rfl, Nat.le_of_ble_eq_true rfl⟩ (fun H locs h => ?_)
    refine lv_iload_n C.1 C.2.1 dX12_boundsOf_279 rfl (lv_at hl 2 rfl) ?_
    obtain ⟨g41, hm⟩ := grd_s hm
    refine z_i2l C dX12_boundsOf_280 g41 ?_
    refine lv_aload_n C.1 C.2.1 dX12_boundsOf_281 rfl (lv_at hl 3 rfl) ?_
    refine fg_75 C h dX12_boundsOf_282 ?_
    refine z_lmul C dX12_boundsOf_285 ?_
    refine lv_aload_n C.1 C.2.1 dX12_boundsOf_286 rfl (lv_at hl 3 rfl) ?_
    refine fg_76 C h dX12_boundsOf_287 ?_
    refine lv_iload_n C.1 C.2.1 dX12_boundsOf_290 rfl (lv_at hl 2 rfl) ?_
    refine z_i2l C dX12_boundsOf_291 g41 ?_
    refine lv_aload_n C.1 C.2.1 dX12_boundsOf_292 rfl (lv_at hl 3 rfl) ?_
    refine fg_78 C h dX12_boundsOf_293 ?_
    refine z_lmul C dX12_boundsOf_296 ?_
    refine lv_lconst (v := Int64.ofInt 1) C.1 C.2.1 dX12_boundsOf_297 (by decide) ?_
    refine z_ladd C dX12_boundsOf_298 ?_
    obtain ⟨r42, e43, hm⟩ := obd_s hm
    refine q_callVv C h (rc_bounds l D k g N σ r39 (v2 * (fl σ 75 0)) (fl σ 76 0) ((v2 * (fl σ 78 0)) + 1) r42 e43) (cwV 4 C.2.2.1 (gR_bounds _) rfl rfl rfl hd_bounds ⟨Nat.le_of_ble_eq_true rfl, Nat.le_of_ble_eq_true rfl⟩) rfl hl.1 rfl (Nat.le_of_ble_eq_true rfl) dX12_boundsOf_299 ⟨Nat.le_of_ble_eq_true rfl, Nat.le_of_ble_eq_true rfl⟩ (fun H locs h => ?_)
    refine lv_goto (tgt := 627) C.1 C.2.1 dX12_boundsOf_302 (by decide) ?_
    cases hm
    exact q_vret C h hr hlk dX12_boundsOf_627
  have hm := ite_f c37 hm
  by_cases c44 : (el σ 70 x1) = 9
  · refine x_topi (congrArg Int32.ofInt c44) ?_
    have hm := ite_t c44 hm
    refine lv_tableIn (tgt := 305) C.1 C.2.1 dX12_boundsOf_28 (by decide) (by decide) rfl (by decide) ?_
    refine lv_iload_n C.1 C.2.1 dX12_boundsOf_305 rfl (lv_at hl 2 rfl) ?_
    obtain ⟨g45, hm⟩ := grd_s hm
    refine z_i2l C dX12_boundsOf_306 g45 ?_
    refine lv_iload_n C.1 C.2.1 dX12_boundsOf_307 rfl (lv_at hl 1 rfl) ?_
    obtain ⟨g46, hm⟩ := grd_s hm
    refine z_i2l C dX12_boundsOf_308 g46 ?_
    obtain ⟨r47, e48, hm⟩ := obd_s hm
    refine q_callSl C h (rc_up l D k N v2 v4 r47 e48) (cwS 2 C.2.2.1 (gR_up _) rfl rfl rfl hd_up ⟨Nat.le_of_ble_eq_true rfl, Nat.le_of_ble_eq_true rfl⟩) rfl hl.1 rfl (Nat.le_of_ble_eq_true rfl) dX12_boundsOf_309 ⟨Nat.le_of_ble_eq_true rfl, Nat.le_of_ble_eq_true rfl⟩ (fun H locs h => ?_)
    refine lv_iload_n C.1 C.2.1 dX12_boundsOf_312 rfl (lv_at hl 1 rfl) ?_
    refine lv_iconst (v := Int32.ofInt 1) C.1 C.2.1 dX12_boundsOf_313 (by decide) ?_
    refine z_icmp_ne (tgt := 321) C dX12_boundsOf_314 (by decide) g46 (by decide) (fun c49 => ?_) (fun c49 => ?_)
    · have hm := ite_f c49 hm
      refine lv_lconst (v := Int64.ofInt 1) C.1 C.2.1 dX12_boundsOf_321 (by decide) ?_
      exact lm_boundsOf_322 (N := N) C hr hlk  (lv_sub hl [3, 2, 1] rfl) h hm
    · have hm := ite_t c49 hm
      refine lv_lconst (v := Int64.ofInt 0) C.1 C.2.1 dX12_boundsOf_317 (by decide) ?_
      refine lv_goto (tgt := 322) C.1 C.2.1 dX12_boundsOf_318 (by decide) ?_
      exact lm_boundsOf_322 (N := N) C hr hlk  (lv_sub hl [3, 2, 1] rfl) h hm
  have hm := ite_f c44 hm
  by_cases c50 : (el σ 70 x1) = 10
  · refine x_topi (congrArg Int32.ofInt c50) ?_
    have hm := ite_t c50 hm
    refine lv_tableIn (tgt := 369) C.1 C.2.1 dX12_boundsOf_28 (by decide) (by decide) rfl (by decide) ?_
    refine lv_aload_n C.1 C.2.1 dX12_boundsOf_369 rfl (lv_at hl 3 rfl) ?_
    refine lv_aload_n C.1 C.2.1 dX12_boundsOf_370 rfl (lv_at hl 3 rfl) ?_
    refine fg_73 C h dX12_boundsOf_371 ?_
    refine lv_iload_n C.1 C.2.1 dX12_boundsOf_374 rfl (lv_at hl 1 rfl) ?_
    obtain ⟨g51, hm⟩ := grd_s hm
    refine z_i2l C dX12_boundsOf_375 g51 ?_
    obtain ⟨r52, e53, hm⟩ := obd_s hm
    refine q_callSl C h (rc_least l D k N (fl σ 73 0) v4 r52 e53) (cwS 2 C.2.2.1 (gR_least _) rfl rfl rfl hd_least ⟨Nat.le_of_ble_eq_true rfl, Nat.le_of_ble_eq_true rfl⟩) rfl hl.1 rfl (Nat.le_of_ble_eq_true rfl) dX12_boundsOf_376 ⟨Nat.le_of_ble_eq_true rfl, Nat.le_of_ble_eq_true rfl⟩ (fun H locs h => ?_)
    refine lv_iload_n C.1 C.2.1 dX12_boundsOf_379 rfl (lv_at hl 1 rfl) ?_
    refine lv_iconst (v := Int32.ofInt 1) C.1 C.2.1 dX12_boundsOf_380 (by decide) ?_
    refine z_icmp_ne (tgt := 388) C dX12_boundsOf_381 (by decide) g51 (by decide) (fun c54 => ?_) (fun c54 => ?_)
    · have hm := ite_f c54 hm
      refine lv_ldc2 (v := 2) C.1 C.2.1 C.2.2.2.1 (C.2.2.1 _ (List.mem_cons_of_mem _ wk_433)) dX12_boundsOf_388 ?_
      refine x_topl (y := Int64.ofInt 2) (by decide) ?_
      exact lm_boundsOf_391 (N := N) C hr hlk  (lv_sub hl [3, 1] rfl) h hm
    · have hm := ite_t c54 hm
      refine lv_lconst (v := Int64.ofInt 1) C.1 C.2.1 dX12_boundsOf_384 (by decide) ?_
      refine lv_goto (tgt := 391) C.1 C.2.1 dX12_boundsOf_385 (by decide) ?_
      exact lm_boundsOf_391 (N := N) C hr hlk  (lv_sub hl [3, 1] rfl) h hm
  have hm := ite_f c50 hm
  by_cases c55 : (el σ 70 x1) = 11
  · refine x_topi (congrArg Int32.ofInt c55) ?_
    have hm := ite_t c55 hm
    refine lv_tableIn (tgt := 369) C.1 C.2.1 dX12_boundsOf_28 (by decide) (by decide) rfl (by decide) ?_
    refine lv_aload_n C.1 C.2.1 dX12_boundsOf_369 rfl (lv_at hl 3 rfl) ?_
    refine lv_aload_n C.1 C.2.1 dX12_boundsOf_370 rfl (lv_at hl 3 rfl) ?_
    refine fg_73 C h dX12_boundsOf_371 ?_
    refine lv_iload_n C.1 C.2.1 dX12_boundsOf_374 rfl (lv_at hl 1 rfl) ?_
    obtain ⟨g56, hm⟩ := grd_s hm
    refine z_i2l C dX12_boundsOf_375 g56 ?_
    obtain ⟨r57, e58, hm⟩ := obd_s hm
    refine q_callSl C h (rc_least l D k N (fl σ 73 0) v4 r57 e58) (cwS 2 C.2.2.1 (gR_least _) rfl rfl rfl hd_least ⟨Nat.le_of_ble_eq_true rfl, Nat.le_of_ble_eq_true rfl⟩) rfl hl.1 rfl (Nat.le_of_ble_eq_true rfl) dX12_boundsOf_376 ⟨Nat.le_of_ble_eq_true rfl, Nat.le_of_ble_eq_true rfl⟩ (fun H locs h => ?_)
    refine lv_iload_n C.1 C.2.1 dX12_boundsOf_379 rfl (lv_at hl 1 rfl) ?_
    refine lv_iconst (v := Int32.ofInt 1) C.1 C.2.1 dX12_boundsOf_380 (by decide) ?_
    refine z_icmp_ne (tgt := 388) C dX12_boundsOf_381 (by decide) g56 (by decide) (fun c59 => ?_) (fun c59 => ?_)
    · have hm := ite_f c59 hm
      refine lv_ldc2 (v := 2) C.1 C.2.1 C.2.2.2.1 (C.2.2.1 _ (List.mem_cons_of_mem _ wk_433)) dX12_boundsOf_388 ?_
      refine x_topl (y := Int64.ofInt 2) (by decide) ?_
      exact lm_boundsOf_391 (N := N) C hr hlk  (lv_sub hl [3, 1] rfl) h hm
    · have hm := ite_t c59 hm
      refine lv_lconst (v := Int64.ofInt 1) C.1 C.2.1 dX12_boundsOf_384 (by decide) ?_
      refine lv_goto (tgt := 391) C.1 C.2.1 dX12_boundsOf_385 (by decide) ?_
      exact lm_boundsOf_391 (N := N) C hr hlk  (lv_sub hl [3, 1] rfl) h hm
  have hm := ite_f c55 hm
  by_cases c60 : (el σ 70 x1) = 12
  · refine x_topi (congrArg Int32.ofInt c60) ?_
    have hm := ite_t c60 hm
    refine lv_tableIn (tgt := 425) C.1 C.2.1 dX12_boundsOf_28 (by decide) (by decide) rfl (by decide) ?_
    refine lv_aload_n C.1 C.2.1 dX12_boundsOf_425 rfl (lv_at hl 3 rfl) ?_
    refine lv_aload_n C.1 C.2.1 dX12_boundsOf_426 rfl (lv_at hl 3 rfl) ?_
    refine fg_73 C h dX12_boundsOf_427 ?_
    refine lv_aload_n C.1 C.2.1 dX12_boundsOf_430 rfl (lv_at hl 3 rfl) ?_
    refine fg_75 C h dX12_boundsOf_431 ?_
    refine lv_lconst (v := Int64.ofInt 1) C.1 C.2.1 dX12_boundsOf_434 (by decide) ?_
    refine lv_lload C.1 C.2.1 dX12_boundsOf_435 (lv_at hl 0 rfl) ?_
    obtain ⟨r61, e62, hm⟩ := obd_s hm
    refine q_callVv C h (rc_bounds l D k g N σ (fl σ 73 0) (fl σ 75 0) 1 v6 r61 e62) (cwV 4 C.2.2.1 (gR_bounds _) rfl rfl rfl hd_bounds ⟨Nat.le_of_ble_eq_true rfl, Nat.le_of_ble_eq_true rfl⟩) rfl hl.1 rfl (Nat.le_of_ble_eq_true rfl) dX12_boundsOf_437 ⟨Nat.le_of_ble_eq_true rfl, Nat.le_of_ble_eq_true rfl⟩ (fun H locs h => ?_)
    refine lv_goto (tgt := 627) C.1 C.2.1 dX12_boundsOf_440 (by decide) ?_
    cases hm
    exact q_vret C h hr hlk dX12_boundsOf_627
  have hm := ite_f c60 hm
  by_cases c63 : (el σ 70 x1) = 13
  · refine x_topi (congrArg Int32.ofInt c63) ?_
    have hm := ite_t c63 hm
    refine lv_tableIn (tgt := 212) C.1 C.2.1 dX12_boundsOf_28 (by decide) (by decide) rfl (by decide) ?_
    refine lv_aload_n C.1 C.2.1 dX12_boundsOf_212 rfl (lv_at hl 3 rfl) ?_
    refine lv_aload_n C.1 C.2.1 dX12_boundsOf_213 rfl (lv_at hl 3 rfl) ?_
    refine fg_73 C h dX12_boundsOf_214 ?_
    refine lv_aload_n C.1 C.2.1 dX12_boundsOf_217 rfl (lv_at hl 3 rfl) ?_
    refine fg_75 C h dX12_boundsOf_218 ?_
    refine lv_aload_n C.1 C.2.1 dX12_boundsOf_221 rfl (lv_at hl 3 rfl) ?_
    refine fg_76 C h dX12_boundsOf_222 ?_
    refine lv_lload C.1 C.2.1 dX12_boundsOf_225 (lv_at hl 0 rfl) ?_
    obtain ⟨r64, e65, hm⟩ := obd_s hm
    refine q_callVv C h (rc_bounds l D k g N σ (fl σ 73 0) (fl σ 75 0) (fl σ 76 0) v6 r64 e65) (cwV 4 C.2.2.1 (gR_bounds _) rfl rfl rfl hd_bounds ⟨Nat.le_of_ble_eq_true rfl, Nat.le_of_ble_eq_true rfl⟩) rfl hl.1 rfl (Nat.le_of_ble_eq_true rfl) dX12_boundsOf_227 ⟨Nat.le_of_ble_eq_true rfl, Nat.le_of_ble_eq_true rfl⟩ (fun H locs h => ?_)
    refine lv_goto (tgt := 627) C.1 C.2.1 dX12_boundsOf_230 (by decide) ?_
    cases hm
    exact q_vret C h hr hlk dX12_boundsOf_627
  have hm := ite_f c63 hm
  by_cases c66 : (el σ 70 x1) = 14
  · refine x_topi (congrArg Int32.ofInt c66) ?_
    have hm := ite_t c66 hm
    refine lv_tableIn (tgt := 212) C.1 C.2.1 dX12_boundsOf_28 (by decide) (by decide) rfl (by decide) ?_
    refine lv_aload_n C.1 C.2.1 dX12_boundsOf_212 rfl (lv_at hl 3 rfl) ?_
    refine lv_aload_n C.1 C.2.1 dX12_boundsOf_213 rfl (lv_at hl 3 rfl) ?_
    refine fg_73 C h dX12_boundsOf_214 ?_
    refine lv_aload_n C.1 C.2.1 dX12_boundsOf_217 rfl (lv_at hl 3 rfl) ?_
    refine fg_75 C h dX12_boundsOf_218 ?_
    refine lv_aload_n C.1 C.2.1 dX12_boundsOf_221 rfl (lv_at hl 3 rfl) ?_
    refine fg_76 C h dX12_boundsOf_222 ?_
    refine lv_lload C.1 C.2.1 dX12_boundsOf_225 (lv_at hl 0 rfl) ?_
    obtain ⟨r67, e68, hm⟩ := obd_s hm
    refine q_callVv C h (rc_bounds l D k g N σ (fl σ 73 0) (fl σ 75 0) (fl σ 76 0) v6 r67 e68) (cwV 4 C.2.2.1 (gR_bounds _) rfl rfl rfl hd_bounds ⟨Nat.le_of_ble_eq_true rfl, Nat.le_of_ble_eq_true rfl⟩) rfl hl.1 rfl (Nat.le_of_ble_eq_true rfl) dX12_boundsOf_227 ⟨Nat.le_of_ble_eq_true rfl, Nat.le_of_ble_eq_true rfl⟩ (fun H locs h => ?_)
    refine lv_goto (tgt := 627) C.1 C.2.1 dX12_boundsOf_230 (by decide) ?_
    cases hm
    exact q_vret C h hr hlk dX12_boundsOf_627
  have hm := ite_f c66 hm
  by_cases c69 : (el σ 70 x1) = 15
  · refine x_topi (congrArg Int32.ofInt c69) ?_
    have hm := ite_t c69 hm
    refine lv_tableIn (tgt := 187) C.1 C.2.1 dX12_boundsOf_28 (by decide) (by decide) rfl (by decide) ?_
    refine lv_aload_n C.1 C.2.1 dX12_boundsOf_187 rfl (lv_at hl 3 rfl) ?_
    refine lv_aload_n C.1 C.2.1 dX12_boundsOf_188 rfl (lv_at hl 3 rfl) ?_
    refine fg_73 C h dX12_boundsOf_189 ?_
    refine lv_aload_n C.1 C.2.1 dX12_boundsOf_192 rfl (lv_at hl 3 rfl) ?_
    refine fg_74 C h dX12_boundsOf_193 ?_
    refine lv_aload_n C.1 C.2.1 dX12_boundsOf_196 rfl (lv_at hl 3 rfl) ?_
    refine fg_76 C h dX12_boundsOf_197 ?_
    refine lv_aload_n C.1 C.2.1 dX12_boundsOf_200 rfl (lv_at hl 3 rfl) ?_
    refine fg_77 C h dX12_boundsOf_201 ?_
    refine lv_lconst (v := Int64.ofInt 1) C.1 C.2.1 dX12_boundsOf_204 (by decide) ?_
    refine z_ladd C dX12_boundsOf_205 ?_
    obtain ⟨r70, e71, hm⟩ := obd_s hm
    refine q_callVv C h (rc_bounds l D k g N σ (fl σ 73 0) (fl σ 74 0) (fl σ 76 0) ((fl σ 77 0) + 1) r70 e71) (cwV 4 C.2.2.1 (gR_bounds _) rfl rfl rfl hd_bounds ⟨Nat.le_of_ble_eq_true rfl, Nat.le_of_ble_eq_true rfl⟩) rfl hl.1 rfl (Nat.le_of_ble_eq_true rfl) dX12_boundsOf_206 ⟨Nat.le_of_ble_eq_true rfl, Nat.le_of_ble_eq_true rfl⟩ (fun H locs h => ?_)
    refine lv_goto (tgt := 627) C.1 C.2.1 dX12_boundsOf_209 (by decide) ?_
    cases hm
    exact q_vret C h hr hlk dX12_boundsOf_627
  have hm := ite_f c69 hm
  by_cases c72 : (el σ 70 x1) = 16
  · refine x_topi (congrArg Int32.ofInt c72) ?_
    have hm := ite_t c72 hm
    refine lv_tableIn (tgt := 187) C.1 C.2.1 dX12_boundsOf_28 (by decide) (by decide) rfl (by decide) ?_
    refine lv_aload_n C.1 C.2.1 dX12_boundsOf_187 rfl (lv_at hl 3 rfl) ?_
    refine lv_aload_n C.1 C.2.1 dX12_boundsOf_188 rfl (lv_at hl 3 rfl) ?_
    refine fg_73 C h dX12_boundsOf_189 ?_
    refine lv_aload_n C.1 C.2.1 dX12_boundsOf_192 rfl (lv_at hl 3 rfl) ?_
    refine fg_74 C h dX12_boundsOf_193 ?_
    refine lv_aload_n C.1 C.2.1 dX12_boundsOf_196 rfl (lv_at hl 3 rfl) ?_
    refine fg_76 C h dX12_boundsOf_197 ?_
    refine lv_aload_n C.1 C.2.1 dX12_boundsOf_200 rfl (lv_at hl 3 rfl) ?_
    refine fg_77 C h dX12_boundsOf_201 ?_
    refine lv_lconst (v := Int64.ofInt 1) C.1 C.2.1 dX12_boundsOf_204 (by decide) ?_
    refine z_ladd C dX12_boundsOf_205 ?_
    obtain ⟨r73, e74, hm⟩ := obd_s hm
    refine q_callVv C h (rc_bounds l D k g N σ (fl σ 73 0) (fl σ 74 0) (fl σ 76 0) ((fl σ 77 0) + 1) r73 e74) (cwV 4 C.2.2.1 (gR_bounds _) rfl rfl rfl hd_bounds ⟨Nat.le_of_ble_eq_true rfl, Nat.le_of_ble_eq_true rfl⟩) rfl hl.1 rfl (Nat.le_of_ble_eq_true rfl) dX12_boundsOf_206 ⟨Nat.le_of_ble_eq_true rfl, Nat.le_of_ble_eq_true rfl⟩ (fun H locs h => ?_)
    refine lv_goto (tgt := 627) C.1 C.2.1 dX12_boundsOf_209 (by decide) ?_
    cases hm
    exact q_vret C h hr hlk dX12_boundsOf_627
  have hm := ite_f c72 hm
  by_cases c75 : (el σ 70 x1) = 17
  · refine x_topi (congrArg Int32.ofInt c75) ?_
    have hm := ite_t c75 hm
    refine lv_tableIn (tgt := 443) C.1 C.2.1 dX12_boundsOf_28 (by decide) (by decide) rfl (by decide) ?_
    refine lv_aload_n C.1 C.2.1 dX12_boundsOf_443 rfl (lv_at hl 3 rfl) ?_
    refine lv_aload_n C.1 C.2.1 dX12_boundsOf_444 rfl (lv_at hl 3 rfl) ?_
    refine fg_73 C h dX12_boundsOf_445 ?_
    refine lv_iload_n C.1 C.2.1 dX12_boundsOf_448 rfl (lv_at hl 2 rfl) ?_
    obtain ⟨g76, hm⟩ := grd_s hm
    refine z_i2l C dX12_boundsOf_449 g76 ?_
    obtain ⟨r77, e78, hm⟩ := obd_s hm
    refine q_callSl C h (rc_least l D k N (fl σ 73 0) v2 r77 e78) (cwS 2 C.2.2.1 (gR_least _) rfl rfl rfl hd_least ⟨Nat.le_of_ble_eq_true rfl, Nat.le_of_ble_eq_true rfl⟩) rfl hl.1 rfl (Nat.le_of_ble_eq_true rfl) dX12_boundsOf_450 ⟨Nat.le_of_ble_eq_true rfl, Nat.le_of_ble_eq_true rfl⟩ (fun H locs h => ?_)
    refine lv_ldc2 (v := 2) C.1 C.2.1 C.2.2.2.1 (C.2.2.1 _ (List.mem_cons_of_mem _ wk_433)) dX12_boundsOf_453 ?_
    refine x_topl (y := Int64.ofInt 2) (by decide) ?_
    refine lv_aload_n C.1 C.2.1 dX12_boundsOf_456 rfl (lv_at hl 3 rfl) ?_
    refine fg_75 C h dX12_boundsOf_457 ?_
    refine z_lmul C dX12_boundsOf_460 ?_
    refine lv_aload_n C.1 C.2.1 dX12_boundsOf_461 rfl (lv_at hl 3 rfl) ?_
    refine fg_76 C h dX12_boundsOf_462 ?_
    refine lv_ldc2 (v := 2) C.1 C.2.1 C.2.2.2.1 (C.2.2.1 _ (List.mem_cons_of_mem _ wk_433)) dX12_boundsOf_465 ?_
    refine x_topl (y := Int64.ofInt 2) (by decide) ?_
    refine lv_aload_n C.1 C.2.1 dX12_boundsOf_468 rfl (lv_at hl 3 rfl) ?_
    refine fg_78 C h dX12_boundsOf_469 ?_
    refine z_lmul C dX12_boundsOf_472 ?_
    refine lv_lconst (v := Int64.ofInt 1) C.1 C.2.1 dX12_boundsOf_473 (by decide) ?_
    refine z_ladd C dX12_boundsOf_474 ?_
    obtain ⟨r79, e80, hm⟩ := obd_s hm
    refine q_callVv C h (rc_bounds l D k g N σ r77 (2 * (fl σ 75 0)) (fl σ 76 0) ((2 * (fl σ 78 0)) + 1) r79 e80) (cwV 4 C.2.2.1 (gR_bounds _) rfl rfl rfl hd_bounds ⟨Nat.le_of_ble_eq_true rfl, Nat.le_of_ble_eq_true rfl⟩) rfl hl.1 rfl (Nat.le_of_ble_eq_true rfl) dX12_boundsOf_475 ⟨Nat.le_of_ble_eq_true rfl, Nat.le_of_ble_eq_true rfl⟩ (fun H locs h => ?_)
    refine lv_goto (tgt := 627) C.1 C.2.1 dX12_boundsOf_478 (by decide) ?_
    cases hm
    exact q_vret C h hr hlk dX12_boundsOf_627
  have hm := ite_f c75 hm
  by_cases c81 : (el σ 70 x1) = 18
  · refine x_topi (congrArg Int32.ofInt c81) ?_
    have hm := ite_t c81 hm
    refine lv_tableIn (tgt := 481) C.1 C.2.1 dX12_boundsOf_28 (by decide) (by decide) rfl (by decide) ?_
    refine lv_aload_n C.1 C.2.1 dX12_boundsOf_481 rfl (lv_at hl 3 rfl) ?_
    refine lv_aload_n C.1 C.2.1 dX12_boundsOf_482 rfl (lv_at hl 3 rfl) ?_
    refine fg_73 C h dX12_boundsOf_483 ?_
    refine lv_iload_n C.1 C.2.1 dX12_boundsOf_486 rfl (lv_at hl 2 rfl) ?_
    obtain ⟨g82, hm⟩ := grd_s hm
    refine z_i2l C dX12_boundsOf_487 g82 ?_
    obtain ⟨r83, e84, hm⟩ := obd_s hm
    refine q_callSl C h (rc_times l D k N (fl σ 73 0) v2 r83 e84) (cwS 2 C.2.2.1 (gR_times _) rfl rfl rfl hd_times ⟨Nat.le_of_ble_eq_true rfl, Nat.le_of_ble_eq_true rfl⟩) rfl hl.1 rfl (Nat.le_of_ble_eq_true rfl) dX12_boundsOf_488 ⟨Nat.le_of_ble_eq_true rfl, Nat.le_of_ble_eq_true rfl⟩ (fun H locs h => ?_)
    refine lv_iload_n C.1 C.2.1 dX12_boundsOf_491 rfl (lv_at hl 2 rfl) ?_
    refine z_i2l C dX12_boundsOf_492 g82 ?_
    refine lv_aload_n C.1 C.2.1 dX12_boundsOf_493 rfl (lv_at hl 3 rfl) ?_
    refine fg_75 C h dX12_boundsOf_494 ?_
    refine z_lmul C dX12_boundsOf_497 ?_
    refine lv_aload_n C.1 C.2.1 dX12_boundsOf_498 rfl (lv_at hl 3 rfl) ?_
    refine fg_76 C h dX12_boundsOf_499 ?_
    refine lv_lconst (v := Int64.ofInt 1) C.1 C.2.1 dX12_boundsOf_502 (by decide) ?_
    refine z_ladd C dX12_boundsOf_503 ?_
    refine z_lmul C dX12_boundsOf_504 ?_
    refine lv_aload_n C.1 C.2.1 dX12_boundsOf_505 rfl (lv_at hl 3 rfl) ?_
    refine fg_76 C h dX12_boundsOf_506 ?_
    refine lv_aload_n C.1 C.2.1 dX12_boundsOf_509 rfl (lv_at hl 3 rfl) ?_
    refine fg_76 C h dX12_boundsOf_510 ?_
    refine lv_lconst (v := Int64.ofInt 1) C.1 C.2.1 dX12_boundsOf_513 (by decide) ?_
    refine z_ladd C dX12_boundsOf_514 ?_
    refine lv_aload_n C.1 C.2.1 dX12_boundsOf_515 rfl (lv_at hl 3 rfl) ?_
    refine fg_78 C h dX12_boundsOf_516 ?_
    refine lv_iload_n C.1 C.2.1 dX12_boundsOf_519 rfl (lv_at hl 2 rfl) ?_
    refine z_i2l C dX12_boundsOf_520 g82 ?_
    refine lv_aload_n C.1 C.2.1 dX12_boundsOf_521 rfl (lv_at hl 3 rfl) ?_
    refine fg_75 C h dX12_boundsOf_522 ?_
    refine z_lmul C dX12_boundsOf_525 ?_
    refine z_ladd C dX12_boundsOf_526 ?_
    refine z_lmul C dX12_boundsOf_527 ?_
    refine lv_lconst (v := Int64.ofInt 1) C.1 C.2.1 dX12_boundsOf_528 (by decide) ?_
    refine z_ladd C dX12_boundsOf_529 ?_
    obtain ⟨r85, e86, hm⟩ := obd_s hm
    refine q_callVv C h (rc_bounds l D k g N σ r83 ((v2 * (fl σ 75 0)) * ((fl σ 76 0) + 1)) (fl σ 76 0) ((((fl σ 76 0) + 1) * ((fl σ 78 0) + (v2 * (fl σ 75 0)))) + 1) r85 e86) (cwV 4 C.2.2.1 (gR_bounds _) rfl rfl rfl hd_bounds ⟨Nat.le_of_ble_eq_true rfl, Nat.le_of_ble_eq_true rfl⟩) rfl hl.1 rfl (Nat.le_of_ble_eq_true rfl) dX12_boundsOf_530 ⟨Nat.le_of_ble_eq_true rfl, Nat.le_of_ble_eq_true rfl⟩ (fun H locs h => ?_)
    refine lv_goto (tgt := 627) C.1 C.2.1 dX12_boundsOf_533 (by decide) ?_
    cases hm
    exact q_vret C h hr hlk dX12_boundsOf_627
  have hm := ite_f c81 hm
  by_cases c87 : (el σ 70 x1) = 19
  · refine x_topi (congrArg Int32.ofInt c87) ?_
    have hm := ite_t c87 hm
    refine lv_tableIn (tgt := 536) C.1 C.2.1 dX12_boundsOf_28 (by decide) (by decide) rfl (by decide) ?_
    refine lv_aload_n C.1 C.2.1 dX12_boundsOf_536 rfl (lv_at hl 3 rfl) ?_
    refine lv_aload_n C.1 C.2.1 dX12_boundsOf_537 rfl (lv_at hl 3 rfl) ?_
    refine fg_73 C h dX12_boundsOf_538 ?_
    refine lv_aload_n C.1 C.2.1 dX12_boundsOf_541 rfl (lv_at hl 3 rfl) ?_
    refine fg_75 C h dX12_boundsOf_542 ?_
    refine lv_aload_n C.1 C.2.1 dX12_boundsOf_545 rfl (lv_at hl 3 rfl) ?_
    refine fg_76 C h dX12_boundsOf_546 ?_
    refine lv_aload_n C.1 C.2.1 dX12_boundsOf_549 rfl (lv_at hl 3 rfl) ?_
    refine fg_78 C h dX12_boundsOf_550 ?_
    refine lv_aload_n C.1 C.2.1 dX12_boundsOf_553 rfl (lv_at hl 3 rfl) ?_
    refine fg_75 C h dX12_boundsOf_554 ?_
    refine z_ladd C dX12_boundsOf_557 ?_
    refine lv_lconst (v := Int64.ofInt 1) C.1 C.2.1 dX12_boundsOf_558 (by decide) ?_
    refine z_ladd C dX12_boundsOf_559 ?_
    obtain ⟨r88, e89, hm⟩ := obd_s hm
    refine q_callVv C h (rc_bounds l D k g N σ (fl σ 73 0) (fl σ 75 0) (fl σ 76 0) (((fl σ 78 0) + (fl σ 75 0)) + 1) r88 e89) (cwV 4 C.2.2.1 (gR_bounds _) rfl rfl rfl hd_bounds ⟨Nat.le_of_ble_eq_true rfl, Nat.le_of_ble_eq_true rfl⟩) rfl hl.1 rfl (Nat.le_of_ble_eq_true rfl) dX12_boundsOf_560 ⟨Nat.le_of_ble_eq_true rfl, Nat.le_of_ble_eq_true rfl⟩ (fun H locs h => ?_)
    refine lv_goto (tgt := 627) C.1 C.2.1 dX12_boundsOf_563 (by decide) ?_
    cases hm
    exact q_vret C h hr hlk dX12_boundsOf_627
  have hm := ite_f c87 hm
  by_cases c90 : (el σ 70 x1) = 20
  · refine x_topi (congrArg Int32.ofInt c90) ?_
    have hm := ite_t c90 hm
    refine lv_tableIn (tgt := 566) C.1 C.2.1 dX12_boundsOf_28 (by decide) (by decide) rfl (by decide) ?_
    refine lv_aload_n C.1 C.2.1 dX12_boundsOf_566 rfl (lv_at hl 3 rfl) ?_
    refine lv_iload_n C.1 C.2.1 dX12_boundsOf_567 rfl (lv_at hl 1 rfl) ?_
    obtain ⟨g91, hm⟩ := grd_s hm
    refine z_i2l C dX12_boundsOf_568 g91 ?_
    refine lv_aload_n C.1 C.2.1 dX12_boundsOf_569 rfl (lv_at hl 3 rfl) ?_
    refine fg_73 C h dX12_boundsOf_570 ?_
    refine lv_aload_n C.1 C.2.1 dX12_boundsOf_573 rfl (lv_at hl 3 rfl) ?_
    refine lv_iload_n C.1 C.2.1 dX12_boundsOf_574 rfl (lv_at hl 4 rfl) ?_
    obtain ⟨r92, e93, hm⟩ := obd_s hm
    refine q_callVi C h (rc_spanBelow l D k g N σ x1 r92 e93) (cwV 1 C.2.2.1 (gR_spanBelow _) rfl rfl rfl hd_spanBelow ⟨Nat.le_of_ble_eq_true rfl, Nat.le_of_ble_eq_true rfl⟩) rfl hl.1 rfl (Nat.le_of_ble_eq_true rfl) dX12_boundsOf_575 ⟨Nat.le_of_ble_eq_true rfl, Nat.le_of_ble_eq_true rfl⟩ (fun H locs h => ?_)
    obtain ⟨g94, hm⟩ := grd_s hm
    refine z_i2l C dX12_boundsOf_578 g94 ?_
    obtain ⟨r95, e96, hm⟩ := obd_s hm
    refine q_callSl C h (rc_times l D k N (fl σ 73 0) r92.2 r95 e96) (cwS 2 C.2.2.1 (gR_times _) rfl rfl rfl hd_times ⟨Nat.le_of_ble_eq_true rfl, Nat.le_of_ble_eq_true rfl⟩) rfl hl.1 rfl (Nat.le_of_ble_eq_true rfl) dX12_boundsOf_579 ⟨Nat.le_of_ble_eq_true rfl, Nat.le_of_ble_eq_true rfl⟩ (fun H locs h => ?_)
    obtain ⟨r97, e98, hm⟩ := obd_s hm
    refine q_callSl C h (rc_least l D k N v4 r95 r97 e98) (cwS 2 C.2.2.1 (gR_least _) rfl rfl rfl hd_least ⟨Nat.le_of_ble_eq_true rfl, Nat.le_of_ble_eq_true rfl⟩) rfl hl.1 rfl (Nat.le_of_ble_eq_true rfl) dX12_boundsOf_582 ⟨Nat.le_of_ble_eq_true rfl, Nat.le_of_ble_eq_true rfl⟩ (fun H locs h => ?_)
    refine lv_aload_n C.1 C.2.1 dX12_boundsOf_585 rfl (lv_at hl 3 rfl) ?_
    refine fg_75 C h dX12_boundsOf_586 ?_
    refine lv_aload_n C.1 C.2.1 dX12_boundsOf_589 rfl (lv_at hl 3 rfl) ?_
    refine fg_76 C h dX12_boundsOf_590 ?_
    refine lv_lload C.1 C.2.1 dX12_boundsOf_593 (lv_at hl 0 rfl) ?_
    obtain ⟨r99, e100, hm⟩ := obd_s hm
    refine q_callVv C h (rc_bounds l D k g N r92.1 r97 (fl r92.1 75 0) (fl r92.1 76 0) v6 r99 e100) (cwV 4 C.2.2.1 (gR_bounds _) rfl rfl rfl hd_bounds ⟨Nat.le_of_ble_eq_true rfl, Nat.le_of_ble_eq_true rfl⟩) rfl hl.1 rfl (Nat.le_of_ble_eq_true rfl) dX12_boundsOf_595 ⟨Nat.le_of_ble_eq_true rfl, Nat.le_of_ble_eq_true rfl⟩ (fun H locs h => ?_)
    refine lv_goto (tgt := 627) C.1 C.2.1 dX12_boundsOf_598 (by decide) ?_
    cases hm
    exact q_vret C h hr hlk dX12_boundsOf_627
  have hm := ite_f c90 hm
  by_cases c101 : (el σ 70 x1) = 21
  · refine x_topi (congrArg Int32.ofInt c101) ?_
    have hm := ite_t c101 hm
    refine lv_tableIn (tgt := 601) C.1 C.2.1 dX12_boundsOf_28 (by decide) (by decide) rfl (by decide) ?_
    refine lv_aload_n C.1 C.2.1 dX12_boundsOf_601 rfl (lv_at hl 3 rfl) ?_
    refine lv_aload_n C.1 C.2.1 dX12_boundsOf_602 rfl (lv_at hl 3 rfl) ?_
    refine fg_73 C h dX12_boundsOf_603 ?_
    refine lv_aload_n C.1 C.2.1 dX12_boundsOf_606 rfl (lv_at hl 3 rfl) ?_
    refine fg_75 C h dX12_boundsOf_607 ?_
    refine lv_aload_n C.1 C.2.1 dX12_boundsOf_610 rfl (lv_at hl 3 rfl) ?_
    refine fg_76 C h dX12_boundsOf_611 ?_
    refine lv_lload C.1 C.2.1 dX12_boundsOf_614 (lv_at hl 0 rfl) ?_
    obtain ⟨r102, e103, hm⟩ := obd_s hm
    refine q_callVv C h (rc_bounds l D k g N σ (fl σ 73 0) (fl σ 75 0) (fl σ 76 0) v6 r102 e103) (cwV 4 C.2.2.1 (gR_bounds _) rfl rfl rfl hd_bounds ⟨Nat.le_of_ble_eq_true rfl, Nat.le_of_ble_eq_true rfl⟩) rfl hl.1 rfl (Nat.le_of_ble_eq_true rfl) dX12_boundsOf_616 ⟨Nat.le_of_ble_eq_true rfl, Nat.le_of_ble_eq_true rfl⟩ (fun H locs h => ?_)
    refine lv_goto (tgt := 627) C.1 C.2.1 dX12_boundsOf_619 (by decide) ?_
    cases hm
    exact q_vret C h hr hlk dX12_boundsOf_627
  have hm := ite_f c101 hm
  by_cases c104 : (el σ 70 x1) = 22
  · refine x_topi (congrArg Int32.ofInt c104) ?_
    have hm := ite_t c104 hm
    refine lv_tableIn (tgt := 601) C.1 C.2.1 dX12_boundsOf_28 (by decide) (by decide) rfl (by decide) ?_
    refine lv_aload_n C.1 C.2.1 dX12_boundsOf_601 rfl (lv_at hl 3 rfl) ?_
    refine lv_aload_n C.1 C.2.1 dX12_boundsOf_602 rfl (lv_at hl 3 rfl) ?_
    refine fg_73 C h dX12_boundsOf_603 ?_
    refine lv_aload_n C.1 C.2.1 dX12_boundsOf_606 rfl (lv_at hl 3 rfl) ?_
    refine fg_75 C h dX12_boundsOf_607 ?_
    refine lv_aload_n C.1 C.2.1 dX12_boundsOf_610 rfl (lv_at hl 3 rfl) ?_
    refine fg_76 C h dX12_boundsOf_611 ?_
    refine lv_lload C.1 C.2.1 dX12_boundsOf_614 (lv_at hl 0 rfl) ?_
    obtain ⟨r105, e106, hm⟩ := obd_s hm
    refine q_callVv C h (rc_bounds l D k g N σ (fl σ 73 0) (fl σ 75 0) (fl σ 76 0) v6 r105 e106) (cwV 4 C.2.2.1 (gR_bounds _) rfl rfl rfl hd_bounds ⟨Nat.le_of_ble_eq_true rfl, Nat.le_of_ble_eq_true rfl⟩) rfl hl.1 rfl (Nat.le_of_ble_eq_true rfl) dX12_boundsOf_616 ⟨Nat.le_of_ble_eq_true rfl, Nat.le_of_ble_eq_true rfl⟩ (fun H locs h => ?_)
    refine lv_goto (tgt := 627) C.1 C.2.1 dX12_boundsOf_619 (by decide) ?_
    cases hm
    exact q_vret C h hr hlk dX12_boundsOf_627
  have hm := ite_f c104 hm
  refine lv_tableOut (tgt := 622) C.1 C.2.1 dX12_boundsOf_28 (by rw [c32_ti g8]; omega) (by decide) ?_
  refine lv_aload_n C.1 C.2.1 dX12_boundsOf_622 rfl (lv_at hl 3 rfl) ?_
  refine lv_iload_n C.1 C.2.1 dX12_boundsOf_623 rfl (lv_at hl 4 rfl) ?_
  obtain ⟨r107, e108, hm⟩ := obd_s hm
  refine q_callVv C h (rc_ofTwo l D k g N σ x1 r107 e108) (cwV 1 C.2.2.1 (gR_ofTwo _) rfl rfl rfl hd_ofTwo ⟨Nat.le_of_ble_eq_true rfl, Nat.le_of_ble_eq_true rfl⟩) rfl hl.1 rfl (Nat.le_of_ble_eq_true rfl) dX12_boundsOf_624 ⟨Nat.le_of_ble_eq_true rfl, Nat.le_of_ble_eq_true rfl⟩ (fun H locs h => ?_)
  cases hm
  exact q_vret C h hr hlk dX12_boundsOf_627
end L_boundsOf
section L_made
variable {p : Program} {l : Launch} {e : Env} {s : State} {m : MethodId} {args : Array Value} {below : List Frame} {meth : Method} {c : Code} {D : va_G} {A : Nat → Prop} {k : Nat → ClassId} {g : Nat → Nat} {N : Nat} {cd : Cond}
set_option maxHeartbeats 4000000 in
set_option maxRecDepth 100000 in
theorem lm_made_140 {r : St} (C : Cx p s m args c cX12_made RX12 (cd :: rW) D (TYs k) 4) (hr : meth.sig.returnType = none) (hlk : meth.locks = false)  {ls : Array Slot} {H : Heap} {locs : List Loc} {σ : St} {x2 : Int} (hl : lv_has ls 4 [(0, .ref (g 0)), (2, .int (Int32.ofInt x2))]) (h : Hp D A s.heap H locs (mW k g σ)) (hm : r_made_140 N  σ x2 = some r) : W p l e { frames := 3, cells := 0, slots := 0, locals := 80 } s m args below meth c H locs 0 0 (MQ below (va_Qv (fun (_ : Unit) => True) (fun _ t => PostW D (TYs k) A (mW k g r) t) A) args s 0 0 A) (F0 m 140 ls []) := by
  rw [r_made_140] at hm
  refine lv_aload_n C.1 C.2.1 dX12_made_140 rfl (lv_at hl 0 rfl) ?_
  refine fg_11 C h dX12_made_141 ?_
  obtain ⟨g31, hm⟩ := grd_s hm
  refine z_if_eq (tgt := 148) C dX12_made_144 (by decide) g31 (fun c32 => ?_) (fun c32 => ?_)
  · have hm := ite_t c32 hm
    refine lv_aload_n C.1 C.2.1 dX12_made_148 rfl (lv_at hl 0 rfl) ?_
    refine fg_56 C h dX12_made_149 ?_
    refine lv_iload_n C.1 C.2.1 dX12_made_152 rfl (lv_at hl 1 rfl) ?_
    refine lv_aload_n C.1 C.2.1 dX12_made_153 rfl (lv_at hl 0 rfl) ?_
    refine fg_80 C h dX12_made_154 ?_
    refine z_l2i C dX12_made_157 ?_
    obtain ⟨g33, hm⟩ := grd_s hm
    refine as_63 C h dX12_made_158 g33 (fun H locs h => ?_)
    refine lv_aload_n C.1 C.2.1 dX12_made_159 rfl (lv_at hl 0 rfl) ?_
    refine fg_57 C h dX12_made_160 ?_
    refine lv_iload_n C.1 C.2.1 dX12_made_163 rfl (lv_at hl 1 rfl) ?_
    refine lv_aload_n C.1 C.2.1 dX12_made_164 rfl (lv_at hl 0 rfl) ?_
    refine fg_81 C h dX12_made_165 ?_
    refine x_topl (y := Int64.ofInt (fl σ 81 0)) rfl ?_
    refine z_l2i C dX12_made_168 ?_
    refine as_62 C h dX12_made_169 g33 (fun H locs h => ?_)
    refine lv_aload_n C.1 C.2.1 dX12_made_170 rfl (lv_at hl 0 rfl) ?_
    refine fg_58 C h dX12_made_171 ?_
    refine lv_iload_n C.1 C.2.1 dX12_made_174 rfl (lv_at hl 1 rfl) ?_
    refine lv_aload_n C.1 C.2.1 dX12_made_175 rfl (lv_at hl 0 rfl) ?_
    refine fg_82 C h dX12_made_176 ?_
    refine x_topl (y := Int64.ofInt (fl σ 82 0)) rfl ?_
    refine z_l2i C dX12_made_179 ?_
    refine as_61 C h dX12_made_180 g33 (fun H locs h => ?_)
    refine lv_aload_n C.1 C.2.1 dX12_made_181 rfl (lv_at hl 0 rfl) ?_
    refine fg_59 C h dX12_made_182 ?_
    refine lv_iload_n C.1 C.2.1 dX12_made_185 rfl (lv_at hl 1 rfl) ?_
    refine lv_aload_n C.1 C.2.1 dX12_made_186 rfl (lv_at hl 0 rfl) ?_
    refine fg_83 C h dX12_made_187 ?_
    refine x_topl (y := Int64.ofInt (fl σ 83 0)) rfl ?_
    refine z_l2i C dX12_made_190 ?_
    refine as_60 C h dX12_made_191 g33 (fun H locs h => ?_)
    refine lv_aload_n C.1 C.2.1 dX12_made_192 rfl (lv_at hl 0 rfl) ?_
    refine fg_60 C h dX12_made_193 ?_
    refine lv_iload_n C.1 C.2.1 dX12_made_196 rfl (lv_at hl 1 rfl) ?_
    refine lv_aload_n C.1 C.2.1 dX12_made_197 rfl (lv_at hl 0 rfl) ?_
    refine fg_79 C h dX12_made_198 ?_
    refine x_topi (y := Int32.ofInt (fl σ 79 0)) rfl ?_
    refine lv_iconst (v := Int32.ofInt 1) C.1 C.2.1 dX12_made_201 (by decide) ?_
    refine z_iadd C dX12_made_202 ?_
    refine as_59 C h dX12_made_203 g33 (fun H locs h => ?_)
    refine lv_aload_n C.1 C.2.1 dX12_made_204 rfl (lv_at hl 0 rfl) ?_
    refine lv_dup C.1 C.2.1 dX12_made_205 rfl ?_
    refine fg_48 C h dX12_made_206 ?_
    refine x_topi (y := Int32.ofInt (fl σ 48 0)) rfl ?_
    refine lv_iconst (v := Int32.ofInt 1) C.1 C.2.1 dX12_made_209 (by decide) ?_
    refine z_iadd C dX12_made_210 ?_
    refine fp_48 C h dX12_made_211 (fun H locs h => ?_)
    refine lv_aload_n C.1 C.2.1 dX12_made_214 rfl (lv_at hl 0 rfl) ?_
    refine lv_dup C.1 C.2.1 dX12_made_215 rfl ?_
    refine fg_64 C h dX12_made_216 ?_
    refine x_topi (y := Int32.ofInt (fl σ 64 0)) rfl ?_
    refine lv_iconst (v := Int32.ofInt 1) C.1 C.2.1 dX12_made_219 (by decide) ?_
    refine z_iadd C dX12_made_220 ?_
    refine fp_64 C h dX12_made_221 (fun H locs h => ?_)
    refine lv_aload_n C.1 C.2.1 dX12_made_224 rfl (lv_at hl 0 rfl) ?_
    refine lv_iload_n C.1 C.2.1 dX12_made_225 rfl (lv_at hl 1 rfl) ?_
    obtain ⟨σ34, e35, hm⟩ := bnd_s hm
    rw [e35] at h
    obtain ⟨r36, e37, hm⟩ := obd_s hm
    refine q_callVv C h (rc_push l D k g N σ34 x2 r36 e37) (cwV 1 C.2.2.1 (gR_push _) rfl rfl rfl hd_push ⟨Nat.le_of_ble_eq_true rfl, Nat.le_of_ble_eq_true rfl⟩) rfl hl.1 rfl (Nat.le_of_ble_eq_true rfl) dX12_made_226 ⟨Nat.le_of_ble_eq_true rfl, Nat.le_of_ble_eq_true rfl⟩ (fun H locs h => ?_)
    cases hm
    exact q_vret C h hr hlk dX12_made_229
  · have hm := ite_f c32 hm
    cases hm
    exact q_vret C h hr hlk dX12_made_147
set_option maxHeartbeats 4000000 in
set_option maxRecDepth 100000 in
theorem rc_made (l : Launch) (D : va_G) (k : Nat → ClassId) (g : Nat → Nat) (N : Nat) (σ : St) (x1 : Int) (r : St) (hm : r_made N σ x1 = some r) : Mv l yX12_made (.code yX12_made cX12_made 4 none :: rW) { frames := 3, cells := 0, slots := 0, locals := 80 } [.ref (g 0), .int (Int32.ofInt x1)] D (TYs k) (mW k g σ) (fun _ => True) Unit (fun _ => True) (fun _ => mW k g r) 0 0 := by
  intro sz
  refine x_met (cc := cX12_made) (maxL := 4) (ret := none) (by decide) rfl (Nat.le_of_ble_eq_true rfl) ?_
  intro p e s m below meth c ls C hX hsz hr hlk hmn hl h
  have hl : lv_has ls 4 [(0, .ref (g 0)), (1, .int (Int32.ofInt x1))] := hl
  rw [r_made] at hm
  refine lv_aload_n C.1 C.2.1 dX12_made_0 rfl (lv_at hl 0 rfl) ?_
  refine fg_48 C h dX12_made_1 ?_
  refine lv_istore_n (lv' := [(2, .int (Int32.ofInt (fl σ 48 0))), (0, .ref (g 0)), (1, .int (Int32.ofInt x1))]) C.1 C.2.1 dX12_made_4 rfl hl (by decide) rfl (fun ls hl => ?_)
  refine lv_aload_n C.1 C.2.1 dX12_made_5 rfl (lv_at hl 1 rfl) ?_
  refine lv_iload_n C.1 C.2.1 dX12_made_6 rfl (lv_at hl 2 rfl) ?_
  obtain ⟨r1, e2, hm⟩ := obd_s hm
  refine q_callVi C h (rc_spot l D k g N σ x1 r1 e2) (cwV 1 C.2.2.1 (gR_spot _) rfl rfl rfl hd_spot ⟨Nat.le_of_ble_eq_true rfl, Nat.le_of_ble_eq_true rfl⟩) rfl hl.1 rfl (Nat.le_of_ble_eq_true rfl) dX12_made_7 ⟨Nat.le_of_ble_eq_true rfl, Nat.le_of_ble_eq_true rfl⟩ (fun H locs h => ?_)
  refine lv_istore_n (lv' := [(3, .int (Int32.ofInt r1.2)), (2, .int (Int32.ofInt (fl σ 48 0))), (0, .ref (g 0)), (1, .int (Int32.ofInt x1))]) C.1 C.2.1 dX12_made_10 rfl hl (by decide) rfl (fun ls hl => ?_)
  refine lv_aload_n C.1 C.2.1 dX12_made_11 rfl (lv_at hl 2 rfl) ?_
  refine fg_64 C h dX12_made_12 ?_
  refine lv_sipush (v := Int32.ofInt 200) C.1 C.2.1 dX12_made_15 (by decide) ?_
  obtain ⟨g3, hm⟩ := grd_s hm
  refine z_icmp_ne (tgt := 28) C dX12_made_18 (by decide) g3 (by decide) (fun c4 => ?_) (fun c4 => ?_)
  · have hm := ite_f c4 hm
    refine lv_aload_n C.1 C.2.1 dX12_made_28 rfl (lv_at hl 2 rfl) ?_
    refine lv_iload_n C.1 C.2.1 dX12_made_29 rfl (lv_at hl 1 rfl) ?_
    obtain ⟨r5, e6, hm⟩ := obd_s hm
    refine q_callVv C h (rc_gather l D k g N r1.1 (fl σ 48 0) r5 e6) (cwV 1 C.2.2.1 (gR_gather _) rfl rfl rfl hd_gather ⟨Nat.le_of_ble_eq_true rfl, Nat.le_of_ble_eq_true rfl⟩) rfl hl.1 rfl (Nat.le_of_ble_eq_true rfl) dX12_made_30 ⟨Nat.le_of_ble_eq_true rfl, Nat.le_of_ble_eq_true rfl⟩ (fun H locs h => ?_)
    refine lv_aload_n C.1 C.2.1 dX12_made_33 rfl (lv_at hl 2 rfl) ?_
    refine lv_iload_n C.1 C.2.1 dX12_made_34 rfl (lv_at hl 1 rfl) ?_
    obtain ⟨r7, e8, hm⟩ := obd_s hm
    refine q_callVv C h (rc_boundsOf l D k g N r5 (fl σ 48 0) r7 e8) (cwV 1 C.2.2.1 (gR_boundsOf _) rfl rfl rfl hd_boundsOf ⟨Nat.le_of_ble_eq_true rfl, Nat.le_of_ble_eq_true rfl⟩) rfl hl.1 rfl (Nat.le_of_ble_eq_true rfl) dX12_made_35 ⟨Nat.le_of_ble_eq_true rfl, Nat.le_of_ble_eq_true rfl⟩ (fun H locs h => ?_)
    refine lv_aload_n C.1 C.2.1 dX12_made_38 rfl (lv_at hl 2 rfl) ?_
    refine fg_80 C h dX12_made_39 ?_
    refine lv_ldc2 (v := 1000000) C.1 C.2.1 C.2.2.2.1 (C.2.2.1 _ (List.mem_cons_of_mem _ wk_399)) dX12_made_42 ?_
    refine x_topl (y := Int64.ofInt 1000000) (by decide) ?_
    obtain ⟨g9, hm⟩ := grd_s hm
    refine W.lcmp C.1 C.2.1 dX12_made_45 ?_
    refine z_lcmp_le (tgt := 59) C dX12_made_46 (by decide) g9 (by decide) (fun c10 => ?_) (fun c10 => ?_)
    · have hm := ite_f c10 hm
      refine lv_aload_n C.1 C.2.1 dX12_made_59 rfl (lv_at hl 2 rfl) ?_
      refine fg_81 C h dX12_made_60 ?_
      refine lv_ldc2 (v := 400) C.1 C.2.1 C.2.2.2.1 (C.2.2.1 _ (List.mem_cons_of_mem _ wk_404)) dX12_made_63 ?_
      refine x_topl (y := Int64.ofInt 400) (by decide) ?_
      obtain ⟨g11, hm⟩ := grd_s hm
      refine W.lcmp C.1 C.2.1 dX12_made_66 ?_
      refine z_lcmp_le (tgt := 80) C dX12_made_67 (by decide) g11 (by decide) (fun c12 => ?_) (fun c12 => ?_)
      · have hm := ite_f c12 hm
        refine lv_aload_n C.1 C.2.1 dX12_made_80 rfl (lv_at hl 2 rfl) ?_
        refine fg_82 C h dX12_made_81 ?_
        refine lv_ldc2 (v := 64) C.1 C.2.1 C.2.2.2.1 (C.2.2.1 _ (List.mem_cons_of_mem _ wk_409)) dX12_made_84 ?_
        refine x_topl (y := Int64.ofInt 64) (by decide) ?_
        obtain ⟨g13, hm⟩ := grd_s hm
        refine W.lcmp C.1 C.2.1 dX12_made_87 ?_
        refine z_lcmp_le (tgt := 101) C dX12_made_88 (by decide) g13 (by decide) (fun c14 => ?_) (fun c14 => ?_)
        · have hm := ite_f c14 hm
          refine lv_aload_n C.1 C.2.1 dX12_made_101 rfl (lv_at hl 2 rfl) ?_
          refine fg_83 C h dX12_made_102 ?_
          refine lv_ldc2 (v := 50000) C.1 C.2.1 C.2.2.2.1 (C.2.2.1 _ (List.mem_cons_of_mem _ wk_414)) dX12_made_105 ?_
          refine x_topl (y := Int64.ofInt 50000) (by decide) ?_
          obtain ⟨g15, hm⟩ := grd_s hm
          refine W.lcmp C.1 C.2.1 dX12_made_108 ?_
          refine z_lcmp_le (tgt := 122) C dX12_made_109 (by decide) g15 (by decide) (fun c16 => ?_) (fun c16 => ?_)
          · have hm := ite_f c16 hm
            refine lv_aload_n C.1 C.2.1 dX12_made_122 rfl (lv_at hl 2 rfl) ?_
            refine fg_79 C h dX12_made_123 ?_
            refine lv_iconst (v := Int32.ofInt 1) C.1 C.2.1 dX12_made_126 (by decide) ?_
            refine z_iadd C dX12_made_127 ?_
            refine lv_bipush (v := Int32.ofInt 60) C.1 C.2.1 dX12_made_128 (by decide) ?_
            obtain ⟨g17, hm⟩ := grd_s hm
            refine z_icmp_le (tgt := 140) C dX12_made_130 (by decide) g17 (by decide) (fun c18 => ?_) (fun c18 => ?_)
            · have hm := ite_f c18 hm
              exact lm_made_140 (N := N) C hr hlk  (lv_sub hl [2, 1] rfl) h hm
            · have hm := ite_t c18 hm
              refine lv_aload_n C.1 C.2.1 dX12_made_133 rfl (lv_at hl 2 rfl) ?_
              refine lv_bipush (v := Int32.ofInt 10) C.1 C.2.1 dX12_made_134 (by decide) ?_
              refine lv_iload_n C.1 C.2.1 dX12_made_136 rfl (lv_at hl 0 rfl) ?_
              obtain ⟨r19, e20, hm⟩ := obd_s hm
              refine q_callVv C h (rc_fail l D k g N r7 10 r1.2 r19 e20) (cwV 2 C.2.2.1 (gR_fail _) rfl rfl rfl hd_fail ⟨Nat.le_of_ble_eq_true rfl, Nat.le_of_ble_eq_true rfl⟩) rfl hl.1 rfl (Nat.le_of_ble_eq_true rfl) dX12_made_137 ⟨Nat.le_of_ble_eq_true rfl, Nat.le_of_ble_eq_true rfl⟩ (fun H locs h => ?_)
              exact lm_made_140 (N := N) C hr hlk  (lv_sub hl [2, 1] rfl) h hm
          · have hm := ite_t c16 hm
            refine lv_aload_n C.1 C.2.1 dX12_made_112 rfl (lv_at hl 2 rfl) ?_
            refine lv_bipush (v := Int32.ofInt 9) C.1 C.2.1 dX12_made_113 (by decide) ?_
            refine lv_iload_n C.1 C.2.1 dX12_made_115 rfl (lv_at hl 0 rfl) ?_
            obtain ⟨r21, e22, hm⟩ := obd_s hm
            refine q_callVv C h (rc_fail l D k g N r7 9 r1.2 r21 e22) (cwV 2 C.2.2.1 (gR_fail _) rfl rfl rfl hd_fail ⟨Nat.le_of_ble_eq_true rfl, Nat.le_of_ble_eq_true rfl⟩) rfl hl.1 rfl (Nat.le_of_ble_eq_true rfl) dX12_made_116 ⟨Nat.le_of_ble_eq_true rfl, Nat.le_of_ble_eq_true rfl⟩ (fun H locs h => ?_)
            refine lv_goto (tgt := 140) C.1 C.2.1 dX12_made_119 (by decide) ?_
            exact lm_made_140 (N := N) C hr hlk  (lv_sub hl [2, 1] rfl) h hm
        · have hm := ite_t c14 hm
          refine lv_aload_n C.1 C.2.1 dX12_made_91 rfl (lv_at hl 2 rfl) ?_
          refine lv_bipush (v := Int32.ofInt 8) C.1 C.2.1 dX12_made_92 (by decide) ?_
          refine lv_iload_n C.1 C.2.1 dX12_made_94 rfl (lv_at hl 0 rfl) ?_
          obtain ⟨r23, e24, hm⟩ := obd_s hm
          refine q_callVv C h (rc_fail l D k g N r7 8 r1.2 r23 e24) (cwV 2 C.2.2.1 (gR_fail _) rfl rfl rfl hd_fail ⟨Nat.le_of_ble_eq_true rfl, Nat.le_of_ble_eq_true rfl⟩) rfl hl.1 rfl (Nat.le_of_ble_eq_true rfl) dX12_made_95 ⟨Nat.le_of_ble_eq_true rfl, Nat.le_of_ble_eq_true rfl⟩ (fun H locs h => ?_)
          refine lv_goto (tgt := 140) C.1 C.2.1 dX12_made_98 (by decide) ?_
          exact lm_made_140 (N := N) C hr hlk  (lv_sub hl [2, 1] rfl) h hm
      · have hm := ite_t c12 hm
        refine lv_aload_n C.1 C.2.1 dX12_made_70 rfl (lv_at hl 2 rfl) ?_
        refine lv_bipush (v := Int32.ofInt 7) C.1 C.2.1 dX12_made_71 (by decide) ?_
        refine lv_iload_n C.1 C.2.1 dX12_made_73 rfl (lv_at hl 0 rfl) ?_
        obtain ⟨r25, e26, hm⟩ := obd_s hm
        refine q_callVv C h (rc_fail l D k g N r7 7 r1.2 r25 e26) (cwV 2 C.2.2.1 (gR_fail _) rfl rfl rfl hd_fail ⟨Nat.le_of_ble_eq_true rfl, Nat.le_of_ble_eq_true rfl⟩) rfl hl.1 rfl (Nat.le_of_ble_eq_true rfl) dX12_made_74 ⟨Nat.le_of_ble_eq_true rfl, Nat.le_of_ble_eq_true rfl⟩ (fun H locs h => ?_)
        refine lv_goto (tgt := 140) C.1 C.2.1 dX12_made_77 (by decide) ?_
        exact lm_made_140 (N := N) C hr hlk  (lv_sub hl [2, 1] rfl) h hm
    · have hm := ite_t c10 hm
      refine lv_aload_n C.1 C.2.1 dX12_made_49 rfl (lv_at hl 2 rfl) ?_
      refine lv_bipush (v := Int32.ofInt 6) C.1 C.2.1 dX12_made_50 (by decide) ?_
      refine lv_iload_n C.1 C.2.1 dX12_made_52 rfl (lv_at hl 0 rfl) ?_
      obtain ⟨r27, e28, hm⟩ := obd_s hm
      refine q_callVv C h (rc_fail l D k g N r7 6 r1.2 r27 e28) (cwV 2 C.2.2.1 (gR_fail _) rfl rfl rfl hd_fail ⟨Nat.le_of_ble_eq_true rfl, Nat.le_of_ble_eq_true rfl⟩) rfl hl.1 rfl (Nat.le_of_ble_eq_true rfl) dX12_made_53 ⟨Nat.le_of_ble_eq_true rfl, Nat.le_of_ble_eq_true rfl⟩ (fun H locs h => ?_)
      refine lv_goto (tgt := 140) C.1 C.2.1 dX12_made_56 (by decide) ?_
      exact lm_made_140 (N := N) C hr hlk  (lv_sub hl [2, 1] rfl) h hm
  · have hm := ite_t c4 hm
    refine lv_aload_n C.1 C.2.1 dX12_made_21 rfl (lv_at hl 2 rfl) ?_
    refine lv_iconst (v := Int32.ofInt 5) C.1 C.2.1 dX12_made_22 (by decide) ?_
    refine lv_iload_n C.1 C.2.1 dX12_made_23 rfl (lv_at hl 0 rfl) ?_
    obtain ⟨r29, e30, hm⟩ := obd_s hm
    refine q_callVv C h (rc_fail l D k g N r1.1 5 r1.2 r29 e30) (cwV 2 C.2.2.1 (gR_fail _) rfl rfl rfl hd_fail ⟨Nat.le_of_ble_eq_true rfl, Nat.le_of_ble_eq_true rfl⟩) rfl hl.1 rfl (Nat.le_of_ble_eq_true rfl) dX12_made_24 ⟨Nat.le_of_ble_eq_true rfl, Nat.le_of_ble_eq_true rfl⟩ (fun H locs h => ?_)
    cases hm
    exact q_vret C h hr hlk dX12_made_27
end L_made
section L_spanAbove
variable {p : Program} {l : Launch} {e : Env} {s : State} {m : MethodId} {args : Array Value} {below : List Frame} {meth : Method} {c : Code} {D : va_G} {A : Nat → Prop} {k : Nat → ClassId} {g : Nat → Nat} {N : Nat} {cd : Cond}
set_option maxHeartbeats 4000000 in
set_option maxRecDepth 100000 in
theorem rc_spanAbove (l : Launch) (D : va_G) (k : Nat → ClassId) (g : Nat → Nat) (N : Nat) (σ : St) (x1 : Int) (r : St × Int) (hm : r_spanAbove N σ x1 = some r) : Mi l yX12_spanAbove (.code yX12_spanAbove cX12_spanAbove 4 (some .int) :: rW) { frames := 1, cells := 0, slots := 0, locals := 24 } [.ref (g 0), .int (Int32.ofInt x1)] D (TYs k) (mW k g σ) (fun _ => True) Unit (fun v _ => v = Int32.ofInt r.2) (fun _ => mW k g r.1) 0 0 := by
  intro sz
  refine x_met (cc := cX12_spanAbove) (maxL := 4) (ret := (some .int)) (by decide) rfl (Nat.le_of_ble_eq_true rfl) ?_
  intro p e s m below meth c ls C hX hsz hr hlk hmn hl h
  have hl : lv_has ls 4 [(0, .ref (g 0)), (1, .int (Int32.ofInt x1))] := hl
  rw [r_spanAbove] at hm
  refine lv_aload_n C.1 C.2.1 dX12_spanAbove_0 rfl (lv_at hl 0 rfl) ?_
  refine fg_52 C h dX12_spanAbove_1 ?_
  refine lv_iload_n C.1 C.2.1 dX12_spanAbove_4 rfl (lv_at hl 1 rfl) ?_
  obtain ⟨g1, hm⟩ := grd_s hm
  refine al_67 C h dX12_spanAbove_5 g1 ?_
  refine lv_aload_n C.1 C.2.1 dX12_spanAbove_6 rfl (lv_at hl 0 rfl) ?_
  refine fg_51 C h dX12_spanAbove_7 ?_
  refine lv_iload_n C.1 C.2.1 dX12_spanAbove_10 rfl (lv_at hl 1 rfl) ?_
  refine al_68 C h dX12_spanAbove_11 g1 ?_
  refine z_imul C dX12_spanAbove_12 ?_
  refine lv_aload_n C.1 C.2.1 dX12_spanAbove_13 rfl (lv_at hl 0 rfl) ?_
  refine fg_50 C h dX12_spanAbove_14 ?_
  refine lv_iload_n C.1 C.2.1 dX12_spanAbove_17 rfl (lv_at hl 1 rfl) ?_
  refine al_69 C h dX12_spanAbove_18 g1 ?_
  refine lv_aload_n C.1 C.2.1 dX12_spanAbove_19 rfl (lv_at hl 0 rfl) ?_
  refine fg_53 C h dX12_spanAbove_20 ?_
  refine lv_iload_n C.1 C.2.1 dX12_spanAbove_23 rfl (lv_at hl 1 rfl) ?_
  refine al_66 C h dX12_spanAbove_24 g1 ?_
  refine z_imul C dX12_spanAbove_25 ?_
  refine z_isub C dX12_spanAbove_26 ?_
  obtain ⟨v2, e3, hm⟩ := bnd_s hm
  rw [e3]
  refine lv_istore_n (lv' := [(2, .int (Int32.ofInt v2)), (0, .ref (g 0)), (1, .int (Int32.ofInt x1))]) C.1 C.2.1 dX12_spanAbove_27 rfl hl (by decide) rfl (fun ls hl => ?_)
  refine lv_aload_n C.1 C.2.1 dX12_spanAbove_28 rfl (lv_at hl 1 rfl) ?_
  refine fg_51 C h dX12_spanAbove_29 ?_
  refine lv_iload_n C.1 C.2.1 dX12_spanAbove_32 rfl (lv_at hl 2 rfl) ?_
  refine al_68 C h dX12_spanAbove_33 g1 ?_
  refine lv_aload_n C.1 C.2.1 dX12_spanAbove_34 rfl (lv_at hl 1 rfl) ?_
  refine fg_53 C h dX12_spanAbove_35 ?_
  refine lv_iload_n C.1 C.2.1 dX12_spanAbove_38 rfl (lv_at hl 2 rfl) ?_
  refine al_66 C h dX12_spanAbove_39 g1 ?_
  refine z_imul C dX12_spanAbove_40 ?_
  obtain ⟨v4, e5, hm⟩ := bnd_s hm
  rw [e5]
  refine lv_istore_n (lv' := [(3, .int (Int32.ofInt v4)), (2, .int (Int32.ofInt v2)), (0, .ref (g 0)), (1, .int (Int32.ofInt x1))]) C.1 C.2.1 dX12_spanAbove_41 rfl hl (by decide) rfl (fun ls hl => ?_)
  refine lv_iload_n C.1 C.2.1 dX12_spanAbove_42 rfl (lv_at hl 1 rfl) ?_
  refine lv_iload_n C.1 C.2.1 dX12_spanAbove_43 rfl (lv_at hl 1 rfl) ?_
  refine lv_iload_n C.1 C.2.1 dX12_spanAbove_44 rfl (lv_at hl 0 rfl) ?_
  obtain ⟨r6, e7, hm⟩ := obd_s hm
  refine q_callSi C h (rc_common l D k N v2 v4 r6 e7) (cwS 2 C.2.2.1 (gR_common _) rfl rfl rfl hd_common ⟨Nat.le_of_ble_eq_true rfl, Nat.le_of_ble_eq_true rfl⟩) rfl hl.1 rfl (Nat.le_of_ble_eq_true rfl) dX12_spanAbove_45 ⟨Nat.le_of_ble_eq_true rfl, Nat.le_of_ble_eq_true rfl⟩ (fun H locs h => ?_)
  obtain ⟨g8, hm⟩ := grd_s hm
  obtain ⟨g9, hm⟩ := grd_s hm
  obtain ⟨g10, hm⟩ := grd_s hm
  refine z_idiv C dX12_spanAbove_48 g8 g9 g10 ?_
  cases hm
  exact q_iret C h hr hlk dX12_spanAbove_49 rfl
end L_spanAbove
section L_one
variable {p : Program} {l : Launch} {e : Env} {s : State} {m : MethodId} {args : Array Value} {below : List Frame} {meth : Method} {c : Code} {D : va_G} {A : Nat → Prop} {k : Nat → ClassId} {g : Nat → Nat} {N : Nat} {cd : Cond}
set_option maxHeartbeats 4000000 in
set_option maxRecDepth 100000 in
theorem rc_one (l : Launch) (D : va_G) (k : Nat → ClassId) (g : Nat → Nat) (N : Nat) (σ : St) (x1 : Int) (x2 : Int) (x3 : Int) (x4 : Int) (x5 : Int) (x6 : Int) (r : St) (hm : r_one N σ x1 x2 x3 x4 x5 x6 = some r) : Mv l yX12_one (.code yX12_one cX12_one 8 none :: rW) { frames := 4, cells := 0, slots := 0, locals := 103 } [.ref (g 0), .int (Int32.ofInt x1), .int (Int32.ofInt x2), .int (Int32.ofInt x3), .int (Int32.ofInt x4), .int (Int32.ofInt x5), .int (Int32.ofInt x6)] D (TYs k) (mW k g σ) (fun _ => True) Unit (fun _ => True) (fun _ => mW k g r) 0 0 := by
  intro sz
  refine x_met (cc := cX12_one) (maxL := 8) (ret := none) (by decide) rfl (Nat.le_of_ble_eq_true rfl) ?_
  intro p e s m below meth c ls C hX hsz hr hlk hmn hl h
  have hl : lv_has ls 8 [(0, .ref (g 0)), (1, .int (Int32.ofInt x1)), (2, .int (Int32.ofInt x2)), (3, .int (Int32.ofInt x3)), (4, .int (Int32.ofInt x4)), (5, .int (Int32.ofInt x5)), (6, .int (Int32.ofInt x6))] := hl
  rw [r_one] at hm
  refine lv_aload_n C.1 C.2.1 dX12_one_0 rfl (lv_at hl 0 rfl) ?_
  obtain ⟨r1, e2, hm⟩ := obd_s hm
  refine q_callVi C h (rc_pop l D k g N σ  r1 e2) (cwV 0 C.2.2.1 (gR_pop _) rfl rfl rfl hd_pop ⟨Nat.le_of_ble_eq_true rfl, Nat.le_of_ble_eq_true rfl⟩) rfl hl.1 rfl (Nat.le_of_ble_eq_true rfl) dX12_one_1 ⟨Nat.le_of_ble_eq_true rfl, Nat.le_of_ble_eq_true rfl⟩ (fun H locs h => ?_)
  refine lv_istore (lv' := [(7, .int (Int32.ofInt r1.2)), (0, .ref (g 0)), (1, .int (Int32.ofInt x1)), (2, .int (Int32.ofInt x2)), (3, .int (Int32.ofInt x3)), (4, .int (Int32.ofInt x4)), (5, .int (Int32.ofInt x5)), (6, .int (Int32.ofInt x6))]) C.1 C.2.1 dX12_one_4 hl (by decide) rfl (fun ls hl => ?_)
  refine lv_aload_n C.1 C.2.1 dX12_one_6 rfl (lv_at hl 1 rfl) ?_
  refine lv_iload_n C.1 C.2.1 dX12_one_7 rfl (lv_at hl 2 rfl) ?_
  refine lv_iload_n C.1 C.2.1 dX12_one_8 rfl (lv_at hl 3 rfl) ?_
  refine lv_iload_n C.1 C.2.1 dX12_one_9 rfl (lv_at hl 4 rfl) ?_
  refine lv_iload C.1 C.2.1 dX12_one_10 (lv_at hl 5 rfl) ?_
  refine lv_iload C.1 C.2.1 dX12_one_12 (lv_at hl 6 rfl) ?_
  obtain ⟨r3, e4, hm⟩ := obd_s hm
  refine q_callVv C h (rc_opens l D k g N r1.1 x1 x2 x3 x4 x5 r3 e4) (cwV 5 C.2.2.1 (gR_opens _) rfl rfl rfl hd_opens ⟨Nat.le_of_ble_eq_true rfl, Nat.le_of_ble_eq_true rfl⟩) rfl hl.1 rfl (Nat.le_of_ble_eq_true rfl) dX12_one_14 ⟨Nat.le_of_ble_eq_true rfl, Nat.le_of_ble_eq_true rfl⟩ (fun H locs h => ?_)
  refine lv_aload_n C.1 C.2.1 dX12_one_17 rfl (lv_at hl 1 rfl) ?_
  refine lv_iload C.1 C.2.1 dX12_one_18 (lv_at hl 0 rfl) ?_
  refine lv_iconst (v := Int32.ofInt 1) C.1 C.2.1 dX12_one_20 (by decide) ?_
  refine lv_iconst (v := Int32.ofInt 1) C.1 C.2.1 dX12_one_21 (by decide) ?_
  obtain ⟨r5, e6, hm⟩ := obd_s hm
  refine q_callVv C h (rc_addKid l D k g N r3 r1.2 1 1 r5 e6) (cwV 3 C.2.2.1 (gR_addKid _) rfl rfl rfl hd_addKid ⟨Nat.le_of_ble_eq_true rfl, Nat.le_of_ble_eq_true rfl⟩) rfl hl.1 rfl (Nat.le_of_ble_eq_true rfl) dX12_one_22 ⟨Nat.le_of_ble_eq_true rfl, Nat.le_of_ble_eq_true rfl⟩ (fun H locs h => ?_)
  refine lv_aload_n C.1 C.2.1 dX12_one_25 rfl (lv_at hl 1 rfl) ?_
  refine lv_iload C.1 C.2.1 dX12_one_26 (lv_at hl 7 rfl) ?_
  obtain ⟨r7, e8, hm⟩ := obd_s hm
  refine q_callVv C h (rc_made l D k g N r5 x6 r7 e8) (cwV 1 C.2.2.1 (gR_made _) rfl rfl rfl hd_made ⟨Nat.le_of_ble_eq_true rfl, Nat.le_of_ble_eq_true rfl⟩) rfl hl.1 rfl (Nat.le_of_ble_eq_true rfl) dX12_one_28 ⟨Nat.le_of_ble_eq_true rfl, Nat.le_of_ble_eq_true rfl⟩ (fun H locs h => ?_)
  cases hm
  exact q_vret C h hr hlk dX12_one_31
end L_one
section L_two
variable {p : Program} {l : Launch} {e : Env} {s : State} {m : MethodId} {args : Array Value} {below : List Frame} {meth : Method} {c : Code} {D : va_G} {A : Nat → Prop} {k : Nat → ClassId} {g : Nat → Nat} {N : Nat} {cd : Cond}
set_option maxHeartbeats 4000000 in
set_option maxRecDepth 100000 in
theorem rc_two (l : Launch) (D : va_G) (k : Nat → ClassId) (g : Nat → Nat) (N : Nat) (σ : St) (x1 : Int) (x2 : Int) (x3 : Int) (x4 : Int) (x5 : Int) (x6 : Int) (r : St) (hm : r_two N σ x1 x2 x3 x4 x5 x6 = some r) : Mv l yX12_two (.code yX12_two cX12_two 9 none :: rW) { frames := 4, cells := 0, slots := 0, locals := 103 } [.ref (g 0), .int (Int32.ofInt x1), .int (Int32.ofInt x2), .int (Int32.ofInt x3), .int (Int32.ofInt x4), .int (Int32.ofInt x5), .int (Int32.ofInt x6)] D (TYs k) (mW k g σ) (fun _ => True) Unit (fun _ => True) (fun _ => mW k g r) 0 0 := by
  intro sz
  refine x_met (cc := cX12_two) (maxL := 9) (ret := none) (by decide) rfl (Nat.le_of_ble_eq_true rfl) ?_
  intro p e s m below meth c ls C hX hsz hr hlk hmn hl h
  have hl : lv_has ls 9 [(0, .ref (g 0)), (1, .int (Int32.ofInt x1)), (2, .int (Int32.ofInt x2)), (3, .int (Int32.ofInt x3)), (4, .int (Int32.ofInt x4)), (5, .int (Int32.ofInt x5)), (6, .int (Int32.ofInt x6))] := hl
  rw [r_two] at hm
  refine lv_aload_n C.1 C.2.1 dX12_two_0 rfl (lv_at hl 0 rfl) ?_
  obtain ⟨r1, e2, hm⟩ := obd_s hm
  refine q_callVi C h (rc_pop l D k g N σ  r1 e2) (cwV 0 C.2.2.1 (gR_pop _) rfl rfl rfl hd_pop ⟨Nat.le_of_ble_eq_true rfl, Nat.le_of_ble_eq_true rfl⟩) rfl hl.1 rfl (Nat.le_of_ble_eq_true rfl) dX12_two_1 ⟨Nat.le_of_ble_eq_true rfl, Nat.le_of_ble_eq_true rfl⟩ (fun H locs h => ?_)
  refine lv_istore (lv' := [(7, .int (Int32.ofInt r1.2)), (0, .ref (g 0)), (1, .int (Int32.ofInt x1)), (2, .int (Int32.ofInt x2)), (3, .int (Int32.ofInt x3)), (4, .int (Int32.ofInt x4)), (5, .int (Int32.ofInt x5)), (6, .int (Int32.ofInt x6))]) C.1 C.2.1 dX12_two_4 hl (by decide) rfl (fun ls hl => ?_)
  refine lv_aload_n C.1 C.2.1 dX12_two_6 rfl (lv_at hl 1 rfl) ?_
  obtain ⟨r3, e4, hm⟩ := obd_s hm
  refine q_callVi C h (rc_pop l D k g N r1.1  r3 e4) (cwV 0 C.2.2.1 (gR_pop _) rfl rfl rfl hd_pop ⟨Nat.le_of_ble_eq_true rfl, Nat.le_of_ble_eq_true rfl⟩) rfl hl.1 rfl (Nat.le_of_ble_eq_true rfl) dX12_two_7 ⟨Nat.le_of_ble_eq_true rfl, Nat.le_of_ble_eq_true rfl⟩ (fun H locs h => ?_)
  refine lv_istore (lv' := [(8, .int (Int32.ofInt r3.2)), (7, .int (Int32.ofInt r1.2)), (0, .ref (g 0)), (1, .int (Int32.ofInt x1)), (2, .int (Int32.ofInt x2)), (3, .int (Int32.ofInt x3)), (4, .int (Int32.ofInt x4)), (5, .int (Int32.ofInt x5)), (6, .int (Int32.ofInt x6))]) C.1 C.2.1 dX12_two_10 hl (by decide) rfl (fun ls hl => ?_)
  refine lv_aload_n C.1 C.2.1 dX12_two_12 rfl (lv_at hl 2 rfl) ?_
  refine lv_iload_n C.1 C.2.1 dX12_two_13 rfl (lv_at hl 3 rfl) ?_
  refine lv_iload_n C.1 C.2.1 dX12_two_14 rfl (lv_at hl 4 rfl) ?_
  refine lv_iload_n C.1 C.2.1 dX12_two_15 rfl (lv_at hl 5 rfl) ?_
  refine lv_iload C.1 C.2.1 dX12_two_16 (lv_at hl 6 rfl) ?_
  refine lv_iload C.1 C.2.1 dX12_two_18 (lv_at hl 7 rfl) ?_
  obtain ⟨r5, e6, hm⟩ := obd_s hm
  refine q_callVv C h (rc_opens l D k g N r3.1 x1 x2 x3 x4 x5 r5 e6) (cwV 5 C.2.2.1 (gR_opens _) rfl rfl rfl hd_opens ⟨Nat.le_of_ble_eq_true rfl, Nat.le_of_ble_eq_true rfl⟩) rfl hl.1 rfl (Nat.le_of_ble_eq_true rfl) dX12_two_20 ⟨Nat.le_of_ble_eq_true rfl, Nat.le_of_ble_eq_true rfl⟩ (fun H locs h => ?_)
  refine lv_aload_n C.1 C.2.1 dX12_two_23 rfl (lv_at hl 2 rfl) ?_
  refine lv_iload C.1 C.2.1 dX12_two_24 (lv_at hl 0 rfl) ?_
  refine lv_iconst (v := Int32.ofInt 1) C.1 C.2.1 dX12_two_26 (by decide) ?_
  refine lv_iconst (v := Int32.ofInt 1) C.1 C.2.1 dX12_two_27 (by decide) ?_
  obtain ⟨r7, e8, hm⟩ := obd_s hm
  refine q_callVv C h (rc_addKid l D k g N r5 r3.2 1 1 r7 e8) (cwV 3 C.2.2.1 (gR_addKid _) rfl rfl rfl hd_addKid ⟨Nat.le_of_ble_eq_true rfl, Nat.le_of_ble_eq_true rfl⟩) rfl hl.1 rfl (Nat.le_of_ble_eq_true rfl) dX12_two_28 ⟨Nat.le_of_ble_eq_true rfl, Nat.le_of_ble_eq_true rfl⟩ (fun H locs h => ?_)
  refine lv_aload_n C.1 C.2.1 dX12_two_31 rfl (lv_at hl 2 rfl) ?_
  refine lv_iload C.1 C.2.1 dX12_two_32 (lv_at hl 1 rfl) ?_
  refine lv_iconst (v := Int32.ofInt 1) C.1 C.2.1 dX12_two_34 (by decide) ?_
  refine lv_iconst (v := Int32.ofInt 1) C.1 C.2.1 dX12_two_35 (by decide) ?_
  obtain ⟨r9, e10, hm⟩ := obd_s hm
  refine q_callVv C h (rc_addKid l D k g N r7 r1.2 1 1 r9 e10) (cwV 3 C.2.2.1 (gR_addKid _) rfl rfl rfl hd_addKid ⟨Nat.le_of_ble_eq_true rfl, Nat.le_of_ble_eq_true rfl⟩) rfl hl.1 rfl (Nat.le_of_ble_eq_true rfl) dX12_two_36 ⟨Nat.le_of_ble_eq_true rfl, Nat.le_of_ble_eq_true rfl⟩ (fun H locs h => ?_)
  refine lv_aload_n C.1 C.2.1 dX12_two_39 rfl (lv_at hl 2 rfl) ?_
  refine lv_iload C.1 C.2.1 dX12_two_40 (lv_at hl 8 rfl) ?_
  obtain ⟨r11, e12, hm⟩ := obd_s hm
  refine q_callVv C h (rc_made l D k g N r9 x6 r11 e12) (cwV 1 C.2.2.1 (gR_made _) rfl rfl rfl hd_made ⟨Nat.le_of_ble_eq_true rfl, Nat.le_of_ble_eq_true rfl⟩) rfl hl.1 rfl (Nat.le_of_ble_eq_true rfl) dX12_two_42 ⟨Nat.le_of_ble_eq_true rfl, Nat.le_of_ble_eq_true rfl⟩ (fun H locs h => ?_)
  cases hm
  exact q_vret C h hr hlk dX12_two_45
end L_two
section L_leaf
variable {p : Program} {l : Launch} {e : Env} {s : State} {m : MethodId} {args : Array Value} {below : List Frame} {meth : Method} {c : Code} {D : va_G} {A : Nat → Prop} {k : Nat → ClassId} {g : Nat → Nat} {N : Nat} {cd : Cond}
set_option maxHeartbeats 4000000 in
set_option maxRecDepth 100000 in
theorem rc_leaf (l : Launch) (D : va_G) (k : Nat → ClassId) (g : Nat → Nat) (N : Nat) (σ : St) (x1 : Int) (x2 : Int) (x3 : Int) (x4 : Int) (r : St) (hm : r_leaf N σ x1 x2 x3 x4 = some r) : Mv l yX12_leaf (.code yX12_leaf cX12_leaf 5 none :: rW) { frames := 4, cells := 0, slots := 0, locals := 103 } [.ref (g 0), .int (Int32.ofInt x1), .int (Int32.ofInt x2), .int (Int32.ofInt x3), .int (Int32.ofInt x4)] D (TYs k) (mW k g σ) (fun _ => True) Unit (fun _ => True) (fun _ => mW k g r) 0 0 := by
  intro sz
  refine x_met (cc := cX12_leaf) (maxL := 5) (ret := none) (by decide) rfl (Nat.le_of_ble_eq_true rfl) ?_
  intro p e s m below meth c ls C hX hsz hr hlk hmn hl h
  have hl : lv_has ls 5 [(0, .ref (g 0)), (1, .int (Int32.ofInt x1)), (2, .int (Int32.ofInt x2)), (3, .int (Int32.ofInt x3)), (4, .int (Int32.ofInt x4))] := hl
  rw [r_leaf] at hm
  refine lv_aload_n C.1 C.2.1 dX12_leaf_0 rfl (lv_at hl 0 rfl) ?_
  refine lv_iload_n C.1 C.2.1 dX12_leaf_1 rfl (lv_at hl 1 rfl) ?_
  refine lv_iload_n C.1 C.2.1 dX12_leaf_2 rfl (lv_at hl 2 rfl) ?_
  refine lv_iload_n C.1 C.2.1 dX12_leaf_3 rfl (lv_at hl 3 rfl) ?_
  refine lv_iconst (v := Int32.ofInt 0) C.1 C.2.1 dX12_leaf_4 (by decide) ?_
  refine lv_iconst (v := Int32.ofInt 0) C.1 C.2.1 dX12_leaf_5 (by decide) ?_
  obtain ⟨r1, e2, hm⟩ := obd_s hm
  refine q_callVv C h (rc_opens l D k g N σ x1 x2 x3 0 0 r1 e2) (cwV 5 C.2.2.1 (gR_opens _) rfl rfl rfl hd_opens ⟨Nat.le_of_ble_eq_true rfl, Nat.le_of_ble_eq_true rfl⟩) rfl hl.1 rfl (Nat.le_of_ble_eq_true rfl) dX12_leaf_6 ⟨Nat.le_of_ble_eq_true rfl, Nat.le_of_ble_eq_true rfl⟩ (fun H locs h => ?_)
  refine lv_aload_n C.1 C.2.1 dX12_leaf_9 rfl (lv_at hl 0 rfl) ?_
  refine lv_iload C.1 C.2.1 dX12_leaf_10 (lv_at hl 4 rfl) ?_
  obtain ⟨r3, e4, hm⟩ := obd_s hm
  refine q_callVv C h (rc_made l D k g N r1 x4 r3 e4) (cwV 1 C.2.2.1 (gR_made _) rfl rfl rfl hd_made ⟨Nat.le_of_ble_eq_true rfl, Nat.le_of_ble_eq_true rfl⟩) rfl hl.1 rfl (Nat.le_of_ble_eq_true rfl) dX12_leaf_12 ⟨Nat.le_of_ble_eq_true rfl, Nat.le_of_ble_eq_true rfl⟩ (fun H locs h => ?_)
  cases hm
  exact q_vret C h hr hlk dX12_leaf_15
end L_leaf
section L_ofFunction
variable {p : Program} {l : Launch} {e : Env} {s : State} {m : MethodId} {args : Array Value} {below : List Frame} {meth : Method} {c : Code} {D : va_G} {A : Nat → Prop} {k : Nat → ClassId} {g : Nat → Nat} {N : Nat} {cd : Cond}
set_option maxHeartbeats 4000000 in
set_option maxRecDepth 100000 in
theorem rc_ofFunction (l : Launch) (D : va_G) (k : Nat → ClassId) (g : Nat → Nat) (N : Nat) (σ : St) (x1 : Int) (r : St) (hm : r_ofFunction N σ x1 = some r) : Mv l yX12_ofFunction (.code yX12_ofFunction cX12_ofFunction 5 none :: rW) { frames := 5, cells := 0, slots := 0, locals := 131 } [.ref (g 0), .int (Int32.ofInt x1)] D (TYs k) (mW k g σ) (fun _ => True) Unit (fun _ => True) (fun _ => mW k g r) 0 0 := by
  intro sz
  refine x_met (cc := cX12_ofFunction) (maxL := 5) (ret := none) (by decide) rfl (Nat.le_of_ble_eq_true rfl) ?_
  intro p e s m below meth c ls C hX hsz hr hlk hmn hl h
  have hl : lv_has ls 5 [(0, .ref (g 0)), (1, .int (Int32.ofInt x1))] := hl
  rw [r_ofFunction] at hm
  refine lv_aload_n C.1 C.2.1 dX12_ofFunction_0 rfl (lv_at hl 0 rfl) ?_
  refine fg_20 C h dX12_ofFunction_1 ?_
  refine lv_iload_n C.1 C.2.1 dX12_ofFunction_4 rfl (lv_at hl 1 rfl) ?_
  obtain ⟨g1, hm⟩ := grd_s hm
  refine al_91 C h dX12_ofFunction_5 g1 ?_
  obtain ⟨v2, e3, hm⟩ := bnd_s hm
  rw [e3]
  refine lv_istore_n (lv' := [(2, .int (Int32.ofInt v2)), (0, .ref (g 0)), (1, .int (Int32.ofInt x1))]) C.1 C.2.1 dX12_ofFunction_6 rfl hl (by decide) rfl (fun ls hl => ?_)
  refine lv_aload_n C.1 C.2.1 dX12_ofFunction_7 rfl (lv_at hl 1 rfl) ?_
  refine fg_21 C h dX12_ofFunction_8 ?_
  refine lv_iload_n C.1 C.2.1 dX12_ofFunction_11 rfl (lv_at hl 2 rfl) ?_
  refine al_90 C h dX12_ofFunction_12 g1 ?_
  obtain ⟨v4, e5, hm⟩ := bnd_s hm
  rw [e5]
  refine lv_istore_n (lv' := [(3, .int (Int32.ofInt v4)), (2, .int (Int32.ofInt v2)), (0, .ref (g 0)), (1, .int (Int32.ofInt x1))]) C.1 C.2.1 dX12_ofFunction_13 rfl hl (by decide) rfl (fun ls hl => ?_)
  refine lv_aload_n C.1 C.2.1 dX12_ofFunction_14 rfl (lv_at hl 2 rfl) ?_
  refine fg_18 C h dX12_ofFunction_15 ?_
  refine lv_iload_n C.1 C.2.1 dX12_ofFunction_18 rfl (lv_at hl 3 rfl) ?_
  refine al_93 C h dX12_ofFunction_19 g1 ?_
  obtain ⟨v6, e7, hm⟩ := bnd_s hm
  rw [e7]
  refine lv_istore (lv' := [(4, .int (Int32.ofInt v6)), (3, .int (Int32.ofInt v4)), (2, .int (Int32.ofInt v2)), (0, .ref (g 0)), (1, .int (Int32.ofInt x1))]) C.1 C.2.1 dX12_ofFunction_20 hl (by decide) rfl (fun ls hl => ?_)
  refine lv_aload_n C.1 C.2.1 dX12_ofFunction_22 rfl (lv_at hl 3 rfl) ?_
  refine fg_19 C h dX12_ofFunction_23 ?_
  refine lv_iload_n C.1 C.2.1 dX12_ofFunction_26 rfl (lv_at hl 4 rfl) ?_
  refine al_92 C h dX12_ofFunction_27 g1 ?_
  obtain ⟨g8, hm⟩ := grd_s hm
  by_cases c9 : (el σ 92 x1) = 0
  · refine x_topi (congrArg Int32.ofInt c9) ?_
    have hm := ite_t c9 hm
    refine lv_tableIn (tgt := 128) C.1 C.2.1 dX12_ofFunction_28 (by decide) (by decide) rfl (by decide) ?_
    refine lv_aload_n C.1 C.2.1 dX12_ofFunction_128 rfl (lv_at hl 3 rfl) ?_
    refine lv_bipush (v := Int32.ofInt 9) C.1 C.2.1 dX12_ofFunction_129 (by decide) ?_
    refine lv_iload_n C.1 C.2.1 dX12_ofFunction_131 rfl (lv_at hl 2 rfl) ?_
    refine lv_iload_n C.1 C.2.1 dX12_ofFunction_132 rfl (lv_at hl 1 rfl) ?_
    refine lv_iconst (v := Int32.ofInt 0) C.1 C.2.1 dX12_ofFunction_133 (by decide) ?_
    refine lv_iconst (v := Int32.ofInt 0) C.1 C.2.1 dX12_ofFunction_134 (by decide) ?_
    refine lv_iload C.1 C.2.1 dX12_ofFunction_135 (lv_at hl 0 rfl) ?_
    obtain ⟨r10, e11, hm⟩ := obd_s hm
    refine q_callVv C h (rc_one l D k g N σ 9 v2 v4 0 0 v6 r10 e11) (cwV 6 C.2.2.1 (gR_one _) rfl rfl rfl hd_one ⟨Nat.le_of_ble_eq_true rfl, Nat.le_of_ble_eq_true rfl⟩) rfl hl.1 rfl (Nat.le_of_ble_eq_true rfl) dX12_ofFunction_137 ⟨Nat.le_of_ble_eq_true rfl, Nat.le_of_ble_eq_true rfl⟩ (fun H locs h => ?_)
    refine lv_goto (tgt := 400) C.1 C.2.1 dX12_ofFunction_140 (by decide) ?_
    cases hm
    exact q_vret C h hr hlk dX12_ofFunction_400
  have hm := ite_f c9 hm
  by_cases c12 : (el σ 92 x1) = 1
  · refine x_topi (congrArg Int32.ofInt c12) ?_
    have hm := ite_t c12 hm
    refine lv_tableIn (tgt := 143) C.1 C.2.1 dX12_ofFunction_28 (by decide) (by decide) rfl (by decide) ?_
    refine lv_aload_n C.1 C.2.1 dX12_ofFunction_143 rfl (lv_at hl 3 rfl) ?_
    refine lv_bipush (v := Int32.ofInt 9) C.1 C.2.1 dX12_ofFunction_144 (by decide) ?_
    refine lv_iload_n C.1 C.2.1 dX12_ofFunction_146 rfl (lv_at hl 1 rfl) ?_
    refine lv_iload_n C.1 C.2.1 dX12_ofFunction_147 rfl (lv_at hl 2 rfl) ?_
    refine lv_iconst (v := Int32.ofInt 0) C.1 C.2.1 dX12_ofFunction_148 (by decide) ?_
    refine lv_iconst (v := Int32.ofInt 0) C.1 C.2.1 dX12_ofFunction_149 (by decide) ?_
    refine lv_iload C.1 C.2.1 dX12_ofFunction_150 (lv_at hl 0 rfl) ?_
    obtain ⟨r13, e14, hm⟩ := obd_s hm
    refine q_callVv C h (rc_one l D k g N σ 9 v4 v2 0 0 v6 r13 e14) (cwV 6 C.2.2.1 (gR_one _) rfl rfl rfl hd_one ⟨Nat.le_of_ble_eq_true rfl, Nat.le_of_ble_eq_true rfl⟩) rfl hl.1 rfl (Nat.le_of_ble_eq_true rfl) dX12_ofFunction_152 ⟨Nat.le_of_ble_eq_true rfl, Nat.le_of_ble_eq_true rfl⟩ (fun H locs h => ?_)
    refine lv_goto (tgt := 400) C.1 C.2.1 dX12_ofFunction_155 (by decide) ?_
    cases hm
    exact q_vret C h hr hlk dX12_ofFunction_400
  have hm := ite_f c12 hm
  by_cases c15 : (el σ 92 x1) = 2
  · refine x_topi (congrArg Int32.ofInt c15) ?_
    have hm := ite_t c15 hm
    refine lv_tableIn (tgt := 158) C.1 C.2.1 dX12_ofFunction_28 (by decide) (by decide) rfl (by decide) ?_
    refine lv_aload_n C.1 C.2.1 dX12_ofFunction_158 rfl (lv_at hl 3 rfl) ?_
    refine lv_bipush (v := Int32.ofInt 10) C.1 C.2.1 dX12_ofFunction_159 (by decide) ?_
    refine lv_iload_n C.1 C.2.1 dX12_ofFunction_161 rfl (lv_at hl 2 rfl) ?_
    refine lv_iload_n C.1 C.2.1 dX12_ofFunction_162 rfl (lv_at hl 1 rfl) ?_
    refine lv_iconst (v := Int32.ofInt 0) C.1 C.2.1 dX12_ofFunction_163 (by decide) ?_
    refine lv_iconst (v := Int32.ofInt 0) C.1 C.2.1 dX12_ofFunction_164 (by decide) ?_
    refine lv_iload C.1 C.2.1 dX12_ofFunction_165 (lv_at hl 0 rfl) ?_
    obtain ⟨r16, e17, hm⟩ := obd_s hm
    refine q_callVv C h (rc_one l D k g N σ 10 v2 v4 0 0 v6 r16 e17) (cwV 6 C.2.2.1 (gR_one _) rfl rfl rfl hd_one ⟨Nat.le_of_ble_eq_true rfl, Nat.le_of_ble_eq_true rfl⟩) rfl hl.1 rfl (Nat.le_of_ble_eq_true rfl) dX12_ofFunction_167 ⟨Nat.le_of_ble_eq_true rfl, Nat.le_of_ble_eq_true rfl⟩ (fun H locs h => ?_)
    refine lv_goto (tgt := 400) C.1 C.2.1 dX12_ofFunction_170 (by decide) ?_
    cases hm
    exact q_vret C h hr hlk dX12_ofFunction_400
  have hm := ite_f c15 hm
  by_cases c18 : (el σ 92 x1) = 3
  · refine x_topi (congrArg Int32.ofInt c18) ?_
    have hm := ite_t c18 hm
    refine lv_tableIn (tgt := 173) C.1 C.2.1 dX12_ofFunction_28 (by decide) (by decide) rfl (by decide) ?_
    refine lv_aload_n C.1 C.2.1 dX12_ofFunction_173 rfl (lv_at hl 3 rfl) ?_
    refine lv_bipush (v := Int32.ofInt 11) C.1 C.2.1 dX12_ofFunction_174 (by decide) ?_
    refine lv_iload_n C.1 C.2.1 dX12_ofFunction_176 rfl (lv_at hl 2 rfl) ?_
    refine lv_iload_n C.1 C.2.1 dX12_ofFunction_177 rfl (lv_at hl 1 rfl) ?_
    refine lv_iconst (v := Int32.ofInt 0) C.1 C.2.1 dX12_ofFunction_178 (by decide) ?_
    refine lv_iconst (v := Int32.ofInt 0) C.1 C.2.1 dX12_ofFunction_179 (by decide) ?_
    refine lv_iload C.1 C.2.1 dX12_ofFunction_180 (lv_at hl 0 rfl) ?_
    obtain ⟨r19, e20, hm⟩ := obd_s hm
    refine q_callVv C h (rc_one l D k g N σ 11 v2 v4 0 0 v6 r19 e20) (cwV 6 C.2.2.1 (gR_one _) rfl rfl rfl hd_one ⟨Nat.le_of_ble_eq_true rfl, Nat.le_of_ble_eq_true rfl⟩) rfl hl.1 rfl (Nat.le_of_ble_eq_true rfl) dX12_ofFunction_182 ⟨Nat.le_of_ble_eq_true rfl, Nat.le_of_ble_eq_true rfl⟩ (fun H locs h => ?_)
    refine lv_goto (tgt := 400) C.1 C.2.1 dX12_ofFunction_185 (by decide) ?_
    cases hm
    exact q_vret C h hr hlk dX12_ofFunction_400
  have hm := ite_f c18 hm
  by_cases c21 : (el σ 92 x1) = 4
  · refine x_topi (congrArg Int32.ofInt c21) ?_
    have hm := ite_t c21 hm
    refine lv_tableIn (tgt := 188) C.1 C.2.1 dX12_ofFunction_28 (by decide) (by decide) rfl (by decide) ?_
    refine lv_aload_n C.1 C.2.1 dX12_ofFunction_188 rfl (lv_at hl 3 rfl) ?_
    refine lv_bipush (v := Int32.ofInt 12) C.1 C.2.1 dX12_ofFunction_189 (by decide) ?_
    refine lv_iconst (v := Int32.ofInt 0) C.1 C.2.1 dX12_ofFunction_191 (by decide) ?_
    refine lv_iconst (v := Int32.ofInt 0) C.1 C.2.1 dX12_ofFunction_192 (by decide) ?_
    refine lv_iconst (v := Int32.ofInt 0) C.1 C.2.1 dX12_ofFunction_193 (by decide) ?_
    refine lv_iconst (v := Int32.ofInt 0) C.1 C.2.1 dX12_ofFunction_194 (by decide) ?_
    refine lv_iload C.1 C.2.1 dX12_ofFunction_195 (lv_at hl 0 rfl) ?_
    obtain ⟨r22, e23, hm⟩ := obd_s hm
    refine q_callVv C h (rc_one l D k g N σ 12 0 0 0 0 v6 r22 e23) (cwV 6 C.2.2.1 (gR_one _) rfl rfl rfl hd_one ⟨Nat.le_of_ble_eq_true rfl, Nat.le_of_ble_eq_true rfl⟩) rfl hl.1 rfl (Nat.le_of_ble_eq_true rfl) dX12_ofFunction_197 ⟨Nat.le_of_ble_eq_true rfl, Nat.le_of_ble_eq_true rfl⟩ (fun H locs h => ?_)
    refine lv_goto (tgt := 400) C.1 C.2.1 dX12_ofFunction_200 (by decide) ?_
    cases hm
    exact q_vret C h hr hlk dX12_ofFunction_400
  have hm := ite_f c21 hm
  by_cases c24 : (el σ 92 x1) = 5
  · refine x_topi (congrArg Int32.ofInt c24) ?_
    have hm := ite_t c24 hm
    refine lv_tableIn (tgt := 333) C.1 C.2.1 dX12_ofFunction_28 (by decide) (by decide) rfl (by decide) ?_
    refine lv_aload_n C.1 C.2.1 dX12_ofFunction_333 rfl (lv_at hl 3 rfl) ?_
    refine lv_bipush (v := Int32.ofInt 13) C.1 C.2.1 dX12_ofFunction_334 (by decide) ?_
    refine lv_iload_n C.1 C.2.1 dX12_ofFunction_336 rfl (lv_at hl 2 rfl) ?_
    refine lv_iconst (v := Int32.ofInt 0) C.1 C.2.1 dX12_ofFunction_337 (by decide) ?_
    refine lv_iconst (v := Int32.ofInt 0) C.1 C.2.1 dX12_ofFunction_338 (by decide) ?_
    refine lv_iconst (v := Int32.ofInt 0) C.1 C.2.1 dX12_ofFunction_339 (by decide) ?_
    refine lv_iload C.1 C.2.1 dX12_ofFunction_340 (lv_at hl 0 rfl) ?_
    obtain ⟨r25, e26, hm⟩ := obd_s hm
    refine q_callVv C h (rc_two l D k g N σ 13 v2 0 0 0 v6 r25 e26) (cwV 6 C.2.2.1 (gR_two _) rfl rfl rfl hd_two ⟨Nat.le_of_ble_eq_true rfl, Nat.le_of_ble_eq_true rfl⟩) rfl hl.1 rfl (Nat.le_of_ble_eq_true rfl) dX12_ofFunction_342 ⟨Nat.le_of_ble_eq_true rfl, Nat.le_of_ble_eq_true rfl⟩ (fun H locs h => ?_)
    refine lv_goto (tgt := 400) C.1 C.2.1 dX12_ofFunction_345 (by decide) ?_
    cases hm
    exact q_vret C h hr hlk dX12_ofFunction_400
  have hm := ite_f c24 hm
  by_cases c27 : (el σ 92 x1) = 6
  · refine x_topi (congrArg Int32.ofInt c27) ?_
    have hm := ite_t c27 hm
    refine lv_tableIn (tgt := 348) C.1 C.2.1 dX12_ofFunction_28 (by decide) (by decide) rfl (by decide) ?_
    refine lv_aload_n C.1 C.2.1 dX12_ofFunction_348 rfl (lv_at hl 3 rfl) ?_
    refine lv_bipush (v := Int32.ofInt 14) C.1 C.2.1 dX12_ofFunction_349 (by decide) ?_
    refine lv_iload_n C.1 C.2.1 dX12_ofFunction_351 rfl (lv_at hl 2 rfl) ?_
    refine lv_iload_n C.1 C.2.1 dX12_ofFunction_352 rfl (lv_at hl 1 rfl) ?_
    refine lv_iconst (v := Int32.ofInt 0) C.1 C.2.1 dX12_ofFunction_353 (by decide) ?_
    refine lv_iconst (v := Int32.ofInt 0) C.1 C.2.1 dX12_ofFunction_354 (by decide) ?_
    refine lv_iload C.1 C.2.1 dX12_ofFunction_355 (lv_at hl 0 rfl) ?_
    obtain ⟨r28, e29, hm⟩ := obd_s hm
    refine q_callVv C h (rc_two l D k g N σ 14 v2 v4 0 0 v6 r28 e29) (cwV 6 C.2.2.1 (gR_two _) rfl rfl rfl hd_two ⟨Nat.le_of_ble_eq_true rfl, Nat.le_of_ble_eq_true rfl⟩) rfl hl.1 rfl (Nat.le_of_ble_eq_true rfl) dX12_ofFunction_357 ⟨Nat.le_of_ble_eq_true rfl, Nat.le_of_ble_eq_true rfl⟩ (fun H locs h => ?_)
    refine lv_goto (tgt := 400) C.1 C.2.1 dX12_ofFunction_360 (by decide) ?_
    cases hm
    exact q_vret C h hr hlk dX12_ofFunction_400
  have hm := ite_f c27 hm
  by_cases c30 : (el σ 92 x1) = 7
  · refine x_topi (congrArg Int32.ofInt c30) ?_
    have hm := ite_t c30 hm
    refine lv_tableIn (tgt := 378) C.1 C.2.1 dX12_ofFunction_28 (by decide) (by decide) rfl (by decide) ?_
    refine lv_aload_n C.1 C.2.1 dX12_ofFunction_378 rfl (lv_at hl 3 rfl) ?_
    refine lv_bipush (v := Int32.ofInt 16) C.1 C.2.1 dX12_ofFunction_379 (by decide) ?_
    refine lv_iload_n C.1 C.2.1 dX12_ofFunction_381 rfl (lv_at hl 2 rfl) ?_
    refine lv_iload_n C.1 C.2.1 dX12_ofFunction_382 rfl (lv_at hl 1 rfl) ?_
    refine lv_aload_n C.1 C.2.1 dX12_ofFunction_383 rfl (lv_at hl 3 rfl) ?_
    refine fg_22 C h dX12_ofFunction_384 ?_
    refine lv_iload_n C.1 C.2.1 dX12_ofFunction_387 rfl (lv_at hl 4 rfl) ?_
    refine al_89 C h dX12_ofFunction_388 g1 ?_
    refine lv_aload_n C.1 C.2.1 dX12_ofFunction_389 rfl (lv_at hl 3 rfl) ?_
    refine fg_23 C h dX12_ofFunction_390 ?_
    refine lv_iload_n C.1 C.2.1 dX12_ofFunction_393 rfl (lv_at hl 4 rfl) ?_
    refine al_88 C h dX12_ofFunction_394 g1 ?_
    refine lv_iload C.1 C.2.1 dX12_ofFunction_395 (lv_at hl 0 rfl) ?_
    obtain ⟨r31, e32, hm⟩ := obd_s hm
    refine q_callVv C h (rc_two l D k g N σ 16 v2 v4 (el σ 89 x1) (el σ 88 x1) v6 r31 e32) (cwV 6 C.2.2.1 (gR_two _) rfl rfl rfl hd_two ⟨Nat.le_of_ble_eq_true rfl, Nat.le_of_ble_eq_true rfl⟩) rfl hl.1 rfl (Nat.le_of_ble_eq_true rfl) dX12_ofFunction_397 ⟨Nat.le_of_ble_eq_true rfl, Nat.le_of_ble_eq_true rfl⟩ (fun H locs h => ?_)
    cases hm
    exact q_vret C h hr hlk dX12_ofFunction_400
  have hm := ite_f c30 hm
  by_cases c33 : (el σ 92 x1) = 8
  · refine x_topi (congrArg Int32.ofInt c33) ?_
    have hm := ite_t c33 hm
    refine lv_tableIn (tgt := 378) C.1 C.2.1 dX12_ofFunction_28 (by decide) (by decide) rfl (by decide) ?_
    refine lv_aload_n C.1 C.2.1 dX12_ofFunction_378 rfl (lv_at hl 3 rfl) ?_
    refine lv_bipush (v := Int32.ofInt 16) C.1 C.2.1 dX12_ofFunction_379 (by decide) ?_
    refine lv_iload_n C.1 C.2.1 dX12_ofFunction_381 rfl (lv_at hl 2 rfl) ?_
    refine lv_iload_n C.1 C.2.1 dX12_ofFunction_382 rfl (lv_at hl 1 rfl) ?_
    refine lv_aload_n C.1 C.2.1 dX12_ofFunction_383 rfl (lv_at hl 3 rfl) ?_
    refine fg_22 C h dX12_ofFunction_384 ?_
    refine lv_iload_n C.1 C.2.1 dX12_ofFunction_387 rfl (lv_at hl 4 rfl) ?_
    refine al_89 C h dX12_ofFunction_388 g1 ?_
    refine lv_aload_n C.1 C.2.1 dX12_ofFunction_389 rfl (lv_at hl 3 rfl) ?_
    refine fg_23 C h dX12_ofFunction_390 ?_
    refine lv_iload_n C.1 C.2.1 dX12_ofFunction_393 rfl (lv_at hl 4 rfl) ?_
    refine al_88 C h dX12_ofFunction_394 g1 ?_
    refine lv_iload C.1 C.2.1 dX12_ofFunction_395 (lv_at hl 0 rfl) ?_
    obtain ⟨r34, e35, hm⟩ := obd_s hm
    refine q_callVv C h (rc_two l D k g N σ 16 v2 v4 (el σ 89 x1) (el σ 88 x1) v6 r34 e35) (cwV 6 C.2.2.1 (gR_two _) rfl rfl rfl hd_two ⟨Nat.le_of_ble_eq_true rfl, Nat.le_of_ble_eq_true rfl⟩) rfl hl.1 rfl (Nat.le_of_ble_eq_true rfl) dX12_ofFunction_397 ⟨Nat.le_of_ble_eq_true rfl, Nat.le_of_ble_eq_true rfl⟩ (fun H locs h => ?_)
    cases hm
    exact q_vret C h hr hlk dX12_ofFunction_400
  have hm := ite_f c33 hm
  by_cases c36 : (el σ 92 x1) = 9
  · refine x_topi (congrArg Int32.ofInt c36) ?_
    have hm := ite_t c36 hm
    refine lv_tableIn (tgt := 203) C.1 C.2.1 dX12_ofFunction_28 (by decide) (by decide) rfl (by decide) ?_
    refine lv_aload_n C.1 C.2.1 dX12_ofFunction_203 rfl (lv_at hl 3 rfl) ?_
    refine lv_bipush (v := Int32.ofInt 17) C.1 C.2.1 dX12_ofFunction_204 (by decide) ?_
    refine lv_iload_n C.1 C.2.1 dX12_ofFunction_206 rfl (lv_at hl 2 rfl) ?_
    refine lv_iconst (v := Int32.ofInt 0) C.1 C.2.1 dX12_ofFunction_207 (by decide) ?_
    refine lv_iconst (v := Int32.ofInt 0) C.1 C.2.1 dX12_ofFunction_208 (by decide) ?_
    refine lv_iconst (v := Int32.ofInt 0) C.1 C.2.1 dX12_ofFunction_209 (by decide) ?_
    refine lv_iload C.1 C.2.1 dX12_ofFunction_210 (lv_at hl 0 rfl) ?_
    obtain ⟨r37, e38, hm⟩ := obd_s hm
    refine q_callVv C h (rc_one l D k g N σ 17 v2 0 0 0 v6 r37 e38) (cwV 6 C.2.2.1 (gR_one _) rfl rfl rfl hd_one ⟨Nat.le_of_ble_eq_true rfl, Nat.le_of_ble_eq_true rfl⟩) rfl hl.1 rfl (Nat.le_of_ble_eq_true rfl) dX12_ofFunction_212 ⟨Nat.le_of_ble_eq_true rfl, Nat.le_of_ble_eq_true rfl⟩ (fun H locs h => ?_)
    refine lv_goto (tgt := 400) C.1 C.2.1 dX12_ofFunction_215 (by decide) ?_
    cases hm
    exact q_vret C h hr hlk dX12_ofFunction_400
  have hm := ite_f c36 hm
  by_cases c39 : (el σ 92 x1) = 10
  · refine x_topi (congrArg Int32.ofInt c39) ?_
    have hm := ite_t c39 hm
    refine lv_tableIn (tgt := 218) C.1 C.2.1 dX12_ofFunction_28 (by decide) (by decide) rfl (by decide) ?_
    refine lv_aload_n C.1 C.2.1 dX12_ofFunction_218 rfl (lv_at hl 3 rfl) ?_
    refine lv_bipush (v := Int32.ofInt 18) C.1 C.2.1 dX12_ofFunction_219 (by decide) ?_
    refine lv_iload_n C.1 C.2.1 dX12_ofFunction_221 rfl (lv_at hl 2 rfl) ?_
    refine lv_iconst (v := Int32.ofInt 0) C.1 C.2.1 dX12_ofFunction_222 (by decide) ?_
    refine lv_iconst (v := Int32.ofInt 0) C.1 C.2.1 dX12_ofFunction_223 (by decide) ?_
    refine lv_iconst (v := Int32.ofInt 0) C.1 C.2.1 dX12_ofFunction_224 (by decide) ?_
    refine lv_iload C.1 C.2.1 dX12_ofFunction_225 (lv_at hl 0 rfl) ?_
    obtain ⟨r40, e41, hm⟩ := obd_s hm
    refine q_callVv C h (rc_one l D k g N σ 18 v2 0 0 0 v6 r40 e41) (cwV 6 C.2.2.1 (gR_one _) rfl rfl rfl hd_one ⟨Nat.le_of_ble_eq_true rfl, Nat.le_of_ble_eq_true rfl⟩) rfl hl.1 rfl (Nat.le_of_ble_eq_true rfl) dX12_ofFunction_227 ⟨Nat.le_of_ble_eq_true rfl, Nat.le_of_ble_eq_true rfl⟩ (fun H locs h => ?_)
    refine lv_goto (tgt := 400) C.1 C.2.1 dX12_ofFunction_230 (by decide) ?_
    cases hm
    exact q_vret C h hr hlk dX12_ofFunction_400
  have hm := ite_f c39 hm
  by_cases c42 : (el σ 92 x1) = 11
  · refine x_topi (congrArg Int32.ofInt c42) ?_
    have hm := ite_t c42 hm
    refine lv_tableIn (tgt := 363) C.1 C.2.1 dX12_ofFunction_28 (by decide) (by decide) rfl (by decide) ?_
    refine lv_aload_n C.1 C.2.1 dX12_ofFunction_363 rfl (lv_at hl 3 rfl) ?_
    refine lv_bipush (v := Int32.ofInt 15) C.1 C.2.1 dX12_ofFunction_364 (by decide) ?_
    refine lv_iload_n C.1 C.2.1 dX12_ofFunction_366 rfl (lv_at hl 2 rfl) ?_
    refine lv_iconst (v := Int32.ofInt 0) C.1 C.2.1 dX12_ofFunction_367 (by decide) ?_
    refine lv_iconst (v := Int32.ofInt 0) C.1 C.2.1 dX12_ofFunction_368 (by decide) ?_
    refine lv_iconst (v := Int32.ofInt 0) C.1 C.2.1 dX12_ofFunction_369 (by decide) ?_
    refine lv_iload C.1 C.2.1 dX12_ofFunction_370 (lv_at hl 0 rfl) ?_
    obtain ⟨r43, e44, hm⟩ := obd_s hm
    refine q_callVv C h (rc_two l D k g N σ 15 v2 0 0 0 v6 r43 e44) (cwV 6 C.2.2.1 (gR_two _) rfl rfl rfl hd_two ⟨Nat.le_of_ble_eq_true rfl, Nat.le_of_ble_eq_true rfl⟩) rfl hl.1 rfl (Nat.le_of_ble_eq_true rfl) dX12_ofFunction_372 ⟨Nat.le_of_ble_eq_true rfl, Nat.le_of_ble_eq_true rfl⟩ (fun H locs h => ?_)
    refine lv_goto (tgt := 400) C.1 C.2.1 dX12_ofFunction_375 (by decide) ?_
    cases hm
    exact q_vret C h hr hlk dX12_ofFunction_400
  have hm := ite_f c42 hm
  by_cases c45 : (el σ 92 x1) = 12
  · refine x_topi (congrArg Int32.ofInt c45) ?_
    have hm := ite_t c45 hm
    refine lv_tableIn (tgt := 378) C.1 C.2.1 dX12_ofFunction_28 (by decide) (by decide) rfl (by decide) ?_
    refine lv_aload_n C.1 C.2.1 dX12_ofFunction_378 rfl (lv_at hl 3 rfl) ?_
    refine lv_bipush (v := Int32.ofInt 16) C.1 C.2.1 dX12_ofFunction_379 (by decide) ?_
    refine lv_iload_n C.1 C.2.1 dX12_ofFunction_381 rfl (lv_at hl 2 rfl) ?_
    refine lv_iload_n C.1 C.2.1 dX12_ofFunction_382 rfl (lv_at hl 1 rfl) ?_
    refine lv_aload_n C.1 C.2.1 dX12_ofFunction_383 rfl (lv_at hl 3 rfl) ?_
    refine fg_22 C h dX12_ofFunction_384 ?_
    refine lv_iload_n C.1 C.2.1 dX12_ofFunction_387 rfl (lv_at hl 4 rfl) ?_
    refine al_89 C h dX12_ofFunction_388 g1 ?_
    refine lv_aload_n C.1 C.2.1 dX12_ofFunction_389 rfl (lv_at hl 3 rfl) ?_
    refine fg_23 C h dX12_ofFunction_390 ?_
    refine lv_iload_n C.1 C.2.1 dX12_ofFunction_393 rfl (lv_at hl 4 rfl) ?_
    refine al_88 C h dX12_ofFunction_394 g1 ?_
    refine lv_iload C.1 C.2.1 dX12_ofFunction_395 (lv_at hl 0 rfl) ?_
    obtain ⟨r46, e47, hm⟩ := obd_s hm
    refine q_callVv C h (rc_two l D k g N σ 16 v2 v4 (el σ 89 x1) (el σ 88 x1) v6 r46 e47) (cwV 6 C.2.2.1 (gR_two _) rfl rfl rfl hd_two ⟨Nat.le_of_ble_eq_true rfl, Nat.le_of_ble_eq_true rfl⟩) rfl hl.1 rfl (Nat.le_of_ble_eq_true rfl) dX12_ofFunction_397 ⟨Nat.le_of_ble_eq_true rfl, Nat.le_of_ble_eq_true rfl⟩ (fun H locs h => ?_)
    cases hm
    exact q_vret C h hr hlk dX12_ofFunction_400
  have hm := ite_f c45 hm
  by_cases c48 : (el σ 92 x1) = 13
  · refine x_topi (congrArg Int32.ofInt c48) ?_
    have hm := ite_t c48 hm
    refine lv_tableIn (tgt := 233) C.1 C.2.1 dX12_ofFunction_28 (by decide) (by decide) rfl (by decide) ?_
    refine lv_aload_n C.1 C.2.1 dX12_ofFunction_233 rfl (lv_at hl 3 rfl) ?_
    refine lv_bipush (v := Int32.ofInt 19) C.1 C.2.1 dX12_ofFunction_234 (by decide) ?_
    refine lv_iload_n C.1 C.2.1 dX12_ofFunction_236 rfl (lv_at hl 2 rfl) ?_
    refine lv_iconst (v := Int32.ofInt 0) C.1 C.2.1 dX12_ofFunction_237 (by decide) ?_
    refine lv_iconst (v := Int32.ofInt 0) C.1 C.2.1 dX12_ofFunction_238 (by decide) ?_
    refine lv_iconst (v := Int32.ofInt 0) C.1 C.2.1 dX12_ofFunction_239 (by decide) ?_
    refine lv_iload C.1 C.2.1 dX12_ofFunction_240 (lv_at hl 0 rfl) ?_
    obtain ⟨r49, e50, hm⟩ := obd_s hm
    refine q_callVv C h (rc_one l D k g N σ 19 v2 0 0 0 v6 r49 e50) (cwV 6 C.2.2.1 (gR_one _) rfl rfl rfl hd_one ⟨Nat.le_of_ble_eq_true rfl, Nat.le_of_ble_eq_true rfl⟩) rfl hl.1 rfl (Nat.le_of_ble_eq_true rfl) dX12_ofFunction_242 ⟨Nat.le_of_ble_eq_true rfl, Nat.le_of_ble_eq_true rfl⟩ (fun H locs h => ?_)
    refine lv_goto (tgt := 400) C.1 C.2.1 dX12_ofFunction_245 (by decide) ?_
    cases hm
    exact q_vret C h hr hlk dX12_ofFunction_400
  have hm := ite_f c48 hm
  by_cases c51 : (el σ 92 x1) = 14
  · refine x_topi (congrArg Int32.ofInt c51) ?_
    have hm := ite_t c51 hm
    refine lv_tableIn (tgt := 303) C.1 C.2.1 dX12_ofFunction_28 (by decide) (by decide) rfl (by decide) ?_
    refine lv_aload_n C.1 C.2.1 dX12_ofFunction_303 rfl (lv_at hl 3 rfl) ?_
    refine lv_bipush (v := Int32.ofInt 23) C.1 C.2.1 dX12_ofFunction_304 (by decide) ?_
    refine lv_iconst (v := Int32.ofInt 0) C.1 C.2.1 dX12_ofFunction_306 (by decide) ?_
    refine lv_iconst (v := Int32.ofInt 0) C.1 C.2.1 dX12_ofFunction_307 (by decide) ?_
    refine lv_iconst (v := Int32.ofInt 0) C.1 C.2.1 dX12_ofFunction_308 (by decide) ?_
    refine lv_iconst (v := Int32.ofInt 0) C.1 C.2.1 dX12_ofFunction_309 (by decide) ?_
    refine lv_iload C.1 C.2.1 dX12_ofFunction_310 (lv_at hl 0 rfl) ?_
    obtain ⟨r52, e53, hm⟩ := obd_s hm
    refine q_callVv C h (rc_two l D k g N σ 23 0 0 0 0 v6 r52 e53) (cwV 6 C.2.2.1 (gR_two _) rfl rfl rfl hd_two ⟨Nat.le_of_ble_eq_true rfl, Nat.le_of_ble_eq_true rfl⟩) rfl hl.1 rfl (Nat.le_of_ble_eq_true rfl) dX12_ofFunction_312 ⟨Nat.le_of_ble_eq_true rfl, Nat.le_of_ble_eq_true rfl⟩ (fun H locs h => ?_)
    refine lv_goto (tgt := 400) C.1 C.2.1 dX12_ofFunction_315 (by decide) ?_
    cases hm
    exact q_vret C h hr hlk dX12_ofFunction_400
  have hm := ite_f c51 hm
  by_cases c54 : (el σ 92 x1) = 15
  · refine x_topi (congrArg Int32.ofInt c54) ?_
    have hm := ite_t c54 hm
    refine lv_tableIn (tgt := 318) C.1 C.2.1 dX12_ofFunction_28 (by decide) (by decide) rfl (by decide) ?_
    refine lv_aload_n C.1 C.2.1 dX12_ofFunction_318 rfl (lv_at hl 3 rfl) ?_
    refine lv_bipush (v := Int32.ofInt 24) C.1 C.2.1 dX12_ofFunction_319 (by decide) ?_
    refine lv_iconst (v := Int32.ofInt 0) C.1 C.2.1 dX12_ofFunction_321 (by decide) ?_
    refine lv_iconst (v := Int32.ofInt 0) C.1 C.2.1 dX12_ofFunction_322 (by decide) ?_
    refine lv_iconst (v := Int32.ofInt 0) C.1 C.2.1 dX12_ofFunction_323 (by decide) ?_
    refine lv_iconst (v := Int32.ofInt 0) C.1 C.2.1 dX12_ofFunction_324 (by decide) ?_
    refine lv_iload C.1 C.2.1 dX12_ofFunction_325 (lv_at hl 0 rfl) ?_
    obtain ⟨r55, e56, hm⟩ := obd_s hm
    refine q_callVv C h (rc_two l D k g N σ 24 0 0 0 0 v6 r55 e56) (cwV 6 C.2.2.1 (gR_two _) rfl rfl rfl hd_two ⟨Nat.le_of_ble_eq_true rfl, Nat.le_of_ble_eq_true rfl⟩) rfl hl.1 rfl (Nat.le_of_ble_eq_true rfl) dX12_ofFunction_327 ⟨Nat.le_of_ble_eq_true rfl, Nat.le_of_ble_eq_true rfl⟩ (fun H locs h => ?_)
    refine lv_goto (tgt := 400) C.1 C.2.1 dX12_ofFunction_330 (by decide) ?_
    cases hm
    exact q_vret C h hr hlk dX12_ofFunction_400
  have hm := ite_f c54 hm
  by_cases c57 : (el σ 92 x1) = 16
  · refine x_topi (congrArg Int32.ofInt c57) ?_
    have hm := ite_t c57 hm
    refine lv_tableIn (tgt := 248) C.1 C.2.1 dX12_ofFunction_28 (by decide) (by decide) rfl (by decide) ?_
    refine lv_aload_n C.1 C.2.1 dX12_ofFunction_248 rfl (lv_at hl 3 rfl) ?_
    refine lv_bipush (v := Int32.ofInt 21) C.1 C.2.1 dX12_ofFunction_249 (by decide) ?_
    refine lv_iload_n C.1 C.2.1 dX12_ofFunction_251 rfl (lv_at hl 2 rfl) ?_
    refine lv_iconst (v := Int32.ofInt 0) C.1 C.2.1 dX12_ofFunction_252 (by decide) ?_
    refine lv_iconst (v := Int32.ofInt 0) C.1 C.2.1 dX12_ofFunction_253 (by decide) ?_
    refine lv_iconst (v := Int32.ofInt 0) C.1 C.2.1 dX12_ofFunction_254 (by decide) ?_
    refine lv_iload C.1 C.2.1 dX12_ofFunction_255 (lv_at hl 0 rfl) ?_
    obtain ⟨r58, e59, hm⟩ := obd_s hm
    refine q_callVv C h (rc_one l D k g N σ 21 v2 0 0 0 v6 r58 e59) (cwV 6 C.2.2.1 (gR_one _) rfl rfl rfl hd_one ⟨Nat.le_of_ble_eq_true rfl, Nat.le_of_ble_eq_true rfl⟩) rfl hl.1 rfl (Nat.le_of_ble_eq_true rfl) dX12_ofFunction_257 ⟨Nat.le_of_ble_eq_true rfl, Nat.le_of_ble_eq_true rfl⟩ (fun H locs h => ?_)
    refine lv_goto (tgt := 400) C.1 C.2.1 dX12_ofFunction_260 (by decide) ?_
    cases hm
    exact q_vret C h hr hlk dX12_ofFunction_400
  have hm := ite_f c57 hm
  by_cases c60 : (el σ 92 x1) = 17
  · refine x_topi (congrArg Int32.ofInt c60) ?_
    have hm := ite_t c60 hm
    refine lv_tableIn (tgt := 263) C.1 C.2.1 dX12_ofFunction_28 (by decide) (by decide) rfl (by decide) ?_
    refine lv_aload_n C.1 C.2.1 dX12_ofFunction_263 rfl (lv_at hl 3 rfl) ?_
    refine lv_bipush (v := Int32.ofInt 22) C.1 C.2.1 dX12_ofFunction_264 (by decide) ?_
    refine lv_iload_n C.1 C.2.1 dX12_ofFunction_266 rfl (lv_at hl 2 rfl) ?_
    refine lv_iconst (v := Int32.ofInt 0) C.1 C.2.1 dX12_ofFunction_267 (by decide) ?_
    refine lv_iconst (v := Int32.ofInt 0) C.1 C.2.1 dX12_ofFunction_268 (by decide) ?_
    refine lv_iconst (v := Int32.ofInt 0) C.1 C.2.1 dX12_ofFunction_269 (by decide) ?_
    refine lv_iload C.1 C.2.1 dX12_ofFunction_270 (lv_at hl 0 rfl) ?_
    obtain ⟨r61, e62, hm⟩ := obd_s hm
    refine q_callVv C h (rc_one l D k g N σ 22 v2 0 0 0 v6 r61 e62) (cwV 6 C.2.2.1 (gR_one _) rfl rfl rfl hd_one ⟨Nat.le_of_ble_eq_true rfl, Nat.le_of_ble_eq_true rfl⟩) rfl hl.1 rfl (Nat.le_of_ble_eq_true rfl) dX12_ofFunction_272 ⟨Nat.le_of_ble_eq_true rfl, Nat.le_of_ble_eq_true rfl⟩ (fun H locs h => ?_)
    refine lv_goto (tgt := 400) C.1 C.2.1 dX12_ofFunction_275 (by decide) ?_
    cases hm
    exact q_vret C h hr hlk dX12_ofFunction_400
  have hm := ite_f c60 hm
  by_cases c63 : (el σ 92 x1) = 18
  · refine x_topi (congrArg Int32.ofInt c63) ?_
    have hm := ite_t c63 hm
    refine lv_tableIn (tgt := 378) C.1 C.2.1 dX12_ofFunction_28 (by decide) (by decide) rfl (by decide) ?_
    refine lv_aload_n C.1 C.2.1 dX12_ofFunction_378 rfl (lv_at hl 3 rfl) ?_
    refine lv_bipush (v := Int32.ofInt 16) C.1 C.2.1 dX12_ofFunction_379 (by decide) ?_
    refine lv_iload_n C.1 C.2.1 dX12_ofFunction_381 rfl (lv_at hl 2 rfl) ?_
    refine lv_iload_n C.1 C.2.1 dX12_ofFunction_382 rfl (lv_at hl 1 rfl) ?_
    refine lv_aload_n C.1 C.2.1 dX12_ofFunction_383 rfl (lv_at hl 3 rfl) ?_
    refine fg_22 C h dX12_ofFunction_384 ?_
    refine lv_iload_n C.1 C.2.1 dX12_ofFunction_387 rfl (lv_at hl 4 rfl) ?_
    refine al_89 C h dX12_ofFunction_388 g1 ?_
    refine lv_aload_n C.1 C.2.1 dX12_ofFunction_389 rfl (lv_at hl 3 rfl) ?_
    refine fg_23 C h dX12_ofFunction_390 ?_
    refine lv_iload_n C.1 C.2.1 dX12_ofFunction_393 rfl (lv_at hl 4 rfl) ?_
    refine al_88 C h dX12_ofFunction_394 g1 ?_
    refine lv_iload C.1 C.2.1 dX12_ofFunction_395 (lv_at hl 0 rfl) ?_
    obtain ⟨r64, e65, hm⟩ := obd_s hm
    refine q_callVv C h (rc_two l D k g N σ 16 v2 v4 (el σ 89 x1) (el σ 88 x1) v6 r64 e65) (cwV 6 C.2.2.1 (gR_two _) rfl rfl rfl hd_two ⟨Nat.le_of_ble_eq_true rfl, Nat.le_of_ble_eq_true rfl⟩) rfl hl.1 rfl (Nat.le_of_ble_eq_true rfl) dX12_ofFunction_397 ⟨Nat.le_of_ble_eq_true rfl, Nat.le_of_ble_eq_true rfl⟩ (fun H locs h => ?_)
    cases hm
    exact q_vret C h hr hlk dX12_ofFunction_400
  have hm := ite_f c63 hm
  by_cases c66 : (el σ 92 x1) = 19
  · refine x_topi (congrArg Int32.ofInt c66) ?_
    have hm := ite_t c66 hm
    refine lv_tableIn (tgt := 378) C.1 C.2.1 dX12_ofFunction_28 (by decide) (by decide) rfl (by decide) ?_
    refine lv_aload_n C.1 C.2.1 dX12_ofFunction_378 rfl (lv_at hl 3 rfl) ?_
    refine lv_bipush (v := Int32.ofInt 16) C.1 C.2.1 dX12_ofFunction_379 (by decide) ?_
    refine lv_iload_n C.1 C.2.1 dX12_ofFunction_381 rfl (lv_at hl 2 rfl) ?_
    refine lv_iload_n C.1 C.2.1 dX12_ofFunction_382 rfl (lv_at hl 1 rfl) ?_
    refine lv_aload_n C.1 C.2.1 dX12_ofFunction_383 rfl (lv_at hl 3 rfl) ?_
    refine fg_22 C h dX12_ofFunction_384 ?_
    refine lv_iload_n C.1 C.2.1 dX12_ofFunction_387 rfl (lv_at hl 4 rfl) ?_
    refine al_89 C h dX12_ofFunction_388 g1 ?_
    refine lv_aload_n C.1 C.2.1 dX12_ofFunction_389 rfl (lv_at hl 3 rfl) ?_
    refine fg_23 C h dX12_ofFunction_390 ?_
    refine lv_iload_n C.1 C.2.1 dX12_ofFunction_393 rfl (lv_at hl 4 rfl) ?_
    refine al_88 C h dX12_ofFunction_394 g1 ?_
    refine lv_iload C.1 C.2.1 dX12_ofFunction_395 (lv_at hl 0 rfl) ?_
    obtain ⟨r67, e68, hm⟩ := obd_s hm
    refine q_callVv C h (rc_two l D k g N σ 16 v2 v4 (el σ 89 x1) (el σ 88 x1) v6 r67 e68) (cwV 6 C.2.2.1 (gR_two _) rfl rfl rfl hd_two ⟨Nat.le_of_ble_eq_true rfl, Nat.le_of_ble_eq_true rfl⟩) rfl hl.1 rfl (Nat.le_of_ble_eq_true rfl) dX12_ofFunction_397 ⟨Nat.le_of_ble_eq_true rfl, Nat.le_of_ble_eq_true rfl⟩ (fun H locs h => ?_)
    cases hm
    exact q_vret C h hr hlk dX12_ofFunction_400
  have hm := ite_f c66 hm
  by_cases c69 : (el σ 92 x1) = 20
  · refine x_topi (congrArg Int32.ofInt c69) ?_
    have hm := ite_t c69 hm
    refine lv_tableIn (tgt := 278) C.1 C.2.1 dX12_ofFunction_28 (by decide) (by decide) rfl (by decide) ?_
    refine lv_aload_n C.1 C.2.1 dX12_ofFunction_278 rfl (lv_at hl 3 rfl) ?_
    refine lv_bipush (v := Int32.ofInt 20) C.1 C.2.1 dX12_ofFunction_279 (by decide) ?_
    refine lv_iload_n C.1 C.2.1 dX12_ofFunction_281 rfl (lv_at hl 2 rfl) ?_
    refine lv_iload_n C.1 C.2.1 dX12_ofFunction_282 rfl (lv_at hl 1 rfl) ?_
    refine lv_aload_n C.1 C.2.1 dX12_ofFunction_283 rfl (lv_at hl 3 rfl) ?_
    refine fg_22 C h dX12_ofFunction_284 ?_
    refine lv_iload_n C.1 C.2.1 dX12_ofFunction_287 rfl (lv_at hl 4 rfl) ?_
    refine al_89 C h dX12_ofFunction_288 g1 ?_
    refine lv_aload_n C.1 C.2.1 dX12_ofFunction_289 rfl (lv_at hl 3 rfl) ?_
    refine fg_23 C h dX12_ofFunction_290 ?_
    refine lv_iload_n C.1 C.2.1 dX12_ofFunction_293 rfl (lv_at hl 4 rfl) ?_
    refine al_88 C h dX12_ofFunction_294 g1 ?_
    refine lv_iload C.1 C.2.1 dX12_ofFunction_295 (lv_at hl 0 rfl) ?_
    obtain ⟨r70, e71, hm⟩ := obd_s hm
    refine q_callVv C h (rc_one l D k g N σ 20 v2 v4 (el σ 89 x1) (el σ 88 x1) v6 r70 e71) (cwV 6 C.2.2.1 (gR_one _) rfl rfl rfl hd_one ⟨Nat.le_of_ble_eq_true rfl, Nat.le_of_ble_eq_true rfl⟩) rfl hl.1 rfl (Nat.le_of_ble_eq_true rfl) dX12_ofFunction_297 ⟨Nat.le_of_ble_eq_true rfl, Nat.le_of_ble_eq_true rfl⟩ (fun H locs h => ?_)
    refine lv_goto (tgt := 400) C.1 C.2.1 dX12_ofFunction_300 (by decide) ?_
    cases hm
    exact q_vret C h hr hlk dX12_ofFunction_400
  have hm := ite_f c69 hm
  refine lv_tableOut (tgt := 378) C.1 C.2.1 dX12_ofFunction_28 (by rw [c32_ti g8]; omega) (by decide) ?_
  refine lv_aload_n C.1 C.2.1 dX12_ofFunction_378 rfl (lv_at hl 3 rfl) ?_
  refine lv_bipush (v := Int32.ofInt 16) C.1 C.2.1 dX12_ofFunction_379 (by decide) ?_
  refine lv_iload_n C.1 C.2.1 dX12_ofFunction_381 rfl (lv_at hl 2 rfl) ?_
  refine lv_iload_n C.1 C.2.1 dX12_ofFunction_382 rfl (lv_at hl 1 rfl) ?_
  refine lv_aload_n C.1 C.2.1 dX12_ofFunction_383 rfl (lv_at hl 3 rfl) ?_
  refine fg_22 C h dX12_ofFunction_384 ?_
  refine lv_iload_n C.1 C.2.1 dX12_ofFunction_387 rfl (lv_at hl 4 rfl) ?_
  refine al_89 C h dX12_ofFunction_388 g1 ?_
  refine lv_aload_n C.1 C.2.1 dX12_ofFunction_389 rfl (lv_at hl 3 rfl) ?_
  refine fg_23 C h dX12_ofFunction_390 ?_
  refine lv_iload_n C.1 C.2.1 dX12_ofFunction_393 rfl (lv_at hl 4 rfl) ?_
  refine al_88 C h dX12_ofFunction_394 g1 ?_
  refine lv_iload C.1 C.2.1 dX12_ofFunction_395 (lv_at hl 0 rfl) ?_
  obtain ⟨r72, e73, hm⟩ := obd_s hm
  refine q_callVv C h (rc_two l D k g N σ 16 v2 v4 (el σ 89 x1) (el σ 88 x1) v6 r72 e73) (cwV 6 C.2.2.1 (gR_two _) rfl rfl rfl hd_two ⟨Nat.le_of_ble_eq_true rfl, Nat.le_of_ble_eq_true rfl⟩) rfl hl.1 rfl (Nat.le_of_ble_eq_true rfl) dX12_ofFunction_397 ⟨Nat.le_of_ble_eq_true rfl, Nat.le_of_ble_eq_true rfl⟩ (fun H locs h => ?_)
  cases hm
  exact q_vret C h hr hlk dX12_ofFunction_400
end L_ofFunction
section L_function
variable {p : Program} {l : Launch} {e : Env} {s : State} {m : MethodId} {args : Array Value} {below : List Frame} {meth : Method} {c : Code} {D : va_G} {A : Nat → Prop} {k : Nat → ClassId} {g : Nat → Nat} {N : Nat} {cd : Cond}
set_option maxHeartbeats 4000000 in
set_option maxRecDepth 100000 in
theorem lm_function_134 {r : St} (C : Cx p s m args c cX12_function RX12 (cd :: rW) D (TYs k) 4) (hr : meth.sig.returnType = none) (hlk : meth.locks = false)  {ls : Array Slot} {H : Heap} {locs : List Loc} {σ : St} {x1 : Int} {x2 : Int} (hl : lv_has ls 4 [(0, .ref (g 0)), (1, .int (Int32.ofInt x1)), (2, .int (Int32.ofInt x2))]) (h : Hp D A s.heap H locs (mW k g σ)) (hm : r_function_134 N  σ x1 x2 = some r) : W p l e { frames := 6, cells := 0, slots := 0, locals := 155 } s m args below meth c H locs 0 0 (MQ below (va_Qv (fun (_ : Unit) => True) (fun _ t => PostW D (TYs k) A (mW k g r) t) A) args s 0 0 A) (F0 m 134 ls []) := by
  rw [r_function_134] at hm
  refine lv_aload_n C.1 C.2.1 dX12_function_134 rfl (lv_at hl 0 rfl) ?_
  refine lv_bipush (v := Int32.ofInt 11) C.1 C.2.1 dX12_function_135 (by decide) ?_
  refine lv_aload_n C.1 C.2.1 dX12_function_137 rfl (lv_at hl 0 rfl) ?_
  refine fg_24 C h dX12_function_138 ?_
  refine lv_iload_n C.1 C.2.1 dX12_function_141 rfl (lv_at hl 1 rfl) ?_
  obtain ⟨g32, hm⟩ := grd_s hm
  refine al_87 C h dX12_function_142 g32 ?_
  obtain ⟨r33, e34, hm⟩ := obd_s hm
  refine q_callVv C h (rc_task l D k g N σ 11 (el σ 87 x1) r33 e34) (cwV 2 C.2.2.1 (gR_task _) rfl rfl rfl hd_task ⟨Nat.le_of_ble_eq_true rfl, Nat.le_of_ble_eq_true rfl⟩) rfl hl.1 rfl (Nat.le_of_ble_eq_true rfl) dX12_function_143 ⟨Nat.le_of_ble_eq_true rfl, Nat.le_of_ble_eq_true rfl⟩ (fun H locs h => ?_)
  refine lv_iload_n C.1 C.2.1 dX12_function_146 rfl (lv_at hl 2 rfl) ?_
  refine lv_bipush (v := Int32.ofInt 12) C.1 C.2.1 dX12_function_147 (by decide) ?_
  obtain ⟨g35, hm⟩ := grd_s hm
  refine z_icmp_ne (tgt := 162) C dX12_function_149 (by decide) g35 (by decide) (fun c36 => ?_) (fun c36 => ?_)
  · have hm := ite_f c36 hm
    refine lv_iload_n C.1 C.2.1 dX12_function_162 rfl (lv_at hl 2 rfl) ?_
    refine lv_bipush (v := Int32.ofInt 18) C.1 C.2.1 dX12_function_163 (by decide) ?_
    refine z_icmp_ne (tgt := 199) C dX12_function_165 (by decide) g35 (by decide) (fun c37 => ?_) (fun c37 => ?_)
    · have hm := ite_f c37 hm
      refine lv_aload_n C.1 C.2.1 dX12_function_199 rfl (lv_at hl 0 rfl) ?_
      refine lv_bipush (v := Int32.ofInt 13) C.1 C.2.1 dX12_function_200 (by decide) ?_
      refine lv_iload_n C.1 C.2.1 dX12_function_202 rfl (lv_at hl 1 rfl) ?_
      obtain ⟨r38, e39, hm⟩ := obd_s hm
      refine q_callVv C h (rc_task l D k g N r33 13 x1 r38 e39) (cwV 2 C.2.2.1 (gR_task _) rfl rfl rfl hd_task ⟨Nat.le_of_ble_eq_true rfl, Nat.le_of_ble_eq_true rfl⟩) rfl hl.1 rfl (Nat.le_of_ble_eq_true rfl) dX12_function_203 ⟨Nat.le_of_ble_eq_true rfl, Nat.le_of_ble_eq_true rfl⟩ (fun H locs h => ?_)
      cases hm
      exact q_vret C h hr hlk dX12_function_206
    · have hm := ite_t c37 hm
      refine lv_aload_n C.1 C.2.1 dX12_function_168 rfl (lv_at hl 0 rfl) ?_
      refine lv_bipush (v := Int32.ofInt 19) C.1 C.2.1 dX12_function_169 (by decide) ?_
      refine lv_iload_n C.1 C.2.1 dX12_function_171 rfl (lv_at hl 1 rfl) ?_
      obtain ⟨r40, e41, hm⟩ := obd_s hm
      refine q_callVv C h (rc_task l D k g N r33 19 x1 r40 e41) (cwV 2 C.2.2.1 (gR_task _) rfl rfl rfl hd_task ⟨Nat.le_of_ble_eq_true rfl, Nat.le_of_ble_eq_true rfl⟩) rfl hl.1 rfl (Nat.le_of_ble_eq_true rfl) dX12_function_172 ⟨Nat.le_of_ble_eq_true rfl, Nat.le_of_ble_eq_true rfl⟩ (fun H locs h => ?_)
      refine lv_aload_n C.1 C.2.1 dX12_function_175 rfl (lv_at hl 0 rfl) ?_
      refine lv_bipush (v := Int32.ofInt 14) C.1 C.2.1 dX12_function_176 (by decide) ?_
      refine lv_iload_n C.1 C.2.1 dX12_function_178 rfl (lv_at hl 1 rfl) ?_
      obtain ⟨r42, e43, hm⟩ := obd_s hm
      refine q_callVv C h (rc_task l D k g N r40 14 x1 r42 e43) (cwV 2 C.2.2.1 (gR_task _) rfl rfl rfl hd_task ⟨Nat.le_of_ble_eq_true rfl, Nat.le_of_ble_eq_true rfl⟩) rfl hl.1 rfl (Nat.le_of_ble_eq_true rfl) dX12_function_179 ⟨Nat.le_of_ble_eq_true rfl, Nat.le_of_ble_eq_true rfl⟩ (fun H locs h => ?_)
      refine lv_aload_n C.1 C.2.1 dX12_function_182 rfl (lv_at hl 0 rfl) ?_
      refine lv_bipush (v := Int32.ofInt 18) C.1 C.2.1 dX12_function_183 (by decide) ?_
      refine lv_iload_n C.1 C.2.1 dX12_function_185 rfl (lv_at hl 1 rfl) ?_
      obtain ⟨r44, e45, hm⟩ := obd_s hm
      refine q_callVv C h (rc_task l D k g N r42 18 x1 r44 e45) (cwV 2 C.2.2.1 (gR_task _) rfl rfl rfl hd_task ⟨Nat.le_of_ble_eq_true rfl, Nat.le_of_ble_eq_true rfl⟩) rfl hl.1 rfl (Nat.le_of_ble_eq_true rfl) dX12_function_186 ⟨Nat.le_of_ble_eq_true rfl, Nat.le_of_ble_eq_true rfl⟩ (fun H locs h => ?_)
      refine lv_aload_n C.1 C.2.1 dX12_function_189 rfl (lv_at hl 0 rfl) ?_
      refine lv_bipush (v := Int32.ofInt 13) C.1 C.2.1 dX12_function_190 (by decide) ?_
      refine lv_iload_n C.1 C.2.1 dX12_function_192 rfl (lv_at hl 1 rfl) ?_
      obtain ⟨r46, e47, hm⟩ := obd_s hm
      refine q_callVv C h (rc_task l D k g N r44 13 x1 r46 e47) (cwV 2 C.2.2.1 (gR_task _) rfl rfl rfl hd_task ⟨Nat.le_of_ble_eq_true rfl, Nat.le_of_ble_eq_true rfl⟩) rfl hl.1 rfl (Nat.le_of_ble_eq_true rfl) dX12_function_193 ⟨Nat.le_of_ble_eq_true rfl, Nat.le_of_ble_eq_true rfl⟩ (fun H locs h => ?_)
      refine lv_goto (tgt := 206) C.1 C.2.1 dX12_function_196 (by decide) ?_
      cases hm
      exact q_vret C h hr hlk dX12_function_206
  · have hm := ite_t c36 hm
    refine lv_aload_n C.1 C.2.1 dX12_function_152 rfl (lv_at hl 0 rfl) ?_
    refine lv_bipush (v := Int32.ofInt 20) C.1 C.2.1 dX12_function_153 (by decide) ?_
    refine lv_iload_n C.1 C.2.1 dX12_function_155 rfl (lv_at hl 1 rfl) ?_
    obtain ⟨r48, e49, hm⟩ := obd_s hm
    refine q_callVv C h (rc_task l D k g N r33 20 x1 r48 e49) (cwV 2 C.2.2.1 (gR_task _) rfl rfl rfl hd_task ⟨Nat.le_of_ble_eq_true rfl, Nat.le_of_ble_eq_true rfl⟩) rfl hl.1 rfl (Nat.le_of_ble_eq_true rfl) dX12_function_156 ⟨Nat.le_of_ble_eq_true rfl, Nat.le_of_ble_eq_true rfl⟩ (fun H locs h => ?_)
    refine lv_goto (tgt := 206) C.1 C.2.1 dX12_function_159 (by decide) ?_
    cases hm
    exact q_vret C h hr hlk dX12_function_206
set_option maxHeartbeats 4000000 in
set_option maxRecDepth 100000 in
theorem lm_function_121 {r : St} (C : Cx p s m args c cX12_function RX12 (cd :: rW) D (TYs k) 4) (hr : meth.sig.returnType = none) (hlk : meth.locks = false)  {ls : Array Slot} {H : Heap} {locs : List Loc} {σ : St} {x1 : Int} {x2 : Int} (hl : lv_has ls 4 [(0, .ref (g 0)), (1, .int (Int32.ofInt x1)), (2, .int (Int32.ofInt x2))]) (h : Hp D A s.heap H locs (mW k g σ)) (hm : r_function_121 N  σ x1 x2 = some r) : W p l e { frames := 6, cells := 0, slots := 0, locals := 155 } s m args below meth c H locs 0 0 (MQ below (va_Qv (fun (_ : Unit) => True) (fun _ t => PostW D (TYs k) A (mW k g r) t) A) args s 0 0 A) (F0 m 121 ls []) := by
  rw [r_function_121] at hm
  refine lv_iload_n C.1 C.2.1 dX12_function_121 rfl (lv_at hl 2 rfl) ?_
  refine lv_bipush (v := Int32.ofInt 7) C.1 C.2.1 dX12_function_122 (by decide) ?_
  obtain ⟨g28, hm⟩ := grd_s hm
  refine z_icmp_ne (tgt := 134) C dX12_function_124 (by decide) g28 (by decide) (fun c29 => ?_) (fun c29 => ?_)
  · have hm := ite_f c29 hm
    exact lm_function_134 (N := N) C hr hlk  (lv_sub hl [0, 1, 2] rfl) h hm
  · have hm := ite_t c29 hm
    refine lv_aload_n C.1 C.2.1 dX12_function_127 rfl (lv_at hl 0 rfl) ?_
    refine lv_bipush (v := Int32.ofInt 16) C.1 C.2.1 dX12_function_128 (by decide) ?_
    refine lv_iload_n C.1 C.2.1 dX12_function_130 rfl (lv_at hl 1 rfl) ?_
    obtain ⟨r30, e31, hm⟩ := obd_s hm
    refine q_callVv C h (rc_task l D k g N σ 16 x1 r30 e31) (cwV 2 C.2.2.1 (gR_task _) rfl rfl rfl hd_task ⟨Nat.le_of_ble_eq_true rfl, Nat.le_of_ble_eq_true rfl⟩) rfl hl.1 rfl (Nat.le_of_ble_eq_true rfl) dX12_function_131 ⟨Nat.le_of_ble_eq_true rfl, Nat.le_of_ble_eq_true rfl⟩ (fun H locs h => ?_)
    exact lm_function_134 (N := N) C hr hlk  (lv_sub hl [0, 1, 2] rfl) h hm
set_option maxHeartbeats 4000000 in
set_option maxRecDepth 100000 in
theorem lm_function_88 {r : St} (C : Cx p s m args c cX12_function RX12 (cd :: rW) D (TYs k) 4) (hr : meth.sig.returnType = none) (hlk : meth.locks = false)  {ls : Array Slot} {H : Heap} {locs : List Loc} {σ : St} {x1 : Int} {x2 : Int} (hl : lv_has ls 4 [(0, .ref (g 0)), (1, .int (Int32.ofInt x1)), (2, .int (Int32.ofInt x2))]) (h : Hp D A s.heap H locs (mW k g σ)) (hm : r_function_88 N  σ x1 x2 = some r) : W p l e { frames := 6, cells := 0, slots := 0, locals := 155 } s m args below meth c H locs 0 0 (MQ below (va_Qv (fun (_ : Unit) => True) (fun _ t => PostW D (TYs k) A (mW k g r) t) A) args s 0 0 A) (F0 m 88 ls []) := by
  rw [r_function_88] at hm
  refine lv_aload_n C.1 C.2.1 dX12_function_88 rfl (lv_at hl 0 rfl) ?_
  refine lv_bipush (v := Int32.ofInt 17) C.1 C.2.1 dX12_function_89 (by decide) ?_
  refine lv_iload_n C.1 C.2.1 dX12_function_91 rfl (lv_at hl 1 rfl) ?_
  obtain ⟨r26, e27, hm⟩ := obd_s hm
  refine q_callVv C h (rc_task l D k g N σ 17 x1 r26 e27) (cwV 2 C.2.2.1 (gR_task _) rfl rfl rfl hd_task ⟨Nat.le_of_ble_eq_true rfl, Nat.le_of_ble_eq_true rfl⟩) rfl hl.1 rfl (Nat.le_of_ble_eq_true rfl) dX12_function_92 ⟨Nat.le_of_ble_eq_true rfl, Nat.le_of_ble_eq_true rfl⟩ (fun H locs h => ?_)
  refine lv_goto (tgt := 121) C.1 C.2.1 dX12_function_95 (by decide) ?_
  exact lm_function_121 (N := N) C hr hlk  (lv_sub hl [0, 1, 2] rfl) h hm
set_option maxHeartbeats 4000000 in
set_option maxRecDepth 100000 in
theorem lm_function_59 {r : St} (C : Cx p s m args c cX12_function RX12 (cd :: rW) D (TYs k) 4) (hr : meth.sig.returnType = none) (hlk : meth.locks = false)  {ls : Array Slot} {H : Heap} {locs : List Loc} {σ : St} {x1 : Int} {x2 : Int} {s0 : Int} (hl : lv_has ls 4 [(0, .ref (g 0)), (1, .int (Int32.ofInt x1)), (2, .int (Int32.ofInt x2))]) (h : Hp D A s.heap H locs (mW k g σ)) (hm : r_function_59 N  σ x1 x2 s0 = some r) : W p l e { frames := 6, cells := 0, slots := 0, locals := 155 } s m args below meth c H locs 0 0 (MQ below (va_Qv (fun (_ : Unit) => True) (fun _ t => PostW D (TYs k) A (mW k g r) t) A) args s 0 0 A) (F0 m 59 ls [.int (Int32.ofInt s0)]) := by
  rw [r_function_59] at hm
  refine lv_istore_n (lv' := [(3, .int (Int32.ofInt s0)), (0, .ref (g 0)), (1, .int (Int32.ofInt x1)), (2, .int (Int32.ofInt x2))]) C.1 C.2.1 dX12_function_59 rfl hl (by decide) rfl (fun ls hl => ?_)
  refine lv_iload_n C.1 C.2.1 dX12_function_60 rfl (lv_at hl 0 rfl) ?_
  obtain ⟨g13, hm⟩ := grd_s hm
  refine z_if_ne (tgt := 70) C dX12_function_61 (by decide) g13 (fun c14 => ?_) (fun c14 => ?_)
  · have hm := ite_f c14 hm
    refine lv_iload_n C.1 C.2.1 dX12_function_70 rfl (lv_at hl 3 rfl) ?_
    refine lv_bipush (v := Int32.ofInt 7) C.1 C.2.1 dX12_function_71 (by decide) ?_
    obtain ⟨g15, hm⟩ := grd_s hm
    refine z_icmp_eq (tgt := 88) C dX12_function_73 (by decide) g15 (by decide) (fun c16 => ?_) (fun c16 => ?_)
    · have hm := ite_t c16 hm
      exact lm_function_88 (N := N) C hr hlk  (lv_sub hl [1, 2, 3] rfl) h hm
    · have hm := ite_f c16 hm
      refine lv_iload_n C.1 C.2.1 dX12_function_76 rfl (lv_at hl 3 rfl) ?_
      refine lv_bipush (v := Int32.ofInt 8) C.1 C.2.1 dX12_function_77 (by decide) ?_
      refine z_icmp_eq (tgt := 88) C dX12_function_79 (by decide) g15 (by decide) (fun c17 => ?_) (fun c17 => ?_)
      · have hm := ite_t c17 hm
        exact lm_function_88 (N := N) C hr hlk  (lv_sub hl [1, 2, 3] rfl) h hm
      · have hm := ite_f c17 hm
        refine lv_iload_n C.1 C.2.1 dX12_function_82 rfl (lv_at hl 3 rfl) ?_
        refine lv_bipush (v := Int32.ofInt 18) C.1 C.2.1 dX12_function_83 (by decide) ?_
        refine z_icmp_ne (tgt := 98) C dX12_function_85 (by decide) g15 (by decide) (fun c18 => ?_) (fun c18 => ?_)
        · have hm := ite_f c18 hm
          refine lv_iload_n C.1 C.2.1 dX12_function_98 rfl (lv_at hl 3 rfl) ?_
          refine lv_bipush (v := Int32.ofInt 12) C.1 C.2.1 dX12_function_99 (by decide) ?_
          refine z_icmp_ne (tgt := 114) C dX12_function_101 (by decide) g15 (by decide) (fun c19 => ?_) (fun c19 => ?_)
          · have hm := ite_f c19 hm
            refine lv_aload_n C.1 C.2.1 dX12_function_114 rfl (lv_at hl 1 rfl) ?_
            refine lv_bipush (v := Int32.ofInt 15) C.1 C.2.1 dX12_function_115 (by decide) ?_
            refine lv_iload_n C.1 C.2.1 dX12_function_117 rfl (lv_at hl 2 rfl) ?_
            obtain ⟨r20, e21, hm⟩ := obd_s hm
            refine q_callVv C h (rc_task l D k g N σ 15 x1 r20 e21) (cwV 2 C.2.2.1 (gR_task _) rfl rfl rfl hd_task ⟨Nat.le_of_ble_eq_true rfl, Nat.le_of_ble_eq_true rfl⟩) rfl hl.1 rfl (Nat.le_of_ble_eq_true rfl) dX12_function_118 ⟨Nat.le_of_ble_eq_true rfl, Nat.le_of_ble_eq_true rfl⟩ (fun H locs h => ?_)
            exact lm_function_121 (N := N) C hr hlk  (lv_sub hl [1, 2, 3] rfl) h hm
          · have hm := ite_t c19 hm
            refine lv_aload_n C.1 C.2.1 dX12_function_104 rfl (lv_at hl 1 rfl) ?_
            refine lv_bipush (v := Int32.ofInt 21) C.1 C.2.1 dX12_function_105 (by decide) ?_
            refine lv_iload_n C.1 C.2.1 dX12_function_107 rfl (lv_at hl 2 rfl) ?_
            obtain ⟨r22, e23, hm⟩ := obd_s hm
            refine q_callVv C h (rc_task l D k g N σ 21 x1 r22 e23) (cwV 2 C.2.2.1 (gR_task _) rfl rfl rfl hd_task ⟨Nat.le_of_ble_eq_true rfl, Nat.le_of_ble_eq_true rfl⟩) rfl hl.1 rfl (Nat.le_of_ble_eq_true rfl) dX12_function_108 ⟨Nat.le_of_ble_eq_true rfl, Nat.le_of_ble_eq_true rfl⟩ (fun H locs h => ?_)
            refine lv_goto (tgt := 121) C.1 C.2.1 dX12_function_111 (by decide) ?_
            exact lm_function_121 (N := N) C hr hlk  (lv_sub hl [1, 2, 3] rfl) h hm
        · have hm := ite_t c18 hm
          exact lm_function_88 (N := N) C hr hlk  (lv_sub hl [1, 2, 3] rfl) h hm
  · have hm := ite_t c14 hm
    refine lv_aload_n C.1 C.2.1 dX12_function_64 rfl (lv_at hl 1 rfl) ?_
    refine lv_iload_n C.1 C.2.1 dX12_function_65 rfl (lv_at hl 2 rfl) ?_
    obtain ⟨r24, e25, hm⟩ := obd_s hm
    refine q_callVv C h (rc_ofFunction l D k g N σ x1 r24 e25) (cwV 1 C.2.2.1 (gR_ofFunction _) rfl rfl rfl hd_ofFunction ⟨Nat.le_of_ble_eq_true rfl, Nat.le_of_ble_eq_true rfl⟩) rfl hl.1 rfl (Nat.le_of_ble_eq_true rfl) dX12_function_66 ⟨Nat.le_of_ble_eq_true rfl, Nat.le_of_ble_eq_true rfl⟩ (fun H locs h => ?_)
    cases hm
    exact q_vret C h hr hlk dX12_function_69
set_option maxHeartbeats 4000000 in
set_option maxRecDepth 100000 in
theorem lm_function_54 {r : St} (C : Cx p s m args c cX12_function RX12 (cd :: rW) D (TYs k) 4) (hr : meth.sig.returnType = none) (hlk : meth.locks = false)  {ls : Array Slot} {H : Heap} {locs : List Loc} {σ : St} {x1 : Int} {x2 : Int} (hl : lv_has ls 4 [(0, .ref (g 0)), (1, .int (Int32.ofInt x1)), (2, .int (Int32.ofInt x2))]) (h : Hp D A s.heap H locs (mW k g σ)) (hm : r_function_54 N  σ x1 x2 = some r) : W p l e { frames := 6, cells := 0, slots := 0, locals := 155 } s m args below meth c H locs 0 0 (MQ below (va_Qv (fun (_ : Unit) => True) (fun _ t => PostW D (TYs k) A (mW k g r) t) A) args s 0 0 A) (F0 m 54 ls []) := by
  rw [r_function_54] at hm
  refine lv_iconst (v := Int32.ofInt 1) C.1 C.2.1 dX12_function_54 (by decide) ?_
  refine lv_goto (tgt := 59) C.1 C.2.1 dX12_function_55 (by decide) ?_
  exact lm_function_59 (N := N) C hr hlk  (lv_sub hl [0, 1, 2] rfl) h hm
set_option maxHeartbeats 4000000 in
set_option maxRecDepth 100000 in
theorem rc_function (l : Launch) (D : va_G) (k : Nat → ClassId) (g : Nat → Nat) (N : Nat) (σ : St) (x1 : Int) (r : St) (hm : r_function N σ x1 = some r) : Mv l yX12_function (.code yX12_function cX12_function 4 none :: rW) { frames := 6, cells := 0, slots := 0, locals := 155 } [.ref (g 0), .int (Int32.ofInt x1)] D (TYs k) (mW k g σ) (fun _ => True) Unit (fun _ => True) (fun _ => mW k g r) 0 0 := by
  intro sz
  refine x_met (cc := cX12_function) (maxL := 4) (ret := none) (by decide) rfl (Nat.le_of_ble_eq_true rfl) ?_
  intro p e s m below meth c ls C hX hsz hr hlk hmn hl h
  have hl : lv_has ls 4 [(0, .ref (g 0)), (1, .int (Int32.ofInt x1))] := hl
  rw [r_function] at hm
  refine lv_aload_n C.1 C.2.1 dX12_function_0 rfl (lv_at hl 0 rfl) ?_
  refine fg_19 C h dX12_function_1 ?_
  refine lv_iload_n C.1 C.2.1 dX12_function_4 rfl (lv_at hl 1 rfl) ?_
  obtain ⟨g1, hm⟩ := grd_s hm
  refine al_92 C h dX12_function_5 g1 ?_
  obtain ⟨v2, e3, hm⟩ := bnd_s hm
  rw [e3]
  refine lv_istore_n (lv' := [(2, .int (Int32.ofInt v2)), (0, .ref (g 0)), (1, .int (Int32.ofInt x1))]) C.1 C.2.1 dX12_function_6 rfl hl (by decide) rfl (fun ls hl => ?_)
  refine lv_iload_n C.1 C.2.1 dX12_function_7 rfl (lv_at hl 0 rfl) ?_
  refine lv_iconst (v := Int32.ofInt 5) C.1 C.2.1 dX12_function_8 (by decide) ?_
  obtain ⟨g4, hm⟩ := grd_s hm
  refine z_icmp_eq (tgt := 54) C dX12_function_9 (by decide) g4 (by decide) (fun c5 => ?_) (fun c5 => ?_)
  · have hm := ite_t c5 hm
    exact lm_function_54 (N := N) C hr hlk  (lv_sub hl [1, 2, 0] rfl) h hm
  · have hm := ite_f c5 hm
    refine lv_iload_n C.1 C.2.1 dX12_function_12 rfl (lv_at hl 0 rfl) ?_
    refine lv_bipush (v := Int32.ofInt 6) C.1 C.2.1 dX12_function_13 (by decide) ?_
    refine z_icmp_eq (tgt := 54) C dX12_function_15 (by decide) g4 (by decide) (fun c6 => ?_) (fun c6 => ?_)
    · have hm := ite_t c6 hm
      exact lm_function_54 (N := N) C hr hlk  (lv_sub hl [1, 2, 0] rfl) h hm
    · have hm := ite_f c6 hm
      refine lv_iload_n C.1 C.2.1 dX12_function_18 rfl (lv_at hl 0 rfl) ?_
      refine lv_bipush (v := Int32.ofInt 7) C.1 C.2.1 dX12_function_19 (by decide) ?_
      refine z_icmp_eq (tgt := 54) C dX12_function_21 (by decide) g4 (by decide) (fun c7 => ?_) (fun c7 => ?_)
      · have hm := ite_t c7 hm
        exact lm_function_54 (N := N) C hr hlk  (lv_sub hl [1, 2, 0] rfl) h hm
      · have hm := ite_f c7 hm
        refine lv_iload_n C.1 C.2.1 dX12_function_24 rfl (lv_at hl 0 rfl) ?_
        refine lv_bipush (v := Int32.ofInt 8) C.1 C.2.1 dX12_function_25 (by decide) ?_
        refine z_icmp_eq (tgt := 54) C dX12_function_27 (by decide) g4 (by decide) (fun c8 => ?_) (fun c8 => ?_)
        · have hm := ite_t c8 hm
          exact lm_function_54 (N := N) C hr hlk  (lv_sub hl [1, 2, 0] rfl) h hm
        · have hm := ite_f c8 hm
          refine lv_iload_n C.1 C.2.1 dX12_function_30 rfl (lv_at hl 0 rfl) ?_
          refine lv_bipush (v := Int32.ofInt 11) C.1 C.2.1 dX12_function_31 (by decide) ?_
          refine z_icmp_eq (tgt := 54) C dX12_function_33 (by decide) g4 (by decide) (fun c9 => ?_) (fun c9 => ?_)
          · have hm := ite_t c9 hm
            exact lm_function_54 (N := N) C hr hlk  (lv_sub hl [1, 2, 0] rfl) h hm
          · have hm := ite_f c9 hm
            refine lv_iload_n C.1 C.2.1 dX12_function_36 rfl (lv_at hl 0 rfl) ?_
            refine lv_bipush (v := Int32.ofInt 12) C.1 C.2.1 dX12_function_37 (by decide) ?_
            refine z_icmp_eq (tgt := 54) C dX12_function_39 (by decide) g4 (by decide) (fun c10 => ?_) (fun c10 => ?_)
            · have hm := ite_t c10 hm
              exact lm_function_54 (N := N) C hr hlk  (lv_sub hl [1, 2, 0] rfl) h hm
            · have hm := ite_f c10 hm
              refine lv_iload_n C.1 C.2.1 dX12_function_42 rfl (lv_at hl 0 rfl) ?_
              refine lv_bipush (v := Int32.ofInt 18) C.1 C.2.1 dX12_function_43 (by decide) ?_
              refine z_icmp_eq (tgt := 54) C dX12_function_45 (by decide) g4 (by decide) (fun c11 => ?_) (fun c11 => ?_)
              · have hm := ite_t c11 hm
                exact lm_function_54 (N := N) C hr hlk  (lv_sub hl [1, 2, 0] rfl) h hm
              · have hm := ite_f c11 hm
                refine lv_iload_n C.1 C.2.1 dX12_function_48 rfl (lv_at hl 0 rfl) ?_
                refine lv_bipush (v := Int32.ofInt 19) C.1 C.2.1 dX12_function_49 (by decide) ?_
                refine z_icmp_ne (tgt := 58) C dX12_function_51 (by decide) g4 (by decide) (fun c12 => ?_) (fun c12 => ?_)
                · have hm := ite_f c12 hm
                  refine lv_iconst (v := Int32.ofInt 0) C.1 C.2.1 dX12_function_58 (by decide) ?_
                  exact lm_function_59 (N := N) C hr hlk  (lv_sub hl [1, 2, 0] rfl) h hm
                · have hm := ite_t c12 hm
                  exact lm_function_54 (N := N) C hr hlk  (lv_sub hl [1, 2, 0] rfl) h hm
end L_function
section L_use
variable {p : Program} {l : Launch} {e : Env} {s : State} {m : MethodId} {args : Array Value} {below : List Frame} {meth : Method} {c : Code} {D : va_G} {A : Nat → Prop} {k : Nat → ClassId} {g : Nat → Nat} {N : Nat} {cd : Cond}
set_option maxHeartbeats 4000000 in
set_option maxRecDepth 100000 in
theorem lm_use_96 {r : St} (C : Cx p s m args c cX12_use RX12 (cd :: rW) D (TYs k) 4) (hr : meth.sig.returnType = none) (hlk : meth.locks = false)  (n : Nat) : ∀ {ls : Array Slot} {H : Heap} {locs : List Loc} {σ : St} {x2 : Int} {x3 : Int}, lv_has ls 4 [(0, .ref (g 0)), (2, .int (Int32.ofInt x2)), (3, .int (Int32.ofInt x3))] → Hp D A s.heap H locs (mW k g σ) → r_use_96 N  n σ x2 x3 = some r → W p l e { frames := 2, cells := 0, slots := 0, locals := 45 } s m args below meth c H locs 0 0 (MQ below (va_Qv (fun (_ : Unit) => True) (fun _ t => PostW D (TYs k) A (mW k g r) t) A) args s 0 0 A) (F0 m 96 ls []) := by
  induction n with
  | zero => intro ls H locs σ x2 x3 hl h hm; cases (show none = some r from hm)
  | succ n hrec96 =>
    intro ls H locs σ x2 x3 hl h hm
    rw [r_use_96] at hm
    refine lv_iload_n C.1 C.2.1 dX12_use_96 rfl (lv_at hl 2 rfl) ?_
    refine lv_aload_n C.1 C.2.1 dX12_use_97 rfl (lv_at hl 0 rfl) ?_
    refine fg_31 C h dX12_use_98 ?_
    refine lv_iload_n C.1 C.2.1 dX12_use_101 rfl (lv_at hl 1 rfl) ?_
    obtain ⟨g17, hm⟩ := grd_s hm
    refine al_81 C h dX12_use_102 g17 ?_
    obtain ⟨g18, hm⟩ := grd_s hm
    obtain ⟨g19, hm⟩ := grd_s hm
    refine z_icmp_ge (tgt := 136) C dX12_use_103 (by decide) g18 g19 (fun c20 => ?_) (fun c20 => ?_)
    · have hm := ite_f c20 hm
      refine lv_aload_n C.1 C.2.1 dX12_use_136 rfl (lv_at hl 0 rfl) ?_
      refine lv_bipush (v := Int32.ofInt 23) C.1 C.2.1 dX12_use_137 (by decide) ?_
      refine lv_iconst (v := Int32.ofInt (-1)) C.1 C.2.1 dX12_use_139 (by decide) ?_
      obtain ⟨r21, e22, hm⟩ := obd_s hm
      refine q_callVv C h (rc_task l D k g N σ 23 (-1) r21 e22) (cwV 2 C.2.2.1 (gR_task _) rfl rfl rfl hd_task ⟨Nat.le_of_ble_eq_true rfl, Nat.le_of_ble_eq_true rfl⟩) rfl hl.1 rfl (Nat.le_of_ble_eq_true rfl) dX12_use_140 ⟨Nat.le_of_ble_eq_true rfl, Nat.le_of_ble_eq_true rfl⟩ (fun H locs h => ?_)
      refine lv_aload_n C.1 C.2.1 dX12_use_143 rfl (lv_at hl 0 rfl) ?_
      refine lv_iconst (v := Int32.ofInt 1) C.1 C.2.1 dX12_use_144 (by decide) ?_
      refine lv_aload_n C.1 C.2.1 dX12_use_145 rfl (lv_at hl 0 rfl) ?_
      refine fg_32 C h dX12_use_146 ?_
      refine lv_iload_n C.1 C.2.1 dX12_use_149 rfl (lv_at hl 1 rfl) ?_
      refine al_80 C h dX12_use_150 g17 ?_
      obtain ⟨r23, e24, hm⟩ := obd_s hm
      refine q_callVv C h (rc_task l D k g N r21 1 (el r21 80 x2) r23 e24) (cwV 2 C.2.2.1 (gR_task _) rfl rfl rfl hd_task ⟨Nat.le_of_ble_eq_true rfl, Nat.le_of_ble_eq_true rfl⟩) rfl hl.1 rfl (Nat.le_of_ble_eq_true rfl) dX12_use_151 ⟨Nat.le_of_ble_eq_true rfl, Nat.le_of_ble_eq_true rfl⟩ (fun H locs h => ?_)
      cases hm
      exact q_vret C h hr hlk dX12_use_154
    · have hm := ite_t c20 hm
      refine lv_aload_n C.1 C.2.1 dX12_use_106 rfl (lv_at hl 0 rfl) ?_
      refine fg_72 C h dX12_use_107 ?_
      refine lv_iconst (v := Int32.ofInt 4) C.1 C.2.1 dX12_use_110 (by decide) ?_
      refine lv_aload_n C.1 C.2.1 dX12_use_111 rfl (lv_at hl 0 rfl) ?_
      refine fg_70 C h dX12_use_112 ?_
      refine z_imul C dX12_use_115 ?_
      refine lv_iload_n C.1 C.2.1 dX12_use_116 rfl (lv_at hl 2 rfl) ?_
      refine z_iadd C dX12_use_117 ?_
      refine lv_aload_n C.1 C.2.1 dX12_use_118 rfl (lv_at hl 0 rfl) ?_
      refine fg_69 C h dX12_use_119 ?_
      refine lv_aload_n C.1 C.2.1 dX12_use_122 rfl (lv_at hl 0 rfl) ?_
      refine fg_68 C h dX12_use_123 ?_
      refine lv_iload_n C.1 C.2.1 dX12_use_126 rfl (lv_at hl 2 rfl) ?_
      refine z_iadd C dX12_use_127 ?_
      obtain ⟨g25, hm⟩ := grd_s hm
      refine al_54 C h dX12_use_128 g25 ?_
      obtain ⟨g26, hm⟩ := grd_s hm
      refine as_53 C h dX12_use_129 g26 (fun H locs h => ?_)
      refine lv_iinc (v := Int32.ofInt (x3 + 1)) (lv' := [(3, .int (Int32.ofInt (x3 + 1))), (0, .ref (g 0)), (2, .int (Int32.ofInt x2))]) C.1 C.2.1 dX12_use_130 hl (k := 2) rfl (c32_add _ _) (by decide) rfl (fun ls hl => ?_)
      refine lv_goto (tgt := 96) C.1 C.2.1 dX12_use_133 (by decide) ?_
      exact hrec96 (lv_sub hl [1, 2, 0] rfl) h hm
set_option maxHeartbeats 4000000 in
set_option maxRecDepth 100000 in
theorem lm_use_69 {r : St} (C : Cx p s m args c cX12_use RX12 (cd :: rW) D (TYs k) 4) (hr : meth.sig.returnType = none) (hlk : meth.locks = false)  {ls : Array Slot} {H : Heap} {locs : List Loc} {σ : St} {x2 : Int} (hl : lv_has ls 4 [(0, .ref (g 0)), (2, .int (Int32.ofInt x2))]) (h : Hp D A s.heap H locs (mW k g σ)) (hm : r_use_69 N  σ x2 = some r) : W p l e { frames := 2, cells := 0, slots := 0, locals := 45 } s m args below meth c H locs 0 0 (MQ below (va_Qv (fun (_ : Unit) => True) (fun _ t => PostW D (TYs k) A (mW k g r) t) A) args s 0 0 A) (F0 m 69 ls []) := by
  rw [r_use_69] at hm
  refine lv_aload_n C.1 C.2.1 dX12_use_69 rfl (lv_at hl 0 rfl) ?_
  refine lv_dup C.1 C.2.1 dX12_use_70 rfl ?_
  refine fg_70 C h dX12_use_71 ?_
  refine lv_iconst (v := Int32.ofInt 1) C.1 C.2.1 dX12_use_74 (by decide) ?_
  refine z_iadd C dX12_use_75 ?_
  refine fp_70 C h dX12_use_76 (fun H locs h => ?_)
  refine lv_aload_n C.1 C.2.1 dX12_use_79 rfl (lv_at hl 0 rfl) ?_
  refine lv_dup C.1 C.2.1 dX12_use_80 rfl ?_
  refine fg_68 C h dX12_use_81 ?_
  refine x_topi (y := Int32.ofInt (fl σ 68 0)) rfl ?_
  refine lv_aload_n C.1 C.2.1 dX12_use_84 rfl (lv_at hl 0 rfl) ?_
  refine fg_31 C h dX12_use_85 ?_
  refine lv_iload_n C.1 C.2.1 dX12_use_88 rfl (lv_at hl 1 rfl) ?_
  obtain ⟨g16, hm⟩ := grd_s hm
  refine al_81 C h dX12_use_89 g16 ?_
  refine x_topi (y := Int32.ofInt (el σ 81 x2)) rfl ?_
  refine z_isub C dX12_use_90 ?_
  refine fp_68 C h dX12_use_91 (fun H locs h => ?_)
  refine lv_iconst (v := Int32.ofInt 0) C.1 C.2.1 dX12_use_94 (by decide) ?_
  refine lv_istore_n (lv' := [(3, .int (Int32.ofInt 0)), (0, .ref (g 0)), (2, .int (Int32.ofInt x2))]) C.1 C.2.1 dX12_use_95 rfl hl (by decide) rfl (fun ls hl => ?_)
  exact lm_use_96 (N := N) C hr hlk  N (lv_sub hl [1, 2, 0] rfl) h hm
set_option maxHeartbeats 4000000 in
set_option maxRecDepth 100000 in
theorem rc_use (l : Launch) (D : va_G) (k : Nat → ClassId) (g : Nat → Nat) (N : Nat) (σ : St) (x1 : Int) (r : St) (hm : r_use N σ x1 = some r) : Mv l yX12_use (.code yX12_use cX12_use 4 none :: rW) { frames := 2, cells := 0, slots := 0, locals := 45 } [.ref (g 0), .int (Int32.ofInt x1)] D (TYs k) (mW k g σ) (fun _ => True) Unit (fun _ => True) (fun _ => mW k g r) 0 0 := by
  intro sz
  refine x_met (cc := cX12_use) (maxL := 4) (ret := none) (by decide) rfl (Nat.le_of_ble_eq_true rfl) ?_
  intro p e s m below meth c ls C hX hsz hr hlk hmn hl h
  have hl : lv_has ls 4 [(0, .ref (g 0)), (1, .int (Int32.ofInt x1))] := hl
  rw [r_use] at hm
  refine lv_aload_n C.1 C.2.1 dX12_use_0 rfl (lv_at hl 0 rfl) ?_
  refine fg_19 C h dX12_use_1 ?_
  refine lv_iload_n C.1 C.2.1 dX12_use_4 rfl (lv_at hl 1 rfl) ?_
  obtain ⟨g1, hm⟩ := grd_s hm
  refine al_92 C h dX12_use_5 g1 ?_
  obtain ⟨v2, e3, hm⟩ := bnd_s hm
  rw [e3]
  refine lv_istore_n (lv' := [(2, .int (Int32.ofInt v2)), (0, .ref (g 0)), (1, .int (Int32.ofInt x1))]) C.1 C.2.1 dX12_use_6 rfl hl (by decide) rfl (fun ls hl => ?_)
  refine lv_aload_n C.1 C.2.1 dX12_use_7 rfl (lv_at hl 1 rfl) ?_
  refine fg_70 C h dX12_use_8 ?_
  refine lv_bipush (v := Int32.ofInt 12) C.1 C.2.1 dX12_use_11 (by decide) ?_
  obtain ⟨g4, hm⟩ := grd_s hm
  refine z_icmp_ne (tgt := 33) C dX12_use_13 (by decide) g4 (by decide) (fun c5 => ?_) (fun c5 => ?_)
  · have hm := ite_f c5 hm
    refine lv_aload_n C.1 C.2.1 dX12_use_33 rfl (lv_at hl 1 rfl) ?_
    refine lv_aload_n C.1 C.2.1 dX12_use_34 rfl (lv_at hl 1 rfl) ?_
    refine fg_18 C h dX12_use_35 ?_
    refine lv_iload_n C.1 C.2.1 dX12_use_38 rfl (lv_at hl 2 rfl) ?_
    refine al_93 C h dX12_use_39 g1 ?_
    refine lv_iconst (v := Int32.ofInt 1) C.1 C.2.1 dX12_use_40 (by decide) ?_
    obtain ⟨r6, e7, hm⟩ := obd_s hm
    refine q_callVv C h (rc_counts l D k g N σ (el σ 93 x1) 1 r6 e7) (cwV 2 C.2.2.1 (gR_counts _) rfl rfl rfl hd_counts ⟨Nat.le_of_ble_eq_true rfl, Nat.le_of_ble_eq_true rfl⟩) rfl hl.1 rfl (Nat.le_of_ble_eq_true rfl) dX12_use_41 ⟨Nat.le_of_ble_eq_true rfl, Nat.le_of_ble_eq_true rfl⟩ (fun H locs h => ?_)
    refine lv_aload_n C.1 C.2.1 dX12_use_44 rfl (lv_at hl 1 rfl) ?_
    refine fg_11 C h dX12_use_45 ?_
    obtain ⟨g8, hm⟩ := grd_s hm
    refine z_if_eq (tgt := 52) C dX12_use_48 (by decide) g8 (fun c9 => ?_) (fun c9 => ?_)
    · have hm := ite_t c9 hm
      refine lv_aload_n C.1 C.2.1 dX12_use_52 rfl (lv_at hl 1 rfl) ?_
      refine fg_70 C h dX12_use_53 ?_
      obtain ⟨g10, hm⟩ := grd_s hm
      refine z_if_ne (tgt := 69) C dX12_use_56 (by decide) g10 (fun c11 => ?_) (fun c11 => ?_)
      · have hm := ite_f c11 hm
        exact lm_use_69 (N := N) C hr hlk  (lv_sub hl [1, 0] rfl) h hm
      · have hm := ite_t c11 hm
        refine lv_aload_n C.1 C.2.1 dX12_use_59 rfl (lv_at hl 1 rfl) ?_
        refine lv_aload_n C.1 C.2.1 dX12_use_60 rfl (lv_at hl 1 rfl) ?_
        refine fg_18 C h dX12_use_61 ?_
        refine lv_iload_n C.1 C.2.1 dX12_use_64 rfl (lv_at hl 2 rfl) ?_
        refine al_93 C h dX12_use_65 g1 ?_
        refine fp_71 C h dX12_use_66 (fun H locs h => ?_)
        exact lm_use_69 (N := N) C hr hlk  (lv_sub hl [1, 0] rfl) h hm
    · have hm := ite_f c9 hm
      cases hm
      exact q_vret C h hr hlk dX12_use_51
  · have hm := ite_t c5 hm
    refine lv_aload_n C.1 C.2.1 dX12_use_16 rfl (lv_at hl 1 rfl) ?_
    refine lv_bipush (v := Int32.ofInt 10) C.1 C.2.1 dX12_use_17 (by decide) ?_
    refine lv_aload_n C.1 C.2.1 dX12_use_19 rfl (lv_at hl 1 rfl) ?_
    refine lv_aload_n C.1 C.2.1 dX12_use_20 rfl (lv_at hl 1 rfl) ?_
    refine fg_18 C h dX12_use_21 ?_
    refine lv_iload_n C.1 C.2.1 dX12_use_24 rfl (lv_at hl 2 rfl) ?_
    refine al_93 C h dX12_use_25 g1 ?_
    obtain ⟨r12, e13, hm⟩ := obd_s hm
    refine q_callVi C h (rc_spot l D k g N σ (el σ 93 x1) r12 e13) (cwV 1 C.2.2.1 (gR_spot _) rfl rfl rfl hd_spot ⟨Nat.le_of_ble_eq_true rfl, Nat.le_of_ble_eq_true rfl⟩) rfl hl.1 rfl (Nat.le_of_ble_eq_true rfl) dX12_use_26 ⟨Nat.le_of_ble_eq_true rfl, Nat.le_of_ble_eq_true rfl⟩ (fun H locs h => ?_)
    obtain ⟨r14, e15, hm⟩ := obd_s hm
    refine q_callVv C h (rc_fail l D k g N r12.1 10 r12.2 r14 e15) (cwV 2 C.2.2.1 (gR_fail _) rfl rfl rfl hd_fail ⟨Nat.le_of_ble_eq_true rfl, Nat.le_of_ble_eq_true rfl⟩) rfl hl.1 rfl (Nat.le_of_ble_eq_true rfl) dX12_use_29 ⟨Nat.le_of_ble_eq_true rfl, Nat.le_of_ble_eq_true rfl⟩ (fun H locs h => ?_)
    cases hm
    exact q_vret C h hr hlk dX12_use_32
end L_use
