def f_node (N : Nat) (σ : St) (x1 : Int32) (x2 : Int32) : Option (St × Int32) := grd (inb (gI σ 16) 32768) (grd (inb (gI σ 16) 32768) (grd (inb (gI σ 16) 32768) (grd (inb (gI σ 16) 32768) (grd (inb (gI σ 16) 32768) (grd (inb (gI σ 16) 32768) (grd (inb (gI σ 16) 32768) (grd (inb (gI σ 16) 32768) (grd (inb (gI σ 16) 32768) (grd (inb (gI σ 16) 32768) (grd (inb (gI σ 16) 32768) (some ((sa (sa (sa (sa (sa (sa (sa (sa (sa (sa (sa (sI σ 16 ((gI σ 16) + 1)) 93 (gI σ 16) x1) 92 (gI σ 16) x2) 91 (gI σ 16) 0) 90 (gI σ 16) 0) 89 (gI σ 16) 0) 88 (gI σ 16) 0) 87 (gI σ 16) 0) 86 (gI σ 16) (-1)) 85 (gI σ 16) (-1)) 84 (gI σ 16) (-1)) 83 (gI σ 16) (-1)), (gI σ 16)))))))))))))
section L_node
variable {p : Program} {l : Launch} {e : Env} {s : State} {m : MethodId} {args : Array Value} {below : List Frame} {meth : Method} {c : Code} {D : va_G} {A : Nat → Prop} {k : Nat → ClassId} {a : Nat} {g : Nat → Nat} {N : Nat} {cd : Cond}
set_option maxHeartbeats 4000000 in
set_option maxRecDepth 100000 in
theorem c_node (l : Launch) (D : va_G) (k : Nat → ClassId) (a : Nat) (g : Nat → Nat) (N : Nat) (σ : St) (x1 : Int32) (x2 : Int32) (r : St × Int32) (hm : f_node N σ x1 x2 = some r) : Mi l yX12_node (.code yX12_node cX12_node 4 (some .int) :: rW) { frames := 0, cells := 0, slots := 0, locals := 0 } [.ref a, .int x1, .int x2] D (TYs k) (mW k a g σ) (fun _ => True) Unit (fun v _ => v = r.2) (fun _ => mW k a g r.1) 0 0 := by
  intro sz
  refine x_met (cc := cX12_node) (maxL := 4) (ret := (some .int)) (by decide) rfl (Nat.le_of_ble_eq_true rfl) ?_
  intro p e s m below meth c ls C hX hsz hr hlk hmn hl h
  have hl : lv_has ls 4 [(0, .ref a), (1, .int x1), (2, .int x2)] := hl
  have hm : (grd (inb (gI σ 16) 32768) (grd (inb (gI σ 16) 32768) (grd (inb (gI σ 16) 32768) (grd (inb (gI σ 16) 32768) (grd (inb (gI σ 16) 32768) (grd (inb (gI σ 16) 32768) (grd (inb (gI σ 16) 32768) (grd (inb (gI σ 16) 32768) (grd (inb (gI σ 16) 32768) (grd (inb (gI σ 16) 32768) (grd (inb (gI σ 16) 32768) (some ((sa (sa (sa (sa (sa (sa (sa (sa (sa (sa (sa (sI σ 16 ((gI σ 16) + 1)) 93 (gI σ 16) x1) 92 (gI σ 16) x2) 91 (gI σ 16) 0) 90 (gI σ 16) 0) 89 (gI σ 16) 0) 88 (gI σ 16) 0) 87 (gI σ 16) 0) 86 (gI σ 16) (-1)) 85 (gI σ 16) (-1)) 84 (gI σ 16) (-1)) 83 (gI σ 16) (-1)), (gI σ 16)))))))))))))) = some r := hm
  refine lv_aload_n C.1 C.2.1 dX12_node_0 rfl (lv_at hl 0 rfl) ?_
  refine fg_16 C h dX12_node_1 ?_
  refine lv_istore_n (lv' := [(3, .int (gI σ 16)), (0, .ref a), (1, .int x1), (2, .int x2)]) C.1 C.2.1 dX12_node_4 rfl hl (by decide) rfl (fun ls hl => ?_)
  refine lv_aload_n C.1 C.2.1 dX12_node_5 rfl (lv_at hl 1 rfl) ?_
  refine lv_dup C.1 C.2.1 dX12_node_6 rfl ?_
  refine fg_16 C h dX12_node_7 ?_
  refine lv_iconst (v := 1) C.1 C.2.1 dX12_node_10 (by decide) ?_
  refine lv_iadd C.1 C.2.1 dX12_node_11 ?_
  refine fp_16 C h dX12_node_12 (fun H locs h => ?_)
  refine lv_aload_n C.1 C.2.1 dX12_node_15 rfl (lv_at hl 1 rfl) ?_
  refine fg_17 C h dX12_node_16 ?_
  refine lv_iload_n C.1 C.2.1 dX12_node_19 rfl (lv_at hl 0 rfl) ?_
  refine lv_iload_n C.1 C.2.1 dX12_node_20 rfl (lv_at hl 2 rfl) ?_
  obtain ⟨g1, hm⟩ := grd_s hm
  refine as_93 C h dX12_node_21 (inb_in g1) (fun H locs h => ?_)
  refine lv_aload_n C.1 C.2.1 dX12_node_22 rfl (lv_at hl 1 rfl) ?_
  refine fg_18 C h dX12_node_23 ?_
  refine lv_iload_n C.1 C.2.1 dX12_node_26 rfl (lv_at hl 0 rfl) ?_
  refine lv_iload_n C.1 C.2.1 dX12_node_27 rfl (lv_at hl 3 rfl) ?_
  obtain ⟨g2, hm⟩ := grd_s hm
  refine as_92 C h dX12_node_28 (inb_in g2) (fun H locs h => ?_)
  refine lv_aload_n C.1 C.2.1 dX12_node_29 rfl (lv_at hl 1 rfl) ?_
  refine fg_19 C h dX12_node_30 ?_
  refine lv_iload_n C.1 C.2.1 dX12_node_33 rfl (lv_at hl 0 rfl) ?_
  refine lv_iconst (v := 0) C.1 C.2.1 dX12_node_34 (by decide) ?_
  obtain ⟨g3, hm⟩ := grd_s hm
  refine as_91 C h dX12_node_35 (inb_in g3) (fun H locs h => ?_)
  refine lv_aload_n C.1 C.2.1 dX12_node_36 rfl (lv_at hl 1 rfl) ?_
  refine fg_20 C h dX12_node_37 ?_
  refine lv_iload_n C.1 C.2.1 dX12_node_40 rfl (lv_at hl 0 rfl) ?_
  refine lv_iconst (v := 0) C.1 C.2.1 dX12_node_41 (by decide) ?_
  obtain ⟨g4, hm⟩ := grd_s hm
  refine as_90 C h dX12_node_42 (inb_in g4) (fun H locs h => ?_)
  refine lv_aload_n C.1 C.2.1 dX12_node_43 rfl (lv_at hl 1 rfl) ?_
  refine fg_21 C h dX12_node_44 ?_
  refine lv_iload_n C.1 C.2.1 dX12_node_47 rfl (lv_at hl 0 rfl) ?_
  refine lv_iconst (v := 0) C.1 C.2.1 dX12_node_48 (by decide) ?_
  obtain ⟨g5, hm⟩ := grd_s hm
  refine as_89 C h dX12_node_49 (inb_in g5) (fun H locs h => ?_)
  refine lv_aload_n C.1 C.2.1 dX12_node_50 rfl (lv_at hl 1 rfl) ?_
  refine fg_22 C h dX12_node_51 ?_
  refine lv_iload_n C.1 C.2.1 dX12_node_54 rfl (lv_at hl 0 rfl) ?_
  refine lv_iconst (v := 0) C.1 C.2.1 dX12_node_55 (by decide) ?_
  obtain ⟨g6, hm⟩ := grd_s hm
  refine as_88 C h dX12_node_56 (inb_in g6) (fun H locs h => ?_)
  refine lv_aload_n C.1 C.2.1 dX12_node_57 rfl (lv_at hl 1 rfl) ?_
  refine fg_23 C h dX12_node_58 ?_
  refine lv_iload_n C.1 C.2.1 dX12_node_61 rfl (lv_at hl 0 rfl) ?_
  refine lv_iconst (v := 0) C.1 C.2.1 dX12_node_62 (by decide) ?_
  obtain ⟨g7, hm⟩ := grd_s hm
  refine as_87 C h dX12_node_63 (inb_in g7) (fun H locs h => ?_)
  refine lv_aload_n C.1 C.2.1 dX12_node_64 rfl (lv_at hl 1 rfl) ?_
  refine fg_24 C h dX12_node_65 ?_
  refine lv_iload_n C.1 C.2.1 dX12_node_68 rfl (lv_at hl 0 rfl) ?_
  refine lv_iconst (v := (-1)) C.1 C.2.1 dX12_node_69 (by decide) ?_
  obtain ⟨g8, hm⟩ := grd_s hm
  refine as_86 C h dX12_node_70 (inb_in g8) (fun H locs h => ?_)
  refine lv_aload_n C.1 C.2.1 dX12_node_71 rfl (lv_at hl 1 rfl) ?_
  refine fg_25 C h dX12_node_72 ?_
  refine lv_iload_n C.1 C.2.1 dX12_node_75 rfl (lv_at hl 0 rfl) ?_
  refine lv_iconst (v := (-1)) C.1 C.2.1 dX12_node_76 (by decide) ?_
  obtain ⟨g9, hm⟩ := grd_s hm
  refine as_85 C h dX12_node_77 (inb_in g9) (fun H locs h => ?_)
  refine lv_aload_n C.1 C.2.1 dX12_node_78 rfl (lv_at hl 1 rfl) ?_
  refine fg_26 C h dX12_node_79 ?_
  refine lv_iload_n C.1 C.2.1 dX12_node_82 rfl (lv_at hl 0 rfl) ?_
  refine lv_iconst (v := (-1)) C.1 C.2.1 dX12_node_83 (by decide) ?_
  obtain ⟨g10, hm⟩ := grd_s hm
  refine as_84 C h dX12_node_84 (inb_in g10) (fun H locs h => ?_)
  refine lv_aload_n C.1 C.2.1 dX12_node_85 rfl (lv_at hl 1 rfl) ?_
  refine fg_27 C h dX12_node_86 ?_
  refine lv_iload_n C.1 C.2.1 dX12_node_89 rfl (lv_at hl 0 rfl) ?_
  refine lv_iconst (v := (-1)) C.1 C.2.1 dX12_node_90 (by decide) ?_
  obtain ⟨g11, hm⟩ := grd_s hm
  refine as_83 C h dX12_node_91 (inb_in g11) (fun H locs h => ?_)
  refine lv_iload_n C.1 C.2.1 dX12_node_92 rfl (lv_at hl 0 rfl) ?_
  cases hm
  exact q_iret C h hr hlk dX12_node_93 rfl
end L_node
def f_append_32 (N : Nat)  (σ : St) (x1 : Int32) (x2 : Int32) : Option St := grd (inb x1 32768) (grd (inb x2 32768) (some (sa (sa σ 85 x1 x2) 84 x2 (-1))))
def f_append (N : Nat) (σ : St) (x1 : Int32) (x2 : Int32) : Option St := grd (inb x1 32768) (if ¬ (ga σ 86 x1) = (-1) then grd (inb x1 32768) (grd (inb (ga σ 85 x1) 32768) (f_append_32 N (sa σ 84 (ga σ 85 x1) x2) x1 x2)) else grd (inb x1 32768) (f_append_32 N (sa σ 86 x1 x2) x1 x2))
section L_append
variable {p : Program} {l : Launch} {e : Env} {s : State} {m : MethodId} {args : Array Value} {below : List Frame} {meth : Method} {c : Code} {D : va_G} {A : Nat → Prop} {k : Nat → ClassId} {a : Nat} {g : Nat → Nat} {N : Nat} {cd : Cond}
set_option maxHeartbeats 4000000 in
set_option maxRecDepth 100000 in
theorem lm_append_32 {r : St} (C : Cx p s m args c cX12_append RX12 (cd :: rW) D (TYs k) 3) (hr : meth.sig.returnType = none) (hlk : meth.locks = false)  {ls : Array Slot} {H : Heap} {locs : List Loc} {σ : St} {x1 : Int32} {x2 : Int32} (hl : lv_has ls 3 [(0, .ref a), (1, .int x1), (2, .int x2)]) (h : Hp D A s.heap H locs (mW k a g σ)) (hm : f_append_32 N  σ x1 x2 = some r) : W p l e { frames := 0, cells := 0, slots := 0, locals := 0 } s m args below meth c H locs 0 0 (MQ below (va_Qv (fun (_ : Unit) => True) (fun _ t => PostW D (TYs k) A (mW k a g r) t) A) args s 0 0 A) (F0 m 32 ls []) := by
  have hm : (grd (inb x1 32768) (grd (inb x2 32768) (some (sa (sa σ 85 x1 x2) 84 x2 (-1))))) = some r := hm
  refine lv_aload_n C.1 C.2.1 dX12_append_32 rfl (lv_at hl 0 rfl) ?_
  refine fg_25 C h dX12_append_33 ?_
  refine lv_iload_n C.1 C.2.1 dX12_append_36 rfl (lv_at hl 1 rfl) ?_
  refine lv_iload_n C.1 C.2.1 dX12_append_37 rfl (lv_at hl 2 rfl) ?_
  obtain ⟨g6, hm⟩ := grd_s hm
  refine as_85 C h dX12_append_38 (inb_in g6) (fun H locs h => ?_)
  refine lv_aload_n C.1 C.2.1 dX12_append_39 rfl (lv_at hl 0 rfl) ?_
  refine fg_26 C h dX12_append_40 ?_
  refine lv_iload_n C.1 C.2.1 dX12_append_43 rfl (lv_at hl 2 rfl) ?_
  refine lv_iconst (v := (-1)) C.1 C.2.1 dX12_append_44 (by decide) ?_
  obtain ⟨g7, hm⟩ := grd_s hm
  refine as_84 C h dX12_append_45 (inb_in g7) (fun H locs h => ?_)
  cases hm
  exact q_vret C h hr hlk dX12_append_46
set_option maxHeartbeats 4000000 in
set_option maxRecDepth 100000 in
theorem c_append (l : Launch) (D : va_G) (k : Nat → ClassId) (a : Nat) (g : Nat → Nat) (N : Nat) (σ : St) (x1 : Int32) (x2 : Int32) (r : St) (hm : f_append N σ x1 x2 = some r) : Mv l yX12_append (.code yX12_append cX12_append 3 none :: rW) { frames := 0, cells := 0, slots := 0, locals := 0 } [.ref a, .int x1, .int x2] D (TYs k) (mW k a g σ) (fun _ => True) Unit (fun _ => True) (fun _ => mW k a g r) 0 0 := by
  intro sz
  refine x_met (cc := cX12_append) (maxL := 3) (ret := none) (by decide) rfl (Nat.le_of_ble_eq_true rfl) ?_
  intro p e s m below meth c ls C hX hsz hr hlk hmn hl h
  have hl : lv_has ls 3 [(0, .ref a), (1, .int x1), (2, .int x2)] := hl
  have hm : (grd (inb x1 32768) (if ¬ (ga σ 86 x1) = (-1) then grd (inb x1 32768) (grd (inb (ga σ 85 x1) 32768) (f_append_32 N (sa σ 84 (ga σ 85 x1) x2) x1 x2)) else grd (inb x1 32768) (f_append_32 N (sa σ 86 x1 x2) x1 x2))) = some r := hm
  refine lv_aload_n C.1 C.2.1 dX12_append_0 rfl (lv_at hl 0 rfl) ?_
  refine fg_24 C h dX12_append_1 ?_
  refine lv_iload_n C.1 C.2.1 dX12_append_4 rfl (lv_at hl 1 rfl) ?_
  obtain ⟨g1, hm⟩ := grd_s hm
  refine al_86 C h dX12_append_5 (inb_in g1) ?_
  refine lv_iconst (v := (-1)) C.1 C.2.1 dX12_append_6 (by decide) ?_
  refine lv_icmp_ne (tgt := 20) C.1 C.2.1 dX12_append_7 (by decide) (fun c2 => ?_) (fun c2 => ?_)
  · have hm := ite_t c2 hm
    refine lv_aload_n C.1 C.2.1 dX12_append_20 rfl (lv_at hl 0 rfl) ?_
    refine fg_26 C h dX12_append_21 ?_
    refine lv_aload_n C.1 C.2.1 dX12_append_24 rfl (lv_at hl 0 rfl) ?_
    refine fg_25 C h dX12_append_25 ?_
    refine lv_iload_n C.1 C.2.1 dX12_append_28 rfl (lv_at hl 1 rfl) ?_
    obtain ⟨g3, hm⟩ := grd_s hm
    refine al_85 C h dX12_append_29 (inb_in g3) ?_
    refine lv_iload_n C.1 C.2.1 dX12_append_30 rfl (lv_at hl 2 rfl) ?_
    obtain ⟨g4, hm⟩ := grd_s hm
    refine as_84 C h dX12_append_31 (inb_in g4) (fun H locs h => ?_)
    exact lm_append_32 (N := N) C hr hlk  (lv_sub hl [0, 1, 2] rfl) h hm
  · have hm := ite_f c2 hm
    refine lv_aload_n C.1 C.2.1 dX12_append_10 rfl (lv_at hl 0 rfl) ?_
    refine fg_24 C h dX12_append_11 ?_
    refine lv_iload_n C.1 C.2.1 dX12_append_14 rfl (lv_at hl 1 rfl) ?_
    refine lv_iload_n C.1 C.2.1 dX12_append_15 rfl (lv_at hl 2 rfl) ?_
    obtain ⟨g5, hm⟩ := grd_s hm
    refine as_86 C h dX12_append_16 (inb_in g5) (fun H locs h => ?_)
    refine lv_goto (tgt := 32) C.1 C.2.1 dX12_append_17 (by decide) ?_
    exact lm_append_32 (N := N) C hr hlk  (lv_sub hl [0, 1, 2] rfl) h hm
end L_append
def f_fail (N : Nat) (σ : St) (x1 : Int32) (x2 : Int32) : Option St := if (gI σ 11) = 0 then some (sI (sI σ 11 x1) 12 x2) else some σ
section L_fail
variable {p : Program} {l : Launch} {e : Env} {s : State} {m : MethodId} {args : Array Value} {below : List Frame} {meth : Method} {c : Code} {D : va_G} {A : Nat → Prop} {k : Nat → ClassId} {a : Nat} {g : Nat → Nat} {N : Nat} {cd : Cond}
set_option maxHeartbeats 4000000 in
set_option maxRecDepth 100000 in
theorem c_fail (l : Launch) (D : va_G) (k : Nat → ClassId) (a : Nat) (g : Nat → Nat) (N : Nat) (σ : St) (x1 : Int32) (x2 : Int32) (r : St) (hm : f_fail N σ x1 x2 = some r) : Mv l yX12_fail (.code yX12_fail cX12_fail 3 none :: rW) { frames := 0, cells := 0, slots := 0, locals := 0 } [.ref a, .int x1, .int x2] D (TYs k) (mW k a g σ) (fun _ => True) Unit (fun _ => True) (fun _ => mW k a g r) 0 0 := by
  intro sz
  refine x_met (cc := cX12_fail) (maxL := 3) (ret := none) (by decide) rfl (Nat.le_of_ble_eq_true rfl) ?_
  intro p e s m below meth c ls C hX hsz hr hlk hmn hl h
  have hl : lv_has ls 3 [(0, .ref a), (1, .int x1), (2, .int x2)] := hl
  have hm : (if (gI σ 11) = 0 then some (sI (sI σ 11 x1) 12 x2) else some σ) = some r := hm
  refine lv_aload_n C.1 C.2.1 dX12_fail_0 rfl (lv_at hl 0 rfl) ?_
  refine fg_11 C h dX12_fail_1 ?_
  refine lv_if_eq (tgt := 8) C.1 C.2.1 dX12_fail_4 (by decide) (fun c1 => ?_) (fun c1 => ?_)
  · have hm := ite_t c1 hm
    refine lv_aload_n C.1 C.2.1 dX12_fail_8 rfl (lv_at hl 0 rfl) ?_
    refine lv_iload_n C.1 C.2.1 dX12_fail_9 rfl (lv_at hl 1 rfl) ?_
    refine fp_11 C h dX12_fail_10 (fun H locs h => ?_)
    refine lv_aload_n C.1 C.2.1 dX12_fail_13 rfl (lv_at hl 0 rfl) ?_
    refine lv_iload_n C.1 C.2.1 dX12_fail_14 rfl (lv_at hl 2 rfl) ?_
    refine fp_12 C h dX12_fail_15 (fun H locs h => ?_)
    cases hm
    exact q_vret C h hr hlk dX12_fail_18
  · have hm := ite_f c1 hm
    cases hm
    exact q_vret C h hr hlk dX12_fail_7
end L_fail
def f_byteAt (N : Nat) (σ : St) (x1 : Int32) : Option (St × Int32) := if x1 < 0 then some (σ, 0) else if (gI σ 1) ≤ x1 then some (σ, 0) else grd (inb x1 2000) (some (σ, (ga σ 96 x1)))
section L_byteAt
variable {p : Program} {l : Launch} {e : Env} {s : State} {m : MethodId} {args : Array Value} {below : List Frame} {meth : Method} {c : Code} {D : va_G} {A : Nat → Prop} {k : Nat → ClassId} {a : Nat} {g : Nat → Nat} {N : Nat} {cd : Cond}
set_option maxHeartbeats 4000000 in
set_option maxRecDepth 100000 in
theorem c_byteAt (l : Launch) (D : va_G) (k : Nat → ClassId) (a : Nat) (g : Nat → Nat) (N : Nat) (σ : St) (x1 : Int32) (r : St × Int32) (hm : f_byteAt N σ x1 = some r) : Mi l yX12_byteAt (.code yX12_byteAt cX12_byteAt 2 (some .int) :: rW) { frames := 0, cells := 0, slots := 0, locals := 0 } [.ref a, .int x1] D (TYs k) (mW k a g σ) (fun _ => True) Unit (fun v _ => v = r.2) (fun _ => mW k a g r.1) 0 0 := by
  intro sz
  refine x_met (cc := cX12_byteAt) (maxL := 2) (ret := (some .int)) (by decide) rfl (Nat.le_of_ble_eq_true rfl) ?_
  intro p e s m below meth c ls C hX hsz hr hlk hmn hl h
  have hl : lv_has ls 2 [(0, .ref a), (1, .int x1)] := hl
  have hm : (if x1 < 0 then some (σ, 0) else if (gI σ 1) ≤ x1 then some (σ, 0) else grd (inb x1 2000) (some (σ, (ga σ 96 x1)))) = some r := hm
  refine lv_iload_n C.1 C.2.1 dX12_byteAt_0 rfl (lv_at hl 1 rfl) ?_
  refine lv_if_lt (tgt := 21) C.1 C.2.1 dX12_byteAt_1 (by decide) (fun c1 => ?_) (fun c1 => ?_)
  · have hm := ite_t c1 hm
    refine lv_iconst (v := 0) C.1 C.2.1 dX12_byteAt_21 (by decide) ?_
    cases hm
    exact q_iret C h hr hlk dX12_byteAt_22 rfl
  · have hm := ite_f c1 hm
    refine lv_iload_n C.1 C.2.1 dX12_byteAt_4 rfl (lv_at hl 1 rfl) ?_
    refine lv_aload_n C.1 C.2.1 dX12_byteAt_5 rfl (lv_at hl 0 rfl) ?_
    refine fg_1 C h dX12_byteAt_6 ?_
    refine lv_icmp_ge (tgt := 21) C.1 C.2.1 dX12_byteAt_9 (by decide) (fun c2 => ?_) (fun c2 => ?_)
    · have hm := ite_t c2 hm
      refine lv_iconst (v := 0) C.1 C.2.1 dX12_byteAt_21 (by decide) ?_
      cases hm
      exact q_iret C h hr hlk dX12_byteAt_22 rfl
    · have hm := ite_f c2 hm
      refine lv_aload_n C.1 C.2.1 dX12_byteAt_12 rfl (lv_at hl 0 rfl) ?_
      refine fg_0 C h dX12_byteAt_13 ?_
      refine lv_iload_n C.1 C.2.1 dX12_byteAt_16 rfl (lv_at hl 1 rfl) ?_
      obtain ⟨g3, hm⟩ := grd_s hm
      refine al_96 C h dX12_byteAt_17 (inb_in g3) ?_
      refine lv_goto (tgt := 22) C.1 C.2.1 dX12_byteAt_18 (by decide) ?_
      cases hm
      exact q_iret C h hr hlk dX12_byteAt_22 rfl
end L_byteAt
def f_isLow (N : Nat) (x0 : Int32) : Option Int32 := if x0 < 97 then some 0 else if (122 : Int32) < x0 then some 0 else some 1
section L_isLow
variable {p : Program} {l : Launch} {e : Env} {s : State} {m : MethodId} {args : Array Value} {below : List Frame} {meth : Method} {c : Code} {D : va_G} {A : Nat → Prop} {k : Nat → ClassId} {a : Nat} {g : Nat → Nat} {N : Nat} {cd : Cond}
set_option maxHeartbeats 4000000 in
set_option maxRecDepth 100000 in
theorem c_isLow (l : Launch) (D : va_G) (k : Nat → ClassId) (N : Nat) (x0 : Int32) (r : Int32) (hm : f_isLow N x0 = some r) : Mi l yX12_isLow (.code yX12_isLow cX12_isLow 1 (some .boolean) :: rW) { frames := 0, cells := 0, slots := 0, locals := 0 } [.int x0] D (TYs k) [] (fun _ => True) Unit (fun v _ => v = r) (fun _ => []) 0 0 := by
  intro sz
  refine x_met (cc := cX12_isLow) (maxL := 1) (ret := (some .boolean)) (by decide) rfl (Nat.le_of_ble_eq_true rfl) ?_
  intro p e s m below meth c ls C hX hsz hr hlk hmn hl h
  have hl : lv_has ls 1 [(0, .int x0)] := hl
  have hm : (if x0 < 97 then some 0 else if (122 : Int32) < x0 then some 0 else some 1) = some r := hm
  refine lv_iload_n C.1 C.2.1 dX12_isLow_0 rfl (lv_at hl 0 rfl) ?_
  refine lv_bipush (v := 97) C.1 C.2.1 dX12_isLow_1 (by decide) ?_
  refine lv_icmp_lt (tgt := 16) C.1 C.2.1 dX12_isLow_3 (by decide) (fun c1 => ?_) (fun c1 => ?_)
  · have hm := ite_t c1 hm
    refine lv_iconst (v := 0) C.1 C.2.1 dX12_isLow_16 (by decide) ?_
    cases hm
    exact q_iretS C h hr hlk dX12_isLow_17 rfl
  · have hm := ite_f c1 hm
    refine lv_iload_n C.1 C.2.1 dX12_isLow_6 rfl (lv_at hl 0 rfl) ?_
    refine lv_bipush (v := 122) C.1 C.2.1 dX12_isLow_7 (by decide) ?_
    refine lv_icmp_gt (tgt := 16) C.1 C.2.1 dX12_isLow_9 (by decide) (fun c2 => ?_) (fun c2 => ?_)
    · have hm := ite_t c2 hm
      refine lv_iconst (v := 0) C.1 C.2.1 dX12_isLow_16 (by decide) ?_
      cases hm
      exact q_iretS C h hr hlk dX12_isLow_17 rfl
    · have hm := ite_f c2 hm
      refine lv_iconst (v := 1) C.1 C.2.1 dX12_isLow_12 (by decide) ?_
      refine lv_goto (tgt := 17) C.1 C.2.1 dX12_isLow_13 (by decide) ?_
      cases hm
      exact q_iretS C h hr hlk dX12_isLow_17 rfl
end L_isLow
def f_isDigit (N : Nat) (x0 : Int32) : Option Int32 := if x0 < 48 then some 0 else if (57 : Int32) < x0 then some 0 else some 1
section L_isDigit
variable {p : Program} {l : Launch} {e : Env} {s : State} {m : MethodId} {args : Array Value} {below : List Frame} {meth : Method} {c : Code} {D : va_G} {A : Nat → Prop} {k : Nat → ClassId} {a : Nat} {g : Nat → Nat} {N : Nat} {cd : Cond}
set_option maxHeartbeats 4000000 in
set_option maxRecDepth 100000 in
theorem c_isDigit (l : Launch) (D : va_G) (k : Nat → ClassId) (N : Nat) (x0 : Int32) (r : Int32) (hm : f_isDigit N x0 = some r) : Mi l yX12_isDigit (.code yX12_isDigit cX12_isDigit 1 (some .boolean) :: rW) { frames := 0, cells := 0, slots := 0, locals := 0 } [.int x0] D (TYs k) [] (fun _ => True) Unit (fun v _ => v = r) (fun _ => []) 0 0 := by
  intro sz
  refine x_met (cc := cX12_isDigit) (maxL := 1) (ret := (some .boolean)) (by decide) rfl (Nat.le_of_ble_eq_true rfl) ?_
  intro p e s m below meth c ls C hX hsz hr hlk hmn hl h
  have hl : lv_has ls 1 [(0, .int x0)] := hl
  have hm : (if x0 < 48 then some 0 else if (57 : Int32) < x0 then some 0 else some 1) = some r := hm
  refine lv_iload_n C.1 C.2.1 dX12_isDigit_0 rfl (lv_at hl 0 rfl) ?_
  refine lv_bipush (v := 48) C.1 C.2.1 dX12_isDigit_1 (by decide) ?_
  refine lv_icmp_lt (tgt := 16) C.1 C.2.1 dX12_isDigit_3 (by decide) (fun c1 => ?_) (fun c1 => ?_)
  · have hm := ite_t c1 hm
    refine lv_iconst (v := 0) C.1 C.2.1 dX12_isDigit_16 (by decide) ?_
    cases hm
    exact q_iretS C h hr hlk dX12_isDigit_17 rfl
  · have hm := ite_f c1 hm
    refine lv_iload_n C.1 C.2.1 dX12_isDigit_6 rfl (lv_at hl 0 rfl) ?_
    refine lv_bipush (v := 57) C.1 C.2.1 dX12_isDigit_7 (by decide) ?_
    refine lv_icmp_gt (tgt := 16) C.1 C.2.1 dX12_isDigit_9 (by decide) (fun c2 => ?_) (fun c2 => ?_)
    · have hm := ite_t c2 hm
      refine lv_iconst (v := 0) C.1 C.2.1 dX12_isDigit_16 (by decide) ?_
      cases hm
      exact q_iretS C h hr hlk dX12_isDigit_17 rfl
    · have hm := ite_f c2 hm
      refine lv_iconst (v := 1) C.1 C.2.1 dX12_isDigit_12 (by decide) ?_
      refine lv_goto (tgt := 17) C.1 C.2.1 dX12_isDigit_13 (by decide) ?_
      cases hm
      exact q_iretS C h hr hlk dX12_isDigit_17 rfl
end L_isDigit
def f_isOp_24 (N : Nat)   : Option Int32 := some 1
def f_isOp (N : Nat) (x0 : Int32) : Option Int32 := if x0 = 35 then f_isOp_24 N else if x0 = 43 then f_isOp_24 N else if x0 = 45 then f_isOp_24 N else if ¬ x0 = 42 then some 0 else f_isOp_24 N
section L_isOp
variable {p : Program} {l : Launch} {e : Env} {s : State} {m : MethodId} {args : Array Value} {below : List Frame} {meth : Method} {c : Code} {D : va_G} {A : Nat → Prop} {k : Nat → ClassId} {a : Nat} {g : Nat → Nat} {N : Nat} {cd : Cond}
set_option maxHeartbeats 4000000 in
set_option maxRecDepth 100000 in
theorem lm_isOp_24 {r : Int32} (C : Cx p s m args c cX12_isOp RX12 (cd :: rW) D (TYs k) 1) (hr : meth.sig.returnType = (some .boolean)) (hlk : meth.locks = false)  {ls : Array Slot} {H : Heap} {locs : List Loc}  (hl : lv_has ls 1 []) (h : Hp D A s.heap H locs []) (hm : f_isOp_24 N   = some r) : W p l e { frames := 0, cells := 0, slots := 0, locals := 0 } s m args below meth c H locs 0 0 (MQ below (va_Qi (fun v (_ : Unit) => v = r) (fun _ t => PostW D (TYs k) A [] t) A) args s 0 0 A) (F0 m 24 ls []) := by
  have hm : (some 1) = some r := hm
  refine lv_iconst (v := 1) C.1 C.2.1 dX12_isOp_24 (by decide) ?_
  refine lv_goto (tgt := 29) C.1 C.2.1 dX12_isOp_25 (by decide) ?_
  cases hm
  exact q_iretS C h hr hlk dX12_isOp_29 rfl
set_option maxHeartbeats 4000000 in
set_option maxRecDepth 100000 in
theorem c_isOp (l : Launch) (D : va_G) (k : Nat → ClassId) (N : Nat) (x0 : Int32) (r : Int32) (hm : f_isOp N x0 = some r) : Mi l yX12_isOp (.code yX12_isOp cX12_isOp 1 (some .boolean) :: rW) { frames := 0, cells := 0, slots := 0, locals := 0 } [.int x0] D (TYs k) [] (fun _ => True) Unit (fun v _ => v = r) (fun _ => []) 0 0 := by
  intro sz
  refine x_met (cc := cX12_isOp) (maxL := 1) (ret := (some .boolean)) (by decide) rfl (Nat.le_of_ble_eq_true rfl) ?_
  intro p e s m below meth c ls C hX hsz hr hlk hmn hl h
  have hl : lv_has ls 1 [(0, .int x0)] := hl
  have hm : (if x0 = 35 then f_isOp_24 N else if x0 = 43 then f_isOp_24 N else if x0 = 45 then f_isOp_24 N else if ¬ x0 = 42 then some 0 else f_isOp_24 N) = some r := hm
  refine lv_iload_n C.1 C.2.1 dX12_isOp_0 rfl (lv_at hl 0 rfl) ?_
  refine lv_bipush (v := 35) C.1 C.2.1 dX12_isOp_1 (by decide) ?_
  refine lv_icmp_eq (tgt := 24) C.1 C.2.1 dX12_isOp_3 (by decide) (fun c1 => ?_) (fun c1 => ?_)
  · have hm := ite_t c1 hm
    exact lm_isOp_24 (N := N) C hr hlk  (lv_sub hl [] rfl) h hm
  · have hm := ite_f c1 hm
    refine lv_iload_n C.1 C.2.1 dX12_isOp_6 rfl (lv_at hl 0 rfl) ?_
    refine lv_bipush (v := 43) C.1 C.2.1 dX12_isOp_7 (by decide) ?_
    refine lv_icmp_eq (tgt := 24) C.1 C.2.1 dX12_isOp_9 (by decide) (fun c2 => ?_) (fun c2 => ?_)
    · have hm := ite_t c2 hm
      exact lm_isOp_24 (N := N) C hr hlk  (lv_sub hl [] rfl) h hm
    · have hm := ite_f c2 hm
      refine lv_iload_n C.1 C.2.1 dX12_isOp_12 rfl (lv_at hl 0 rfl) ?_
      refine lv_bipush (v := 45) C.1 C.2.1 dX12_isOp_13 (by decide) ?_
      refine lv_icmp_eq (tgt := 24) C.1 C.2.1 dX12_isOp_15 (by decide) (fun c3 => ?_) (fun c3 => ?_)
      · have hm := ite_t c3 hm
        exact lm_isOp_24 (N := N) C hr hlk  (lv_sub hl [] rfl) h hm
      · have hm := ite_f c3 hm
        refine lv_iload_n C.1 C.2.1 dX12_isOp_18 rfl (lv_at hl 0 rfl) ?_
        refine lv_bipush (v := 42) C.1 C.2.1 dX12_isOp_19 (by decide) ?_
        refine lv_icmp_ne (tgt := 28) C.1 C.2.1 dX12_isOp_21 (by decide) (fun c4 => ?_) (fun c4 => ?_)
        · have hm := ite_t c4 hm
          refine lv_iconst (v := 0) C.1 C.2.1 dX12_isOp_28 (by decide) ?_
          cases hm
          exact q_iretS C h hr hlk dX12_isOp_29 rfl
        · have hm := ite_f c4 hm
          exact lm_isOp_24 (N := N) C hr hlk  (lv_sub hl [] rfl) h hm
end L_isOp
def f_isSignByte_43 (N : Nat)   : Option Int32 := some 1
def f_isSignByte (N : Nat) (x0 : Int32) : Option Int32 := if x0 = 40 then f_isSignByte_43 N else if x0 = 41 then f_isSignByte_43 N else if x0 = 38 then f_isSignByte_43 N else if x0 = 59 then f_isSignByte_43 N else if x0 = 46 then f_isSignByte_43 N else if x0 = 61 then f_isSignByte_43 N else Option.bind (f_isOp N x0) (fun r7 => if r7 = 0 then some 0 else f_isSignByte_43 N)
section L_isSignByte
variable {p : Program} {l : Launch} {e : Env} {s : State} {m : MethodId} {args : Array Value} {below : List Frame} {meth : Method} {c : Code} {D : va_G} {A : Nat → Prop} {k : Nat → ClassId} {a : Nat} {g : Nat → Nat} {N : Nat} {cd : Cond}
set_option maxHeartbeats 4000000 in
set_option maxRecDepth 100000 in
theorem lm_isSignByte_43 {r : Int32} (C : Cx p s m args c cX12_isSignByte RX12 (cd :: rW) D (TYs k) 1) (hr : meth.sig.returnType = (some .boolean)) (hlk : meth.locks = false)  {ls : Array Slot} {H : Heap} {locs : List Loc}  (hl : lv_has ls 1 []) (h : Hp D A s.heap H locs []) (hm : f_isSignByte_43 N   = some r) : W p l e { frames := 1, cells := 0, slots := 0, locals := 20 } s m args below meth c H locs 0 0 (MQ below (va_Qi (fun v (_ : Unit) => v = r) (fun _ t => PostW D (TYs k) A [] t) A) args s 0 0 A) (F0 m 43 ls []) := by
  have hm : (some 1) = some r := hm
  refine lv_iconst (v := 1) C.1 C.2.1 dX12_isSignByte_43 (by decide) ?_
  refine lv_goto (tgt := 48) C.1 C.2.1 dX12_isSignByte_44 (by decide) ?_
  cases hm
  exact q_iretS C h hr hlk dX12_isSignByte_48 rfl
set_option maxHeartbeats 4000000 in
set_option maxRecDepth 100000 in
theorem c_isSignByte (l : Launch) (D : va_G) (k : Nat → ClassId) (N : Nat) (x0 : Int32) (r : Int32) (hm : f_isSignByte N x0 = some r) : Mi l yX12_isSignByte (.code yX12_isSignByte cX12_isSignByte 1 (some .boolean) :: rW) { frames := 1, cells := 0, slots := 0, locals := 20 } [.int x0] D (TYs k) [] (fun _ => True) Unit (fun v _ => v = r) (fun _ => []) 0 0 := by
  intro sz
  refine x_met (cc := cX12_isSignByte) (maxL := 1) (ret := (some .boolean)) (by decide) rfl (Nat.le_of_ble_eq_true rfl) ?_
  intro p e s m below meth c ls C hX hsz hr hlk hmn hl h
  have hl : lv_has ls 1 [(0, .int x0)] := hl
  have hm : (if x0 = 40 then f_isSignByte_43 N else if x0 = 41 then f_isSignByte_43 N else if x0 = 38 then f_isSignByte_43 N else if x0 = 59 then f_isSignByte_43 N else if x0 = 46 then f_isSignByte_43 N else if x0 = 61 then f_isSignByte_43 N else Option.bind (f_isOp N x0) (fun r7 => if r7 = 0 then some 0 else f_isSignByte_43 N)) = some r := hm
  refine lv_iload_n C.1 C.2.1 dX12_isSignByte_0 rfl (lv_at hl 0 rfl) ?_
  refine lv_bipush (v := 40) C.1 C.2.1 dX12_isSignByte_1 (by decide) ?_
  refine lv_icmp_eq (tgt := 43) C.1 C.2.1 dX12_isSignByte_3 (by decide) (fun c1 => ?_) (fun c1 => ?_)
  · have hm := ite_t c1 hm
    exact lm_isSignByte_43 (N := N) C hr hlk  (lv_sub hl [] rfl) h hm
  · have hm := ite_f c1 hm
    refine lv_iload_n C.1 C.2.1 dX12_isSignByte_6 rfl (lv_at hl 0 rfl) ?_
    refine lv_bipush (v := 41) C.1 C.2.1 dX12_isSignByte_7 (by decide) ?_
    refine lv_icmp_eq (tgt := 43) C.1 C.2.1 dX12_isSignByte_9 (by decide) (fun c2 => ?_) (fun c2 => ?_)
    · have hm := ite_t c2 hm
      exact lm_isSignByte_43 (N := N) C hr hlk  (lv_sub hl [] rfl) h hm
    · have hm := ite_f c2 hm
      refine lv_iload_n C.1 C.2.1 dX12_isSignByte_12 rfl (lv_at hl 0 rfl) ?_
      refine lv_bipush (v := 38) C.1 C.2.1 dX12_isSignByte_13 (by decide) ?_
      refine lv_icmp_eq (tgt := 43) C.1 C.2.1 dX12_isSignByte_15 (by decide) (fun c3 => ?_) (fun c3 => ?_)
      · have hm := ite_t c3 hm
        exact lm_isSignByte_43 (N := N) C hr hlk  (lv_sub hl [] rfl) h hm
      · have hm := ite_f c3 hm
        refine lv_iload_n C.1 C.2.1 dX12_isSignByte_18 rfl (lv_at hl 0 rfl) ?_
        refine lv_bipush (v := 59) C.1 C.2.1 dX12_isSignByte_19 (by decide) ?_
        refine lv_icmp_eq (tgt := 43) C.1 C.2.1 dX12_isSignByte_21 (by decide) (fun c4 => ?_) (fun c4 => ?_)
        · have hm := ite_t c4 hm
          exact lm_isSignByte_43 (N := N) C hr hlk  (lv_sub hl [] rfl) h hm
        · have hm := ite_f c4 hm
          refine lv_iload_n C.1 C.2.1 dX12_isSignByte_24 rfl (lv_at hl 0 rfl) ?_
          refine lv_bipush (v := 46) C.1 C.2.1 dX12_isSignByte_25 (by decide) ?_
          refine lv_icmp_eq (tgt := 43) C.1 C.2.1 dX12_isSignByte_27 (by decide) (fun c5 => ?_) (fun c5 => ?_)
          · have hm := ite_t c5 hm
            exact lm_isSignByte_43 (N := N) C hr hlk  (lv_sub hl [] rfl) h hm
          · have hm := ite_f c5 hm
            refine lv_iload_n C.1 C.2.1 dX12_isSignByte_30 rfl (lv_at hl 0 rfl) ?_
            refine lv_bipush (v := 61) C.1 C.2.1 dX12_isSignByte_31 (by decide) ?_
            refine lv_icmp_eq (tgt := 43) C.1 C.2.1 dX12_isSignByte_33 (by decide) (fun c6 => ?_) (fun c6 => ?_)
            · have hm := ite_t c6 hm
              exact lm_isSignByte_43 (N := N) C hr hlk  (lv_sub hl [] rfl) h hm
            · have hm := ite_f c6 hm
              refine lv_iload_n C.1 C.2.1 dX12_isSignByte_36 rfl (lv_at hl 0 rfl) ?_
              obtain ⟨r7, e8, hm⟩ := bd_s hm
              refine q_callSi C h (c_isOp l D k N x0 r7 e8) (cwS 1 C.2.2.1 (gR_isOp _) rfl rfl rfl hd_isOp ⟨Nat.le_of_ble_eq_true rfl, Nat.le_of_ble_eq_true rfl⟩) rfl hl.1 rfl (Nat.le_of_ble_eq_true rfl) dX12_isSignByte_37 ⟨Nat.le_of_ble_eq_true rfl, Nat.le_of_ble_eq_true rfl⟩ (fun H locs h => ?_)
              refine lv_if_eq (tgt := 47) C.1 C.2.1 dX12_isSignByte_40 (by decide) (fun c9 => ?_) (fun c9 => ?_)
              · have hm := ite_t c9 hm
                refine lv_iconst (v := 0) C.1 C.2.1 dX12_isSignByte_47 (by decide) ?_
                cases hm
                exact q_iretS C h hr hlk dX12_isSignByte_48 rfl
              · have hm := ite_f c9 hm
                exact lm_isSignByte_43 (N := N) C hr hlk  (lv_sub hl [] rfl) h hm
end L_isSignByte
def f_lookName_113 (N : Nat) (rec17 : St → Int32 → Int32 → Option St) (σ : St) (x1 : Int32) (x2 : Int32) : Option St := rec17 σ (x1 + 1) (x2 + 1)
def f_lookName_70 (N : Nat) (rec17 : St → Int32 → Int32 → Option St) (σ : St) (x1 : Int32) (x2 : Int32) (s0 : Int64) : Option St := if (6 : Int32) ≤ x2 then f_lookName_113 N rec17 (sJ σ 8 ((lshl ((gJ σ 8) &&& 1099511627775) 6) ||| s0)) x1 x2 else f_lookName_113 N rec17 (sJ σ 7 ((lshl (gJ σ 7) 6) ||| s0)) x1 x2
def f_lookName_39 (N : Nat) (rec17 : St → Int32 → Int32 → Option St) (σ : St) (x1 : Int32) (x2 : Int32) : Option St := Option.bind (f_byteAt N σ x1) (fun r12 => Option.bind (f_isDigit N r12.2) (fun r14 => if r14 = 0 then f_lookName_70 N rec17 r12.1 x1 x2 (Int32.toInt64 ((r12.2 - 97) + 1)) else f_lookName_70 N rec17 r12.1 x1 x2 (Int32.toInt64 ((r12.2 - 48) + 27))))
def f_lookName_140 (N : Nat)  (σ : St) (s0 : Int32) : Option St := some (sI σ 3 s0)
def f_lookName_17 (N : Nat)  : Nat → St → Int32 → Int32 → Option St
  | 0, _, _, _ => none
  | n + 1, σ, x1, x2 => Option.bind (f_byteAt N σ x1) (fun r1 => Option.bind (f_isLow N r1.2) (fun r3 => if ¬ r3 = 0 then f_lookName_39 N (f_lookName_17 N n) r1.1 x1 x2 else Option.bind (f_byteAt N r1.1 x1) (fun r6 => Option.bind (f_isDigit N r6.2) (fun r8 => if r8 = 0 then if x2 ≤ 12 then f_lookName_140 N (sI r6.1 5 x1) 2 else f_lookName_140 N (sI r6.1 5 x1) 7 else f_lookName_39 N (f_lookName_17 N n) r6.1 x1 x2))))
def f_lookName (N : Nat) (σ : St)  : Option St := f_lookName_17 N N (sJ (sJ σ 7 0) 8 0) (gI σ 4) 0
section L_lookName
variable {p : Program} {l : Launch} {e : Env} {s : State} {m : MethodId} {args : Array Value} {below : List Frame} {meth : Method} {c : Code} {D : va_G} {A : Nat → Prop} {k : Nat → ClassId} {a : Nat} {g : Nat → Nat} {N : Nat} {cd : Cond}
set_option maxHeartbeats 4000000 in
set_option maxRecDepth 100000 in
theorem lm_lookName_113 {r : St} (C : Cx p s m args c cX12_lookName RX12 (cd :: rW) D (TYs k) 6) (hr : meth.sig.returnType = none) (hlk : meth.locks = false) {rec17 : St → Int32 → Int32 → Option St} (hrec17 : ∀ {ls : Array Slot} {H : Heap} {locs : List Loc} {σ : St} {x1 : Int32} {x2 : Int32}, lv_has ls 6 [(0, .ref a), (1, .int x1), (2, .int x2)] → Hp D A s.heap H locs (mW k a g σ) → rec17 σ x1 x2 = some r → W p l e { frames := 1, cells := 0, slots := 0, locals := 21 } s m args below meth c H locs 0 0 (MQ below (va_Qv (fun (_ : Unit) => True) (fun _ t => PostW D (TYs k) A (mW k a g r) t) A) args s 0 0 A) (F0 m 17 ls [])) {ls : Array Slot} {H : Heap} {locs : List Loc} {σ : St} {x1 : Int32} {x2 : Int32} (hl : lv_has ls 6 [(0, .ref a), (1, .int x1), (2, .int x2)]) (h : Hp D A s.heap H locs (mW k a g σ)) (hm : f_lookName_113 N rec17 σ x1 x2 = some r) : W p l e { frames := 1, cells := 0, slots := 0, locals := 21 } s m args below meth c H locs 0 0 (MQ below (va_Qv (fun (_ : Unit) => True) (fun _ t => PostW D (TYs k) A (mW k a g r) t) A) args s 0 0 A) (F0 m 113 ls []) := by
  have hm : (rec17 σ (x1 + 1) (x2 + 1)) = some r := hm
  refine lv_iinc (v := (x2 + 1)) (lv' := [(2, .int (x2 + 1)), (0, .ref a), (1, .int x1)]) C.1 C.2.1 dX12_lookName_113 hl (k := 2) rfl rfl (by decide) rfl (fun ls hl => ?_)
  refine lv_iinc (v := (x1 + 1)) (lv' := [(1, .int (x1 + 1)), (2, .int (x2 + 1)), (0, .ref a)]) C.1 C.2.1 dX12_lookName_116 hl (k := 2) rfl rfl (by decide) rfl (fun ls hl => ?_)
  refine lv_goto (tgt := 17) C.1 C.2.1 dX12_lookName_119 (by decide) ?_
  exact hrec17 (lv_sub hl [2, 0, 1] rfl) h hm
set_option maxHeartbeats 4000000 in
set_option maxRecDepth 100000 in
theorem lm_lookName_70 {r : St} (C : Cx p s m args c cX12_lookName RX12 (cd :: rW) D (TYs k) 6) (hr : meth.sig.returnType = none) (hlk : meth.locks = false) {rec17 : St → Int32 → Int32 → Option St} (hrec17 : ∀ {ls : Array Slot} {H : Heap} {locs : List Loc} {σ : St} {x1 : Int32} {x2 : Int32}, lv_has ls 6 [(0, .ref a), (1, .int x1), (2, .int x2)] → Hp D A s.heap H locs (mW k a g σ) → rec17 σ x1 x2 = some r → W p l e { frames := 1, cells := 0, slots := 0, locals := 21 } s m args below meth c H locs 0 0 (MQ below (va_Qv (fun (_ : Unit) => True) (fun _ t => PostW D (TYs k) A (mW k a g r) t) A) args s 0 0 A) (F0 m 17 ls [])) {ls : Array Slot} {H : Heap} {locs : List Loc} {σ : St} {x1 : Int32} {x2 : Int32} {s0 : Int64} (hl : lv_has ls 6 [(0, .ref a), (1, .int x1), (2, .int x2)]) (h : Hp D A s.heap H locs (mW k a g σ)) (hm : f_lookName_70 N rec17 σ x1 x2 s0 = some r) : W p l e { frames := 1, cells := 0, slots := 0, locals := 21 } s m args below meth c H locs 0 0 (MQ below (va_Qv (fun (_ : Unit) => True) (fun _ t => PostW D (TYs k) A (mW k a g r) t) A) args s 0 0 A) (F0 m 70 ls [.long s0]) := by
  have hm : (if (6 : Int32) ≤ x2 then f_lookName_113 N rec17 (sJ σ 8 ((lshl ((gJ σ 8) &&& 1099511627775) 6) ||| s0)) x1 x2 else f_lookName_113 N rec17 (sJ σ 7 ((lshl (gJ σ 7) 6) ||| s0)) x1 x2) = some r := hm
  refine lv_lstore (lv' := [(4, .long s0), (0, .ref a), (1, .int x1), (2, .int x2)]) C.1 C.2.1 dX12_lookName_70 hl (by decide) rfl (fun ls hl => ?_)
  refine lv_iload_n C.1 C.2.1 dX12_lookName_72 rfl (lv_at hl 3 rfl) ?_
  refine lv_bipush (v := 6) C.1 C.2.1 dX12_lookName_73 (by decide) ?_
  refine lv_icmp_ge (tgt := 95) C.1 C.2.1 dX12_lookName_75 (by decide) (fun c17 => ?_) (fun c17 => ?_)
  · have hm := ite_t c17 hm
    refine lv_aload_n C.1 C.2.1 dX12_lookName_95 rfl (lv_at hl 1 rfl) ?_
    refine lv_aload_n C.1 C.2.1 dX12_lookName_96 rfl (lv_at hl 1 rfl) ?_
    refine fg_8 C h dX12_lookName_97 ?_
    refine lv_ldc2 (v := 1099511627775) C.1 C.2.1 C.2.2.2.1 (C.2.2.1 _ (List.mem_cons_of_mem _ wk_100)) dX12_lookName_100 ?_
    refine lv_land C.1 C.2.1 dX12_lookName_103 ?_
    refine lv_bipush (v := 6) C.1 C.2.1 dX12_lookName_104 (by decide) ?_
    refine lv_lshl (v := (lshl ((gJ σ 8) &&& 1099511627775) 6)) C.1 C.2.1 dX12_lookName_106 rfl ?_
    refine lv_lload C.1 C.2.1 dX12_lookName_107 (lv_at hl 0 rfl) ?_
    refine lv_lor C.1 C.2.1 dX12_lookName_109 ?_
    refine fp_8 C h dX12_lookName_110 (fun H locs h => ?_)
    exact lm_lookName_113 (N := N) C hr hlk hrec17 (lv_sub hl [1, 2, 3] rfl) h hm
  · have hm := ite_f c17 hm
    refine lv_aload_n C.1 C.2.1 dX12_lookName_78 rfl (lv_at hl 1 rfl) ?_
    refine lv_aload_n C.1 C.2.1 dX12_lookName_79 rfl (lv_at hl 1 rfl) ?_
    refine fg_7 C h dX12_lookName_80 ?_
    refine lv_bipush (v := 6) C.1 C.2.1 dX12_lookName_83 (by decide) ?_
    refine lv_lshl (v := (lshl (gJ σ 7) 6)) C.1 C.2.1 dX12_lookName_85 rfl ?_
    refine lv_lload C.1 C.2.1 dX12_lookName_86 (lv_at hl 0 rfl) ?_
    refine lv_lor C.1 C.2.1 dX12_lookName_88 ?_
    refine fp_7 C h dX12_lookName_89 (fun H locs h => ?_)
    refine lv_goto (tgt := 113) C.1 C.2.1 dX12_lookName_92 (by decide) ?_
    exact lm_lookName_113 (N := N) C hr hlk hrec17 (lv_sub hl [1, 2, 3] rfl) h hm
set_option maxHeartbeats 4000000 in
set_option maxRecDepth 100000 in
theorem lm_lookName_39 {r : St} (C : Cx p s m args c cX12_lookName RX12 (cd :: rW) D (TYs k) 6) (hr : meth.sig.returnType = none) (hlk : meth.locks = false) {rec17 : St → Int32 → Int32 → Option St} (hrec17 : ∀ {ls : Array Slot} {H : Heap} {locs : List Loc} {σ : St} {x1 : Int32} {x2 : Int32}, lv_has ls 6 [(0, .ref a), (1, .int x1), (2, .int x2)] → Hp D A s.heap H locs (mW k a g σ) → rec17 σ x1 x2 = some r → W p l e { frames := 1, cells := 0, slots := 0, locals := 21 } s m args below meth c H locs 0 0 (MQ below (va_Qv (fun (_ : Unit) => True) (fun _ t => PostW D (TYs k) A (mW k a g r) t) A) args s 0 0 A) (F0 m 17 ls [])) {ls : Array Slot} {H : Heap} {locs : List Loc} {σ : St} {x1 : Int32} {x2 : Int32} (hl : lv_has ls 6 [(0, .ref a), (1, .int x1), (2, .int x2)]) (h : Hp D A s.heap H locs (mW k a g σ)) (hm : f_lookName_39 N rec17 σ x1 x2 = some r) : W p l e { frames := 1, cells := 0, slots := 0, locals := 21 } s m args below meth c H locs 0 0 (MQ below (va_Qv (fun (_ : Unit) => True) (fun _ t => PostW D (TYs k) A (mW k a g r) t) A) args s 0 0 A) (F0 m 39 ls []) := by
  have hm : (Option.bind (f_byteAt N σ x1) (fun r12 => Option.bind (f_isDigit N r12.2) (fun r14 => if r14 = 0 then f_lookName_70 N rec17 r12.1 x1 x2 (Int32.toInt64 ((r12.2 - 97) + 1)) else f_lookName_70 N rec17 r12.1 x1 x2 (Int32.toInt64 ((r12.2 - 48) + 27))))) = some r := hm
  refine lv_aload_n C.1 C.2.1 dX12_lookName_39 rfl (lv_at hl 0 rfl) ?_
  refine lv_iload_n C.1 C.2.1 dX12_lookName_40 rfl (lv_at hl 1 rfl) ?_
  obtain ⟨r12, e13, hm⟩ := bd_s hm
  refine q_callVi C h (c_byteAt l D k a g N σ x1 r12 e13) (cwV 1 C.2.2.1 (gR_byteAt _) rfl rfl rfl hd_byteAt ⟨Nat.le_of_ble_eq_true rfl, Nat.le_of_ble_eq_true rfl⟩) rfl hl.1 rfl (Nat.le_of_ble_eq_true rfl) dX12_lookName_41 ⟨Nat.le_of_ble_eq_true rfl, Nat.le_of_ble_eq_true rfl⟩ (fun H locs h => ?_)
  refine lv_istore_n (lv' := [(3, .int r12.2), (0, .ref a), (1, .int x1), (2, .int x2)]) C.1 C.2.1 dX12_lookName_44 rfl hl (by decide) rfl (fun ls hl => ?_)
  refine lv_iload_n C.1 C.2.1 dX12_lookName_45 rfl (lv_at hl 0 rfl) ?_
  obtain ⟨r14, e15, hm⟩ := bd_s hm
  refine q_callSi C h (c_isDigit l D k N r12.2 r14 e15) (cwS 1 C.2.2.1 (gR_isDigit _) rfl rfl rfl hd_isDigit ⟨Nat.le_of_ble_eq_true rfl, Nat.le_of_ble_eq_true rfl⟩) rfl hl.1 rfl (Nat.le_of_ble_eq_true rfl) dX12_lookName_46 ⟨Nat.le_of_ble_eq_true rfl, Nat.le_of_ble_eq_true rfl⟩ (fun H locs h => ?_)
  refine lv_if_eq (tgt := 63) C.1 C.2.1 dX12_lookName_49 (by decide) (fun c16 => ?_) (fun c16 => ?_)
  · have hm := ite_t c16 hm
    refine lv_iload_n C.1 C.2.1 dX12_lookName_63 rfl (lv_at hl 0 rfl) ?_
    refine lv_bipush (v := 97) C.1 C.2.1 dX12_lookName_64 (by decide) ?_
    refine lv_isub C.1 C.2.1 dX12_lookName_66 ?_
    refine lv_iconst (v := 1) C.1 C.2.1 dX12_lookName_67 (by decide) ?_
    refine lv_iadd C.1 C.2.1 dX12_lookName_68 ?_
    refine lv_i2l (v := (Int32.toInt64 ((r12.2 - 97) + 1))) C.1 C.2.1 dX12_lookName_69 rfl ?_
    exact lm_lookName_70 (N := N) C hr hlk hrec17 (lv_sub hl [1, 2, 3] rfl) h hm
  · have hm := ite_f c16 hm
    refine lv_iload_n C.1 C.2.1 dX12_lookName_52 rfl (lv_at hl 0 rfl) ?_
    refine lv_bipush (v := 48) C.1 C.2.1 dX12_lookName_53 (by decide) ?_
    refine lv_isub C.1 C.2.1 dX12_lookName_55 ?_
    refine lv_bipush (v := 27) C.1 C.2.1 dX12_lookName_56 (by decide) ?_
    refine lv_iadd C.1 C.2.1 dX12_lookName_58 ?_
    refine lv_i2l (v := (Int32.toInt64 ((r12.2 - 48) + 27))) C.1 C.2.1 dX12_lookName_59 rfl ?_
    refine lv_goto (tgt := 70) C.1 C.2.1 dX12_lookName_60 (by decide) ?_
    exact lm_lookName_70 (N := N) C hr hlk hrec17 (lv_sub hl [1, 2, 3] rfl) h hm
set_option maxHeartbeats 4000000 in
set_option maxRecDepth 100000 in
theorem lm_lookName_140 {r : St} (C : Cx p s m args c cX12_lookName RX12 (cd :: rW) D (TYs k) 6) (hr : meth.sig.returnType = none) (hlk : meth.locks = false)  {ls : Array Slot} {H : Heap} {locs : List Loc} {σ : St} {s0 : Int32} (hl : lv_has ls 6 []) (h : Hp D A s.heap H locs (mW k a g σ)) (hm : f_lookName_140 N  σ s0 = some r) : W p l e { frames := 1, cells := 0, slots := 0, locals := 21 } s m args below meth c H locs 0 0 (MQ below (va_Qv (fun (_ : Unit) => True) (fun _ t => PostW D (TYs k) A (mW k a g r) t) A) args s 0 0 A) (F0 m 140 ls [.int s0, .ref a]) := by
  have hm : (some (sI σ 3 s0)) = some r := hm
  refine fp_3 C h dX12_lookName_140 (fun H locs h => ?_)
  cases hm
  exact q_vret C h hr hlk dX12_lookName_143
set_option maxHeartbeats 4000000 in
set_option maxRecDepth 100000 in
theorem lm_lookName_17 {r : St} (C : Cx p s m args c cX12_lookName RX12 (cd :: rW) D (TYs k) 6) (hr : meth.sig.returnType = none) (hlk : meth.locks = false)  (n : Nat) : ∀ {ls : Array Slot} {H : Heap} {locs : List Loc} {σ : St} {x1 : Int32} {x2 : Int32}, lv_has ls 6 [(0, .ref a), (1, .int x1), (2, .int x2)] → Hp D A s.heap H locs (mW k a g σ) → f_lookName_17 N  n σ x1 x2 = some r → W p l e { frames := 1, cells := 0, slots := 0, locals := 21 } s m args below meth c H locs 0 0 (MQ below (va_Qv (fun (_ : Unit) => True) (fun _ t => PostW D (TYs k) A (mW k a g r) t) A) args s 0 0 A) (F0 m 17 ls []) := by
  induction n with
  | zero => intro ls H locs σ x1 x2 hl h hm; cases (show none = some r from hm)
  | succ n hrec17 =>
    intro ls H locs σ x1 x2 hl h hm
    have hm : (Option.bind (f_byteAt N σ x1) (fun r1 => Option.bind (f_isLow N r1.2) (fun r3 => if ¬ r3 = 0 then f_lookName_39 N (f_lookName_17 N n) r1.1 x1 x2 else Option.bind (f_byteAt N r1.1 x1) (fun r6 => Option.bind (f_isDigit N r6.2) (fun r8 => if r8 = 0 then if x2 ≤ 12 then f_lookName_140 N (sI r6.1 5 x1) 2 else f_lookName_140 N (sI r6.1 5 x1) 7 else f_lookName_39 N (f_lookName_17 N n) r6.1 x1 x2))))) = some r := hm
    refine lv_aload_n C.1 C.2.1 dX12_lookName_17 rfl (lv_at hl 0 rfl) ?_
    refine lv_iload_n C.1 C.2.1 dX12_lookName_18 rfl (lv_at hl 1 rfl) ?_
    obtain ⟨r1, e2, hm⟩ := bd_s hm
    refine q_callVi C h (c_byteAt l D k a g N σ x1 r1 e2) (cwV 1 C.2.2.1 (gR_byteAt _) rfl rfl rfl hd_byteAt ⟨Nat.le_of_ble_eq_true rfl, Nat.le_of_ble_eq_true rfl⟩) rfl hl.1 rfl (Nat.le_of_ble_eq_true rfl) dX12_lookName_19 ⟨Nat.le_of_ble_eq_true rfl, Nat.le_of_ble_eq_true rfl⟩ (fun H locs h => ?_)
    obtain ⟨r3, e4, hm⟩ := bd_s hm
    refine q_callSi C h (c_isLow l D k N r1.2 r3 e4) (cwS 1 C.2.2.1 (gR_isLow _) rfl rfl rfl hd_isLow ⟨Nat.le_of_ble_eq_true rfl, Nat.le_of_ble_eq_true rfl⟩) rfl hl.1 rfl (Nat.le_of_ble_eq_true rfl) dX12_lookName_22 ⟨Nat.le_of_ble_eq_true rfl, Nat.le_of_ble_eq_true rfl⟩ (fun H locs h => ?_)
    refine lv_if_ne (tgt := 39) C.1 C.2.1 dX12_lookName_25 (by decide) (fun c5 => ?_) (fun c5 => ?_)
    · have hm := ite_t c5 hm
      exact lm_lookName_39 (N := N) C hr hlk hrec17 (lv_sub hl [0, 1, 2] rfl) h hm
    · have hm := ite_f c5 hm
      refine lv_aload_n C.1 C.2.1 dX12_lookName_28 rfl (lv_at hl 0 rfl) ?_
      refine lv_iload_n C.1 C.2.1 dX12_lookName_29 rfl (lv_at hl 1 rfl) ?_
      obtain ⟨r6, e7, hm⟩ := bd_s hm
      refine q_callVi C h (c_byteAt l D k a g N r1.1 x1 r6 e7) (cwV 1 C.2.2.1 (gR_byteAt _) rfl rfl rfl hd_byteAt ⟨Nat.le_of_ble_eq_true rfl, Nat.le_of_ble_eq_true rfl⟩) rfl hl.1 rfl (Nat.le_of_ble_eq_true rfl) dX12_lookName_30 ⟨Nat.le_of_ble_eq_true rfl, Nat.le_of_ble_eq_true rfl⟩ (fun H locs h => ?_)
      obtain ⟨r8, e9, hm⟩ := bd_s hm
      refine q_callSi C h (c_isDigit l D k N r6.2 r8 e9) (cwS 1 C.2.2.1 (gR_isDigit _) rfl rfl rfl hd_isDigit ⟨Nat.le_of_ble_eq_true rfl, Nat.le_of_ble_eq_true rfl⟩) rfl hl.1 rfl (Nat.le_of_ble_eq_true rfl) dX12_lookName_33 ⟨Nat.le_of_ble_eq_true rfl, Nat.le_of_ble_eq_true rfl⟩ (fun H locs h => ?_)
      refine lv_if_eq (tgt := 122) C.1 C.2.1 dX12_lookName_36 (by decide) (fun c10 => ?_) (fun c10 => ?_)
      · have hm := ite_t c10 hm
        refine lv_aload_n C.1 C.2.1 dX12_lookName_122 rfl (lv_at hl 0 rfl) ?_
        refine lv_iload_n C.1 C.2.1 dX12_lookName_123 rfl (lv_at hl 1 rfl) ?_
        refine fp_5 C h dX12_lookName_124 (fun H locs h => ?_)
        refine lv_aload_n C.1 C.2.1 dX12_lookName_127 rfl (lv_at hl 0 rfl) ?_
        refine lv_iload_n C.1 C.2.1 dX12_lookName_128 rfl (lv_at hl 2 rfl) ?_
        refine lv_bipush (v := 12) C.1 C.2.1 dX12_lookName_129 (by decide) ?_
        refine lv_icmp_le (tgt := 139) C.1 C.2.1 dX12_lookName_131 (by decide) (fun c11 => ?_) (fun c11 => ?_)
        · have hm := ite_t c11 hm
          refine lv_iconst (v := 2) C.1 C.2.1 dX12_lookName_139 (by decide) ?_
          exact lm_lookName_140 (N := N) C hr hlk  (lv_sub hl [] rfl) h hm
        · have hm := ite_f c11 hm
          refine lv_bipush (v := 7) C.1 C.2.1 dX12_lookName_134 (by decide) ?_
          refine lv_goto (tgt := 140) C.1 C.2.1 dX12_lookName_136 (by decide) ?_
          exact lm_lookName_140 (N := N) C hr hlk  (lv_sub hl [] rfl) h hm
      · have hm := ite_f c10 hm
        exact lm_lookName_39 (N := N) C hr hlk hrec17 (lv_sub hl [0, 1, 2] rfl) h hm
set_option maxHeartbeats 4000000 in
set_option maxRecDepth 100000 in
theorem c_lookName (l : Launch) (D : va_G) (k : Nat → ClassId) (a : Nat) (g : Nat → Nat) (N : Nat) (σ : St)  (r : St) (hm : f_lookName N σ  = some r) : Mv l yX12_lookName (.code yX12_lookName cX12_lookName 6 none :: rW) { frames := 1, cells := 0, slots := 0, locals := 21 } [.ref a] D (TYs k) (mW k a g σ) (fun _ => True) Unit (fun _ => True) (fun _ => mW k a g r) 0 0 := by
  intro sz
  refine x_met (cc := cX12_lookName) (maxL := 6) (ret := none) (by decide) rfl (Nat.le_of_ble_eq_true rfl) ?_
  intro p e s m below meth c ls C hX hsz hr hlk hmn hl h
  have hl : lv_has ls 6 [(0, .ref a)] := hl
  have hm : (f_lookName_17 N N (sJ (sJ σ 7 0) 8 0) (gI σ 4) 0) = some r := hm
  refine lv_aload_n C.1 C.2.1 dX12_lookName_0 rfl (lv_at hl 0 rfl) ?_
  refine fg_4 C h dX12_lookName_1 ?_
  refine lv_istore_n (lv' := [(1, .int (gI σ 4)), (0, .ref a)]) C.1 C.2.1 dX12_lookName_4 rfl hl (by decide) rfl (fun ls hl => ?_)
  refine lv_aload_n C.1 C.2.1 dX12_lookName_5 rfl (lv_at hl 1 rfl) ?_
  refine lv_lconst (v := 0) C.1 C.2.1 dX12_lookName_6 (by decide) ?_
  refine fp_7 C h dX12_lookName_7 (fun H locs h => ?_)
  refine lv_aload_n C.1 C.2.1 dX12_lookName_10 rfl (lv_at hl 1 rfl) ?_
  refine lv_lconst (v := 0) C.1 C.2.1 dX12_lookName_11 (by decide) ?_
  refine fp_8 C h dX12_lookName_12 (fun H locs h => ?_)
  refine lv_iconst (v := 0) C.1 C.2.1 dX12_lookName_15 (by decide) ?_
  refine lv_istore_n (lv' := [(2, .int 0), (1, .int (gI σ 4)), (0, .ref a)]) C.1 C.2.1 dX12_lookName_16 rfl hl (by decide) rfl (fun ls hl => ?_)
  exact lm_lookName_17 (N := N) C hr hlk  N (lv_sub hl [2, 1, 0] rfl) h hm
end L_lookName
def f_lookNumber_42 (N : Nat) (rec9 : St → Int32 → Int32 → Int32 → Option St) (σ : St) (x1 : Int32) (x3 : Int32) (s0 : Int32) : Option St := rec9 σ (x1 + 1) s0 (x3 + 1)
def f_lookNumber_137 (N : Nat) (rec103 : St → Int32 → Int32 → Int32 → Int32 → Option St) (σ : St) (x1 : Int32) (x3 : Int32) (x4 : Int32) (s0 : Int32) : Option St := rec103 σ (x1 + 1) s0 x3 (x4 + 1)
def f_lookNumber_173 (N : Nat)  (σ : St) (x1 : Int32) : Option St := some (sI σ 5 x1)
def f_lookNumber_170 (N : Nat)  (σ : St) (x1 : Int32) (s0 : Int32) : Option St := f_lookNumber_173 N (sI σ 3 s0) x1
def f_lookNumber_164 (N : Nat)  (σ : St) (x1 : Int32) : Option St := f_lookNumber_170 N σ x1 7
def f_lookNumber_103 (N : Nat)  : Nat → St → Int32 → Int32 → Int32 → Int32 → Option St
  | 0, _, _, _, _, _ => none
  | n + 1, σ, x1, x2, x3, x4 => Option.bind (f_byteAt N σ x1) (fun r18 => Option.bind (f_isDigit N r18.2) (fun r20 => if r20 = 0 then if (4 : Int32) < x3 then f_lookNumber_164 N (sI r18.1 10 x2) x1 else if x4 ≤ 4 then f_lookNumber_170 N (sI r18.1 10 x2) x1 4 else f_lookNumber_164 N (sI r18.1 10 x2) x1 else if (4 : Int32) ≤ x4 then f_lookNumber_137 N (f_lookNumber_103 N n) r18.1 x1 x3 x4 x2 else Option.bind (f_byteAt N r18.1 x1) (fun r26 => f_lookNumber_137 N (f_lookNumber_103 N n) r26.1 x1 x3 x4 (((10 * x2) + r26.2) - 48))))
def f_lookNumber_69 (N : Nat)  (σ : St) (x1 : Int32) (x3 : Int32) (s0 : Int32) : Option St := Option.bind (f_byteAt N (sI σ 3 s0) x1) (fun r10 => if ¬ r10.2 = 58 then f_lookNumber_173 N r10.1 x1 else Option.bind (f_byteAt N r10.1 (x1 + 1)) (fun r13 => Option.bind (f_isDigit N r13.2) (fun r15 => if r15 = 0 then f_lookNumber_173 N r13.1 x1 else f_lookNumber_103 N N r13.1 (x1 + 1) 0 x3 0)))
def f_lookNumber_9 (N : Nat)  : Nat → St → Int32 → Int32 → Int32 → Option St
  | 0, _, _, _, _ => none
  | n + 1, σ, x1, x2, x3 => Option.bind (f_byteAt N σ x1) (fun r1 => Option.bind (f_isDigit N r1.2) (fun r3 => if r3 = 0 then if x3 ≤ 4 then f_lookNumber_69 N (sI r1.1 9 x2) x1 x3 3 else f_lookNumber_69 N (sI r1.1 9 x2) x1 x3 7 else if (4 : Int32) ≤ x3 then f_lookNumber_42 N (f_lookNumber_9 N n) r1.1 x1 x3 x2 else Option.bind (f_byteAt N r1.1 x1) (fun r8 => f_lookNumber_42 N (f_lookNumber_9 N n) r8.1 x1 x3 (((10 * x2) + r8.2) - 48))))
def f_lookNumber (N : Nat) (σ : St)  : Option St := f_lookNumber_9 N N σ (gI σ 4) 0 0
section L_lookNumber
variable {p : Program} {l : Launch} {e : Env} {s : State} {m : MethodId} {args : Array Value} {below : List Frame} {meth : Method} {c : Code} {D : va_G} {A : Nat → Prop} {k : Nat → ClassId} {a : Nat} {g : Nat → Nat} {N : Nat} {cd : Cond}
set_option maxHeartbeats 4000000 in
set_option maxRecDepth 100000 in
theorem lm_lookNumber_42 {r : St} (C : Cx p s m args c cX12_lookNumber RX12 (cd :: rW) D (TYs k) 5) (hr : meth.sig.returnType = none) (hlk : meth.locks = false) {rec9 : St → Int32 → Int32 → Int32 → Option St} (hrec9 : ∀ {ls : Array Slot} {H : Heap} {locs : List Loc} {σ : St} {x1 : Int32} {x2 : Int32} {x3 : Int32}, lv_has ls 5 [(0, .ref a), (1, .int x1), (2, .int x2), (3, .int x3)] → Hp D A s.heap H locs (mW k a g σ) → rec9 σ x1 x2 x3 = some r → W p l e { frames := 1, cells := 0, slots := 0, locals := 21 } s m args below meth c H locs 0 0 (MQ below (va_Qv (fun (_ : Unit) => True) (fun _ t => PostW D (TYs k) A (mW k a g r) t) A) args s 0 0 A) (F0 m 9 ls [])) {ls : Array Slot} {H : Heap} {locs : List Loc} {σ : St} {x1 : Int32} {x3 : Int32} {s0 : Int32} (hl : lv_has ls 5 [(0, .ref a), (1, .int x1), (3, .int x3)]) (h : Hp D A s.heap H locs (mW k a g σ)) (hm : f_lookNumber_42 N rec9 σ x1 x3 s0 = some r) : W p l e { frames := 1, cells := 0, slots := 0, locals := 21 } s m args below meth c H locs 0 0 (MQ below (va_Qv (fun (_ : Unit) => True) (fun _ t => PostW D (TYs k) A (mW k a g r) t) A) args s 0 0 A) (F0 m 42 ls [.int s0]) := by
  have hm : (rec9 σ (x1 + 1) s0 (x3 + 1)) = some r := hm
  refine lv_istore_n (lv' := [(2, .int s0), (0, .ref a), (1, .int x1), (3, .int x3)]) C.1 C.2.1 dX12_lookNumber_42 rfl hl (by decide) rfl (fun ls hl => ?_)
  refine lv_iinc (v := (x3 + 1)) (lv' := [(3, .int (x3 + 1)), (2, .int s0), (0, .ref a), (1, .int x1)]) C.1 C.2.1 dX12_lookNumber_43 hl (k := 3) rfl rfl (by decide) rfl (fun ls hl => ?_)
  refine lv_iinc (v := (x1 + 1)) (lv' := [(1, .int (x1 + 1)), (3, .int (x3 + 1)), (2, .int s0), (0, .ref a)]) C.1 C.2.1 dX12_lookNumber_46 hl (k := 3) rfl rfl (by decide) rfl (fun ls hl => ?_)
  refine lv_goto (tgt := 9) C.1 C.2.1 dX12_lookNumber_49 (by decide) ?_
  exact hrec9 (lv_sub hl [3, 0, 2, 1] rfl) h hm
set_option maxHeartbeats 4000000 in
set_option maxRecDepth 100000 in
theorem lm_lookNumber_137 {r : St} (C : Cx p s m args c cX12_lookNumber RX12 (cd :: rW) D (TYs k) 5) (hr : meth.sig.returnType = none) (hlk : meth.locks = false) {rec103 : St → Int32 → Int32 → Int32 → Int32 → Option St} (hrec103 : ∀ {ls : Array Slot} {H : Heap} {locs : List Loc} {σ : St} {x1 : Int32} {x2 : Int32} {x3 : Int32} {x4 : Int32}, lv_has ls 5 [(0, .ref a), (1, .int x1), (2, .int x2), (3, .int x3), (4, .int x4)] → Hp D A s.heap H locs (mW k a g σ) → rec103 σ x1 x2 x3 x4 = some r → W p l e { frames := 1, cells := 0, slots := 0, locals := 21 } s m args below meth c H locs 0 0 (MQ below (va_Qv (fun (_ : Unit) => True) (fun _ t => PostW D (TYs k) A (mW k a g r) t) A) args s 0 0 A) (F0 m 103 ls [])) {ls : Array Slot} {H : Heap} {locs : List Loc} {σ : St} {x1 : Int32} {x3 : Int32} {x4 : Int32} {s0 : Int32} (hl : lv_has ls 5 [(0, .ref a), (1, .int x1), (3, .int x3), (4, .int x4)]) (h : Hp D A s.heap H locs (mW k a g σ)) (hm : f_lookNumber_137 N rec103 σ x1 x3 x4 s0 = some r) : W p l e { frames := 1, cells := 0, slots := 0, locals := 21 } s m args below meth c H locs 0 0 (MQ below (va_Qv (fun (_ : Unit) => True) (fun _ t => PostW D (TYs k) A (mW k a g r) t) A) args s 0 0 A) (F0 m 137 ls [.int s0]) := by
  have hm : (rec103 σ (x1 + 1) s0 x3 (x4 + 1)) = some r := hm
  refine lv_istore_n (lv' := [(2, .int s0), (0, .ref a), (1, .int x1), (3, .int x3), (4, .int x4)]) C.1 C.2.1 dX12_lookNumber_137 rfl hl (by decide) rfl (fun ls hl => ?_)
  refine lv_iinc (v := (x4 + 1)) (lv' := [(4, .int (x4 + 1)), (2, .int s0), (0, .ref a), (1, .int x1), (3, .int x3)]) C.1 C.2.1 dX12_lookNumber_138 hl (k := 4) rfl rfl (by decide) rfl (fun ls hl => ?_)
  refine lv_iinc (v := (x1 + 1)) (lv' := [(1, .int (x1 + 1)), (4, .int (x4 + 1)), (2, .int s0), (0, .ref a), (3, .int x3)]) C.1 C.2.1 dX12_lookNumber_141 hl (k := 3) rfl rfl (by decide) rfl (fun ls hl => ?_)
  refine lv_goto (tgt := 103) C.1 C.2.1 dX12_lookNumber_144 (by decide) ?_
  exact hrec103 (lv_sub hl [3, 0, 2, 4, 1] rfl) h hm
set_option maxHeartbeats 4000000 in
set_option maxRecDepth 100000 in
theorem lm_lookNumber_173 {r : St} (C : Cx p s m args c cX12_lookNumber RX12 (cd :: rW) D (TYs k) 5) (hr : meth.sig.returnType = none) (hlk : meth.locks = false)  {ls : Array Slot} {H : Heap} {locs : List Loc} {σ : St} {x1 : Int32} (hl : lv_has ls 5 [(0, .ref a), (1, .int x1)]) (h : Hp D A s.heap H locs (mW k a g σ)) (hm : f_lookNumber_173 N  σ x1 = some r) : W p l e { frames := 1, cells := 0, slots := 0, locals := 21 } s m args below meth c H locs 0 0 (MQ below (va_Qv (fun (_ : Unit) => True) (fun _ t => PostW D (TYs k) A (mW k a g r) t) A) args s 0 0 A) (F0 m 173 ls []) := by
  have hm : (some (sI σ 5 x1)) = some r := hm
  refine lv_aload_n C.1 C.2.1 dX12_lookNumber_173 rfl (lv_at hl 0 rfl) ?_
  refine lv_iload_n C.1 C.2.1 dX12_lookNumber_174 rfl (lv_at hl 1 rfl) ?_
  refine fp_5 C h dX12_lookNumber_175 (fun H locs h => ?_)
  cases hm
  exact q_vret C h hr hlk dX12_lookNumber_178
set_option maxHeartbeats 4000000 in
set_option maxRecDepth 100000 in
theorem lm_lookNumber_170 {r : St} (C : Cx p s m args c cX12_lookNumber RX12 (cd :: rW) D (TYs k) 5) (hr : meth.sig.returnType = none) (hlk : meth.locks = false)  {ls : Array Slot} {H : Heap} {locs : List Loc} {σ : St} {x1 : Int32} {s0 : Int32} (hl : lv_has ls 5 [(0, .ref a), (1, .int x1)]) (h : Hp D A s.heap H locs (mW k a g σ)) (hm : f_lookNumber_170 N  σ x1 s0 = some r) : W p l e { frames := 1, cells := 0, slots := 0, locals := 21 } s m args below meth c H locs 0 0 (MQ below (va_Qv (fun (_ : Unit) => True) (fun _ t => PostW D (TYs k) A (mW k a g r) t) A) args s 0 0 A) (F0 m 170 ls [.int s0, .ref a]) := by
  have hm : (f_lookNumber_173 N (sI σ 3 s0) x1) = some r := hm
  refine fp_3 C h dX12_lookNumber_170 (fun H locs h => ?_)
  exact lm_lookNumber_173 (N := N) C hr hlk  (lv_sub hl [0, 1] rfl) h hm
set_option maxHeartbeats 4000000 in
set_option maxRecDepth 100000 in
theorem lm_lookNumber_164 {r : St} (C : Cx p s m args c cX12_lookNumber RX12 (cd :: rW) D (TYs k) 5) (hr : meth.sig.returnType = none) (hlk : meth.locks = false)  {ls : Array Slot} {H : Heap} {locs : List Loc} {σ : St} {x1 : Int32} (hl : lv_has ls 5 [(0, .ref a), (1, .int x1)]) (h : Hp D A s.heap H locs (mW k a g σ)) (hm : f_lookNumber_164 N  σ x1 = some r) : W p l e { frames := 1, cells := 0, slots := 0, locals := 21 } s m args below meth c H locs 0 0 (MQ below (va_Qv (fun (_ : Unit) => True) (fun _ t => PostW D (TYs k) A (mW k a g r) t) A) args s 0 0 A) (F0 m 164 ls [.ref a]) := by
  have hm : (f_lookNumber_170 N σ x1 7) = some r := hm
  refine lv_bipush (v := 7) C.1 C.2.1 dX12_lookNumber_164 (by decide) ?_
  refine lv_goto (tgt := 170) C.1 C.2.1 dX12_lookNumber_166 (by decide) ?_
  exact lm_lookNumber_170 (N := N) C hr hlk  (lv_sub hl [0, 1] rfl) h hm
set_option maxHeartbeats 4000000 in
set_option maxRecDepth 100000 in
theorem lm_lookNumber_103 {r : St} (C : Cx p s m args c cX12_lookNumber RX12 (cd :: rW) D (TYs k) 5) (hr : meth.sig.returnType = none) (hlk : meth.locks = false)  (n : Nat) : ∀ {ls : Array Slot} {H : Heap} {locs : List Loc} {σ : St} {x1 : Int32} {x2 : Int32} {x3 : Int32} {x4 : Int32}, lv_has ls 5 [(0, .ref a), (1, .int x1), (2, .int x2), (3, .int x3), (4, .int x4)] → Hp D A s.heap H locs (mW k a g σ) → f_lookNumber_103 N  n σ x1 x2 x3 x4 = some r → W p l e { frames := 1, cells := 0, slots := 0, locals := 21 } s m args below meth c H locs 0 0 (MQ below (va_Qv (fun (_ : Unit) => True) (fun _ t => PostW D (TYs k) A (mW k a g r) t) A) args s 0 0 A) (F0 m 103 ls []) := by
  induction n with
  | zero => intro ls H locs σ x1 x2 x3 x4 hl h hm; cases (show none = some r from hm)
  | succ n hrec103 =>
    intro ls H locs σ x1 x2 x3 x4 hl h hm
    have hm : (Option.bind (f_byteAt N σ x1) (fun r18 => Option.bind (f_isDigit N r18.2) (fun r20 => if r20 = 0 then if (4 : Int32) < x3 then f_lookNumber_164 N (sI r18.1 10 x2) x1 else if x4 ≤ 4 then f_lookNumber_170 N (sI r18.1 10 x2) x1 4 else f_lookNumber_164 N (sI r18.1 10 x2) x1 else if (4 : Int32) ≤ x4 then f_lookNumber_137 N (f_lookNumber_103 N n) r18.1 x1 x3 x4 x2 else Option.bind (f_byteAt N r18.1 x1) (fun r26 => f_lookNumber_137 N (f_lookNumber_103 N n) r26.1 x1 x3 x4 (((10 * x2) + r26.2) - 48))))) = some r := hm
    refine lv_aload_n C.1 C.2.1 dX12_lookNumber_103 rfl (lv_at hl 0 rfl) ?_
    refine lv_iload_n C.1 C.2.1 dX12_lookNumber_104 rfl (lv_at hl 1 rfl) ?_
    obtain ⟨r18, e19, hm⟩ := bd_s hm
    refine q_callVi C h (c_byteAt l D k a g N σ x1 r18 e19) (cwV 1 C.2.2.1 (gR_byteAt _) rfl rfl rfl hd_byteAt ⟨Nat.le_of_ble_eq_true rfl, Nat.le_of_ble_eq_true rfl⟩) rfl hl.1 rfl (Nat.le_of_ble_eq_true rfl) dX12_lookNumber_105 ⟨Nat.le_of_ble_eq_true rfl, Nat.le_of_ble_eq_true rfl⟩ (fun H locs h => ?_)
    obtain ⟨r20, e21, hm⟩ := bd_s hm
    refine q_callSi C h (c_isDigit l D k N r18.2 r20 e21) (cwS 1 C.2.2.1 (gR_isDigit _) rfl rfl rfl hd_isDigit ⟨Nat.le_of_ble_eq_true rfl, Nat.le_of_ble_eq_true rfl⟩) rfl hl.1 rfl (Nat.le_of_ble_eq_true rfl) dX12_lookNumber_108 ⟨Nat.le_of_ble_eq_true rfl, Nat.le_of_ble_eq_true rfl⟩ (fun H locs h => ?_)
    refine lv_if_eq (tgt := 147) C.1 C.2.1 dX12_lookNumber_111 (by decide) (fun c22 => ?_) (fun c22 => ?_)
    · have hm := ite_t c22 hm
      refine lv_aload_n C.1 C.2.1 dX12_lookNumber_147 rfl (lv_at hl 0 rfl) ?_
      refine lv_iload_n C.1 C.2.1 dX12_lookNumber_148 rfl (lv_at hl 2 rfl) ?_
      refine fp_10 C h dX12_lookNumber_149 (fun H locs h => ?_)
      refine lv_aload_n C.1 C.2.1 dX12_lookNumber_152 rfl (lv_at hl 0 rfl) ?_
      refine lv_iload_n C.1 C.2.1 dX12_lookNumber_153 rfl (lv_at hl 3 rfl) ?_
      refine lv_iconst (v := 4) C.1 C.2.1 dX12_lookNumber_154 (by decide) ?_
      refine lv_icmp_gt (tgt := 164) C.1 C.2.1 dX12_lookNumber_155 (by decide) (fun c23 => ?_) (fun c23 => ?_)
      · have hm := ite_t c23 hm
        exact lm_lookNumber_164 (N := N) C hr hlk  (lv_sub hl [0, 1] rfl) h hm
      · have hm := ite_f c23 hm
        refine lv_iload C.1 C.2.1 dX12_lookNumber_158 (lv_at hl 4 rfl) ?_
        refine lv_iconst (v := 4) C.1 C.2.1 dX12_lookNumber_160 (by decide) ?_
        refine lv_icmp_le (tgt := 169) C.1 C.2.1 dX12_lookNumber_161 (by decide) (fun c24 => ?_) (fun c24 => ?_)
        · have hm := ite_t c24 hm
          refine lv_iconst (v := 4) C.1 C.2.1 dX12_lookNumber_169 (by decide) ?_
          exact lm_lookNumber_170 (N := N) C hr hlk  (lv_sub hl [0, 1] rfl) h hm
        · have hm := ite_f c24 hm
          exact lm_lookNumber_164 (N := N) C hr hlk  (lv_sub hl [0, 1] rfl) h hm
    · have hm := ite_f c22 hm
      refine lv_iload C.1 C.2.1 dX12_lookNumber_114 (lv_at hl 4 rfl) ?_
      refine lv_iconst (v := 4) C.1 C.2.1 dX12_lookNumber_116 (by decide) ?_
      refine lv_icmp_ge (tgt := 136) C.1 C.2.1 dX12_lookNumber_117 (by decide) (fun c25 => ?_) (fun c25 => ?_)
      · have hm := ite_t c25 hm
        refine lv_iload_n C.1 C.2.1 dX12_lookNumber_136 rfl (lv_at hl 2 rfl) ?_
        exact lm_lookNumber_137 (N := N) C hr hlk hrec103 (lv_sub hl [0, 1, 3, 4] rfl) h hm
      · have hm := ite_f c25 hm
        refine lv_bipush (v := 10) C.1 C.2.1 dX12_lookNumber_120 (by decide) ?_
        refine lv_iload_n C.1 C.2.1 dX12_lookNumber_122 rfl (lv_at hl 2 rfl) ?_
        refine lv_imul C.1 C.2.1 dX12_lookNumber_123 ?_
        refine lv_aload_n C.1 C.2.1 dX12_lookNumber_124 rfl (lv_at hl 0 rfl) ?_
        refine lv_iload_n C.1 C.2.1 dX12_lookNumber_125 rfl (lv_at hl 1 rfl) ?_
        obtain ⟨r26, e27, hm⟩ := bd_s hm
        refine q_callVi C h (c_byteAt l D k a g N r18.1 x1 r26 e27) (cwV 1 C.2.2.1 (gR_byteAt _) rfl rfl rfl hd_byteAt ⟨Nat.le_of_ble_eq_true rfl, Nat.le_of_ble_eq_true rfl⟩) rfl hl.1 rfl (Nat.le_of_ble_eq_true rfl) dX12_lookNumber_126 ⟨Nat.le_of_ble_eq_true rfl, Nat.le_of_ble_eq_true rfl⟩ (fun H locs h => ?_)
        refine lv_iadd C.1 C.2.1 dX12_lookNumber_129 ?_
        refine lv_bipush (v := 48) C.1 C.2.1 dX12_lookNumber_130 (by decide) ?_
        refine lv_isub C.1 C.2.1 dX12_lookNumber_132 ?_
        refine lv_goto (tgt := 137) C.1 C.2.1 dX12_lookNumber_133 (by decide) ?_
        exact lm_lookNumber_137 (N := N) C hr hlk hrec103 (lv_sub hl [0, 1, 3, 4] rfl) h hm
set_option maxHeartbeats 4000000 in
set_option maxRecDepth 100000 in
theorem lm_lookNumber_69 {r : St} (C : Cx p s m args c cX12_lookNumber RX12 (cd :: rW) D (TYs k) 5) (hr : meth.sig.returnType = none) (hlk : meth.locks = false)  {ls : Array Slot} {H : Heap} {locs : List Loc} {σ : St} {x1 : Int32} {x3 : Int32} {s0 : Int32} (hl : lv_has ls 5 [(0, .ref a), (1, .int x1), (3, .int x3)]) (h : Hp D A s.heap H locs (mW k a g σ)) (hm : f_lookNumber_69 N  σ x1 x3 s0 = some r) : W p l e { frames := 1, cells := 0, slots := 0, locals := 21 } s m args below meth c H locs 0 0 (MQ below (va_Qv (fun (_ : Unit) => True) (fun _ t => PostW D (TYs k) A (mW k a g r) t) A) args s 0 0 A) (F0 m 69 ls [.int s0, .ref a]) := by
  have hm : (Option.bind (f_byteAt N (sI σ 3 s0) x1) (fun r10 => if ¬ r10.2 = 58 then f_lookNumber_173 N r10.1 x1 else Option.bind (f_byteAt N r10.1 (x1 + 1)) (fun r13 => Option.bind (f_isDigit N r13.2) (fun r15 => if r15 = 0 then f_lookNumber_173 N r13.1 x1 else f_lookNumber_103 N N r13.1 (x1 + 1) 0 x3 0)))) = some r := hm
  refine fp_3 C h dX12_lookNumber_69 (fun H locs h => ?_)
  refine lv_aload_n C.1 C.2.1 dX12_lookNumber_72 rfl (lv_at hl 0 rfl) ?_
  refine lv_iload_n C.1 C.2.1 dX12_lookNumber_73 rfl (lv_at hl 1 rfl) ?_
  obtain ⟨r10, e11, hm⟩ := bd_s hm
  refine q_callVi C h (c_byteAt l D k a g N (sI σ 3 s0) x1 r10 e11) (cwV 1 C.2.2.1 (gR_byteAt _) rfl rfl rfl hd_byteAt ⟨Nat.le_of_ble_eq_true rfl, Nat.le_of_ble_eq_true rfl⟩) rfl hl.1 rfl (Nat.le_of_ble_eq_true rfl) dX12_lookNumber_74 ⟨Nat.le_of_ble_eq_true rfl, Nat.le_of_ble_eq_true rfl⟩ (fun H locs h => ?_)
  refine lv_bipush (v := 58) C.1 C.2.1 dX12_lookNumber_77 (by decide) ?_
  refine lv_icmp_ne (tgt := 173) C.1 C.2.1 dX12_lookNumber_79 (by decide) (fun c12 => ?_) (fun c12 => ?_)
  · have hm := ite_t c12 hm
    exact lm_lookNumber_173 (N := N) C hr hlk  (lv_sub hl [0, 1] rfl) h hm
  · have hm := ite_f c12 hm
    refine lv_aload_n C.1 C.2.1 dX12_lookNumber_82 rfl (lv_at hl 0 rfl) ?_
    refine lv_iload_n C.1 C.2.1 dX12_lookNumber_83 rfl (lv_at hl 1 rfl) ?_
    refine lv_iconst (v := 1) C.1 C.2.1 dX12_lookNumber_84 (by decide) ?_
    refine lv_iadd C.1 C.2.1 dX12_lookNumber_85 ?_
    obtain ⟨r13, e14, hm⟩ := bd_s hm
    refine q_callVi C h (c_byteAt l D k a g N r10.1 (x1 + 1) r13 e14) (cwV 1 C.2.2.1 (gR_byteAt _) rfl rfl rfl hd_byteAt ⟨Nat.le_of_ble_eq_true rfl, Nat.le_of_ble_eq_true rfl⟩) rfl hl.1 rfl (Nat.le_of_ble_eq_true rfl) dX12_lookNumber_86 ⟨Nat.le_of_ble_eq_true rfl, Nat.le_of_ble_eq_true rfl⟩ (fun H locs h => ?_)
    obtain ⟨r15, e16, hm⟩ := bd_s hm
    refine q_callSi C h (c_isDigit l D k N r13.2 r15 e16) (cwS 1 C.2.2.1 (gR_isDigit _) rfl rfl rfl hd_isDigit ⟨Nat.le_of_ble_eq_true rfl, Nat.le_of_ble_eq_true rfl⟩) rfl hl.1 rfl (Nat.le_of_ble_eq_true rfl) dX12_lookNumber_89 ⟨Nat.le_of_ble_eq_true rfl, Nat.le_of_ble_eq_true rfl⟩ (fun H locs h => ?_)
    refine lv_if_eq (tgt := 173) C.1 C.2.1 dX12_lookNumber_92 (by decide) (fun c17 => ?_) (fun c17 => ?_)
    · have hm := ite_t c17 hm
      exact lm_lookNumber_173 (N := N) C hr hlk  (lv_sub hl [0, 1] rfl) h hm
    · have hm := ite_f c17 hm
      refine lv_iinc (v := (x1 + 1)) (lv' := [(1, .int (x1 + 1)), (0, .ref a), (3, .int x3)]) C.1 C.2.1 dX12_lookNumber_95 hl (k := 1) rfl rfl (by decide) rfl (fun ls hl => ?_)
      refine lv_iconst (v := 0) C.1 C.2.1 dX12_lookNumber_98 (by decide) ?_
      refine lv_istore_n (lv' := [(2, .int 0), (1, .int (x1 + 1)), (0, .ref a), (3, .int x3)]) C.1 C.2.1 dX12_lookNumber_99 rfl hl (by decide) rfl (fun ls hl => ?_)
      refine lv_iconst (v := 0) C.1 C.2.1 dX12_lookNumber_100 (by decide) ?_
      refine lv_istore (lv' := [(4, .int 0), (2, .int 0), (1, .int (x1 + 1)), (0, .ref a), (3, .int x3)]) C.1 C.2.1 dX12_lookNumber_101 hl (by decide) rfl (fun ls hl => ?_)
      exact lm_lookNumber_103 (N := N) C hr hlk  N (lv_sub hl [3, 2, 1, 4, 0] rfl) h hm
set_option maxHeartbeats 4000000 in
set_option maxRecDepth 100000 in
theorem lm_lookNumber_9 {r : St} (C : Cx p s m args c cX12_lookNumber RX12 (cd :: rW) D (TYs k) 5) (hr : meth.sig.returnType = none) (hlk : meth.locks = false)  (n : Nat) : ∀ {ls : Array Slot} {H : Heap} {locs : List Loc} {σ : St} {x1 : Int32} {x2 : Int32} {x3 : Int32}, lv_has ls 5 [(0, .ref a), (1, .int x1), (2, .int x2), (3, .int x3)] → Hp D A s.heap H locs (mW k a g σ) → f_lookNumber_9 N  n σ x1 x2 x3 = some r → W p l e { frames := 1, cells := 0, slots := 0, locals := 21 } s m args below meth c H locs 0 0 (MQ below (va_Qv (fun (_ : Unit) => True) (fun _ t => PostW D (TYs k) A (mW k a g r) t) A) args s 0 0 A) (F0 m 9 ls []) := by
  induction n with
  | zero => intro ls H locs σ x1 x2 x3 hl h hm; cases (show none = some r from hm)
  | succ n hrec9 =>
    intro ls H locs σ x1 x2 x3 hl h hm
    have hm : (Option.bind (f_byteAt N σ x1) (fun r1 => Option.bind (f_isDigit N r1.2) (fun r3 => if r3 = 0 then if x3 ≤ 4 then f_lookNumber_69 N (sI r1.1 9 x2) x1 x3 3 else f_lookNumber_69 N (sI r1.1 9 x2) x1 x3 7 else if (4 : Int32) ≤ x3 then f_lookNumber_42 N (f_lookNumber_9 N n) r1.1 x1 x3 x2 else Option.bind (f_byteAt N r1.1 x1) (fun r8 => f_lookNumber_42 N (f_lookNumber_9 N n) r8.1 x1 x3 (((10 * x2) + r8.2) - 48))))) = some r := hm
    refine lv_aload_n C.1 C.2.1 dX12_lookNumber_9 rfl (lv_at hl 0 rfl) ?_
    refine lv_iload_n C.1 C.2.1 dX12_lookNumber_10 rfl (lv_at hl 1 rfl) ?_
    obtain ⟨r1, e2, hm⟩ := bd_s hm
    refine q_callVi C h (c_byteAt l D k a g N σ x1 r1 e2) (cwV 1 C.2.2.1 (gR_byteAt _) rfl rfl rfl hd_byteAt ⟨Nat.le_of_ble_eq_true rfl, Nat.le_of_ble_eq_true rfl⟩) rfl hl.1 rfl (Nat.le_of_ble_eq_true rfl) dX12_lookNumber_11 ⟨Nat.le_of_ble_eq_true rfl, Nat.le_of_ble_eq_true rfl⟩ (fun H locs h => ?_)
    obtain ⟨r3, e4, hm⟩ := bd_s hm
    refine q_callSi C h (c_isDigit l D k N r1.2 r3 e4) (cwS 1 C.2.2.1 (gR_isDigit _) rfl rfl rfl hd_isDigit ⟨Nat.le_of_ble_eq_true rfl, Nat.le_of_ble_eq_true rfl⟩) rfl hl.1 rfl (Nat.le_of_ble_eq_true rfl) dX12_lookNumber_14 ⟨Nat.le_of_ble_eq_true rfl, Nat.le_of_ble_eq_true rfl⟩ (fun H locs h => ?_)
    refine lv_if_eq (tgt := 52) C.1 C.2.1 dX12_lookNumber_17 (by decide) (fun c5 => ?_) (fun c5 => ?_)
    · have hm := ite_t c5 hm
      refine lv_aload_n C.1 C.2.1 dX12_lookNumber_52 rfl (lv_at hl 0 rfl) ?_
      refine lv_iload_n C.1 C.2.1 dX12_lookNumber_53 rfl (lv_at hl 2 rfl) ?_
      refine fp_9 C h dX12_lookNumber_54 (fun H locs h => ?_)
      refine lv_aload_n C.1 C.2.1 dX12_lookNumber_57 rfl (lv_at hl 0 rfl) ?_
      refine lv_iload_n C.1 C.2.1 dX12_lookNumber_58 rfl (lv_at hl 3 rfl) ?_
      refine lv_iconst (v := 4) C.1 C.2.1 dX12_lookNumber_59 (by decide) ?_
      refine lv_icmp_le (tgt := 68) C.1 C.2.1 dX12_lookNumber_60 (by decide) (fun c6 => ?_) (fun c6 => ?_)
      · have hm := ite_t c6 hm
        refine lv_iconst (v := 3) C.1 C.2.1 dX12_lookNumber_68 (by decide) ?_
        exact lm_lookNumber_69 (N := N) C hr hlk  (lv_sub hl [0, 1, 3] rfl) h hm
      · have hm := ite_f c6 hm
        refine lv_bipush (v := 7) C.1 C.2.1 dX12_lookNumber_63 (by decide) ?_
        refine lv_goto (tgt := 69) C.1 C.2.1 dX12_lookNumber_65 (by decide) ?_
        exact lm_lookNumber_69 (N := N) C hr hlk  (lv_sub hl [0, 1, 3] rfl) h hm
    · have hm := ite_f c5 hm
      refine lv_iload_n C.1 C.2.1 dX12_lookNumber_20 rfl (lv_at hl 3 rfl) ?_
      refine lv_iconst (v := 4) C.1 C.2.1 dX12_lookNumber_21 (by decide) ?_
      refine lv_icmp_ge (tgt := 41) C.1 C.2.1 dX12_lookNumber_22 (by decide) (fun c7 => ?_) (fun c7 => ?_)
      · have hm := ite_t c7 hm
        refine lv_iload_n C.1 C.2.1 dX12_lookNumber_41 rfl (lv_at hl 2 rfl) ?_
        exact lm_lookNumber_42 (N := N) C hr hlk hrec9 (lv_sub hl [0, 1, 3] rfl) h hm
      · have hm := ite_f c7 hm
        refine lv_bipush (v := 10) C.1 C.2.1 dX12_lookNumber_25 (by decide) ?_
        refine lv_iload_n C.1 C.2.1 dX12_lookNumber_27 rfl (lv_at hl 2 rfl) ?_
        refine lv_imul C.1 C.2.1 dX12_lookNumber_28 ?_
        refine lv_aload_n C.1 C.2.1 dX12_lookNumber_29 rfl (lv_at hl 0 rfl) ?_
        refine lv_iload_n C.1 C.2.1 dX12_lookNumber_30 rfl (lv_at hl 1 rfl) ?_
        obtain ⟨r8, e9, hm⟩ := bd_s hm
        refine q_callVi C h (c_byteAt l D k a g N r1.1 x1 r8 e9) (cwV 1 C.2.2.1 (gR_byteAt _) rfl rfl rfl hd_byteAt ⟨Nat.le_of_ble_eq_true rfl, Nat.le_of_ble_eq_true rfl⟩) rfl hl.1 rfl (Nat.le_of_ble_eq_true rfl) dX12_lookNumber_31 ⟨Nat.le_of_ble_eq_true rfl, Nat.le_of_ble_eq_true rfl⟩ (fun H locs h => ?_)
        refine lv_iadd C.1 C.2.1 dX12_lookNumber_34 ?_
        refine lv_bipush (v := 48) C.1 C.2.1 dX12_lookNumber_35 (by decide) ?_
        refine lv_isub C.1 C.2.1 dX12_lookNumber_37 ?_
        refine lv_goto (tgt := 42) C.1 C.2.1 dX12_lookNumber_38 (by decide) ?_
        exact lm_lookNumber_42 (N := N) C hr hlk hrec9 (lv_sub hl [0, 1, 3] rfl) h hm
set_option maxHeartbeats 4000000 in
set_option maxRecDepth 100000 in
theorem c_lookNumber (l : Launch) (D : va_G) (k : Nat → ClassId) (a : Nat) (g : Nat → Nat) (N : Nat) (σ : St)  (r : St) (hm : f_lookNumber N σ  = some r) : Mv l yX12_lookNumber (.code yX12_lookNumber cX12_lookNumber 5 none :: rW) { frames := 1, cells := 0, slots := 0, locals := 21 } [.ref a] D (TYs k) (mW k a g σ) (fun _ => True) Unit (fun _ => True) (fun _ => mW k a g r) 0 0 := by
  intro sz
  refine x_met (cc := cX12_lookNumber) (maxL := 5) (ret := none) (by decide) rfl (Nat.le_of_ble_eq_true rfl) ?_
  intro p e s m below meth c ls C hX hsz hr hlk hmn hl h
  have hl : lv_has ls 5 [(0, .ref a)] := hl
  have hm : (f_lookNumber_9 N N σ (gI σ 4) 0 0) = some r := hm
  refine lv_aload_n C.1 C.2.1 dX12_lookNumber_0 rfl (lv_at hl 0 rfl) ?_
  refine fg_4 C h dX12_lookNumber_1 ?_
  refine lv_istore_n (lv' := [(1, .int (gI σ 4)), (0, .ref a)]) C.1 C.2.1 dX12_lookNumber_4 rfl hl (by decide) rfl (fun ls hl => ?_)
  refine lv_iconst (v := 0) C.1 C.2.1 dX12_lookNumber_5 (by decide) ?_
  refine lv_istore_n (lv' := [(2, .int 0), (1, .int (gI σ 4)), (0, .ref a)]) C.1 C.2.1 dX12_lookNumber_6 rfl hl (by decide) rfl (fun ls hl => ?_)
  refine lv_iconst (v := 0) C.1 C.2.1 dX12_lookNumber_7 (by decide) ?_
  refine lv_istore_n (lv' := [(3, .int 0), (2, .int 0), (1, .int (gI σ 4)), (0, .ref a)]) C.1 C.2.1 dX12_lookNumber_8 rfl hl (by decide) rfl (fun ls hl => ?_)
  exact lm_lookNumber_9 (N := N) C hr hlk  N (lv_sub hl [3, 2, 1, 0] rfl) h hm
end L_lookNumber
def f_lookText_80 (N : Nat)  (σ : St) (x1 : Int32) (s0 : Int32) : Option St := some (sI (sI σ 3 s0) 5 (x1 + 1))
def f_lookText_78 (N : Nat)  (σ : St) (x1 : Int32) : Option St := f_lookText_80 N σ x1 7
def f_lookText_54 (N : Nat)  (σ : St) (x1 : Int32) : Option St := if (gI σ 1) ≤ x1 then f_lookText_78 N σ x1 else grd (inb x1 2000) (if ¬ (ga σ 96 x1) = 34 then f_lookText_78 N σ x1 else f_lookText_80 N σ x1 5)
def f_lookText_7 (N : Nat)  : Nat → St → Int32 → Option St
  | 0, _, _ => none
  | n + 1, σ, x1 => if (gI σ 1) ≤ x1 then f_lookText_54 N σ x1 else grd (inb x1 2000) (if (ga σ 96 x1) = 34 then f_lookText_54 N σ x1 else grd (inb x1 2000) (if (ga σ 96 x1) < 32 then f_lookText_54 N σ x1 else grd (inb x1 2000) (if (127 : Int32) ≤ (ga σ 96 x1) then f_lookText_54 N σ x1 else (f_lookText_7 N n) σ (x1 + 1))))
def f_lookText (N : Nat) (σ : St)  : Option St := f_lookText_7 N N σ ((gI σ 4) + 1)
section L_lookText
variable {p : Program} {l : Launch} {e : Env} {s : State} {m : MethodId} {args : Array Value} {below : List Frame} {meth : Method} {c : Code} {D : va_G} {A : Nat → Prop} {k : Nat → ClassId} {a : Nat} {g : Nat → Nat} {N : Nat} {cd : Cond}
set_option maxHeartbeats 4000000 in
set_option maxRecDepth 100000 in
theorem lm_lookText_80 {r : St} (C : Cx p s m args c cX12_lookText RX12 (cd :: rW) D (TYs k) 2) (hr : meth.sig.returnType = none) (hlk : meth.locks = false)  {ls : Array Slot} {H : Heap} {locs : List Loc} {σ : St} {x1 : Int32} {s0 : Int32} (hl : lv_has ls 2 [(0, .ref a), (1, .int x1)]) (h : Hp D A s.heap H locs (mW k a g σ)) (hm : f_lookText_80 N  σ x1 s0 = some r) : W p l e { frames := 0, cells := 0, slots := 0, locals := 0 } s m args below meth c H locs 0 0 (MQ below (va_Qv (fun (_ : Unit) => True) (fun _ t => PostW D (TYs k) A (mW k a g r) t) A) args s 0 0 A) (F0 m 80 ls [.int s0, .ref a]) := by
  have hm : (some (sI (sI σ 3 s0) 5 (x1 + 1))) = some r := hm
  refine fp_3 C h dX12_lookText_80 (fun H locs h => ?_)
  refine lv_aload_n C.1 C.2.1 dX12_lookText_83 rfl (lv_at hl 0 rfl) ?_
  refine lv_iload_n C.1 C.2.1 dX12_lookText_84 rfl (lv_at hl 1 rfl) ?_
  refine lv_iconst (v := 1) C.1 C.2.1 dX12_lookText_85 (by decide) ?_
  refine lv_iadd C.1 C.2.1 dX12_lookText_86 ?_
  refine fp_5 C h dX12_lookText_87 (fun H locs h => ?_)
  cases hm
  exact q_vret C h hr hlk dX12_lookText_90
set_option maxHeartbeats 4000000 in
set_option maxRecDepth 100000 in
theorem lm_lookText_78 {r : St} (C : Cx p s m args c cX12_lookText RX12 (cd :: rW) D (TYs k) 2) (hr : meth.sig.returnType = none) (hlk : meth.locks = false)  {ls : Array Slot} {H : Heap} {locs : List Loc} {σ : St} {x1 : Int32} (hl : lv_has ls 2 [(0, .ref a), (1, .int x1)]) (h : Hp D A s.heap H locs (mW k a g σ)) (hm : f_lookText_78 N  σ x1 = some r) : W p l e { frames := 0, cells := 0, slots := 0, locals := 0 } s m args below meth c H locs 0 0 (MQ below (va_Qv (fun (_ : Unit) => True) (fun _ t => PostW D (TYs k) A (mW k a g r) t) A) args s 0 0 A) (F0 m 78 ls [.ref a]) := by
  have hm : (f_lookText_80 N σ x1 7) = some r := hm
  refine lv_bipush (v := 7) C.1 C.2.1 dX12_lookText_78 (by decide) ?_
  exact lm_lookText_80 (N := N) C hr hlk  (lv_sub hl [0, 1] rfl) h hm
set_option maxHeartbeats 4000000 in
set_option maxRecDepth 100000 in
theorem lm_lookText_54 {r : St} (C : Cx p s m args c cX12_lookText RX12 (cd :: rW) D (TYs k) 2) (hr : meth.sig.returnType = none) (hlk : meth.locks = false)  {ls : Array Slot} {H : Heap} {locs : List Loc} {σ : St} {x1 : Int32} (hl : lv_has ls 2 [(0, .ref a), (1, .int x1)]) (h : Hp D A s.heap H locs (mW k a g σ)) (hm : f_lookText_54 N  σ x1 = some r) : W p l e { frames := 0, cells := 0, slots := 0, locals := 0 } s m args below meth c H locs 0 0 (MQ below (va_Qv (fun (_ : Unit) => True) (fun _ t => PostW D (TYs k) A (mW k a g r) t) A) args s 0 0 A) (F0 m 54 ls []) := by
  have hm : (if (gI σ 1) ≤ x1 then f_lookText_78 N σ x1 else grd (inb x1 2000) (if ¬ (ga σ 96 x1) = 34 then f_lookText_78 N σ x1 else f_lookText_80 N σ x1 5)) = some r := hm
  refine lv_aload_n C.1 C.2.1 dX12_lookText_54 rfl (lv_at hl 0 rfl) ?_
  refine lv_iload_n C.1 C.2.1 dX12_lookText_55 rfl (lv_at hl 1 rfl) ?_
  refine lv_aload_n C.1 C.2.1 dX12_lookText_56 rfl (lv_at hl 0 rfl) ?_
  refine fg_1 C h dX12_lookText_57 ?_
  refine lv_icmp_ge (tgt := 78) C.1 C.2.1 dX12_lookText_60 (by decide) (fun c8 => ?_) (fun c8 => ?_)
  · have hm := ite_t c8 hm
    exact lm_lookText_78 (N := N) C hr hlk  (lv_sub hl [0, 1] rfl) h hm
  · have hm := ite_f c8 hm
    refine lv_aload_n C.1 C.2.1 dX12_lookText_63 rfl (lv_at hl 0 rfl) ?_
    refine fg_0 C h dX12_lookText_64 ?_
    refine lv_iload_n C.1 C.2.1 dX12_lookText_67 rfl (lv_at hl 1 rfl) ?_
    obtain ⟨g9, hm⟩ := grd_s hm
    refine al_96 C h dX12_lookText_68 (inb_in g9) ?_
    refine lv_bipush (v := 34) C.1 C.2.1 dX12_lookText_69 (by decide) ?_
    refine lv_icmp_ne (tgt := 78) C.1 C.2.1 dX12_lookText_71 (by decide) (fun c10 => ?_) (fun c10 => ?_)
    · have hm := ite_t c10 hm
      exact lm_lookText_78 (N := N) C hr hlk  (lv_sub hl [0, 1] rfl) h hm
    · have hm := ite_f c10 hm
      refine lv_iconst (v := 5) C.1 C.2.1 dX12_lookText_74 (by decide) ?_
      refine lv_goto (tgt := 80) C.1 C.2.1 dX12_lookText_75 (by decide) ?_
      exact lm_lookText_80 (N := N) C hr hlk  (lv_sub hl [0, 1] rfl) h hm
set_option maxHeartbeats 4000000 in
set_option maxRecDepth 100000 in
theorem lm_lookText_7 {r : St} (C : Cx p s m args c cX12_lookText RX12 (cd :: rW) D (TYs k) 2) (hr : meth.sig.returnType = none) (hlk : meth.locks = false)  (n : Nat) : ∀ {ls : Array Slot} {H : Heap} {locs : List Loc} {σ : St} {x1 : Int32}, lv_has ls 2 [(0, .ref a), (1, .int x1)] → Hp D A s.heap H locs (mW k a g σ) → f_lookText_7 N  n σ x1 = some r → W p l e { frames := 0, cells := 0, slots := 0, locals := 0 } s m args below meth c H locs 0 0 (MQ below (va_Qv (fun (_ : Unit) => True) (fun _ t => PostW D (TYs k) A (mW k a g r) t) A) args s 0 0 A) (F0 m 7 ls []) := by
  induction n with
  | zero => intro ls H locs σ x1 hl h hm; cases (show none = some r from hm)
  | succ n hrec7 =>
    intro ls H locs σ x1 hl h hm
    have hm : (if (gI σ 1) ≤ x1 then f_lookText_54 N σ x1 else grd (inb x1 2000) (if (ga σ 96 x1) = 34 then f_lookText_54 N σ x1 else grd (inb x1 2000) (if (ga σ 96 x1) < 32 then f_lookText_54 N σ x1 else grd (inb x1 2000) (if (127 : Int32) ≤ (ga σ 96 x1) then f_lookText_54 N σ x1 else (f_lookText_7 N n) σ (x1 + 1))))) = some r := hm
    refine lv_iload_n C.1 C.2.1 dX12_lookText_7 rfl (lv_at hl 1 rfl) ?_
    refine lv_aload_n C.1 C.2.1 dX12_lookText_8 rfl (lv_at hl 0 rfl) ?_
    refine fg_1 C h dX12_lookText_9 ?_
    refine lv_icmp_ge (tgt := 54) C.1 C.2.1 dX12_lookText_12 (by decide) (fun c1 => ?_) (fun c1 => ?_)
    · have hm := ite_t c1 hm
      exact lm_lookText_54 (N := N) C hr hlk  (lv_sub hl [0, 1] rfl) h hm
    · have hm := ite_f c1 hm
      refine lv_aload_n C.1 C.2.1 dX12_lookText_15 rfl (lv_at hl 0 rfl) ?_
      refine fg_0 C h dX12_lookText_16 ?_
      refine lv_iload_n C.1 C.2.1 dX12_lookText_19 rfl (lv_at hl 1 rfl) ?_
      obtain ⟨g2, hm⟩ := grd_s hm
      refine al_96 C h dX12_lookText_20 (inb_in g2) ?_
      refine lv_bipush (v := 34) C.1 C.2.1 dX12_lookText_21 (by decide) ?_
      refine lv_icmp_eq (tgt := 54) C.1 C.2.1 dX12_lookText_23 (by decide) (fun c3 => ?_) (fun c3 => ?_)
      · have hm := ite_t c3 hm
        exact lm_lookText_54 (N := N) C hr hlk  (lv_sub hl [0, 1] rfl) h hm
      · have hm := ite_f c3 hm
        refine lv_aload_n C.1 C.2.1 dX12_lookText_26 rfl (lv_at hl 0 rfl) ?_
        refine fg_0 C h dX12_lookText_27 ?_
        refine lv_iload_n C.1 C.2.1 dX12_lookText_30 rfl (lv_at hl 1 rfl) ?_
        obtain ⟨g4, hm⟩ := grd_s hm
        refine al_96 C h dX12_lookText_31 (inb_in g4) ?_
        refine lv_bipush (v := 32) C.1 C.2.1 dX12_lookText_32 (by decide) ?_
        refine lv_icmp_lt (tgt := 54) C.1 C.2.1 dX12_lookText_34 (by decide) (fun c5 => ?_) (fun c5 => ?_)
        · have hm := ite_t c5 hm
          exact lm_lookText_54 (N := N) C hr hlk  (lv_sub hl [0, 1] rfl) h hm
        · have hm := ite_f c5 hm
          refine lv_aload_n C.1 C.2.1 dX12_lookText_37 rfl (lv_at hl 0 rfl) ?_
          refine fg_0 C h dX12_lookText_38 ?_
          refine lv_iload_n C.1 C.2.1 dX12_lookText_41 rfl (lv_at hl 1 rfl) ?_
          obtain ⟨g6, hm⟩ := grd_s hm
          refine al_96 C h dX12_lookText_42 (inb_in g6) ?_
          refine lv_bipush (v := 127) C.1 C.2.1 dX12_lookText_43 (by decide) ?_
          refine lv_icmp_ge (tgt := 54) C.1 C.2.1 dX12_lookText_45 (by decide) (fun c7 => ?_) (fun c7 => ?_)
          · have hm := ite_t c7 hm
            exact lm_lookText_54 (N := N) C hr hlk  (lv_sub hl [0, 1] rfl) h hm
          · have hm := ite_f c7 hm
            refine lv_iinc (v := (x1 + 1)) (lv' := [(1, .int (x1 + 1)), (0, .ref a)]) C.1 C.2.1 dX12_lookText_48 hl (k := 1) rfl rfl (by decide) rfl (fun ls hl => ?_)
            refine lv_goto (tgt := 7) C.1 C.2.1 dX12_lookText_51 (by decide) ?_
            exact hrec7 (lv_sub hl [1, 0] rfl) h hm
set_option maxHeartbeats 4000000 in
set_option maxRecDepth 100000 in
theorem c_lookText (l : Launch) (D : va_G) (k : Nat → ClassId) (a : Nat) (g : Nat → Nat) (N : Nat) (σ : St)  (r : St) (hm : f_lookText N σ  = some r) : Mv l yX12_lookText (.code yX12_lookText cX12_lookText 2 none :: rW) { frames := 0, cells := 0, slots := 0, locals := 0 } [.ref a] D (TYs k) (mW k a g σ) (fun _ => True) Unit (fun _ => True) (fun _ => mW k a g r) 0 0 := by
  intro sz
  refine x_met (cc := cX12_lookText) (maxL := 2) (ret := none) (by decide) rfl (Nat.le_of_ble_eq_true rfl) ?_
  intro p e s m below meth c ls C hX hsz hr hlk hmn hl h
  have hl : lv_has ls 2 [(0, .ref a)] := hl
  have hm : (f_lookText_7 N N σ ((gI σ 4) + 1)) = some r := hm
  refine lv_aload_n C.1 C.2.1 dX12_lookText_0 rfl (lv_at hl 0 rfl) ?_
  refine fg_4 C h dX12_lookText_1 ?_
  refine lv_iconst (v := 1) C.1 C.2.1 dX12_lookText_4 (by decide) ?_
  refine lv_iadd C.1 C.2.1 dX12_lookText_5 ?_
  refine lv_istore_n (lv' := [(1, .int ((gI σ 4) + 1)), (0, .ref a)]) C.1 C.2.1 dX12_lookText_6 rfl hl (by decide) rfl (fun ls hl => ?_)
  exact lm_lookText_7 (N := N) C hr hlk  N (lv_sub hl [1, 0] rfl) h hm
end L_lookText
def f_look_27 (N : Nat)  (σ : St) (x2 : Int32) : Option St := Option.bind (f_byteAt N (sI (sI σ 4 x2) 5 (x2 + 1)) x2) (fun r4 => if x2 < (gI r4.1 1) then if ¬ r4.2 = 10 then Option.bind (f_isLow N r4.2) (fun r8 => if r8 = 0 then Option.bind (f_isDigit N r4.2) (fun r11 => if r11 = 0 then if ¬ r4.2 = 34 then Option.bind (f_isSignByte N r4.2) (fun r15 => if r15 = 0 then some (sI r4.1 3 7) else some (sI (sI r4.1 3 6) 6 r4.2)) else Option.bind (f_lookText N r4.1) (fun r18 => some r18) else Option.bind (f_lookNumber N r4.1) (fun r20 => some r20)) else Option.bind (f_lookName N r4.1) (fun r22 => some r22)) else some (sI r4.1 3 1) else some (sI (sI r4.1 3 0) 5 (gI r4.1 1)))
def f_look_2 (N : Nat)  : Nat → St → Int32 → Option St
  | 0, _, _ => none
  | n + 1, σ, x2 => if (gI σ 1) ≤ x2 then f_look_27 N σ x2 else grd (inb x2 2000) (if ¬ (ga σ 96 x2) = 32 then f_look_27 N σ x2 else (f_look_2 N n) σ (x2 + 1))
def f_look (N : Nat) (σ : St) (x1 : Int32) : Option St := f_look_2 N N σ x1
section L_look
variable {p : Program} {l : Launch} {e : Env} {s : State} {m : MethodId} {args : Array Value} {below : List Frame} {meth : Method} {c : Code} {D : va_G} {A : Nat → Prop} {k : Nat → ClassId} {a : Nat} {g : Nat → Nat} {N : Nat} {cd : Cond}
set_option maxHeartbeats 4000000 in
set_option maxRecDepth 100000 in
theorem lm_look_27 {r : St} (C : Cx p s m args c cX12_look RX12 (cd :: rW) D (TYs k) 4) (hr : meth.sig.returnType = none) (hlk : meth.locks = false)  {ls : Array Slot} {H : Heap} {locs : List Loc} {σ : St} {x2 : Int32} (hl : lv_has ls 4 [(0, .ref a), (2, .int x2)]) (h : Hp D A s.heap H locs (mW k a g σ)) (hm : f_look_27 N  σ x2 = some r) : W p l e { frames := 2, cells := 0, slots := 0, locals := 46 } s m args below meth c H locs 0 0 (MQ below (va_Qv (fun (_ : Unit) => True) (fun _ t => PostW D (TYs k) A (mW k a g r) t) A) args s 0 0 A) (F0 m 27 ls []) := by
  have hm : (Option.bind (f_byteAt N (sI (sI σ 4 x2) 5 (x2 + 1)) x2) (fun r4 => if x2 < (gI r4.1 1) then if ¬ r4.2 = 10 then Option.bind (f_isLow N r4.2) (fun r8 => if r8 = 0 then Option.bind (f_isDigit N r4.2) (fun r11 => if r11 = 0 then if ¬ r4.2 = 34 then Option.bind (f_isSignByte N r4.2) (fun r15 => if r15 = 0 then some (sI r4.1 3 7) else some (sI (sI r4.1 3 6) 6 r4.2)) else Option.bind (f_lookText N r4.1) (fun r18 => some r18) else Option.bind (f_lookNumber N r4.1) (fun r20 => some r20)) else Option.bind (f_lookName N r4.1) (fun r22 => some r22)) else some (sI r4.1 3 1) else some (sI (sI r4.1 3 0) 5 (gI r4.1 1)))) = some r := hm
  refine lv_aload_n C.1 C.2.1 dX12_look_27 rfl (lv_at hl 0 rfl) ?_
  refine lv_iload_n C.1 C.2.1 dX12_look_28 rfl (lv_at hl 1 rfl) ?_
  refine fp_4 C h dX12_look_29 (fun H locs h => ?_)
  refine lv_aload_n C.1 C.2.1 dX12_look_32 rfl (lv_at hl 0 rfl) ?_
  refine lv_iload_n C.1 C.2.1 dX12_look_33 rfl (lv_at hl 1 rfl) ?_
  refine lv_iconst (v := 1) C.1 C.2.1 dX12_look_34 (by decide) ?_
  refine lv_iadd C.1 C.2.1 dX12_look_35 ?_
  refine fp_5 C h dX12_look_36 (fun H locs h => ?_)
  refine lv_aload_n C.1 C.2.1 dX12_look_39 rfl (lv_at hl 0 rfl) ?_
  refine lv_iload_n C.1 C.2.1 dX12_look_40 rfl (lv_at hl 1 rfl) ?_
  obtain ⟨r4, e5, hm⟩ := bd_s hm
  refine q_callVi C h (c_byteAt l D k a g N (sI (sI σ 4 x2) 5 (x2 + 1)) x2 r4 e5) (cwV 1 C.2.2.1 (gR_byteAt _) rfl rfl rfl hd_byteAt ⟨Nat.le_of_ble_eq_true rfl, Nat.le_of_ble_eq_true rfl⟩) rfl hl.1 rfl (Nat.le_of_ble_eq_true rfl) dX12_look_41 ⟨Nat.le_of_ble_eq_true rfl, Nat.le_of_ble_eq_true rfl⟩ (fun H locs h => ?_)
  refine lv_istore_n (lv' := [(3, .int r4.2), (0, .ref a), (2, .int x2)]) C.1 C.2.1 dX12_look_44 rfl hl (by decide) rfl (fun ls hl => ?_)
  refine lv_iload_n C.1 C.2.1 dX12_look_45 rfl (lv_at hl 2 rfl) ?_
  refine lv_aload_n C.1 C.2.1 dX12_look_46 rfl (lv_at hl 1 rfl) ?_
  refine fg_1 C h dX12_look_47 ?_
  refine lv_icmp_lt (tgt := 69) C.1 C.2.1 dX12_look_50 (by decide) (fun c6 => ?_) (fun c6 => ?_)
  · have hm := ite_t c6 hm
    refine lv_iload_n C.1 C.2.1 dX12_look_69 rfl (lv_at hl 0 rfl) ?_
    refine lv_bipush (v := 10) C.1 C.2.1 dX12_look_70 (by decide) ?_
    refine lv_icmp_ne (tgt := 83) C.1 C.2.1 dX12_look_72 (by decide) (fun c7 => ?_) (fun c7 => ?_)
    · have hm := ite_t c7 hm
      refine lv_iload_n C.1 C.2.1 dX12_look_83 rfl (lv_at hl 0 rfl) ?_
      obtain ⟨r8, e9, hm⟩ := bd_s hm
      refine q_callSi C h (c_isLow l D k N r4.2 r8 e9) (cwS 1 C.2.2.1 (gR_isLow _) rfl rfl rfl hd_isLow ⟨Nat.le_of_ble_eq_true rfl, Nat.le_of_ble_eq_true rfl⟩) rfl hl.1 rfl (Nat.le_of_ble_eq_true rfl) dX12_look_84 ⟨Nat.le_of_ble_eq_true rfl, Nat.le_of_ble_eq_true rfl⟩ (fun H locs h => ?_)
      refine lv_if_eq (tgt := 97) C.1 C.2.1 dX12_look_87 (by decide) (fun c10 => ?_) (fun c10 => ?_)
      · have hm := ite_t c10 hm
        refine lv_iload_n C.1 C.2.1 dX12_look_97 rfl (lv_at hl 0 rfl) ?_
        obtain ⟨r11, e12, hm⟩ := bd_s hm
        refine q_callSi C h (c_isDigit l D k N r4.2 r11 e12) (cwS 1 C.2.2.1 (gR_isDigit _) rfl rfl rfl hd_isDigit ⟨Nat.le_of_ble_eq_true rfl, Nat.le_of_ble_eq_true rfl⟩) rfl hl.1 rfl (Nat.le_of_ble_eq_true rfl) dX12_look_98 ⟨Nat.le_of_ble_eq_true rfl, Nat.le_of_ble_eq_true rfl⟩ (fun H locs h => ?_)
        refine lv_if_eq (tgt := 111) C.1 C.2.1 dX12_look_101 (by decide) (fun c13 => ?_) (fun c13 => ?_)
        · have hm := ite_t c13 hm
          refine lv_iload_n C.1 C.2.1 dX12_look_111 rfl (lv_at hl 0 rfl) ?_
          refine lv_bipush (v := 34) C.1 C.2.1 dX12_look_112 (by decide) ?_
          refine lv_icmp_ne (tgt := 124) C.1 C.2.1 dX12_look_114 (by decide) (fun c14 => ?_) (fun c14 => ?_)
          · have hm := ite_t c14 hm
            refine lv_iload_n C.1 C.2.1 dX12_look_124 rfl (lv_at hl 0 rfl) ?_
            obtain ⟨r15, e16, hm⟩ := bd_s hm
            refine q_callSi C h (c_isSignByte l D k N r4.2 r15 e16) (cwS 1 C.2.2.1 (gR_isSignByte _) rfl rfl rfl hd_isSignByte ⟨Nat.le_of_ble_eq_true rfl, Nat.le_of_ble_eq_true rfl⟩) rfl hl.1 rfl (Nat.le_of_ble_eq_true rfl) dX12_look_125 ⟨Nat.le_of_ble_eq_true rfl, Nat.le_of_ble_eq_true rfl⟩ (fun H locs h => ?_)
            refine lv_if_eq (tgt := 145) C.1 C.2.1 dX12_look_128 (by decide) (fun c17 => ?_) (fun c17 => ?_)
            · have hm := ite_t c17 hm
              refine lv_aload_n C.1 C.2.1 dX12_look_145 rfl (lv_at hl 1 rfl) ?_
              refine lv_bipush (v := 7) C.1 C.2.1 dX12_look_146 (by decide) ?_
              refine fp_3 C h dX12_look_148 (fun H locs h => ?_)
              cases hm
              exact q_vret C h hr hlk dX12_look_151
            · have hm := ite_f c17 hm
              refine lv_aload_n C.1 C.2.1 dX12_look_131 rfl (lv_at hl 1 rfl) ?_
              refine lv_bipush (v := 6) C.1 C.2.1 dX12_look_132 (by decide) ?_
              refine fp_3 C h dX12_look_134 (fun H locs h => ?_)
              refine lv_aload_n C.1 C.2.1 dX12_look_137 rfl (lv_at hl 1 rfl) ?_
              refine lv_iload_n C.1 C.2.1 dX12_look_138 rfl (lv_at hl 0 rfl) ?_
              refine fp_6 C h dX12_look_139 (fun H locs h => ?_)
              refine lv_goto (tgt := 151) C.1 C.2.1 dX12_look_142 (by decide) ?_
              cases hm
              exact q_vret C h hr hlk dX12_look_151
          · have hm := ite_f c14 hm
            refine lv_aload_n C.1 C.2.1 dX12_look_117 rfl (lv_at hl 1 rfl) ?_
            obtain ⟨r18, e19, hm⟩ := bd_s hm
            refine q_callVv C h (c_lookText l D k a g N r4.1  r18 e19) (cwV 0 C.2.2.1 (gR_lookText _) rfl rfl rfl hd_lookText ⟨Nat.le_of_ble_eq_true rfl, Nat.le_of_ble_eq_true rfl⟩) rfl hl.1 rfl (Nat.le_of_ble_eq_true rfl) dX12_look_118 ⟨Nat.le_of_ble_eq_true rfl, Nat.le_of_ble_eq_true rfl⟩ (fun H locs h => ?_)
            refine lv_goto (tgt := 151) C.1 C.2.1 dX12_look_121 (by decide) ?_
            cases hm
            exact q_vret C h hr hlk dX12_look_151
        · have hm := ite_f c13 hm
          refine lv_aload_n C.1 C.2.1 dX12_look_104 rfl (lv_at hl 1 rfl) ?_
          obtain ⟨r20, e21, hm⟩ := bd_s hm
          refine q_callVv C h (c_lookNumber l D k a g N r4.1  r20 e21) (cwV 0 C.2.2.1 (gR_lookNumber _) rfl rfl rfl hd_lookNumber ⟨Nat.le_of_ble_eq_true rfl, Nat.le_of_ble_eq_true rfl⟩) rfl hl.1 rfl (Nat.le_of_ble_eq_true rfl) dX12_look_105 ⟨Nat.le_of_ble_eq_true rfl, Nat.le_of_ble_eq_true rfl⟩ (fun H locs h => ?_)
          refine lv_goto (tgt := 151) C.1 C.2.1 dX12_look_108 (by decide) ?_
          cases hm
          exact q_vret C h hr hlk dX12_look_151
      · have hm := ite_f c10 hm
        refine lv_aload_n C.1 C.2.1 dX12_look_90 rfl (lv_at hl 1 rfl) ?_
        obtain ⟨r22, e23, hm⟩ := bd_s hm
        refine q_callVv C h (c_lookName l D k a g N r4.1  r22 e23) (cwV 0 C.2.2.1 (gR_lookName _) rfl rfl rfl hd_lookName ⟨Nat.le_of_ble_eq_true rfl, Nat.le_of_ble_eq_true rfl⟩) rfl hl.1 rfl (Nat.le_of_ble_eq_true rfl) dX12_look_91 ⟨Nat.le_of_ble_eq_true rfl, Nat.le_of_ble_eq_true rfl⟩ (fun H locs h => ?_)
        refine lv_goto (tgt := 151) C.1 C.2.1 dX12_look_94 (by decide) ?_
        cases hm
        exact q_vret C h hr hlk dX12_look_151
    · have hm := ite_f c7 hm
      refine lv_aload_n C.1 C.2.1 dX12_look_75 rfl (lv_at hl 1 rfl) ?_
      refine lv_iconst (v := 1) C.1 C.2.1 dX12_look_76 (by decide) ?_
      refine fp_3 C h dX12_look_77 (fun H locs h => ?_)
      refine lv_goto (tgt := 151) C.1 C.2.1 dX12_look_80 (by decide) ?_
      cases hm
      exact q_vret C h hr hlk dX12_look_151
  · have hm := ite_f c6 hm
    refine lv_aload_n C.1 C.2.1 dX12_look_53 rfl (lv_at hl 1 rfl) ?_
    refine lv_iconst (v := 0) C.1 C.2.1 dX12_look_54 (by decide) ?_
    refine fp_3 C h dX12_look_55 (fun H locs h => ?_)
    refine lv_aload_n C.1 C.2.1 dX12_look_58 rfl (lv_at hl 1 rfl) ?_
    refine lv_aload_n C.1 C.2.1 dX12_look_59 rfl (lv_at hl 1 rfl) ?_
    refine fg_1 C h dX12_look_60 ?_
    refine x_topi (y := (gI r4.1 1)) rfl ?_
    refine fp_5 C h dX12_look_63 (fun H locs h => ?_)
    refine lv_goto (tgt := 151) C.1 C.2.1 dX12_look_66 (by decide) ?_
    cases hm
    exact q_vret C h hr hlk dX12_look_151
set_option maxHeartbeats 4000000 in
set_option maxRecDepth 100000 in
theorem lm_look_2 {r : St} (C : Cx p s m args c cX12_look RX12 (cd :: rW) D (TYs k) 4) (hr : meth.sig.returnType = none) (hlk : meth.locks = false)  (n : Nat) : ∀ {ls : Array Slot} {H : Heap} {locs : List Loc} {σ : St} {x2 : Int32}, lv_has ls 4 [(0, .ref a), (2, .int x2)] → Hp D A s.heap H locs (mW k a g σ) → f_look_2 N  n σ x2 = some r → W p l e { frames := 2, cells := 0, slots := 0, locals := 46 } s m args below meth c H locs 0 0 (MQ below (va_Qv (fun (_ : Unit) => True) (fun _ t => PostW D (TYs k) A (mW k a g r) t) A) args s 0 0 A) (F0 m 2 ls []) := by
  induction n with
  | zero => intro ls H locs σ x2 hl h hm; cases (show none = some r from hm)
  | succ n hrec2 =>
    intro ls H locs σ x2 hl h hm
    have hm : (if (gI σ 1) ≤ x2 then f_look_27 N σ x2 else grd (inb x2 2000) (if ¬ (ga σ 96 x2) = 32 then f_look_27 N σ x2 else (f_look_2 N n) σ (x2 + 1))) = some r := hm
    refine lv_iload_n C.1 C.2.1 dX12_look_2 rfl (lv_at hl 1 rfl) ?_
    refine lv_aload_n C.1 C.2.1 dX12_look_3 rfl (lv_at hl 0 rfl) ?_
    refine fg_1 C h dX12_look_4 ?_
    refine lv_icmp_ge (tgt := 27) C.1 C.2.1 dX12_look_7 (by decide) (fun c1 => ?_) (fun c1 => ?_)
    · have hm := ite_t c1 hm
      exact lm_look_27 (N := N) C hr hlk  (lv_sub hl [0, 1] rfl) h hm
    · have hm := ite_f c1 hm
      refine lv_aload_n C.1 C.2.1 dX12_look_10 rfl (lv_at hl 0 rfl) ?_
      refine fg_0 C h dX12_look_11 ?_
      refine lv_iload_n C.1 C.2.1 dX12_look_14 rfl (lv_at hl 1 rfl) ?_
      obtain ⟨g2, hm⟩ := grd_s hm
      refine al_96 C h dX12_look_15 (inb_in g2) ?_
      refine lv_bipush (v := 32) C.1 C.2.1 dX12_look_16 (by decide) ?_
      refine lv_icmp_ne (tgt := 27) C.1 C.2.1 dX12_look_18 (by decide) (fun c3 => ?_) (fun c3 => ?_)
      · have hm := ite_t c3 hm
        exact lm_look_27 (N := N) C hr hlk  (lv_sub hl [0, 1] rfl) h hm
      · have hm := ite_f c3 hm
        refine lv_iinc (v := (x2 + 1)) (lv' := [(2, .int (x2 + 1)), (0, .ref a)]) C.1 C.2.1 dX12_look_21 hl (k := 1) rfl rfl (by decide) rfl (fun ls hl => ?_)
        refine lv_goto (tgt := 2) C.1 C.2.1 dX12_look_24 (by decide) ?_
        exact hrec2 (lv_sub hl [1, 0] rfl) h hm
set_option maxHeartbeats 4000000 in
set_option maxRecDepth 100000 in
theorem c_look (l : Launch) (D : va_G) (k : Nat → ClassId) (a : Nat) (g : Nat → Nat) (N : Nat) (σ : St) (x1 : Int32) (r : St) (hm : f_look N σ x1 = some r) : Mv l yX12_look (.code yX12_look cX12_look 4 none :: rW) { frames := 2, cells := 0, slots := 0, locals := 46 } [.ref a, .int x1] D (TYs k) (mW k a g σ) (fun _ => True) Unit (fun _ => True) (fun _ => mW k a g r) 0 0 := by
  intro sz
  refine x_met (cc := cX12_look) (maxL := 4) (ret := none) (by decide) rfl (Nat.le_of_ble_eq_true rfl) ?_
  intro p e s m below meth c ls C hX hsz hr hlk hmn hl h
  have hl : lv_has ls 4 [(0, .ref a), (1, .int x1)] := hl
  have hm : (f_look_2 N N σ x1) = some r := hm
  refine lv_iload_n C.1 C.2.1 dX12_look_0 rfl (lv_at hl 1 rfl) ?_
  refine lv_istore_n (lv' := [(2, .int x1), (0, .ref a), (1, .int x1)]) C.1 C.2.1 dX12_look_1 rfl hl (by decide) rfl (fun ls hl => ?_)
  exact lm_look_2 (N := N) C hr hlk  N (lv_sub hl [1, 0] rfl) h hm
end L_look
def f_advance (N : Nat) (σ : St)  : Option St := Option.bind (f_look N σ (gI σ 5)) (fun r1 => some r1)
section L_advance
variable {p : Program} {l : Launch} {e : Env} {s : State} {m : MethodId} {args : Array Value} {below : List Frame} {meth : Method} {c : Code} {D : va_G} {A : Nat → Prop} {k : Nat → ClassId} {a : Nat} {g : Nat → Nat} {N : Nat} {cd : Cond}
set_option maxHeartbeats 4000000 in
set_option maxRecDepth 100000 in
theorem c_advance (l : Launch) (D : va_G) (k : Nat → ClassId) (a : Nat) (g : Nat → Nat) (N : Nat) (σ : St)  (r : St) (hm : f_advance N σ  = some r) : Mv l yX12_advance (.code yX12_advance cX12_advance 1 none :: rW) { frames := 3, cells := 0, slots := 0, locals := 69 } [.ref a] D (TYs k) (mW k a g σ) (fun _ => True) Unit (fun _ => True) (fun _ => mW k a g r) 0 0 := by
  intro sz
  refine x_met (cc := cX12_advance) (maxL := 1) (ret := none) (by decide) rfl (Nat.le_of_ble_eq_true rfl) ?_
  intro p e s m below meth c ls C hX hsz hr hlk hmn hl h
  have hl : lv_has ls 1 [(0, .ref a)] := hl
  have hm : (Option.bind (f_look N σ (gI σ 5)) (fun r1 => some r1)) = some r := hm
  refine lv_aload_n C.1 C.2.1 dX12_advance_0 rfl (lv_at hl 0 rfl) ?_
  refine lv_aload_n C.1 C.2.1 dX12_advance_1 rfl (lv_at hl 0 rfl) ?_
  refine fg_5 C h dX12_advance_2 ?_
  obtain ⟨r1, e2, hm⟩ := bd_s hm
  refine q_callVv C h (c_look l D k a g N σ (gI σ 5) r1 e2) (cwV 1 C.2.2.1 (gR_look _) rfl rfl rfl hd_look ⟨Nat.le_of_ble_eq_true rfl, Nat.le_of_ble_eq_true rfl⟩) rfl hl.1 rfl (Nat.le_of_ble_eq_true rfl) dX12_advance_5 ⟨Nat.le_of_ble_eq_true rfl, Nat.le_of_ble_eq_true rfl⟩ (fun H locs h => ?_)
  cases hm
  exact q_vret C h hr hlk dX12_advance_8
end L_advance
def f_isSign (N : Nat) (σ : St) (x1 : Int32) : Option (St × Int32) := if ¬ (gI σ 3) = 6 then some (σ, 0) else if ¬ (gI σ 6) = x1 then some (σ, 0) else some (σ, 1)
section L_isSign
variable {p : Program} {l : Launch} {e : Env} {s : State} {m : MethodId} {args : Array Value} {below : List Frame} {meth : Method} {c : Code} {D : va_G} {A : Nat → Prop} {k : Nat → ClassId} {a : Nat} {g : Nat → Nat} {N : Nat} {cd : Cond}
set_option maxHeartbeats 4000000 in
set_option maxRecDepth 100000 in
theorem c_isSign (l : Launch) (D : va_G) (k : Nat → ClassId) (a : Nat) (g : Nat → Nat) (N : Nat) (σ : St) (x1 : Int32) (r : St × Int32) (hm : f_isSign N σ x1 = some r) : Mi l yX12_isSign (.code yX12_isSign cX12_isSign 2 (some .boolean) :: rW) { frames := 0, cells := 0, slots := 0, locals := 0 } [.ref a, .int x1] D (TYs k) (mW k a g σ) (fun _ => True) Unit (fun v _ => v = r.2) (fun _ => mW k a g r.1) 0 0 := by
  intro sz
  refine x_met (cc := cX12_isSign) (maxL := 2) (ret := (some .boolean)) (by decide) rfl (Nat.le_of_ble_eq_true rfl) ?_
  intro p e s m below meth c ls C hX hsz hr hlk hmn hl h
  have hl : lv_has ls 2 [(0, .ref a), (1, .int x1)] := hl
  have hm : (if ¬ (gI σ 3) = 6 then some (σ, 0) else if ¬ (gI σ 6) = x1 then some (σ, 0) else some (σ, 1)) = some r := hm
  refine lv_aload_n C.1 C.2.1 dX12_isSign_0 rfl (lv_at hl 0 rfl) ?_
  refine fg_3 C h dX12_isSign_1 ?_
  refine lv_bipush (v := 6) C.1 C.2.1 dX12_isSign_4 (by decide) ?_
  refine lv_icmp_ne (tgt := 21) C.1 C.2.1 dX12_isSign_6 (by decide) (fun c1 => ?_) (fun c1 => ?_)
  · have hm := ite_t c1 hm
    refine lv_iconst (v := 0) C.1 C.2.1 dX12_isSign_21 (by decide) ?_
    cases hm
    exact q_iret C h hr hlk dX12_isSign_22 rfl
  · have hm := ite_f c1 hm
    refine lv_aload_n C.1 C.2.1 dX12_isSign_9 rfl (lv_at hl 0 rfl) ?_
    refine fg_6 C h dX12_isSign_10 ?_
    refine lv_iload_n C.1 C.2.1 dX12_isSign_13 rfl (lv_at hl 1 rfl) ?_
    refine lv_icmp_ne (tgt := 21) C.1 C.2.1 dX12_isSign_14 (by decide) (fun c2 => ?_) (fun c2 => ?_)
    · have hm := ite_t c2 hm
      refine lv_iconst (v := 0) C.1 C.2.1 dX12_isSign_21 (by decide) ?_
      cases hm
      exact q_iret C h hr hlk dX12_isSign_22 rfl
    · have hm := ite_f c2 hm
      refine lv_iconst (v := 1) C.1 C.2.1 dX12_isSign_17 (by decide) ?_
      refine lv_goto (tgt := 22) C.1 C.2.1 dX12_isSign_18 (by decide) ?_
      cases hm
      exact q_iret C h hr hlk dX12_isSign_22 rfl
end L_isSign
def f_isOpToken (N : Nat) (σ : St)  : Option (St × Int32) := if ¬ (gI σ 3) = 6 then some (σ, 0) else Option.bind (f_isOp N (gI σ 6)) (fun r2 => if r2 = 0 then some (σ, 0) else some (σ, 1))
section L_isOpToken
variable {p : Program} {l : Launch} {e : Env} {s : State} {m : MethodId} {args : Array Value} {below : List Frame} {meth : Method} {c : Code} {D : va_G} {A : Nat → Prop} {k : Nat → ClassId} {a : Nat} {g : Nat → Nat} {N : Nat} {cd : Cond}
set_option maxHeartbeats 4000000 in
set_option maxRecDepth 100000 in
theorem c_isOpToken (l : Launch) (D : va_G) (k : Nat → ClassId) (a : Nat) (g : Nat → Nat) (N : Nat) (σ : St)  (r : St × Int32) (hm : f_isOpToken N σ  = some r) : Mi l yX12_isOpToken (.code yX12_isOpToken cX12_isOpToken 1 (some .boolean) :: rW) { frames := 1, cells := 0, slots := 0, locals := 20 } [.ref a] D (TYs k) (mW k a g σ) (fun _ => True) Unit (fun v _ => v = r.2) (fun _ => mW k a g r.1) 0 0 := by
  intro sz
  refine x_met (cc := cX12_isOpToken) (maxL := 1) (ret := (some .boolean)) (by decide) rfl (Nat.le_of_ble_eq_true rfl) ?_
  intro p e s m below meth c ls C hX hsz hr hlk hmn hl h
  have hl : lv_has ls 1 [(0, .ref a)] := hl
  have hm : (if ¬ (gI σ 3) = 6 then some (σ, 0) else Option.bind (f_isOp N (gI σ 6)) (fun r2 => if r2 = 0 then some (σ, 0) else some (σ, 1))) = some r := hm
  refine lv_aload_n C.1 C.2.1 dX12_isOpToken_0 rfl (lv_at hl 0 rfl) ?_
  refine fg_3 C h dX12_isOpToken_1 ?_
  refine lv_bipush (v := 6) C.1 C.2.1 dX12_isOpToken_4 (by decide) ?_
  refine lv_icmp_ne (tgt := 23) C.1 C.2.1 dX12_isOpToken_6 (by decide) (fun c1 => ?_) (fun c1 => ?_)
  · have hm := ite_t c1 hm
    refine lv_iconst (v := 0) C.1 C.2.1 dX12_isOpToken_23 (by decide) ?_
    cases hm
    exact q_iret C h hr hlk dX12_isOpToken_24 rfl
  · have hm := ite_f c1 hm
    refine lv_aload_n C.1 C.2.1 dX12_isOpToken_9 rfl (lv_at hl 0 rfl) ?_
    refine fg_6 C h dX12_isOpToken_10 ?_
    obtain ⟨r2, e3, hm⟩ := bd_s hm
    refine q_callSi C h (c_isOp l D k N (gI σ 6) r2 e3) (cwS 1 C.2.2.1 (gR_isOp _) rfl rfl rfl hd_isOp ⟨Nat.le_of_ble_eq_true rfl, Nat.le_of_ble_eq_true rfl⟩) rfl hl.1 rfl (Nat.le_of_ble_eq_true rfl) dX12_isOpToken_13 ⟨Nat.le_of_ble_eq_true rfl, Nat.le_of_ble_eq_true rfl⟩ (fun H locs h => ?_)
    refine lv_if_eq (tgt := 23) C.1 C.2.1 dX12_isOpToken_16 (by decide) (fun c4 => ?_) (fun c4 => ?_)
    · have hm := ite_t c4 hm
      refine lv_iconst (v := 0) C.1 C.2.1 dX12_isOpToken_23 (by decide) ?_
      cases hm
      exact q_iret C h hr hlk dX12_isOpToken_24 rfl
    · have hm := ite_f c4 hm
      refine lv_iconst (v := 1) C.1 C.2.1 dX12_isOpToken_19 (by decide) ?_
      refine lv_goto (tgt := 24) C.1 C.2.1 dX12_isOpToken_20 (by decide) ?_
      cases hm
      exact q_iret C h hr hlk dX12_isOpToken_24 rfl
end L_isOpToken
def f_functionHere_65 (N : Nat) (rec6 : St → Int32 → Int32 → Int32 → Option (St × Int32)) (rec18 : St → Int32 → Int32 → Int32 → Int32 → Int32 → Option (St × Int32)) (σ : St) (x1 : Int32) (x2 : Int32) (x3 : Int32) (x4 : Int32) (s0 : Int32) : Option (St × Int32) := rec18 σ x1 x2 x3 (x4 + 1) s0
def f_functionHere_64 (N : Nat) (rec6 : St → Int32 → Int32 → Int32 → Option (St × Int32)) (rec18 : St → Int32 → Int32 → Int32 → Int32 → Int32 → Option (St × Int32)) (σ : St) (x1 : Int32) (x2 : Int32) (x3 : Int32) (x4 : Int32) : Option (St × Int32) := f_functionHere_65 N rec6 rec18 σ x1 x2 x3 x4 0
def f_functionHere_94 (N : Nat) (rec6 : St → Int32 → Int32 → Int32 → Option (St × Int32)) (σ : St) (x1 : Int32) (x2 : Int32) (x3 : Int32) (x4 : Int32) : Option (St × Int32) := rec6 σ (x1 + (x4 + 1)) x2 (x3 + 1)
def f_functionHere_18 (N : Nat) (rec6 : St → Int32 → Int32 → Int32 → Option (St × Int32)) : Nat → St → Int32 → Int32 → Int32 → Int32 → Int32 → Option (St × Int32)
  | 0, _, _, _, _, _, _ => none
  | n + 1, σ, x1, x2, x3, x4, x5 => grd (inb (x1 + x4) 113) (if (ga σ 95 (x1 + x4)) = 32 then if x5 = 0 then f_functionHere_94 N rec6 σ x1 x2 x3 x4 else if ¬ x4 = ((gI σ 5) - (gI σ 4)) then f_functionHere_94 N rec6 σ x1 x2 x3 x4 else f_functionHere_94 N rec6 σ x1 x3 x3 x4 else if x5 = 0 then f_functionHere_64 N rec6 (f_functionHere_18 N rec6 n) σ x1 x2 x3 x4 else Option.bind (f_byteAt N σ ((gI σ 4) + x4)) (fun r7 => grd (inb (x1 + x4) 113) (if ¬ r7.2 = (ga r7.1 95 (x1 + x4)) then f_functionHere_64 N rec6 (f_functionHere_18 N rec6 n) r7.1 x1 x2 x3 x4 else f_functionHere_65 N rec6 (f_functionHere_18 N rec6 n) r7.1 x1 x2 x3 x4 1)))
def f_functionHere_6 (N : Nat)  : Nat → St → Int32 → Int32 → Int32 → Option (St × Int32)
  | 0, _, _, _, _ => none
  | n + 1, σ, x1, x2, x3 => if (20 : Int32) < x3 then some (σ, x2) else f_functionHere_18 N (f_functionHere_6 N n) N σ x1 x2 x3 0 1
def f_functionHere (N : Nat) (σ : St)  : Option (St × Int32) := f_functionHere_6 N N σ 0 (-1) 0
section L_functionHere
variable {p : Program} {l : Launch} {e : Env} {s : State} {m : MethodId} {args : Array Value} {below : List Frame} {meth : Method} {c : Code} {D : va_G} {A : Nat → Prop} {k : Nat → ClassId} {a : Nat} {g : Nat → Nat} {N : Nat} {cd : Cond}
set_option maxHeartbeats 4000000 in
set_option maxRecDepth 100000 in
theorem lm_functionHere_65 {r : St × Int32} (C : Cx p s m args c cX12_functionHere RX12 (cd :: rW) D (TYs k) 6) (hr : meth.sig.returnType = (some .int)) (hlk : meth.locks = false) {rec6 : St → Int32 → Int32 → Int32 → Option (St × Int32)} (hrec6 : ∀ {ls : Array Slot} {H : Heap} {locs : List Loc} {σ : St} {x1 : Int32} {x2 : Int32} {x3 : Int32}, lv_has ls 6 [(0, .ref a), (1, .int x1), (2, .int x2), (3, .int x3)] → Hp D A s.heap H locs (mW k a g σ) → rec6 σ x1 x2 x3 = some r → W p l e { frames := 1, cells := 0, slots := 0, locals := 21 } s m args below meth c H locs 0 0 (MQ below (va_Qi (fun v (_ : Unit) => v = r.2) (fun _ t => PostW D (TYs k) A (mW k a g r.1) t) A) args s 0 0 A) (F0 m 6 ls [])) {rec18 : St → Int32 → Int32 → Int32 → Int32 → Int32 → Option (St × Int32)} (hrec18 : ∀ {ls : Array Slot} {H : Heap} {locs : List Loc} {σ : St} {x1 : Int32} {x2 : Int32} {x3 : Int32} {x4 : Int32} {x5 : Int32}, lv_has ls 6 [(0, .ref a), (1, .int x1), (2, .int x2), (3, .int x3), (4, .int x4), (5, .int x5)] → Hp D A s.heap H locs (mW k a g σ) → rec18 σ x1 x2 x3 x4 x5 = some r → W p l e { frames := 1, cells := 0, slots := 0, locals := 21 } s m args below meth c H locs 0 0 (MQ below (va_Qi (fun v (_ : Unit) => v = r.2) (fun _ t => PostW D (TYs k) A (mW k a g r.1) t) A) args s 0 0 A) (F0 m 18 ls [])) {ls : Array Slot} {H : Heap} {locs : List Loc} {σ : St} {x1 : Int32} {x2 : Int32} {x3 : Int32} {x4 : Int32} {s0 : Int32} (hl : lv_has ls 6 [(0, .ref a), (1, .int x1), (2, .int x2), (3, .int x3), (4, .int x4)]) (h : Hp D A s.heap H locs (mW k a g σ)) (hm : f_functionHere_65 N rec6 rec18 σ x1 x2 x3 x4 s0 = some r) : W p l e { frames := 1, cells := 0, slots := 0, locals := 21 } s m args below meth c H locs 0 0 (MQ below (va_Qi (fun v (_ : Unit) => v = r.2) (fun _ t => PostW D (TYs k) A (mW k a g r.1) t) A) args s 0 0 A) (F0 m 65 ls [.int s0]) := by
  have hm : (rec18 σ x1 x2 x3 (x4 + 1) s0) = some r := hm
  refine lv_istore (lv' := [(5, .int s0), (0, .ref a), (1, .int x1), (2, .int x2), (3, .int x3), (4, .int x4)]) C.1 C.2.1 dX12_functionHere_65 hl (by decide) rfl (fun ls hl => ?_)
  refine lv_iinc (v := (x4 + 1)) (lv' := [(4, .int (x4 + 1)), (5, .int s0), (0, .ref a), (1, .int x1), (2, .int x2), (3, .int x3)]) C.1 C.2.1 dX12_functionHere_67 hl (k := 5) rfl rfl (by decide) rfl (fun ls hl => ?_)
  refine lv_goto (tgt := 18) C.1 C.2.1 dX12_functionHere_70 (by decide) ?_
  exact hrec18 (lv_sub hl [2, 3, 4, 5, 0, 1] rfl) h hm
set_option maxHeartbeats 4000000 in
set_option maxRecDepth 100000 in
theorem lm_functionHere_64 {r : St × Int32} (C : Cx p s m args c cX12_functionHere RX12 (cd :: rW) D (TYs k) 6) (hr : meth.sig.returnType = (some .int)) (hlk : meth.locks = false) {rec6 : St → Int32 → Int32 → Int32 → Option (St × Int32)} (hrec6 : ∀ {ls : Array Slot} {H : Heap} {locs : List Loc} {σ : St} {x1 : Int32} {x2 : Int32} {x3 : Int32}, lv_has ls 6 [(0, .ref a), (1, .int x1), (2, .int x2), (3, .int x3)] → Hp D A s.heap H locs (mW k a g σ) → rec6 σ x1 x2 x3 = some r → W p l e { frames := 1, cells := 0, slots := 0, locals := 21 } s m args below meth c H locs 0 0 (MQ below (va_Qi (fun v (_ : Unit) => v = r.2) (fun _ t => PostW D (TYs k) A (mW k a g r.1) t) A) args s 0 0 A) (F0 m 6 ls [])) {rec18 : St → Int32 → Int32 → Int32 → Int32 → Int32 → Option (St × Int32)} (hrec18 : ∀ {ls : Array Slot} {H : Heap} {locs : List Loc} {σ : St} {x1 : Int32} {x2 : Int32} {x3 : Int32} {x4 : Int32} {x5 : Int32}, lv_has ls 6 [(0, .ref a), (1, .int x1), (2, .int x2), (3, .int x3), (4, .int x4), (5, .int x5)] → Hp D A s.heap H locs (mW k a g σ) → rec18 σ x1 x2 x3 x4 x5 = some r → W p l e { frames := 1, cells := 0, slots := 0, locals := 21 } s m args below meth c H locs 0 0 (MQ below (va_Qi (fun v (_ : Unit) => v = r.2) (fun _ t => PostW D (TYs k) A (mW k a g r.1) t) A) args s 0 0 A) (F0 m 18 ls [])) {ls : Array Slot} {H : Heap} {locs : List Loc} {σ : St} {x1 : Int32} {x2 : Int32} {x3 : Int32} {x4 : Int32} (hl : lv_has ls 6 [(0, .ref a), (1, .int x1), (2, .int x2), (3, .int x3), (4, .int x4)]) (h : Hp D A s.heap H locs (mW k a g σ)) (hm : f_functionHere_64 N rec6 rec18 σ x1 x2 x3 x4 = some r) : W p l e { frames := 1, cells := 0, slots := 0, locals := 21 } s m args below meth c H locs 0 0 (MQ below (va_Qi (fun v (_ : Unit) => v = r.2) (fun _ t => PostW D (TYs k) A (mW k a g r.1) t) A) args s 0 0 A) (F0 m 64 ls []) := by
  have hm : (f_functionHere_65 N rec6 rec18 σ x1 x2 x3 x4 0) = some r := hm
  refine lv_iconst (v := 0) C.1 C.2.1 dX12_functionHere_64 (by decide) ?_
  exact lm_functionHere_65 (N := N) C hr hlk hrec6 hrec18 (lv_sub hl [0, 1, 2, 3, 4] rfl) h hm
set_option maxHeartbeats 4000000 in
set_option maxRecDepth 100000 in
theorem lm_functionHere_94 {r : St × Int32} (C : Cx p s m args c cX12_functionHere RX12 (cd :: rW) D (TYs k) 6) (hr : meth.sig.returnType = (some .int)) (hlk : meth.locks = false) {rec6 : St → Int32 → Int32 → Int32 → Option (St × Int32)} (hrec6 : ∀ {ls : Array Slot} {H : Heap} {locs : List Loc} {σ : St} {x1 : Int32} {x2 : Int32} {x3 : Int32}, lv_has ls 6 [(0, .ref a), (1, .int x1), (2, .int x2), (3, .int x3)] → Hp D A s.heap H locs (mW k a g σ) → rec6 σ x1 x2 x3 = some r → W p l e { frames := 1, cells := 0, slots := 0, locals := 21 } s m args below meth c H locs 0 0 (MQ below (va_Qi (fun v (_ : Unit) => v = r.2) (fun _ t => PostW D (TYs k) A (mW k a g r.1) t) A) args s 0 0 A) (F0 m 6 ls [])) {ls : Array Slot} {H : Heap} {locs : List Loc} {σ : St} {x1 : Int32} {x2 : Int32} {x3 : Int32} {x4 : Int32} (hl : lv_has ls 6 [(0, .ref a), (1, .int x1), (2, .int x2), (3, .int x3), (4, .int x4)]) (h : Hp D A s.heap H locs (mW k a g σ)) (hm : f_functionHere_94 N rec6 σ x1 x2 x3 x4 = some r) : W p l e { frames := 1, cells := 0, slots := 0, locals := 21 } s m args below meth c H locs 0 0 (MQ below (va_Qi (fun v (_ : Unit) => v = r.2) (fun _ t => PostW D (TYs k) A (mW k a g r.1) t) A) args s 0 0 A) (F0 m 94 ls []) := by
  have hm : (rec6 σ (x1 + (x4 + 1)) x2 (x3 + 1)) = some r := hm
  refine lv_iload_n C.1 C.2.1 dX12_functionHere_94 rfl (lv_at hl 1 rfl) ?_
  refine lv_iload C.1 C.2.1 dX12_functionHere_95 (lv_at hl 4 rfl) ?_
  refine lv_iconst (v := 1) C.1 C.2.1 dX12_functionHere_97 (by decide) ?_
  refine lv_iadd C.1 C.2.1 dX12_functionHere_98 ?_
  refine lv_iadd C.1 C.2.1 dX12_functionHere_99 ?_
  refine lv_istore_n (lv' := [(1, .int (x1 + (x4 + 1))), (0, .ref a), (2, .int x2), (3, .int x3), (4, .int x4)]) C.1 C.2.1 dX12_functionHere_100 rfl hl (by decide) rfl (fun ls hl => ?_)
  refine lv_iinc (v := (x3 + 1)) (lv' := [(3, .int (x3 + 1)), (1, .int (x1 + (x4 + 1))), (0, .ref a), (2, .int x2), (4, .int x4)]) C.1 C.2.1 dX12_functionHere_101 hl (k := 3) rfl rfl (by decide) rfl (fun ls hl => ?_)
  refine lv_goto (tgt := 6) C.1 C.2.1 dX12_functionHere_104 (by decide) ?_
  exact hrec6 (lv_sub hl [2, 1, 3, 0] rfl) h hm
set_option maxHeartbeats 4000000 in
set_option maxRecDepth 100000 in
theorem lm_functionHere_18 {r : St × Int32} (C : Cx p s m args c cX12_functionHere RX12 (cd :: rW) D (TYs k) 6) (hr : meth.sig.returnType = (some .int)) (hlk : meth.locks = false) {rec6 : St → Int32 → Int32 → Int32 → Option (St × Int32)} (hrec6 : ∀ {ls : Array Slot} {H : Heap} {locs : List Loc} {σ : St} {x1 : Int32} {x2 : Int32} {x3 : Int32}, lv_has ls 6 [(0, .ref a), (1, .int x1), (2, .int x2), (3, .int x3)] → Hp D A s.heap H locs (mW k a g σ) → rec6 σ x1 x2 x3 = some r → W p l e { frames := 1, cells := 0, slots := 0, locals := 21 } s m args below meth c H locs 0 0 (MQ below (va_Qi (fun v (_ : Unit) => v = r.2) (fun _ t => PostW D (TYs k) A (mW k a g r.1) t) A) args s 0 0 A) (F0 m 6 ls [])) (n : Nat) : ∀ {ls : Array Slot} {H : Heap} {locs : List Loc} {σ : St} {x1 : Int32} {x2 : Int32} {x3 : Int32} {x4 : Int32} {x5 : Int32}, lv_has ls 6 [(0, .ref a), (1, .int x1), (2, .int x2), (3, .int x3), (4, .int x4), (5, .int x5)] → Hp D A s.heap H locs (mW k a g σ) → f_functionHere_18 N rec6 n σ x1 x2 x3 x4 x5 = some r → W p l e { frames := 1, cells := 0, slots := 0, locals := 21 } s m args below meth c H locs 0 0 (MQ below (va_Qi (fun v (_ : Unit) => v = r.2) (fun _ t => PostW D (TYs k) A (mW k a g r.1) t) A) args s 0 0 A) (F0 m 18 ls []) := by
  induction n with
  | zero => intro ls H locs σ x1 x2 x3 x4 x5 hl h hm; cases (show none = some r from hm)
  | succ n hrec18 =>
    intro ls H locs σ x1 x2 x3 x4 x5 hl h hm
    have hm : (grd (inb (x1 + x4) 113) (if (ga σ 95 (x1 + x4)) = 32 then if x5 = 0 then f_functionHere_94 N rec6 σ x1 x2 x3 x4 else if ¬ x4 = ((gI σ 5) - (gI σ 4)) then f_functionHere_94 N rec6 σ x1 x2 x3 x4 else f_functionHere_94 N rec6 σ x1 x3 x3 x4 else if x5 = 0 then f_functionHere_64 N rec6 (f_functionHere_18 N rec6 n) σ x1 x2 x3 x4 else Option.bind (f_byteAt N σ ((gI σ 4) + x4)) (fun r7 => grd (inb (x1 + x4) 113) (if ¬ r7.2 = (ga r7.1 95 (x1 + x4)) then f_functionHere_64 N rec6 (f_functionHere_18 N rec6 n) r7.1 x1 x2 x3 x4 else f_functionHere_65 N rec6 (f_functionHere_18 N rec6 n) r7.1 x1 x2 x3 x4 1)))) = some r := hm
    refine lv_aload_n C.1 C.2.1 dX12_functionHere_18 rfl (lv_at hl 0 rfl) ?_
    refine fg_14 C h dX12_functionHere_19 ?_
    refine lv_iload_n C.1 C.2.1 dX12_functionHere_22 rfl (lv_at hl 1 rfl) ?_
    refine lv_iload C.1 C.2.1 dX12_functionHere_23 (lv_at hl 4 rfl) ?_
    refine lv_iadd C.1 C.2.1 dX12_functionHere_25 ?_
    obtain ⟨g2, hm⟩ := grd_s hm
    refine al_95 C h dX12_functionHere_26 (inb_in g2) ?_
    refine lv_bipush (v := 32) C.1 C.2.1 dX12_functionHere_27 (by decide) ?_
    refine lv_icmp_eq (tgt := 73) C.1 C.2.1 dX12_functionHere_29 (by decide) (fun c3 => ?_) (fun c3 => ?_)
    · have hm := ite_t c3 hm
      refine lv_iload C.1 C.2.1 dX12_functionHere_73 (lv_at hl 5 rfl) ?_
      refine lv_if_eq (tgt := 94) C.1 C.2.1 dX12_functionHere_75 (by decide) (fun c4 => ?_) (fun c4 => ?_)
      · have hm := ite_t c4 hm
        exact lm_functionHere_94 (N := N) C hr hlk hrec6 (lv_sub hl [0, 1, 2, 3, 4] rfl) h hm
      · have hm := ite_f c4 hm
        refine lv_iload C.1 C.2.1 dX12_functionHere_78 (lv_at hl 4 rfl) ?_
        refine lv_aload_n C.1 C.2.1 dX12_functionHere_80 rfl (lv_at hl 0 rfl) ?_
        refine fg_5 C h dX12_functionHere_81 ?_
        refine lv_aload_n C.1 C.2.1 dX12_functionHere_84 rfl (lv_at hl 0 rfl) ?_
        refine fg_4 C h dX12_functionHere_85 ?_
        refine lv_isub C.1 C.2.1 dX12_functionHere_88 ?_
        refine lv_icmp_ne (tgt := 94) C.1 C.2.1 dX12_functionHere_89 (by decide) (fun c5 => ?_) (fun c5 => ?_)
        · have hm := ite_t c5 hm
          exact lm_functionHere_94 (N := N) C hr hlk hrec6 (lv_sub hl [0, 1, 2, 3, 4] rfl) h hm
        · have hm := ite_f c5 hm
          refine lv_iload_n C.1 C.2.1 dX12_functionHere_92 rfl (lv_at hl 3 rfl) ?_
          refine lv_istore_n (lv' := [(2, .int x3), (0, .ref a), (1, .int x1), (3, .int x3), (4, .int x4), (5, .int x5)]) C.1 C.2.1 dX12_functionHere_93 rfl hl (by decide) rfl (fun ls hl => ?_)
          exact lm_functionHere_94 (N := N) C hr hlk hrec6 (lv_sub hl [1, 2, 0, 3, 4] rfl) h hm
    · have hm := ite_f c3 hm
      refine lv_iload C.1 C.2.1 dX12_functionHere_32 (lv_at hl 5 rfl) ?_
      refine lv_if_eq (tgt := 64) C.1 C.2.1 dX12_functionHere_34 (by decide) (fun c6 => ?_) (fun c6 => ?_)
      · have hm := ite_t c6 hm
        exact lm_functionHere_64 (N := N) C hr hlk hrec6 hrec18 (lv_sub hl [0, 1, 2, 3, 4] rfl) h hm
      · have hm := ite_f c6 hm
        refine lv_aload_n C.1 C.2.1 dX12_functionHere_37 rfl (lv_at hl 0 rfl) ?_
        refine lv_aload_n C.1 C.2.1 dX12_functionHere_38 rfl (lv_at hl 0 rfl) ?_
        refine fg_4 C h dX12_functionHere_39 ?_
        refine lv_iload C.1 C.2.1 dX12_functionHere_42 (lv_at hl 4 rfl) ?_
        refine lv_iadd C.1 C.2.1 dX12_functionHere_44 ?_
        obtain ⟨r7, e8, hm⟩ := bd_s hm
        refine q_callVi C h (c_byteAt l D k a g N σ ((gI σ 4) + x4) r7 e8) (cwV 1 C.2.2.1 (gR_byteAt _) rfl rfl rfl hd_byteAt ⟨Nat.le_of_ble_eq_true rfl, Nat.le_of_ble_eq_true rfl⟩) rfl hl.1 rfl (Nat.le_of_ble_eq_true rfl) dX12_functionHere_45 ⟨Nat.le_of_ble_eq_true rfl, Nat.le_of_ble_eq_true rfl⟩ (fun H locs h => ?_)
        refine lv_aload_n C.1 C.2.1 dX12_functionHere_48 rfl (lv_at hl 0 rfl) ?_
        refine fg_14 C h dX12_functionHere_49 ?_
        refine lv_iload_n C.1 C.2.1 dX12_functionHere_52 rfl (lv_at hl 1 rfl) ?_
        refine lv_iload C.1 C.2.1 dX12_functionHere_53 (lv_at hl 4 rfl) ?_
        refine lv_iadd C.1 C.2.1 dX12_functionHere_55 ?_
        obtain ⟨g9, hm⟩ := grd_s hm
        refine al_95 C h dX12_functionHere_56 (inb_in g9) ?_
        refine lv_icmp_ne (tgt := 64) C.1 C.2.1 dX12_functionHere_57 (by decide) (fun c10 => ?_) (fun c10 => ?_)
        · have hm := ite_t c10 hm
          exact lm_functionHere_64 (N := N) C hr hlk hrec6 hrec18 (lv_sub hl [0, 1, 2, 3, 4] rfl) h hm
        · have hm := ite_f c10 hm
          refine lv_iconst (v := 1) C.1 C.2.1 dX12_functionHere_60 (by decide) ?_
          refine lv_goto (tgt := 65) C.1 C.2.1 dX12_functionHere_61 (by decide) ?_
          exact lm_functionHere_65 (N := N) C hr hlk hrec6 hrec18 (lv_sub hl [0, 1, 2, 3, 4] rfl) h hm
set_option maxHeartbeats 4000000 in
set_option maxRecDepth 100000 in
theorem lm_functionHere_6 {r : St × Int32} (C : Cx p s m args c cX12_functionHere RX12 (cd :: rW) D (TYs k) 6) (hr : meth.sig.returnType = (some .int)) (hlk : meth.locks = false)  (n : Nat) : ∀ {ls : Array Slot} {H : Heap} {locs : List Loc} {σ : St} {x1 : Int32} {x2 : Int32} {x3 : Int32}, lv_has ls 6 [(0, .ref a), (1, .int x1), (2, .int x2), (3, .int x3)] → Hp D A s.heap H locs (mW k a g σ) → f_functionHere_6 N  n σ x1 x2 x3 = some r → W p l e { frames := 1, cells := 0, slots := 0, locals := 21 } s m args below meth c H locs 0 0 (MQ below (va_Qi (fun v (_ : Unit) => v = r.2) (fun _ t => PostW D (TYs k) A (mW k a g r.1) t) A) args s 0 0 A) (F0 m 6 ls []) := by
  induction n with
  | zero => intro ls H locs σ x1 x2 x3 hl h hm; cases (show none = some r from hm)
  | succ n hrec6 =>
    intro ls H locs σ x1 x2 x3 hl h hm
    have hm : (if (20 : Int32) < x3 then some (σ, x2) else f_functionHere_18 N (f_functionHere_6 N n) N σ x1 x2 x3 0 1) = some r := hm
    refine lv_iload_n C.1 C.2.1 dX12_functionHere_6 rfl (lv_at hl 3 rfl) ?_
    refine lv_bipush (v := 20) C.1 C.2.1 dX12_functionHere_7 (by decide) ?_
    refine lv_icmp_gt (tgt := 107) C.1 C.2.1 dX12_functionHere_9 (by decide) (fun c1 => ?_) (fun c1 => ?_)
    · have hm := ite_t c1 hm
      refine lv_iload_n C.1 C.2.1 dX12_functionHere_107 rfl (lv_at hl 2 rfl) ?_
      cases hm
      exact q_iret C h hr hlk dX12_functionHere_108 rfl
    · have hm := ite_f c1 hm
      refine lv_iconst (v := 0) C.1 C.2.1 dX12_functionHere_12 (by decide) ?_
      refine lv_istore (lv' := [(4, .int 0), (0, .ref a), (1, .int x1), (2, .int x2), (3, .int x3)]) C.1 C.2.1 dX12_functionHere_13 hl (by decide) rfl (fun ls hl => ?_)
      refine lv_iconst (v := 1) C.1 C.2.1 dX12_functionHere_15 (by decide) ?_
      refine lv_istore (lv' := [(5, .int 1), (4, .int 0), (0, .ref a), (1, .int x1), (2, .int x2), (3, .int x3)]) C.1 C.2.1 dX12_functionHere_16 hl (by decide) rfl (fun ls hl => ?_)
      exact lm_functionHere_18 (N := N) C hr hlk hrec6 N (lv_sub hl [2, 3, 4, 5, 1, 0] rfl) h hm
set_option maxHeartbeats 4000000 in
set_option maxRecDepth 100000 in
theorem c_functionHere (l : Launch) (D : va_G) (k : Nat → ClassId) (a : Nat) (g : Nat → Nat) (N : Nat) (σ : St)  (r : St × Int32) (hm : f_functionHere N σ  = some r) : Mi l yX12_functionHere (.code yX12_functionHere cX12_functionHere 6 (some .int) :: rW) { frames := 1, cells := 0, slots := 0, locals := 21 } [.ref a] D (TYs k) (mW k a g σ) (fun _ => True) Unit (fun v _ => v = r.2) (fun _ => mW k a g r.1) 0 0 := by
  intro sz
  refine x_met (cc := cX12_functionHere) (maxL := 6) (ret := (some .int)) (by decide) rfl (Nat.le_of_ble_eq_true rfl) ?_
  intro p e s m below meth c ls C hX hsz hr hlk hmn hl h
  have hl : lv_has ls 6 [(0, .ref a)] := hl
  have hm : (f_functionHere_6 N N σ 0 (-1) 0) = some r := hm
  refine lv_iconst (v := 0) C.1 C.2.1 dX12_functionHere_0 (by decide) ?_
  refine lv_istore_n (lv' := [(1, .int 0), (0, .ref a)]) C.1 C.2.1 dX12_functionHere_1 rfl hl (by decide) rfl (fun ls hl => ?_)
  refine lv_iconst (v := (-1)) C.1 C.2.1 dX12_functionHere_2 (by decide) ?_
  refine lv_istore_n (lv' := [(2, .int (-1)), (1, .int 0), (0, .ref a)]) C.1 C.2.1 dX12_functionHere_3 rfl hl (by decide) rfl (fun ls hl => ?_)
  refine lv_iconst (v := 0) C.1 C.2.1 dX12_functionHere_4 (by decide) ?_
  refine lv_istore_n (lv' := [(3, .int 0), (2, .int (-1)), (1, .int 0), (0, .ref a)]) C.1 C.2.1 dX12_functionHere_5 rfl hl (by decide) rfl (fun ls hl => ?_)
  exact lm_functionHere_6 (N := N) C hr hlk  N (lv_sub hl [3, 2, 1, 0] rfl) h hm
end L_functionHere
def f_paramHere_40 (N : Nat) (rec2 : St → Int32 → Option (St × Int32)) (σ : St) (x1 : Int32) : Option (St × Int32) := rec2 σ (x1 + 1)
def f_paramHere_2 (N : Nat)  : Nat → St → Int32 → Option (St × Int32)
  | 0, _, _ => none
  | n + 1, σ, x1 => if (gI σ 38) ≤ x1 then some (σ, (-1)) else grd (inb x1 4) (if ¬ (lg_cmp (gl σ 75 x1) (gJ σ 7)) = 0 then f_paramHere_40 N (f_paramHere_2 N n) σ x1 else grd (inb x1 4) (if ¬ (lg_cmp (gl σ 74 x1) (gJ σ 8)) = 0 then f_paramHere_40 N (f_paramHere_2 N n) σ x1 else some (σ, x1)))
def f_paramHere (N : Nat) (σ : St)  : Option (St × Int32) := f_paramHere_2 N N σ 0
section L_paramHere
variable {p : Program} {l : Launch} {e : Env} {s : State} {m : MethodId} {args : Array Value} {below : List Frame} {meth : Method} {c : Code} {D : va_G} {A : Nat → Prop} {k : Nat → ClassId} {a : Nat} {g : Nat → Nat} {N : Nat} {cd : Cond}
set_option maxHeartbeats 4000000 in
set_option maxRecDepth 100000 in
theorem lm_paramHere_40 {r : St × Int32} (C : Cx p s m args c cX12_paramHere RX12 (cd :: rW) D (TYs k) 2) (hr : meth.sig.returnType = (some .int)) (hlk : meth.locks = false) {rec2 : St → Int32 → Option (St × Int32)} (hrec2 : ∀ {ls : Array Slot} {H : Heap} {locs : List Loc} {σ : St} {x1 : Int32}, lv_has ls 2 [(0, .ref a), (1, .int x1)] → Hp D A s.heap H locs (mW k a g σ) → rec2 σ x1 = some r → W p l e { frames := 0, cells := 0, slots := 0, locals := 0 } s m args below meth c H locs 0 0 (MQ below (va_Qi (fun v (_ : Unit) => v = r.2) (fun _ t => PostW D (TYs k) A (mW k a g r.1) t) A) args s 0 0 A) (F0 m 2 ls [])) {ls : Array Slot} {H : Heap} {locs : List Loc} {σ : St} {x1 : Int32} (hl : lv_has ls 2 [(0, .ref a), (1, .int x1)]) (h : Hp D A s.heap H locs (mW k a g σ)) (hm : f_paramHere_40 N rec2 σ x1 = some r) : W p l e { frames := 0, cells := 0, slots := 0, locals := 0 } s m args below meth c H locs 0 0 (MQ below (va_Qi (fun v (_ : Unit) => v = r.2) (fun _ t => PostW D (TYs k) A (mW k a g r.1) t) A) args s 0 0 A) (F0 m 40 ls []) := by
  have hm : (rec2 σ (x1 + 1)) = some r := hm
  refine lv_iinc (v := (x1 + 1)) (lv' := [(1, .int (x1 + 1)), (0, .ref a)]) C.1 C.2.1 dX12_paramHere_40 hl (k := 1) rfl rfl (by decide) rfl (fun ls hl => ?_)
  refine lv_goto (tgt := 2) C.1 C.2.1 dX12_paramHere_43 (by decide) ?_
  exact hrec2 (lv_sub hl [1, 0] rfl) h hm
set_option maxHeartbeats 4000000 in
set_option maxRecDepth 100000 in
theorem lm_paramHere_2 {r : St × Int32} (C : Cx p s m args c cX12_paramHere RX12 (cd :: rW) D (TYs k) 2) (hr : meth.sig.returnType = (some .int)) (hlk : meth.locks = false)  (n : Nat) : ∀ {ls : Array Slot} {H : Heap} {locs : List Loc} {σ : St} {x1 : Int32}, lv_has ls 2 [(0, .ref a), (1, .int x1)] → Hp D A s.heap H locs (mW k a g σ) → f_paramHere_2 N  n σ x1 = some r → W p l e { frames := 0, cells := 0, slots := 0, locals := 0 } s m args below meth c H locs 0 0 (MQ below (va_Qi (fun v (_ : Unit) => v = r.2) (fun _ t => PostW D (TYs k) A (mW k a g r.1) t) A) args s 0 0 A) (F0 m 2 ls []) := by
  induction n with
  | zero => intro ls H locs σ x1 hl h hm; cases (show none = some r from hm)
  | succ n hrec2 =>
    intro ls H locs σ x1 hl h hm
    have hm : (if (gI σ 38) ≤ x1 then some (σ, (-1)) else grd (inb x1 4) (if ¬ (lg_cmp (gl σ 75 x1) (gJ σ 7)) = 0 then f_paramHere_40 N (f_paramHere_2 N n) σ x1 else grd (inb x1 4) (if ¬ (lg_cmp (gl σ 74 x1) (gJ σ 8)) = 0 then f_paramHere_40 N (f_paramHere_2 N n) σ x1 else some (σ, x1)))) = some r := hm
    refine lv_iload_n C.1 C.2.1 dX12_paramHere_2 rfl (lv_at hl 1 rfl) ?_
    refine lv_aload_n C.1 C.2.1 dX12_paramHere_3 rfl (lv_at hl 0 rfl) ?_
    refine fg_38 C h dX12_paramHere_4 ?_
    refine lv_icmp_ge (tgt := 46) C.1 C.2.1 dX12_paramHere_7 (by decide) (fun c1 => ?_) (fun c1 => ?_)
    · have hm := ite_t c1 hm
      refine lv_iconst (v := (-1)) C.1 C.2.1 dX12_paramHere_46 (by decide) ?_
      cases hm
      exact q_iret C h hr hlk dX12_paramHere_47 rfl
    · have hm := ite_f c1 hm
      refine lv_aload_n C.1 C.2.1 dX12_paramHere_10 rfl (lv_at hl 0 rfl) ?_
      refine fg_39 C h dX12_paramHere_11 ?_
      refine lv_iload_n C.1 C.2.1 dX12_paramHere_14 rfl (lv_at hl 1 rfl) ?_
      obtain ⟨g2, hm⟩ := grd_s hm
      refine al_75 C h dX12_paramHere_15 (inb_in g2) ?_
      refine lv_aload_n C.1 C.2.1 dX12_paramHere_16 rfl (lv_at hl 0 rfl) ?_
      refine fg_7 C h dX12_paramHere_17 ?_
      refine W.lcmp C.1 C.2.1 dX12_paramHere_20 ?_
      refine lv_if_ne (tgt := 40) C.1 C.2.1 dX12_paramHere_21 (by decide) (fun c3 => ?_) (fun c3 => ?_)
      · have hm := ite_t c3 hm
        exact lm_paramHere_40 (N := N) C hr hlk hrec2 (lv_sub hl [0, 1] rfl) h hm
      · have hm := ite_f c3 hm
        refine lv_aload_n C.1 C.2.1 dX12_paramHere_24 rfl (lv_at hl 0 rfl) ?_
        refine fg_40 C h dX12_paramHere_25 ?_
        refine lv_iload_n C.1 C.2.1 dX12_paramHere_28 rfl (lv_at hl 1 rfl) ?_
        obtain ⟨g4, hm⟩ := grd_s hm
        refine al_74 C h dX12_paramHere_29 (inb_in g4) ?_
        refine lv_aload_n C.1 C.2.1 dX12_paramHere_30 rfl (lv_at hl 0 rfl) ?_
        refine fg_8 C h dX12_paramHere_31 ?_
        refine W.lcmp C.1 C.2.1 dX12_paramHere_34 ?_
        refine lv_if_ne (tgt := 40) C.1 C.2.1 dX12_paramHere_35 (by decide) (fun c5 => ?_) (fun c5 => ?_)
        · have hm := ite_t c5 hm
          exact lm_paramHere_40 (N := N) C hr hlk hrec2 (lv_sub hl [0, 1] rfl) h hm
        · have hm := ite_f c5 hm
          refine lv_iload_n C.1 C.2.1 dX12_paramHere_38 rfl (lv_at hl 1 rfl) ?_
          cases hm
          exact q_iret C h hr hlk dX12_paramHere_39 rfl
set_option maxHeartbeats 4000000 in
set_option maxRecDepth 100000 in
theorem c_paramHere (l : Launch) (D : va_G) (k : Nat → ClassId) (a : Nat) (g : Nat → Nat) (N : Nat) (σ : St)  (r : St × Int32) (hm : f_paramHere N σ  = some r) : Mi l yX12_paramHere (.code yX12_paramHere cX12_paramHere 2 (some .int) :: rW) { frames := 0, cells := 0, slots := 0, locals := 0 } [.ref a] D (TYs k) (mW k a g σ) (fun _ => True) Unit (fun v _ => v = r.2) (fun _ => mW k a g r.1) 0 0 := by
  intro sz
  refine x_met (cc := cX12_paramHere) (maxL := 2) (ret := (some .int)) (by decide) rfl (Nat.le_of_ble_eq_true rfl) ?_
  intro p e s m below meth c ls C hX hsz hr hlk hmn hl h
  have hl : lv_has ls 2 [(0, .ref a)] := hl
  have hm : (f_paramHere_2 N N σ 0) = some r := hm
  refine lv_iconst (v := 0) C.1 C.2.1 dX12_paramHere_0 (by decide) ?_
  refine lv_istore_n (lv' := [(1, .int 0), (0, .ref a)]) C.1 C.2.1 dX12_paramHere_1 rfl hl (by decide) rfl (fun ls hl => ?_)
  exact lm_paramHere_2 (N := N) C hr hlk  N (lv_sub hl [1, 0] rfl) h hm
end L_paramHere
def f_definitionHere_55 (N : Nat) (rec2 : St → Int32 → Option (St × Int32)) (σ : St) (x1 : Int32) : Option (St × Int32) := rec2 σ (x1 + 1)
def f_definitionHere_2 (N : Nat)  : Nat → St → Int32 → Option (St × Int32)
  | 0, _, _ => none
  | n + 1, σ, x1 => if (gI σ 36) ≤ x1 then some (σ, (-1)) else grd (inb x1 700) (grd (inb (ga σ 76 x1) 6000) (if ¬ (lg_cmp (gl σ 82 (ga σ 76 x1)) (gJ σ 7)) = 0 then f_definitionHere_55 N (f_definitionHere_2 N n) σ x1 else grd (inb x1 700) (grd (inb (ga σ 76 x1) 6000) (if ¬ (lg_cmp (gl σ 81 (ga σ 76 x1)) (gJ σ 8)) = 0 then f_definitionHere_55 N (f_definitionHere_2 N n) σ x1 else grd (inb x1 700) (some (σ, (ga σ 76 x1)))))))
def f_definitionHere (N : Nat) (σ : St)  : Option (St × Int32) := f_definitionHere_2 N N σ 0
section L_definitionHere
variable {p : Program} {l : Launch} {e : Env} {s : State} {m : MethodId} {args : Array Value} {below : List Frame} {meth : Method} {c : Code} {D : va_G} {A : Nat → Prop} {k : Nat → ClassId} {a : Nat} {g : Nat → Nat} {N : Nat} {cd : Cond}
set_option maxHeartbeats 4000000 in
set_option maxRecDepth 100000 in
theorem lm_definitionHere_55 {r : St × Int32} (C : Cx p s m args c cX12_definitionHere RX12 (cd :: rW) D (TYs k) 2) (hr : meth.sig.returnType = (some .int)) (hlk : meth.locks = false) {rec2 : St → Int32 → Option (St × Int32)} (hrec2 : ∀ {ls : Array Slot} {H : Heap} {locs : List Loc} {σ : St} {x1 : Int32}, lv_has ls 2 [(0, .ref a), (1, .int x1)] → Hp D A s.heap H locs (mW k a g σ) → rec2 σ x1 = some r → W p l e { frames := 0, cells := 0, slots := 0, locals := 0 } s m args below meth c H locs 0 0 (MQ below (va_Qi (fun v (_ : Unit) => v = r.2) (fun _ t => PostW D (TYs k) A (mW k a g r.1) t) A) args s 0 0 A) (F0 m 2 ls [])) {ls : Array Slot} {H : Heap} {locs : List Loc} {σ : St} {x1 : Int32} (hl : lv_has ls 2 [(0, .ref a), (1, .int x1)]) (h : Hp D A s.heap H locs (mW k a g σ)) (hm : f_definitionHere_55 N rec2 σ x1 = some r) : W p l e { frames := 0, cells := 0, slots := 0, locals := 0 } s m args below meth c H locs 0 0 (MQ below (va_Qi (fun v (_ : Unit) => v = r.2) (fun _ t => PostW D (TYs k) A (mW k a g r.1) t) A) args s 0 0 A) (F0 m 55 ls []) := by
  have hm : (rec2 σ (x1 + 1)) = some r := hm
  refine lv_iinc (v := (x1 + 1)) (lv' := [(1, .int (x1 + 1)), (0, .ref a)]) C.1 C.2.1 dX12_definitionHere_55 hl (k := 1) rfl rfl (by decide) rfl (fun ls hl => ?_)
  refine lv_goto (tgt := 2) C.1 C.2.1 dX12_definitionHere_58 (by decide) ?_
  exact hrec2 (lv_sub hl [1, 0] rfl) h hm
set_option maxHeartbeats 4000000 in
set_option maxRecDepth 100000 in
theorem lm_definitionHere_2 {r : St × Int32} (C : Cx p s m args c cX12_definitionHere RX12 (cd :: rW) D (TYs k) 2) (hr : meth.sig.returnType = (some .int)) (hlk : meth.locks = false)  (n : Nat) : ∀ {ls : Array Slot} {H : Heap} {locs : List Loc} {σ : St} {x1 : Int32}, lv_has ls 2 [(0, .ref a), (1, .int x1)] → Hp D A s.heap H locs (mW k a g σ) → f_definitionHere_2 N  n σ x1 = some r → W p l e { frames := 0, cells := 0, slots := 0, locals := 0 } s m args below meth c H locs 0 0 (MQ below (va_Qi (fun v (_ : Unit) => v = r.2) (fun _ t => PostW D (TYs k) A (mW k a g r.1) t) A) args s 0 0 A) (F0 m 2 ls []) := by
  induction n with
  | zero => intro ls H locs σ x1 hl h hm; cases (show none = some r from hm)
  | succ n hrec2 =>
    intro ls H locs σ x1 hl h hm
    have hm : (if (gI σ 36) ≤ x1 then some (σ, (-1)) else grd (inb x1 700) (grd (inb (ga σ 76 x1) 6000) (if ¬ (lg_cmp (gl σ 82 (ga σ 76 x1)) (gJ σ 7)) = 0 then f_definitionHere_55 N (f_definitionHere_2 N n) σ x1 else grd (inb x1 700) (grd (inb (ga σ 76 x1) 6000) (if ¬ (lg_cmp (gl σ 81 (ga σ 76 x1)) (gJ σ 8)) = 0 then f_definitionHere_55 N (f_definitionHere_2 N n) σ x1 else grd (inb x1 700) (some (σ, (ga σ 76 x1)))))))) = some r := hm
    refine lv_iload_n C.1 C.2.1 dX12_definitionHere_2 rfl (lv_at hl 1 rfl) ?_
    refine lv_aload_n C.1 C.2.1 dX12_definitionHere_3 rfl (lv_at hl 0 rfl) ?_
    refine fg_36 C h dX12_definitionHere_4 ?_
    refine lv_icmp_ge (tgt := 61) C.1 C.2.1 dX12_definitionHere_7 (by decide) (fun c1 => ?_) (fun c1 => ?_)
    · have hm := ite_t c1 hm
      refine lv_iconst (v := (-1)) C.1 C.2.1 dX12_definitionHere_61 (by decide) ?_
      cases hm
      exact q_iret C h hr hlk dX12_definitionHere_62 rfl
    · have hm := ite_f c1 hm
      refine lv_aload_n C.1 C.2.1 dX12_definitionHere_10 rfl (lv_at hl 0 rfl) ?_
      refine fg_29 C h dX12_definitionHere_11 ?_
      refine lv_aload_n C.1 C.2.1 dX12_definitionHere_14 rfl (lv_at hl 0 rfl) ?_
      refine fg_37 C h dX12_definitionHere_15 ?_
      refine lv_iload_n C.1 C.2.1 dX12_definitionHere_18 rfl (lv_at hl 1 rfl) ?_
      obtain ⟨g2, hm⟩ := grd_s hm
      refine al_76 C h dX12_definitionHere_19 (inb_in g2) ?_
      obtain ⟨g3, hm⟩ := grd_s hm
      refine al_82 C h dX12_definitionHere_20 (inb_in g3) ?_
      refine lv_aload_n C.1 C.2.1 dX12_definitionHere_21 rfl (lv_at hl 0 rfl) ?_
      refine fg_7 C h dX12_definitionHere_22 ?_
      refine W.lcmp C.1 C.2.1 dX12_definitionHere_25 ?_
      refine lv_if_ne (tgt := 55) C.1 C.2.1 dX12_definitionHere_26 (by decide) (fun c4 => ?_) (fun c4 => ?_)
      · have hm := ite_t c4 hm
        exact lm_definitionHere_55 (N := N) C hr hlk hrec2 (lv_sub hl [0, 1] rfl) h hm
      · have hm := ite_f c4 hm
        refine lv_aload_n C.1 C.2.1 dX12_definitionHere_29 rfl (lv_at hl 0 rfl) ?_
        refine fg_30 C h dX12_definitionHere_30 ?_
        refine lv_aload_n C.1 C.2.1 dX12_definitionHere_33 rfl (lv_at hl 0 rfl) ?_
        refine fg_37 C h dX12_definitionHere_34 ?_
        refine lv_iload_n C.1 C.2.1 dX12_definitionHere_37 rfl (lv_at hl 1 rfl) ?_
        obtain ⟨g5, hm⟩ := grd_s hm
        refine al_76 C h dX12_definitionHere_38 (inb_in g5) ?_
        obtain ⟨g6, hm⟩ := grd_s hm
        refine al_81 C h dX12_definitionHere_39 (inb_in g6) ?_
        refine lv_aload_n C.1 C.2.1 dX12_definitionHere_40 rfl (lv_at hl 0 rfl) ?_
        refine fg_8 C h dX12_definitionHere_41 ?_
        refine W.lcmp C.1 C.2.1 dX12_definitionHere_44 ?_
        refine lv_if_ne (tgt := 55) C.1 C.2.1 dX12_definitionHere_45 (by decide) (fun c7 => ?_) (fun c7 => ?_)
        · have hm := ite_t c7 hm
          exact lm_definitionHere_55 (N := N) C hr hlk hrec2 (lv_sub hl [0, 1] rfl) h hm
        · have hm := ite_f c7 hm
          refine lv_aload_n C.1 C.2.1 dX12_definitionHere_48 rfl (lv_at hl 0 rfl) ?_
          refine fg_37 C h dX12_definitionHere_49 ?_
          refine lv_iload_n C.1 C.2.1 dX12_definitionHere_52 rfl (lv_at hl 1 rfl) ?_
          obtain ⟨g8, hm⟩ := grd_s hm
          refine al_76 C h dX12_definitionHere_53 (inb_in g8) ?_
          cases hm
          exact q_iret C h hr hlk dX12_definitionHere_54 rfl
set_option maxHeartbeats 4000000 in
set_option maxRecDepth 100000 in
theorem c_definitionHere (l : Launch) (D : va_G) (k : Nat → ClassId) (a : Nat) (g : Nat → Nat) (N : Nat) (σ : St)  (r : St × Int32) (hm : f_definitionHere N σ  = some r) : Mi l yX12_definitionHere (.code yX12_definitionHere cX12_definitionHere 2 (some .int) :: rW) { frames := 0, cells := 0, slots := 0, locals := 0 } [.ref a] D (TYs k) (mW k a g σ) (fun _ => True) Unit (fun v _ => v = r.2) (fun _ => mW k a g r.1) 0 0 := by
  intro sz
  refine x_met (cc := cX12_definitionHere) (maxL := 2) (ret := (some .int)) (by decide) rfl (Nat.le_of_ble_eq_true rfl) ?_
  intro p e s m below meth c ls C hX hsz hr hlk hmn hl h
  have hl : lv_has ls 2 [(0, .ref a)] := hl
  have hm : (f_definitionHere_2 N N σ 0) = some r := hm
  refine lv_iconst (v := 0) C.1 C.2.1 dX12_definitionHere_0 (by decide) ?_
  refine lv_istore_n (lv' := [(1, .int 0), (0, .ref a)]) C.1 C.2.1 dX12_definitionHere_1 rfl hl (by decide) rfl (fun ls hl => ?_)
  exact lm_definitionHere_2 (N := N) C hr hlk  N (lv_sub hl [1, 0] rfl) h hm
end L_definitionHere
