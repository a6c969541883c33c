section Z_Pt_gcd
variable {p : Program} {l : Launch} {e : Env} {s : State} {m : MethodId} {args : Array Value} {below : List Frame} {meth : Method} {c : Code} {D : va_G} {A : Nat → Prop} {k : Nat → ClassId} {N : Nat} {cd : Cond}
set_option maxHeartbeats 8000000 in
set_option maxRecDepth 100000 in
theorem kl_Pt_gcd_45 {r : Int} (C : Cx p s m args c cX4_gcd RX4 (cd :: cWd) D (TYs k) 11) (hr : meth.sig.returnType = (some .long)) (hlk : meth.locks = false)    {ls : Array Slot} {H : Heap} {locs : List Loc} {x4 : Int}  (hl : lv_has ls 11 [(4, .long (Int64.ofInt x4))]) (h : Hp D A s.heap H locs []) (hm : Pt_gcd_45 N x4 = some r) : W p l e { frames := 0, cells := 0, slots := 0, locals := 0 } s m args below meth c H locs 0 0 (MQ below (va_Ql (fun v (_ : Unit) => v = Int64.ofInt r) (fun _ t => PostW D (TYs k) A [] t) A) args s 0 0 A) (F0 m 45 ls []) := by
  rw [Pt_gcd_45] at hm
  refine lv_lload C.1 C.2.1 dX4_gcd_45 (lv_at hl 0 rfl) ?_
  refine lv_lconst (v := Int64.ofInt 0) C.1 C.2.1 dX4_gcd_47 (by decide) ?_
  obtain ⟨g9, hm⟩ := grd_s hm
  refine W.lcmp C.1 C.2.1 dX4_gcd_48 ?_
  refine z_lcmp_ne (tgt := 56) C dX4_gcd_49 (by decide) g9 (by decide) (fun c10 => ?_) (fun c10 => ?_)
  · have hm := ite_f c10 hm
    refine lv_lload C.1 C.2.1 dX4_gcd_56 (lv_at hl 0 rfl) ?_
    cases hm
    exact v_lretS C h hr hlk dX4_gcd_58
  · have hm := ite_t c10 hm
    refine lv_lconst (v := Int64.ofInt 1) C.1 C.2.1 dX4_gcd_52 (by decide) ?_
    refine lv_goto (tgt := 58) C.1 C.2.1 dX4_gcd_53 (by decide) ?_
    cases hm
    exact v_lretS C h hr hlk dX4_gcd_58
set_option maxHeartbeats 8000000 in
set_option maxRecDepth 100000 in
theorem kl_Pt_gcd_9 {r : Int} (C : Cx p s m args c cX4_gcd RX4 (cd :: cWd) D (TYs k) 11) (hr : meth.sig.returnType = (some .long)) (hlk : meth.locks = false)    (n : Nat) : ∀ {ls : Array Slot} {H : Heap} {locs : List Loc} {x4 : Int} {x6 : Int} {x8 : Int}, lv_has ls 11 [(4, .long (Int64.ofInt x4)), (6, .long (Int64.ofInt x6)), (8, .int (Int32.ofInt x8))] → Hp D A s.heap H locs [] → Pt_gcd_9 N n x4 x6 x8 = some r → W p l e { frames := 0, cells := 0, slots := 0, locals := 0 } s m args below meth c H locs 0 0 (MQ below (va_Ql (fun v (_ : Unit) => v = Int64.ofInt r) (fun _ t => PostW D (TYs k) A [] t) A) args s 0 0 A) (F0 m 9 ls []) := by
  induction n with
  | zero => intro ls H locs x4 x6 x8  hl h hm; cases (show none = some r from hm)
  | succ n hrec9 =>
    intro ls H locs x4 x6 x8  hl h hm
    rw [Pt_gcd_9] at hm
    refine lv_iload C.1 C.2.1 dX4_gcd_9 (lv_at hl 2 rfl) ?_
    refine lv_sipush (v := Int32.ofInt 200) C.1 C.2.1 dX4_gcd_11 (by decide) ?_
    obtain ⟨g1, hm⟩ := grd_s hm
    refine z_icmp_ge (tgt := 45) C dX4_gcd_14 (by decide) g1 (by decide) (fun c2 => ?_) (fun c2 => ?_)
    · have hm := ite_f c2 hm
      exact kl_Pt_gcd_45 (N := N) C hr hlk (lv_sub hl [0] rfl) h hm
    · have hm := ite_t c2 hm
      refine lv_lload C.1 C.2.1 dX4_gcd_17 (lv_at hl 1 rfl) ?_
      refine lv_lconst (v := Int64.ofInt 0) C.1 C.2.1 dX4_gcd_19 (by decide) ?_
      obtain ⟨g3, hm⟩ := grd_s hm
      refine W.lcmp C.1 C.2.1 dX4_gcd_20 ?_
      refine z_lcmp_eq (tgt := 45) C dX4_gcd_21 (by decide) g3 (by decide) (fun c4 => ?_) (fun c4 => ?_)
      · have hm := ite_t c4 hm
        exact kl_Pt_gcd_45 (N := N) C hr hlk (lv_sub hl [0] rfl) h hm
      · have hm := ite_f c4 hm
        refine lv_lload C.1 C.2.1 dX4_gcd_24 (lv_at hl 0 rfl) ?_
        refine lv_lload C.1 C.2.1 dX4_gcd_26 (lv_at hl 1 rfl) ?_
        obtain ⟨g5, hm⟩ := grd_s hm
        obtain ⟨g6, hm⟩ := grd_s hm
        refine z_lrem C dX4_gcd_28 g5 g3 g6 ?_
        obtain ⟨v7, e8, hm⟩ := bnd_s hm
        rw [e8]
        refine lv_lstore (lv' := [(9, .long (Int64.ofInt v7)), (4, .long (Int64.ofInt x4)), (6, .long (Int64.ofInt x6)), (8, .int (Int32.ofInt x8))]) C.1 C.2.1 dX4_gcd_29 hl (by decide) rfl (fun ls hl => ?_)
        refine lv_lload C.1 C.2.1 dX4_gcd_31 (lv_at hl 2 rfl) ?_
        refine lv_lstore (lv' := [(4, .long (Int64.ofInt x6)), (9, .long (Int64.ofInt v7)), (6, .long (Int64.ofInt x6)), (8, .int (Int32.ofInt x8))]) C.1 C.2.1 dX4_gcd_33 hl (by decide) rfl (fun ls hl => ?_)
        refine lv_lload C.1 C.2.1 dX4_gcd_35 (lv_at hl 1 rfl) ?_
        refine lv_lstore (lv' := [(6, .long (Int64.ofInt v7)), (4, .long (Int64.ofInt x6)), (9, .long (Int64.ofInt v7)), (8, .int (Int32.ofInt x8))]) C.1 C.2.1 dX4_gcd_37 hl (by decide) rfl (fun ls hl => ?_)
        refine lv_iinc (v := Int32.ofInt (x8 + 1)) (lv' := [(8, .int (Int32.ofInt (x8 + 1))), (6, .long (Int64.ofInt v7)), (4, .long (Int64.ofInt x6)), (9, .long (Int64.ofInt v7))]) C.1 C.2.1 dX4_gcd_39 hl (k := 3) rfl (c32_add _ _) (by decide) rfl (fun ls hl => ?_)
        refine lv_goto (tgt := 9) C.1 C.2.1 dX4_gcd_42 (by decide) ?_
        exact hrec9 (lv_sub hl [2, 1, 0] rfl) h hm
set_option maxHeartbeats 8000000 in
set_option maxRecDepth 100000 in
theorem kc_Pt_gcd (l : Launch) (D : va_G) (k : Nat → ClassId) (N : Nat) (x0 : Int) (x2 : Int) (r : Int) (hm : Pt_gcd N x0 x2 = some r) : Ml l yX4_gcd (.code yX4_gcd cX4_gcd 11 (some .long) :: cWd) { frames := 0, cells := 0, slots := 0, locals := 0 } [.long (Int64.ofInt x0), .long (Int64.ofInt x2)] D (TYs k) [] (fun _ => True) Unit (fun v _ => v = Int64.ofInt r) (fun _ => []) 0 0 := by
  intro sz
  refine x_met (cc := cX4_gcd) (maxL := 11) (ret := (some .long)) (by decide) rfl (Nat.le_of_ble_eq_true rfl) ?_
  intro p e s m below meth c ls C hX hsz hr hlk hmn hl h
  have hl : lv_has ls 11 [(0, .long (Int64.ofInt x0)), (2, .long (Int64.ofInt x2))] := hl
  rw [Pt_gcd] at hm
  refine lv_lload_n C.1 C.2.1 dX4_gcd_0 rfl (lv_at hl 0 rfl) ?_
  refine lv_lstore (lv' := [(4, .long (Int64.ofInt x0)), (0, .long (Int64.ofInt x0)), (2, .long (Int64.ofInt x2))]) C.1 C.2.1 dX4_gcd_1 hl (by decide) rfl (fun ls hl => ?_)
  refine lv_lload_n C.1 C.2.1 dX4_gcd_3 rfl (lv_at hl 2 rfl) ?_
  refine lv_lstore (lv' := [(6, .long (Int64.ofInt x2)), (4, .long (Int64.ofInt x0)), (0, .long (Int64.ofInt x0)), (2, .long (Int64.ofInt x2))]) C.1 C.2.1 dX4_gcd_4 hl (by decide) rfl (fun ls hl => ?_)
  refine lv_iconst (v := Int32.ofInt 0) C.1 C.2.1 dX4_gcd_6 (by decide) ?_
  refine lv_istore (lv' := [(8, .int (Int32.ofInt 0)), (6, .long (Int64.ofInt x2)), (4, .long (Int64.ofInt x0)), (0, .long (Int64.ofInt x0)), (2, .long (Int64.ofInt x2))]) C.1 C.2.1 dX4_gcd_7 hl (by decide) rfl (fun ls hl => ?_)
  exact kl_Pt_gcd_9 (N := N) C hr hlk N (lv_sub hl [2, 1, 0] rfl) h hm
end Z_Pt_gcd
section Z_Ka_time
variable {p : Program} {l : Launch} {e : Env} {s : State} {m : MethodId} {args : Array Value} {below : List Frame} {meth : Method} {c : Code} {D : va_G} {A : Nat → Prop} {k : Nat → ClassId} {N : Nat} {cd : Cond} {z mi : Nat} {aK aV : Nat → Nat} {g : Nat → Nat} {π : Sh}
set_option maxHeartbeats 8000000 in
set_option maxRecDepth 100000 in
theorem kl_Ka_time_49 {r : St × Int} (C : Cx p s m args c cX2_time RX2 (cd :: cWd) D (TYs k) 7) (hr : meth.sig.returnType = (some .int)) (hlk : meth.locks = false) (hE : Ev z mi aK aV A s s.heap) (hS : SHs π)    {ls : Array Slot} {H : Heap} {locs : List Loc} {σ : St} {x5 : Int} {s0 : Int}  (hl : lv_has ls 7 [(5, .long (Int64.ofInt x5))]) (h : Hp D A s.heap H locs (cW k z g π σ)) (hm : Ka_time_49 N π σ x5 s0 = some r) : W p l e { frames := 1, cells := 0, slots := 0, locals := 30 } s m args below meth c H locs 0 0 (MQ below (va_Qi (fun v (_ : Unit) => v = Int32.ofInt r.2) (fun _ t => PostW D (TYs k) A (cW k z g π r.1) t) A) args s 0 0 A) (F0 m 49 ls [.long (Int64.ofInt s0)]) := by
  rw [Ka_time_49] at hm
  refine lv_lload C.1 C.2.1 dX2_time_49 (lv_at hl 0 rfl) ?_
  obtain ⟨g11, hm⟩ := grd_s hm
  obtain ⟨g12, hm⟩ := grd_s hm
  obtain ⟨g13, hm⟩ := grd_s hm
  refine z_ldiv C dX2_time_51 g11 g12 g13 ?_
  refine z_l2i C dX2_time_52 ?_
  cases hm
  exact c_iretP C h hr hlk dX2_time_53 rfl
set_option maxHeartbeats 8000000 in
set_option maxRecDepth 100000 in
theorem kl_Ka_time_20 {r : St × Int} (C : Cx p s m args c cX2_time RX2 (cd :: cWd) D (TYs k) 7) (hr : meth.sig.returnType = (some .int)) (hlk : meth.locks = false) (hE : Ev z mi aK aV A s s.heap) (hS : SHs π)    {ls : Array Slot} {H : Heap} {locs : List Loc} {σ : St} {x1 : Int} {x2 : Int} {s0 : Int}  (hl : lv_has ls 7 [(0, rfv g 24), (1, .int (Int32.ofInt x1)), (2, .int (Int32.ofInt x2))]) (h : Hp D A s.heap H locs (cW k z g π σ)) (hm : Ka_time_20 N π σ x1 x2 s0 = some r) : W p l e { frames := 1, cells := 0, slots := 0, locals := 30 } s m args below meth c H locs 0 0 (MQ below (va_Qi (fun v (_ : Unit) => v = Int32.ofInt r.2) (fun _ t => PostW D (TYs k) A (cW k z g π r.1) t) A) args s 0 0 A) (F0 m 20 ls [.long (Int64.ofInt s0)]) := by
  rw [Ka_time_20] at hm
  refine lv_lstore_n (lv' := [(3, .long (Int64.ofInt s0)), (0, rfv g 24), (1, .int (Int32.ofInt x1)), (2, .int (Int32.ofInt x2))]) C.1 C.2.1 dX2_time_20 rfl hl (by decide) rfl (fun ls hl => ?_)
  refine lv_lload_n C.1 C.2.1 dX2_time_21 rfl (lv_at hl 0 rfl) ?_
  refine z_aload_n C dX2_time_22 rfl (lv_at hl 1 rfl) ?_
  refine cg_3_4_24 C h (sh_24 hS) cU_X2 (List.mem_cons_of_mem _ wl_X2_25) dX2_time_23 ?_
  refine lv_iload_n C.1 C.2.1 dX2_time_26 rfl (lv_at hl 2 rfl) ?_
  obtain ⟨g5, hm⟩ := grd_s hm
  refine c_lald C h (sh_29 hS) (ina_inb (n := 400) (sl_29 hS) (Nat.le_of_ble_eq_true rfl) g5) dX2_time_27 ?_
  obtain ⟨r6, e7, hm⟩ := obd_s hm
  refine v_callSl C h (kc_Pt_gcd l D k N s0 (el σ 29 x1) r6 e7) (v_cwS 2 C.2.2.1 (gC_X4_gcd _) rfl rfl rfl (C.2.2.1 _ (List.mem_cons_of_mem _ wt_X4)) (C.2.2.1 _ (List.mem_cons_of_mem _ wm_X2_66)) (C.2.2.1 _ (List.mem_cons_of_mem _ ws_X4_gcd)) hdS_X4_gcd ⟨Nat.le_of_ble_eq_true rfl, Nat.le_of_ble_eq_true rfl⟩) rfl hl.1 rfl (Nat.le_of_ble_eq_true rfl) dX2_time_28 ⟨(Nat.le_of_ble_eq_true rfl), (Nat.le_of_ble_eq_true rfl)⟩ (fun H locs h => ?_)
  refine lv_lstore (lv' := [(5, .long (Int64.ofInt r6)), (3, .long (Int64.ofInt s0)), (0, rfv g 24), (1, .int (Int32.ofInt x1)), (2, .int (Int32.ofInt x2))]) C.1 C.2.1 dX2_time_31 hl (by decide) rfl (fun ls hl => ?_)
  refine lv_iload_n C.1 C.2.1 dX2_time_33 rfl (lv_at hl 4 rfl) ?_
  refine lv_iconst (v := Int32.ofInt 2) C.1 C.2.1 dX2_time_34 (by decide) ?_
  obtain ⟨g8, hm⟩ := grd_s hm
  refine z_irem C dX2_time_35 g8 (by decide) (by decide) ?_
  obtain ⟨g9, hm⟩ := grd_s hm
  refine z_if_ne (tgt := 43) C dX2_time_36 (by decide) g9 (fun c10 => ?_) (fun c10 => ?_)
  · have hm := ite_f c10 hm
    refine z_aload_n C dX2_time_43 rfl (lv_at hl 2 rfl) ?_
    refine cg_3_4_24 C h (sh_24 hS) cU_X2 (List.mem_cons_of_mem _ wl_X2_25) dX2_time_44 ?_
    refine lv_iload_n C.1 C.2.1 dX2_time_47 rfl (lv_at hl 3 rfl) ?_
    refine c_lald C h (sh_29 hS) (ina_inb (n := 400) (sl_29 hS) (Nat.le_of_ble_eq_true rfl) g5) dX2_time_48 ?_
    exact kl_Ka_time_49 (N := N) C hr hlk hE hS (lv_sub hl [0] rfl) h hm
  · have hm := ite_t c10 hm
    refine lv_lload_n C.1 C.2.1 dX2_time_39 rfl (lv_at hl 1 rfl) ?_
    refine lv_goto (tgt := 49) C.1 C.2.1 dX2_time_40 (by decide) ?_
    exact kl_Ka_time_49 (N := N) C hr hlk hE hS (lv_sub hl [0] rfl) h hm
set_option maxHeartbeats 8000000 in
set_option maxRecDepth 100000 in
theorem kc_Ka_time (l : Launch) (D : va_G) (k : Nat → ClassId) (z mi : Nat) (aK aV : Nat → Nat) (g : Nat → Nat) (N : Nat)    {π : Sh} {σ : St} {x1 : Int} {x2 : Int} {r : St × Int} (hS : SHs π) (hm : Ka_time N π σ x1 x2 = some r) : Mi l yX2_time (.code yX2_time cX2_time 7 (some .int) :: cWd) { frames := 1, cells := 0, slots := 0, locals := 30 } [rfv g 24, .int (Int32.ofInt x1), .int (Int32.ofInt x2)] D (TYs k) (cW k z g π σ) (XV z mi aK aV (cW k z g π σ)) Unit (fun v _ => v = Int32.ofInt r.2) (fun _ => cW k z g π r.1) 0 0 := by
  intro sz
  refine v_met (cc := cX2_time) (maxL := 7) (ret := (some .int)) (lv := [(0, rfv g 24), (1, .int (Int32.ofInt x1)), (2, .int (Int32.ofInt x2))]) (by decide) rfl (by simp [lg_sl, rfv_cat, cat_i, cat_l]) (by simp [lv_args, rfv_cat, cat_i, cat_l]) ?_
  intro p e s m below meth c ls C hE hr hlk hmn hl h
  rw [Ka_time] at hm
  refine lv_iload_n C.1 C.2.1 dX2_time_0 rfl (lv_at hl 2 rfl) ?_
  refine lv_iconst (v := Int32.ofInt 2) C.1 C.2.1 dX2_time_1 (by decide) ?_
  obtain ⟨g1, hm⟩ := grd_s hm
  refine z_icmp_ge (tgt := 14) C dX2_time_2 (by decide) g1 (by decide) (fun c2 => ?_) (fun c2 => ?_)
  · have hm := ite_f c2 hm
    refine z_aload_n C dX2_time_14 rfl (lv_at hl 0 rfl) ?_
    refine cg_3_3_24 C h (sh_24 hS) cU_X2 (List.mem_cons_of_mem _ wl_X2_22) dX2_time_15 ?_
    refine lv_iload_n C.1 C.2.1 dX2_time_18 rfl (lv_at hl 1 rfl) ?_
    obtain ⟨g3, hm⟩ := grd_s hm
    refine c_lald C h (sh_28 hS) (ina_inb (n := 400) (sl_28 hS) (Nat.le_of_ble_eq_true rfl) g3) dX2_time_19 ?_
    exact kl_Ka_time_20 (N := N) C hr hlk hE hS (lv_sub hl [0, 1, 2] rfl) h hm
  · have hm := ite_t c2 hm
    refine z_aload_n C dX2_time_5 rfl (lv_at hl 0 rfl) ?_
    refine cg_3_2_24 C h (sh_24 hS) cU_X2 (List.mem_cons_of_mem _ wl_X2_18) dX2_time_6 ?_
    refine lv_iload_n C.1 C.2.1 dX2_time_9 rfl (lv_at hl 1 rfl) ?_
    obtain ⟨g4, hm⟩ := grd_s hm
    refine c_lald C h (sh_27 hS) (ina_inb (n := 400) (sl_27 hS) (Nat.le_of_ble_eq_true rfl) g4) dX2_time_10 ?_
    refine lv_goto (tgt := 20) C.1 C.2.1 dX2_time_11 (by decide) ?_
    exact kl_Ka_time_20 (N := N) C hr hlk hE hS (lv_sub hl [0, 1, 2] rfl) h hm
end Z_Ka_time
section Z_Kh_time
variable {p : Program} {l : Launch} {e : Env} {s : State} {m : MethodId} {args : Array Value} {below : List Frame} {meth : Method} {c : Code} {D : va_G} {A : Nat → Prop} {k : Nat → ClassId} {N : Nat} {cd : Cond} {z mi : Nat} {aK aV : Nat → Nat} {g : Nat → Nat} {π : Sh}
set_option maxHeartbeats 8000000 in
set_option maxRecDepth 100000 in
theorem kl_Kh_time_49 {r : St × Int} (C : Cx p s m args c cX2_time RX2 (cd :: cWd) D (TYs k) 7) (hr : meth.sig.returnType = (some .int)) (hlk : meth.locks = false) (hE : Ev z mi aK aV A s s.heap) (hS : SHs π)    {ls : Array Slot} {H : Heap} {locs : List Loc} {σ : St} {x5 : Int} {s0 : Int}  (hl : lv_has ls 7 [(5, .long (Int64.ofInt x5))]) (h : Hp D A s.heap H locs (cW k z g π σ)) (hm : Kh_time_49 N π σ x5 s0 = some r) : W p l e { frames := 1, cells := 0, slots := 0, locals := 30 } s m args below meth c H locs 0 0 (MQ below (va_Qi (fun v (_ : Unit) => v = Int32.ofInt r.2) (fun _ t => PostW D (TYs k) A (cW k z g π r.1) t) A) args s 0 0 A) (F0 m 49 ls [.long (Int64.ofInt s0)]) := by
  rw [Kh_time_49] at hm
  refine lv_lload C.1 C.2.1 dX2_time_49 (lv_at hl 0 rfl) ?_
  obtain ⟨g11, hm⟩ := grd_s hm
  obtain ⟨g12, hm⟩ := grd_s hm
  obtain ⟨g13, hm⟩ := grd_s hm
  refine z_ldiv C dX2_time_51 g11 g12 g13 ?_
  refine z_l2i C dX2_time_52 ?_
  cases hm
  exact c_iretP C h hr hlk dX2_time_53 rfl
set_option maxHeartbeats 8000000 in
set_option maxRecDepth 100000 in
theorem kl_Kh_time_20 {r : St × Int} (C : Cx p s m args c cX2_time RX2 (cd :: cWd) D (TYs k) 7) (hr : meth.sig.returnType = (some .int)) (hlk : meth.locks = false) (hE : Ev z mi aK aV A s s.heap) (hS : SHs π)    {ls : Array Slot} {H : Heap} {locs : List Loc} {σ : St} {x1 : Int} {x2 : Int} {s0 : Int}  (hl : lv_has ls 7 [(0, rfv g 33), (1, .int (Int32.ofInt x1)), (2, .int (Int32.ofInt x2))]) (h : Hp D A s.heap H locs (cW k z g π σ)) (hm : Kh_time_20 N π σ x1 x2 s0 = some r) : W p l e { frames := 1, cells := 0, slots := 0, locals := 30 } s m args below meth c H locs 0 0 (MQ below (va_Qi (fun v (_ : Unit) => v = Int32.ofInt r.2) (fun _ t => PostW D (TYs k) A (cW k z g π r.1) t) A) args s 0 0 A) (F0 m 20 ls [.long (Int64.ofInt s0)]) := by
  rw [Kh_time_20] at hm
  refine lv_lstore_n (lv' := [(3, .long (Int64.ofInt s0)), (0, rfv g 33), (1, .int (Int32.ofInt x1)), (2, .int (Int32.ofInt x2))]) C.1 C.2.1 dX2_time_20 rfl hl (by decide) rfl (fun ls hl => ?_)
  refine lv_lload_n C.1 C.2.1 dX2_time_21 rfl (lv_at hl 0 rfl) ?_
  refine z_aload_n C dX2_time_22 rfl (lv_at hl 1 rfl) ?_
  refine cg_3_4_33 C h (sh_33 hS) cU_X2 (List.mem_cons_of_mem _ wl_X2_25) dX2_time_23 ?_
  refine lv_iload_n C.1 C.2.1 dX2_time_26 rfl (lv_at hl 2 rfl) ?_
  obtain ⟨g5, hm⟩ := grd_s hm
  refine c_lald C h (sh_38 hS) (ina_inb (n := 400) (sl_38 hS) (Nat.le_of_ble_eq_true rfl) g5) dX2_time_27 ?_
  obtain ⟨r6, e7, hm⟩ := obd_s hm
  refine v_callSl C h (kc_Pt_gcd l D k N s0 (el σ 38 x1) r6 e7) (v_cwS 2 C.2.2.1 (gC_X4_gcd _) rfl rfl rfl (C.2.2.1 _ (List.mem_cons_of_mem _ wt_X4)) (C.2.2.1 _ (List.mem_cons_of_mem _ wm_X2_66)) (C.2.2.1 _ (List.mem_cons_of_mem _ ws_X4_gcd)) hdS_X4_gcd ⟨Nat.le_of_ble_eq_true rfl, Nat.le_of_ble_eq_true rfl⟩) rfl hl.1 rfl (Nat.le_of_ble_eq_true rfl) dX2_time_28 ⟨(Nat.le_of_ble_eq_true rfl), (Nat.le_of_ble_eq_true rfl)⟩ (fun H locs h => ?_)
  refine lv_lstore (lv' := [(5, .long (Int64.ofInt r6)), (3, .long (Int64.ofInt s0)), (0, rfv g 33), (1, .int (Int32.ofInt x1)), (2, .int (Int32.ofInt x2))]) C.1 C.2.1 dX2_time_31 hl (by decide) rfl (fun ls hl => ?_)
  refine lv_iload_n C.1 C.2.1 dX2_time_33 rfl (lv_at hl 4 rfl) ?_
  refine lv_iconst (v := Int32.ofInt 2) C.1 C.2.1 dX2_time_34 (by decide) ?_
  obtain ⟨g8, hm⟩ := grd_s hm
  refine z_irem C dX2_time_35 g8 (by decide) (by decide) ?_
  obtain ⟨g9, hm⟩ := grd_s hm
  refine z_if_ne (tgt := 43) C dX2_time_36 (by decide) g9 (fun c10 => ?_) (fun c10 => ?_)
  · have hm := ite_f c10 hm
    refine z_aload_n C dX2_time_43 rfl (lv_at hl 2 rfl) ?_
    refine cg_3_4_33 C h (sh_33 hS) cU_X2 (List.mem_cons_of_mem _ wl_X2_25) dX2_time_44 ?_
    refine lv_iload_n C.1 C.2.1 dX2_time_47 rfl (lv_at hl 3 rfl) ?_
    refine c_lald C h (sh_38 hS) (ina_inb (n := 400) (sl_38 hS) (Nat.le_of_ble_eq_true rfl) g5) dX2_time_48 ?_
    exact kl_Kh_time_49 (N := N) C hr hlk hE hS (lv_sub hl [0] rfl) h hm
  · have hm := ite_t c10 hm
    refine lv_lload_n C.1 C.2.1 dX2_time_39 rfl (lv_at hl 1 rfl) ?_
    refine lv_goto (tgt := 49) C.1 C.2.1 dX2_time_40 (by decide) ?_
    exact kl_Kh_time_49 (N := N) C hr hlk hE hS (lv_sub hl [0] rfl) h hm
set_option maxHeartbeats 8000000 in
set_option maxRecDepth 100000 in
theorem kc_Kh_time (l : Launch) (D : va_G) (k : Nat → ClassId) (z mi : Nat) (aK aV : Nat → Nat) (g : Nat → Nat) (N : Nat)    {π : Sh} {σ : St} {x1 : Int} {x2 : Int} {r : St × Int} (hS : SHs π) (hm : Kh_time N π σ x1 x2 = some r) : Mi l yX2_time (.code yX2_time cX2_time 7 (some .int) :: cWd) { frames := 1, cells := 0, slots := 0, locals := 30 } [rfv g 33, .int (Int32.ofInt x1), .int (Int32.ofInt x2)] D (TYs k) (cW k z g π σ) (XV z mi aK aV (cW k z g π σ)) Unit (fun v _ => v = Int32.ofInt r.2) (fun _ => cW k z g π r.1) 0 0 := by
  intro sz
  refine v_met (cc := cX2_time) (maxL := 7) (ret := (some .int)) (lv := [(0, rfv g 33), (1, .int (Int32.ofInt x1)), (2, .int (Int32.ofInt x2))]) (by decide) rfl (by simp [lg_sl, rfv_cat, cat_i, cat_l]) (by simp [lv_args, rfv_cat, cat_i, cat_l]) ?_
  intro p e s m below meth c ls C hE hr hlk hmn hl h
  rw [Kh_time] at hm
  refine lv_iload_n C.1 C.2.1 dX2_time_0 rfl (lv_at hl 2 rfl) ?_
  refine lv_iconst (v := Int32.ofInt 2) C.1 C.2.1 dX2_time_1 (by decide) ?_
  obtain ⟨g1, hm⟩ := grd_s hm
  refine z_icmp_ge (tgt := 14) C dX2_time_2 (by decide) g1 (by decide) (fun c2 => ?_) (fun c2 => ?_)
  · have hm := ite_f c2 hm
    refine z_aload_n C dX2_time_14 rfl (lv_at hl 0 rfl) ?_
    refine cg_3_3_33 C h (sh_33 hS) cU_X2 (List.mem_cons_of_mem _ wl_X2_22) dX2_time_15 ?_
    refine lv_iload_n C.1 C.2.1 dX2_time_18 rfl (lv_at hl 1 rfl) ?_
    obtain ⟨g3, hm⟩ := grd_s hm
    refine c_lald C h (sh_37 hS) (ina_inb (n := 400) (sl_37 hS) (Nat.le_of_ble_eq_true rfl) g3) dX2_time_19 ?_
    exact kl_Kh_time_20 (N := N) C hr hlk hE hS (lv_sub hl [0, 1, 2] rfl) h hm
  · have hm := ite_t c2 hm
    refine z_aload_n C dX2_time_5 rfl (lv_at hl 0 rfl) ?_
    refine cg_3_2_33 C h (sh_33 hS) cU_X2 (List.mem_cons_of_mem _ wl_X2_18) dX2_time_6 ?_
    refine lv_iload_n C.1 C.2.1 dX2_time_9 rfl (lv_at hl 1 rfl) ?_
    obtain ⟨g4, hm⟩ := grd_s hm
    refine c_lald C h (sh_36 hS) (ina_inb (n := 400) (sl_36 hS) (Nat.le_of_ble_eq_true rfl) g4) dX2_time_10 ?_
    refine lv_goto (tgt := 20) C.1 C.2.1 dX2_time_11 (by decide) ?_
    exact kl_Kh_time_20 (N := N) C hr hlk hE hS (lv_sub hl [0, 1, 2] rfl) h hm
end Z_Kh_time
section Z_Ks_lettersOf
variable {p : Program} {l : Launch} {e : Env} {s : State} {m : MethodId} {args : Array Value} {below : List Frame} {meth : Method} {c : Code} {D : va_G} {A : Nat → Prop} {k : Nat → ClassId} {N : Nat} {cd : Cond}
set_option maxHeartbeats 8000000 in
set_option maxRecDepth 100000 in
theorem kl_Ks_lettersOf_2 {r : Int} (C : Cx p s m args c cX2_lettersOf RX2 (cd :: cWd) D (TYs k) 3) (hr : meth.sig.returnType = (some .int)) (hlk : meth.locks = false)    (n : Nat) : ∀ {ls : Array Slot} {H : Heap} {locs : List Loc} {x0 : Int} {x2 : Int}, lv_has ls 3 [(0, .long (Int64.ofInt x0)), (2, .int (Int32.ofInt x2))] → Hp D A s.heap H locs [] → Ks_lettersOf_2 N n x0 x2 = some r → W p l e { frames := 0, cells := 0, slots := 0, locals := 0 } s m args below meth c H locs 0 0 (MQ below (va_Qi (fun v (_ : Unit) => v = Int32.ofInt r) (fun _ t => PostW D (TYs k) A [] t) A) args s 0 0 A) (F0 m 2 ls []) := by
  induction n with
  | zero => intro ls H locs x0 x2  hl h hm; cases (show none = some r from hm)
  | succ n hrec2 =>
    intro ls H locs x0 x2  hl h hm
    rw [Ks_lettersOf_2] at hm
    refine lv_iload_n C.1 C.2.1 dX2_lettersOf_2 rfl (lv_at hl 1 rfl) ?_
    refine lv_bipush (v := Int32.ofInt 8) C.1 C.2.1 dX2_lettersOf_3 (by decide) ?_
    obtain ⟨g1, hm⟩ := grd_s hm
    refine z_icmp_ge (tgt := 29) C dX2_lettersOf_5 (by decide) g1 (by decide) (fun c2 => ?_) (fun c2 => ?_)
    · have hm := ite_f c2 hm
      refine lv_iload_n C.1 C.2.1 dX2_lettersOf_29 rfl (lv_at hl 1 rfl) ?_
      cases hm
      exact v_iretS C h hr hlk dX2_lettersOf_30 rfl
    · have hm := ite_t c2 hm
      refine lv_lload_n C.1 C.2.1 dX2_lettersOf_8 rfl (lv_at hl 0 rfl) ?_
      refine lv_bipush (v := Int32.ofInt 8) C.1 C.2.1 dX2_lettersOf_9 (by decide) ?_
      refine lv_iload_n C.1 C.2.1 dX2_lettersOf_11 rfl (lv_at hl 1 rfl) ?_
      refine z_imul C dX2_lettersOf_12 ?_
      refine z_lushr C dX2_lettersOf_13 ?_
      refine lv_ldc2 (v := 255) C.1 C.2.1 C.2.2.2.1 (C.2.2.1 _ (List.mem_cons_of_mem _ wk_X2_72)) dX2_lettersOf_14 ?_
      refine x_topl (y := Int64.ofInt 255) (by decide) ?_
      refine z_land C dX2_lettersOf_17 ?_
      refine lv_lconst (v := Int64.ofInt 0) C.1 C.2.1 dX2_lettersOf_18 (by decide) ?_
      obtain ⟨g3, hm⟩ := grd_s hm
      refine W.lcmp C.1 C.2.1 dX2_lettersOf_19 ?_
      refine z_lcmp_eq (tgt := 29) C dX2_lettersOf_20 (by decide) g3 (by decide) (fun c4 => ?_) (fun c4 => ?_)
      · have hm := ite_t c4 hm
        refine lv_iload_n C.1 C.2.1 dX2_lettersOf_29 rfl (lv_at hl 1 rfl) ?_
        cases hm
        exact v_iretS C h hr hlk dX2_lettersOf_30 rfl
      · have hm := ite_f c4 hm
        refine lv_iinc (v := Int32.ofInt (x2 + 1)) (lv' := [(2, .int (Int32.ofInt (x2 + 1))), (0, .long (Int64.ofInt x0))]) C.1 C.2.1 dX2_lettersOf_23 hl (k := 1) rfl (c32_add _ _) (by decide) rfl (fun ls hl => ?_)
        refine lv_goto (tgt := 2) C.1 C.2.1 dX2_lettersOf_26 (by decide) ?_
        exact hrec2 (lv_sub hl [1, 0] rfl) h hm
set_option maxHeartbeats 8000000 in
set_option maxRecDepth 100000 in
theorem kc_Ks_lettersOf (l : Launch) (D : va_G) (k : Nat → ClassId) (N : Nat) (x0 : Int) (r : Int) (hm : Ks_lettersOf N x0 = some r) : Mi l yX2_lettersOf (.code yX2_lettersOf cX2_lettersOf 3 (some .int) :: cWd) { frames := 0, cells := 0, slots := 0, locals := 0 } [.long (Int64.ofInt x0)] D (TYs k) [] (fun _ => True) Unit (fun v _ => v = Int32.ofInt r) (fun _ => []) 0 0 := by
  intro sz
  refine x_met (cc := cX2_lettersOf) (maxL := 3) (ret := (some .int)) (by decide) rfl (Nat.le_of_ble_eq_true rfl) ?_
  intro p e s m below meth c ls C hX hsz hr hlk hmn hl h
  have hl : lv_has ls 3 [(0, .long (Int64.ofInt x0))] := hl
  rw [Ks_lettersOf] at hm
  refine lv_iconst (v := Int32.ofInt 0) C.1 C.2.1 dX2_lettersOf_0 (by decide) ?_
  refine lv_istore_n (lv' := [(2, .int (Int32.ofInt 0)), (0, .long (Int64.ofInt x0))]) C.1 C.2.1 dX2_lettersOf_1 rfl hl (by decide) rfl (fun ls hl => ?_)
  exact kl_Ks_lettersOf_2 (N := N) C hr hlk N (lv_sub hl [1, 0] rfl) h hm
end Z_Ks_lettersOf
section Z_Ka_letterAt
variable {p : Program} {l : Launch} {e : Env} {s : State} {m : MethodId} {args : Array Value} {below : List Frame} {meth : Method} {c : Code} {D : va_G} {A : Nat → Prop} {k : Nat → ClassId} {N : Nat} {cd : Cond} {z mi : Nat} {aK aV : Nat → Nat} {g : Nat → Nat} {π : Sh}
set_option maxHeartbeats 8000000 in
set_option maxRecDepth 100000 in
theorem kc_Ka_letterAt (l : Launch) (D : va_G) (k : Nat → ClassId) (z mi : Nat) (aK aV : Nat → Nat) (g : Nat → Nat) (N : Nat)    {π : Sh} {σ : St} {x1 : Int} {x2 : Int} {r : St × Int} (hS : SHs π) (hm : Ka_letterAt N π σ x1 x2 = some r) : Mi l yX2_letterAt (.code yX2_letterAt cX2_letterAt 3 (some .int) :: cWd) { frames := 1, cells := 0, slots := 0, locals := 22 } [rfv g 24, .int (Int32.ofInt x1), .int (Int32.ofInt x2)] D (TYs k) (cW k z g π σ) (XV z mi aK aV (cW k z g π σ)) Unit (fun v _ => v = Int32.ofInt r.2) (fun _ => cW k z g π r.1) 0 0 := by
  intro sz
  refine v_met (cc := cX2_letterAt) (maxL := 3) (ret := (some .int)) (lv := [(0, rfv g 24), (1, .int (Int32.ofInt x1)), (2, .int (Int32.ofInt x2))]) (by decide) rfl (by simp [lg_sl, rfv_cat, cat_i, cat_l]) (by simp [lv_args, rfv_cat, cat_i, cat_l]) ?_
  intro p e s m below meth c ls C hE hr hlk hmn hl h
  rw [Ka_letterAt] at hm
  refine lv_iload_n C.1 C.2.1 dX2_letterAt_0 rfl (lv_at hl 1 rfl) ?_
  obtain ⟨g1, hm⟩ := grd_s hm
  refine z_if_lt (tgt := 29) C dX2_letterAt_1 (by decide) g1 (fun c2 => ?_) (fun c2 => ?_)
  · have hm := ite_t c2 hm
    refine lv_iconst (v := Int32.ofInt (-1)) C.1 C.2.1 dX2_letterAt_29 (by decide) ?_
    cases hm
    exact c_iretP C h hr hlk dX2_letterAt_30 rfl
  · have hm := ite_f c2 hm
    refine lv_iload_n C.1 C.2.1 dX2_letterAt_4 rfl (lv_at hl 1 rfl) ?_
    refine z_aload_n C dX2_letterAt_5 rfl (lv_at hl 0 rfl) ?_
    refine cg_3_8 C h (sh_24 hS) cU_X2 (List.mem_cons_of_mem _ wl_X2_38) dX2_letterAt_6 ?_
    obtain ⟨g3, hm⟩ := grd_s hm
    refine z_icmp_ge (tgt := 29) C dX2_letterAt_9 (by decide) g1 g3 (fun c4 => ?_) (fun c4 => ?_)
    · have hm := ite_f c4 hm
      refine lv_iconst (v := Int32.ofInt (-1)) C.1 C.2.1 dX2_letterAt_29 (by decide) ?_
      cases hm
      exact c_iretP C h hr hlk dX2_letterAt_30 rfl
    · have hm := ite_t c4 hm
      refine lv_iload_n C.1 C.2.1 dX2_letterAt_12 rfl (lv_at hl 2 rfl) ?_
      obtain ⟨g5, hm⟩ := grd_s hm
      refine z_if_lt (tgt := 29) C dX2_letterAt_13 (by decide) g5 (fun c6 => ?_) (fun c6 => ?_)
      · have hm := ite_t c6 hm
        refine lv_iconst (v := Int32.ofInt (-1)) C.1 C.2.1 dX2_letterAt_29 (by decide) ?_
        cases hm
        exact c_iretP C h hr hlk dX2_letterAt_30 rfl
      · have hm := ite_f c6 hm
        refine lv_iload_n C.1 C.2.1 dX2_letterAt_16 rfl (lv_at hl 2 rfl) ?_
        refine z_aload_n C dX2_letterAt_17 rfl (lv_at hl 0 rfl) ?_
        refine cg_3_5_24 C h (sh_24 hS) cU_X2 (List.mem_cons_of_mem _ wl_X2_28) dX2_letterAt_18 ?_
        refine lv_iload_n C.1 C.2.1 dX2_letterAt_21 rfl (lv_at hl 1 rfl) ?_
        obtain ⟨g7, hm⟩ := grd_s hm
        refine c_lald C h (sh_30 hS) (ina_inb (n := 400) (sl_30 hS) (Nat.le_of_ble_eq_true rfl) g7) dX2_letterAt_22 ?_
        obtain ⟨r8, e9, hm⟩ := obd_s hm
        refine v_callSi C h (kc_Ks_lettersOf l D k N (el σ 30 x1) r8 e9) (v_cwS 1 C.2.2.1 (gC_X2_lettersOf _) rfl rfl rfl (C.2.2.1 _ (List.mem_cons_of_mem _ wt_X2)) (C.2.2.1 _ (List.mem_cons_of_mem _ wm_X2_74)) (C.2.2.1 _ (List.mem_cons_of_mem _ ws_X2_lettersOf)) hdS_X2_lettersOf ⟨Nat.le_of_ble_eq_true rfl, Nat.le_of_ble_eq_true rfl⟩) rfl hl.1 rfl (Nat.le_of_ble_eq_true rfl) dX2_letterAt_23 ⟨(Nat.le_of_ble_eq_true rfl), (Nat.le_of_ble_eq_true rfl)⟩ (fun H locs h => ?_)
        obtain ⟨g10, hm⟩ := grd_s hm
        refine z_icmp_lt (tgt := 31) C dX2_letterAt_26 (by decide) g5 g10 (fun c11 => ?_) (fun c11 => ?_)
        · have hm := ite_t c11 hm
          refine z_aload_n C dX2_letterAt_31 rfl (lv_at hl 0 rfl) ?_
          refine cg_3_5_24 C h (sh_24 hS) cU_X2 (List.mem_cons_of_mem _ wl_X2_28) dX2_letterAt_32 ?_
          refine lv_iload_n C.1 C.2.1 dX2_letterAt_35 rfl (lv_at hl 1 rfl) ?_
          refine c_lald C h (sh_30 hS) (ina_inb (n := 400) (sl_30 hS) (Nat.le_of_ble_eq_true rfl) g7) dX2_letterAt_36 ?_
          refine lv_bipush (v := Int32.ofInt 8) C.1 C.2.1 dX2_letterAt_37 (by decide) ?_
          refine lv_iload_n C.1 C.2.1 dX2_letterAt_39 rfl (lv_at hl 2 rfl) ?_
          refine z_imul C dX2_letterAt_40 ?_
          refine z_lushr C dX2_letterAt_41 ?_
          refine lv_ldc2 (v := 255) C.1 C.2.1 C.2.2.2.1 (C.2.2.1 _ (List.mem_cons_of_mem _ wk_X2_72)) dX2_letterAt_42 ?_
          refine x_topl (y := Int64.ofInt 255) (by decide) ?_
          refine z_land C dX2_letterAt_45 ?_
          refine z_l2i C dX2_letterAt_46 ?_
          cases hm
          exact c_iretP C h hr hlk dX2_letterAt_47 rfl
        · have hm := ite_f c11 hm
          refine lv_iconst (v := Int32.ofInt (-1)) C.1 C.2.1 dX2_letterAt_29 (by decide) ?_
          cases hm
          exact c_iretP C h hr hlk dX2_letterAt_30 rfl
end Z_Ka_letterAt
section Z_Kh_letterAt
variable {p : Program} {l : Launch} {e : Env} {s : State} {m : MethodId} {args : Array Value} {below : List Frame} {meth : Method} {c : Code} {D : va_G} {A : Nat → Prop} {k : Nat → ClassId} {N : Nat} {cd : Cond} {z mi : Nat} {aK aV : Nat → Nat} {g : Nat → Nat} {π : Sh}
set_option maxHeartbeats 8000000 in
set_option maxRecDepth 100000 in
theorem kc_Kh_letterAt (l : Launch) (D : va_G) (k : Nat → ClassId) (z mi : Nat) (aK aV : Nat → Nat) (g : Nat → Nat) (N : Nat)    {π : Sh} {σ : St} {x1 : Int} {x2 : Int} {r : St × Int} (hS : SHs π) (hm : Kh_letterAt N π σ x1 x2 = some r) : Mi l yX2_letterAt (.code yX2_letterAt cX2_letterAt 3 (some .int) :: cWd) { frames := 1, cells := 0, slots := 0, locals := 22 } [rfv g 33, .int (Int32.ofInt x1), .int (Int32.ofInt x2)] D (TYs k) (cW k z g π σ) (XV z mi aK aV (cW k z g π σ)) Unit (fun v _ => v = Int32.ofInt r.2) (fun _ => cW k z g π r.1) 0 0 := by
  intro sz
  refine v_met (cc := cX2_letterAt) (maxL := 3) (ret := (some .int)) (lv := [(0, rfv g 33), (1, .int (Int32.ofInt x1)), (2, .int (Int32.ofInt x2))]) (by decide) rfl (by simp [lg_sl, rfv_cat, cat_i, cat_l]) (by simp [lv_args, rfv_cat, cat_i, cat_l]) ?_
  intro p e s m below meth c ls C hE hr hlk hmn hl h
  rw [Kh_letterAt] at hm
  refine lv_iload_n C.1 C.2.1 dX2_letterAt_0 rfl (lv_at hl 1 rfl) ?_
  obtain ⟨g1, hm⟩ := grd_s hm
  refine z_if_lt (tgt := 29) C dX2_letterAt_1 (by decide) g1 (fun c2 => ?_) (fun c2 => ?_)
  · have hm := ite_t c2 hm
    refine lv_iconst (v := Int32.ofInt (-1)) C.1 C.2.1 dX2_letterAt_29 (by decide) ?_
    cases hm
    exact c_iretP C h hr hlk dX2_letterAt_30 rfl
  · have hm := ite_f c2 hm
    refine lv_iload_n C.1 C.2.1 dX2_letterAt_4 rfl (lv_at hl 1 rfl) ?_
    refine z_aload_n C dX2_letterAt_5 rfl (lv_at hl 0 rfl) ?_
    refine cg_3_8 C h (sh_33 hS) cU_X2 (List.mem_cons_of_mem _ wl_X2_38) dX2_letterAt_6 ?_
    obtain ⟨g3, hm⟩ := grd_s hm
    refine z_icmp_ge (tgt := 29) C dX2_letterAt_9 (by decide) g1 g3 (fun c4 => ?_) (fun c4 => ?_)
    · have hm := ite_f c4 hm
      refine lv_iconst (v := Int32.ofInt (-1)) C.1 C.2.1 dX2_letterAt_29 (by decide) ?_
      cases hm
      exact c_iretP C h hr hlk dX2_letterAt_30 rfl
    · have hm := ite_t c4 hm
      refine lv_iload_n C.1 C.2.1 dX2_letterAt_12 rfl (lv_at hl 2 rfl) ?_
      obtain ⟨g5, hm⟩ := grd_s hm
      refine z_if_lt (tgt := 29) C dX2_letterAt_13 (by decide) g5 (fun c6 => ?_) (fun c6 => ?_)
      · have hm := ite_t c6 hm
        refine lv_iconst (v := Int32.ofInt (-1)) C.1 C.2.1 dX2_letterAt_29 (by decide) ?_
        cases hm
        exact c_iretP C h hr hlk dX2_letterAt_30 rfl
      · have hm := ite_f c6 hm
        refine lv_iload_n C.1 C.2.1 dX2_letterAt_16 rfl (lv_at hl 2 rfl) ?_
        refine z_aload_n C dX2_letterAt_17 rfl (lv_at hl 0 rfl) ?_
        refine cg_3_5_33 C h (sh_33 hS) cU_X2 (List.mem_cons_of_mem _ wl_X2_28) dX2_letterAt_18 ?_
        refine lv_iload_n C.1 C.2.1 dX2_letterAt_21 rfl (lv_at hl 1 rfl) ?_
        obtain ⟨g7, hm⟩ := grd_s hm
        refine c_lald C h (sh_39 hS) (ina_inb (n := 400) (sl_39 hS) (Nat.le_of_ble_eq_true rfl) g7) dX2_letterAt_22 ?_
        obtain ⟨r8, e9, hm⟩ := obd_s hm
        refine v_callSi C h (kc_Ks_lettersOf l D k N (el σ 39 x1) r8 e9) (v_cwS 1 C.2.2.1 (gC_X2_lettersOf _) rfl rfl rfl (C.2.2.1 _ (List.mem_cons_of_mem _ wt_X2)) (C.2.2.1 _ (List.mem_cons_of_mem _ wm_X2_74)) (C.2.2.1 _ (List.mem_cons_of_mem _ ws_X2_lettersOf)) hdS_X2_lettersOf ⟨Nat.le_of_ble_eq_true rfl, Nat.le_of_ble_eq_true rfl⟩) rfl hl.1 rfl (Nat.le_of_ble_eq_true rfl) dX2_letterAt_23 ⟨(Nat.le_of_ble_eq_true rfl), (Nat.le_of_ble_eq_true rfl)⟩ (fun H locs h => ?_)
        obtain ⟨g10, hm⟩ := grd_s hm
        refine z_icmp_lt (tgt := 31) C dX2_letterAt_26 (by decide) g5 g10 (fun c11 => ?_) (fun c11 => ?_)
        · have hm := ite_t c11 hm
          refine z_aload_n C dX2_letterAt_31 rfl (lv_at hl 0 rfl) ?_
          refine cg_3_5_33 C h (sh_33 hS) cU_X2 (List.mem_cons_of_mem _ wl_X2_28) dX2_letterAt_32 ?_
          refine lv_iload_n C.1 C.2.1 dX2_letterAt_35 rfl (lv_at hl 1 rfl) ?_
          refine c_lald C h (sh_39 hS) (ina_inb (n := 400) (sl_39 hS) (Nat.le_of_ble_eq_true rfl) g7) dX2_letterAt_36 ?_
          refine lv_bipush (v := Int32.ofInt 8) C.1 C.2.1 dX2_letterAt_37 (by decide) ?_
          refine lv_iload_n C.1 C.2.1 dX2_letterAt_39 rfl (lv_at hl 2 rfl) ?_
          refine z_imul C dX2_letterAt_40 ?_
          refine z_lushr C dX2_letterAt_41 ?_
          refine lv_ldc2 (v := 255) C.1 C.2.1 C.2.2.2.1 (C.2.2.1 _ (List.mem_cons_of_mem _ wk_X2_72)) dX2_letterAt_42 ?_
          refine x_topl (y := Int64.ofInt 255) (by decide) ?_
          refine z_land C dX2_letterAt_45 ?_
          refine z_l2i C dX2_letterAt_46 ?_
          cases hm
          exact c_iretP C h hr hlk dX2_letterAt_47 rfl
        · have hm := ite_f c11 hm
          refine lv_iconst (v := Int32.ofInt (-1)) C.1 C.2.1 dX2_letterAt_29 (by decide) ?_
          cases hm
          exact c_iretP C h hr hlk dX2_letterAt_30 rfl
end Z_Kh_letterAt
section Z_Mk_restart
variable {p : Program} {l : Launch} {e : Env} {s : State} {m : MethodId} {args : Array Value} {below : List Frame} {meth : Method} {c : Code} {D : va_G} {A : Nat → Prop} {k : Nat → ClassId} {N : Nat} {cd : Cond} {z mi : Nat} {aK aV : Nat → Nat} {g : Nat → Nat} {π : Sh}
set_option maxHeartbeats 8000000 in
set_option maxRecDepth 100000 in
theorem kc_Mk_restart (l : Launch) (D : va_G) (k : Nat → ClassId) (z mi : Nat) (aK aV : Nat → Nat) (g : Nat → Nat) (N : Nat)    {π : Sh} {σ : St}  {r : St} (hS : SHs π) (hm : Mk_restart N π σ  = some r) : Mv l yX3_restart (.code yX3_restart cX3_restart 1 none :: cWd) { frames := 0, cells := 0, slots := 0, locals := 0 } [rfv g 3] D (TYs k) (cW k z g π σ) (XV z mi aK aV (cW k z g π σ)) Unit (fun _ => True) (fun _ => cW k z g π r) 0 0 := by
  intro sz
  refine v_met (cc := cX3_restart) (maxL := 1) (ret := none) (lv := [(0, rfv g 3)]) (by decide) rfl (by simp [lg_sl, rfv_cat, cat_i, cat_l]) (by simp [lv_args, rfv_cat, cat_i, cat_l]) ?_
  intro p e s m below meth c ls C hE hr hlk hmn hl h
  rw [Mk_restart] at hm
  refine z_aload_n C dX3_restart_0 rfl (lv_at hl 0 rfl) ?_
  refine lv_iconst (v := Int32.ofInt 0) C.1 C.2.1 dX3_restart_1 (by decide) ?_
  refine cp_4_7 C h (sh_3 hS) cU_X3 (List.mem_cons_of_mem _ wl_X3_38) dX3_restart_2 (fun H locs h => ?_)
  refine z_aload_n C dX3_restart_5 rfl (lv_at hl 0 rfl) ?_
  refine lv_iconst (v := Int32.ofInt 0) C.1 C.2.1 dX3_restart_6 (by decide) ?_
  refine cp_4_8 C h (sh_3 hS) cU_X3 (List.mem_cons_of_mem _ wl_X3_41) dX3_restart_7 (fun H locs h => ?_)
  refine z_aload_n C dX3_restart_10 rfl (lv_at hl 0 rfl) ?_
  refine lv_iconst (v := Int32.ofInt 0) C.1 C.2.1 dX3_restart_11 (by decide) ?_
  refine cp_4_9 C h (sh_3 hS) cU_X3 (List.mem_cons_of_mem _ wl_X3_44) dX3_restart_12 (fun H locs h => ?_)
  cases hm
  exact c_vretP C h hr hlk dX3_restart_15
end Z_Mk_restart
section Z_Mk_fail
variable {p : Program} {l : Launch} {e : Env} {s : State} {m : MethodId} {args : Array Value} {below : List Frame} {meth : Method} {c : Code} {D : va_G} {A : Nat → Prop} {k : Nat → ClassId} {N : Nat} {cd : Cond} {z mi : Nat} {aK aV : Nat → Nat} {g : Nat → Nat} {π : Sh}
set_option maxHeartbeats 8000000 in
set_option maxRecDepth 100000 in
theorem kc_Mk_fail (l : Launch) (D : va_G) (k : Nat → ClassId) (z mi : Nat) (aK aV : Nat → Nat) (g : Nat → Nat) (N : Nat)    {π : Sh} {σ : St} {x1 : Int} {x2 : Int} {r : St} (hS : SHs π) (hm : Mk_fail N π σ x1 x2 = some r) : Mv l yX3_fail (.code yX3_fail cX3_fail 3 none :: cWd) { frames := 0, cells := 0, slots := 0, locals := 0 } [rfv g 3, .int (Int32.ofInt x1), .int (Int32.ofInt x2)] D (TYs k) (cW k z g π σ) (XV z mi aK aV (cW k z g π σ)) Unit (fun _ => True) (fun _ => cW k z g π r) 0 0 := by
  intro sz
  refine v_met (cc := cX3_fail) (maxL := 3) (ret := none) (lv := [(0, rfv g 3), (1, .int (Int32.ofInt x1)), (2, .int (Int32.ofInt x2))]) (by decide) rfl (by simp [lg_sl, rfv_cat, cat_i, cat_l]) (by simp [lv_args, rfv_cat, cat_i, cat_l]) ?_
  intro p e s m below meth c ls C hE hr hlk hmn hl h
  rw [Mk_fail] at hm
  refine z_aload_n C dX3_fail_0 rfl (lv_at hl 0 rfl) ?_
  refine lv_iload_n C.1 C.2.1 dX3_fail_1 rfl (lv_at hl 1 rfl) ?_
  refine cp_4_8 C h (sh_3 hS) cU_X3 (List.mem_cons_of_mem _ wl_X3_41) dX3_fail_2 (fun H locs h => ?_)
  refine z_aload_n C dX3_fail_5 rfl (lv_at hl 0 rfl) ?_
  refine lv_iload_n C.1 C.2.1 dX3_fail_6 rfl (lv_at hl 2 rfl) ?_
  refine cp_4_9 C h (sh_3 hS) cU_X3 (List.mem_cons_of_mem _ wl_X3_44) dX3_fail_7 (fun H locs h => ?_)
  cases hm
  exact c_vretP C h hr hlk dX3_fail_10
end Z_Mk_fail
section Z_Mk_operand
variable {p : Program} {l : Launch} {e : Env} {s : State} {m : MethodId} {args : Array Value} {below : List Frame} {meth : Method} {c : Code} {D : va_G} {A : Nat → Prop} {k : Nat → ClassId} {N : Nat} {cd : Cond} {z mi : Nat} {aK aV : Nat → Nat} {g : Nat → Nat} {π : Sh}
set_option maxHeartbeats 8000000 in
set_option maxRecDepth 100000 in
theorem kl_Mk_operand_44 {r : St × Int} (C : Cx p s m args c cX3_operand RX3 (cd :: cWd) D (TYs k) 4) (hr : meth.sig.returnType = (some (.object "CycleStudio$Pattern"))) (hlk : meth.locks = false) (hE : Ev z mi aK aV A s s.heap) (hS : SHs π)    {ls : Array Slot} {H : Heap} {locs : List Loc} {σ : St} {s0 : Int}  (hl : lv_has ls 4 []) (h : Hp D A s.heap H locs (cW k z g π σ)) (hm : Mk_operand_44 N π σ s0 = some r) : W p l e { frames := 3, cells := 0, slots := 0, locals := 81 } s m args below meth c H locs 0 0 (MQ below (va_Qq (fun v (_ : Unit) => v = rfo g r.2) (fun _ t => PostW D (TYs k) A (cW k z g π r.1) t) A) args s 0 0 A) (F0 m 44 ls [rfv g s0]) := by
  rw [Mk_operand_44] at hm
  cases hm
  exact c_aretP C h hr hlk (Or.inl ⟨_, rfl⟩) dX3_operand_44
set_option maxHeartbeats 8000000 in
set_option maxRecDepth 100000 in
theorem kl_Mk_operand_74 {r : St × Int} (C : Cx p s m args c cX3_operand RX3 (cd :: cWd) D (TYs k) 4) (hr : meth.sig.returnType = (some (.object "CycleStudio$Pattern"))) (hlk : meth.locks = false) (hE : Ev z mi aK aV A s s.heap) (hS : SHs π)    {ls : Array Slot} {H : Heap} {locs : List Loc} {σ : St} {s0 : Int}  (hl : lv_has ls 4 []) (h : Hp D A s.heap H locs (cW k z g π σ)) (hm : Mk_operand_74 N π σ s0 = some r) : W p l e { frames := 3, cells := 0, slots := 0, locals := 81 } s m args below meth c H locs 0 0 (MQ below (va_Qq (fun v (_ : Unit) => v = rfo g r.2) (fun _ t => PostW D (TYs k) A (cW k z g π r.1) t) A) args s 0 0 A) (F0 m 74 ls [rfv g s0]) := by
  rw [Mk_operand_74] at hm
  cases hm
  exact c_aretP C h hr hlk (Or.inl ⟨_, rfl⟩) dX3_operand_74
set_option maxHeartbeats 8000000 in
set_option maxRecDepth 100000 in
theorem kc_Mk_operand (l : Launch) (D : va_G) (k : Nat → ClassId) (z mi : Nat) (aK aV : Nat → Nat) (g : Nat → Nat) (N : Nat)    {π : Sh} {σ : St} {x1 : Int} {r : St × Int} (hS : SHs π) (hm : Mk_operand N π σ x1 = some r) : Mq l yX3_operand (.code yX3_operand cX3_operand 4 (some (.object "CycleStudio$Pattern")) :: cWd) { frames := 3, cells := 0, slots := 0, locals := 81 } [rfv g 3, .int (Int32.ofInt x1)] D (TYs k) (cW k z g π σ) (XV z mi aK aV (cW k z g π σ)) Unit (fun v _ => v = rfo g r.2) (fun _ => cW k z g π r.1) 0 0 := by
  intro sz
  refine v_met (cc := cX3_operand) (maxL := 4) (ret := (some (.object "CycleStudio$Pattern"))) (lv := [(0, rfv g 3), (1, .int (Int32.ofInt x1))]) (by decide) rfl (by simp [lg_sl, rfv_cat, cat_i, cat_l]) (by simp [lv_args, rfv_cat, cat_i, cat_l]) ?_
  intro p e s m below meth c ls C hE hr hlk hmn hl h
  rw [Mk_operand] at hm
  refine z_aload_n C dX3_operand_0 rfl (lv_at hl 0 rfl) ?_
  refine cg_4_2 C h (sh_3 hS) cU_X3 (List.mem_cons_of_mem _ wl_X3_20) dX3_operand_1 ?_
  refine z_aload_n C dX3_operand_4 rfl (lv_at hl 0 rfl) ?_
  refine cg_4_5 C h (sh_3 hS) cU_X3 (List.mem_cons_of_mem _ wl_X3_31) dX3_operand_5 ?_
  obtain ⟨g1, hm⟩ := grd_s hm
  refine c_qald C h (t := 5) (by decide) rfl (sh_6 hS) (ina_inb (n := 13) (sl_6 hS) (Nat.le_of_ble_eq_true rfl) g1) dX3_operand_8 ?_
  obtain ⟨v2, e3, hm⟩ := bnd_s hm
  rw [e3]
  refine z_astore_n (lv' := [(2, rfv g v2), (0, rfv g 3), (1, .int (Int32.ofInt x1))]) C dX3_operand_9 rfl hl (by decide) rfl (fun ls hl => ?_)
  refine lv_iload_n C.1 C.2.1 dX3_operand_10 rfl (lv_at hl 2 rfl) ?_
  obtain ⟨g4, hm⟩ := grd_s hm
  refine z_if_ge (tgt := 45) C dX3_operand_11 (by decide) g4 (fun c5 => ?_) (fun c5 => ?_)
  · have hm := ite_f c5 hm
    refine z_aload_n C dX3_operand_45 rfl (lv_at hl 1 rfl) ?_
    refine cg_4_3 C h (sh_3 hS) cU_X3 (List.mem_cons_of_mem _ wl_X3_24) dX3_operand_46 ?_
    refine z_aload_n C dX3_operand_49 rfl (lv_at hl 1 rfl) ?_
    refine cg_4_5 C h (sh_3 hS) cU_X3 (List.mem_cons_of_mem _ wl_X3_31) dX3_operand_50 ?_
    refine c_iald C h (sh_7 hS) (ina_inb (n := 13) (sl_7 hS) (Nat.le_of_ble_eq_true rfl) g1) dX3_operand_53 ?_
    refine lv_iload_n C.1 C.2.1 dX3_operand_54 rfl (lv_at hl 2 rfl) ?_
    refine z_iadd C dX3_operand_55 ?_
    obtain ⟨v6, e7, hm⟩ := bnd_s hm
    rw [e7]
    refine lv_istore_n (i := 3) (lv' := [(3, .int (Int32.ofInt v6)), (2, rfv g v2), (0, rfv g 3), (1, .int (Int32.ofInt x1))]) C.1 C.2.1 dX3_operand_56 rfl hl (by decide) (by simp [rfv_cat, cat_i, cat_l]) (fun ls hl => ?_)
    refine lv_iload_n C.1 C.2.1 dX3_operand_57 rfl (lv_at hl 0 rfl) ?_
    refine lv_sipush (v := Int32.ofInt 512) C.1 C.2.1 dX3_operand_58 (by decide) ?_
    obtain ⟨g8, hm⟩ := grd_s hm
    refine z_icmp_ge (tgt := 73) C dX3_operand_61 (by decide) g8 (by decide) (fun c9 => ?_) (fun c9 => ?_)
    · have hm := ite_f c9 hm
      refine z_null (g := g) C dX3_operand_73 ?_
      exact kl_Mk_operand_74 (N := N) C hr hlk hE hS (lv_sub hl [] rfl) h hm
    · have hm := ite_t c9 hm
      refine z_aload_n C dX3_operand_64 rfl (lv_at hl 2 rfl) ?_
      refine cg_4_1 C h (sh_3 hS) cU_X3 (List.mem_cons_of_mem _ wl_X3_15) dX3_operand_65 ?_
      refine lv_iload_n C.1 C.2.1 dX3_operand_68 rfl (lv_at hl 0 rfl) ?_
      obtain ⟨g10, hm⟩ := grd_s hm
      refine c_qald C h (t := 6) (by decide) rfl (sh_5 hS) (ina_inb (n := 512) (sl_5 hS) (Nat.le_of_ble_eq_true rfl) g10) dX3_operand_69 ?_
      refine lv_goto (tgt := 74) C.1 C.2.1 dX3_operand_70 (by decide) ?_
      exact kl_Mk_operand_74 (N := N) C hr hlk hE hS (lv_sub hl [] rfl) h hm
  · have hm := ite_t c5 hm
    refine lv_iload_n C.1 C.2.1 dX3_operand_14 rfl (lv_at hl 2 rfl) ?_
    refine z_ineg C dX3_operand_15 ?_
    refine z_aload_n C dX3_operand_16 rfl (lv_at hl 0 rfl) ?_
    obtain ⟨g11, hm⟩ := grd_s hm
    refine cg_1_4 C h g11 cU_X0 (List.mem_cons_of_mem _ wl_X3_90) dX3_operand_17 ?_
    obtain ⟨r12, e13, hm⟩ := obd_s hm
    obtain ⟨g15, hm⟩ := grd_s hm
    refine c_callViP C hE h g15 rfl (by decide) (kc_L_size l D k z mi aK aV g hS e13) (cwV 0 C.2.2.1 (gS_X3_52 _) rfl rfl rfl hd_Jx4a65c_size_8abf5 ⟨Nat.le_of_ble_eq_true rfl, Nat.le_of_ble_eq_true rfl⟩) rfl hl.1 rfl (Nat.le_of_ble_eq_true rfl) dX3_operand_20 ⟨(Nat.le_of_ble_eq_true rfl), (Nat.le_of_ble_eq_true rfl)⟩ (fun H locs h => ?_)
    obtain ⟨g17, hm⟩ := grd_s hm
    obtain ⟨g18, hm⟩ := grd_s hm
    refine z_icmp_gt (tgt := 43) C dX3_operand_23 (by decide) g17 g18 (fun c19 => ?_) (fun c19 => ?_)
    · have hm := ite_t c19 hm
      refine z_null (g := g) C dX3_operand_43 ?_
      exact kl_Mk_operand_44 (N := N) C hr hlk hE hS (lv_sub hl [] rfl) h hm
    · have hm := ite_f c19 hm
      refine z_aload_n C dX3_operand_26 rfl (lv_at hl 0 rfl) ?_
      refine cg_1_4 C h g11 cU_X0 (List.mem_cons_of_mem _ wl_X3_90) dX3_operand_27 ?_
      refine lv_iload_n C.1 C.2.1 dX3_operand_30 rfl (lv_at hl 2 rfl) ?_
      refine z_ineg C dX3_operand_31 ?_
      refine lv_iconst (v := Int32.ofInt 1) C.1 C.2.1 dX3_operand_32 (by decide) ?_
      refine z_isub C dX3_operand_33 ?_
      obtain ⟨r20, e21, hm⟩ := obd_s hm
      obtain ⟨g23, hm⟩ := grd_s hm
      refine c_callVqP C hE h g23 rfl (by decide) (kc_L_get l D k z mi aK aV g hS e21) (cwV 1 C.2.2.1 (gS_X3_58 _) rfl rfl rfl hd_Jx4a65c_get_915e3 ⟨Nat.le_of_ble_eq_true rfl, Nat.le_of_ble_eq_true rfl⟩) rfl hl.1 rfl (Nat.le_of_ble_eq_true rfl) dX3_operand_34 ⟨(Nat.le_of_ble_eq_true rfl), (Nat.le_of_ble_eq_true rfl)⟩ (fun H locs h => ?_)
      obtain ⟨g25, hm⟩ := grd_s hm
      refine v_cast C h g25 rfl (by decide) hE.2.2.2.1 (List.mem_cons_of_mem _ wc_X3_7) dX3_operand_37 ?_
      refine lv_goto (tgt := 44) C.1 C.2.1 dX3_operand_40 (by decide) ?_
      exact kl_Mk_operand_44 (N := N) C hr hlk hE hS (lv_sub hl [] rfl) h hm
end Z_Mk_operand
section Z_Mk_begin
variable {p : Program} {l : Launch} {e : Env} {s : State} {m : MethodId} {args : Array Value} {below : List Frame} {meth : Method} {c : Code} {D : va_G} {A : Nat → Prop} {k : Nat → ClassId} {N : Nat} {cd : Cond} {z mi : Nat} {aK aV : Nat → Nat} {g : Nat → Nat} {π : Sh}
set_option maxHeartbeats 8000000 in
set_option maxRecDepth 100000 in
theorem kl_Mk_begin_92 {r : St} (C : Cx p s m args c cX3_begin RX3 (cd :: cWd) D (TYs k) 5) (hr : meth.sig.returnType = none) (hlk : meth.locks = false) (hE : Ev z mi aK aV A s s.heap) (hS : SHs π)    {ls : Array Slot} {H : Heap} {locs : List Loc} {σ : St} {x1 : Int} {x2 : Int} {x3 : Int}  (hl : lv_has ls 5 [(0, rfv g 3), (1, rfv g x1), (2, .int (Int32.ofInt x2)), (3, .int (Int32.ofInt x3))]) (h : Hp D A s.heap H locs (cW k z g π σ)) (hm : Mk_begin_92 N π σ x1 x2 x3 = some r) : W p l e { frames := 4, cells := 0, slots := 0, locals := 104 } s m args below meth c H locs 0 0 (MQ below (va_Qv (fun (_ : Unit) => True) (fun _ t => PostW D (TYs k) A (cW k z g π r) t) A) args s 0 0 A) (F0 m 92 ls []) := by
  rw [Mk_begin_92] at hm
  refine z_aload_n C dX3_begin_92 rfl (lv_at hl 0 rfl) ?_
  refine lv_iload_n C.1 C.2.1 dX3_begin_93 rfl (lv_at hl 3 rfl) ?_
  refine cp_4_6 C h (sh_3 hS) cU_X3 (List.mem_cons_of_mem _ wl_X3_35) dX3_begin_94 (fun H locs h => ?_)
  refine z_aload_n C dX3_begin_97 rfl (lv_at hl 0 rfl) ?_
  refine lv_dup C.1 C.2.1 dX3_begin_98 (rfv_cat _ _) ?_
  refine cg_4_5 C h (sh_3 hS) cU_X3 (List.mem_cons_of_mem _ wl_X3_31) dX3_begin_99 ?_
  refine x_topi (y := Int32.ofInt (fl σ 85 3)) rfl ?_
  refine lv_iconst (v := Int32.ofInt 1) C.1 C.2.1 dX3_begin_102 (by decide) ?_
  refine z_iadd C dX3_begin_103 ?_
  refine cp_4_5 C h (sh_3 hS) cU_X3 (List.mem_cons_of_mem _ wl_X3_31) dX3_begin_104 (fun H locs h => ?_)
  refine z_aload_n C dX3_begin_107 rfl (lv_at hl 0 rfl) ?_
  refine cg_4_2 C h (sh_3 hS) cU_X3 (List.mem_cons_of_mem _ wl_X3_20) dX3_begin_108 ?_
  refine z_aload_n C dX3_begin_111 rfl (lv_at hl 0 rfl) ?_
  refine cg_4_5 C h (sh_3 hS) cU_X3 (List.mem_cons_of_mem _ wl_X3_31) dX3_begin_112 ?_
  refine x_topi (y := Int32.ofInt ((fl σ 85 3) + 1)) (by simp [fl, sf, se]) ?_
  refine z_aload_n C dX3_begin_115 rfl (lv_at hl 1 rfl) ?_
  obtain ⟨g27, hm⟩ := grd_s hm
  refine cg_10_8 C h g27 cU_X9 (List.mem_cons_of_mem _ wl_X3_103) dX3_begin_116 ?_
  refine x_topv (b := rfv g (fl σ 208 x1)) rfl ?_
  obtain ⟨g28, hm⟩ := grd_s hm
  obtain ⟨g29, hm⟩ := grd_s hm
  refine c_qast C h (t := 5) (c0 := 1) (by decide) rfl (by decide) rfl (sh_6 hS) (ina_inb (n := 13) (sl_6 hS) (Nat.le_of_ble_eq_true rfl) g28) g29 dX3_begin_119 (fun H locs h => ?_)
  refine z_aload_n C dX3_begin_120 rfl (lv_at hl 0 rfl) ?_
  refine cg_4_3 C h (sh_3 hS) cU_X3 (List.mem_cons_of_mem _ wl_X3_24) dX3_begin_121 ?_
  refine z_aload_n C dX3_begin_124 rfl (lv_at hl 0 rfl) ?_
  refine cg_4_5 C h (sh_3 hS) cU_X3 (List.mem_cons_of_mem _ wl_X3_31) dX3_begin_125 ?_
  refine x_topi (y := Int32.ofInt ((fl σ 85 3) + 1)) (by simp [fl, sf, se]) ?_
  refine lv_iload_n C.1 C.2.1 dX3_begin_128 rfl (lv_at hl 2 rfl) ?_
  refine c_iast C h (sh_7 hS) (ina_inb (n := 13) (sl_7 hS) (Nat.le_of_ble_eq_true rfl) g28) dX3_begin_129 (fun H locs h => ?_)
  refine z_aload_n C dX3_begin_130 rfl (lv_at hl 0 rfl) ?_
  refine cg_4_4 C h (sh_3 hS) cU_X3 (List.mem_cons_of_mem _ wl_X3_28) dX3_begin_131 ?_
  refine z_aload_n C dX3_begin_134 rfl (lv_at hl 0 rfl) ?_
  refine cg_4_5 C h (sh_3 hS) cU_X3 (List.mem_cons_of_mem _ wl_X3_31) dX3_begin_135 ?_
  refine x_topi (y := Int32.ofInt ((fl σ 85 3) + 1)) (by simp [fl, sf, se]) ?_
  refine lv_iconst (v := Int32.ofInt 0) C.1 C.2.1 dX3_begin_138 (by decide) ?_
  refine c_iast C h (sh_8 hS) (ina_inb (n := 13) (sl_8 hS) (Nat.le_of_ble_eq_true rfl) g28) dX3_begin_139 (fun H locs h => ?_)
  cases hm
  exact c_vretP C h hr hlk dX3_begin_140
set_option maxHeartbeats 8000000 in
set_option maxRecDepth 100000 in
theorem kl_Mk_begin_47 {r : St} (C : Cx p s m args c cX3_begin RX3 (cd :: cWd) D (TYs k) 5) (hr : meth.sig.returnType = none) (hlk : meth.locks = false) (hE : Ev z mi aK aV A s s.heap) (hS : SHs π)    (n : Nat) : ∀ {ls : Array Slot} {H : Heap} {locs : List Loc} {σ : St} {x1 : Int} {x2 : Int} {x3 : Int} {x4 : Int}, lv_has ls 5 [(0, rfv g 3), (1, rfv g x1), (2, .int (Int32.ofInt x2)), (3, .int (Int32.ofInt x3)), (4, .int (Int32.ofInt x4))] → Hp D A s.heap H locs (cW k z g π σ) → Mk_begin_47 N π n σ x1 x2 x3 x4 = some r → W p l e { frames := 4, cells := 0, slots := 0, locals := 104 } s m args below meth c H locs 0 0 (MQ below (va_Qv (fun (_ : Unit) => True) (fun _ t => PostW D (TYs k) A (cW k z g π r) t) A) args s 0 0 A) (F0 m 47 ls []) := by
  induction n with
  | zero => intro ls H locs σ x1 x2 x3 x4  hl h hm; cases (show none = some r from hm)
  | succ n hrec47 =>
    intro ls H locs σ x1 x2 x3 x4  hl h hm
    rw [Mk_begin_47] at hm
    refine lv_iload C.1 C.2.1 dX3_begin_47 (lv_at hl 4 rfl) ?_
    refine z_aload_n C dX3_begin_49 rfl (lv_at hl 1 rfl) ?_
    obtain ⟨g13, hm⟩ := grd_s hm
    refine cg_10_9 C h g13 cU_X9 (List.mem_cons_of_mem _ wl_X3_97) dX3_begin_50 ?_
    obtain ⟨g14, hm⟩ := grd_s hm
    obtain ⟨g15, hm⟩ := grd_s hm
    refine z_icmp_ge (tgt := 92) C dX3_begin_53 (by decide) g14 g15 (fun c16 => ?_) (fun c16 => ?_)
    · have hm := ite_f c16 hm
      exact kl_Mk_begin_92 (N := N) C hr hlk hE hS (lv_sub hl [0, 1, 2, 3] rfl) h hm
    · have hm := ite_t c16 hm
      refine lv_iload_n C.1 C.2.1 dX3_begin_56 rfl (lv_at hl 2 rfl) ?_
      refine lv_iload C.1 C.2.1 dX3_begin_57 (lv_at hl 4 rfl) ?_
      refine z_iadd C dX3_begin_59 ?_
      refine lv_sipush (v := Int32.ofInt 512) C.1 C.2.1 dX3_begin_60 (by decide) ?_
      obtain ⟨g17, hm⟩ := grd_s hm
      refine z_icmp_ge (tgt := 92) C dX3_begin_63 (by decide) g17 (by decide) (fun c18 => ?_) (fun c18 => ?_)
      · have hm := ite_f c18 hm
        exact kl_Mk_begin_92 (N := N) C hr hlk hE hS (lv_sub hl [0, 1, 2, 3] rfl) h hm
      · have hm := ite_t c18 hm
        refine z_aload_n C dX3_begin_66 rfl (lv_at hl 0 rfl) ?_
        refine cg_4_1 C h (sh_3 hS) cU_X3 (List.mem_cons_of_mem _ wl_X3_15) dX3_begin_67 ?_
        refine lv_iload_n C.1 C.2.1 dX3_begin_70 rfl (lv_at hl 2 rfl) ?_
        refine lv_iload C.1 C.2.1 dX3_begin_71 (lv_at hl 4 rfl) ?_
        refine z_iadd C dX3_begin_73 ?_
        refine z_aload_n C dX3_begin_74 rfl (lv_at hl 0 rfl) ?_
        refine z_aload_n C dX3_begin_75 rfl (lv_at hl 1 rfl) ?_
        refine cg_10_10 C h g13 cU_X9 (List.mem_cons_of_mem _ wl_X3_100) dX3_begin_76 ?_
        refine lv_iload C.1 C.2.1 dX3_begin_79 (lv_at hl 4 rfl) ?_
        obtain ⟨g19, hm⟩ := grd_s hm
        obtain ⟨g20, hm⟩ := grd_s hm
        refine c_iald C h g19 g20 dX3_begin_81 ?_
        obtain ⟨r21, e22, hm⟩ := obd_s hm
        refine c_callVqP C hE h (sh_3 hS) rfl (by decide) (kc_Mk_operand l D k z mi aK aV g N hS e22) (cwV 1 C.2.2.1 (gS_X3_74 _) rfl rfl rfl hd_X3_operand ⟨Nat.le_of_ble_eq_true rfl, Nat.le_of_ble_eq_true rfl⟩) rfl hl.1 rfl (by simp [rfv_cat, cat_i, cat_l]) dX3_begin_82 ⟨(Nat.le_of_ble_eq_true rfl), (Nat.le_of_ble_eq_true rfl)⟩ (fun H locs h => ?_)
        obtain ⟨g25, hm⟩ := grd_s hm
        obtain ⟨g26, hm⟩ := grd_s hm
        refine c_qast C h (t := 6) (c0 := 5) (by decide) rfl (by decide) rfl (sh_5 hS) (ina_inb (n := 512) (sl_5 hS) (Nat.le_of_ble_eq_true rfl) g25) g26 dX3_begin_85 (fun H locs h => ?_)
        refine lv_iinc (v := Int32.ofInt (x4 + 1)) (lv' := [(4, .int (Int32.ofInt (x4 + 1))), (0, rfv g 3), (1, rfv g x1), (2, .int (Int32.ofInt x2)), (3, .int (Int32.ofInt x3))]) C.1 C.2.1 dX3_begin_86 hl (k := 4) rfl (c32_add _ _) (by decide) rfl (fun ls hl => ?_)
        refine lv_goto (tgt := 47) C.1 C.2.1 dX3_begin_89 (by decide) ?_
        exact hrec47 (lv_sub hl [1, 2, 3, 4, 0] rfl) h hm
set_option maxHeartbeats 8000000 in
set_option maxRecDepth 100000 in
theorem kc_Mk_begin (l : Launch) (D : va_G) (k : Nat → ClassId) (z mi : Nat) (aK aV : Nat → Nat) (g : Nat → Nat) (N : Nat)    {π : Sh} {σ : St} {x1 : Int} {x2 : Int} {x3 : Int} {r : St} (hS : SHs π) (hm : Mk_begin N π σ x1 x2 x3 = some r) : Mv l yX3_begin (.code yX3_begin cX3_begin 5 none :: cWd) { frames := 4, cells := 0, slots := 0, locals := 104 } [rfv g 3, rfv g x1, .int (Int32.ofInt x2), .int (Int32.ofInt x3)] D (TYs k) (cW k z g π σ) (XV z mi aK aV (cW k z g π σ)) Unit (fun _ => True) (fun _ => cW k z g π r) 0 0 := by
  intro sz
  refine v_met (cc := cX3_begin) (maxL := 5) (ret := none) (lv := [(0, rfv g 3), (1, rfv g x1), (2, .int (Int32.ofInt x2)), (3, .int (Int32.ofInt x3))]) (by decide) rfl (by simp [lg_sl, rfv_cat, cat_i, cat_l]) (by simp [lv_args, rfv_cat, cat_i, cat_l]) ?_
  intro p e s m below meth c ls C hE hr hlk hmn hl h
  rw [Mk_begin] at hm
  refine z_aload_n C dX3_begin_0 rfl (lv_at hl 0 rfl) ?_
  refine cg_4_5 C h (sh_3 hS) cU_X3 (List.mem_cons_of_mem _ wl_X3_31) dX3_begin_1 ?_
  refine lv_bipush (v := Int32.ofInt 12) C.1 C.2.1 dX3_begin_4 (by decide) ?_
  obtain ⟨g1, hm⟩ := grd_s hm
  refine z_icmp_lt (tgt := 17) C dX3_begin_6 (by decide) g1 (by decide) (fun c2 => ?_) (fun c2 => ?_)
  · have hm := ite_t c2 hm
    refine z_aload_n C dX3_begin_17 rfl (lv_at hl 0 rfl) ?_
    refine cg_4_7 C h (sh_3 hS) cU_X3 (List.mem_cons_of_mem _ wl_X3_38) dX3_begin_18 ?_
    refine lv_sipush (v := Int32.ofInt 200) C.1 C.2.1 dX3_begin_21 (by decide) ?_
    obtain ⟨g3, hm⟩ := grd_s hm
    refine z_icmp_lt (tgt := 34) C dX3_begin_24 (by decide) g3 (by decide) (fun c4 => ?_) (fun c4 => ?_)
    · have hm := ite_t c4 hm
      refine z_aload_n C dX3_begin_34 rfl (lv_at hl 0 rfl) ?_
      refine lv_dup C.1 C.2.1 dX3_begin_35 (rfv_cat _ _) ?_
      refine cg_4_7 C h (sh_3 hS) cU_X3 (List.mem_cons_of_mem _ wl_X3_38) dX3_begin_36 ?_
      refine lv_iconst (v := Int32.ofInt 1) C.1 C.2.1 dX3_begin_39 (by decide) ?_
      refine z_iadd C dX3_begin_40 ?_
      refine cp_4_7 C h (sh_3 hS) cU_X3 (List.mem_cons_of_mem _ wl_X3_38) dX3_begin_41 (fun H locs h => ?_)
      refine lv_iconst (v := Int32.ofInt 0) C.1 C.2.1 dX3_begin_44 (by decide) ?_
      refine lv_istore (lv' := [(4, .int (Int32.ofInt 0)), (0, rfv g 3), (1, rfv g x1), (2, .int (Int32.ofInt x2)), (3, .int (Int32.ofInt x3))]) C.1 C.2.1 dX3_begin_45 hl (by decide) rfl (fun ls hl => ?_)
      exact kl_Mk_begin_47 (N := N) C hr hlk hE hS N (lv_sub hl [1, 2, 3, 4, 0] rfl) h hm
    · have hm := ite_f c4 hm
      refine z_aload_n C dX3_begin_27 rfl (lv_at hl 0 rfl) ?_
      refine lv_iconst (v := Int32.ofInt 5) C.1 C.2.1 dX3_begin_28 (by decide) ?_
      refine lv_iload_n C.1 C.2.1 dX3_begin_29 rfl (lv_at hl 3 rfl) ?_
      obtain ⟨r5, e6, hm⟩ := obd_s hm
      refine c_callVvP C hE h (sh_3 hS) rfl (by decide) (kc_Mk_fail l D k z mi aK aV g N hS e6) (cwV 2 C.2.2.1 (gS_X3_93 _) rfl rfl rfl hd_X3_fail ⟨Nat.le_of_ble_eq_true rfl, Nat.le_of_ble_eq_true rfl⟩) rfl hl.1 rfl (Nat.le_of_ble_eq_true rfl) dX3_begin_30 ⟨(Nat.le_of_ble_eq_true rfl), (Nat.le_of_ble_eq_true rfl)⟩ (fun H locs h => ?_)
      cases hm
      exact c_vretP C h hr hlk dX3_begin_33
  · have hm := ite_f c2 hm
    refine z_aload_n C dX3_begin_9 rfl (lv_at hl 0 rfl) ?_
    refine lv_bipush (v := Int32.ofInt 10) C.1 C.2.1 dX3_begin_10 (by decide) ?_
    refine lv_iload_n C.1 C.2.1 dX3_begin_12 rfl (lv_at hl 3 rfl) ?_
    obtain ⟨r9, e10, hm⟩ := obd_s hm
    refine c_callVvP C hE h (sh_3 hS) rfl (by decide) (kc_Mk_fail l D k z mi aK aV g N hS e10) (cwV 2 C.2.2.1 (gS_X3_93 _) rfl rfl rfl hd_X3_fail ⟨Nat.le_of_ble_eq_true rfl, Nat.le_of_ble_eq_true rfl⟩) rfl hl.1 rfl (Nat.le_of_ble_eq_true rfl) dX3_begin_13 ⟨(Nat.le_of_ble_eq_true rfl), (Nat.le_of_ble_eq_true rfl)⟩ (fun H locs h => ?_)
    cases hm
    exact c_vretP C h hr hlk dX3_begin_16
end Z_Mk_begin
section Z_Pt_excess
variable {p : Program} {l : Launch} {e : Env} {s : State} {m : MethodId} {args : Array Value} {below : List Frame} {meth : Method} {c : Code} {D : va_G} {A : Nat → Prop} {k : Nat → ClassId} {N : Nat} {cd : Cond} {z mi : Nat} {aK aV : Nat → Nat} {g : Nat → Nat} {π : Sh}
set_option maxHeartbeats 8000000 in
set_option maxRecDepth 100000 in
theorem kc_Pt_excess (l : Launch) (D : va_G) (k : Nat → ClassId) (z mi : Nat) (aK aV : Nat → Nat) (g : Nat → Nat) (N : Nat)    {π : Sh} {σ : St} {x0 : Int} {r : St × Int} (hS : SHs π) (hm : Pt_excess N π σ x0 = some r) : Mi l yX4_excess (.code yX4_excess cX4_excess 1 (some .int) :: cWd) { frames := 0, cells := 0, slots := 0, locals := 0 } [rfv g x0] D (TYs k) (cW k z g π σ) (XV z mi aK aV (cW k z g π σ)) Unit (fun v _ => v = Int32.ofInt r.2) (fun _ => cW k z g π r.1) 0 0 := by
  intro sz
  refine v_met (cc := cX4_excess) (maxL := 1) (ret := (some .int)) (lv := [(0, rfv g x0)]) (by decide) rfl (by simp [lg_sl, rfv_cat, cat_i, cat_l]) (by simp [lv_args, rfv_cat, cat_i, cat_l]) ?_
  intro p e s m below meth c ls C hE hr hlk hmn hl h
  rw [Pt_excess] at hm
  refine z_aload_n C dX4_excess_0 rfl (lv_at hl 0 rfl) ?_
  obtain ⟨g1, hm⟩ := grd_s hm
  refine cg_5_2 C h g1 cU_X4 (List.mem_cons_of_mem _ wl_X4_7) dX4_excess_1 ?_
  refine lv_ldc2 (v := 1000000) C.1 C.2.1 C.2.2.2.1 (C.2.2.1 _ (List.mem_cons_of_mem _ wk_X4_38)) dX4_excess_4 ?_
  refine x_topl (y := Int64.ofInt 1000000) (by decide) ?_
  obtain ⟨g2, hm⟩ := grd_s hm
  refine W.lcmp C.1 C.2.1 dX4_excess_7 ?_
  refine z_lcmp_le (tgt := 14) C dX4_excess_8 (by decide) g2 (by decide) (fun c3 => ?_) (fun c3 => ?_)
  · have hm := ite_f c3 hm
    refine z_aload_n C dX4_excess_14 rfl (lv_at hl 0 rfl) ?_
    refine cg_5_3 C h g1 cU_X4 (List.mem_cons_of_mem _ wl_X4_13) dX4_excess_15 ?_
    refine lv_ldc2 (v := 400) C.1 C.2.1 C.2.2.2.1 (C.2.2.1 _ (List.mem_cons_of_mem _ wk_X4_40)) dX4_excess_18 ?_
    refine x_topl (y := Int64.ofInt 400) (by decide) ?_
    obtain ⟨g4, hm⟩ := grd_s hm
    refine W.lcmp C.1 C.2.1 dX4_excess_21 ?_
    refine z_lcmp_le (tgt := 28) C dX4_excess_22 (by decide) g4 (by decide) (fun c5 => ?_) (fun c5 => ?_)
    · have hm := ite_f c5 hm
      refine z_aload_n C dX4_excess_28 rfl (lv_at hl 0 rfl) ?_
      refine cg_5_4 C h g1 cU_X4 (List.mem_cons_of_mem _ wl_X4_16) dX4_excess_29 ?_
      refine lv_ldc2 (v := 64) C.1 C.2.1 C.2.2.2.1 (C.2.2.1 _ (List.mem_cons_of_mem _ wk_X4_42)) dX4_excess_32 ?_
      refine x_topl (y := Int64.ofInt 64) (by decide) ?_
      obtain ⟨g6, hm⟩ := grd_s hm
      refine W.lcmp C.1 C.2.1 dX4_excess_35 ?_
      refine z_lcmp_le (tgt := 42) C dX4_excess_36 (by decide) g6 (by decide) (fun c7 => ?_) (fun c7 => ?_)
      · have hm := ite_f c7 hm
        refine z_aload_n C dX4_excess_42 rfl (lv_at hl 0 rfl) ?_
        refine cg_5_5 C h g1 cU_X4 (List.mem_cons_of_mem _ wl_X4_19) dX4_excess_43 ?_
        refine lv_ldc2 (v := 50000) C.1 C.2.1 C.2.2.2.1 (C.2.2.1 _ (List.mem_cons_of_mem _ wk_X4_44)) dX4_excess_46 ?_
        refine x_topl (y := Int64.ofInt 50000) (by decide) ?_
        obtain ⟨g8, hm⟩ := grd_s hm
        refine W.lcmp C.1 C.2.1 dX4_excess_49 ?_
        refine z_lcmp_le (tgt := 56) C dX4_excess_50 (by decide) g8 (by decide) (fun c9 => ?_) (fun c9 => ?_)
        · have hm := ite_f c9 hm
          refine z_aload_n C dX4_excess_56 rfl (lv_at hl 0 rfl) ?_
          refine cg_5_6 C h g1 cU_X4 (List.mem_cons_of_mem _ wl_X4_22) dX4_excess_57 ?_
          refine lv_bipush (v := Int32.ofInt 60) C.1 C.2.1 dX4_excess_60 (by decide) ?_
          obtain ⟨g10, hm⟩ := grd_s hm
          refine z_icmp_le (tgt := 70) C dX4_excess_62 (by decide) g10 (by decide) (fun c11 => ?_) (fun c11 => ?_)
          · have hm := ite_f c11 hm
            refine lv_iconst (v := Int32.ofInt 0) C.1 C.2.1 dX4_excess_70 (by decide) ?_
            cases hm
            exact c_iretP C h hr hlk dX4_excess_71 rfl
          · have hm := ite_t c11 hm
            refine lv_bipush (v := Int32.ofInt 10) C.1 C.2.1 dX4_excess_65 (by decide) ?_
            refine lv_goto (tgt := 71) C.1 C.2.1 dX4_excess_67 (by decide) ?_
            cases hm
            exact c_iretP C h hr hlk dX4_excess_71 rfl
        · have hm := ite_t c9 hm
          refine lv_bipush (v := Int32.ofInt 9) C.1 C.2.1 dX4_excess_53 (by decide) ?_
          cases hm
          exact c_iretP C h hr hlk dX4_excess_55 rfl
      · have hm := ite_t c7 hm
        refine lv_bipush (v := Int32.ofInt 8) C.1 C.2.1 dX4_excess_39 (by decide) ?_
        cases hm
        exact c_iretP C h hr hlk dX4_excess_41 rfl
    · have hm := ite_t c5 hm
      refine lv_bipush (v := Int32.ofInt 7) C.1 C.2.1 dX4_excess_25 (by decide) ?_
      cases hm
      exact c_iretP C h hr hlk dX4_excess_27 rfl
  · have hm := ite_t c3 hm
    refine lv_bipush (v := Int32.ofInt 6) C.1 C.2.1 dX4_excess_11 (by decide) ?_
    cases hm
    exact c_iretP C h hr hlk dX4_excess_13 rfl
end Z_Pt_excess
section Z_Pt_init
variable {p : Program} {l : Launch} {e : Env} {s : State} {m : MethodId} {args : Array Value} {below : List Frame} {meth : Method} {c : Code} {D : va_G} {A : Nat → Prop} {k : Nat → ClassId} {N : Nat} {cd : Cond} {z mi : Nat} {aK aV : Nat → Nat} {g : Nat → Nat} {π : Sh}
set_option maxHeartbeats 8000000 in
set_option maxRecDepth 100000 in
theorem kc_Pt_init (l : Launch) (D : va_G) (k : Nat → ClassId) (z mi : Nat) (aK aV : Nat → Nat) (g : Nat → Nat) (N : Nat)    {π : Sh} {σ : St} {x0 : Int} {x1 : Int} {x2 : Int} {r : St} (hS : SHs π) (hm : Pt_init N π σ x0 x1 x2 = some r) : Mv l yX4_init (.code yX4_init cX4_init 3 none :: cWd) { frames := 1, cells := 0, slots := 0, locals := 30 } [rfv g x0, rfv g x1, rfv g x2] D (TYs k) (cW k z g π σ) (XV z mi aK aV (cW k z g π σ)) Unit (fun _ => True) (fun _ => cW k z g π r) 0 0 := by
  intro sz
  refine v_met (cc := cX4_init) (maxL := 3) (ret := none) (lv := [(0, rfv g x0), (1, rfv g x1), (2, rfv g x2)]) (by decide) rfl (by simp [lg_sl, rfv_cat, cat_i, cat_l]) (by simp [lv_args, rfv_cat, cat_i, cat_l]) ?_
  intro p e s m below meth c ls C hE hr hlk hmn hl h
  rw [Pt_init] at hm
  refine z_aload_n C dX4_init_0 rfl (lv_at hl 0 rfl) ?_
  obtain ⟨g1, hm⟩ := grd_s hm
  refine v_objInit C hl.1 g1.1 dX4_init_1 (List.mem_cons_of_mem _ wo_X4_1) (List.mem_cons_of_mem _ wo_i) (List.mem_cons_of_mem _ wo_c) (Nat.le_of_ble_eq_true rfl) (by simp [rfv_cat, cat_i, cat_l]) ?_
  refine z_aload_n C dX4_init_4 rfl (lv_at hl 0 rfl) ?_
  refine lv_lconst (v := Int64.ofInt 1) C.1 C.2.1 dX4_init_5 (by decide) ?_
  refine cp_5_2 C h g1 cU_X4 (List.mem_cons_of_mem _ wl_X4_7) dX4_init_6 (fun H locs h => ?_)
  refine z_aload_n C dX4_init_9 rfl (lv_at hl 0 rfl) ?_
  refine lv_lconst (v := Int64.ofInt 0) C.1 C.2.1 dX4_init_10 (by decide) ?_
  refine cp_5_3 C h g1 cU_X4 (List.mem_cons_of_mem _ wl_X4_13) dX4_init_11 (fun H locs h => ?_)
  refine z_aload_n C dX4_init_14 rfl (lv_at hl 0 rfl) ?_
  refine lv_lconst (v := Int64.ofInt 1) C.1 C.2.1 dX4_init_15 (by decide) ?_
  refine cp_5_4 C h g1 cU_X4 (List.mem_cons_of_mem _ wl_X4_16) dX4_init_16 (fun H locs h => ?_)
  refine z_aload_n C dX4_init_19 rfl (lv_at hl 0 rfl) ?_
  refine lv_lconst (v := Int64.ofInt 1) C.1 C.2.1 dX4_init_20 (by decide) ?_
  refine cp_5_5 C h g1 cU_X4 (List.mem_cons_of_mem _ wl_X4_19) dX4_init_21 (fun H locs h => ?_)
  refine z_aload_n C dX4_init_24 rfl (lv_at hl 0 rfl) ?_
  refine lv_iconst (v := Int32.ofInt 1) C.1 C.2.1 dX4_init_25 (by decide) ?_
  refine cp_5_6 C h g1 cU_X4 (List.mem_cons_of_mem _ wl_X4_22) dX4_init_26 (fun H locs h => ?_)
  refine z_aload_n C dX4_init_29 rfl (lv_at hl 0 rfl) ?_
  refine z_aload_n C dX4_init_30 rfl (lv_at hl 1 rfl) ?_
  refine cpF_5_0 C hmn h g1 cU_X4 (List.mem_cons_of_mem _ wl_X4_26) rfl dX4_init_31 (fun H locs h => ?_)
  refine z_aload_n C dX4_init_34 rfl (lv_at hl 0 rfl) ?_
  refine z_aload_n C dX4_init_35 rfl (lv_at hl 2 rfl) ?_
  refine cpF_5_1 C hmn h g1 cU_X4 (List.mem_cons_of_mem _ wl_X4_30) rfl dX4_init_36 (fun H locs h => ?_)
  cases hm
  exact c_vretP C h hr hlk dX4_init_39
end Z_Pt_init
section Z_Pt_bounds
variable {p : Program} {l : Launch} {e : Env} {s : State} {m : MethodId} {args : Array Value} {below : List Frame} {meth : Method} {c : Code} {D : va_G} {A : Nat → Prop} {k : Nat → ClassId} {N : Nat} {cd : Cond} {z mi : Nat} {aK aV : Nat → Nat} {g : Nat → Nat} {π : Sh}
set_option maxHeartbeats 8000000 in
set_option maxRecDepth 100000 in
theorem kc_Pt_bounds (l : Launch) (D : va_G) (k : Nat → ClassId) (z mi : Nat) (aK aV : Nat → Nat) (g : Nat → Nat) (N : Nat)    {π : Sh} {σ : St} {x0 : Int} {x1 : Int} {x3 : Int} {x5 : Int} {x7 : Int} {r : St} (hS : SHs π) (hm : Pt_bounds N π σ x0 x1 x3 x5 x7 = some r) : Mv l yX4_bounds (.code yX4_bounds cX4_bounds 9 none :: cWd) { frames := 0, cells := 0, slots := 0, locals := 0 } [rfv g x0, .long (Int64.ofInt x1), .long (Int64.ofInt x3), .long (Int64.ofInt x5), .long (Int64.ofInt x7)] D (TYs k) (cW k z g π σ) (XV z mi aK aV (cW k z g π σ)) Unit (fun _ => True) (fun _ => cW k z g π r) 0 0 := by
  intro sz
  refine v_met (cc := cX4_bounds) (maxL := 9) (ret := none) (lv := [(0, rfv g x0), (1, .long (Int64.ofInt x1)), (3, .long (Int64.ofInt x3)), (5, .long (Int64.ofInt x5)), (7, .long (Int64.ofInt x7))]) (by decide) rfl (by simp [lg_sl, rfv_cat, cat_i, cat_l]) (by simp [lv_args, rfv_cat, cat_i, cat_l]) ?_
  intro p e s m below meth c ls C hE hr hlk hmn hl h
  rw [Pt_bounds] at hm
  refine z_aload_n C dX4_bounds_0 rfl (lv_at hl 0 rfl) ?_
  refine lv_lload_n C.1 C.2.1 dX4_bounds_1 rfl (lv_at hl 1 rfl) ?_
  obtain ⟨g1, hm⟩ := grd_s hm
  refine cp_5_2 C h g1 cU_X4 (List.mem_cons_of_mem _ wl_X4_7) dX4_bounds_2 (fun H locs h => ?_)
  refine z_aload_n C dX4_bounds_5 rfl (lv_at hl 0 rfl) ?_
  refine lv_lload_n C.1 C.2.1 dX4_bounds_6 rfl (lv_at hl 2 rfl) ?_
  refine cp_5_3 C h g1 cU_X4 (List.mem_cons_of_mem _ wl_X4_13) dX4_bounds_7 (fun H locs h => ?_)
  refine z_aload_n C dX4_bounds_10 rfl (lv_at hl 0 rfl) ?_
  refine lv_lload C.1 C.2.1 dX4_bounds_11 (lv_at hl 3 rfl) ?_
  refine cp_5_4 C h g1 cU_X4 (List.mem_cons_of_mem _ wl_X4_16) dX4_bounds_13 (fun H locs h => ?_)
  refine z_aload_n C dX4_bounds_16 rfl (lv_at hl 0 rfl) ?_
  refine lv_lload C.1 C.2.1 dX4_bounds_17 (lv_at hl 4 rfl) ?_
  refine cp_5_5 C h g1 cU_X4 (List.mem_cons_of_mem _ wl_X4_19) dX4_bounds_19 (fun H locs h => ?_)
  cases hm
  exact c_vretP C h hr hlk dX4_bounds_22
end Z_Pt_bounds
section Z_Pt_repeatsOf
variable {p : Program} {l : Launch} {e : Env} {s : State} {m : MethodId} {args : Array Value} {below : List Frame} {meth : Method} {c : Code} {D : va_G} {A : Nat → Prop} {k : Nat → ClassId} {N : Nat} {cd : Cond} {z mi : Nat} {aK aV : Nat → Nat} {g : Nat → Nat} {π : Sh}
set_option maxHeartbeats 8000000 in
set_option maxRecDepth 100000 in
theorem kl_Pt_repeatsOf_22 {r : St × Int} (C : Cx p s m args c cX4_repeatsOf RX4 (cd :: cWd) D (TYs k) 2) (hr : meth.sig.returnType = (some .long)) (hlk : meth.locks = false) (hE : Ev z mi aK aV A s s.heap) (hS : SHs π)    {ls : Array Slot} {H : Heap} {locs : List Loc} {σ : St}   (hl : lv_has ls 2 []) (h : Hp D A s.heap H locs (cW k z g π σ)) (hm : Pt_repeatsOf_22 N π σ  = some r) : W p l e { frames := 0, cells := 0, slots := 0, locals := 0 } s m args below meth c H locs 0 0 (MQ below (va_Ql (fun v (_ : Unit) => v = Int64.ofInt r.2) (fun _ t => PostW D (TYs k) A (cW k z g π r.1) t) A) args s 0 0 A) (F0 m 22 ls []) := by
  rw [Pt_repeatsOf_22] at hm
  refine lv_lconst (v := Int64.ofInt 1) C.1 C.2.1 dX4_repeatsOf_22 (by decide) ?_
  refine lv_goto (tgt := 36) C.1 C.2.1 dX4_repeatsOf_23 (by decide) ?_
  cases hm
  exact c_lretP C h hr hlk dX4_repeatsOf_36
set_option maxHeartbeats 8000000 in
set_option maxRecDepth 100000 in
theorem kc_Pt_repeatsOf (l : Launch) (D : va_G) (k : Nat → ClassId) (z mi : Nat) (aK aV : Nat → Nat) (g : Nat → Nat) (N : Nat)    {π : Sh} {σ : St} {x0 : Int} {x1 : Int} {r : St × Int} (hS : SHs π) (hm : Pt_repeatsOf N π σ x0 x1 = some r) : Ml l yX4_repeatsOf (.code yX4_repeatsOf cX4_repeatsOf 2 (some .long) :: cWd) { frames := 0, cells := 0, slots := 0, locals := 0 } [rfv g x0, .int (Int32.ofInt x1)] D (TYs k) (cW k z g π σ) (XV z mi aK aV (cW k z g π σ)) Unit (fun v _ => v = Int64.ofInt r.2) (fun _ => cW k z g π r.1) 0 0 := by
  intro sz
  refine v_met (cc := cX4_repeatsOf) (maxL := 2) (ret := (some .long)) (lv := [(0, rfv g x0), (1, .int (Int32.ofInt x1))]) (by decide) rfl (by simp [lg_sl, rfv_cat, cat_i, cat_l]) (by simp [lv_args, rfv_cat, cat_i, cat_l]) ?_
  intro p e s m below meth c ls C hE hr hlk hmn hl h
  rw [Pt_repeatsOf] at hm
  refine z_aload_n C dX4_repeatsOf_0 rfl (lv_at hl 0 rfl) ?_
  obtain ⟨g1, hm⟩ := grd_s hm
  refine cg_5_0 C h g1 cU_X4 (List.mem_cons_of_mem _ wl_X4_26) dX4_repeatsOf_1 ?_
  obtain ⟨g2, hm⟩ := grd_s hm
  refine cg_10_12 C h g2 cU_X9 (List.mem_cons_of_mem _ wl_X4_113) dX4_repeatsOf_4 ?_
  refine z_ifnull (tgt := 22) C dX4_repeatsOf_7 (by decide) (fun c3 => ?_) (fun c3 => ?_)
  · have hm := ite_t c3 hm
    exact kl_Pt_repeatsOf_22 (N := N) C hr hlk hE hS (lv_sub hl [] rfl) h hm
  · have hm := ite_f c3 hm
    refine lv_iload_n C.1 C.2.1 dX4_repeatsOf_10 rfl (lv_at hl 1 rfl) ?_
    refine z_aload_n C dX4_repeatsOf_11 rfl (lv_at hl 0 rfl) ?_
    refine cg_5_0 C h g1 cU_X4 (List.mem_cons_of_mem _ wl_X4_26) dX4_repeatsOf_12 ?_
    refine cg_10_12 C h g2 cU_X9 (List.mem_cons_of_mem _ wl_X4_113) dX4_repeatsOf_15 ?_
    obtain ⟨g4, hm⟩ := grd_s hm
    obtain ⟨g5, hm⟩ := grd_s hm
    refine c_alen C h (t := 2) rfl g4 g5 dX4_repeatsOf_18 ?_
    obtain ⟨g6, hm⟩ := grd_s hm
    obtain ⟨g7, hm⟩ := grd_s hm
    refine z_icmp_lt (tgt := 26) C dX4_repeatsOf_19 (by decide) g6 g7 (fun c8 => ?_) (fun c8 => ?_)
    · have hm := ite_t c8 hm
      refine z_aload_n C dX4_repeatsOf_26 rfl (lv_at hl 0 rfl) ?_
      refine cg_5_0 C h g1 cU_X4 (List.mem_cons_of_mem _ wl_X4_26) dX4_repeatsOf_27 ?_
      refine cg_10_12 C h g2 cU_X9 (List.mem_cons_of_mem _ wl_X4_113) dX4_repeatsOf_30 ?_
      refine lv_iload_n C.1 C.2.1 dX4_repeatsOf_33 rfl (lv_at hl 1 rfl) ?_
      obtain ⟨g9, hm⟩ := grd_s hm
      refine c_iald C h g4 g9 dX4_repeatsOf_34 ?_
      obtain ⟨g10, hm⟩ := grd_s hm
      refine z_i2l C dX4_repeatsOf_35 g10 ?_
      cases hm
      exact c_lretP C h hr hlk dX4_repeatsOf_36
    · have hm := ite_f c8 hm
      exact kl_Pt_repeatsOf_22 (N := N) C hr hlk hE hS (lv_sub hl [] rfl) h hm
end Z_Pt_repeatsOf
section Z_Pt_crowdOfAll
variable {p : Program} {l : Launch} {e : Env} {s : State} {m : MethodId} {args : Array Value} {below : List Frame} {meth : Method} {c : Code} {D : va_G} {A : Nat → Prop} {k : Nat → ClassId} {N : Nat} {cd : Cond} {z mi : Nat} {aK aV : Nat → Nat} {g : Nat → Nat} {π : Sh}
set_option maxHeartbeats 8000000 in
set_option maxRecDepth 100000 in
theorem kl_Pt_crowdOfAll_4 {r : St × Int} (C : Cx p s m args c cX4_crowdOfAll RX4 (cd :: cWd) D (TYs k) 4) (hr : meth.sig.returnType = (some .long)) (hlk : meth.locks = false) (hE : Ev z mi aK aV A s s.heap) (hS : SHs π)    (n : Nat) : ∀ {ls : Array Slot} {H : Heap} {locs : List Loc} {σ : St} {x0 : Int} {x1 : Int} {x3 : Int}, lv_has ls 4 [(0, rfv g x0), (1, .long (Int64.ofInt x1)), (3, .int (Int32.ofInt x3))] → Hp D A s.heap H locs (cW k z g π σ) → Pt_crowdOfAll_4 N π n σ x0 x1 x3 = some r → W p l e { frames := 1, cells := 0, slots := 0, locals := 21 } s m args below meth c H locs 0 0 (MQ below (va_Ql (fun v (_ : Unit) => v = Int64.ofInt r.2) (fun _ t => PostW D (TYs k) A (cW k z g π r.1) t) A) args s 0 0 A) (F0 m 4 ls []) := by
  induction n with
  | zero => intro ls H locs σ x0 x1 x3  hl h hm; cases (show none = some r from hm)
  | succ n hrec4 =>
    intro ls H locs σ x0 x1 x3  hl h hm
    rw [Pt_crowdOfAll_4] at hm
    refine lv_iload_n C.1 C.2.1 dX4_crowdOfAll_4 rfl (lv_at hl 2 rfl) ?_
    refine z_aload_n C dX4_crowdOfAll_5 rfl (lv_at hl 0 rfl) ?_
    obtain ⟨g1, hm⟩ := grd_s hm
    refine cg_5_1 C h g1 cU_X4 (List.mem_cons_of_mem _ wl_X4_30) dX4_crowdOfAll_6 ?_
    obtain ⟨g2, hm⟩ := grd_s hm
    obtain ⟨g3, hm⟩ := grd_s hm
    refine c_alen C h (t := 6) rfl g2 g3 dX4_crowdOfAll_9 ?_
    obtain ⟨g4, hm⟩ := grd_s hm
    obtain ⟨g5, hm⟩ := grd_s hm
    refine z_icmp_ge (tgt := 37) C dX4_crowdOfAll_10 (by decide) g4 g5 (fun c6 => ?_) (fun c6 => ?_)
    · have hm := ite_f c6 hm
      refine lv_lload_n C.1 C.2.1 dX4_crowdOfAll_37 rfl (lv_at hl 1 rfl) ?_
      cases hm
      exact c_lretP C h hr hlk dX4_crowdOfAll_38
    · have hm := ite_t c6 hm
      refine lv_lload_n C.1 C.2.1 dX4_crowdOfAll_13 rfl (lv_at hl 1 rfl) ?_
      refine z_aload_n C dX4_crowdOfAll_14 rfl (lv_at hl 0 rfl) ?_
      refine lv_iload_n C.1 C.2.1 dX4_crowdOfAll_15 rfl (lv_at hl 2 rfl) ?_
      obtain ⟨r7, e8, hm⟩ := obd_s hm
      refine c_callVlP C hE h g1 rfl (by decide) (kc_Pt_repeatsOf l D k z mi aK aV g N hS e8) (cwV 1 C.2.2.1 (gS_X4_117 _) rfl rfl rfl hd_X4_repeatsOf ⟨Nat.le_of_ble_eq_true rfl, Nat.le_of_ble_eq_true rfl⟩) rfl hl.1 rfl (Nat.le_of_ble_eq_true rfl) dX4_crowdOfAll_16 ⟨(Nat.le_of_ble_eq_true rfl), (Nat.le_of_ble_eq_true rfl)⟩ (fun H locs h => ?_)
      refine z_aload_n C dX4_crowdOfAll_19 rfl (lv_at hl 0 rfl) ?_
      refine cg_5_1 C h g1 cU_X4 (List.mem_cons_of_mem _ wl_X4_30) dX4_crowdOfAll_20 ?_
      refine lv_iload_n C.1 C.2.1 dX4_crowdOfAll_23 rfl (lv_at hl 2 rfl) ?_
      obtain ⟨g11, hm⟩ := grd_s hm
      obtain ⟨g12, hm⟩ := grd_s hm
      refine c_qald C h (t := 6) (by decide) rfl g11 g12 dX4_crowdOfAll_24 ?_
      obtain ⟨g13, hm⟩ := grd_s hm
      refine cg_5_3 C h g13 cU_X4 (List.mem_cons_of_mem _ wl_X4_13) dX4_crowdOfAll_25 ?_
      refine z_lmul C dX4_crowdOfAll_28 ?_
      refine z_ladd C dX4_crowdOfAll_29 ?_
      obtain ⟨v14, e15, hm⟩ := bnd_s hm
      rw [e15]
      refine lv_lstore_n (i := 1) (lv' := [(1, .long (Int64.ofInt v14)), (0, rfv g x0), (3, .int (Int32.ofInt x3))]) C.1 C.2.1 dX4_crowdOfAll_30 rfl hl (by decide) (by simp [rfv_cat, cat_i, cat_l]) (fun ls hl => ?_)
      refine lv_iinc (v := Int32.ofInt (x3 + 1)) (lv' := [(3, .int (Int32.ofInt (x3 + 1))), (1, .long (Int64.ofInt v14)), (0, rfv g x0)]) C.1 C.2.1 dX4_crowdOfAll_31 hl (k := 2) rfl (c32_add _ _) (by decide) rfl (fun ls hl => ?_)
      refine lv_goto (tgt := 4) C.1 C.2.1 dX4_crowdOfAll_34 (by decide) ?_
      exact hrec4 (lv_sub hl [2, 1, 0] rfl) h hm
set_option maxHeartbeats 8000000 in
set_option maxRecDepth 100000 in
theorem kc_Pt_crowdOfAll (l : Launch) (D : va_G) (k : Nat → ClassId) (z mi : Nat) (aK aV : Nat → Nat) (g : Nat → Nat) (N : Nat)    {π : Sh} {σ : St} {x0 : Int} {r : St × Int} (hS : SHs π) (hm : Pt_crowdOfAll N π σ x0 = some r) : Ml l yX4_crowdOfAll (.code yX4_crowdOfAll cX4_crowdOfAll 4 (some .long) :: cWd) { frames := 1, cells := 0, slots := 0, locals := 21 } [rfv g x0] D (TYs k) (cW k z g π σ) (XV z mi aK aV (cW k z g π σ)) Unit (fun v _ => v = Int64.ofInt r.2) (fun _ => cW k z g π r.1) 0 0 := by
  intro sz
  refine v_met (cc := cX4_crowdOfAll) (maxL := 4) (ret := (some .long)) (lv := [(0, rfv g x0)]) (by decide) rfl (by simp [lg_sl, rfv_cat, cat_i, cat_l]) (by simp [lv_args, rfv_cat, cat_i, cat_l]) ?_
  intro p e s m below meth c ls C hE hr hlk hmn hl h
  rw [Pt_crowdOfAll] at hm
  refine lv_lconst (v := Int64.ofInt 0) C.1 C.2.1 dX4_crowdOfAll_0 (by decide) ?_
  refine lv_lstore_n (i := 1) (lv' := [(1, .long (Int64.ofInt 0)), (0, rfv g x0)]) C.1 C.2.1 dX4_crowdOfAll_1 rfl hl (by decide) (by simp [rfv_cat, cat_i, cat_l]) (fun ls hl => ?_)
  refine lv_iconst (v := Int32.ofInt 0) C.1 C.2.1 dX4_crowdOfAll_2 (by decide) ?_
  refine lv_istore_n (lv' := [(3, .int (Int32.ofInt 0)), (1, .long (Int64.ofInt 0)), (0, rfv g x0)]) C.1 C.2.1 dX4_crowdOfAll_3 rfl hl (by decide) rfl (fun ls hl => ?_)
  exact kl_Pt_crowdOfAll_4 (N := N) C hr hlk hE hS N (lv_sub hl [2, 1, 0] rfl) h hm
end Z_Pt_crowdOfAll
section Z_Pt_lcm
variable {p : Program} {l : Launch} {e : Env} {s : State} {m : MethodId} {args : Array Value} {below : List Frame} {meth : Method} {c : Code} {D : va_G} {A : Nat → Prop} {k : Nat → ClassId} {N : Nat} {cd : Cond}
set_option maxHeartbeats 8000000 in
set_option maxRecDepth 100000 in
theorem kc_Pt_lcm (l : Launch) (D : va_G) (k : Nat → ClassId) (N : Nat) (x0 : Int) (x2 : Int) (r : Int) (hm : Pt_lcm N x0 x2 = some r) : Ml l yX4_lcm (.code yX4_lcm cX4_lcm 4 (some .long) :: cWd) { frames := 1, cells := 0, slots := 0, locals := 30 } [.long (Int64.ofInt x0), .long (Int64.ofInt x2)] D (TYs k) [] (fun _ => True) Unit (fun v _ => v = Int64.ofInt r) (fun _ => []) 0 0 := by
  intro sz
  refine x_met (cc := cX4_lcm) (maxL := 4) (ret := (some .long)) (by decide) rfl (Nat.le_of_ble_eq_true rfl) ?_
  intro p e s m below meth c ls C hX hsz hr hlk hmn hl h
  have hl : lv_has ls 4 [(0, .long (Int64.ofInt x0)), (2, .long (Int64.ofInt x2))] := hl
  rw [Pt_lcm] at hm
  refine lv_lload_n C.1 C.2.1 dX4_lcm_0 rfl (lv_at hl 0 rfl) ?_
  refine lv_lload_n C.1 C.2.1 dX4_lcm_1 rfl (lv_at hl 0 rfl) ?_
  refine lv_lload_n C.1 C.2.1 dX4_lcm_2 rfl (lv_at hl 1 rfl) ?_
  obtain ⟨r1, e2, hm⟩ := obd_s hm
  refine v_callSl C h (kc_Pt_gcd l D k N x0 x2 r1 e2) (v_cwS 2 C.2.2.1 (gC_X4_gcd _) rfl rfl rfl (C.2.2.1 _ (List.mem_cons_of_mem _ wt_X4)) (C.2.2.1 _ (List.mem_cons_of_mem _ wm_X4_34)) (C.2.2.1 _ (List.mem_cons_of_mem _ ws_X4_gcd)) hdS_X4_gcd ⟨Nat.le_of_ble_eq_true rfl, Nat.le_of_ble_eq_true rfl⟩) rfl hl.1 rfl (Nat.le_of_ble_eq_true rfl) dX4_lcm_3 ⟨(Nat.le_of_ble_eq_true rfl), (Nat.le_of_ble_eq_true rfl)⟩ (fun H locs h => ?_)
  obtain ⟨g3, hm⟩ := grd_s hm
  obtain ⟨g4, hm⟩ := grd_s hm
  obtain ⟨g5, hm⟩ := grd_s hm
  refine z_ldiv C dX4_lcm_6 g3 g4 g5 ?_
  refine lv_lload_n C.1 C.2.1 dX4_lcm_7 rfl (lv_at hl 1 rfl) ?_
  refine z_lmul C dX4_lcm_8 ?_
  cases hm
  exact v_lretS C h hr hlk dX4_lcm_9
end Z_Pt_lcm
section Z_Pt_lcmOfAll
variable {p : Program} {l : Launch} {e : Env} {s : State} {m : MethodId} {args : Array Value} {below : List Frame} {meth : Method} {c : Code} {D : va_G} {A : Nat → Prop} {k : Nat → ClassId} {N : Nat} {cd : Cond} {z mi : Nat} {aK aV : Nat → Nat} {g : Nat → Nat} {π : Sh}
set_option maxHeartbeats 8000000 in
set_option maxRecDepth 100000 in
theorem kl_Pt_lcmOfAll_4 {r : St × Int} (C : Cx p s m args c cX4_lcmOfAll RX4 (cd :: cWd) D (TYs k) 4) (hr : meth.sig.returnType = (some .long)) (hlk : meth.locks = false) (hE : Ev z mi aK aV A s s.heap) (hS : SHs π)    (n : Nat) : ∀ {ls : Array Slot} {H : Heap} {locs : List Loc} {σ : St} {x0 : Int} {x1 : Int} {x3 : Int}, lv_has ls 4 [(0, rfv g x0), (1, .long (Int64.ofInt x1)), (3, .int (Int32.ofInt x3))] → Hp D A s.heap H locs (cW k z g π σ) → Pt_lcmOfAll_4 N π n σ x0 x1 x3 = some r → W p l e { frames := 2, cells := 0, slots := 0, locals := 53 } s m args below meth c H locs 0 0 (MQ below (va_Ql (fun v (_ : Unit) => v = Int64.ofInt r.2) (fun _ t => PostW D (TYs k) A (cW k z g π r.1) t) A) args s 0 0 A) (F0 m 4 ls []) := by
  induction n with
  | zero => intro ls H locs σ x0 x1 x3  hl h hm; cases (show none = some r from hm)
  | succ n hrec4 =>
    intro ls H locs σ x0 x1 x3  hl h hm
    rw [Pt_lcmOfAll_4] at hm
    refine lv_iload_n C.1 C.2.1 dX4_lcmOfAll_4 rfl (lv_at hl 2 rfl) ?_
    refine z_aload_n C dX4_lcmOfAll_5 rfl (lv_at hl 0 rfl) ?_
    obtain ⟨g1, hm⟩ := grd_s hm
    refine cg_5_1 C h g1 cU_X4 (List.mem_cons_of_mem _ wl_X4_30) dX4_lcmOfAll_6 ?_
    obtain ⟨g2, hm⟩ := grd_s hm
    obtain ⟨g3, hm⟩ := grd_s hm
    refine c_alen C h (t := 6) rfl g2 g3 dX4_lcmOfAll_9 ?_
    obtain ⟨g4, hm⟩ := grd_s hm
    obtain ⟨g5, hm⟩ := grd_s hm
    refine z_icmp_ge (tgt := 41) C dX4_lcmOfAll_10 (by decide) g4 g5 (fun c6 => ?_) (fun c6 => ?_)
    · have hm := ite_f c6 hm
      refine lv_lload_n C.1 C.2.1 dX4_lcmOfAll_41 rfl (lv_at hl 1 rfl) ?_
      cases hm
      exact c_lretP C h hr hlk dX4_lcmOfAll_42
    · have hm := ite_t c6 hm
      refine lv_lload_n C.1 C.2.1 dX4_lcmOfAll_13 rfl (lv_at hl 1 rfl) ?_
      refine lv_ldc2 (v := 1000000) C.1 C.2.1 C.2.2.2.1 (C.2.2.1 _ (List.mem_cons_of_mem _ wk_X4_38)) dX4_lcmOfAll_14 ?_
      refine x_topl (y := Int64.ofInt 1000000) (by decide) ?_
      obtain ⟨g7, hm⟩ := grd_s hm
      refine W.lcmp C.1 C.2.1 dX4_lcmOfAll_17 ?_
      refine z_lcmp_gt (tgt := 41) C dX4_lcmOfAll_18 (by decide) g7 (by decide) (fun c8 => ?_) (fun c8 => ?_)
      · have hm := ite_t c8 hm
        refine lv_lload_n C.1 C.2.1 dX4_lcmOfAll_41 rfl (lv_at hl 1 rfl) ?_
        cases hm
        exact c_lretP C h hr hlk dX4_lcmOfAll_42
      · have hm := ite_f c8 hm
        refine lv_lload_n C.1 C.2.1 dX4_lcmOfAll_21 rfl (lv_at hl 1 rfl) ?_
        refine z_aload_n C dX4_lcmOfAll_22 rfl (lv_at hl 0 rfl) ?_
        refine cg_5_1 C h g1 cU_X4 (List.mem_cons_of_mem _ wl_X4_30) dX4_lcmOfAll_23 ?_
        refine lv_iload_n C.1 C.2.1 dX4_lcmOfAll_26 rfl (lv_at hl 2 rfl) ?_
        obtain ⟨g9, hm⟩ := grd_s hm
        refine c_qald C h (t := 6) (by decide) rfl g2 g9 dX4_lcmOfAll_27 ?_
        obtain ⟨g10, hm⟩ := grd_s hm
        refine cg_5_2 C h g10 cU_X4 (List.mem_cons_of_mem _ wl_X4_7) dX4_lcmOfAll_28 ?_
        obtain ⟨r11, e12, hm⟩ := obd_s hm
        refine v_callSl C h (kc_Pt_lcm l D k N x1 (fl σ 102 (el σ (fl σ 101 x0) x3)) r11 e12) (v_cwS 2 C.2.2.1 (gC_X4_lcm _) rfl rfl rfl (C.2.2.1 _ (List.mem_cons_of_mem _ wt_X4)) (C.2.2.1 _ (List.mem_cons_of_mem _ wm_X4_101)) (C.2.2.1 _ (List.mem_cons_of_mem _ ws_X4_lcm)) hdS_X4_lcm ⟨Nat.le_of_ble_eq_true rfl, Nat.le_of_ble_eq_true rfl⟩) rfl hl.1 rfl (Nat.le_of_ble_eq_true rfl) dX4_lcmOfAll_31 ⟨(Nat.le_of_ble_eq_true rfl), (Nat.le_of_ble_eq_true rfl)⟩ (fun H locs h => ?_)
        refine lv_lstore_n (i := 1) (lv' := [(1, .long (Int64.ofInt r11)), (0, rfv g x0), (3, .int (Int32.ofInt x3))]) C.1 C.2.1 dX4_lcmOfAll_34 rfl hl (by decide) (by simp [rfv_cat, cat_i, cat_l]) (fun ls hl => ?_)
        refine lv_iinc (v := Int32.ofInt (x3 + 1)) (lv' := [(3, .int (Int32.ofInt (x3 + 1))), (1, .long (Int64.ofInt r11)), (0, rfv g x0)]) C.1 C.2.1 dX4_lcmOfAll_35 hl (k := 2) rfl (c32_add _ _) (by decide) rfl (fun ls hl => ?_)
        refine lv_goto (tgt := 4) C.1 C.2.1 dX4_lcmOfAll_38 (by decide) ?_
        exact hrec4 (lv_sub hl [2, 1, 0] rfl) h hm
set_option maxHeartbeats 8000000 in
set_option maxRecDepth 100000 in
theorem kc_Pt_lcmOfAll (l : Launch) (D : va_G) (k : Nat → ClassId) (z mi : Nat) (aK aV : Nat → Nat) (g : Nat → Nat) (N : Nat)    {π : Sh} {σ : St} {x0 : Int} {r : St × Int} (hS : SHs π) (hm : Pt_lcmOfAll N π σ x0 = some r) : Ml l yX4_lcmOfAll (.code yX4_lcmOfAll cX4_lcmOfAll 4 (some .long) :: cWd) { frames := 2, cells := 0, slots := 0, locals := 53 } [rfv g x0] D (TYs k) (cW k z g π σ) (XV z mi aK aV (cW k z g π σ)) Unit (fun v _ => v = Int64.ofInt r.2) (fun _ => cW k z g π r.1) 0 0 := by
  intro sz
  refine v_met (cc := cX4_lcmOfAll) (maxL := 4) (ret := (some .long)) (lv := [(0, rfv g x0)]) (by decide) rfl (by simp [lg_sl, rfv_cat, cat_i, cat_l]) (by simp [lv_args, rfv_cat, cat_i, cat_l]) ?_
  intro p e s m below meth c ls C hE hr hlk hmn hl h
  rw [Pt_lcmOfAll] at hm
  refine lv_lconst (v := Int64.ofInt 1) C.1 C.2.1 dX4_lcmOfAll_0 (by decide) ?_
  refine lv_lstore_n (i := 1) (lv' := [(1, .long (Int64.ofInt 1)), (0, rfv g x0)]) C.1 C.2.1 dX4_lcmOfAll_1 rfl hl (by decide) (by simp [rfv_cat, cat_i, cat_l]) (fun ls hl => ?_)
  refine lv_iconst (v := Int32.ofInt 0) C.1 C.2.1 dX4_lcmOfAll_2 (by decide) ?_
  refine lv_istore_n (lv' := [(3, .int (Int32.ofInt 0)), (1, .long (Int64.ofInt 1)), (0, rfv g x0)]) C.1 C.2.1 dX4_lcmOfAll_3 rfl hl (by decide) rfl (fun ls hl => ?_)
  exact kl_Pt_lcmOfAll_4 (N := N) C hr hlk hE hS N (lv_sub hl [2, 1, 0] rfl) h hm
end Z_Pt_lcmOfAll
section Z_Pt_measureMeeting
variable {p : Program} {l : Launch} {e : Env} {s : State} {m : MethodId} {args : Array Value} {below : List Frame} {meth : Method} {c : Code} {D : va_G} {A : Nat → Prop} {k : Nat → ClassId} {N : Nat} {cd : Cond} {z mi : Nat} {aK aV : Nat → Nat} {g : Nat → Nat} {π : Sh}
set_option maxHeartbeats 8000000 in
set_option maxRecDepth 100000 in
theorem kc_Pt_measureMeeting (l : Launch) (D : va_G) (k : Nat → ClassId) (z mi : Nat) (aK aV : Nat → Nat) (g : Nat → Nat) (N : Nat)    {π : Sh} {σ : St} {x0 : Int} {x1 : Int} {x2 : Int} {r : St} (hS : SHs π) (hm : Pt_measureMeeting N π σ x0 x1 x2 = some r) : Mv l yX4_measureMeeting (.code yX4_measureMeeting cX4_measureMeeting 3 none :: cWd) { frames := 1, cells := 0, slots := 0, locals := 28 } [rfv g x0, rfv g x1, rfv g x2] D (TYs k) (cW k z g π σ) (XV z mi aK aV (cW k z g π σ)) Unit (fun _ => True) (fun _ => cW k z g π r) 0 0 := by
  intro sz
  refine v_met (cc := cX4_measureMeeting) (maxL := 3) (ret := none) (lv := [(0, rfv g x0), (1, rfv g x1), (2, rfv g x2)]) (by decide) rfl (by simp [lg_sl, rfv_cat, cat_i, cat_l]) (by simp [lv_args, rfv_cat, cat_i, cat_l]) ?_
  intro p e s m below meth c ls C hE hr hlk hmn hl h
  rw [Pt_measureMeeting] at hm
  refine z_aload_n C dX4_measureMeeting_0 rfl (lv_at hl 0 rfl) ?_
  refine z_aload_n C dX4_measureMeeting_1 rfl (lv_at hl 1 rfl) ?_
  obtain ⟨g1, hm⟩ := grd_s hm
  refine cg_5_2 C h g1 cU_X4 (List.mem_cons_of_mem _ wl_X4_7) dX4_measureMeeting_2 ?_
  refine z_aload_n C dX4_measureMeeting_5 rfl (lv_at hl 1 rfl) ?_
  refine cg_5_3 C h g1 cU_X4 (List.mem_cons_of_mem _ wl_X4_13) dX4_measureMeeting_6 ?_
  refine z_aload_n C dX4_measureMeeting_9 rfl (lv_at hl 1 rfl) ?_
  refine cg_5_4 C h g1 cU_X4 (List.mem_cons_of_mem _ wl_X4_16) dX4_measureMeeting_10 ?_
  refine z_aload_n C dX4_measureMeeting_13 rfl (lv_at hl 1 rfl) ?_
  refine cg_5_5 C h g1 cU_X4 (List.mem_cons_of_mem _ wl_X4_19) dX4_measureMeeting_14 ?_
  refine z_aload_n C dX4_measureMeeting_17 rfl (lv_at hl 1 rfl) ?_
  refine cg_5_3 C h g1 cU_X4 (List.mem_cons_of_mem _ wl_X4_13) dX4_measureMeeting_18 ?_
  refine z_aload_n C dX4_measureMeeting_21 rfl (lv_at hl 2 rfl) ?_
  obtain ⟨g2, hm⟩ := grd_s hm
  refine cg_5_4 C h g2 cU_X4 (List.mem_cons_of_mem _ wl_X4_16) dX4_measureMeeting_22 ?_
  refine lv_lconst (v := Int64.ofInt 1) C.1 C.2.1 dX4_measureMeeting_25 (by decide) ?_
  refine z_ladd C dX4_measureMeeting_26 ?_
  refine z_lmul C dX4_measureMeeting_27 ?_
  refine z_aload_n C dX4_measureMeeting_28 rfl (lv_at hl 2 rfl) ?_
  refine cg_5_5 C h g2 cU_X4 (List.mem_cons_of_mem _ wl_X4_19) dX4_measureMeeting_29 ?_
  refine z_lmul C dX4_measureMeeting_32 ?_
  refine z_ladd C dX4_measureMeeting_33 ?_
  refine lv_lconst (v := Int64.ofInt 1) C.1 C.2.1 dX4_measureMeeting_34 (by decide) ?_
  refine z_ladd C dX4_measureMeeting_35 ?_
  obtain ⟨r3, e4, hm⟩ := obd_s hm
  obtain ⟨g6, hm⟩ := grd_s hm
  refine c_callVvP C hE h g6 rfl (by decide) (kc_Pt_bounds l D k z mi aK aV g N hS e4) (cwV 4 C.2.2.1 (gS_X4_57 _) rfl rfl rfl hd_X4_bounds ⟨Nat.le_of_ble_eq_true rfl, Nat.le_of_ble_eq_true rfl⟩) rfl hl.1 rfl (Nat.le_of_ble_eq_true rfl) dX4_measureMeeting_36 ⟨(Nat.le_of_ble_eq_true rfl), (Nat.le_of_ble_eq_true rfl)⟩ (fun H locs h => ?_)
  cases hm
  exact c_vretP C h hr hlk dX4_measureMeeting_39
end Z_Pt_measureMeeting
section Z_Pt_spanLower
variable {p : Program} {l : Launch} {e : Env} {s : State} {m : MethodId} {args : Array Value} {below : List Frame} {meth : Method} {c : Code} {D : va_G} {A : Nat → Prop} {k : Nat → ClassId} {N : Nat} {cd : Cond} {z mi : Nat} {aK aV : Nat → Nat} {g : Nat → Nat} {π : Sh}
set_option maxHeartbeats 8000000 in
set_option maxRecDepth 100000 in
theorem kc_Pt_spanLower (l : Launch) (D : va_G) (k : Nat → ClassId) (z mi : Nat) (aK aV : Nat → Nat) (g : Nat → Nat) (N : Nat)    {π : Sh} {σ : St} {x0 : Int} {r : St × Int} (hS : SHs π) (hm : Pt_spanLower N π σ x0 = some r) : Ml l yX4_spanLower (.code yX4_spanLower cX4_spanLower 5 (some .long) :: cWd) { frames := 1, cells := 0, slots := 0, locals := 30 } [rfv g x0] D (TYs k) (cW k z g π σ) (XV z mi aK aV (cW k z g π σ)) Unit (fun v _ => v = Int64.ofInt r.2) (fun _ => cW k z g π r.1) 0 0 := by
  intro sz
  refine v_met (cc := cX4_spanLower) (maxL := 5) (ret := (some .long)) (lv := [(0, rfv g x0)]) (by decide) rfl (by simp [lg_sl, rfv_cat, cat_i, cat_l]) (by simp [lv_args, rfv_cat, cat_i, cat_l]) ?_
  intro p e s m below meth c ls C hE hr hlk hmn hl h
  rw [Pt_spanLower] at hm
  refine z_aload_n C dX4_spanLower_0 rfl (lv_at hl 0 rfl) ?_
  obtain ⟨g1, hm⟩ := grd_s hm
  refine cg_5_0 C h g1 cU_X4 (List.mem_cons_of_mem _ wl_X4_26) dX4_spanLower_1 ?_
  obtain ⟨g2, hm⟩ := grd_s hm
  refine cg_10_4 C h g2 cU_X9 (List.mem_cons_of_mem _ wl_X4_107) dX4_spanLower_4 ?_
  obtain ⟨g3, hm⟩ := grd_s hm
  refine z_i2l C dX4_spanLower_7 g3 ?_
  refine z_aload_n C dX4_spanLower_8 rfl (lv_at hl 0 rfl) ?_
  refine cg_5_0 C h g1 cU_X4 (List.mem_cons_of_mem _ wl_X4_26) dX4_spanLower_9 ?_
  refine cg_10_3 C h g2 cU_X9 (List.mem_cons_of_mem _ wl_X4_83) dX4_spanLower_12 ?_
  obtain ⟨g4, hm⟩ := grd_s hm
  refine z_i2l C dX4_spanLower_15 g4 ?_
  refine z_lmul C dX4_spanLower_16 ?_
  refine z_aload_n C dX4_spanLower_17 rfl (lv_at hl 0 rfl) ?_
  refine cg_5_0 C h g1 cU_X4 (List.mem_cons_of_mem _ wl_X4_26) dX4_spanLower_18 ?_
  refine cg_10_2 C h g2 cU_X9 (List.mem_cons_of_mem _ wl_X4_61) dX4_spanLower_21 ?_
  obtain ⟨g5, hm⟩ := grd_s hm
  refine z_i2l C dX4_spanLower_24 g5 ?_
  refine z_aload_n C dX4_spanLower_25 rfl (lv_at hl 0 rfl) ?_
  refine cg_5_0 C h g1 cU_X4 (List.mem_cons_of_mem _ wl_X4_26) dX4_spanLower_26 ?_
  refine cg_10_5 C h g2 cU_X9 (List.mem_cons_of_mem _ wl_X4_110) dX4_spanLower_29 ?_
  obtain ⟨g6, hm⟩ := grd_s hm
  refine z_i2l C dX4_spanLower_32 g6 ?_
  refine z_lmul C dX4_spanLower_33 ?_
  refine z_lsub C dX4_spanLower_34 ?_
  obtain ⟨v7, e8, hm⟩ := bnd_s hm
  rw [e8]
  refine lv_lstore_n (i := 1) (lv' := [(1, .long (Int64.ofInt v7)), (0, rfv g x0)]) C.1 C.2.1 dX4_spanLower_35 rfl hl (by decide) (by simp [rfv_cat, cat_i, cat_l]) (fun ls hl => ?_)
  refine z_aload_n C dX4_spanLower_36 rfl (lv_at hl 1 rfl) ?_
  refine cg_5_0 C h g1 cU_X4 (List.mem_cons_of_mem _ wl_X4_26) dX4_spanLower_37 ?_
  refine cg_10_3 C h g2 cU_X9 (List.mem_cons_of_mem _ wl_X4_83) dX4_spanLower_40 ?_
  refine z_i2l C dX4_spanLower_43 g4 ?_
  refine z_aload_n C dX4_spanLower_44 rfl (lv_at hl 1 rfl) ?_
  refine cg_5_0 C h g1 cU_X4 (List.mem_cons_of_mem _ wl_X4_26) dX4_spanLower_45 ?_
  refine cg_10_5 C h g2 cU_X9 (List.mem_cons_of_mem _ wl_X4_110) dX4_spanLower_48 ?_
  refine z_i2l C dX4_spanLower_51 g6 ?_
  refine z_lmul C dX4_spanLower_52 ?_
  obtain ⟨v9, e10, hm⟩ := bnd_s hm
  rw [e10]
  refine lv_lstore_n (lv' := [(3, .long (Int64.ofInt v9)), (1, .long (Int64.ofInt v7)), (0, rfv g x0)]) C.1 C.2.1 dX4_spanLower_53 rfl hl (by decide) rfl (fun ls hl => ?_)
  refine lv_lload_n C.1 C.2.1 dX4_spanLower_54 rfl (lv_at hl 0 rfl) ?_
  refine lv_lload_n C.1 C.2.1 dX4_spanLower_55 rfl (lv_at hl 1 rfl) ?_
  refine lv_lload_n C.1 C.2.1 dX4_spanLower_56 rfl (lv_at hl 0 rfl) ?_
  obtain ⟨r11, e12, hm⟩ := obd_s hm
  refine v_callSl C h (kc_Pt_gcd l D k N v7 v9 r11 e12) (v_cwS 2 C.2.2.1 (gC_X4_gcd _) rfl rfl rfl (C.2.2.1 _ (List.mem_cons_of_mem _ wt_X4)) (C.2.2.1 _ (List.mem_cons_of_mem _ wm_X4_34)) (C.2.2.1 _ (List.mem_cons_of_mem _ ws_X4_gcd)) hdS_X4_gcd ⟨Nat.le_of_ble_eq_true rfl, Nat.le_of_ble_eq_true rfl⟩) rfl hl.1 rfl (Nat.le_of_ble_eq_true rfl) dX4_spanLower_57 ⟨(Nat.le_of_ble_eq_true rfl), (Nat.le_of_ble_eq_true rfl)⟩ (fun H locs h => ?_)
  obtain ⟨g13, hm⟩ := grd_s hm
  obtain ⟨g14, hm⟩ := grd_s hm
  obtain ⟨g15, hm⟩ := grd_s hm
  refine z_ldiv C dX4_spanLower_60 g13 g14 g15 ?_
  cases hm
  exact c_lretP C h hr hlk dX4_spanLower_61
end Z_Pt_spanLower
section Z_M_floorDiv
variable {p : Program} {l : Launch} {e : Env} {s : State} {m : MethodId} {args : Array Value} {below : List Frame} {meth : Method} {c : Code} {D : va_G} {A : Nat → Prop} {k : Nat → ClassId} {N : Nat} {cd : Cond}
set_option maxHeartbeats 8000000 in
set_option maxRecDepth 100000 in
theorem kc_M_floorDiv (l : Launch) (D : va_G) (k : Nat → ClassId) (N : Nat) (x0 : Int) (x2 : Int) (r : Int) (hm : M_floorDiv N x0 x2 = some r) : Ml l yJ9_floorDiv_f86c9 (.code yJ9_floorDiv_f86c9 cJ9_floorDiv_f86c9 6 (some .long) :: cWd) { frames := 0, cells := 0, slots := 0, locals := 0 } [.long (Int64.ofInt x0), .long (Int64.ofInt x2)] D (TYs k) [] (fun _ => True) Unit (fun v _ => v = Int64.ofInt r) (fun _ => []) 0 0 := by
  intro sz
  refine x_metF (cc := cJ9_floorDiv_f86c9) (maxL := 6) (ret := (some .long)) (by decide +kernel) rfl (Nat.le_of_ble_eq_true rfl) ?_
  intro p e s m below meth c ls C hX hsz hr hlk hmn hl h
  have hl : lv_has ls 6 [(0, .long (Int64.ofInt x0)), (2, .long (Int64.ofInt x2))] := hl
  rw [M_floorDiv] at hm
  refine lv_lload_n C.1 C.2.1 dJ9_floorDiv_f86c9_0 rfl (lv_at hl 0 rfl) ?_
  refine lv_lload_n C.1 C.2.1 dJ9_floorDiv_f86c9_1 rfl (lv_at hl 1 rfl) ?_
  obtain ⟨g1, hm⟩ := grd_s hm
  obtain ⟨g2, hm⟩ := grd_s hm
  obtain ⟨g3, hm⟩ := grd_s hm
  refine z_ldiv C dJ9_floorDiv_f86c9_2 g1 g2 g3 ?_
  obtain ⟨v4, e5, hm⟩ := bnd_s hm
  rw [e5]
  refine lv_lstore (lv' := [(4, .long (Int64.ofInt v4)), (0, .long (Int64.ofInt x0)), (2, .long (Int64.ofInt x2))]) C.1 C.2.1 dJ9_floorDiv_f86c9_3 hl (by decide) rfl (fun ls hl => ?_)
  refine lv_lload_n C.1 C.2.1 dJ9_floorDiv_f86c9_5 rfl (lv_at hl 1 rfl) ?_
  refine lv_lload_n C.1 C.2.1 dJ9_floorDiv_f86c9_6 rfl (lv_at hl 2 rfl) ?_
  refine z_lxor C dJ9_floorDiv_f86c9_7 ?_
  refine lv_lconst (v := Int64.ofInt 0) C.1 C.2.1 dJ9_floorDiv_f86c9_8 (by decide) ?_
  obtain ⟨g6, hm⟩ := grd_s hm
  refine W.lcmp C.1 C.2.1 dJ9_floorDiv_f86c9_9 ?_
  refine z_lcmp_ge (tgt := 27) C dJ9_floorDiv_f86c9_10 (by decide) g6 (by decide) (fun c7 => ?_) (fun c7 => ?_)
  · have hm := ite_f c7 hm
    refine lv_lload C.1 C.2.1 dJ9_floorDiv_f86c9_27 (lv_at hl 0 rfl) ?_
    cases hm
    exact v_lretS C h hr hlk dJ9_floorDiv_f86c9_29
  · have hm := ite_t c7 hm
    refine lv_lload C.1 C.2.1 dJ9_floorDiv_f86c9_13 (lv_at hl 0 rfl) ?_
    refine lv_lload_n C.1 C.2.1 dJ9_floorDiv_f86c9_15 rfl (lv_at hl 2 rfl) ?_
    refine z_lmul C dJ9_floorDiv_f86c9_16 ?_
    refine lv_lload_n C.1 C.2.1 dJ9_floorDiv_f86c9_17 rfl (lv_at hl 1 rfl) ?_
    obtain ⟨g8, hm⟩ := grd_s hm
    refine W.lcmp C.1 C.2.1 dJ9_floorDiv_f86c9_18 ?_
    refine z_lcmp_eq (tgt := 27) C dJ9_floorDiv_f86c9_19 (by decide) g8 g1 (fun c9 => ?_) (fun c9 => ?_)
    · have hm := ite_t c9 hm
      refine lv_lload C.1 C.2.1 dJ9_floorDiv_f86c9_27 (lv_at hl 0 rfl) ?_
      cases hm
      exact v_lretS C h hr hlk dJ9_floorDiv_f86c9_29
    · have hm := ite_f c9 hm
      refine lv_lload C.1 C.2.1 dJ9_floorDiv_f86c9_22 (lv_at hl 0 rfl) ?_
      refine lv_lconst (v := Int64.ofInt 1) C.1 C.2.1 dJ9_floorDiv_f86c9_24 (by decide) ?_
      refine z_lsub C dJ9_floorDiv_f86c9_25 ?_
      cases hm
      exact v_lretS C h hr hlk dJ9_floorDiv_f86c9_26
end Z_M_floorDiv
section Z_Rw_ceiling
variable {p : Program} {l : Launch} {e : Env} {s : State} {m : MethodId} {args : Array Value} {below : List Frame} {meth : Method} {c : Code} {D : va_G} {A : Nat → Prop} {k : Nat → ClassId} {N : Nat} {cd : Cond}
set_option maxHeartbeats 8000000 in
set_option maxRecDepth 100000 in
theorem kc_Rw_ceiling (l : Launch) (D : va_G) (k : Nat → ClassId) (N : Nat) (x0 : Int) (x2 : Int) (r : Int) (hm : Rw_ceiling N x0 x2 = some r) : Ml l yX7_ceiling (.code yX7_ceiling cX7_ceiling 4 (some .long) :: cWd) { frames := 1, cells := 0, slots := 0, locals := 25 } [.long (Int64.ofInt x0), .long (Int64.ofInt x2)] D (TYs k) [] (fun _ => True) Unit (fun v _ => v = Int64.ofInt r) (fun _ => []) 0 0 := by
  intro sz
  refine x_met (cc := cX7_ceiling) (maxL := 4) (ret := (some .long)) (by decide) rfl (Nat.le_of_ble_eq_true rfl) ?_
  intro p e s m below meth c ls C hX hsz hr hlk hmn hl h
  have hl : lv_has ls 4 [(0, .long (Int64.ofInt x0)), (2, .long (Int64.ofInt x2))] := hl
  rw [Rw_ceiling] at hm
  refine lv_lload_n C.1 C.2.1 dX7_ceiling_0 rfl (lv_at hl 1 rfl) ?_
  refine lv_lconst (v := Int64.ofInt 0) C.1 C.2.1 dX7_ceiling_1 (by decide) ?_
  obtain ⟨g1, hm⟩ := grd_s hm
  refine W.lcmp C.1 C.2.1 dX7_ceiling_2 ?_
  refine z_lcmp_ne (tgt := 10) C dX7_ceiling_3 (by decide) g1 (by decide) (fun c2 => ?_) (fun c2 => ?_)
  · have hm := ite_f c2 hm
    refine lv_lload_n C.1 C.2.1 dX7_ceiling_10 rfl (lv_at hl 0 rfl) ?_
    refine z_lneg C dX7_ceiling_11 ?_
    refine lv_lload_n C.1 C.2.1 dX7_ceiling_12 rfl (lv_at hl 1 rfl) ?_
    obtain ⟨r3, e4, hm⟩ := obd_s hm
    refine v_callSl C h (kc_M_floorDiv l D k N (-x0) x2 r3 e4) (v_cwS 2 C.2.2.1 (gC_J9_floorDiv_f86c9 _) rfl rfl rfl (C.2.2.1 _ (List.mem_cons_of_mem _ wt_J9)) (C.2.2.1 _ (List.mem_cons_of_mem _ wm_X7_22)) (C.2.2.1 _ (List.mem_cons_of_mem _ ws_J9_floorDiv_f86c9)) hdS_J9_floorDiv_f86c9 ⟨Nat.le_of_ble_eq_true rfl, Nat.le_of_ble_eq_true rfl⟩) rfl hl.1 rfl (Nat.le_of_ble_eq_true rfl) dX7_ceiling_13 ⟨(Nat.le_of_ble_eq_true rfl), (Nat.le_of_ble_eq_true rfl)⟩ (fun H locs h => ?_)
    refine z_lneg C dX7_ceiling_16 ?_
    cases hm
    exact v_lretS C h hr hlk dX7_ceiling_17
  · have hm := ite_t c2 hm
    refine lv_lconst (v := Int64.ofInt 0) C.1 C.2.1 dX7_ceiling_6 (by decide) ?_
    refine lv_goto (tgt := 17) C.1 C.2.1 dX7_ceiling_7 (by decide) ?_
    cases hm
    exact v_lretS C h hr hlk dX7_ceiling_17
end Z_Rw_ceiling
section Z_Pt_measureOfOne
variable {p : Program} {l : Launch} {e : Env} {s : State} {m : MethodId} {args : Array Value} {below : List Frame} {meth : Method} {c : Code} {D : va_G} {A : Nat → Prop} {k : Nat → ClassId} {N : Nat} {cd : Cond} {z mi : Nat} {aK aV : Nat → Nat} {g : Nat → Nat} {π : Sh}
set_option maxHeartbeats 8000000 in
set_option maxRecDepth 100000 in
theorem kl_Pt_measureOfOne_162 {r : St} (C : Cx p s m args c cX4_measureOfOne RX4 (cd :: cWd) D (TYs k) 12) (hr : meth.sig.returnType = none) (hlk : meth.locks = false) (hE : Ev z mi aK aV A s s.heap) (hS : SHs π)    {ls : Array Slot} {H : Heap} {locs : List Loc} {σ : St} {x0 : Int} {x1 : Int} {x2 : Int} {x4 : Int} {s0 : Int} {s1 : Int}  (hl : lv_has ls 12 [(0, rfv g x0), (1, rfv g x1), (2, .long (Int64.ofInt x2)), (4, .long (Int64.ofInt x4))]) (h : Hp D A s.heap H locs (cW k z g π σ)) (hm : Pt_measureOfOne_162 N π σ x0 x1 x2 x4 s0 s1 = some r) : W p l e { frames := 2, cells := 0, slots := 0, locals := 54 } s m args below meth c H locs 0 0 (MQ below (va_Qv (fun (_ : Unit) => True) (fun _ t => PostW D (TYs k) A (cW k z g π r) t) A) args s 0 0 A) (F0 m 162 ls [.int (Int32.ofInt s0), .long (Int64.ofInt s1)]) := by
  rw [Pt_measureOfOne_162] at hm
  obtain ⟨g129, hm⟩ := grd_s hm
  refine z_i2l C dX4_measureOfOne_162 g129 ?_
  refine z_ladd C dX4_measureOfOne_163 ?_
  obtain ⟨v130, e131, hm⟩ := bnd_s hm
  rw [e131]
  refine lv_lstore (lv' := [(6, .long (Int64.ofInt v130)), (0, rfv g x0), (1, rfv g x1), (2, .long (Int64.ofInt x2)), (4, .long (Int64.ofInt x4))]) C.1 C.2.1 dX4_measureOfOne_164 hl (by decide) rfl (fun ls hl => ?_)
  refine z_aload_n C dX4_measureOfOne_166 rfl (lv_at hl 1 rfl) ?_
  refine lv_lload_n C.1 C.2.1 dX4_measureOfOne_167 rfl (lv_at hl 3 rfl) ?_
  refine z_aload_n C dX4_measureOfOne_168 rfl (lv_at hl 2 rfl) ?_
  obtain ⟨g132, hm⟩ := grd_s hm
  refine cg_5_2 C h g132 cU_X4 (List.mem_cons_of_mem _ wl_X4_7) dX4_measureOfOne_169 ?_
  refine z_lmul C dX4_measureOfOne_172 ?_
  refine lv_lload C.1 C.2.1 dX4_measureOfOne_173 (lv_at hl 0 rfl) ?_
  refine z_aload_n C dX4_measureOfOne_175 rfl (lv_at hl 2 rfl) ?_
  refine cg_5_3 C h g132 cU_X4 (List.mem_cons_of_mem _ wl_X4_13) dX4_measureOfOne_176 ?_
  refine z_lmul C dX4_measureOfOne_179 ?_
  refine z_aload_n C dX4_measureOfOne_180 rfl (lv_at hl 2 rfl) ?_
  refine cg_5_4 C h g132 cU_X4 (List.mem_cons_of_mem _ wl_X4_16) dX4_measureOfOne_181 ?_
  refine lv_lload C.1 C.2.1 dX4_measureOfOne_184 (lv_at hl 4 rfl) ?_
  refine z_lmul C dX4_measureOfOne_186 ?_
  refine lv_lload_n C.1 C.2.1 dX4_measureOfOne_187 rfl (lv_at hl 3 rfl) ?_
  obtain ⟨r133, e134, hm⟩ := obd_s hm
  refine v_callSl C h (kc_Rw_ceiling l D k N ((fl σ 104 x1) * x4) x2 r133 e134) (v_cwS 2 C.2.2.1 (gC_X7_ceiling _) rfl rfl rfl (C.2.2.1 _ (List.mem_cons_of_mem _ wt_X7)) (C.2.2.1 _ (List.mem_cons_of_mem _ wm_X4_94)) (C.2.2.1 _ (List.mem_cons_of_mem _ ws_X7_ceiling)) hdS_X7_ceiling ⟨Nat.le_of_ble_eq_true rfl, Nat.le_of_ble_eq_true rfl⟩) rfl hl.1 rfl (by simp [rfv_cat, cat_i, cat_l]) dX4_measureOfOne_188 ⟨(Nat.le_of_ble_eq_true rfl), (Nat.le_of_ble_eq_true rfl)⟩ (fun H locs h => ?_)
  refine lv_lload C.1 C.2.1 dX4_measureOfOne_191 (lv_at hl 0 rfl) ?_
  refine z_aload_n C dX4_measureOfOne_193 rfl (lv_at hl 2 rfl) ?_
  refine cg_5_5 C h g132 cU_X4 (List.mem_cons_of_mem _ wl_X4_19) dX4_measureOfOne_194 ?_
  refine z_lmul C dX4_measureOfOne_197 ?_
  refine lv_lconst (v := Int64.ofInt 1) C.1 C.2.1 dX4_measureOfOne_198 (by decide) ?_
  refine z_ladd C dX4_measureOfOne_199 ?_
  obtain ⟨r135, e136, hm⟩ := obd_s hm
  obtain ⟨g138, hm⟩ := grd_s hm
  refine c_callVvP C hE h g138 rfl (by decide) (kc_Pt_bounds l D k z mi aK aV g N hS e136) (cwV 4 C.2.2.1 (gS_X4_57 _) rfl rfl rfl hd_X4_bounds ⟨Nat.le_of_ble_eq_true rfl, Nat.le_of_ble_eq_true rfl⟩) rfl hl.1 rfl (Nat.le_of_ble_eq_true rfl) dX4_measureOfOne_200 ⟨(Nat.le_of_ble_eq_true rfl), (Nat.le_of_ble_eq_true rfl)⟩ (fun H locs h => ?_)
  refine lv_goto (tgt := 454) C.1 C.2.1 dX4_measureOfOne_203 (by decide) ?_
  cases hm
  exact c_vretP C h hr hlk dX4_measureOfOne_454
set_option maxHeartbeats 8000000 in
set_option maxRecDepth 100000 in
theorem kl_Pt_measureOfOne_220 {r : St} (C : Cx p s m args c cX4_measureOfOne RX4 (cd :: cWd) D (TYs k) 12) (hr : meth.sig.returnType = none) (hlk : meth.locks = false) (hE : Ev z mi aK aV A s s.heap) (hS : SHs π)    {ls : Array Slot} {H : Heap} {locs : List Loc} {σ : St} {x0 : Int} {x1 : Int} {x4 : Int} {s0 : Int}  (hl : lv_has ls 12 [(0, rfv g x0), (1, rfv g x1), (4, .long (Int64.ofInt x4))]) (h : Hp D A s.heap H locs (cW k z g π σ)) (hm : Pt_measureOfOne_220 N π σ x0 x1 x4 s0 = some r) : W p l e { frames := 2, cells := 0, slots := 0, locals := 54 } s m args below meth c H locs 0 0 (MQ below (va_Qv (fun (_ : Unit) => True) (fun _ t => PostW D (TYs k) A (cW k z g π r) t) A) args s 0 0 A) (F0 m 220 ls [.long (Int64.ofInt s0)]) := by
  rw [Pt_measureOfOne_220] at hm
  refine lv_lstore (lv' := [(8, .long (Int64.ofInt s0)), (0, rfv g x0), (1, rfv g x1), (4, .long (Int64.ofInt x4))]) C.1 C.2.1 dX4_measureOfOne_220 hl (by decide) rfl (fun ls hl => ?_)
  refine z_aload_n C dX4_measureOfOne_222 rfl (lv_at hl 1 rfl) ?_
  refine z_aload_n C dX4_measureOfOne_223 rfl (lv_at hl 2 rfl) ?_
  obtain ⟨g140, hm⟩ := grd_s hm
  refine cg_5_2 C h g140 cU_X4 (List.mem_cons_of_mem _ wl_X4_7) dX4_measureOfOne_224 ?_
  refine lv_lload C.1 C.2.1 dX4_measureOfOne_227 (lv_at hl 3 rfl) ?_
  obtain ⟨r141, e142, hm⟩ := obd_s hm
  refine v_callSl C h (kc_Pt_lcm l D k N (fl σ 102 x1) x4 r141 e142) (v_cwS 2 C.2.2.1 (gC_X4_lcm _) rfl rfl rfl (C.2.2.1 _ (List.mem_cons_of_mem _ wt_X4)) (C.2.2.1 _ (List.mem_cons_of_mem _ wm_X4_101)) (C.2.2.1 _ (List.mem_cons_of_mem _ ws_X4_lcm)) hdS_X4_lcm ⟨Nat.le_of_ble_eq_true rfl, Nat.le_of_ble_eq_true rfl⟩) rfl hl.1 rfl (by simp [rfv_cat, cat_i, cat_l]) dX4_measureOfOne_229 ⟨(Nat.le_of_ble_eq_true rfl), (Nat.le_of_ble_eq_true rfl)⟩ (fun H locs h => ?_)
  refine lv_lload C.1 C.2.1 dX4_measureOfOne_232 (lv_at hl 0 rfl) ?_
  refine z_aload_n C dX4_measureOfOne_234 rfl (lv_at hl 2 rfl) ?_
  refine cg_5_3 C h g140 cU_X4 (List.mem_cons_of_mem _ wl_X4_13) dX4_measureOfOne_235 ?_
  refine z_lmul C dX4_measureOfOne_238 ?_
  refine z_aload_n C dX4_measureOfOne_239 rfl (lv_at hl 2 rfl) ?_
  refine cg_5_4 C h g140 cU_X4 (List.mem_cons_of_mem _ wl_X4_16) dX4_measureOfOne_240 ?_
  refine lv_lload C.1 C.2.1 dX4_measureOfOne_243 (lv_at hl 0 rfl) ?_
  refine z_aload_n C dX4_measureOfOne_245 rfl (lv_at hl 2 rfl) ?_
  refine cg_5_5 C h g140 cU_X4 (List.mem_cons_of_mem _ wl_X4_19) dX4_measureOfOne_246 ?_
  refine z_lmul C dX4_measureOfOne_249 ?_
  refine lv_lconst (v := Int64.ofInt 1) C.1 C.2.1 dX4_measureOfOne_250 (by decide) ?_
  refine z_ladd C dX4_measureOfOne_251 ?_
  obtain ⟨r143, e144, hm⟩ := obd_s hm
  obtain ⟨g146, hm⟩ := grd_s hm
  refine c_callVvP C hE h g146 rfl (by decide) (kc_Pt_bounds l D k z mi aK aV g N hS e144) (cwV 4 C.2.2.1 (gS_X4_57 _) rfl rfl rfl hd_X4_bounds ⟨Nat.le_of_ble_eq_true rfl, Nat.le_of_ble_eq_true rfl⟩) rfl hl.1 rfl (Nat.le_of_ble_eq_true rfl) dX4_measureOfOne_252 ⟨(Nat.le_of_ble_eq_true rfl), (Nat.le_of_ble_eq_true rfl)⟩ (fun H locs h => ?_)
  refine lv_goto (tgt := 454) C.1 C.2.1 dX4_measureOfOne_255 (by decide) ?_
  cases hm
  exact c_vretP C h hr hlk dX4_measureOfOne_454
set_option maxHeartbeats 8000000 in
set_option maxRecDepth 100000 in
theorem kc_Pt_measureOfOne (l : Launch) (D : va_G) (k : Nat → ClassId) (z mi : Nat) (aK aV : Nat → Nat) (g : Nat → Nat) (N : Nat)    {π : Sh} {σ : St} {x0 : Int} {x1 : Int} {r : St} (hS : SHs π) (hm : Pt_measureOfOne N π σ x0 x1 = some r) : Mv l yX4_measureOfOne (.code yX4_measureOfOne cX4_measureOfOne 12 none :: cWd) { frames := 2, cells := 0, slots := 0, locals := 54 } [rfv g x0, rfv g x1] D (TYs k) (cW k z g π σ) (XV z mi aK aV (cW k z g π σ)) Unit (fun _ => True) (fun _ => cW k z g π r) 0 0 := by
  intro sz
  refine v_met (cc := cX4_measureOfOne) (maxL := 12) (ret := none) (lv := [(0, rfv g x0), (1, rfv g x1)]) (by decide) rfl (by simp [lg_sl, rfv_cat, cat_i, cat_l]) (by simp [lv_args, rfv_cat, cat_i, cat_l]) ?_
  intro p e s m below meth c ls C hE hr hlk hmn hl h
  rw [Pt_measureOfOne] at hm
  refine z_aload_n C dX4_measureOfOne_0 rfl (lv_at hl 0 rfl) ?_
  obtain ⟨g1, hm⟩ := grd_s hm
  refine cg_5_0 C h g1 cU_X4 (List.mem_cons_of_mem _ wl_X4_26) dX4_measureOfOne_1 ?_
  obtain ⟨g2, hm⟩ := grd_s hm
  refine cg_10_2 C h g2 cU_X9 (List.mem_cons_of_mem _ wl_X4_61) dX4_measureOfOne_4 ?_
  obtain ⟨g3, hm⟩ := grd_s hm
  refine z_i2l C dX4_measureOfOne_7 g3 ?_
  obtain ⟨v4, e5, hm⟩ := bnd_s hm
  rw [e5]
  refine lv_lstore_n (i := 2) (lv' := [(2, .long (Int64.ofInt v4)), (0, rfv g x0), (1, rfv g x1)]) C.1 C.2.1 dX4_measureOfOne_8 rfl hl (by decide) (by simp [rfv_cat, cat_i, cat_l]) (fun ls hl => ?_)
  refine z_aload_n C dX4_measureOfOne_9 rfl (lv_at hl 1 rfl) ?_
  refine cg_5_0 C h g1 cU_X4 (List.mem_cons_of_mem _ wl_X4_26) dX4_measureOfOne_10 ?_
  refine cg_10_3 C h g2 cU_X9 (List.mem_cons_of_mem _ wl_X4_83) dX4_measureOfOne_13 ?_
  obtain ⟨g6, hm⟩ := grd_s hm
  refine z_i2l C dX4_measureOfOne_16 g6 ?_
  obtain ⟨v7, e8, hm⟩ := bnd_s hm
  rw [e8]
  refine lv_lstore (lv' := [(4, .long (Int64.ofInt v7)), (2, .long (Int64.ofInt v4)), (0, rfv g x0), (1, rfv g x1)]) C.1 C.2.1 dX4_measureOfOne_17 hl (by decide) rfl (fun ls hl => ?_)
  refine z_aload_n C dX4_measureOfOne_19 rfl (lv_at hl 2 rfl) ?_
  refine cg_5_0 C h g1 cU_X4 (List.mem_cons_of_mem _ wl_X4_26) dX4_measureOfOne_20 ?_
  refine cg_10_0 C h g2 cU_X9 (List.mem_cons_of_mem _ wl_X4_52) dX4_measureOfOne_23 ?_
  obtain ⟨g9, hm⟩ := grd_s hm
  by_cases c10 : (fl σ 200 (fl σ 100 x0)) = 7
  · refine x_topi (congrArg Int32.ofInt c10) ?_
    have hm := ite_t c10 hm
    refine lv_tableIn (tgt := 112) C.1 C.2.1 dX4_measureOfOne_26 (by decide) (by decide) rfl (by decide) ?_
    refine z_aload_n C dX4_measureOfOne_112 rfl (lv_at hl 2 rfl) ?_
    refine lv_lload C.1 C.2.1 dX4_measureOfOne_113 (lv_at hl 0 rfl) ?_
    refine z_aload_n C dX4_measureOfOne_115 rfl (lv_at hl 3 rfl) ?_
    obtain ⟨g11, hm⟩ := grd_s hm
    refine cg_5_2 C h g11 cU_X4 (List.mem_cons_of_mem _ wl_X4_7) dX4_measureOfOne_116 ?_
    refine z_lmul C dX4_measureOfOne_119 ?_
    refine lv_lload_n C.1 C.2.1 dX4_measureOfOne_120 rfl (lv_at hl 1 rfl) ?_
    refine z_aload_n C dX4_measureOfOne_121 rfl (lv_at hl 3 rfl) ?_
    refine cg_5_3 C h g11 cU_X4 (List.mem_cons_of_mem _ wl_X4_13) dX4_measureOfOne_122 ?_
    refine z_lmul C dX4_measureOfOne_125 ?_
    refine z_aload_n C dX4_measureOfOne_126 rfl (lv_at hl 3 rfl) ?_
    refine cg_5_4 C h g11 cU_X4 (List.mem_cons_of_mem _ wl_X4_16) dX4_measureOfOne_127 ?_
    refine lv_lload_n C.1 C.2.1 dX4_measureOfOne_130 rfl (lv_at hl 1 rfl) ?_
    refine z_aload_n C dX4_measureOfOne_131 rfl (lv_at hl 3 rfl) ?_
    refine cg_5_5 C h g11 cU_X4 (List.mem_cons_of_mem _ wl_X4_19) dX4_measureOfOne_132 ?_
    refine z_lmul C dX4_measureOfOne_135 ?_
    refine lv_lconst (v := Int64.ofInt 1) C.1 C.2.1 dX4_measureOfOne_136 (by decide) ?_
    refine z_ladd C dX4_measureOfOne_137 ?_
    obtain ⟨r12, e13, hm⟩ := obd_s hm
    refine c_callVvP C hE h g1 rfl (by decide) (kc_Pt_bounds l D k z mi aK aV g N hS e13) (cwV 4 C.2.2.1 (gS_X4_57 _) rfl rfl rfl hd_X4_bounds ⟨Nat.le_of_ble_eq_true rfl, Nat.le_of_ble_eq_true rfl⟩) rfl hl.1 rfl (Nat.le_of_ble_eq_true rfl) dX4_measureOfOne_138 ⟨(Nat.le_of_ble_eq_true rfl), (Nat.le_of_ble_eq_true rfl)⟩ (fun H locs h => ?_)
    refine lv_goto (tgt := 454) C.1 C.2.1 dX4_measureOfOne_141 (by decide) ?_
    cases hm
    exact c_vretP C h hr hlk dX4_measureOfOne_454
  have hm := ite_f c10 hm
  by_cases c16 : (fl σ 200 (fl σ 100 x0)) = 8
  · refine x_topi (congrArg Int32.ofInt c16) ?_
    have hm := ite_t c16 hm
    refine lv_tableIn (tgt := 432) C.1 C.2.1 dX4_measureOfOne_26 (by decide) (by decide) rfl (by decide) ?_
    refine z_aload_n C dX4_measureOfOne_432 rfl (lv_at hl 2 rfl) ?_
    refine z_aload_n C dX4_measureOfOne_433 rfl (lv_at hl 3 rfl) ?_
    obtain ⟨g17, hm⟩ := grd_s hm
    refine cg_5_2 C h g17 cU_X4 (List.mem_cons_of_mem _ wl_X4_7) dX4_measureOfOne_434 ?_
    refine z_aload_n C dX4_measureOfOne_437 rfl (lv_at hl 3 rfl) ?_
    refine cg_5_3 C h g17 cU_X4 (List.mem_cons_of_mem _ wl_X4_13) dX4_measureOfOne_438 ?_
    refine z_aload_n C dX4_measureOfOne_441 rfl (lv_at hl 3 rfl) ?_
    refine cg_5_4 C h g17 cU_X4 (List.mem_cons_of_mem _ wl_X4_16) dX4_measureOfOne_442 ?_
    refine z_aload_n C dX4_measureOfOne_445 rfl (lv_at hl 3 rfl) ?_
    refine cg_5_5 C h g17 cU_X4 (List.mem_cons_of_mem _ wl_X4_19) dX4_measureOfOne_446 ?_
    refine lv_lconst (v := Int64.ofInt 1) C.1 C.2.1 dX4_measureOfOne_449 (by decide) ?_
    refine z_ladd C dX4_measureOfOne_450 ?_
    obtain ⟨r18, e19, hm⟩ := obd_s hm
    refine c_callVvP C hE h g1 rfl (by decide) (kc_Pt_bounds l D k z mi aK aV g N hS e19) (cwV 4 C.2.2.1 (gS_X4_57 _) rfl rfl rfl hd_X4_bounds ⟨Nat.le_of_ble_eq_true rfl, Nat.le_of_ble_eq_true rfl⟩) rfl hl.1 rfl (Nat.le_of_ble_eq_true rfl) dX4_measureOfOne_451 ⟨(Nat.le_of_ble_eq_true rfl), (Nat.le_of_ble_eq_true rfl)⟩ (fun H locs h => ?_)
    cases hm
    exact c_vretP C h hr hlk dX4_measureOfOne_454
  have hm := ite_f c16 hm
  by_cases c22 : (fl σ 200 (fl σ 100 x0)) = 9
  · refine x_topi (congrArg Int32.ofInt c22) ?_
    have hm := ite_t c22 hm
    refine lv_tableIn (tgt := 144) C.1 C.2.1 dX4_measureOfOne_26 (by decide) (by decide) rfl (by decide) ?_
    refine lv_lload_n C.1 C.2.1 dX4_measureOfOne_144 rfl (lv_at hl 1 rfl) ?_
    refine lv_lload C.1 C.2.1 dX4_measureOfOne_145 (lv_at hl 0 rfl) ?_
    obtain ⟨r23, e24, hm⟩ := obd_s hm
    refine v_callSl C h (kc_Rw_ceiling l D k N v4 v7 r23 e24) (v_cwS 2 C.2.2.1 (gC_X7_ceiling _) rfl rfl rfl (C.2.2.1 _ (List.mem_cons_of_mem _ wt_X7)) (C.2.2.1 _ (List.mem_cons_of_mem _ wm_X4_94)) (C.2.2.1 _ (List.mem_cons_of_mem _ ws_X7_ceiling)) hdS_X7_ceiling ⟨Nat.le_of_ble_eq_true rfl, Nat.le_of_ble_eq_true rfl⟩) rfl hl.1 rfl (Nat.le_of_ble_eq_true rfl) dX4_measureOfOne_147 ⟨(Nat.le_of_ble_eq_true rfl), (Nat.le_of_ble_eq_true rfl)⟩ (fun H locs h => ?_)
    refine lv_lload C.1 C.2.1 dX4_measureOfOne_150 (lv_at hl 0 rfl) ?_
    refine lv_lconst (v := Int64.ofInt 1) C.1 C.2.1 dX4_measureOfOne_152 (by decide) ?_
    obtain ⟨g25, hm⟩ := grd_s hm
    refine W.lcmp C.1 C.2.1 dX4_measureOfOne_153 ?_
    refine z_lcmp_ne (tgt := 161) C dX4_measureOfOne_154 (by decide) g25 (by decide) (fun c26 => ?_) (fun c26 => ?_)
    · have hm := ite_f c26 hm
      refine lv_iconst (v := Int32.ofInt 1) C.1 C.2.1 dX4_measureOfOne_161 (by decide) ?_
      exact kl_Pt_measureOfOne_162 (N := N) C hr hlk hE hS (lv_sub hl [2, 3, 1, 0] rfl) h hm
    · have hm := ite_t c26 hm
      refine lv_iconst (v := Int32.ofInt 0) C.1 C.2.1 dX4_measureOfOne_157 (by decide) ?_
      refine lv_goto (tgt := 162) C.1 C.2.1 dX4_measureOfOne_158 (by decide) ?_
      exact kl_Pt_measureOfOne_162 (N := N) C hr hlk hE hS (lv_sub hl [2, 3, 1, 0] rfl) h hm
  have hm := ite_f c22 hm
  by_cases c27 : (fl σ 200 (fl σ 100 x0)) = 10
  · refine x_topi (congrArg Int32.ofInt c27) ?_
    have hm := ite_t c27 hm
    refine lv_tableIn (tgt := 206) C.1 C.2.1 dX4_measureOfOne_26 (by decide) (by decide) rfl (by decide) ?_
    refine lv_lload C.1 C.2.1 dX4_measureOfOne_206 (lv_at hl 0 rfl) ?_
    refine lv_lconst (v := Int64.ofInt 1) C.1 C.2.1 dX4_measureOfOne_208 (by decide) ?_
    obtain ⟨g28, hm⟩ := grd_s hm
    refine W.lcmp C.1 C.2.1 dX4_measureOfOne_209 ?_
    refine z_lcmp_ne (tgt := 217) C dX4_measureOfOne_210 (by decide) g28 (by decide) (fun c29 => ?_) (fun c29 => ?_)
    · have hm := ite_f c29 hm
      refine lv_ldc2 (v := 2) C.1 C.2.1 C.2.2.2.1 (C.2.2.1 _ (List.mem_cons_of_mem _ wk_X4_99)) dX4_measureOfOne_217 ?_
      refine x_topl (y := Int64.ofInt 2) (by decide) ?_
      exact kl_Pt_measureOfOne_220 (N := N) C hr hlk hE hS (lv_sub hl [2, 3, 0] rfl) h hm
    · have hm := ite_t c29 hm
      refine lv_lconst (v := Int64.ofInt 1) C.1 C.2.1 dX4_measureOfOne_213 (by decide) ?_
      refine lv_goto (tgt := 220) C.1 C.2.1 dX4_measureOfOne_214 (by decide) ?_
      exact kl_Pt_measureOfOne_220 (N := N) C hr hlk hE hS (lv_sub hl [2, 3, 0] rfl) h hm
  have hm := ite_f c27 hm
  by_cases c30 : (fl σ 200 (fl σ 100 x0)) = 11
  · refine x_topi (congrArg Int32.ofInt c30) ?_
    have hm := ite_t c30 hm
    refine lv_tableIn (tgt := 258) C.1 C.2.1 dX4_measureOfOne_26 (by decide) (by decide) rfl (by decide) ?_
    refine z_aload_n C dX4_measureOfOne_258 rfl (lv_at hl 2 rfl) ?_
    refine z_aload_n C dX4_measureOfOne_259 rfl (lv_at hl 3 rfl) ?_
    obtain ⟨g31, hm⟩ := grd_s hm
    refine cg_5_2 C h g31 cU_X4 (List.mem_cons_of_mem _ wl_X4_7) dX4_measureOfOne_260 ?_
    refine z_aload_n C dX4_measureOfOne_263 rfl (lv_at hl 3 rfl) ?_
    refine cg_5_3 C h g31 cU_X4 (List.mem_cons_of_mem _ wl_X4_13) dX4_measureOfOne_264 ?_
    refine lv_lconst (v := Int64.ofInt 1) C.1 C.2.1 dX4_measureOfOne_267 (by decide) ?_
    refine z_aload_n C dX4_measureOfOne_268 rfl (lv_at hl 3 rfl) ?_
    refine cg_5_5 C h g31 cU_X4 (List.mem_cons_of_mem _ wl_X4_19) dX4_measureOfOne_269 ?_
    refine lv_lconst (v := Int64.ofInt 1) C.1 C.2.1 dX4_measureOfOne_272 (by decide) ?_
    refine z_ladd C dX4_measureOfOne_273 ?_
    obtain ⟨r32, e33, hm⟩ := obd_s hm
    refine c_callVvP C hE h g1 rfl (by decide) (kc_Pt_bounds l D k z mi aK aV g N hS e33) (cwV 4 C.2.2.1 (gS_X4_57 _) rfl rfl rfl hd_X4_bounds ⟨Nat.le_of_ble_eq_true rfl, Nat.le_of_ble_eq_true rfl⟩) rfl hl.1 rfl (Nat.le_of_ble_eq_true rfl) dX4_measureOfOne_274 ⟨(Nat.le_of_ble_eq_true rfl), (Nat.le_of_ble_eq_true rfl)⟩ (fun H locs h => ?_)
    refine lv_goto (tgt := 454) C.1 C.2.1 dX4_measureOfOne_277 (by decide) ?_
    cases hm
    exact c_vretP C h hr hlk dX4_measureOfOne_454
  have hm := ite_f c30 hm
  by_cases c36 : (fl σ 200 (fl σ 100 x0)) = 12
  · refine x_topi (congrArg Int32.ofInt c36) ?_
    have hm := ite_t c36 hm
    refine lv_tableIn (tgt := 432) C.1 C.2.1 dX4_measureOfOne_26 (by decide) (by decide) rfl (by decide) ?_
    refine z_aload_n C dX4_measureOfOne_432 rfl (lv_at hl 2 rfl) ?_
    refine z_aload_n C dX4_measureOfOne_433 rfl (lv_at hl 3 rfl) ?_
    obtain ⟨g37, hm⟩ := grd_s hm
    refine cg_5_2 C h g37 cU_X4 (List.mem_cons_of_mem _ wl_X4_7) dX4_measureOfOne_434 ?_
    refine z_aload_n C dX4_measureOfOne_437 rfl (lv_at hl 3 rfl) ?_
    refine cg_5_3 C h g37 cU_X4 (List.mem_cons_of_mem _ wl_X4_13) dX4_measureOfOne_438 ?_
    refine z_aload_n C dX4_measureOfOne_441 rfl (lv_at hl 3 rfl) ?_
    refine cg_5_4 C h g37 cU_X4 (List.mem_cons_of_mem _ wl_X4_16) dX4_measureOfOne_442 ?_
    refine z_aload_n C dX4_measureOfOne_445 rfl (lv_at hl 3 rfl) ?_
    refine cg_5_5 C h g37 cU_X4 (List.mem_cons_of_mem _ wl_X4_19) dX4_measureOfOne_446 ?_
    refine lv_lconst (v := Int64.ofInt 1) C.1 C.2.1 dX4_measureOfOne_449 (by decide) ?_
    refine z_ladd C dX4_measureOfOne_450 ?_
    obtain ⟨r38, e39, hm⟩ := obd_s hm
    refine c_callVvP C hE h g1 rfl (by decide) (kc_Pt_bounds l D k z mi aK aV g N hS e39) (cwV 4 C.2.2.1 (gS_X4_57 _) rfl rfl rfl hd_X4_bounds ⟨Nat.le_of_ble_eq_true rfl, Nat.le_of_ble_eq_true rfl⟩) rfl hl.1 rfl (Nat.le_of_ble_eq_true rfl) dX4_measureOfOne_451 ⟨(Nat.le_of_ble_eq_true rfl), (Nat.le_of_ble_eq_true rfl)⟩ (fun H locs h => ?_)
    cases hm
    exact c_vretP C h hr hlk dX4_measureOfOne_454
  have hm := ite_f c36 hm
  by_cases c42 : (fl σ 200 (fl σ 100 x0)) = 13
  · refine x_topi (congrArg Int32.ofInt c42) ?_
    have hm := ite_t c42 hm
    refine lv_tableIn (tgt := 432) C.1 C.2.1 dX4_measureOfOne_26 (by decide) (by decide) rfl (by decide) ?_
    refine z_aload_n C dX4_measureOfOne_432 rfl (lv_at hl 2 rfl) ?_
    refine z_aload_n C dX4_measureOfOne_433 rfl (lv_at hl 3 rfl) ?_
    obtain ⟨g43, hm⟩ := grd_s hm
    refine cg_5_2 C h g43 cU_X4 (List.mem_cons_of_mem _ wl_X4_7) dX4_measureOfOne_434 ?_
    refine z_aload_n C dX4_measureOfOne_437 rfl (lv_at hl 3 rfl) ?_
    refine cg_5_3 C h g43 cU_X4 (List.mem_cons_of_mem _ wl_X4_13) dX4_measureOfOne_438 ?_
    refine z_aload_n C dX4_measureOfOne_441 rfl (lv_at hl 3 rfl) ?_
    refine cg_5_4 C h g43 cU_X4 (List.mem_cons_of_mem _ wl_X4_16) dX4_measureOfOne_442 ?_
    refine z_aload_n C dX4_measureOfOne_445 rfl (lv_at hl 3 rfl) ?_
    refine cg_5_5 C h g43 cU_X4 (List.mem_cons_of_mem _ wl_X4_19) dX4_measureOfOne_446 ?_
    refine lv_lconst (v := Int64.ofInt 1) C.1 C.2.1 dX4_measureOfOne_449 (by decide) ?_
    refine z_ladd C dX4_measureOfOne_450 ?_
    obtain ⟨r44, e45, hm⟩ := obd_s hm
    refine c_callVvP C hE h g1 rfl (by decide) (kc_Pt_bounds l D k z mi aK aV g N hS e45) (cwV 4 C.2.2.1 (gS_X4_57 _) rfl rfl rfl hd_X4_bounds ⟨Nat.le_of_ble_eq_true rfl, Nat.le_of_ble_eq_true rfl⟩) rfl hl.1 rfl (Nat.le_of_ble_eq_true rfl) dX4_measureOfOne_451 ⟨(Nat.le_of_ble_eq_true rfl), (Nat.le_of_ble_eq_true rfl)⟩ (fun H locs h => ?_)
    cases hm
    exact c_vretP C h hr hlk dX4_measureOfOne_454
  have hm := ite_f c42 hm
  by_cases c48 : (fl σ 200 (fl σ 100 x0)) = 14
  · refine x_topi (congrArg Int32.ofInt c48) ?_
    have hm := ite_t c48 hm
    refine lv_tableIn (tgt := 280) C.1 C.2.1 dX4_measureOfOne_26 (by decide) (by decide) rfl (by decide) ?_
    refine z_aload_n C dX4_measureOfOne_280 rfl (lv_at hl 2 rfl) ?_
    refine z_aload_n C dX4_measureOfOne_281 rfl (lv_at hl 3 rfl) ?_
    obtain ⟨g49, hm⟩ := grd_s hm
    refine cg_5_2 C h g49 cU_X4 (List.mem_cons_of_mem _ wl_X4_7) dX4_measureOfOne_282 ?_
    refine lv_lload_n C.1 C.2.1 dX4_measureOfOne_285 rfl (lv_at hl 1 rfl) ?_
    obtain ⟨r50, e51, hm⟩ := obd_s hm
    refine v_callSl C h (kc_Pt_lcm l D k N (fl σ 102 x1) v4 r50 e51) (v_cwS 2 C.2.2.1 (gC_X4_lcm _) rfl rfl rfl (C.2.2.1 _ (List.mem_cons_of_mem _ wt_X4)) (C.2.2.1 _ (List.mem_cons_of_mem _ wm_X4_101)) (C.2.2.1 _ (List.mem_cons_of_mem _ ws_X4_lcm)) hdS_X4_lcm ⟨Nat.le_of_ble_eq_true rfl, Nat.le_of_ble_eq_true rfl⟩) rfl hl.1 rfl (by simp [rfv_cat, cat_i, cat_l]) dX4_measureOfOne_286 ⟨(Nat.le_of_ble_eq_true rfl), (Nat.le_of_ble_eq_true rfl)⟩ (fun H locs h => ?_)
    refine lv_ldc2 (v := 2) C.1 C.2.1 C.2.2.2.1 (C.2.2.1 _ (List.mem_cons_of_mem _ wk_X4_99)) dX4_measureOfOne_289 ?_
    refine x_topl (y := Int64.ofInt 2) (by decide) ?_
    refine z_aload_n C dX4_measureOfOne_292 rfl (lv_at hl 3 rfl) ?_
    refine cg_5_3 C h g49 cU_X4 (List.mem_cons_of_mem _ wl_X4_13) dX4_measureOfOne_293 ?_
    refine z_lmul C dX4_measureOfOne_296 ?_
    refine z_aload_n C dX4_measureOfOne_297 rfl (lv_at hl 3 rfl) ?_
    refine cg_5_4 C h g49 cU_X4 (List.mem_cons_of_mem _ wl_X4_16) dX4_measureOfOne_298 ?_
    refine lv_ldc2 (v := 2) C.1 C.2.1 C.2.2.2.1 (C.2.2.1 _ (List.mem_cons_of_mem _ wk_X4_99)) dX4_measureOfOne_301 ?_
    refine x_topl (y := Int64.ofInt 2) (by decide) ?_
    refine z_aload_n C dX4_measureOfOne_304 rfl (lv_at hl 3 rfl) ?_
    refine cg_5_5 C h g49 cU_X4 (List.mem_cons_of_mem _ wl_X4_19) dX4_measureOfOne_305 ?_
    refine z_lmul C dX4_measureOfOne_308 ?_
    refine lv_lconst (v := Int64.ofInt 1) C.1 C.2.1 dX4_measureOfOne_309 (by decide) ?_
    refine z_ladd C dX4_measureOfOne_310 ?_
    obtain ⟨r52, e53, hm⟩ := obd_s hm
    refine c_callVvP C hE h g1 rfl (by decide) (kc_Pt_bounds l D k z mi aK aV g N hS e53) (cwV 4 C.2.2.1 (gS_X4_57 _) rfl rfl rfl hd_X4_bounds ⟨Nat.le_of_ble_eq_true rfl, Nat.le_of_ble_eq_true rfl⟩) rfl hl.1 rfl (Nat.le_of_ble_eq_true rfl) dX4_measureOfOne_311 ⟨(Nat.le_of_ble_eq_true rfl), (Nat.le_of_ble_eq_true rfl)⟩ (fun H locs h => ?_)
    refine lv_goto (tgt := 454) C.1 C.2.1 dX4_measureOfOne_314 (by decide) ?_
    cases hm
    exact c_vretP C h hr hlk dX4_measureOfOne_454
  have hm := ite_f c48 hm
  by_cases c56 : (fl σ 200 (fl σ 100 x0)) = 15
  · refine x_topi (congrArg Int32.ofInt c56) ?_
    have hm := ite_t c56 hm
    refine lv_tableIn (tgt := 317) C.1 C.2.1 dX4_measureOfOne_26 (by decide) (by decide) rfl (by decide) ?_
    refine z_aload_n C dX4_measureOfOne_317 rfl (lv_at hl 3 rfl) ?_
    obtain ⟨g57, hm⟩ := grd_s hm
    refine cg_5_4 C h g57 cU_X4 (List.mem_cons_of_mem _ wl_X4_16) dX4_measureOfOne_318 ?_
    refine lv_lconst (v := Int64.ofInt 1) C.1 C.2.1 dX4_measureOfOne_321 (by decide) ?_
    refine z_ladd C dX4_measureOfOne_322 ?_
    obtain ⟨v58, e59, hm⟩ := bnd_s hm
    rw [e59]
    refine lv_lstore (lv' := [(10, .long (Int64.ofInt v58)), (4, .long (Int64.ofInt v7)), (2, .long (Int64.ofInt v4)), (0, rfv g x0), (1, rfv g x1)]) C.1 C.2.1 dX4_measureOfOne_323 hl (by decide) rfl (fun ls hl => ?_)
    refine z_aload_n C dX4_measureOfOne_325 rfl (lv_at hl 3 rfl) ?_
    refine lv_lload_n C.1 C.2.1 dX4_measureOfOne_326 rfl (lv_at hl 2 rfl) ?_
    refine z_aload_n C dX4_measureOfOne_327 rfl (lv_at hl 4 rfl) ?_
    refine cg_5_2 C h g57 cU_X4 (List.mem_cons_of_mem _ wl_X4_7) dX4_measureOfOne_328 ?_
    refine z_lmul C dX4_measureOfOne_331 ?_
    refine lv_lload_n C.1 C.2.1 dX4_measureOfOne_332 rfl (lv_at hl 2 rfl) ?_
    refine z_aload_n C dX4_measureOfOne_333 rfl (lv_at hl 4 rfl) ?_
    refine cg_5_3 C h g57 cU_X4 (List.mem_cons_of_mem _ wl_X4_13) dX4_measureOfOne_334 ?_
    refine z_lmul C dX4_measureOfOne_337 ?_
    refine lv_lload C.1 C.2.1 dX4_measureOfOne_338 (lv_at hl 0 rfl) ?_
    refine z_lmul C dX4_measureOfOne_340 ?_
    refine z_aload_n C dX4_measureOfOne_341 rfl (lv_at hl 4 rfl) ?_
    refine cg_5_4 C h g57 cU_X4 (List.mem_cons_of_mem _ wl_X4_16) dX4_measureOfOne_342 ?_
    refine lv_lload C.1 C.2.1 dX4_measureOfOne_345 (lv_at hl 0 rfl) ?_
    refine z_aload_n C dX4_measureOfOne_347 rfl (lv_at hl 4 rfl) ?_
    refine cg_5_5 C h g57 cU_X4 (List.mem_cons_of_mem _ wl_X4_19) dX4_measureOfOne_348 ?_
    refine lv_lload_n C.1 C.2.1 dX4_measureOfOne_351 rfl (lv_at hl 2 rfl) ?_
    refine z_aload_n C dX4_measureOfOne_352 rfl (lv_at hl 4 rfl) ?_
    refine cg_5_3 C h g57 cU_X4 (List.mem_cons_of_mem _ wl_X4_13) dX4_measureOfOne_353 ?_
    refine z_lmul C dX4_measureOfOne_356 ?_
    refine z_ladd C dX4_measureOfOne_357 ?_
    refine z_lmul C dX4_measureOfOne_358 ?_
    refine lv_lconst (v := Int64.ofInt 1) C.1 C.2.1 dX4_measureOfOne_359 (by decide) ?_
    refine z_ladd C dX4_measureOfOne_360 ?_
    obtain ⟨r60, e61, hm⟩ := obd_s hm
    refine c_callVvP C hE h g1 rfl (by decide) (kc_Pt_bounds l D k z mi aK aV g N hS e61) (cwV 4 C.2.2.1 (gS_X4_57 _) rfl rfl rfl hd_X4_bounds ⟨Nat.le_of_ble_eq_true rfl, Nat.le_of_ble_eq_true rfl⟩) rfl hl.1 rfl (Nat.le_of_ble_eq_true rfl) dX4_measureOfOne_361 ⟨(Nat.le_of_ble_eq_true rfl), (Nat.le_of_ble_eq_true rfl)⟩ (fun H locs h => ?_)
    refine lv_goto (tgt := 454) C.1 C.2.1 dX4_measureOfOne_364 (by decide) ?_
    cases hm
    exact c_vretP C h hr hlk dX4_measureOfOne_454
  have hm := ite_f c56 hm
  by_cases c64 : (fl σ 200 (fl σ 100 x0)) = 16
  · refine x_topi (congrArg Int32.ofInt c64) ?_
    have hm := ite_t c64 hm
    refine lv_tableIn (tgt := 432) C.1 C.2.1 dX4_measureOfOne_26 (by decide) (by decide) rfl (by decide) ?_
    refine z_aload_n C dX4_measureOfOne_432 rfl (lv_at hl 2 rfl) ?_
    refine z_aload_n C dX4_measureOfOne_433 rfl (lv_at hl 3 rfl) ?_
    obtain ⟨g65, hm⟩ := grd_s hm
    refine cg_5_2 C h g65 cU_X4 (List.mem_cons_of_mem _ wl_X4_7) dX4_measureOfOne_434 ?_
    refine z_aload_n C dX4_measureOfOne_437 rfl (lv_at hl 3 rfl) ?_
    refine cg_5_3 C h g65 cU_X4 (List.mem_cons_of_mem _ wl_X4_13) dX4_measureOfOne_438 ?_
    refine z_aload_n C dX4_measureOfOne_441 rfl (lv_at hl 3 rfl) ?_
    refine cg_5_4 C h g65 cU_X4 (List.mem_cons_of_mem _ wl_X4_16) dX4_measureOfOne_442 ?_
    refine z_aload_n C dX4_measureOfOne_445 rfl (lv_at hl 3 rfl) ?_
    refine cg_5_5 C h g65 cU_X4 (List.mem_cons_of_mem _ wl_X4_19) dX4_measureOfOne_446 ?_
    refine lv_lconst (v := Int64.ofInt 1) C.1 C.2.1 dX4_measureOfOne_449 (by decide) ?_
    refine z_ladd C dX4_measureOfOne_450 ?_
    obtain ⟨r66, e67, hm⟩ := obd_s hm
    refine c_callVvP C hE h g1 rfl (by decide) (kc_Pt_bounds l D k z mi aK aV g N hS e67) (cwV 4 C.2.2.1 (gS_X4_57 _) rfl rfl rfl hd_X4_bounds ⟨Nat.le_of_ble_eq_true rfl, Nat.le_of_ble_eq_true rfl⟩) rfl hl.1 rfl (Nat.le_of_ble_eq_true rfl) dX4_measureOfOne_451 ⟨(Nat.le_of_ble_eq_true rfl), (Nat.le_of_ble_eq_true rfl)⟩ (fun H locs h => ?_)
    cases hm
    exact c_vretP C h hr hlk dX4_measureOfOne_454
  have hm := ite_f c64 hm
  by_cases c70 : (fl σ 200 (fl σ 100 x0)) = 17
  · refine x_topi (congrArg Int32.ofInt c70) ?_
    have hm := ite_t c70 hm
    refine lv_tableIn (tgt := 432) C.1 C.2.1 dX4_measureOfOne_26 (by decide) (by decide) rfl (by decide) ?_
    refine z_aload_n C dX4_measureOfOne_432 rfl (lv_at hl 2 rfl) ?_
    refine z_aload_n C dX4_measureOfOne_433 rfl (lv_at hl 3 rfl) ?_
    obtain ⟨g71, hm⟩ := grd_s hm
    refine cg_5_2 C h g71 cU_X4 (List.mem_cons_of_mem _ wl_X4_7) dX4_measureOfOne_434 ?_
    refine z_aload_n C dX4_measureOfOne_437 rfl (lv_at hl 3 rfl) ?_
    refine cg_5_3 C h g71 cU_X4 (List.mem_cons_of_mem _ wl_X4_13) dX4_measureOfOne_438 ?_
    refine z_aload_n C dX4_measureOfOne_441 rfl (lv_at hl 3 rfl) ?_
    refine cg_5_4 C h g71 cU_X4 (List.mem_cons_of_mem _ wl_X4_16) dX4_measureOfOne_442 ?_
    refine z_aload_n C dX4_measureOfOne_445 rfl (lv_at hl 3 rfl) ?_
    refine cg_5_5 C h g71 cU_X4 (List.mem_cons_of_mem _ wl_X4_19) dX4_measureOfOne_446 ?_
    refine lv_lconst (v := Int64.ofInt 1) C.1 C.2.1 dX4_measureOfOne_449 (by decide) ?_
    refine z_ladd C dX4_measureOfOne_450 ?_
    obtain ⟨r72, e73, hm⟩ := obd_s hm
    refine c_callVvP C hE h g1 rfl (by decide) (kc_Pt_bounds l D k z mi aK aV g N hS e73) (cwV 4 C.2.2.1 (gS_X4_57 _) rfl rfl rfl hd_X4_bounds ⟨Nat.le_of_ble_eq_true rfl, Nat.le_of_ble_eq_true rfl⟩) rfl hl.1 rfl (Nat.le_of_ble_eq_true rfl) dX4_measureOfOne_451 ⟨(Nat.le_of_ble_eq_true rfl), (Nat.le_of_ble_eq_true rfl)⟩ (fun H locs h => ?_)
    cases hm
    exact c_vretP C h hr hlk dX4_measureOfOne_454
  have hm := ite_f c70 hm
  by_cases c76 : (fl σ 200 (fl σ 100 x0)) = 18
  · refine x_topi (congrArg Int32.ofInt c76) ?_
    have hm := ite_t c76 hm
    refine lv_tableIn (tgt := 367) C.1 C.2.1 dX4_measureOfOne_26 (by decide) (by decide) rfl (by decide) ?_
    refine z_aload_n C dX4_measureOfOne_367 rfl (lv_at hl 2 rfl) ?_
    refine z_aload_n C dX4_measureOfOne_368 rfl (lv_at hl 3 rfl) ?_
    obtain ⟨g77, hm⟩ := grd_s hm
    refine cg_5_2 C h g77 cU_X4 (List.mem_cons_of_mem _ wl_X4_7) dX4_measureOfOne_369 ?_
    refine z_aload_n C dX4_measureOfOne_372 rfl (lv_at hl 3 rfl) ?_
    refine cg_5_3 C h g77 cU_X4 (List.mem_cons_of_mem _ wl_X4_13) dX4_measureOfOne_373 ?_
    refine z_aload_n C dX4_measureOfOne_376 rfl (lv_at hl 3 rfl) ?_
    refine cg_5_4 C h g77 cU_X4 (List.mem_cons_of_mem _ wl_X4_16) dX4_measureOfOne_377 ?_
    refine z_aload_n C dX4_measureOfOne_380 rfl (lv_at hl 3 rfl) ?_
    refine cg_5_5 C h g77 cU_X4 (List.mem_cons_of_mem _ wl_X4_19) dX4_measureOfOne_381 ?_
    refine z_aload_n C dX4_measureOfOne_384 rfl (lv_at hl 3 rfl) ?_
    refine cg_5_3 C h g77 cU_X4 (List.mem_cons_of_mem _ wl_X4_13) dX4_measureOfOne_385 ?_
    refine z_ladd C dX4_measureOfOne_388 ?_
    refine lv_lconst (v := Int64.ofInt 1) C.1 C.2.1 dX4_measureOfOne_389 (by decide) ?_
    refine z_ladd C dX4_measureOfOne_390 ?_
    obtain ⟨r78, e79, hm⟩ := obd_s hm
    refine c_callVvP C hE h g1 rfl (by decide) (kc_Pt_bounds l D k z mi aK aV g N hS e79) (cwV 4 C.2.2.1 (gS_X4_57 _) rfl rfl rfl hd_X4_bounds ⟨Nat.le_of_ble_eq_true rfl, Nat.le_of_ble_eq_true rfl⟩) rfl hl.1 rfl (Nat.le_of_ble_eq_true rfl) dX4_measureOfOne_391 ⟨(Nat.le_of_ble_eq_true rfl), (Nat.le_of_ble_eq_true rfl)⟩ (fun H locs h => ?_)
    refine lv_goto (tgt := 454) C.1 C.2.1 dX4_measureOfOne_394 (by decide) ?_
    cases hm
    exact c_vretP C h hr hlk dX4_measureOfOne_454
  have hm := ite_f c76 hm
  by_cases c82 : (fl σ 200 (fl σ 100 x0)) = 19
  · refine x_topi (congrArg Int32.ofInt c82) ?_
    have hm := ite_t c82 hm
    refine lv_tableIn (tgt := 432) C.1 C.2.1 dX4_measureOfOne_26 (by decide) (by decide) rfl (by decide) ?_
    refine z_aload_n C dX4_measureOfOne_432 rfl (lv_at hl 2 rfl) ?_
    refine z_aload_n C dX4_measureOfOne_433 rfl (lv_at hl 3 rfl) ?_
    obtain ⟨g83, hm⟩ := grd_s hm
    refine cg_5_2 C h g83 cU_X4 (List.mem_cons_of_mem _ wl_X4_7) dX4_measureOfOne_434 ?_
    refine z_aload_n C dX4_measureOfOne_437 rfl (lv_at hl 3 rfl) ?_
    refine cg_5_3 C h g83 cU_X4 (List.mem_cons_of_mem _ wl_X4_13) dX4_measureOfOne_438 ?_
    refine z_aload_n C dX4_measureOfOne_441 rfl (lv_at hl 3 rfl) ?_
    refine cg_5_4 C h g83 cU_X4 (List.mem_cons_of_mem _ wl_X4_16) dX4_measureOfOne_442 ?_
    refine z_aload_n C dX4_measureOfOne_445 rfl (lv_at hl 3 rfl) ?_
    refine cg_5_5 C h g83 cU_X4 (List.mem_cons_of_mem _ wl_X4_19) dX4_measureOfOne_446 ?_
    refine lv_lconst (v := Int64.ofInt 1) C.1 C.2.1 dX4_measureOfOne_449 (by decide) ?_
    refine z_ladd C dX4_measureOfOne_450 ?_
    obtain ⟨r84, e85, hm⟩ := obd_s hm
    refine c_callVvP C hE h g1 rfl (by decide) (kc_Pt_bounds l D k z mi aK aV g N hS e85) (cwV 4 C.2.2.1 (gS_X4_57 _) rfl rfl rfl hd_X4_bounds ⟨Nat.le_of_ble_eq_true rfl, Nat.le_of_ble_eq_true rfl⟩) rfl hl.1 rfl (Nat.le_of_ble_eq_true rfl) dX4_measureOfOne_451 ⟨(Nat.le_of_ble_eq_true rfl), (Nat.le_of_ble_eq_true rfl)⟩ (fun H locs h => ?_)
    cases hm
    exact c_vretP C h hr hlk dX4_measureOfOne_454
  have hm := ite_f c82 hm
  by_cases c88 : (fl σ 200 (fl σ 100 x0)) = 20
  · refine x_topi (congrArg Int32.ofInt c88) ?_
    have hm := ite_t c88 hm
    refine lv_tableIn (tgt := 432) C.1 C.2.1 dX4_measureOfOne_26 (by decide) (by decide) rfl (by decide) ?_
    refine z_aload_n C dX4_measureOfOne_432 rfl (lv_at hl 2 rfl) ?_
    refine z_aload_n C dX4_measureOfOne_433 rfl (lv_at hl 3 rfl) ?_
    obtain ⟨g89, hm⟩ := grd_s hm
    refine cg_5_2 C h g89 cU_X4 (List.mem_cons_of_mem _ wl_X4_7) dX4_measureOfOne_434 ?_
    refine z_aload_n C dX4_measureOfOne_437 rfl (lv_at hl 3 rfl) ?_
    refine cg_5_3 C h g89 cU_X4 (List.mem_cons_of_mem _ wl_X4_13) dX4_measureOfOne_438 ?_
    refine z_aload_n C dX4_measureOfOne_441 rfl (lv_at hl 3 rfl) ?_
    refine cg_5_4 C h g89 cU_X4 (List.mem_cons_of_mem _ wl_X4_16) dX4_measureOfOne_442 ?_
    refine z_aload_n C dX4_measureOfOne_445 rfl (lv_at hl 3 rfl) ?_
    refine cg_5_5 C h g89 cU_X4 (List.mem_cons_of_mem _ wl_X4_19) dX4_measureOfOne_446 ?_
    refine lv_lconst (v := Int64.ofInt 1) C.1 C.2.1 dX4_measureOfOne_449 (by decide) ?_
    refine z_ladd C dX4_measureOfOne_450 ?_
    obtain ⟨r90, e91, hm⟩ := obd_s hm
    refine c_callVvP C hE h g1 rfl (by decide) (kc_Pt_bounds l D k z mi aK aV g N hS e91) (cwV 4 C.2.2.1 (gS_X4_57 _) rfl rfl rfl hd_X4_bounds ⟨Nat.le_of_ble_eq_true rfl, Nat.le_of_ble_eq_true rfl⟩) rfl hl.1 rfl (Nat.le_of_ble_eq_true rfl) dX4_measureOfOne_451 ⟨(Nat.le_of_ble_eq_true rfl), (Nat.le_of_ble_eq_true rfl)⟩ (fun H locs h => ?_)
    cases hm
    exact c_vretP C h hr hlk dX4_measureOfOne_454
  have hm := ite_f c88 hm
  by_cases c94 : (fl σ 200 (fl σ 100 x0)) = 21
  · refine x_topi (congrArg Int32.ofInt c94) ?_
    have hm := ite_t c94 hm
    refine lv_tableIn (tgt := 432) C.1 C.2.1 dX4_measureOfOne_26 (by decide) (by decide) rfl (by decide) ?_
    refine z_aload_n C dX4_measureOfOne_432 rfl (lv_at hl 2 rfl) ?_
    refine z_aload_n C dX4_measureOfOne_433 rfl (lv_at hl 3 rfl) ?_
    obtain ⟨g95, hm⟩ := grd_s hm
    refine cg_5_2 C h g95 cU_X4 (List.mem_cons_of_mem _ wl_X4_7) dX4_measureOfOne_434 ?_
    refine z_aload_n C dX4_measureOfOne_437 rfl (lv_at hl 3 rfl) ?_
    refine cg_5_3 C h g95 cU_X4 (List.mem_cons_of_mem _ wl_X4_13) dX4_measureOfOne_438 ?_
    refine z_aload_n C dX4_measureOfOne_441 rfl (lv_at hl 3 rfl) ?_
    refine cg_5_4 C h g95 cU_X4 (List.mem_cons_of_mem _ wl_X4_16) dX4_measureOfOne_442 ?_
    refine z_aload_n C dX4_measureOfOne_445 rfl (lv_at hl 3 rfl) ?_
    refine cg_5_5 C h g95 cU_X4 (List.mem_cons_of_mem _ wl_X4_19) dX4_measureOfOne_446 ?_
    refine lv_lconst (v := Int64.ofInt 1) C.1 C.2.1 dX4_measureOfOne_449 (by decide) ?_
    refine z_ladd C dX4_measureOfOne_450 ?_
    obtain ⟨r96, e97, hm⟩ := obd_s hm
    refine c_callVvP C hE h g1 rfl (by decide) (kc_Pt_bounds l D k z mi aK aV g N hS e97) (cwV 4 C.2.2.1 (gS_X4_57 _) rfl rfl rfl hd_X4_bounds ⟨Nat.le_of_ble_eq_true rfl, Nat.le_of_ble_eq_true rfl⟩) rfl hl.1 rfl (Nat.le_of_ble_eq_true rfl) dX4_measureOfOne_451 ⟨(Nat.le_of_ble_eq_true rfl), (Nat.le_of_ble_eq_true rfl)⟩ (fun H locs h => ?_)
    cases hm
    exact c_vretP C h hr hlk dX4_measureOfOne_454
  have hm := ite_f c94 hm
  by_cases c100 : (fl σ 200 (fl σ 100 x0)) = 22
  · refine x_topi (congrArg Int32.ofInt c100) ?_
    have hm := ite_t c100 hm
    refine lv_tableIn (tgt := 432) C.1 C.2.1 dX4_measureOfOne_26 (by decide) (by decide) rfl (by decide) ?_
    refine z_aload_n C dX4_measureOfOne_432 rfl (lv_at hl 2 rfl) ?_
    refine z_aload_n C dX4_measureOfOne_433 rfl (lv_at hl 3 rfl) ?_
    obtain ⟨g101, hm⟩ := grd_s hm
    refine cg_5_2 C h g101 cU_X4 (List.mem_cons_of_mem _ wl_X4_7) dX4_measureOfOne_434 ?_
    refine z_aload_n C dX4_measureOfOne_437 rfl (lv_at hl 3 rfl) ?_
    refine cg_5_3 C h g101 cU_X4 (List.mem_cons_of_mem _ wl_X4_13) dX4_measureOfOne_438 ?_
    refine z_aload_n C dX4_measureOfOne_441 rfl (lv_at hl 3 rfl) ?_
    refine cg_5_4 C h g101 cU_X4 (List.mem_cons_of_mem _ wl_X4_16) dX4_measureOfOne_442 ?_
    refine z_aload_n C dX4_measureOfOne_445 rfl (lv_at hl 3 rfl) ?_
    refine cg_5_5 C h g101 cU_X4 (List.mem_cons_of_mem _ wl_X4_19) dX4_measureOfOne_446 ?_
    refine lv_lconst (v := Int64.ofInt 1) C.1 C.2.1 dX4_measureOfOne_449 (by decide) ?_
    refine z_ladd C dX4_measureOfOne_450 ?_
    obtain ⟨r102, e103, hm⟩ := obd_s hm
    refine c_callVvP C hE h g1 rfl (by decide) (kc_Pt_bounds l D k z mi aK aV g N hS e103) (cwV 4 C.2.2.1 (gS_X4_57 _) rfl rfl rfl hd_X4_bounds ⟨Nat.le_of_ble_eq_true rfl, Nat.le_of_ble_eq_true rfl⟩) rfl hl.1 rfl (Nat.le_of_ble_eq_true rfl) dX4_measureOfOne_451 ⟨(Nat.le_of_ble_eq_true rfl), (Nat.le_of_ble_eq_true rfl)⟩ (fun H locs h => ?_)
    cases hm
    exact c_vretP C h hr hlk dX4_measureOfOne_454
  have hm := ite_f c100 hm
  by_cases c106 : (fl σ 200 (fl σ 100 x0)) = 23
  · refine x_topi (congrArg Int32.ofInt c106) ?_
    have hm := ite_t c106 hm
    refine lv_tableIn (tgt := 432) C.1 C.2.1 dX4_measureOfOne_26 (by decide) (by decide) rfl (by decide) ?_
    refine z_aload_n C dX4_measureOfOne_432 rfl (lv_at hl 2 rfl) ?_
    refine z_aload_n C dX4_measureOfOne_433 rfl (lv_at hl 3 rfl) ?_
    obtain ⟨g107, hm⟩ := grd_s hm
    refine cg_5_2 C h g107 cU_X4 (List.mem_cons_of_mem _ wl_X4_7) dX4_measureOfOne_434 ?_
    refine z_aload_n C dX4_measureOfOne_437 rfl (lv_at hl 3 rfl) ?_
    refine cg_5_3 C h g107 cU_X4 (List.mem_cons_of_mem _ wl_X4_13) dX4_measureOfOne_438 ?_
    refine z_aload_n C dX4_measureOfOne_441 rfl (lv_at hl 3 rfl) ?_
    refine cg_5_4 C h g107 cU_X4 (List.mem_cons_of_mem _ wl_X4_16) dX4_measureOfOne_442 ?_
    refine z_aload_n C dX4_measureOfOne_445 rfl (lv_at hl 3 rfl) ?_
    refine cg_5_5 C h g107 cU_X4 (List.mem_cons_of_mem _ wl_X4_19) dX4_measureOfOne_446 ?_
    refine lv_lconst (v := Int64.ofInt 1) C.1 C.2.1 dX4_measureOfOne_449 (by decide) ?_
    refine z_ladd C dX4_measureOfOne_450 ?_
    obtain ⟨r108, e109, hm⟩ := obd_s hm
    refine c_callVvP C hE h g1 rfl (by decide) (kc_Pt_bounds l D k z mi aK aV g N hS e109) (cwV 4 C.2.2.1 (gS_X4_57 _) rfl rfl rfl hd_X4_bounds ⟨Nat.le_of_ble_eq_true rfl, Nat.le_of_ble_eq_true rfl⟩) rfl hl.1 rfl (Nat.le_of_ble_eq_true rfl) dX4_measureOfOne_451 ⟨(Nat.le_of_ble_eq_true rfl), (Nat.le_of_ble_eq_true rfl)⟩ (fun H locs h => ?_)
    cases hm
    exact c_vretP C h hr hlk dX4_measureOfOne_454
  have hm := ite_f c106 hm
  by_cases c112 : (fl σ 200 (fl σ 100 x0)) = 24
  · refine x_topi (congrArg Int32.ofInt c112) ?_
    have hm := ite_t c112 hm
    refine lv_tableIn (tgt := 397) C.1 C.2.1 dX4_measureOfOne_26 (by decide) (by decide) rfl (by decide) ?_
    refine z_aload_n C dX4_measureOfOne_397 rfl (lv_at hl 2 rfl) ?_
    refine lv_lload C.1 C.2.1 dX4_measureOfOne_398 (lv_at hl 0 rfl) ?_
    refine z_aload_n C dX4_measureOfOne_400 rfl (lv_at hl 2 rfl) ?_
    obtain ⟨r113, e114, hm⟩ := obd_s hm
    refine c_callVlP C hE h g1 rfl (by decide) (kc_Pt_spanLower l D k z mi aK aV g N hS e114) (cwV 0 C.2.2.1 (gS_X4_104 _) rfl rfl rfl hd_X4_spanLower ⟨Nat.le_of_ble_eq_true rfl, Nat.le_of_ble_eq_true rfl⟩) rfl hl.1 rfl (by simp [rfv_cat, cat_i, cat_l]) dX4_measureOfOne_401 ⟨(Nat.le_of_ble_eq_true rfl), (Nat.le_of_ble_eq_true rfl)⟩ (fun H locs h => ?_)
    refine z_aload_n C dX4_measureOfOne_404 rfl (lv_at hl 3 rfl) ?_
    obtain ⟨g117, hm⟩ := grd_s hm
    refine cg_5_2 C h g117 cU_X4 (List.mem_cons_of_mem _ wl_X4_7) dX4_measureOfOne_405 ?_
    refine z_lmul C dX4_measureOfOne_408 ?_
    obtain ⟨r118, e119, hm⟩ := obd_s hm
    refine v_callSl C h (kc_Pt_lcm l D k N v7 (r113.2 * (fl r113.1 102 x1)) r118 e119) (v_cwS 2 C.2.2.1 (gC_X4_lcm _) rfl rfl rfl (C.2.2.1 _ (List.mem_cons_of_mem _ wt_X4)) (C.2.2.1 _ (List.mem_cons_of_mem _ wm_X4_101)) (C.2.2.1 _ (List.mem_cons_of_mem _ ws_X4_lcm)) hdS_X4_lcm ⟨Nat.le_of_ble_eq_true rfl, Nat.le_of_ble_eq_true rfl⟩) rfl hl.1 rfl (by simp [rfv_cat, cat_i, cat_l]) dX4_measureOfOne_409 ⟨(Nat.le_of_ble_eq_true rfl), (Nat.le_of_ble_eq_true rfl)⟩ (fun H locs h => ?_)
    refine z_aload_n C dX4_measureOfOne_412 rfl (lv_at hl 3 rfl) ?_
    refine cg_5_3 C h g117 cU_X4 (List.mem_cons_of_mem _ wl_X4_13) dX4_measureOfOne_413 ?_
    refine z_aload_n C dX4_measureOfOne_416 rfl (lv_at hl 3 rfl) ?_
    refine cg_5_4 C h g117 cU_X4 (List.mem_cons_of_mem _ wl_X4_16) dX4_measureOfOne_417 ?_
    refine z_aload_n C dX4_measureOfOne_420 rfl (lv_at hl 3 rfl) ?_
    refine cg_5_5 C h g117 cU_X4 (List.mem_cons_of_mem _ wl_X4_19) dX4_measureOfOne_421 ?_
    refine lv_lconst (v := Int64.ofInt 1) C.1 C.2.1 dX4_measureOfOne_424 (by decide) ?_
    refine z_ladd C dX4_measureOfOne_425 ?_
    obtain ⟨r120, e121, hm⟩ := obd_s hm
    refine c_callVvP C hE h g1 rfl (by decide) (kc_Pt_bounds l D k z mi aK aV g N hS e121) (cwV 4 C.2.2.1 (gS_X4_57 _) rfl rfl rfl hd_X4_bounds ⟨Nat.le_of_ble_eq_true rfl, Nat.le_of_ble_eq_true rfl⟩) rfl hl.1 rfl (Nat.le_of_ble_eq_true rfl) dX4_measureOfOne_426 ⟨(Nat.le_of_ble_eq_true rfl), (Nat.le_of_ble_eq_true rfl)⟩ (fun H locs h => ?_)
    refine lv_goto (tgt := 454) C.1 C.2.1 dX4_measureOfOne_429 (by decide) ?_
    cases hm
    exact c_vretP C h hr hlk dX4_measureOfOne_454
  have hm := ite_f c112 hm
  refine lv_tableOut (tgt := 432) C.1 C.2.1 dX4_measureOfOne_26 (by rw [c32_ti g9]; omega) (by decide) ?_
  refine z_aload_n C dX4_measureOfOne_432 rfl (lv_at hl 2 rfl) ?_
  refine z_aload_n C dX4_measureOfOne_433 rfl (lv_at hl 3 rfl) ?_
  obtain ⟨g124, hm⟩ := grd_s hm
  refine cg_5_2 C h g124 cU_X4 (List.mem_cons_of_mem _ wl_X4_7) dX4_measureOfOne_434 ?_
  refine z_aload_n C dX4_measureOfOne_437 rfl (lv_at hl 3 rfl) ?_
  refine cg_5_3 C h g124 cU_X4 (List.mem_cons_of_mem _ wl_X4_13) dX4_measureOfOne_438 ?_
  refine z_aload_n C dX4_measureOfOne_441 rfl (lv_at hl 3 rfl) ?_
  refine cg_5_4 C h g124 cU_X4 (List.mem_cons_of_mem _ wl_X4_16) dX4_measureOfOne_442 ?_
  refine z_aload_n C dX4_measureOfOne_445 rfl (lv_at hl 3 rfl) ?_
  refine cg_5_5 C h g124 cU_X4 (List.mem_cons_of_mem _ wl_X4_19) dX4_measureOfOne_446 ?_
  refine lv_lconst (v := Int64.ofInt 1) C.1 C.2.1 dX4_measureOfOne_449 (by decide) ?_
  refine z_ladd C dX4_measureOfOne_450 ?_
  obtain ⟨r125, e126, hm⟩ := obd_s hm
  refine c_callVvP C hE h g1 rfl (by decide) (kc_Pt_bounds l D k z mi aK aV g N hS e126) (cwV 4 C.2.2.1 (gS_X4_57 _) rfl rfl rfl hd_X4_bounds ⟨Nat.le_of_ble_eq_true rfl, Nat.le_of_ble_eq_true rfl⟩) rfl hl.1 rfl (Nat.le_of_ble_eq_true rfl) dX4_measureOfOne_451 ⟨(Nat.le_of_ble_eq_true rfl), (Nat.le_of_ble_eq_true rfl)⟩ (fun H locs h => ?_)
  cases hm
  exact c_vretP C h hr hlk dX4_measureOfOne_454
end Z_Pt_measureOfOne
section Z_Pt_mostCrowd
variable {p : Program} {l : Launch} {e : Env} {s : State} {m : MethodId} {args : Array Value} {below : List Frame} {meth : Method} {c : Code} {D : va_G} {A : Nat → Prop} {k : Nat → ClassId} {N : Nat} {cd : Cond} {z mi : Nat} {aK aV : Nat → Nat} {g : Nat → Nat} {π : Sh}
set_option maxHeartbeats 8000000 in
set_option maxRecDepth 100000 in
theorem kl_Pt_mostCrowd_4 {r : St × Int} (C : Cx p s m args c cX4_mostCrowd RX4 (cd :: cWd) D (TYs k) 4) (hr : meth.sig.returnType = (some .long)) (hlk : meth.locks = false) (hE : Ev z mi aK aV A s s.heap) (hS : SHs π)    (n : Nat) : ∀ {ls : Array Slot} {H : Heap} {locs : List Loc} {σ : St} {x0 : Int} {x1 : Int} {x3 : Int}, lv_has ls 4 [(0, rfv g x0), (1, .long (Int64.ofInt x1)), (3, .int (Int32.ofInt x3))] → Hp D A s.heap H locs (cW k z g π σ) → Pt_mostCrowd_4 N π n σ x0 x1 x3 = some r → W p l e { frames := 1, cells := 0, slots := 0, locals := 40 } s m args below meth c H locs 0 0 (MQ below (va_Ql (fun v (_ : Unit) => v = Int64.ofInt r.2) (fun _ t => PostW D (TYs k) A (cW k z g π r.1) t) A) args s 0 0 A) (F0 m 4 ls []) := by
  induction n with
  | zero => intro ls H locs σ x0 x1 x3  hl h hm; cases (show none = some r from hm)
  | succ n hrec4 =>
    intro ls H locs σ x0 x1 x3  hl h hm
    rw [Pt_mostCrowd_4] at hm
    refine lv_iload_n C.1 C.2.1 dX4_mostCrowd_4 rfl (lv_at hl 2 rfl) ?_
    refine z_aload_n C dX4_mostCrowd_5 rfl (lv_at hl 0 rfl) ?_
    obtain ⟨g1, hm⟩ := grd_s hm
    refine cg_5_1 C h g1 cU_X4 (List.mem_cons_of_mem _ wl_X4_30) dX4_mostCrowd_6 ?_
    obtain ⟨g2, hm⟩ := grd_s hm
    obtain ⟨g3, hm⟩ := grd_s hm
    refine c_alen C h (t := 6) rfl g2 g3 dX4_mostCrowd_9 ?_
    obtain ⟨g4, hm⟩ := grd_s hm
    obtain ⟨g5, hm⟩ := grd_s hm
    refine z_icmp_ge (tgt := 33) C dX4_mostCrowd_10 (by decide) g4 g5 (fun c6 => ?_) (fun c6 => ?_)
    · have hm := ite_f c6 hm
      refine lv_lload_n C.1 C.2.1 dX4_mostCrowd_33 rfl (lv_at hl 1 rfl) ?_
      cases hm
      exact c_lretP C h hr hlk dX4_mostCrowd_34
    · have hm := ite_t c6 hm
      refine lv_lload_n C.1 C.2.1 dX4_mostCrowd_13 rfl (lv_at hl 1 rfl) ?_
      refine z_aload_n C dX4_mostCrowd_14 rfl (lv_at hl 0 rfl) ?_
      refine cg_5_1 C h g1 cU_X4 (List.mem_cons_of_mem _ wl_X4_30) dX4_mostCrowd_15 ?_
      refine lv_iload_n C.1 C.2.1 dX4_mostCrowd_18 rfl (lv_at hl 2 rfl) ?_
      obtain ⟨g7, hm⟩ := grd_s hm
      refine c_qald C h (t := 6) (by decide) rfl g2 g7 dX4_mostCrowd_19 ?_
      obtain ⟨g8, hm⟩ := grd_s hm
      refine cg_5_3 C h g8 cU_X4 (List.mem_cons_of_mem _ wl_X4_13) dX4_mostCrowd_20 ?_
      obtain ⟨g9, hm⟩ := grd_s hm
      obtain ⟨g10, hm⟩ := grd_s hm
      refine v_max_l C hl.1 dX4_mostCrowd_23 g9 g10 (List.mem_cons_of_mem _ wx_X4_121) (List.mem_cons_of_mem _ wxs_max_long) (List.mem_cons_of_mem _ wxc_max_long) (List.mem_cons_of_mem _ wt_Math) (Nat.le_of_ble_eq_true rfl) (by simp [rfv_cat, cat_i, cat_l]) (Nat.le_of_ble_eq_true rfl) (Nat.le_of_ble_eq_true rfl) ?_
      obtain ⟨v11, e12, hm⟩ := bnd_s hm
      rw [e12]
      refine lv_lstore_n (i := 1) (lv' := [(1, .long (Int64.ofInt v11)), (0, rfv g x0), (3, .int (Int32.ofInt x3))]) C.1 C.2.1 dX4_mostCrowd_26 rfl hl (by decide) (by simp [rfv_cat, cat_i, cat_l]) (fun ls hl => ?_)
      refine lv_iinc (v := Int32.ofInt (x3 + 1)) (lv' := [(3, .int (Int32.ofInt (x3 + 1))), (1, .long (Int64.ofInt v11)), (0, rfv g x0)]) C.1 C.2.1 dX4_mostCrowd_27 hl (k := 2) rfl (c32_add _ _) (by decide) rfl (fun ls hl => ?_)
      refine lv_goto (tgt := 4) C.1 C.2.1 dX4_mostCrowd_30 (by decide) ?_
      exact hrec4 (lv_sub hl [2, 1, 0] rfl) h hm
set_option maxHeartbeats 8000000 in
set_option maxRecDepth 100000 in
theorem kc_Pt_mostCrowd (l : Launch) (D : va_G) (k : Nat → ClassId) (z mi : Nat) (aK aV : Nat → Nat) (g : Nat → Nat) (N : Nat)    {π : Sh} {σ : St} {x0 : Int} {r : St × Int} (hS : SHs π) (hm : Pt_mostCrowd N π σ x0 = some r) : Ml l yX4_mostCrowd (.code yX4_mostCrowd cX4_mostCrowd 4 (some .long) :: cWd) { frames := 1, cells := 0, slots := 0, locals := 40 } [rfv g x0] D (TYs k) (cW k z g π σ) (XV z mi aK aV (cW k z g π σ)) Unit (fun v _ => v = Int64.ofInt r.2) (fun _ => cW k z g π r.1) 0 0 := by
  intro sz
  refine v_met (cc := cX4_mostCrowd) (maxL := 4) (ret := (some .long)) (lv := [(0, rfv g x0)]) (by decide) rfl (by simp [lg_sl, rfv_cat, cat_i, cat_l]) (by simp [lv_args, rfv_cat, cat_i, cat_l]) ?_
  intro p e s m below meth c ls C hE hr hlk hmn hl h
  rw [Pt_mostCrowd] at hm
  refine lv_lconst (v := Int64.ofInt 0) C.1 C.2.1 dX4_mostCrowd_0 (by decide) ?_
  refine lv_lstore_n (i := 1) (lv' := [(1, .long (Int64.ofInt 0)), (0, rfv g x0)]) C.1 C.2.1 dX4_mostCrowd_1 rfl hl (by decide) (by simp [rfv_cat, cat_i, cat_l]) (fun ls hl => ?_)
  refine lv_iconst (v := Int32.ofInt 0) C.1 C.2.1 dX4_mostCrowd_2 (by decide) ?_
  refine lv_istore_n (lv' := [(3, .int (Int32.ofInt 0)), (1, .long (Int64.ofInt 0)), (0, rfv g x0)]) C.1 C.2.1 dX4_mostCrowd_3 rfl hl (by decide) rfl (fun ls hl => ?_)
  exact kl_Pt_mostCrowd_4 (N := N) C hr hlk hE hS N (lv_sub hl [2, 1, 0] rfl) h hm
end Z_Pt_mostCrowd
section Z_Pt_mostReach
variable {p : Program} {l : Launch} {e : Env} {s : State} {m : MethodId} {args : Array Value} {below : List Frame} {meth : Method} {c : Code} {D : va_G} {A : Nat → Prop} {k : Nat → ClassId} {N : Nat} {cd : Cond} {z mi : Nat} {aK aV : Nat → Nat} {g : Nat → Nat} {π : Sh}
set_option maxHeartbeats 8000000 in
set_option maxRecDepth 100000 in
theorem kl_Pt_mostReach_4 {r : St × Int} (C : Cx p s m args c cX4_mostReach RX4 (cd :: cWd) D (TYs k) 4) (hr : meth.sig.returnType = (some .long)) (hlk : meth.locks = false) (hE : Ev z mi aK aV A s s.heap) (hS : SHs π)    (n : Nat) : ∀ {ls : Array Slot} {H : Heap} {locs : List Loc} {σ : St} {x0 : Int} {x1 : Int} {x3 : Int}, lv_has ls 4 [(0, rfv g x0), (1, .long (Int64.ofInt x1)), (3, .int (Int32.ofInt x3))] → Hp D A s.heap H locs (cW k z g π σ) → Pt_mostReach_4 N π n σ x0 x1 x3 = some r → W p l e { frames := 1, cells := 0, slots := 0, locals := 40 } s m args below meth c H locs 0 0 (MQ below (va_Ql (fun v (_ : Unit) => v = Int64.ofInt r.2) (fun _ t => PostW D (TYs k) A (cW k z g π r.1) t) A) args s 0 0 A) (F0 m 4 ls []) := by
  induction n with
  | zero => intro ls H locs σ x0 x1 x3  hl h hm; cases (show none = some r from hm)
  | succ n hrec4 =>
    intro ls H locs σ x0 x1 x3  hl h hm
    rw [Pt_mostReach_4] at hm
    refine lv_iload_n C.1 C.2.1 dX4_mostReach_4 rfl (lv_at hl 2 rfl) ?_
    refine z_aload_n C dX4_mostReach_5 rfl (lv_at hl 0 rfl) ?_
    obtain ⟨g1, hm⟩ := grd_s hm
    refine cg_5_1 C h g1 cU_X4 (List.mem_cons_of_mem _ wl_X4_30) dX4_mostReach_6 ?_
    obtain ⟨g2, hm⟩ := grd_s hm
    obtain ⟨g3, hm⟩ := grd_s hm
    refine c_alen C h (t := 6) rfl g2 g3 dX4_mostReach_9 ?_
    obtain ⟨g4, hm⟩ := grd_s hm
    obtain ⟨g5, hm⟩ := grd_s hm
    refine z_icmp_ge (tgt := 33) C dX4_mostReach_10 (by decide) g4 g5 (fun c6 => ?_) (fun c6 => ?_)
    · have hm := ite_f c6 hm
      refine lv_lload_n C.1 C.2.1 dX4_mostReach_33 rfl (lv_at hl 1 rfl) ?_
      cases hm
      exact c_lretP C h hr hlk dX4_mostReach_34
    · have hm := ite_t c6 hm
      refine lv_lload_n C.1 C.2.1 dX4_mostReach_13 rfl (lv_at hl 1 rfl) ?_
      refine z_aload_n C dX4_mostReach_14 rfl (lv_at hl 0 rfl) ?_
      refine cg_5_1 C h g1 cU_X4 (List.mem_cons_of_mem _ wl_X4_30) dX4_mostReach_15 ?_
      refine lv_iload_n C.1 C.2.1 dX4_mostReach_18 rfl (lv_at hl 2 rfl) ?_
      obtain ⟨g7, hm⟩ := grd_s hm
      refine c_qald C h (t := 6) (by decide) rfl g2 g7 dX4_mostReach_19 ?_
      obtain ⟨g8, hm⟩ := grd_s hm
      refine cg_5_4 C h g8 cU_X4 (List.mem_cons_of_mem _ wl_X4_16) dX4_mostReach_20 ?_
      obtain ⟨g9, hm⟩ := grd_s hm
      obtain ⟨g10, hm⟩ := grd_s hm
      refine v_max_l C hl.1 dX4_mostReach_23 g9 g10 (List.mem_cons_of_mem _ wx_X4_121) (List.mem_cons_of_mem _ wxs_max_long) (List.mem_cons_of_mem _ wxc_max_long) (List.mem_cons_of_mem _ wt_Math) (Nat.le_of_ble_eq_true rfl) (by simp [rfv_cat, cat_i, cat_l]) (Nat.le_of_ble_eq_true rfl) (Nat.le_of_ble_eq_true rfl) ?_
      obtain ⟨v11, e12, hm⟩ := bnd_s hm
      rw [e12]
      refine lv_lstore_n (i := 1) (lv' := [(1, .long (Int64.ofInt v11)), (0, rfv g x0), (3, .int (Int32.ofInt x3))]) C.1 C.2.1 dX4_mostReach_26 rfl hl (by decide) (by simp [rfv_cat, cat_i, cat_l]) (fun ls hl => ?_)
      refine lv_iinc (v := Int32.ofInt (x3 + 1)) (lv' := [(3, .int (Int32.ofInt (x3 + 1))), (1, .long (Int64.ofInt v11)), (0, rfv g x0)]) C.1 C.2.1 dX4_mostReach_27 hl (k := 2) rfl (c32_add _ _) (by decide) rfl (fun ls hl => ?_)
      refine lv_goto (tgt := 4) C.1 C.2.1 dX4_mostReach_30 (by decide) ?_
      exact hrec4 (lv_sub hl [2, 1, 0] rfl) h hm
set_option maxHeartbeats 8000000 in
set_option maxRecDepth 100000 in
theorem kc_Pt_mostReach (l : Launch) (D : va_G) (k : Nat → ClassId) (z mi : Nat) (aK aV : Nat → Nat) (g : Nat → Nat) (N : Nat)    {π : Sh} {σ : St} {x0 : Int} {r : St × Int} (hS : SHs π) (hm : Pt_mostReach N π σ x0 = some r) : Ml l yX4_mostReach (.code yX4_mostReach cX4_mostReach 4 (some .long) :: cWd) { frames := 1, cells := 0, slots := 0, locals := 40 } [rfv g x0] D (TYs k) (cW k z g π σ) (XV z mi aK aV (cW k z g π σ)) Unit (fun v _ => v = Int64.ofInt r.2) (fun _ => cW k z g π r.1) 0 0 := by
  intro sz
  refine v_met (cc := cX4_mostReach) (maxL := 4) (ret := (some .long)) (lv := [(0, rfv g x0)]) (by decide) rfl (by simp [lg_sl, rfv_cat, cat_i, cat_l]) (by simp [lv_args, rfv_cat, cat_i, cat_l]) ?_
  intro p e s m below meth c ls C hE hr hlk hmn hl h
  rw [Pt_mostReach] at hm
  refine lv_lconst (v := Int64.ofInt 0) C.1 C.2.1 dX4_mostReach_0 (by decide) ?_
  refine lv_lstore_n (i := 1) (lv' := [(1, .long (Int64.ofInt 0)), (0, rfv g x0)]) C.1 C.2.1 dX4_mostReach_1 rfl hl (by decide) (by simp [rfv_cat, cat_i, cat_l]) (fun ls hl => ?_)
  refine lv_iconst (v := Int32.ofInt 0) C.1 C.2.1 dX4_mostReach_2 (by decide) ?_
  refine lv_istore_n (lv' := [(3, .int (Int32.ofInt 0)), (1, .long (Int64.ofInt 0)), (0, rfv g x0)]) C.1 C.2.1 dX4_mostReach_3 rfl hl (by decide) rfl (fun ls hl => ?_)
  exact kl_Pt_mostReach_4 (N := N) C hr hlk hE hS N (lv_sub hl [2, 1, 0] rfl) h hm
end Z_Pt_mostReach
section Z_Pt_mostWork
variable {p : Program} {l : Launch} {e : Env} {s : State} {m : MethodId} {args : Array Value} {below : List Frame} {meth : Method} {c : Code} {D : va_G} {A : Nat → Prop} {k : Nat → ClassId} {N : Nat} {cd : Cond} {z mi : Nat} {aK aV : Nat → Nat} {g : Nat → Nat} {π : Sh}
set_option maxHeartbeats 8000000 in
set_option maxRecDepth 100000 in
theorem kl_Pt_mostWork_4 {r : St × Int} (C : Cx p s m args c cX4_mostWork RX4 (cd :: cWd) D (TYs k) 4) (hr : meth.sig.returnType = (some .long)) (hlk : meth.locks = false) (hE : Ev z mi aK aV A s s.heap) (hS : SHs π)    (n : Nat) : ∀ {ls : Array Slot} {H : Heap} {locs : List Loc} {σ : St} {x0 : Int} {x1 : Int} {x3 : Int}, lv_has ls 4 [(0, rfv g x0), (1, .long (Int64.ofInt x1)), (3, .int (Int32.ofInt x3))] → Hp D A s.heap H locs (cW k z g π σ) → Pt_mostWork_4 N π n σ x0 x1 x3 = some r → W p l e { frames := 1, cells := 0, slots := 0, locals := 40 } s m args below meth c H locs 0 0 (MQ below (va_Ql (fun v (_ : Unit) => v = Int64.ofInt r.2) (fun _ t => PostW D (TYs k) A (cW k z g π r.1) t) A) args s 0 0 A) (F0 m 4 ls []) := by
  induction n with
  | zero => intro ls H locs σ x0 x1 x3  hl h hm; cases (show none = some r from hm)
  | succ n hrec4 =>
    intro ls H locs σ x0 x1 x3  hl h hm
    rw [Pt_mostWork_4] at hm
    refine lv_iload_n C.1 C.2.1 dX4_mostWork_4 rfl (lv_at hl 2 rfl) ?_
    refine z_aload_n C dX4_mostWork_5 rfl (lv_at hl 0 rfl) ?_
    obtain ⟨g1, hm⟩ := grd_s hm
    refine cg_5_1 C h g1 cU_X4 (List.mem_cons_of_mem _ wl_X4_30) dX4_mostWork_6 ?_
    obtain ⟨g2, hm⟩ := grd_s hm
    obtain ⟨g3, hm⟩ := grd_s hm
    refine c_alen C h (t := 6) rfl g2 g3 dX4_mostWork_9 ?_
    obtain ⟨g4, hm⟩ := grd_s hm
    obtain ⟨g5, hm⟩ := grd_s hm
    refine z_icmp_ge (tgt := 33) C dX4_mostWork_10 (by decide) g4 g5 (fun c6 => ?_) (fun c6 => ?_)
    · have hm := ite_f c6 hm
      refine lv_lload_n C.1 C.2.1 dX4_mostWork_33 rfl (lv_at hl 1 rfl) ?_
      cases hm
      exact c_lretP C h hr hlk dX4_mostWork_34
    · have hm := ite_t c6 hm
      refine lv_lload_n C.1 C.2.1 dX4_mostWork_13 rfl (lv_at hl 1 rfl) ?_
      refine z_aload_n C dX4_mostWork_14 rfl (lv_at hl 0 rfl) ?_
      refine cg_5_1 C h g1 cU_X4 (List.mem_cons_of_mem _ wl_X4_30) dX4_mostWork_15 ?_
      refine lv_iload_n C.1 C.2.1 dX4_mostWork_18 rfl (lv_at hl 2 rfl) ?_
      obtain ⟨g7, hm⟩ := grd_s hm
      refine c_qald C h (t := 6) (by decide) rfl g2 g7 dX4_mostWork_19 ?_
      obtain ⟨g8, hm⟩ := grd_s hm
      refine cg_5_5 C h g8 cU_X4 (List.mem_cons_of_mem _ wl_X4_19) dX4_mostWork_20 ?_
      obtain ⟨g9, hm⟩ := grd_s hm
      obtain ⟨g10, hm⟩ := grd_s hm
      refine v_max_l C hl.1 dX4_mostWork_23 g9 g10 (List.mem_cons_of_mem _ wx_X4_121) (List.mem_cons_of_mem _ wxs_max_long) (List.mem_cons_of_mem _ wxc_max_long) (List.mem_cons_of_mem _ wt_Math) (Nat.le_of_ble_eq_true rfl) (by simp [rfv_cat, cat_i, cat_l]) (Nat.le_of_ble_eq_true rfl) (Nat.le_of_ble_eq_true rfl) ?_
      obtain ⟨v11, e12, hm⟩ := bnd_s hm
      rw [e12]
      refine lv_lstore_n (i := 1) (lv' := [(1, .long (Int64.ofInt v11)), (0, rfv g x0), (3, .int (Int32.ofInt x3))]) C.1 C.2.1 dX4_mostWork_26 rfl hl (by decide) (by simp [rfv_cat, cat_i, cat_l]) (fun ls hl => ?_)
      refine lv_iinc (v := Int32.ofInt (x3 + 1)) (lv' := [(3, .int (Int32.ofInt (x3 + 1))), (1, .long (Int64.ofInt v11)), (0, rfv g x0)]) C.1 C.2.1 dX4_mostWork_27 hl (k := 2) rfl (c32_add _ _) (by decide) rfl (fun ls hl => ?_)
      refine lv_goto (tgt := 4) C.1 C.2.1 dX4_mostWork_30 (by decide) ?_
      exact hrec4 (lv_sub hl [2, 1, 0] rfl) h hm
set_option maxHeartbeats 8000000 in
set_option maxRecDepth 100000 in
theorem kc_Pt_mostWork (l : Launch) (D : va_G) (k : Nat → ClassId) (z mi : Nat) (aK aV : Nat → Nat) (g : Nat → Nat) (N : Nat)    {π : Sh} {σ : St} {x0 : Int} {r : St × Int} (hS : SHs π) (hm : Pt_mostWork N π σ x0 = some r) : Ml l yX4_mostWork (.code yX4_mostWork cX4_mostWork 4 (some .long) :: cWd) { frames := 1, cells := 0, slots := 0, locals := 40 } [rfv g x0] D (TYs k) (cW k z g π σ) (XV z mi aK aV (cW k z g π σ)) Unit (fun v _ => v = Int64.ofInt r.2) (fun _ => cW k z g π r.1) 0 0 := by
  intro sz
  refine v_met (cc := cX4_mostWork) (maxL := 4) (ret := (some .long)) (lv := [(0, rfv g x0)]) (by decide) rfl (by simp [lg_sl, rfv_cat, cat_i, cat_l]) (by simp [lv_args, rfv_cat, cat_i, cat_l]) ?_
  intro p e s m below meth c ls C hE hr hlk hmn hl h
  rw [Pt_mostWork] at hm
  refine lv_lconst (v := Int64.ofInt 0) C.1 C.2.1 dX4_mostWork_0 (by decide) ?_
  refine lv_lstore_n (i := 1) (lv' := [(1, .long (Int64.ofInt 0)), (0, rfv g x0)]) C.1 C.2.1 dX4_mostWork_1 rfl hl (by decide) (by simp [rfv_cat, cat_i, cat_l]) (fun ls hl => ?_)
  refine lv_iconst (v := Int32.ofInt 0) C.1 C.2.1 dX4_mostWork_2 (by decide) ?_
  refine lv_istore_n (lv' := [(3, .int (Int32.ofInt 0)), (1, .long (Int64.ofInt 0)), (0, rfv g x0)]) C.1 C.2.1 dX4_mostWork_3 rfl hl (by decide) rfl (fun ls hl => ?_)
  exact kl_Pt_mostWork_4 (N := N) C hr hlk hE hS N (lv_sub hl [2, 1, 0] rfl) h hm
end Z_Pt_mostWork
section Z_Pt_workOfAll
variable {p : Program} {l : Launch} {e : Env} {s : State} {m : MethodId} {args : Array Value} {below : List Frame} {meth : Method} {c : Code} {D : va_G} {A : Nat → Prop} {k : Nat → ClassId} {N : Nat} {cd : Cond} {z mi : Nat} {aK aV : Nat → Nat} {g : Nat → Nat} {π : Sh}
set_option maxHeartbeats 8000000 in
set_option maxRecDepth 100000 in
theorem kl_Pt_workOfAll_4 {r : St × Int} (C : Cx p s m args c cX4_workOfAll RX4 (cd :: cWd) D (TYs k) 4) (hr : meth.sig.returnType = (some .long)) (hlk : meth.locks = false) (hE : Ev z mi aK aV A s s.heap) (hS : SHs π)    (n : Nat) : ∀ {ls : Array Slot} {H : Heap} {locs : List Loc} {σ : St} {x0 : Int} {x1 : Int} {x3 : Int}, lv_has ls 4 [(0, rfv g x0), (1, .long (Int64.ofInt x1)), (3, .int (Int32.ofInt x3))] → Hp D A s.heap H locs (cW k z g π σ) → Pt_workOfAll_4 N π n σ x0 x1 x3 = some r → W p l e { frames := 1, cells := 0, slots := 0, locals := 21 } s m args below meth c H locs 0 0 (MQ below (va_Ql (fun v (_ : Unit) => v = Int64.ofInt r.2) (fun _ t => PostW D (TYs k) A (cW k z g π r.1) t) A) args s 0 0 A) (F0 m 4 ls []) := by
  induction n with
  | zero => intro ls H locs σ x0 x1 x3  hl h hm; cases (show none = some r from hm)
  | succ n hrec4 =>
    intro ls H locs σ x0 x1 x3  hl h hm
    rw [Pt_workOfAll_4] at hm
    refine lv_iload_n C.1 C.2.1 dX4_workOfAll_4 rfl (lv_at hl 2 rfl) ?_
    refine z_aload_n C dX4_workOfAll_5 rfl (lv_at hl 0 rfl) ?_
    obtain ⟨g1, hm⟩ := grd_s hm
    refine cg_5_1 C h g1 cU_X4 (List.mem_cons_of_mem _ wl_X4_30) dX4_workOfAll_6 ?_
    obtain ⟨g2, hm⟩ := grd_s hm
    obtain ⟨g3, hm⟩ := grd_s hm
    refine c_alen C h (t := 6) rfl g2 g3 dX4_workOfAll_9 ?_
    obtain ⟨g4, hm⟩ := grd_s hm
    obtain ⟨g5, hm⟩ := grd_s hm
    refine z_icmp_ge (tgt := 37) C dX4_workOfAll_10 (by decide) g4 g5 (fun c6 => ?_) (fun c6 => ?_)
    · have hm := ite_f c6 hm
      refine lv_lload_n C.1 C.2.1 dX4_workOfAll_37 rfl (lv_at hl 1 rfl) ?_
      cases hm
      exact c_lretP C h hr hlk dX4_workOfAll_38
    · have hm := ite_t c6 hm
      refine lv_lload_n C.1 C.2.1 dX4_workOfAll_13 rfl (lv_at hl 1 rfl) ?_
      refine z_aload_n C dX4_workOfAll_14 rfl (lv_at hl 0 rfl) ?_
      refine lv_iload_n C.1 C.2.1 dX4_workOfAll_15 rfl (lv_at hl 2 rfl) ?_
      obtain ⟨r7, e8, hm⟩ := obd_s hm
      refine c_callVlP C hE h g1 rfl (by decide) (kc_Pt_repeatsOf l D k z mi aK aV g N hS e8) (cwV 1 C.2.2.1 (gS_X4_117 _) rfl rfl rfl hd_X4_repeatsOf ⟨Nat.le_of_ble_eq_true rfl, Nat.le_of_ble_eq_true rfl⟩) rfl hl.1 rfl (Nat.le_of_ble_eq_true rfl) dX4_workOfAll_16 ⟨(Nat.le_of_ble_eq_true rfl), (Nat.le_of_ble_eq_true rfl)⟩ (fun H locs h => ?_)
      refine z_aload_n C dX4_workOfAll_19 rfl (lv_at hl 0 rfl) ?_
      refine cg_5_1 C h g1 cU_X4 (List.mem_cons_of_mem _ wl_X4_30) dX4_workOfAll_20 ?_
      refine lv_iload_n C.1 C.2.1 dX4_workOfAll_23 rfl (lv_at hl 2 rfl) ?_
      obtain ⟨g11, hm⟩ := grd_s hm
      obtain ⟨g12, hm⟩ := grd_s hm
      refine c_qald C h (t := 6) (by decide) rfl g11 g12 dX4_workOfAll_24 ?_
      obtain ⟨g13, hm⟩ := grd_s hm
      refine cg_5_5 C h g13 cU_X4 (List.mem_cons_of_mem _ wl_X4_19) dX4_workOfAll_25 ?_
      refine z_lmul C dX4_workOfAll_28 ?_
      refine z_ladd C dX4_workOfAll_29 ?_
      obtain ⟨v14, e15, hm⟩ := bnd_s hm
      rw [e15]
      refine lv_lstore_n (i := 1) (lv' := [(1, .long (Int64.ofInt v14)), (0, rfv g x0), (3, .int (Int32.ofInt x3))]) C.1 C.2.1 dX4_workOfAll_30 rfl hl (by decide) (by simp [rfv_cat, cat_i, cat_l]) (fun ls hl => ?_)
      refine lv_iinc (v := Int32.ofInt (x3 + 1)) (lv' := [(3, .int (Int32.ofInt (x3 + 1))), (1, .long (Int64.ofInt v14)), (0, rfv g x0)]) C.1 C.2.1 dX4_workOfAll_31 hl (k := 2) rfl (c32_add _ _) (by decide) rfl (fun ls hl => ?_)
      refine lv_goto (tgt := 4) C.1 C.2.1 dX4_workOfAll_34 (by decide) ?_
      exact hrec4 (lv_sub hl [2, 1, 0] rfl) h hm
set_option maxHeartbeats 8000000 in
set_option maxRecDepth 100000 in
theorem kc_Pt_workOfAll (l : Launch) (D : va_G) (k : Nat → ClassId) (z mi : Nat) (aK aV : Nat → Nat) (g : Nat → Nat) (N : Nat)    {π : Sh} {σ : St} {x0 : Int} {r : St × Int} (hS : SHs π) (hm : Pt_workOfAll N π σ x0 = some r) : Ml l yX4_workOfAll (.code yX4_workOfAll cX4_workOfAll 4 (some .long) :: cWd) { frames := 1, cells := 0, slots := 0, locals := 21 } [rfv g x0] D (TYs k) (cW k z g π σ) (XV z mi aK aV (cW k z g π σ)) Unit (fun v _ => v = Int64.ofInt r.2) (fun _ => cW k z g π r.1) 0 0 := by
  intro sz
  refine v_met (cc := cX4_workOfAll) (maxL := 4) (ret := (some .long)) (lv := [(0, rfv g x0)]) (by decide) rfl (by simp [lg_sl, rfv_cat, cat_i, cat_l]) (by simp [lv_args, rfv_cat, cat_i, cat_l]) ?_
  intro p e s m below meth c ls C hE hr hlk hmn hl h
  rw [Pt_workOfAll] at hm
  refine lv_lconst (v := Int64.ofInt 0) C.1 C.2.1 dX4_workOfAll_0 (by decide) ?_
  refine lv_lstore_n (i := 1) (lv' := [(1, .long (Int64.ofInt 0)), (0, rfv g x0)]) C.1 C.2.1 dX4_workOfAll_1 rfl hl (by decide) (by simp [rfv_cat, cat_i, cat_l]) (fun ls hl => ?_)
  refine lv_iconst (v := Int32.ofInt 0) C.1 C.2.1 dX4_workOfAll_2 (by decide) ?_
  refine lv_istore_n (lv' := [(3, .int (Int32.ofInt 0)), (1, .long (Int64.ofInt 0)), (0, rfv g x0)]) C.1 C.2.1 dX4_workOfAll_3 rfl hl (by decide) rfl (fun ls hl => ?_)
  exact kl_Pt_workOfAll_4 (N := N) C hr hlk hE hS N (lv_sub hl [2, 1, 0] rfl) h hm
end Z_Pt_workOfAll
