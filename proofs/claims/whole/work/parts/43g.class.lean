section Z_Rd_functionOf
variable {p : Program} {l : Launch} {e : Env} {s : State} {m : MethodId} {args : Array Value} {below : List Frame} {meth : Method} {c : Code} {D : va_G} {A : Nat → Prop} {k : Nat → ClassId} {N : Nat} {cd : Cond} {z mi : Nat} {aK aV : Nat → Nat} {g : Nat → Nat} {π : Sh}
set_option maxHeartbeats 8000000 in
set_option maxRecDepth 100000 in
theorem kl_Rd_functionOf_2 {r : St × Int} (C : Cx p s m args c cX6_functionOf RX6 (cd :: cWd) D (TYs k) 4) (hr : meth.sig.returnType = (some .int)) (hlk : meth.locks = false) (hE : Ev z mi aK aV A s s.heap) (hS : SHs π)    (n : Nat) : ∀ {ls : Array Slot} {H : Heap} {locs : List Loc} {σ : St} {x1 : Int} {x3 : Int}, lv_has ls 4 [(0, rfv g 44), (1, .long (Int64.ofInt x1)), (3, .int (Int32.ofInt x3))] → Hp D A s.heap H locs (cW k z g π σ) → Rd_functionOf_2 N π n σ x1 x3 = some r → W p l e { frames := 0, cells := 0, slots := 0, locals := 0 } s m args below meth c H locs 0 0 (MQ below (va_Qi (fun v (_ : Unit) => v = Int32.ofInt r.2) (fun _ t => PostW D (TYs k) A (cW k z g π r.1) t) A) args s 0 0 A) (F0 m 2 ls []) := by
  induction n with
  | zero => intro ls H locs σ x1 x3  hl h hm; cases (show none = some r from hm)
  | succ n hrec2 =>
    intro ls H locs σ x1 x3  hl h hm
    rw [Rd_functionOf_2] at hm
    refine lv_iload_n C.1 C.2.1 dX6_functionOf_2 rfl (lv_at hl 2 rfl) ?_
    refine lv_bipush (v := Int32.ofInt 21) C.1 C.2.1 dX6_functionOf_3 (by decide) ?_
    obtain ⟨g1, hm⟩ := grd_s hm
    refine z_icmp_ge (tgt := 27) C dX6_functionOf_5 (by decide) g1 (by decide) (fun c2 => ?_) (fun c2 => ?_)
    · have hm := ite_f c2 hm
      refine lv_iconst (v := Int32.ofInt (-1)) C.1 C.2.1 dX6_functionOf_27 (by decide) ?_
      cases hm
      exact c_iretP C h hr hlk dX6_functionOf_28 rfl
    · have hm := ite_t c2 hm
      refine z_aload_n C dX6_functionOf_8 rfl (lv_at hl 0 rfl) ?_
      refine cg_7_3 C h (sh_44 hS) cU_X6 (List.mem_cons_of_mem _ wl_X6_11) dX6_functionOf_9 ?_
      refine lv_iload_n C.1 C.2.1 dX6_functionOf_12 rfl (lv_at hl 2 rfl) ?_
      obtain ⟨g3, hm⟩ := grd_s hm
      refine c_lald C h (sh_45 hS) (ina_inb (n := 21) (sl_45 hS) (Nat.le_of_ble_eq_true rfl) g3) dX6_functionOf_13 ?_
      refine lv_lload_n C.1 C.2.1 dX6_functionOf_14 rfl (lv_at hl 1 rfl) ?_
      obtain ⟨g4, hm⟩ := grd_s hm
      obtain ⟨g5, hm⟩ := grd_s hm
      refine W.lcmp C.1 C.2.1 dX6_functionOf_15 ?_
      refine z_lcmp_ne (tgt := 21) C dX6_functionOf_16 (by decide) g4 g5 (fun c6 => ?_) (fun c6 => ?_)
      · have hm := ite_f c6 hm
        refine lv_iinc (v := Int32.ofInt (x3 + 1)) (lv' := [(3, .int (Int32.ofInt (x3 + 1))), (0, rfv g 44), (1, .long (Int64.ofInt x1))]) C.1 C.2.1 dX6_functionOf_21 hl (k := 2) rfl (c32_add _ _) (by decide) rfl (fun ls hl => ?_)
        refine lv_goto (tgt := 2) C.1 C.2.1 dX6_functionOf_24 (by decide) ?_
        exact hrec2 (lv_sub hl [1, 2, 0] rfl) h hm
      · have hm := ite_t c6 hm
        refine lv_iload_n C.1 C.2.1 dX6_functionOf_19 rfl (lv_at hl 2 rfl) ?_
        cases hm
        exact c_iretP C h hr hlk dX6_functionOf_20 rfl
set_option maxHeartbeats 8000000 in
set_option maxRecDepth 100000 in
theorem kc_Rd_functionOf (l : Launch) (D : va_G) (k : Nat → ClassId) (z mi : Nat) (aK aV : Nat → Nat) (g : Nat → Nat) (N : Nat)    {π : Sh} {σ : St} {x1 : Int} {r : St × Int} (hS : SHs π) (hm : Rd_functionOf N π σ x1 = some r) : Mi l yX6_functionOf (.code yX6_functionOf cX6_functionOf 4 (some .int) :: cWd) { frames := 0, cells := 0, slots := 0, locals := 0 } [rfv g 44, .long (Int64.ofInt x1)] D (TYs k) (cW k z g π σ) (XV z mi aK aV (cW k z g π σ)) Unit (fun v _ => v = Int32.ofInt r.2) (fun _ => cW k z g π r.1) 0 0 := by
  intro sz
  refine v_met (cc := cX6_functionOf) (maxL := 4) (ret := (some .int)) (lv := [(0, rfv g 44), (1, .long (Int64.ofInt x1))]) (by decide) rfl (by simp [lg_sl, rfv_cat, cat_i, cat_l]) (by simp [lv_args, rfv_cat, cat_i, cat_l]) ?_
  intro p e s m below meth c ls C hE hr hlk hmn hl h
  rw [Rd_functionOf] at hm
  refine lv_iconst (v := Int32.ofInt 0) C.1 C.2.1 dX6_functionOf_0 (by decide) ?_
  refine lv_istore_n (lv' := [(3, .int (Int32.ofInt 0)), (0, rfv g 44), (1, .long (Int64.ofInt x1))]) C.1 C.2.1 dX6_functionOf_1 rfl hl (by decide) rfl (fun ls hl => ?_)
  exact kl_Rd_functionOf_2 (N := N) C hr hlk hE hS N (lv_sub hl [1, 2, 0] rfl) h hm
end Z_Rd_functionOf
section Z_Rd_kindOf
variable {p : Program} {l : Launch} {e : Env} {s : State} {m : MethodId} {args : Array Value} {below : List Frame} {meth : Method} {c : Code} {D : va_G} {A : Nat → Prop} {k : Nat → ClassId} {N : Nat} {cd : Cond} {z mi : Nat} {aK aV : Nat → Nat} {g : Nat → Nat} {π : Sh}
set_option maxHeartbeats 8000000 in
set_option maxRecDepth 100000 in
theorem kl_Rd_kindOf_41 {r : St × Int} (C : Cx p s m args c cX6_kindOf RX6 (cd :: cWd) D (TYs k) 4) (hr : meth.sig.returnType = (some .int)) (hlk : meth.locks = false) (hE : Ev z mi aK aV A s s.heap) (hS : SHs π)    (n : Nat) : ∀ {ls : Array Slot} {H : Heap} {locs : List Loc} {σ : St} {x1 : Int} {x3 : Int}, lv_has ls 4 [(0, rfv g 44), (1, .long (Int64.ofInt x1)), (3, .int (Int32.ofInt x3))] → Hp D A s.heap H locs (cW k z g π σ) → Rd_kindOf_41 N π n σ x1 x3 = some r → W p l e { frames := 3, cells := 0, slots := 0, locals := 81 } s m args below meth c H locs 0 0 (MQ below (va_Qi (fun v (_ : Unit) => v = Int32.ofInt r.2) (fun _ t => PostW D (TYs k) A (cW k z g π r.1) t) A) args s 0 0 A) (F0 m 41 ls []) := by
  induction n with
  | zero => intro ls H locs σ x1 x3  hl h hm; cases (show none = some r from hm)
  | succ n hrec41 =>
    intro ls H locs σ x1 x3  hl h hm
    rw [Rd_kindOf_41] at hm
    refine lv_iload_n C.1 C.2.1 dX6_kindOf_41 rfl (lv_at hl 2 rfl) ?_
    refine z_aload_n C dX6_kindOf_42 rfl (lv_at hl 0 rfl) ?_
    refine cg_7_2 C h (sh_44 hS) cU_X6 (List.mem_cons_of_mem _ wl_X6_35) dX6_kindOf_43 ?_
    obtain ⟨r17, e18, hm⟩ := obd_s hm
    refine c_callViP C hE h (sh_43 hS) rfl (by decide) (kc_L_size l D k z mi aK aV g hS e18) (cwV 0 C.2.2.1 (gS_X6_116 _) rfl rfl rfl hd_Jx4a65c_size_8abf5 ⟨Nat.le_of_ble_eq_true rfl, Nat.le_of_ble_eq_true rfl⟩) rfl hl.1 rfl (Nat.le_of_ble_eq_true rfl) dX6_kindOf_46 ⟨(Nat.le_of_ble_eq_true rfl), (Nat.le_of_ble_eq_true rfl)⟩ (fun H locs h => ?_)
    obtain ⟨g21, hm⟩ := grd_s hm
    obtain ⟨g22, hm⟩ := grd_s hm
    refine z_icmp_ge (tgt := 108) C dX6_kindOf_49 (by decide) g21 g22 (fun c23 => ?_) (fun c23 => ?_)
    · have hm := ite_f c23 hm
      refine lv_iconst (v := Int32.ofInt 0) C.1 C.2.1 dX6_kindOf_108 (by decide) ?_
      cases hm
      exact c_iretP C h hr hlk dX6_kindOf_109 rfl
    · have hm := ite_t c23 hm
      refine z_aload_n C dX6_kindOf_52 rfl (lv_at hl 0 rfl) ?_
      refine cg_7_2 C h (sh_44 hS) cU_X6 (List.mem_cons_of_mem _ wl_X6_35) dX6_kindOf_53 ?_
      refine lv_iload_n C.1 C.2.1 dX6_kindOf_56 rfl (lv_at hl 2 rfl) ?_
      obtain ⟨r24, e25, hm⟩ := obd_s hm
      refine c_callVqP C hE h (sh_43 hS) rfl (by decide) (kc_L_get l D k z mi aK aV g hS e25) (cwV 1 C.2.2.1 (gS_X6_121 _) rfl rfl rfl hd_Jx4a65c_get_915e3 ⟨Nat.le_of_ble_eq_true rfl, Nat.le_of_ble_eq_true rfl⟩) rfl hl.1 rfl (Nat.le_of_ble_eq_true rfl) dX6_kindOf_57 ⟨(Nat.le_of_ble_eq_true rfl), (Nat.le_of_ble_eq_true rfl)⟩ (fun H locs h => ?_)
      obtain ⟨g28, hm⟩ := grd_s hm
      refine v_cast C h g28 rfl (by decide) hE.2.1 (List.mem_cons_of_mem _ wc_X6_15) dX6_kindOf_60 ?_
      refine cg_1_0 C h g28 cU_X0 (List.mem_cons_of_mem _ wl_X6_125) dX6_kindOf_63 ?_
      refine lv_lload_n C.1 C.2.1 dX6_kindOf_66 rfl (lv_at hl 1 rfl) ?_
      obtain ⟨g29, hm⟩ := grd_s hm
      obtain ⟨g30, hm⟩ := grd_s hm
      refine W.lcmp C.1 C.2.1 dX6_kindOf_67 ?_
      refine z_lcmp_ne (tgt := 102) C dX6_kindOf_68 (by decide) g29 g30 (fun c31 => ?_) (fun c31 => ?_)
      · have hm := ite_f c31 hm
        refine lv_iinc (v := Int32.ofInt (x3 + 1)) (lv' := [(3, .int (Int32.ofInt (x3 + 1))), (0, rfv g 44), (1, .long (Int64.ofInt x1))]) C.1 C.2.1 dX6_kindOf_102 hl (k := 2) rfl (c32_add _ _) (by decide) rfl (fun ls hl => ?_)
        refine lv_goto (tgt := 41) C.1 C.2.1 dX6_kindOf_105 (by decide) ?_
        exact hrec41 (lv_sub hl [1, 2, 0] rfl) h hm
      · have hm := ite_t c31 hm
        refine z_aload_n C dX6_kindOf_71 rfl (lv_at hl 0 rfl) ?_
        refine z_aload_n C dX6_kindOf_72 rfl (lv_at hl 0 rfl) ?_
        refine cg_7_2 C h (sh_44 hS) cU_X6 (List.mem_cons_of_mem _ wl_X6_35) dX6_kindOf_73 ?_
        refine lv_iload_n C.1 C.2.1 dX6_kindOf_76 rfl (lv_at hl 2 rfl) ?_
        obtain ⟨r32, e33, hm⟩ := obd_s hm
        refine c_callVqP C hE h (sh_43 hS) rfl (by decide) (kc_L_get l D k z mi aK aV g hS e33) (cwV 1 C.2.2.1 (gS_X6_121 _) rfl rfl rfl hd_Jx4a65c_get_915e3 ⟨Nat.le_of_ble_eq_true rfl, Nat.le_of_ble_eq_true rfl⟩) rfl hl.1 rfl (by simp [rfv_cat, cat_i, cat_l]) dX6_kindOf_77 ⟨(Nat.le_of_ble_eq_true rfl), (Nat.le_of_ble_eq_true rfl)⟩ (fun H locs h => ?_)
        obtain ⟨g36, hm⟩ := grd_s hm
        refine v_cast C h g36 rfl (by decide) hE.2.1 (List.mem_cons_of_mem _ wc_X6_15) dX6_kindOf_80 ?_
        refine cp_7_6 C h (sh_44 hS) cU_X6 (List.mem_cons_of_mem _ wl_X6_28) dX6_kindOf_83 (fun H locs h => ?_)
        refine z_aload_n C dX6_kindOf_86 rfl (lv_at hl 0 rfl) ?_
        refine cg_7_6 C h (sh_44 hS) cU_X6 (List.mem_cons_of_mem _ wl_X6_28) dX6_kindOf_87 ?_
        refine x_topv (b := rfv g r32.2) (congrArg (rfv g) (by simp [fl, sf, se])) ?_
        refine cg_1_2 C h g36 cU_X0 (List.mem_cons_of_mem _ wl_X6_103) dX6_kindOf_90 ?_
        refine x_topi (y := Int32.ofInt (fl r32.1 22 r32.2)) rfl ?_
        obtain ⟨g37, hm⟩ := grd_s hm
        refine z_if_ne (tgt := 100) C dX6_kindOf_93 (by decide) g37 (fun c38 => ?_) (fun c38 => ?_)
        · have hm := ite_f c38 hm
          refine lv_iconst (v := Int32.ofInt 4) C.1 C.2.1 dX6_kindOf_100 (by decide) ?_
          cases hm
          exact c_iretP C h hr hlk dX6_kindOf_101 rfl
        · have hm := ite_t c38 hm
          refine lv_iconst (v := Int32.ofInt 3) C.1 C.2.1 dX6_kindOf_96 (by decide) ?_
          refine lv_goto (tgt := 101) C.1 C.2.1 dX6_kindOf_97 (by decide) ?_
          cases hm
          exact c_iretP C h hr hlk dX6_kindOf_101 rfl
set_option maxHeartbeats 8000000 in
set_option maxRecDepth 100000 in
theorem kc_Rd_kindOf (l : Launch) (D : va_G) (k : Nat → ClassId) (z mi : Nat) (aK aV : Nat → Nat) (g : Nat → Nat) (N : Nat)    {π : Sh} {σ : St} {x1 : Int} {r : St × Int} (hS : SHs π) (hm : Rd_kindOf N π σ x1 = some r) : Mi l yX6_kindOf (.code yX6_kindOf cX6_kindOf 4 (some .int) :: cWd) { frames := 3, cells := 0, slots := 0, locals := 81 } [rfv g 44, .long (Int64.ofInt x1)] D (TYs k) (cW k z g π σ) (XV z mi aK aV (cW k z g π σ)) Unit (fun v _ => v = Int32.ofInt r.2) (fun _ => cW k z g π r.1) 0 0 := by
  intro sz
  refine v_met (cc := cX6_kindOf) (maxL := 4) (ret := (some .int)) (lv := [(0, rfv g 44), (1, .long (Int64.ofInt x1))]) (by decide) rfl (by simp [lg_sl, rfv_cat, cat_i, cat_l]) (by simp [lv_args, rfv_cat, cat_i, cat_l]) ?_
  intro p e s m below meth c ls C hE hr hlk hmn hl h
  rw [Rd_kindOf] at hm
  refine z_aload_n C dX6_kindOf_0 rfl (lv_at hl 0 rfl) ?_
  refine z_aload_n C dX6_kindOf_1 rfl (lv_at hl 0 rfl) ?_
  refine cg_7_4 C h (sh_44 hS) cU_X6 (List.mem_cons_of_mem _ wl_X6_20) dX6_kindOf_2 ?_
  refine lv_lload_n C.1 C.2.1 dX6_kindOf_5 rfl (lv_at hl 1 rfl) ?_
  obtain ⟨r1, e2, hm⟩ := obd_s hm
  obtain ⟨g4, hm⟩ := grd_s hm
  refine c_callViP C hE h g4 rfl (by decide) (kc_Df_parameterIndex l D k z mi aK aV g N hS e2) (cwV 1 C.2.2.1 (gS_X6_113 _) rfl rfl rfl hd_X0_parameterIndex ⟨Nat.le_of_ble_eq_true rfl, Nat.le_of_ble_eq_true rfl⟩) rfl hl.1 rfl (by simp [rfv_cat, cat_i, cat_l]) dX6_kindOf_6 ⟨(Nat.le_of_ble_eq_true rfl), (Nat.le_of_ble_eq_true rfl)⟩ (fun H locs h => ?_)
  refine cp_7_5 C h (sh_44 hS) cU_X6 (List.mem_cons_of_mem _ wl_X6_24) dX6_kindOf_9 (fun H locs h => ?_)
  refine z_aload_n C dX6_kindOf_12 rfl (lv_at hl 0 rfl) ?_
  refine cg_7_5 C h (sh_44 hS) cU_X6 (List.mem_cons_of_mem _ wl_X6_24) dX6_kindOf_13 ?_
  refine x_topi (y := Int32.ofInt r1.2) (by simp [fl, sf, se]) ?_
  obtain ⟨g6, hm⟩ := grd_s hm
  refine z_if_lt (tgt := 21) C dX6_kindOf_16 (by decide) g6 (fun c7 => ?_) (fun c7 => ?_)
  · have hm := ite_t c7 hm
    refine z_aload_n C dX6_kindOf_21 rfl (lv_at hl 0 rfl) ?_
    refine z_aload_n C dX6_kindOf_22 rfl (lv_at hl 0 rfl) ?_
    refine lv_lload_n C.1 C.2.1 dX6_kindOf_23 rfl (lv_at hl 1 rfl) ?_
    obtain ⟨σ8, e9, hm⟩ := bnd_s hm
    rw [e9] at h
    obtain ⟨r11, e12, hm⟩ := obd_s hm
    refine c_callViP C hE h (sh_44 hS) rfl (by decide) (kc_Rd_functionOf l D k z mi aK aV g N hS e12) (cwV 1 C.2.2.1 (gS_X6_95 _) rfl rfl rfl hd_X6_functionOf ⟨Nat.le_of_ble_eq_true rfl, Nat.le_of_ble_eq_true rfl⟩) rfl hl.1 rfl (by simp [rfv_cat, cat_i, cat_l]) dX6_kindOf_24 ⟨(Nat.le_of_ble_eq_true rfl), (Nat.le_of_ble_eq_true rfl)⟩ (fun H locs h => ?_)
    refine cp_7_5 C h (sh_44 hS) cU_X6 (List.mem_cons_of_mem _ wl_X6_24) dX6_kindOf_27 (fun H locs h => ?_)
    refine z_aload_n C dX6_kindOf_30 rfl (lv_at hl 0 rfl) ?_
    refine cg_7_5 C h (sh_44 hS) cU_X6 (List.mem_cons_of_mem _ wl_X6_24) dX6_kindOf_31 ?_
    refine x_topi (y := Int32.ofInt r11.2) (by simp [fl, sf, se]) ?_
    obtain ⟨g15, hm⟩ := grd_s hm
    refine z_if_lt (tgt := 39) C dX6_kindOf_34 (by decide) g15 (fun c16 => ?_) (fun c16 => ?_)
    · have hm := ite_t c16 hm
      refine lv_iconst (v := Int32.ofInt 0) C.1 C.2.1 dX6_kindOf_39 (by decide) ?_
      refine lv_istore_n (lv' := [(3, .int (Int32.ofInt 0)), (0, rfv g 44), (1, .long (Int64.ofInt x1))]) C.1 C.2.1 dX6_kindOf_40 rfl hl (by decide) rfl (fun ls hl => ?_)
      exact kl_Rd_kindOf_41 (N := N) C hr hlk hE hS N (lv_sub hl [1, 2, 0] rfl) h hm
    · have hm := ite_f c16 hm
      refine lv_iconst (v := Int32.ofInt 2) C.1 C.2.1 dX6_kindOf_37 (by decide) ?_
      cases hm
      exact c_iretP C h hr hlk dX6_kindOf_38 rfl
  · have hm := ite_f c7 hm
    refine lv_iconst (v := Int32.ofInt 1) C.1 C.2.1 dX6_kindOf_19 (by decide) ?_
    cases hm
    exact c_iretP C h hr hlk dX6_kindOf_20 rfl
end Z_Rd_kindOf
section Z_Sc_isOp
variable {p : Program} {l : Launch} {e : Env} {s : State} {m : MethodId} {args : Array Value} {below : List Frame} {meth : Method} {c : Code} {D : va_G} {A : Nat → Prop} {k : Nat → ClassId} {N : Nat} {cd : Cond}
set_option maxHeartbeats 8000000 in
set_option maxRecDepth 100000 in
theorem kl_Sc_isOp_24 {r : Int} (C : Cx p s m args c cX8_isOp RX8 (cd :: cWd) D (TYs k) 1) (hr : meth.sig.returnType = (some .boolean)) (hlk : meth.locks = false)    {ls : Array Slot} {H : Heap} {locs : List Loc}   (hl : lv_has ls 1 []) (h : Hp D A s.heap H locs []) (hm : Sc_isOp_24 N  = some r) : W p l e { frames := 0, cells := 0, slots := 0, locals := 0 } s m args below meth c H locs 0 0 (MQ below (va_Qi (fun v (_ : Unit) => v = Int32.ofInt r) (fun _ t => PostW D (TYs k) A [] t) A) args s 0 0 A) (F0 m 24 ls []) := by
  rw [Sc_isOp_24] at hm
  refine lv_iconst (v := Int32.ofInt 1) C.1 C.2.1 dX8_isOp_24 (by decide) ?_
  refine lv_goto (tgt := 29) C.1 C.2.1 dX8_isOp_25 (by decide) ?_
  cases hm
  exact v_iretS C h hr hlk dX8_isOp_29 rfl
set_option maxHeartbeats 8000000 in
set_option maxRecDepth 100000 in
theorem kc_Sc_isOp (l : Launch) (D : va_G) (k : Nat → ClassId) (N : Nat) (x0 : Int) (r : Int) (hm : Sc_isOp N x0 = some r) : Mi l yX8_isOp (.code yX8_isOp cX8_isOp 1 (some .boolean) :: cWd) { frames := 0, cells := 0, slots := 0, locals := 0 } [.int (Int32.ofInt x0)] D (TYs k) [] (fun _ => True) Unit (fun v _ => v = Int32.ofInt r) (fun _ => []) 0 0 := by
  intro sz
  refine x_met (cc := cX8_isOp) (maxL := 1) (ret := (some .boolean)) (by decide) rfl (Nat.le_of_ble_eq_true rfl) ?_
  intro p e s m below meth c ls C hX hsz hr hlk hmn hl h
  have hl : lv_has ls 1 [(0, .int (Int32.ofInt x0))] := hl
  rw [Sc_isOp] at hm
  refine lv_iload_n C.1 C.2.1 dX8_isOp_0 rfl (lv_at hl 0 rfl) ?_
  refine lv_bipush (v := Int32.ofInt 35) C.1 C.2.1 dX8_isOp_1 (by decide) ?_
  obtain ⟨g1, hm⟩ := grd_s hm
  refine z_icmp_eq (tgt := 24) C dX8_isOp_3 (by decide) g1 (by decide) (fun c2 => ?_) (fun c2 => ?_)
  · have hm := ite_t c2 hm
    exact kl_Sc_isOp_24 (N := N) C hr hlk (lv_sub hl [] rfl) h hm
  · have hm := ite_f c2 hm
    refine lv_iload_n C.1 C.2.1 dX8_isOp_6 rfl (lv_at hl 0 rfl) ?_
    refine lv_bipush (v := Int32.ofInt 43) C.1 C.2.1 dX8_isOp_7 (by decide) ?_
    refine z_icmp_eq (tgt := 24) C dX8_isOp_9 (by decide) g1 (by decide) (fun c3 => ?_) (fun c3 => ?_)
    · have hm := ite_t c3 hm
      exact kl_Sc_isOp_24 (N := N) C hr hlk (lv_sub hl [] rfl) h hm
    · have hm := ite_f c3 hm
      refine lv_iload_n C.1 C.2.1 dX8_isOp_12 rfl (lv_at hl 0 rfl) ?_
      refine lv_bipush (v := Int32.ofInt 45) C.1 C.2.1 dX8_isOp_13 (by decide) ?_
      refine z_icmp_eq (tgt := 24) C dX8_isOp_15 (by decide) g1 (by decide) (fun c4 => ?_) (fun c4 => ?_)
      · have hm := ite_t c4 hm
        exact kl_Sc_isOp_24 (N := N) C hr hlk (lv_sub hl [] rfl) h hm
      · have hm := ite_f c4 hm
        refine lv_iload_n C.1 C.2.1 dX8_isOp_18 rfl (lv_at hl 0 rfl) ?_
        refine lv_bipush (v := Int32.ofInt 42) C.1 C.2.1 dX8_isOp_19 (by decide) ?_
        refine z_icmp_ne (tgt := 28) C dX8_isOp_21 (by decide) g1 (by decide) (fun c5 => ?_) (fun c5 => ?_)
        · have hm := ite_f c5 hm
          refine lv_iconst (v := Int32.ofInt 0) C.1 C.2.1 dX8_isOp_28 (by decide) ?_
          cases hm
          exact v_iretS C h hr hlk dX8_isOp_29 rfl
        · have hm := ite_t c5 hm
          exact kl_Sc_isOp_24 (N := N) C hr hlk (lv_sub hl [] rfl) h hm
end Z_Sc_isOp
section Z_Sc_isSign
variable {p : Program} {l : Launch} {e : Env} {s : State} {m : MethodId} {args : Array Value} {below : List Frame} {meth : Method} {c : Code} {D : va_G} {A : Nat → Prop} {k : Nat → ClassId} {N : Nat} {cd : Cond}
set_option maxHeartbeats 8000000 in
set_option maxRecDepth 100000 in
theorem kl_Sc_isSign_49 {r : Int} (C : Cx p s m args c cX8_isSign RX8 (cd :: cWd) D (TYs k) 1) (hr : meth.sig.returnType = (some .boolean)) (hlk : meth.locks = false)    {ls : Array Slot} {H : Heap} {locs : List Loc}   (hl : lv_has ls 1 []) (h : Hp D A s.heap H locs []) (hm : Sc_isSign_49 N  = some r) : W p l e { frames := 1, cells := 0, slots := 0, locals := 20 } s m args below meth c H locs 0 0 (MQ below (va_Qi (fun v (_ : Unit) => v = Int32.ofInt r) (fun _ t => PostW D (TYs k) A [] t) A) args s 0 0 A) (F0 m 49 ls []) := by
  rw [Sc_isSign_49] at hm
  refine lv_iconst (v := Int32.ofInt 1) C.1 C.2.1 dX8_isSign_49 (by decide) ?_
  refine lv_goto (tgt := 54) C.1 C.2.1 dX8_isSign_50 (by decide) ?_
  cases hm
  exact v_iretS C h hr hlk dX8_isSign_54 rfl
set_option maxHeartbeats 8000000 in
set_option maxRecDepth 100000 in
theorem kc_Sc_isSign (l : Launch) (D : va_G) (k : Nat → ClassId) (N : Nat) (x0 : Int) (r : Int) (hm : Sc_isSign N x0 = some r) : Mi l yX8_isSign (.code yX8_isSign cX8_isSign 1 (some .boolean) :: cWd) { frames := 1, cells := 0, slots := 0, locals := 20 } [.int (Int32.ofInt x0)] D (TYs k) [] (fun _ => True) Unit (fun v _ => v = Int32.ofInt r) (fun _ => []) 0 0 := by
  intro sz
  refine x_met (cc := cX8_isSign) (maxL := 1) (ret := (some .boolean)) (by decide) rfl (Nat.le_of_ble_eq_true rfl) ?_
  intro p e s m below meth c ls C hX hsz hr hlk hmn hl h
  have hl : lv_has ls 1 [(0, .int (Int32.ofInt x0))] := hl
  rw [Sc_isSign] at hm
  refine lv_iload_n C.1 C.2.1 dX8_isSign_0 rfl (lv_at hl 0 rfl) ?_
  obtain ⟨r1, e2, hm⟩ := obd_s hm
  refine v_callSi C h (kc_Sc_isOp l D k N x0 r1 e2) (v_cwS 1 C.2.2.1 (gC_X8_isOp _) rfl rfl rfl (C.2.2.1 _ (List.mem_cons_of_mem _ wt_X8)) (C.2.2.1 _ (List.mem_cons_of_mem _ wm_X8_77)) (C.2.2.1 _ (List.mem_cons_of_mem _ ws_X8_isOp)) hdS_X8_isOp ⟨Nat.le_of_ble_eq_true rfl, Nat.le_of_ble_eq_true rfl⟩) rfl hl.1 rfl (Nat.le_of_ble_eq_true rfl) dX8_isSign_1 ⟨(Nat.le_of_ble_eq_true rfl), (Nat.le_of_ble_eq_true rfl)⟩ (fun H locs h => ?_)
  obtain ⟨g3, hm⟩ := grd_s hm
  refine z_if_ne (tgt := 49) C dX8_isSign_4 (by decide) g3 (fun c4 => ?_) (fun c4 => ?_)
  · have hm := ite_f c4 hm
    exact kl_Sc_isSign_49 (N := N) C hr hlk (lv_sub hl [] rfl) h hm
  · have hm := ite_t c4 hm
    refine lv_iload_n C.1 C.2.1 dX8_isSign_7 rfl (lv_at hl 0 rfl) ?_
    refine lv_bipush (v := Int32.ofInt 40) C.1 C.2.1 dX8_isSign_8 (by decide) ?_
    obtain ⟨g5, hm⟩ := grd_s hm
    refine z_icmp_eq (tgt := 49) C dX8_isSign_10 (by decide) g5 (by decide) (fun c6 => ?_) (fun c6 => ?_)
    · have hm := ite_t c6 hm
      exact kl_Sc_isSign_49 (N := N) C hr hlk (lv_sub hl [] rfl) h hm
    · have hm := ite_f c6 hm
      refine lv_iload_n C.1 C.2.1 dX8_isSign_13 rfl (lv_at hl 0 rfl) ?_
      refine lv_bipush (v := Int32.ofInt 41) C.1 C.2.1 dX8_isSign_14 (by decide) ?_
      refine z_icmp_eq (tgt := 49) C dX8_isSign_16 (by decide) g5 (by decide) (fun c7 => ?_) (fun c7 => ?_)
      · have hm := ite_t c7 hm
        exact kl_Sc_isSign_49 (N := N) C hr hlk (lv_sub hl [] rfl) h hm
      · have hm := ite_f c7 hm
        refine lv_iload_n C.1 C.2.1 dX8_isSign_19 rfl (lv_at hl 0 rfl) ?_
        refine lv_bipush (v := Int32.ofInt 38) C.1 C.2.1 dX8_isSign_20 (by decide) ?_
        refine z_icmp_eq (tgt := 49) C dX8_isSign_22 (by decide) g5 (by decide) (fun c8 => ?_) (fun c8 => ?_)
        · have hm := ite_t c8 hm
          exact kl_Sc_isSign_49 (N := N) C hr hlk (lv_sub hl [] rfl) h hm
        · have hm := ite_f c8 hm
          refine lv_iload_n C.1 C.2.1 dX8_isSign_25 rfl (lv_at hl 0 rfl) ?_
          refine lv_bipush (v := Int32.ofInt 59) C.1 C.2.1 dX8_isSign_26 (by decide) ?_
          refine z_icmp_eq (tgt := 49) C dX8_isSign_28 (by decide) g5 (by decide) (fun c9 => ?_) (fun c9 => ?_)
          · have hm := ite_t c9 hm
            exact kl_Sc_isSign_49 (N := N) C hr hlk (lv_sub hl [] rfl) h hm
          · have hm := ite_f c9 hm
            refine lv_iload_n C.1 C.2.1 dX8_isSign_31 rfl (lv_at hl 0 rfl) ?_
            refine lv_bipush (v := Int32.ofInt 46) C.1 C.2.1 dX8_isSign_32 (by decide) ?_
            refine z_icmp_eq (tgt := 49) C dX8_isSign_34 (by decide) g5 (by decide) (fun c10 => ?_) (fun c10 => ?_)
            · have hm := ite_t c10 hm
              exact kl_Sc_isSign_49 (N := N) C hr hlk (lv_sub hl [] rfl) h hm
            · have hm := ite_f c10 hm
              refine lv_iload_n C.1 C.2.1 dX8_isSign_37 rfl (lv_at hl 0 rfl) ?_
              refine lv_bipush (v := Int32.ofInt 61) C.1 C.2.1 dX8_isSign_38 (by decide) ?_
              refine z_icmp_eq (tgt := 49) C dX8_isSign_40 (by decide) g5 (by decide) (fun c11 => ?_) (fun c11 => ?_)
              · have hm := ite_t c11 hm
                exact kl_Sc_isSign_49 (N := N) C hr hlk (lv_sub hl [] rfl) h hm
              · have hm := ite_f c11 hm
                refine lv_iload_n C.1 C.2.1 dX8_isSign_43 rfl (lv_at hl 0 rfl) ?_
                refine lv_bipush (v := Int32.ofInt 10) C.1 C.2.1 dX8_isSign_44 (by decide) ?_
                refine z_icmp_ne (tgt := 53) C dX8_isSign_46 (by decide) g5 (by decide) (fun c12 => ?_) (fun c12 => ?_)
                · have hm := ite_f c12 hm
                  refine lv_iconst (v := Int32.ofInt 0) C.1 C.2.1 dX8_isSign_53 (by decide) ?_
                  cases hm
                  exact v_iretS C h hr hlk dX8_isSign_54 rfl
                · have hm := ite_t c12 hm
                  exact kl_Sc_isSign_49 (N := N) C hr hlk (lv_sub hl [] rfl) h hm
end Z_Sc_isSign
section Z_Sc_digitsBehind
variable {p : Program} {l : Launch} {e : Env} {s : State} {m : MethodId} {args : Array Value} {below : List Frame} {meth : Method} {c : Code} {D : va_G} {A : Nat → Prop} {k : Nat → ClassId} {N : Nat} {cd : Cond} {z mi : Nat} {aK aV : Nat → Nat} {g : Nat → Nat} {π : Sh}
set_option maxHeartbeats 8000000 in
set_option maxRecDepth 100000 in
theorem kl_Sc_digitsBehind_2 {r : St × Int} (C : Cx p s m args c cX8_digitsBehind RX8 (cd :: cWd) D (TYs k) 3) (hr : meth.sig.returnType = (some .int)) (hlk : meth.locks = false) (hE : Ev z mi aK aV A s s.heap) (hS : SHs π)    (n : Nat) : ∀ {ls : Array Slot} {H : Heap} {locs : List Loc} {σ : St} {x2 : Int}, lv_has ls 3 [(0, rfv g 1), (2, .int (Int32.ofInt x2))] → Hp D A s.heap H locs (cW k z g π σ) → Sc_digitsBehind_2 N π n σ x2 = some r → W p l e { frames := 1, cells := 0, slots := 0, locals := 20 } s m args below meth c H locs 0 0 (MQ below (va_Qi (fun v (_ : Unit) => v = Int32.ofInt r.2) (fun _ t => PostW D (TYs k) A (cW k z g π r.1) t) A) args s 0 0 A) (F0 m 2 ls []) := by
  induction n with
  | zero => intro ls H locs σ x2  hl h hm; cases (show none = some r from hm)
  | succ n hrec2 =>
    intro ls H locs σ x2  hl h hm
    rw [Sc_digitsBehind_2] at hm
    refine lv_iload_n C.1 C.2.1 dX8_digitsBehind_2 rfl (lv_at hl 1 rfl) ?_
    refine z_aload_n C dX8_digitsBehind_3 rfl (lv_at hl 0 rfl) ?_
    refine cg_9_1 C h (sh_1 hS) cU_X8 (List.mem_cons_of_mem _ wl_X8_15) dX8_digitsBehind_4 ?_
    obtain ⟨g1, hm⟩ := grd_s hm
    obtain ⟨g2, hm⟩ := grd_s hm
    refine z_icmp_ge (tgt := 28) C dX8_digitsBehind_7 (by decide) g1 g2 (fun c3 => ?_) (fun c3 => ?_)
    · have hm := ite_f c3 hm
      refine lv_iload_n C.1 C.2.1 dX8_digitsBehind_28 rfl (lv_at hl 1 rfl) ?_
      cases hm
      exact c_iretP C h hr hlk dX8_digitsBehind_29 rfl
    · have hm := ite_t c3 hm
      refine z_aload_n C dX8_digitsBehind_10 rfl (lv_at hl 0 rfl) ?_
      refine cg_9_0 C h (sh_1 hS) cU_X8 (List.mem_cons_of_mem _ wl_X8_9) dX8_digitsBehind_11 ?_
      refine lv_iload_n C.1 C.2.1 dX8_digitsBehind_14 rfl (lv_at hl 1 rfl) ?_
      obtain ⟨g4, hm⟩ := grd_s hm
      refine c_bald C h (sh_2 hS) (ina_inb (n := 2000) (sl_2 hS) (Nat.le_of_ble_eq_true rfl) g4) dX8_digitsBehind_15 ?_
      obtain ⟨r5, e6, hm⟩ := obd_s hm
      refine v_callSi C h (kc_Sc_isDigit l D k N (el σ 2 x2) r5 e6) (v_cwS 1 C.2.2.1 (gC_X8_isDigit _) rfl rfl rfl (C.2.2.1 _ (List.mem_cons_of_mem _ wt_X8)) (C.2.2.1 _ (List.mem_cons_of_mem _ wm_X8_65)) (C.2.2.1 _ (List.mem_cons_of_mem _ ws_X8_isDigit)) hdS_X8_isDigit ⟨Nat.le_of_ble_eq_true rfl, Nat.le_of_ble_eq_true rfl⟩) rfl hl.1 rfl (Nat.le_of_ble_eq_true rfl) dX8_digitsBehind_16 ⟨(Nat.le_of_ble_eq_true rfl), (Nat.le_of_ble_eq_true rfl)⟩ (fun H locs h => ?_)
      obtain ⟨g7, hm⟩ := grd_s hm
      refine z_if_eq (tgt := 28) C dX8_digitsBehind_19 (by decide) g7 (fun c8 => ?_) (fun c8 => ?_)
      · have hm := ite_t c8 hm
        refine lv_iload_n C.1 C.2.1 dX8_digitsBehind_28 rfl (lv_at hl 1 rfl) ?_
        cases hm
        exact c_iretP C h hr hlk dX8_digitsBehind_29 rfl
      · have hm := ite_f c8 hm
        refine lv_iinc (v := Int32.ofInt (x2 + 1)) (lv' := [(2, .int (Int32.ofInt (x2 + 1))), (0, rfv g 1)]) C.1 C.2.1 dX8_digitsBehind_22 hl (k := 1) rfl (c32_add _ _) (by decide) rfl (fun ls hl => ?_)
        refine lv_goto (tgt := 2) C.1 C.2.1 dX8_digitsBehind_25 (by decide) ?_
        exact hrec2 (lv_sub hl [1, 0] rfl) h hm
set_option maxHeartbeats 8000000 in
set_option maxRecDepth 100000 in
theorem kc_Sc_digitsBehind (l : Launch) (D : va_G) (k : Nat → ClassId) (z mi : Nat) (aK aV : Nat → Nat) (g : Nat → Nat) (N : Nat)    {π : Sh} {σ : St} {x1 : Int} {r : St × Int} (hS : SHs π) (hm : Sc_digitsBehind N π σ x1 = some r) : Mi l yX8_digitsBehind (.code yX8_digitsBehind cX8_digitsBehind 3 (some .int) :: cWd) { frames := 1, cells := 0, slots := 0, locals := 20 } [rfv g 1, .int (Int32.ofInt x1)] D (TYs k) (cW k z g π σ) (XV z mi aK aV (cW k z g π σ)) Unit (fun v _ => v = Int32.ofInt r.2) (fun _ => cW k z g π r.1) 0 0 := by
  intro sz
  refine v_met (cc := cX8_digitsBehind) (maxL := 3) (ret := (some .int)) (lv := [(0, rfv g 1), (1, .int (Int32.ofInt x1))]) (by decide) rfl (by simp [lg_sl, rfv_cat, cat_i, cat_l]) (by simp [lv_args, rfv_cat, cat_i, cat_l]) ?_
  intro p e s m below meth c ls C hE hr hlk hmn hl h
  rw [Sc_digitsBehind] at hm
  refine lv_iload_n C.1 C.2.1 dX8_digitsBehind_0 rfl (lv_at hl 1 rfl) ?_
  refine lv_istore_n (lv' := [(2, .int (Int32.ofInt x1)), (0, rfv g 1), (1, .int (Int32.ofInt x1))]) C.1 C.2.1 dX8_digitsBehind_1 rfl hl (by decide) rfl (fun ls hl => ?_)
  exact kl_Sc_digitsBehind_2 (N := N) C hr hlk hE hS N (lv_sub hl [1, 0] rfl) h hm
end Z_Sc_digitsBehind
section Z_Sc_valueOf
variable {p : Program} {l : Launch} {e : Env} {s : State} {m : MethodId} {args : Array Value} {below : List Frame} {meth : Method} {c : Code} {D : va_G} {A : Nat → Prop} {k : Nat → ClassId} {N : Nat} {cd : Cond} {z mi : Nat} {aK aV : Nat → Nat} {g : Nat → Nat} {π : Sh}
set_option maxHeartbeats 8000000 in
set_option maxRecDepth 100000 in
theorem kl_Sc_valueOf_5 {r : St × Int} (C : Cx p s m args c cX8_valueOf RX8 (cd :: cWd) D (TYs k) 5) (hr : meth.sig.returnType = (some .int)) (hlk : meth.locks = false) (hE : Ev z mi aK aV A s s.heap) (hS : SHs π)    (n : Nat) : ∀ {ls : Array Slot} {H : Heap} {locs : List Loc} {σ : St} {x2 : Int} {x3 : Int} {x4 : Int}, lv_has ls 5 [(0, rfv g 1), (2, .int (Int32.ofInt x2)), (3, .int (Int32.ofInt x3)), (4, .int (Int32.ofInt x4))] → Hp D A s.heap H locs (cW k z g π σ) → Sc_valueOf_5 N π n σ x2 x3 x4 = some r → W p l e { frames := 1, cells := 0, slots := 0, locals := 21 } s m args below meth c H locs 0 0 (MQ below (va_Qi (fun v (_ : Unit) => v = Int32.ofInt r.2) (fun _ t => PostW D (TYs k) A (cW k z g π r.1) t) A) args s 0 0 A) (F0 m 5 ls []) := by
  induction n with
  | zero => intro ls H locs σ x2 x3 x4  hl h hm; cases (show none = some r from hm)
  | succ n hrec5 =>
    intro ls H locs σ x2 x3 x4  hl h hm
    rw [Sc_valueOf_5] at hm
    refine lv_iload C.1 C.2.1 dX8_valueOf_5 (lv_at hl 3 rfl) ?_
    refine lv_iload_n C.1 C.2.1 dX8_valueOf_7 rfl (lv_at hl 1 rfl) ?_
    obtain ⟨g1, hm⟩ := grd_s hm
    obtain ⟨g2, hm⟩ := grd_s hm
    refine z_icmp_ge (tgt := 32) C dX8_valueOf_8 (by decide) g1 g2 (fun c3 => ?_) (fun c3 => ?_)
    · have hm := ite_f c3 hm
      refine lv_iload_n C.1 C.2.1 dX8_valueOf_32 rfl (lv_at hl 2 rfl) ?_
      cases hm
      exact c_iretP C h hr hlk dX8_valueOf_33 rfl
    · have hm := ite_t c3 hm
      refine lv_iload_n C.1 C.2.1 dX8_valueOf_11 rfl (lv_at hl 2 rfl) ?_
      refine lv_bipush (v := Int32.ofInt 10) C.1 C.2.1 dX8_valueOf_12 (by decide) ?_
      refine z_imul C dX8_valueOf_14 ?_
      refine z_aload_n C dX8_valueOf_15 rfl (lv_at hl 0 rfl) ?_
      refine lv_iload C.1 C.2.1 dX8_valueOf_16 (lv_at hl 3 rfl) ?_
      obtain ⟨r4, e5, hm⟩ := obd_s hm
      refine c_callViP C hE h (sh_1 hS) rfl (by decide) (kc_Sc_byteAt l D k z mi aK aV g N hS e5) (cwV 1 C.2.2.1 (gS_X8_54 _) rfl rfl rfl hd_X8_byteAt ⟨Nat.le_of_ble_eq_true rfl, Nat.le_of_ble_eq_true rfl⟩) rfl hl.1 rfl (Nat.le_of_ble_eq_true rfl) dX8_valueOf_18 ⟨(Nat.le_of_ble_eq_true rfl), (Nat.le_of_ble_eq_true rfl)⟩ (fun H locs h => ?_)
      refine z_iadd C dX8_valueOf_21 ?_
      refine lv_bipush (v := Int32.ofInt 48) C.1 C.2.1 dX8_valueOf_22 (by decide) ?_
      refine z_isub C dX8_valueOf_24 ?_
      obtain ⟨v8, e9, hm⟩ := bnd_s hm
      rw [e9]
      refine lv_istore_n (lv' := [(3, .int (Int32.ofInt v8)), (0, rfv g 1), (2, .int (Int32.ofInt x2)), (4, .int (Int32.ofInt x4))]) C.1 C.2.1 dX8_valueOf_25 rfl hl (by decide) rfl (fun ls hl => ?_)
      refine lv_iinc (v := Int32.ofInt (x4 + 1)) (lv' := [(4, .int (Int32.ofInt (x4 + 1))), (3, .int (Int32.ofInt v8)), (0, rfv g 1), (2, .int (Int32.ofInt x2))]) C.1 C.2.1 dX8_valueOf_26 hl (k := 3) rfl (c32_add _ _) (by decide) rfl (fun ls hl => ?_)
      refine lv_goto (tgt := 5) C.1 C.2.1 dX8_valueOf_29 (by decide) ?_
      exact hrec5 (lv_sub hl [2, 3, 1, 0] rfl) h hm
set_option maxHeartbeats 8000000 in
set_option maxRecDepth 100000 in
theorem kc_Sc_valueOf (l : Launch) (D : va_G) (k : Nat → ClassId) (z mi : Nat) (aK aV : Nat → Nat) (g : Nat → Nat) (N : Nat)    {π : Sh} {σ : St} {x1 : Int} {x2 : Int} {r : St × Int} (hS : SHs π) (hm : Sc_valueOf N π σ x1 x2 = some r) : Mi l yX8_valueOf (.code yX8_valueOf cX8_valueOf 5 (some .int) :: cWd) { frames := 1, cells := 0, slots := 0, locals := 21 } [rfv g 1, .int (Int32.ofInt x1), .int (Int32.ofInt x2)] D (TYs k) (cW k z g π σ) (XV z mi aK aV (cW k z g π σ)) Unit (fun v _ => v = Int32.ofInt r.2) (fun _ => cW k z g π r.1) 0 0 := by
  intro sz
  refine v_met (cc := cX8_valueOf) (maxL := 5) (ret := (some .int)) (lv := [(0, rfv g 1), (1, .int (Int32.ofInt x1)), (2, .int (Int32.ofInt x2))]) (by decide) rfl (by simp [lg_sl, rfv_cat, cat_i, cat_l]) (by simp [lv_args, rfv_cat, cat_i, cat_l]) ?_
  intro p e s m below meth c ls C hE hr hlk hmn hl h
  rw [Sc_valueOf] at hm
  refine lv_iconst (v := Int32.ofInt 0) C.1 C.2.1 dX8_valueOf_0 (by decide) ?_
  refine lv_istore_n (lv' := [(3, .int (Int32.ofInt 0)), (0, rfv g 1), (1, .int (Int32.ofInt x1)), (2, .int (Int32.ofInt x2))]) C.1 C.2.1 dX8_valueOf_1 rfl hl (by decide) rfl (fun ls hl => ?_)
  refine lv_iload_n C.1 C.2.1 dX8_valueOf_2 rfl (lv_at hl 2 rfl) ?_
  refine lv_istore (lv' := [(4, .int (Int32.ofInt x1)), (3, .int (Int32.ofInt 0)), (0, rfv g 1), (1, .int (Int32.ofInt x1)), (2, .int (Int32.ofInt x2))]) C.1 C.2.1 dX8_valueOf_3 hl (by decide) rfl (fun ls hl => ?_)
  exact kl_Sc_valueOf_5 (N := N) C hr hlk hE hS N (lv_sub hl [2, 4, 1, 0] rfl) h hm
end Z_Sc_valueOf
section Z_Sc_scanCount
variable {p : Program} {l : Launch} {e : Env} {s : State} {m : MethodId} {args : Array Value} {below : List Frame} {meth : Method} {c : Code} {D : va_G} {A : Nat → Prop} {k : Nat → ClassId} {N : Nat} {cd : Cond} {z mi : Nat} {aK aV : Nat → Nat} {g : Nat → Nat} {π : Sh}
set_option maxHeartbeats 8000000 in
set_option maxRecDepth 100000 in
theorem kl_Sc_scanCount_145 {r : St} (C : Cx p s m args c cX8_scanCount RX8 (cd :: cWd) D (TYs k) 3) (hr : meth.sig.returnType = none) (hlk : meth.locks = false) (hE : Ev z mi aK aV A s s.heap) (hS : SHs π)    {ls : Array Slot} {H : Heap} {locs : List Loc} {σ : St} {x2 : Int}  (hl : lv_has ls 3 [(0, rfv g 1), (2, .int (Int32.ofInt x2))]) (h : Hp D A s.heap H locs (cW k z g π σ)) (hm : Sc_scanCount_145 N π σ x2 = some r) : W p l e { frames := 2, cells := 0, slots := 0, locals := 45 } s m args below meth c H locs 0 0 (MQ below (va_Qv (fun (_ : Unit) => True) (fun _ t => PostW D (TYs k) A (cW k z g π r) t) A) args s 0 0 A) (F0 m 145 ls []) := by
  rw [Sc_scanCount_145] at hm
  refine lv_iload_n C.1 C.2.1 dX8_scanCount_145 rfl (lv_at hl 1 rfl) ?_
  obtain ⟨g38, hm⟩ := grd_s hm
  refine z_if_ne (tgt := 154) C dX8_scanCount_146 (by decide) g38 (fun c39 => ?_) (fun c39 => ?_)
  · have hm := ite_f c39 hm
    cases hm
    exact c_vretP C h hr hlk dX8_scanCount_154
  · have hm := ite_t c39 hm
    refine z_aload_n C dX8_scanCount_149 rfl (lv_at hl 0 rfl) ?_
    refine lv_iconst (v := Int32.ofInt 5) C.1 C.2.1 dX8_scanCount_150 (by decide) ?_
    refine cp_9_5 C h (sh_1 hS) cU_X8 (List.mem_cons_of_mem _ wl_X8_28) dX8_scanCount_151 (fun H locs h => ?_)
    cases hm
    exact c_vretP C h hr hlk dX8_scanCount_154
set_option maxHeartbeats 8000000 in
set_option maxRecDepth 100000 in
theorem kl_Sc_scanCount_137 {r : St} (C : Cx p s m args c cX8_scanCount RX8 (cd :: cWd) D (TYs k) 3) (hr : meth.sig.returnType = none) (hlk : meth.locks = false) (hE : Ev z mi aK aV A s s.heap) (hS : SHs π)    {ls : Array Slot} {H : Heap} {locs : List Loc} {σ : St} {x2 : Int} {s0 : Int}  (hl : lv_has ls 3 [(0, rfv g 1), (2, .int (Int32.ofInt x2))]) (h : Hp D A s.heap H locs (cW k z g π σ)) (hm : Sc_scanCount_137 N π σ x2 s0 = some r) : W p l e { frames := 2, cells := 0, slots := 0, locals := 45 } s m args below meth c H locs 0 0 (MQ below (va_Qv (fun (_ : Unit) => True) (fun _ t => PostW D (TYs k) A (cW k z g π r) t) A) args s 0 0 A) (F0 m 137 ls [.int (Int32.ofInt s0), rfv g 1]) := by
  rw [Sc_scanCount_137] at hm
  refine cp_9_10 C h (sh_1 hS) cU_X8 (List.mem_cons_of_mem _ wl_X8_44) dX8_scanCount_137 (fun H locs h => ?_)
  refine z_aload_n C dX8_scanCount_140 rfl (lv_at hl 0 rfl) ?_
  refine lv_iconst (v := Int32.ofInt 3) C.1 C.2.1 dX8_scanCount_141 (by decide) ?_
  refine cp_9_5 C h (sh_1 hS) cU_X8 (List.mem_cons_of_mem _ wl_X8_28) dX8_scanCount_142 (fun H locs h => ?_)
  exact kl_Sc_scanCount_145 (N := N) C hr hlk hE hS (lv_sub hl [0, 1] rfl) h hm
set_option maxHeartbeats 8000000 in
set_option maxRecDepth 100000 in
theorem kl_Sc_scanCount_116 {r : St} (C : Cx p s m args c cX8_scanCount RX8 (cd :: cWd) D (TYs k) 3) (hr : meth.sig.returnType = none) (hlk : meth.locks = false) (hE : Ev z mi aK aV A s s.heap) (hS : SHs π)    {ls : Array Slot} {H : Heap} {locs : List Loc} {σ : St} {x1 : Int} {s0 : Int}  (hl : lv_has ls 3 [(0, rfv g 1), (1, .int (Int32.ofInt x1))]) (h : Hp D A s.heap H locs (cW k z g π σ)) (hm : Sc_scanCount_116 N π σ x1 s0 = some r) : W p l e { frames := 2, cells := 0, slots := 0, locals := 45 } s m args below meth c H locs 0 0 (MQ below (va_Qv (fun (_ : Unit) => True) (fun _ t => PostW D (TYs k) A (cW k z g π r) t) A) args s 0 0 A) (F0 m 116 ls [.int (Int32.ofInt s0)]) := by
  rw [Sc_scanCount_116] at hm
  refine lv_istore_n (lv' := [(2, .int (Int32.ofInt s0)), (0, rfv g 1), (1, .int (Int32.ofInt x1))]) C.1 C.2.1 dX8_scanCount_116 rfl hl (by decide) rfl (fun ls hl => ?_)
  refine z_aload_n C dX8_scanCount_117 rfl (lv_at hl 1 rfl) ?_
  refine lv_iload_n C.1 C.2.1 dX8_scanCount_118 rfl (lv_at hl 0 rfl) ?_
  obtain ⟨g40, hm⟩ := grd_s hm
  refine z_if_eq (tgt := 136) C dX8_scanCount_119 (by decide) g40 (fun c41 => ?_) (fun c41 => ?_)
  · have hm := ite_t c41 hm
    refine lv_iconst (v := Int32.ofInt 1) C.1 C.2.1 dX8_scanCount_136 (by decide) ?_
    exact kl_Sc_scanCount_137 (N := N) C hr hlk hE hS (lv_sub hl [1, 0] rfl) h hm
  · have hm := ite_f c41 hm
    refine z_aload_n C dX8_scanCount_122 rfl (lv_at hl 1 rfl) ?_
    refine lv_iload_n C.1 C.2.1 dX8_scanCount_123 rfl (lv_at hl 2 rfl) ?_
    refine lv_iconst (v := Int32.ofInt 1) C.1 C.2.1 dX8_scanCount_124 (by decide) ?_
    refine z_iadd C dX8_scanCount_125 ?_
    refine z_aload_n C dX8_scanCount_126 rfl (lv_at hl 1 rfl) ?_
    refine cg_9_7 C h (sh_1 hS) cU_X8 (List.mem_cons_of_mem _ wl_X8_34) dX8_scanCount_127 ?_
    obtain ⟨r42, e43, hm⟩ := obd_s hm
    refine c_callViP C hE h (sh_1 hS) rfl (by decide) (kc_Sc_valueOf l D k z mi aK aV g N hS e43) (cwV 2 C.2.2.1 (gS_X8_89 _) rfl rfl rfl hd_X8_valueOf ⟨Nat.le_of_ble_eq_true rfl, Nat.le_of_ble_eq_true rfl⟩) rfl hl.1 rfl (by simp [rfv_cat, cat_i, cat_l]) dX8_scanCount_130 ⟨(Nat.le_of_ble_eq_true rfl), (Nat.le_of_ble_eq_true rfl)⟩ (fun H locs h => ?_)
    refine lv_goto (tgt := 137) C.1 C.2.1 dX8_scanCount_133 (by decide) ?_
    exact kl_Sc_scanCount_137 (N := N) C hr hlk hE hS (lv_sub hl [1, 0] rfl) h hm
set_option maxHeartbeats 8000000 in
set_option maxRecDepth 100000 in
theorem kl_Sc_scanCount_115 {r : St} (C : Cx p s m args c cX8_scanCount RX8 (cd :: cWd) D (TYs k) 3) (hr : meth.sig.returnType = none) (hlk : meth.locks = false) (hE : Ev z mi aK aV A s s.heap) (hS : SHs π)    {ls : Array Slot} {H : Heap} {locs : List Loc} {σ : St} {x1 : Int}  (hl : lv_has ls 3 [(0, rfv g 1), (1, .int (Int32.ofInt x1))]) (h : Hp D A s.heap H locs (cW k z g π σ)) (hm : Sc_scanCount_115 N π σ x1 = some r) : W p l e { frames := 2, cells := 0, slots := 0, locals := 45 } s m args below meth c H locs 0 0 (MQ below (va_Qv (fun (_ : Unit) => True) (fun _ t => PostW D (TYs k) A (cW k z g π r) t) A) args s 0 0 A) (F0 m 115 ls []) := by
  rw [Sc_scanCount_115] at hm
  refine lv_iconst (v := Int32.ofInt 0) C.1 C.2.1 dX8_scanCount_115 (by decide) ?_
  exact kl_Sc_scanCount_116 (N := N) C hr hlk hE hS (lv_sub hl [0, 1] rfl) h hm
set_option maxHeartbeats 8000000 in
set_option maxRecDepth 100000 in
theorem kl_Sc_scanCount_43 {r : St} (C : Cx p s m args c cX8_scanCount RX8 (cd :: cWd) D (TYs k) 3) (hr : meth.sig.returnType = none) (hlk : meth.locks = false) (hE : Ev z mi aK aV A s s.heap) (hS : SHs π)    {ls : Array Slot} {H : Heap} {locs : List Loc} {σ : St} {x1 : Int} {x2 : Int} {s0 : Int}  (hl : lv_has ls 3 [(0, rfv g 1), (1, .int (Int32.ofInt x1)), (2, .int (Int32.ofInt x2))]) (h : Hp D A s.heap H locs (cW k z g π σ)) (hm : Sc_scanCount_43 N π σ x1 x2 s0 = some r) : W p l e { frames := 2, cells := 0, slots := 0, locals := 45 } s m args below meth c H locs 0 0 (MQ below (va_Qv (fun (_ : Unit) => True) (fun _ t => PostW D (TYs k) A (cW k z g π r) t) A) args s 0 0 A) (F0 m 43 ls [.int (Int32.ofInt s0), rfv g 1]) := by
  rw [Sc_scanCount_43] at hm
  refine cp_9_9 C h (sh_1 hS) cU_X8 (List.mem_cons_of_mem _ wl_X8_41) dX8_scanCount_43 (fun H locs h => ?_)
  refine z_aload_n C dX8_scanCount_46 rfl (lv_at hl 0 rfl) ?_
  refine lv_iconst (v := Int32.ofInt 1) C.1 C.2.1 dX8_scanCount_47 (by decide) ?_
  refine cp_9_10 C h (sh_1 hS) cU_X8 (List.mem_cons_of_mem _ wl_X8_44) dX8_scanCount_48 (fun H locs h => ?_)
  refine z_aload_n C dX8_scanCount_51 rfl (lv_at hl 0 rfl) ?_
  refine lv_iload_n C.1 C.2.1 dX8_scanCount_52 rfl (lv_at hl 1 rfl) ?_
  refine cp_9_7 C h (sh_1 hS) cU_X8 (List.mem_cons_of_mem _ wl_X8_34) dX8_scanCount_53 (fun H locs h => ?_)
  refine z_aload_n C dX8_scanCount_56 rfl (lv_at hl 0 rfl) ?_
  refine lv_iconst (v := Int32.ofInt 2) C.1 C.2.1 dX8_scanCount_57 (by decide) ?_
  refine cp_9_5 C h (sh_1 hS) cU_X8 (List.mem_cons_of_mem _ wl_X8_28) dX8_scanCount_58 (fun H locs h => ?_)
  refine z_aload_n C dX8_scanCount_61 rfl (lv_at hl 0 rfl) ?_
  refine lv_iload_n C.1 C.2.1 dX8_scanCount_62 rfl (lv_at hl 1 rfl) ?_
  obtain ⟨σ13, e14, hm⟩ := bnd_s hm
  rw [e14] at h
  obtain ⟨r16, e17, hm⟩ := obd_s hm
  refine c_callViP C hE h (sh_1 hS) rfl (by decide) (kc_Sc_byteAt l D k z mi aK aV g N hS e17) (cwV 1 C.2.2.1 (gS_X8_54 _) rfl rfl rfl hd_X8_byteAt ⟨Nat.le_of_ble_eq_true rfl, Nat.le_of_ble_eq_true rfl⟩) rfl hl.1 rfl (Nat.le_of_ble_eq_true rfl) dX8_scanCount_63 ⟨(Nat.le_of_ble_eq_true rfl), (Nat.le_of_ble_eq_true rfl)⟩ (fun H locs h => ?_)
  refine lv_bipush (v := Int32.ofInt 58) C.1 C.2.1 dX8_scanCount_66 (by decide) ?_
  obtain ⟨g20, hm⟩ := grd_s hm
  refine z_icmp_ne (tgt := 145) C dX8_scanCount_68 (by decide) g20 (by decide) (fun c21 => ?_) (fun c21 => ?_)
  · have hm := ite_f c21 hm
    exact kl_Sc_scanCount_145 (N := N) C hr hlk hE hS (lv_sub hl [0, 2] rfl) h hm
  · have hm := ite_t c21 hm
    refine z_aload_n C dX8_scanCount_71 rfl (lv_at hl 0 rfl) ?_
    refine lv_iload_n C.1 C.2.1 dX8_scanCount_72 rfl (lv_at hl 1 rfl) ?_
    refine lv_iconst (v := Int32.ofInt 1) C.1 C.2.1 dX8_scanCount_73 (by decide) ?_
    refine z_iadd C dX8_scanCount_74 ?_
    obtain ⟨r22, e23, hm⟩ := obd_s hm
    refine c_callViP C hE h (sh_1 hS) rfl (by decide) (kc_Sc_byteAt l D k z mi aK aV g N hS e23) (cwV 1 C.2.2.1 (gS_X8_54 _) rfl rfl rfl hd_X8_byteAt ⟨Nat.le_of_ble_eq_true rfl, Nat.le_of_ble_eq_true rfl⟩) rfl hl.1 rfl (Nat.le_of_ble_eq_true rfl) dX8_scanCount_75 ⟨(Nat.le_of_ble_eq_true rfl), (Nat.le_of_ble_eq_true rfl)⟩ (fun H locs h => ?_)
    obtain ⟨r26, e27, hm⟩ := obd_s hm
    refine v_callSi C h (kc_Sc_isDigit l D k N r22.2 r26 e27) (v_cwS 1 C.2.2.1 (gC_X8_isDigit _) rfl rfl rfl (C.2.2.1 _ (List.mem_cons_of_mem _ wt_X8)) (C.2.2.1 _ (List.mem_cons_of_mem _ wm_X8_65)) (C.2.2.1 _ (List.mem_cons_of_mem _ ws_X8_isDigit)) hdS_X8_isDigit ⟨Nat.le_of_ble_eq_true rfl, Nat.le_of_ble_eq_true rfl⟩) rfl hl.1 rfl (Nat.le_of_ble_eq_true rfl) dX8_scanCount_78 ⟨(Nat.le_of_ble_eq_true rfl), (Nat.le_of_ble_eq_true rfl)⟩ (fun H locs h => ?_)
    obtain ⟨g28, hm⟩ := grd_s hm
    refine z_if_eq (tgt := 145) C dX8_scanCount_81 (by decide) g28 (fun c29 => ?_) (fun c29 => ?_)
    · have hm := ite_t c29 hm
      exact kl_Sc_scanCount_145 (N := N) C hr hlk hE hS (lv_sub hl [0, 2] rfl) h hm
    · have hm := ite_f c29 hm
      refine z_aload_n C dX8_scanCount_84 rfl (lv_at hl 0 rfl) ?_
      refine z_aload_n C dX8_scanCount_85 rfl (lv_at hl 0 rfl) ?_
      refine lv_iload_n C.1 C.2.1 dX8_scanCount_86 rfl (lv_at hl 1 rfl) ?_
      refine lv_iconst (v := Int32.ofInt 1) C.1 C.2.1 dX8_scanCount_87 (by decide) ?_
      refine z_iadd C dX8_scanCount_88 ?_
      obtain ⟨r30, e31, hm⟩ := obd_s hm
      refine c_callViP C hE h (sh_1 hS) rfl (by decide) (kc_Sc_digitsBehind l D k z mi aK aV g N hS e31) (cwV 1 C.2.2.1 (gS_X8_86 _) rfl rfl rfl hd_X8_digitsBehind ⟨Nat.le_of_ble_eq_true rfl, Nat.le_of_ble_eq_true rfl⟩) rfl hl.1 rfl (by simp [rfv_cat, cat_i, cat_l]) dX8_scanCount_89 ⟨(Nat.le_of_ble_eq_true rfl), (Nat.le_of_ble_eq_true rfl)⟩ (fun H locs h => ?_)
      refine cp_9_7 C h (sh_1 hS) cU_X8 (List.mem_cons_of_mem _ wl_X8_34) dX8_scanCount_92 (fun H locs h => ?_)
      refine lv_iload_n C.1 C.2.1 dX8_scanCount_95 rfl (lv_at hl 2 rfl) ?_
      obtain ⟨g34, hm⟩ := grd_s hm
      refine z_if_eq (tgt := 115) C dX8_scanCount_96 (by decide) g34 (fun c35 => ?_) (fun c35 => ?_)
      · have hm := ite_t c35 hm
        exact kl_Sc_scanCount_115 (N := N) C hr hlk hE hS (lv_sub hl [0, 1] rfl) h hm
      · have hm := ite_f c35 hm
        refine z_aload_n C dX8_scanCount_99 rfl (lv_at hl 0 rfl) ?_
        refine cg_9_7 C h (sh_1 hS) cU_X8 (List.mem_cons_of_mem _ wl_X8_34) dX8_scanCount_100 ?_
        refine x_topi (y := Int32.ofInt r30.2) (by simp [fl, sf, se]) ?_
        refine lv_iload_n C.1 C.2.1 dX8_scanCount_103 rfl (lv_at hl 1 rfl) ?_
        refine z_isub C dX8_scanCount_104 ?_
        refine lv_iconst (v := Int32.ofInt 1) C.1 C.2.1 dX8_scanCount_105 (by decide) ?_
        refine z_isub C dX8_scanCount_106 ?_
        refine lv_iconst (v := Int32.ofInt 4) C.1 C.2.1 dX8_scanCount_107 (by decide) ?_
        obtain ⟨g36, hm⟩ := grd_s hm
        refine z_icmp_gt (tgt := 115) C dX8_scanCount_108 (by decide) g36 (by decide) (fun c37 => ?_) (fun c37 => ?_)
        · have hm := ite_t c37 hm
          exact kl_Sc_scanCount_115 (N := N) C hr hlk hE hS (lv_sub hl [0, 1] rfl) h hm
        · have hm := ite_f c37 hm
          refine lv_iconst (v := Int32.ofInt 1) C.1 C.2.1 dX8_scanCount_111 (by decide) ?_
          refine lv_goto (tgt := 116) C.1 C.2.1 dX8_scanCount_112 (by decide) ?_
          exact kl_Sc_scanCount_116 (N := N) C hr hlk hE hS (lv_sub hl [0, 1] rfl) h hm
set_option maxHeartbeats 8000000 in
set_option maxRecDepth 100000 in
theorem kl_Sc_scanCount_24 {r : St} (C : Cx p s m args c cX8_scanCount RX8 (cd :: cWd) D (TYs k) 3) (hr : meth.sig.returnType = none) (hlk : meth.locks = false) (hE : Ev z mi aK aV A s s.heap) (hS : SHs π)    {ls : Array Slot} {H : Heap} {locs : List Loc} {σ : St} {x1 : Int} {s0 : Int}  (hl : lv_has ls 3 [(0, rfv g 1), (1, .int (Int32.ofInt x1))]) (h : Hp D A s.heap H locs (cW k z g π σ)) (hm : Sc_scanCount_24 N π σ x1 s0 = some r) : W p l e { frames := 2, cells := 0, slots := 0, locals := 45 } s m args below meth c H locs 0 0 (MQ below (va_Qv (fun (_ : Unit) => True) (fun _ t => PostW D (TYs k) A (cW k z g π r) t) A) args s 0 0 A) (F0 m 24 ls [.int (Int32.ofInt s0)]) := by
  rw [Sc_scanCount_24] at hm
  refine lv_istore_n (lv' := [(2, .int (Int32.ofInt s0)), (0, rfv g 1), (1, .int (Int32.ofInt x1))]) C.1 C.2.1 dX8_scanCount_24 rfl hl (by decide) rfl (fun ls hl => ?_)
  refine z_aload_n C dX8_scanCount_25 rfl (lv_at hl 1 rfl) ?_
  refine lv_iload_n C.1 C.2.1 dX8_scanCount_26 rfl (lv_at hl 0 rfl) ?_
  obtain ⟨g7, hm⟩ := grd_s hm
  refine z_if_eq (tgt := 42) C dX8_scanCount_27 (by decide) g7 (fun c8 => ?_) (fun c8 => ?_)
  · have hm := ite_t c8 hm
    refine lv_iconst (v := Int32.ofInt 0) C.1 C.2.1 dX8_scanCount_42 (by decide) ?_
    exact kl_Sc_scanCount_43 (N := N) C hr hlk hE hS (lv_sub hl [1, 2, 0] rfl) h hm
  · have hm := ite_f c8 hm
    refine z_aload_n C dX8_scanCount_30 rfl (lv_at hl 1 rfl) ?_
    refine z_aload_n C dX8_scanCount_31 rfl (lv_at hl 1 rfl) ?_
    refine cg_9_6 C h (sh_1 hS) cU_X8 (List.mem_cons_of_mem _ wl_X8_31) dX8_scanCount_32 ?_
    refine lv_iload_n C.1 C.2.1 dX8_scanCount_35 rfl (lv_at hl 2 rfl) ?_
    obtain ⟨r9, e10, hm⟩ := obd_s hm
    refine c_callViP C hE h (sh_1 hS) rfl (by decide) (kc_Sc_valueOf l D k z mi aK aV g N hS e10) (cwV 2 C.2.2.1 (gS_X8_89 _) rfl rfl rfl hd_X8_valueOf ⟨Nat.le_of_ble_eq_true rfl, Nat.le_of_ble_eq_true rfl⟩) rfl hl.1 rfl (by simp [rfv_cat, cat_i, cat_l]) dX8_scanCount_36 ⟨(Nat.le_of_ble_eq_true rfl), (Nat.le_of_ble_eq_true rfl)⟩ (fun H locs h => ?_)
    refine lv_goto (tgt := 43) C.1 C.2.1 dX8_scanCount_39 (by decide) ?_
    exact kl_Sc_scanCount_43 (N := N) C hr hlk hE hS (lv_sub hl [1, 2, 0] rfl) h hm
set_option maxHeartbeats 8000000 in
set_option maxRecDepth 100000 in
theorem kc_Sc_scanCount (l : Launch) (D : va_G) (k : Nat → ClassId) (z mi : Nat) (aK aV : Nat → Nat) (g : Nat → Nat) (N : Nat)    {π : Sh} {σ : St}  {r : St} (hS : SHs π) (hm : Sc_scanCount N π σ  = some r) : Mv l yX8_scanCount (.code yX8_scanCount cX8_scanCount 3 none :: cWd) { frames := 2, cells := 0, slots := 0, locals := 45 } [rfv g 1] D (TYs k) (cW k z g π σ) (XV z mi aK aV (cW k z g π σ)) Unit (fun _ => True) (fun _ => cW k z g π r) 0 0 := by
  intro sz
  refine v_met (cc := cX8_scanCount) (maxL := 3) (ret := none) (lv := [(0, rfv g 1)]) (by decide) rfl (by simp [lg_sl, rfv_cat, cat_i, cat_l]) (by simp [lv_args, rfv_cat, cat_i, cat_l]) ?_
  intro p e s m below meth c ls C hE hr hlk hmn hl h
  rw [Sc_scanCount] at hm
  refine z_aload_n C dX8_scanCount_0 rfl (lv_at hl 0 rfl) ?_
  refine z_aload_n C dX8_scanCount_1 rfl (lv_at hl 0 rfl) ?_
  refine cg_9_6 C h (sh_1 hS) cU_X8 (List.mem_cons_of_mem _ wl_X8_31) dX8_scanCount_2 ?_
  obtain ⟨r1, e2, hm⟩ := obd_s hm
  refine c_callViP C hE h (sh_1 hS) rfl (by decide) (kc_Sc_digitsBehind l D k z mi aK aV g N hS e2) (cwV 1 C.2.2.1 (gS_X8_86 _) rfl rfl rfl hd_X8_digitsBehind ⟨Nat.le_of_ble_eq_true rfl, Nat.le_of_ble_eq_true rfl⟩) rfl hl.1 rfl (Nat.le_of_ble_eq_true rfl) dX8_scanCount_5 ⟨(Nat.le_of_ble_eq_true rfl), (Nat.le_of_ble_eq_true rfl)⟩ (fun H locs h => ?_)
  refine lv_istore_n (i := 1) (lv' := [(1, .int (Int32.ofInt r1.2)), (0, rfv g 1)]) C.1 C.2.1 dX8_scanCount_8 rfl hl (by decide) (by simp [rfv_cat, cat_i, cat_l]) (fun ls hl => ?_)
  refine lv_iload_n C.1 C.2.1 dX8_scanCount_9 rfl (lv_at hl 0 rfl) ?_
  refine z_aload_n C dX8_scanCount_10 rfl (lv_at hl 1 rfl) ?_
  refine cg_9_6 C h (sh_1 hS) cU_X8 (List.mem_cons_of_mem _ wl_X8_31) dX8_scanCount_11 ?_
  refine z_isub C dX8_scanCount_14 ?_
  refine lv_iconst (v := Int32.ofInt 4) C.1 C.2.1 dX8_scanCount_15 (by decide) ?_
  obtain ⟨g5, hm⟩ := grd_s hm
  refine z_icmp_gt (tgt := 23) C dX8_scanCount_16 (by decide) g5 (by decide) (fun c6 => ?_) (fun c6 => ?_)
  · have hm := ite_t c6 hm
    refine lv_iconst (v := Int32.ofInt 0) C.1 C.2.1 dX8_scanCount_23 (by decide) ?_
    exact kl_Sc_scanCount_24 (N := N) C hr hlk hE hS (lv_sub hl [1, 0] rfl) h hm
  · have hm := ite_f c6 hm
    refine lv_iconst (v := Int32.ofInt 1) C.1 C.2.1 dX8_scanCount_19 (by decide) ?_
    refine lv_goto (tgt := 24) C.1 C.2.1 dX8_scanCount_20 (by decide) ?_
    exact kl_Sc_scanCount_24 (N := N) C hr hlk hE hS (lv_sub hl [1, 0] rfl) h hm
end Z_Sc_scanCount
section Z_Sc_longer
variable {p : Program} {l : Launch} {e : Env} {s : State} {m : MethodId} {args : Array Value} {below : List Frame} {meth : Method} {c : Code} {D : va_G} {A : Nat → Prop} {k : Nat → ClassId} {N : Nat} {cd : Cond}
set_option maxHeartbeats 8000000 in
set_option maxRecDepth 100000 in
theorem kl_Sc_longer_28 {r : Int} (C : Cx p s m args c cX8_longer RX8 (cd :: cWd) D (TYs k) 3) (hr : meth.sig.returnType = (some .long)) (hlk : meth.locks = false)    {ls : Array Slot} {H : Heap} {locs : List Loc} {s0 : Int} {s1 : Int}  (hl : lv_has ls 3 []) (h : Hp D A s.heap H locs []) (hm : Sc_longer_28 N s0 s1 = some r) : W p l e { frames := 1, cells := 0, slots := 0, locals := 20 } s m args below meth c H locs 0 0 (MQ below (va_Ql (fun v (_ : Unit) => v = Int64.ofInt r) (fun _ t => PostW D (TYs k) A [] t) A) args s 0 0 A) (F0 m 28 ls [.int (Int32.ofInt s0), .long (Int64.ofInt s1)]) := by
  rw [Sc_longer_28] at hm
  obtain ⟨g5, hm⟩ := grd_s hm
  refine z_i2l C dX8_longer_28 g5 ?_
  refine z_ladd C dX8_longer_29 ?_
  cases hm
  exact v_lretS C h hr hlk dX8_longer_30
set_option maxHeartbeats 8000000 in
set_option maxRecDepth 100000 in
theorem kc_Sc_longer (l : Launch) (D : va_G) (k : Nat → ClassId) (N : Nat) (x0 : Int) (x2 : Int) (r : Int) (hm : Sc_longer N x0 x2 = some r) : Ml l yX8_longer (.code yX8_longer cX8_longer 3 (some .long) :: cWd) { frames := 1, cells := 0, slots := 0, locals := 20 } [.long (Int64.ofInt x0), .int (Int32.ofInt x2)] D (TYs k) [] (fun _ => True) Unit (fun v _ => v = Int64.ofInt r) (fun _ => []) 0 0 := by
  intro sz
  refine x_met (cc := cX8_longer) (maxL := 3) (ret := (some .long)) (by decide) rfl (Nat.le_of_ble_eq_true rfl) ?_
  intro p e s m below meth c ls C hX hsz hr hlk hmn hl h
  have hl : lv_has ls 3 [(0, .long (Int64.ofInt x0)), (2, .int (Int32.ofInt x2))] := hl
  rw [Sc_longer] at hm
  refine lv_lload_n C.1 C.2.1 dX8_longer_0 rfl (lv_at hl 0 rfl) ?_
  refine lv_ldc2 (v := 37) C.1 C.2.1 C.2.2.2.1 (C.2.2.1 _ (List.mem_cons_of_mem _ wk_X8_80)) dX8_longer_1 ?_
  refine x_topl (y := Int64.ofInt 37) (by decide) ?_
  refine z_lmul C dX8_longer_4 ?_
  refine lv_iload_n C.1 C.2.1 dX8_longer_5 rfl (lv_at hl 1 rfl) ?_
  obtain ⟨r1, e2, hm⟩ := obd_s hm
  refine v_callSi C h (kc_Sc_isDigit l D k N x2 r1 e2) (v_cwS 1 C.2.2.1 (gC_X8_isDigit _) rfl rfl rfl (C.2.2.1 _ (List.mem_cons_of_mem _ wt_X8)) (C.2.2.1 _ (List.mem_cons_of_mem _ wm_X8_65)) (C.2.2.1 _ (List.mem_cons_of_mem _ ws_X8_isDigit)) hdS_X8_isDigit ⟨Nat.le_of_ble_eq_true rfl, Nat.le_of_ble_eq_true rfl⟩) rfl hl.1 rfl (Nat.le_of_ble_eq_true rfl) dX8_longer_6 ⟨(Nat.le_of_ble_eq_true rfl), (Nat.le_of_ble_eq_true rfl)⟩ (fun H locs h => ?_)
  obtain ⟨g3, hm⟩ := grd_s hm
  refine z_if_eq (tgt := 22) C dX8_longer_9 (by decide) g3 (fun c4 => ?_) (fun c4 => ?_)
  · have hm := ite_t c4 hm
    refine lv_iload_n C.1 C.2.1 dX8_longer_22 rfl (lv_at hl 1 rfl) ?_
    refine lv_bipush (v := Int32.ofInt 97) C.1 C.2.1 dX8_longer_23 (by decide) ?_
    refine z_isub C dX8_longer_25 ?_
    refine lv_iconst (v := Int32.ofInt 1) C.1 C.2.1 dX8_longer_26 (by decide) ?_
    refine z_iadd C dX8_longer_27 ?_
    exact kl_Sc_longer_28 (N := N) C hr hlk (lv_sub hl [] rfl) h hm
  · have hm := ite_f c4 hm
    refine lv_iload_n C.1 C.2.1 dX8_longer_12 rfl (lv_at hl 1 rfl) ?_
    refine lv_bipush (v := Int32.ofInt 48) C.1 C.2.1 dX8_longer_13 (by decide) ?_
    refine z_isub C dX8_longer_15 ?_
    refine lv_bipush (v := Int32.ofInt 27) C.1 C.2.1 dX8_longer_16 (by decide) ?_
    refine z_iadd C dX8_longer_18 ?_
    refine lv_goto (tgt := 28) C.1 C.2.1 dX8_longer_19 (by decide) ?_
    exact kl_Sc_longer_28 (N := N) C hr hlk (lv_sub hl [] rfl) h hm
end Z_Sc_longer
section Z_Sc_scanName
variable {p : Program} {l : Launch} {e : Env} {s : State} {m : MethodId} {args : Array Value} {below : List Frame} {meth : Method} {c : Code} {D : va_G} {A : Nat → Prop} {k : Nat → ClassId} {N : Nat} {cd : Cond} {z mi : Nat} {aK aV : Nat → Nat} {g : Nat → Nat} {π : Sh}
set_option maxHeartbeats 8000000 in
set_option maxRecDepth 100000 in
theorem kl_Sc_scanName_42 {r : St} (C : Cx p s m args c cX8_scanName RX8 (cd :: cWd) D (TYs k) 2) (hr : meth.sig.returnType = none) (hlk : meth.locks = false) (hE : Ev z mi aK aV A s s.heap) (hS : SHs π)   {rec10 : St → Int → Option St} (hrec10 : ∀ {ls : Array Slot} {H : Heap} {locs : List Loc} {σ : St} {x1 : Int}, lv_has ls 2 [(0, rfv g 1), (1, .int (Int32.ofInt x1))] → Hp D A s.heap H locs (cW k z g π σ) → rec10 σ x1 = some r → W p l e { frames := 2, cells := 0, slots := 0, locals := 42 } s m args below meth c H locs 0 0 (MQ below (va_Qv (fun (_ : Unit) => True) (fun _ t => PostW D (TYs k) A (cW k z g π r) t) A) args s 0 0 A) (F0 m 10 ls [])) {ls : Array Slot} {H : Heap} {locs : List Loc} {σ : St} {x1 : Int}  (hl : lv_has ls 2 [(0, rfv g 1), (1, .int (Int32.ofInt x1))]) (h : Hp D A s.heap H locs (cW k z g π σ)) (hm : Sc_scanName_42 N π rec10 σ x1 = some r) : W p l e { frames := 2, cells := 0, slots := 0, locals := 42 } s m args below meth c H locs 0 0 (MQ below (va_Qv (fun (_ : Unit) => True) (fun _ t => PostW D (TYs k) A (cW k z g π r) t) A) args s 0 0 A) (F0 m 42 ls []) := by
  rw [Sc_scanName_42] at hm
  refine z_aload_n C dX8_scanName_42 rfl (lv_at hl 0 rfl) ?_
  refine z_aload_n C dX8_scanName_43 rfl (lv_at hl 0 rfl) ?_
  refine cg_9_8 C h (sh_1 hS) cU_X8 (List.mem_cons_of_mem _ wl_X8_37) dX8_scanName_44 ?_
  refine z_aload_n C dX8_scanName_47 rfl (lv_at hl 0 rfl) ?_
  refine cg_9_0 C h (sh_1 hS) cU_X8 (List.mem_cons_of_mem _ wl_X8_9) dX8_scanName_48 ?_
  refine lv_iload_n C.1 C.2.1 dX8_scanName_51 rfl (lv_at hl 1 rfl) ?_
  obtain ⟨g15, hm⟩ := grd_s hm
  refine c_bald C h (sh_2 hS) (ina_inb (n := 2000) (sl_2 hS) (Nat.le_of_ble_eq_true rfl) g15) dX8_scanName_52 ?_
  obtain ⟨r16, e17, hm⟩ := obd_s hm
  refine v_callSl C h (kc_Sc_longer l D k N (fl σ 188 1) (el σ 2 x1) r16 e17) (v_cwS 2 C.2.2.1 (gC_X8_longer _) rfl rfl rfl (C.2.2.1 _ (List.mem_cons_of_mem _ wt_X8)) (C.2.2.1 _ (List.mem_cons_of_mem _ wm_X8_82)) (C.2.2.1 _ (List.mem_cons_of_mem _ ws_X8_longer)) hdS_X8_longer ⟨Nat.le_of_ble_eq_true rfl, Nat.le_of_ble_eq_true rfl⟩) rfl hl.1 rfl (by simp [rfv_cat, cat_i, cat_l]) dX8_scanName_53 ⟨(Nat.le_of_ble_eq_true rfl), (Nat.le_of_ble_eq_true rfl)⟩ (fun H locs h => ?_)
  refine cp_9_8 C h (sh_1 hS) cU_X8 (List.mem_cons_of_mem _ wl_X8_37) dX8_scanName_56 (fun H locs h => ?_)
  refine lv_iinc (v := Int32.ofInt (x1 + 1)) (lv' := [(1, .int (Int32.ofInt (x1 + 1))), (0, rfv g 1)]) C.1 C.2.1 dX8_scanName_59 hl (k := 1) rfl (c32_add _ _) (by decide) (by simp [rfv_cat, cat_i, cat_l]) (fun ls hl => ?_)
  refine lv_goto (tgt := 10) C.1 C.2.1 dX8_scanName_62 (by decide) ?_
  exact hrec10 (lv_sub hl [1, 0] rfl) h hm
set_option maxHeartbeats 8000000 in
set_option maxRecDepth 100000 in
theorem kl_Sc_scanName_87 {r : St} (C : Cx p s m args c cX8_scanName RX8 (cd :: cWd) D (TYs k) 2) (hr : meth.sig.returnType = none) (hlk : meth.locks = false) (hE : Ev z mi aK aV A s s.heap) (hS : SHs π)    {ls : Array Slot} {H : Heap} {locs : List Loc} {σ : St} {s0 : Int}  (hl : lv_has ls 2 []) (h : Hp D A s.heap H locs (cW k z g π σ)) (hm : Sc_scanName_87 N π σ s0 = some r) : W p l e { frames := 2, cells := 0, slots := 0, locals := 42 } s m args below meth c H locs 0 0 (MQ below (va_Qv (fun (_ : Unit) => True) (fun _ t => PostW D (TYs k) A (cW k z g π r) t) A) args s 0 0 A) (F0 m 87 ls [.int (Int32.ofInt s0), rfv g 1]) := by
  rw [Sc_scanName_87] at hm
  refine cp_9_5 C h (sh_1 hS) cU_X8 (List.mem_cons_of_mem _ wl_X8_28) dX8_scanName_87 (fun H locs h => ?_)
  cases hm
  exact c_vretP C h hr hlk dX8_scanName_90
set_option maxHeartbeats 8000000 in
set_option maxRecDepth 100000 in
theorem kl_Sc_scanName_65 {r : St} (C : Cx p s m args c cX8_scanName RX8 (cd :: cWd) D (TYs k) 2) (hr : meth.sig.returnType = none) (hlk : meth.locks = false) (hE : Ev z mi aK aV A s s.heap) (hS : SHs π)    {ls : Array Slot} {H : Heap} {locs : List Loc} {σ : St} {x1 : Int}  (hl : lv_has ls 2 [(0, rfv g 1), (1, .int (Int32.ofInt x1))]) (h : Hp D A s.heap H locs (cW k z g π σ)) (hm : Sc_scanName_65 N π σ x1 = some r) : W p l e { frames := 2, cells := 0, slots := 0, locals := 42 } s m args below meth c H locs 0 0 (MQ below (va_Qv (fun (_ : Unit) => True) (fun _ t => PostW D (TYs k) A (cW k z g π r) t) A) args s 0 0 A) (F0 m 65 ls []) := by
  rw [Sc_scanName_65] at hm
  refine z_aload_n C dX8_scanName_65 rfl (lv_at hl 0 rfl) ?_
  refine lv_iload_n C.1 C.2.1 dX8_scanName_66 rfl (lv_at hl 1 rfl) ?_
  refine cp_9_7 C h (sh_1 hS) cU_X8 (List.mem_cons_of_mem _ wl_X8_34) dX8_scanName_67 (fun H locs h => ?_)
  refine z_aload_n C dX8_scanName_70 rfl (lv_at hl 0 rfl) ?_
  refine lv_iload_n C.1 C.2.1 dX8_scanName_71 rfl (lv_at hl 1 rfl) ?_
  refine z_aload_n C dX8_scanName_72 rfl (lv_at hl 0 rfl) ?_
  refine cg_9_6 C h (sh_1 hS) cU_X8 (List.mem_cons_of_mem _ wl_X8_31) dX8_scanName_73 ?_
  refine x_topi (y := Int32.ofInt (fl σ 186 1)) rfl ?_
  refine z_isub C dX8_scanName_76 ?_
  refine lv_bipush (v := Int32.ofInt 12) C.1 C.2.1 dX8_scanName_77 (by decide) ?_
  obtain ⟨g13, hm⟩ := grd_s hm
  refine z_icmp_le (tgt := 86) C dX8_scanName_79 (by decide) g13 (by decide) (fun c14 => ?_) (fun c14 => ?_)
  · have hm := ite_f c14 hm
    refine lv_iconst (v := Int32.ofInt 1) C.1 C.2.1 dX8_scanName_86 (by decide) ?_
    exact kl_Sc_scanName_87 (N := N) C hr hlk hE hS (lv_sub hl [] rfl) h hm
  · have hm := ite_t c14 hm
    refine lv_iconst (v := Int32.ofInt 5) C.1 C.2.1 dX8_scanName_82 (by decide) ?_
    refine lv_goto (tgt := 87) C.1 C.2.1 dX8_scanName_83 (by decide) ?_
    exact kl_Sc_scanName_87 (N := N) C hr hlk hE hS (lv_sub hl [] rfl) h hm
set_option maxHeartbeats 8000000 in
set_option maxRecDepth 100000 in
theorem kl_Sc_scanName_10 {r : St} (C : Cx p s m args c cX8_scanName RX8 (cd :: cWd) D (TYs k) 2) (hr : meth.sig.returnType = none) (hlk : meth.locks = false) (hE : Ev z mi aK aV A s s.heap) (hS : SHs π)    (n : Nat) : ∀ {ls : Array Slot} {H : Heap} {locs : List Loc} {σ : St} {x1 : Int}, lv_has ls 2 [(0, rfv g 1), (1, .int (Int32.ofInt x1))] → Hp D A s.heap H locs (cW k z g π σ) → Sc_scanName_10 N π n σ x1 = some r → W p l e { frames := 2, cells := 0, slots := 0, locals := 42 } s m args below meth c H locs 0 0 (MQ below (va_Qv (fun (_ : Unit) => True) (fun _ t => PostW D (TYs k) A (cW k z g π r) t) A) args s 0 0 A) (F0 m 10 ls []) := by
  induction n with
  | zero => intro ls H locs σ x1  hl h hm; cases (show none = some r from hm)
  | succ n hrec10 =>
    intro ls H locs σ x1  hl h hm
    rw [Sc_scanName_10] at hm
    refine lv_iload_n C.1 C.2.1 dX8_scanName_10 rfl (lv_at hl 1 rfl) ?_
    refine z_aload_n C dX8_scanName_11 rfl (lv_at hl 0 rfl) ?_
    refine cg_9_1 C h (sh_1 hS) cU_X8 (List.mem_cons_of_mem _ wl_X8_15) dX8_scanName_12 ?_
    obtain ⟨g1, hm⟩ := grd_s hm
    obtain ⟨g2, hm⟩ := grd_s hm
    refine z_icmp_ge (tgt := 65) C dX8_scanName_15 (by decide) g1 g2 (fun c3 => ?_) (fun c3 => ?_)
    · have hm := ite_f c3 hm
      exact kl_Sc_scanName_65 (N := N) C hr hlk hE hS (lv_sub hl [0, 1] rfl) h hm
    · have hm := ite_t c3 hm
      refine z_aload_n C dX8_scanName_18 rfl (lv_at hl 0 rfl) ?_
      refine cg_9_0 C h (sh_1 hS) cU_X8 (List.mem_cons_of_mem _ wl_X8_9) dX8_scanName_19 ?_
      refine lv_iload_n C.1 C.2.1 dX8_scanName_22 rfl (lv_at hl 1 rfl) ?_
      obtain ⟨g4, hm⟩ := grd_s hm
      refine c_bald C h (sh_2 hS) (ina_inb (n := 2000) (sl_2 hS) (Nat.le_of_ble_eq_true rfl) g4) dX8_scanName_23 ?_
      obtain ⟨r5, e6, hm⟩ := obd_s hm
      refine v_callSi C h (kc_Sc_isLetter l D k N (el σ 2 x1) r5 e6) (v_cwS 1 C.2.2.1 (gC_X8_isLetter _) rfl rfl rfl (C.2.2.1 _ (List.mem_cons_of_mem _ wt_X8)) (C.2.2.1 _ (List.mem_cons_of_mem _ wm_X8_58)) (C.2.2.1 _ (List.mem_cons_of_mem _ ws_X8_isLetter)) hdS_X8_isLetter ⟨Nat.le_of_ble_eq_true rfl, Nat.le_of_ble_eq_true rfl⟩) rfl hl.1 rfl (Nat.le_of_ble_eq_true rfl) dX8_scanName_24 ⟨(Nat.le_of_ble_eq_true rfl), (Nat.le_of_ble_eq_true rfl)⟩ (fun H locs h => ?_)
      obtain ⟨g7, hm⟩ := grd_s hm
      refine z_if_ne (tgt := 42) C dX8_scanName_27 (by decide) g7 (fun c8 => ?_) (fun c8 => ?_)
      · have hm := ite_f c8 hm
        exact kl_Sc_scanName_42 (N := N) C hr hlk hE hS hrec10 (lv_sub hl [0, 1] rfl) h hm
      · have hm := ite_t c8 hm
        refine z_aload_n C dX8_scanName_30 rfl (lv_at hl 0 rfl) ?_
        refine cg_9_0 C h (sh_1 hS) cU_X8 (List.mem_cons_of_mem _ wl_X8_9) dX8_scanName_31 ?_
        refine lv_iload_n C.1 C.2.1 dX8_scanName_34 rfl (lv_at hl 1 rfl) ?_
        refine c_bald C h (sh_2 hS) (ina_inb (n := 2000) (sl_2 hS) (Nat.le_of_ble_eq_true rfl) g4) dX8_scanName_35 ?_
        obtain ⟨r9, e10, hm⟩ := obd_s hm
        refine v_callSi C h (kc_Sc_isDigit l D k N (el σ 2 x1) r9 e10) (v_cwS 1 C.2.2.1 (gC_X8_isDigit _) rfl rfl rfl (C.2.2.1 _ (List.mem_cons_of_mem _ wt_X8)) (C.2.2.1 _ (List.mem_cons_of_mem _ wm_X8_65)) (C.2.2.1 _ (List.mem_cons_of_mem _ ws_X8_isDigit)) hdS_X8_isDigit ⟨Nat.le_of_ble_eq_true rfl, Nat.le_of_ble_eq_true rfl⟩) rfl hl.1 rfl (Nat.le_of_ble_eq_true rfl) dX8_scanName_36 ⟨(Nat.le_of_ble_eq_true rfl), (Nat.le_of_ble_eq_true rfl)⟩ (fun H locs h => ?_)
        obtain ⟨g11, hm⟩ := grd_s hm
        refine z_if_eq (tgt := 65) C dX8_scanName_39 (by decide) g11 (fun c12 => ?_) (fun c12 => ?_)
        · have hm := ite_t c12 hm
          exact kl_Sc_scanName_65 (N := N) C hr hlk hE hS (lv_sub hl [0, 1] rfl) h hm
        · have hm := ite_f c12 hm
          exact kl_Sc_scanName_42 (N := N) C hr hlk hE hS hrec10 (lv_sub hl [0, 1] rfl) h hm
set_option maxHeartbeats 8000000 in
set_option maxRecDepth 100000 in
theorem kc_Sc_scanName (l : Launch) (D : va_G) (k : Nat → ClassId) (z mi : Nat) (aK aV : Nat → Nat) (g : Nat → Nat) (N : Nat)    {π : Sh} {σ : St}  {r : St} (hS : SHs π) (hm : Sc_scanName N π σ  = some r) : Mv l yX8_scanName (.code yX8_scanName cX8_scanName 2 none :: cWd) { frames := 2, cells := 0, slots := 0, locals := 42 } [rfv g 1] D (TYs k) (cW k z g π σ) (XV z mi aK aV (cW k z g π σ)) Unit (fun _ => True) (fun _ => cW k z g π r) 0 0 := by
  intro sz
  refine v_met (cc := cX8_scanName) (maxL := 2) (ret := none) (lv := [(0, rfv g 1)]) (by decide) rfl (by simp [lg_sl, rfv_cat, cat_i, cat_l]) (by simp [lv_args, rfv_cat, cat_i, cat_l]) ?_
  intro p e s m below meth c ls C hE hr hlk hmn hl h
  rw [Sc_scanName] at hm
  refine z_aload_n C dX8_scanName_0 rfl (lv_at hl 0 rfl) ?_
  refine lv_lconst (v := Int64.ofInt 0) C.1 C.2.1 dX8_scanName_1 (by decide) ?_
  refine cp_9_8 C h (sh_1 hS) cU_X8 (List.mem_cons_of_mem _ wl_X8_37) dX8_scanName_2 (fun H locs h => ?_)
  refine z_aload_n C dX8_scanName_5 rfl (lv_at hl 0 rfl) ?_
  refine cg_9_6 C h (sh_1 hS) cU_X8 (List.mem_cons_of_mem _ wl_X8_31) dX8_scanName_6 ?_
  refine x_topi (y := Int32.ofInt (fl σ 186 1)) rfl ?_
  refine lv_istore_n (i := 1) (lv' := [(1, .int (Int32.ofInt (fl σ 186 1))), (0, rfv g 1)]) C.1 C.2.1 dX8_scanName_9 rfl hl (by decide) (by simp [rfv_cat, cat_i, cat_l]) (fun ls hl => ?_)
  exact kl_Sc_scanName_10 (N := N) C hr hlk hE hS N (lv_sub hl [1, 0] rfl) h hm
end Z_Sc_scanName
section Z_Sc_scanText
variable {p : Program} {l : Launch} {e : Env} {s : State} {m : MethodId} {args : Array Value} {below : List Frame} {meth : Method} {c : Code} {D : va_G} {A : Nat → Prop} {k : Nat → ClassId} {N : Nat} {cd : Cond} {z mi : Nat} {aK aV : Nat → Nat} {g : Nat → Nat} {π : Sh}
set_option maxHeartbeats 8000000 in
set_option maxRecDepth 100000 in
theorem kl_Sc_scanText_87 {r : St} (C : Cx p s m args c cX8_scanText RX8 (cd :: cWd) D (TYs k) 3) (hr : meth.sig.returnType = none) (hlk : meth.locks = false) (hE : Ev z mi aK aV A s s.heap) (hS : SHs π)    {ls : Array Slot} {H : Heap} {locs : List Loc} {σ : St} {s0 : Int}  (hl : lv_has ls 3 []) (h : Hp D A s.heap H locs (cW k z g π σ)) (hm : Sc_scanText_87 N π σ s0 = some r) : W p l e { frames := 1, cells := 0, slots := 0, locals := 21 } s m args below meth c H locs 0 0 (MQ below (va_Qv (fun (_ : Unit) => True) (fun _ t => PostW D (TYs k) A (cW k z g π r) t) A) args s 0 0 A) (F0 m 87 ls [.int (Int32.ofInt s0), rfv g 1]) := by
  rw [Sc_scanText_87] at hm
  refine cp_9_5 C h (sh_1 hS) cU_X8 (List.mem_cons_of_mem _ wl_X8_28) dX8_scanText_87 (fun H locs h => ?_)
  cases hm
  exact c_vretP C h hr hlk dX8_scanText_90
set_option maxHeartbeats 8000000 in
set_option maxRecDepth 100000 in
theorem kl_Sc_scanText_69 {r : St} (C : Cx p s m args c cX8_scanText RX8 (cd :: cWd) D (TYs k) 3) (hr : meth.sig.returnType = none) (hlk : meth.locks = false) (hE : Ev z mi aK aV A s s.heap) (hS : SHs π)    {ls : Array Slot} {H : Heap} {locs : List Loc} {σ : St} {x1 : Int} {s0 : Int}  (hl : lv_has ls 3 [(0, rfv g 1), (1, .int (Int32.ofInt x1))]) (h : Hp D A s.heap H locs (cW k z g π σ)) (hm : Sc_scanText_69 N π σ x1 s0 = some r) : W p l e { frames := 1, cells := 0, slots := 0, locals := 21 } s m args below meth c H locs 0 0 (MQ below (va_Qv (fun (_ : Unit) => True) (fun _ t => PostW D (TYs k) A (cW k z g π r) t) A) args s 0 0 A) (F0 m 69 ls [.int (Int32.ofInt s0)]) := by
  rw [Sc_scanText_69] at hm
  refine lv_istore_n (lv' := [(2, .int (Int32.ofInt s0)), (0, rfv g 1), (1, .int (Int32.ofInt x1))]) C.1 C.2.1 dX8_scanText_69 rfl hl (by decide) rfl (fun ls hl => ?_)
  refine z_aload_n C dX8_scanText_70 rfl (lv_at hl 1 rfl) ?_
  refine lv_iload_n C.1 C.2.1 dX8_scanText_71 rfl (lv_at hl 2 rfl) ?_
  refine lv_iconst (v := Int32.ofInt 1) C.1 C.2.1 dX8_scanText_72 (by decide) ?_
  refine z_iadd C dX8_scanText_73 ?_
  refine cp_9_7 C h (sh_1 hS) cU_X8 (List.mem_cons_of_mem _ wl_X8_34) dX8_scanText_74 (fun H locs h => ?_)
  refine z_aload_n C dX8_scanText_77 rfl (lv_at hl 1 rfl) ?_
  refine lv_iload_n C.1 C.2.1 dX8_scanText_78 rfl (lv_at hl 0 rfl) ?_
  obtain ⟨g17, hm⟩ := grd_s hm
  refine z_if_eq (tgt := 86) C dX8_scanText_79 (by decide) g17 (fun c18 => ?_) (fun c18 => ?_)
  · have hm := ite_t c18 hm
    refine lv_iconst (v := Int32.ofInt 5) C.1 C.2.1 dX8_scanText_86 (by decide) ?_
    exact kl_Sc_scanText_87 (N := N) C hr hlk hE hS (lv_sub hl [] rfl) h hm
  · have hm := ite_f c18 hm
    refine lv_iconst (v := Int32.ofInt 4) C.1 C.2.1 dX8_scanText_82 (by decide) ?_
    refine lv_goto (tgt := 87) C.1 C.2.1 dX8_scanText_83 (by decide) ?_
    exact kl_Sc_scanText_87 (N := N) C hr hlk hE hS (lv_sub hl [] rfl) h hm
set_option maxHeartbeats 8000000 in
set_option maxRecDepth 100000 in
theorem kl_Sc_scanText_54 {r : St} (C : Cx p s m args c cX8_scanText RX8 (cd :: cWd) D (TYs k) 3) (hr : meth.sig.returnType = none) (hlk : meth.locks = false) (hE : Ev z mi aK aV A s s.heap) (hS : SHs π)    {ls : Array Slot} {H : Heap} {locs : List Loc} {σ : St} {x1 : Int}  (hl : lv_has ls 3 [(0, rfv g 1), (1, .int (Int32.ofInt x1))]) (h : Hp D A s.heap H locs (cW k z g π σ)) (hm : Sc_scanText_54 N π σ x1 = some r) : W p l e { frames := 1, cells := 0, slots := 0, locals := 21 } s m args below meth c H locs 0 0 (MQ below (va_Qv (fun (_ : Unit) => True) (fun _ t => PostW D (TYs k) A (cW k z g π r) t) A) args s 0 0 A) (F0 m 54 ls []) := by
  rw [Sc_scanText_54] at hm
  refine z_aload_n C dX8_scanText_54 rfl (lv_at hl 0 rfl) ?_
  refine lv_iload_n C.1 C.2.1 dX8_scanText_55 rfl (lv_at hl 1 rfl) ?_
  obtain ⟨r11, e12, hm⟩ := obd_s hm
  refine c_callViP C hE h (sh_1 hS) rfl (by decide) (kc_Sc_byteAt l D k z mi aK aV g N hS e12) (cwV 1 C.2.2.1 (gS_X8_54 _) rfl rfl rfl hd_X8_byteAt ⟨Nat.le_of_ble_eq_true rfl, Nat.le_of_ble_eq_true rfl⟩) rfl hl.1 rfl (Nat.le_of_ble_eq_true rfl) dX8_scanText_56 ⟨(Nat.le_of_ble_eq_true rfl), (Nat.le_of_ble_eq_true rfl)⟩ (fun H locs h => ?_)
  refine lv_bipush (v := Int32.ofInt 34) C.1 C.2.1 dX8_scanText_59 (by decide) ?_
  obtain ⟨g15, hm⟩ := grd_s hm
  refine z_icmp_ne (tgt := 68) C dX8_scanText_61 (by decide) g15 (by decide) (fun c16 => ?_) (fun c16 => ?_)
  · have hm := ite_f c16 hm
    refine lv_iconst (v := Int32.ofInt 0) C.1 C.2.1 dX8_scanText_68 (by decide) ?_
    exact kl_Sc_scanText_69 (N := N) C hr hlk hE hS (lv_sub hl [0, 1] rfl) h hm
  · have hm := ite_t c16 hm
    refine lv_iconst (v := Int32.ofInt 1) C.1 C.2.1 dX8_scanText_64 (by decide) ?_
    refine lv_goto (tgt := 69) C.1 C.2.1 dX8_scanText_65 (by decide) ?_
    exact kl_Sc_scanText_69 (N := N) C hr hlk hE hS (lv_sub hl [0, 1] rfl) h hm
set_option maxHeartbeats 8000000 in
set_option maxRecDepth 100000 in
theorem kl_Sc_scanText_7 {r : St} (C : Cx p s m args c cX8_scanText RX8 (cd :: cWd) D (TYs k) 3) (hr : meth.sig.returnType = none) (hlk : meth.locks = false) (hE : Ev z mi aK aV A s s.heap) (hS : SHs π)    (n : Nat) : ∀ {ls : Array Slot} {H : Heap} {locs : List Loc} {σ : St} {x1 : Int}, lv_has ls 3 [(0, rfv g 1), (1, .int (Int32.ofInt x1))] → Hp D A s.heap H locs (cW k z g π σ) → Sc_scanText_7 N π n σ x1 = some r → W p l e { frames := 1, cells := 0, slots := 0, locals := 21 } s m args below meth c H locs 0 0 (MQ below (va_Qv (fun (_ : Unit) => True) (fun _ t => PostW D (TYs k) A (cW k z g π r) t) A) args s 0 0 A) (F0 m 7 ls []) := by
  induction n with
  | zero => intro ls H locs σ x1  hl h hm; cases (show none = some r from hm)
  | succ n hrec7 =>
    intro ls H locs σ x1  hl h hm
    rw [Sc_scanText_7] at hm
    refine lv_iload_n C.1 C.2.1 dX8_scanText_7 rfl (lv_at hl 1 rfl) ?_
    refine z_aload_n C dX8_scanText_8 rfl (lv_at hl 0 rfl) ?_
    refine cg_9_1 C h (sh_1 hS) cU_X8 (List.mem_cons_of_mem _ wl_X8_15) dX8_scanText_9 ?_
    obtain ⟨g3, hm⟩ := grd_s hm
    obtain ⟨g4, hm⟩ := grd_s hm
    refine z_icmp_ge (tgt := 54) C dX8_scanText_12 (by decide) g3 g4 (fun c5 => ?_) (fun c5 => ?_)
    · have hm := ite_f c5 hm
      exact kl_Sc_scanText_54 (N := N) C hr hlk hE hS (lv_sub hl [0, 1] rfl) h hm
    · have hm := ite_t c5 hm
      refine z_aload_n C dX8_scanText_15 rfl (lv_at hl 0 rfl) ?_
      refine cg_9_0 C h (sh_1 hS) cU_X8 (List.mem_cons_of_mem _ wl_X8_9) dX8_scanText_16 ?_
      refine lv_iload_n C.1 C.2.1 dX8_scanText_19 rfl (lv_at hl 1 rfl) ?_
      obtain ⟨g6, hm⟩ := grd_s hm
      refine c_bald C h (sh_2 hS) (ina_inb (n := 2000) (sl_2 hS) (Nat.le_of_ble_eq_true rfl) g6) dX8_scanText_20 ?_
      refine lv_bipush (v := Int32.ofInt 32) C.1 C.2.1 dX8_scanText_21 (by decide) ?_
      obtain ⟨g7, hm⟩ := grd_s hm
      refine z_icmp_lt (tgt := 54) C dX8_scanText_23 (by decide) g7 (by decide) (fun c8 => ?_) (fun c8 => ?_)
      · have hm := ite_t c8 hm
        exact kl_Sc_scanText_54 (N := N) C hr hlk hE hS (lv_sub hl [0, 1] rfl) h hm
      · have hm := ite_f c8 hm
        refine z_aload_n C dX8_scanText_26 rfl (lv_at hl 0 rfl) ?_
        refine cg_9_0 C h (sh_1 hS) cU_X8 (List.mem_cons_of_mem _ wl_X8_9) dX8_scanText_27 ?_
        refine lv_iload_n C.1 C.2.1 dX8_scanText_30 rfl (lv_at hl 1 rfl) ?_
        refine c_bald C h (sh_2 hS) (ina_inb (n := 2000) (sl_2 hS) (Nat.le_of_ble_eq_true rfl) g6) dX8_scanText_31 ?_
        refine lv_bipush (v := Int32.ofInt 126) C.1 C.2.1 dX8_scanText_32 (by decide) ?_
        refine z_icmp_gt (tgt := 54) C dX8_scanText_34 (by decide) g7 (by decide) (fun c9 => ?_) (fun c9 => ?_)
        · have hm := ite_t c9 hm
          exact kl_Sc_scanText_54 (N := N) C hr hlk hE hS (lv_sub hl [0, 1] rfl) h hm
        · have hm := ite_f c9 hm
          refine z_aload_n C dX8_scanText_37 rfl (lv_at hl 0 rfl) ?_
          refine cg_9_0 C h (sh_1 hS) cU_X8 (List.mem_cons_of_mem _ wl_X8_9) dX8_scanText_38 ?_
          refine lv_iload_n C.1 C.2.1 dX8_scanText_41 rfl (lv_at hl 1 rfl) ?_
          refine c_bald C h (sh_2 hS) (ina_inb (n := 2000) (sl_2 hS) (Nat.le_of_ble_eq_true rfl) g6) dX8_scanText_42 ?_
          refine lv_bipush (v := Int32.ofInt 34) C.1 C.2.1 dX8_scanText_43 (by decide) ?_
          refine z_icmp_eq (tgt := 54) C dX8_scanText_45 (by decide) g7 (by decide) (fun c10 => ?_) (fun c10 => ?_)
          · have hm := ite_t c10 hm
            exact kl_Sc_scanText_54 (N := N) C hr hlk hE hS (lv_sub hl [0, 1] rfl) h hm
          · have hm := ite_f c10 hm
            refine lv_iinc (v := Int32.ofInt (x1 + 1)) (lv' := [(1, .int (Int32.ofInt (x1 + 1))), (0, rfv g 1)]) C.1 C.2.1 dX8_scanText_48 hl (k := 1) rfl (c32_add _ _) (by decide) (by simp [rfv_cat, cat_i, cat_l]) (fun ls hl => ?_)
            refine lv_goto (tgt := 7) C.1 C.2.1 dX8_scanText_51 (by decide) ?_
            exact hrec7 (lv_sub hl [1, 0] rfl) h hm
set_option maxHeartbeats 8000000 in
set_option maxRecDepth 100000 in
theorem kc_Sc_scanText (l : Launch) (D : va_G) (k : Nat → ClassId) (z mi : Nat) (aK aV : Nat → Nat) (g : Nat → Nat) (N : Nat)    {π : Sh} {σ : St}  {r : St} (hS : SHs π) (hm : Sc_scanText N π σ  = some r) : Mv l yX8_scanText (.code yX8_scanText cX8_scanText 3 none :: cWd) { frames := 1, cells := 0, slots := 0, locals := 21 } [rfv g 1] D (TYs k) (cW k z g π σ) (XV z mi aK aV (cW k z g π σ)) Unit (fun _ => True) (fun _ => cW k z g π r) 0 0 := by
  intro sz
  refine v_met (cc := cX8_scanText) (maxL := 3) (ret := none) (lv := [(0, rfv g 1)]) (by decide) rfl (by simp [lg_sl, rfv_cat, cat_i, cat_l]) (by simp [lv_args, rfv_cat, cat_i, cat_l]) ?_
  intro p e s m below meth c ls C hE hr hlk hmn hl h
  rw [Sc_scanText] at hm
  refine z_aload_n C dX8_scanText_0 rfl (lv_at hl 0 rfl) ?_
  refine cg_9_6 C h (sh_1 hS) cU_X8 (List.mem_cons_of_mem _ wl_X8_31) dX8_scanText_1 ?_
  refine lv_iconst (v := Int32.ofInt 1) C.1 C.2.1 dX8_scanText_4 (by decide) ?_
  refine z_iadd C dX8_scanText_5 ?_
  obtain ⟨v1, e2, hm⟩ := bnd_s hm
  rw [e2]
  refine lv_istore_n (i := 1) (lv' := [(1, .int (Int32.ofInt v1)), (0, rfv g 1)]) C.1 C.2.1 dX8_scanText_6 rfl hl (by decide) (by simp [rfv_cat, cat_i, cat_l]) (fun ls hl => ?_)
  exact kl_Sc_scanText_7 (N := N) C hr hlk hE hS N (lv_sub hl [1, 0] rfl) h hm
end Z_Sc_scanText
section Z_Sc_advance
variable {p : Program} {l : Launch} {e : Env} {s : State} {m : MethodId} {args : Array Value} {below : List Frame} {meth : Method} {c : Code} {D : va_G} {A : Nat → Prop} {k : Nat → ClassId} {N : Nat} {cd : Cond} {z mi : Nat} {aK aV : Nat → Nat} {g : Nat → Nat} {π : Sh}
set_option maxHeartbeats 8000000 in
set_option maxRecDepth 100000 in
theorem kl_Sc_advance_147 {r : St} (C : Cx p s m args c cX8_advance RX8 (cd :: cWd) D (TYs k) 2) (hr : meth.sig.returnType = none) (hlk : meth.locks = false) (hE : Ev z mi aK aV A s s.heap) (hS : SHs π)    {ls : Array Slot} {H : Heap} {locs : List Loc} {σ : St} {s0 : Int}  (hl : lv_has ls 2 []) (h : Hp D A s.heap H locs (cW k z g π σ)) (hm : Sc_advance_147 N π σ s0 = some r) : W p l e { frames := 3, cells := 0, slots := 0, locals := 67 } s m args below meth c H locs 0 0 (MQ below (va_Qv (fun (_ : Unit) => True) (fun _ t => PostW D (TYs k) A (cW k z g π r) t) A) args s 0 0 A) (F0 m 147 ls [.int (Int32.ofInt s0), rfv g 1]) := by
  rw [Sc_advance_147] at hm
  refine cp_9_5 C h (sh_1 hS) cU_X8 (List.mem_cons_of_mem _ wl_X8_28) dX8_advance_147 (fun H locs h => ?_)
  cases hm
  exact c_vretP C h hr hlk dX8_advance_150
set_option maxHeartbeats 8000000 in
set_option maxRecDepth 100000 in
theorem kl_Sc_advance_46 {r : St} (C : Cx p s m args c cX8_advance RX8 (cd :: cWd) D (TYs k) 2) (hr : meth.sig.returnType = none) (hlk : meth.locks = false) (hE : Ev z mi aK aV A s s.heap) (hS : SHs π)    {ls : Array Slot} {H : Heap} {locs : List Loc} {σ : St}   (hl : lv_has ls 2 [(0, rfv g 1)]) (h : Hp D A s.heap H locs (cW k z g π σ)) (hm : Sc_advance_46 N π σ  = some r) : W p l e { frames := 3, cells := 0, slots := 0, locals := 67 } s m args below meth c H locs 0 0 (MQ below (va_Qv (fun (_ : Unit) => True) (fun _ t => PostW D (TYs k) A (cW k z g π r) t) A) args s 0 0 A) (F0 m 46 ls []) := by
  rw [Sc_advance_46] at hm
  refine z_aload_n C dX8_advance_46 rfl (lv_at hl 0 rfl) ?_
  refine z_aload_n C dX8_advance_47 rfl (lv_at hl 0 rfl) ?_
  refine cg_9_6 C h (sh_1 hS) cU_X8 (List.mem_cons_of_mem _ wl_X8_31) dX8_advance_48 ?_
  refine lv_iconst (v := Int32.ofInt 1) C.1 C.2.1 dX8_advance_51 (by decide) ?_
  refine z_iadd C dX8_advance_52 ?_
  refine cp_9_7 C h (sh_1 hS) cU_X8 (List.mem_cons_of_mem _ wl_X8_34) dX8_advance_53 (fun H locs h => ?_)
  refine z_aload_n C dX8_advance_56 rfl (lv_at hl 0 rfl) ?_
  refine z_aload_n C dX8_advance_57 rfl (lv_at hl 0 rfl) ?_
  refine cg_9_6 C h (sh_1 hS) cU_X8 (List.mem_cons_of_mem _ wl_X8_31) dX8_advance_58 ?_
  refine x_topi (y := Int32.ofInt (fl σ 186 1)) rfl ?_
  obtain ⟨σ7, e8, hm⟩ := bnd_s hm
  rw [e8] at h
  obtain ⟨r10, e11, hm⟩ := obd_s hm
  refine c_callViP C hE h (sh_1 hS) rfl (by decide) (kc_Sc_byteAt l D k z mi aK aV g N hS e11) (cwV 1 C.2.2.1 (gS_X8_54 _) rfl rfl rfl hd_X8_byteAt ⟨Nat.le_of_ble_eq_true rfl, Nat.le_of_ble_eq_true rfl⟩) rfl hl.1 rfl (Nat.le_of_ble_eq_true rfl) dX8_advance_61 ⟨(Nat.le_of_ble_eq_true rfl), (Nat.le_of_ble_eq_true rfl)⟩ (fun H locs h => ?_)
  refine lv_istore_n (i := 1) (lv' := [(1, .int (Int32.ofInt r10.2)), (0, rfv g 1)]) C.1 C.2.1 dX8_advance_64 rfl hl (by decide) (by simp [rfv_cat, cat_i, cat_l]) (fun ls hl => ?_)
  refine z_aload_n C dX8_advance_65 rfl (lv_at hl 1 rfl) ?_
  refine cg_9_6 C h (sh_1 hS) cU_X8 (List.mem_cons_of_mem _ wl_X8_31) dX8_advance_66 ?_
  refine z_aload_n C dX8_advance_69 rfl (lv_at hl 1 rfl) ?_
  refine cg_9_1 C h (sh_1 hS) cU_X8 (List.mem_cons_of_mem _ wl_X8_15) dX8_advance_70 ?_
  obtain ⟨g14, hm⟩ := grd_s hm
  obtain ⟨g15, hm⟩ := grd_s hm
  refine z_icmp_lt (tgt := 93) C dX8_advance_73 (by decide) g14 g15 (fun c16 => ?_) (fun c16 => ?_)
  · have hm := ite_t c16 hm
    refine lv_iload_n C.1 C.2.1 dX8_advance_93 rfl (lv_at hl 0 rfl) ?_
    obtain ⟨r17, e18, hm⟩ := obd_s hm
    refine v_callSi C h (kc_Sc_isLetter l D k N r10.2 r17 e18) (v_cwS 1 C.2.2.1 (gC_X8_isLetter _) rfl rfl rfl (C.2.2.1 _ (List.mem_cons_of_mem _ wt_X8)) (C.2.2.1 _ (List.mem_cons_of_mem _ wm_X8_58)) (C.2.2.1 _ (List.mem_cons_of_mem _ ws_X8_isLetter)) hdS_X8_isLetter ⟨Nat.le_of_ble_eq_true rfl, Nat.le_of_ble_eq_true rfl⟩) rfl hl.1 rfl (Nat.le_of_ble_eq_true rfl) dX8_advance_94 ⟨(Nat.le_of_ble_eq_true rfl), (Nat.le_of_ble_eq_true rfl)⟩ (fun H locs h => ?_)
    obtain ⟨g19, hm⟩ := grd_s hm
    refine z_if_eq (tgt := 107) C dX8_advance_97 (by decide) g19 (fun c20 => ?_) (fun c20 => ?_)
    · have hm := ite_t c20 hm
      refine lv_iload_n C.1 C.2.1 dX8_advance_107 rfl (lv_at hl 0 rfl) ?_
      obtain ⟨r21, e22, hm⟩ := obd_s hm
      refine v_callSi C h (kc_Sc_isDigit l D k N r10.2 r21 e22) (v_cwS 1 C.2.2.1 (gC_X8_isDigit _) rfl rfl rfl (C.2.2.1 _ (List.mem_cons_of_mem _ wt_X8)) (C.2.2.1 _ (List.mem_cons_of_mem _ wm_X8_65)) (C.2.2.1 _ (List.mem_cons_of_mem _ ws_X8_isDigit)) hdS_X8_isDigit ⟨Nat.le_of_ble_eq_true rfl, Nat.le_of_ble_eq_true rfl⟩) rfl hl.1 rfl (Nat.le_of_ble_eq_true rfl) dX8_advance_108 ⟨(Nat.le_of_ble_eq_true rfl), (Nat.le_of_ble_eq_true rfl)⟩ (fun H locs h => ?_)
      obtain ⟨g23, hm⟩ := grd_s hm
      refine z_if_eq (tgt := 121) C dX8_advance_111 (by decide) g23 (fun c24 => ?_) (fun c24 => ?_)
      · have hm := ite_t c24 hm
        refine lv_iload_n C.1 C.2.1 dX8_advance_121 rfl (lv_at hl 0 rfl) ?_
        refine lv_bipush (v := Int32.ofInt 34) C.1 C.2.1 dX8_advance_122 (by decide) ?_
        obtain ⟨g25, hm⟩ := grd_s hm
        refine z_icmp_ne (tgt := 134) C dX8_advance_124 (by decide) g25 (by decide) (fun c26 => ?_) (fun c26 => ?_)
        · have hm := ite_f c26 hm
          refine z_aload_n C dX8_advance_134 rfl (lv_at hl 1 rfl) ?_
          refine lv_iload_n C.1 C.2.1 dX8_advance_135 rfl (lv_at hl 0 rfl) ?_
          obtain ⟨r27, e28, hm⟩ := obd_s hm
          refine v_callSi C h (kc_Sc_isSign l D k N r10.2 r27 e28) (v_cwS 1 C.2.2.1 (gC_X8_isSign _) rfl rfl rfl (C.2.2.1 _ (List.mem_cons_of_mem _ wt_X8)) (C.2.2.1 _ (List.mem_cons_of_mem _ wm_X8_74)) (C.2.2.1 _ (List.mem_cons_of_mem _ ws_X8_isSign)) hdS_X8_isSign ⟨Nat.le_of_ble_eq_true rfl, Nat.le_of_ble_eq_true rfl⟩) rfl hl.1 rfl (by simp [rfv_cat, cat_i, cat_l]) dX8_advance_136 ⟨(Nat.le_of_ble_eq_true rfl), (Nat.le_of_ble_eq_true rfl)⟩ (fun H locs h => ?_)
          obtain ⟨g29, hm⟩ := grd_s hm
          refine z_if_eq (tgt := 146) C dX8_advance_139 (by decide) g29 (fun c30 => ?_) (fun c30 => ?_)
          · have hm := ite_t c30 hm
            refine lv_iconst (v := Int32.ofInt 5) C.1 C.2.1 dX8_advance_146 (by decide) ?_
            exact kl_Sc_advance_147 (N := N) C hr hlk hE hS (lv_sub hl [] rfl) h hm
          · have hm := ite_f c30 hm
            refine lv_iload_n C.1 C.2.1 dX8_advance_142 rfl (lv_at hl 0 rfl) ?_
            refine lv_goto (tgt := 147) C.1 C.2.1 dX8_advance_143 (by decide) ?_
            exact kl_Sc_advance_147 (N := N) C hr hlk hE hS (lv_sub hl [] rfl) h hm
        · have hm := ite_t c26 hm
          refine z_aload_n C dX8_advance_127 rfl (lv_at hl 1 rfl) ?_
          obtain ⟨r31, e32, hm⟩ := obd_s hm
          refine c_callVvP C hE h (sh_1 hS) rfl (by decide) (kc_Sc_scanText l D k z mi aK aV g N hS e32) (cwV 0 C.2.2.1 (gS_X8_71 _) rfl rfl rfl hd_X8_scanText ⟨Nat.le_of_ble_eq_true rfl, Nat.le_of_ble_eq_true rfl⟩) rfl hl.1 rfl (Nat.le_of_ble_eq_true rfl) dX8_advance_128 ⟨(Nat.le_of_ble_eq_true rfl), (Nat.le_of_ble_eq_true rfl)⟩ (fun H locs h => ?_)
          refine lv_goto (tgt := 150) C.1 C.2.1 dX8_advance_131 (by decide) ?_
          cases hm
          exact c_vretP C h hr hlk dX8_advance_150
      · have hm := ite_f c24 hm
        refine z_aload_n C dX8_advance_114 rfl (lv_at hl 1 rfl) ?_
        obtain ⟨r35, e36, hm⟩ := obd_s hm
        refine c_callVvP C hE h (sh_1 hS) rfl (by decide) (kc_Sc_scanCount l D k z mi aK aV g N hS e36) (cwV 0 C.2.2.1 (gS_X8_68 _) rfl rfl rfl hd_X8_scanCount ⟨Nat.le_of_ble_eq_true rfl, Nat.le_of_ble_eq_true rfl⟩) rfl hl.1 rfl (Nat.le_of_ble_eq_true rfl) dX8_advance_115 ⟨(Nat.le_of_ble_eq_true rfl), (Nat.le_of_ble_eq_true rfl)⟩ (fun H locs h => ?_)
        refine lv_goto (tgt := 150) C.1 C.2.1 dX8_advance_118 (by decide) ?_
        cases hm
        exact c_vretP C h hr hlk dX8_advance_150
    · have hm := ite_f c20 hm
      refine z_aload_n C dX8_advance_100 rfl (lv_at hl 1 rfl) ?_
      obtain ⟨r39, e40, hm⟩ := obd_s hm
      refine c_callVvP C hE h (sh_1 hS) rfl (by decide) (kc_Sc_scanName l D k z mi aK aV g N hS e40) (cwV 0 C.2.2.1 (gS_X8_62 _) rfl rfl rfl hd_X8_scanName ⟨Nat.le_of_ble_eq_true rfl, Nat.le_of_ble_eq_true rfl⟩) rfl hl.1 rfl (Nat.le_of_ble_eq_true rfl) dX8_advance_101 ⟨(Nat.le_of_ble_eq_true rfl), (Nat.le_of_ble_eq_true rfl)⟩ (fun H locs h => ?_)
      refine lv_goto (tgt := 150) C.1 C.2.1 dX8_advance_104 (by decide) ?_
      cases hm
      exact c_vretP C h hr hlk dX8_advance_150
  · have hm := ite_f c16 hm
    refine z_aload_n C dX8_advance_76 rfl (lv_at hl 1 rfl) ?_
    refine lv_bipush (v := Int32.ofInt 6) C.1 C.2.1 dX8_advance_77 (by decide) ?_
    refine cp_9_5 C h (sh_1 hS) cU_X8 (List.mem_cons_of_mem _ wl_X8_28) dX8_advance_79 (fun H locs h => ?_)
    refine z_aload_n C dX8_advance_82 rfl (lv_at hl 1 rfl) ?_
    refine z_aload_n C dX8_advance_83 rfl (lv_at hl 1 rfl) ?_
    refine cg_9_6 C h (sh_1 hS) cU_X8 (List.mem_cons_of_mem _ wl_X8_31) dX8_advance_84 ?_
    refine x_topi (y := Int32.ofInt (fl r10.1 186 1)) rfl ?_
    refine cp_9_7 C h (sh_1 hS) cU_X8 (List.mem_cons_of_mem _ wl_X8_34) dX8_advance_87 (fun H locs h => ?_)
    refine lv_goto (tgt := 150) C.1 C.2.1 dX8_advance_90 (by decide) ?_
    cases hm
    exact c_vretP C h hr hlk dX8_advance_150
set_option maxHeartbeats 8000000 in
set_option maxRecDepth 100000 in
theorem kl_Sc_advance_8 {r : St} (C : Cx p s m args c cX8_advance RX8 (cd :: cWd) D (TYs k) 2) (hr : meth.sig.returnType = none) (hlk : meth.locks = false) (hE : Ev z mi aK aV A s s.heap) (hS : SHs π)    (n : Nat) : ∀ {ls : Array Slot} {H : Heap} {locs : List Loc} {σ : St} , lv_has ls 2 [(0, rfv g 1)] → Hp D A s.heap H locs (cW k z g π σ) → Sc_advance_8 N π n σ  = some r → W p l e { frames := 3, cells := 0, slots := 0, locals := 67 } s m args below meth c H locs 0 0 (MQ below (va_Qv (fun (_ : Unit) => True) (fun _ t => PostW D (TYs k) A (cW k z g π r) t) A) args s 0 0 A) (F0 m 8 ls []) := by
  induction n with
  | zero => intro ls H locs σ   hl h hm; cases (show none = some r from hm)
  | succ n hrec8 =>
    intro ls H locs σ   hl h hm
    rw [Sc_advance_8] at hm
    refine z_aload_n C dX8_advance_8 rfl (lv_at hl 0 rfl) ?_
    refine cg_9_6 C h (sh_1 hS) cU_X8 (List.mem_cons_of_mem _ wl_X8_31) dX8_advance_9 ?_
    refine z_aload_n C dX8_advance_12 rfl (lv_at hl 0 rfl) ?_
    refine cg_9_1 C h (sh_1 hS) cU_X8 (List.mem_cons_of_mem _ wl_X8_15) dX8_advance_13 ?_
    obtain ⟨g1, hm⟩ := grd_s hm
    obtain ⟨g2, hm⟩ := grd_s hm
    refine z_icmp_ge (tgt := 46) C dX8_advance_16 (by decide) g1 g2 (fun c3 => ?_) (fun c3 => ?_)
    · have hm := ite_f c3 hm
      exact kl_Sc_advance_46 (N := N) C hr hlk hE hS (lv_sub hl [0] rfl) h hm
    · have hm := ite_t c3 hm
      refine z_aload_n C dX8_advance_19 rfl (lv_at hl 0 rfl) ?_
      refine cg_9_0 C h (sh_1 hS) cU_X8 (List.mem_cons_of_mem _ wl_X8_9) dX8_advance_20 ?_
      refine z_aload_n C dX8_advance_23 rfl (lv_at hl 0 rfl) ?_
      refine cg_9_6 C h (sh_1 hS) cU_X8 (List.mem_cons_of_mem _ wl_X8_31) dX8_advance_24 ?_
      obtain ⟨g4, hm⟩ := grd_s hm
      refine c_bald C h (sh_2 hS) (ina_inb (n := 2000) (sl_2 hS) (Nat.le_of_ble_eq_true rfl) g4) dX8_advance_27 ?_
      refine lv_bipush (v := Int32.ofInt 32) C.1 C.2.1 dX8_advance_28 (by decide) ?_
      obtain ⟨g5, hm⟩ := grd_s hm
      refine z_icmp_ne (tgt := 46) C dX8_advance_30 (by decide) g5 (by decide) (fun c6 => ?_) (fun c6 => ?_)
      · have hm := ite_f c6 hm
        exact kl_Sc_advance_46 (N := N) C hr hlk hE hS (lv_sub hl [0] rfl) h hm
      · have hm := ite_t c6 hm
        refine z_aload_n C dX8_advance_33 rfl (lv_at hl 0 rfl) ?_
        refine lv_dup C.1 C.2.1 dX8_advance_34 (rfv_cat _ _) ?_
        refine cg_9_6 C h (sh_1 hS) cU_X8 (List.mem_cons_of_mem _ wl_X8_31) dX8_advance_35 ?_
        refine lv_iconst (v := Int32.ofInt 1) C.1 C.2.1 dX8_advance_38 (by decide) ?_
        refine z_iadd C dX8_advance_39 ?_
        refine cp_9_6 C h (sh_1 hS) cU_X8 (List.mem_cons_of_mem _ wl_X8_31) dX8_advance_40 (fun H locs h => ?_)
        refine lv_goto (tgt := 8) C.1 C.2.1 dX8_advance_43 (by decide) ?_
        exact hrec8 (lv_sub hl [0] rfl) h hm
set_option maxHeartbeats 8000000 in
set_option maxRecDepth 100000 in
theorem kc_Sc_advance (l : Launch) (D : va_G) (k : Nat → ClassId) (z mi : Nat) (aK aV : Nat → Nat) (g : Nat → Nat) (N : Nat)    {π : Sh} {σ : St}  {r : St} (hS : SHs π) (hm : Sc_advance N π σ  = some r) : Mv l yX8_advance (.code yX8_advance cX8_advance 2 none :: cWd) { frames := 3, cells := 0, slots := 0, locals := 67 } [rfv g 1] D (TYs k) (cW k z g π σ) (XV z mi aK aV (cW k z g π σ)) Unit (fun _ => True) (fun _ => cW k z g π r) 0 0 := by
  intro sz
  refine v_met (cc := cX8_advance) (maxL := 2) (ret := none) (lv := [(0, rfv g 1)]) (by decide) rfl (by simp [lg_sl, rfv_cat, cat_i, cat_l]) (by simp [lv_args, rfv_cat, cat_i, cat_l]) ?_
  intro p e s m below meth c ls C hE hr hlk hmn hl h
  rw [Sc_advance] at hm
  refine z_aload_n C dX8_advance_0 rfl (lv_at hl 0 rfl) ?_
  refine z_aload_n C dX8_advance_1 rfl (lv_at hl 0 rfl) ?_
  refine cg_9_7 C h (sh_1 hS) cU_X8 (List.mem_cons_of_mem _ wl_X8_34) dX8_advance_2 ?_
  refine cp_9_6 C h (sh_1 hS) cU_X8 (List.mem_cons_of_mem _ wl_X8_31) dX8_advance_5 (fun H locs h => ?_)
  exact kl_Sc_advance_8 (N := N) C hr hlk hE hS N (lv_sub hl [0] rfl) h hm
end Z_Sc_advance
section Z_Rd_count
variable {p : Program} {l : Launch} {e : Env} {s : State} {m : MethodId} {args : Array Value} {below : List Frame} {meth : Method} {c : Code} {D : va_G} {A : Nat → Prop} {k : Nat → ClassId} {N : Nat} {cd : Cond} {z mi : Nat} {aK aV : Nat → Nat} {g : Nat → Nat} {π : Sh}
set_option maxHeartbeats 8000000 in
set_option maxRecDepth 100000 in
theorem kl_Rd_count_31 {r : St} (C : Cx p s m args c cX6_count RX6 (cd :: cWd) D (TYs k) 6) (hr : meth.sig.returnType = none) (hlk : meth.locks = false) (hE : Ev z mi aK aV A s s.heap) (hS : SHs π)    {ls : Array Slot} {H : Heap} {locs : List Loc} {σ : St} {s0 : Int}  (hl : lv_has ls 6 [(0, rfv g 44)]) (h : Hp D A s.heap H locs (cW k z g π σ)) (hm : Rd_count_31 N π σ s0 = some r) : W p l e { frames := 4, cells := 0, slots := 0, locals := 88 } s m args below meth c H locs 0 0 (MQ below (va_Qv (fun (_ : Unit) => True) (fun _ t => PostW D (TYs k) A (cW k z g π r) t) A) args s 0 0 A) (F0 m 31 ls [.int (Int32.ofInt s0), rfv g 1]) := by
  rw [Rd_count_31] at hm
  refine z_aload_n C dX6_count_31 rfl (lv_at hl 0 rfl) ?_
  refine cg_7_0 C h (sh_44 hS) cU_X6 (List.mem_cons_of_mem _ wl_X6_31) dX6_count_32 ?_
  refine cg_9_6 C h (sh_1 hS) cU_X8 (List.mem_cons_of_mem _ wl_X6_81) dX6_count_35 ?_
  obtain ⟨r16, e17, hm⟩ := obd_s hm
  refine c_callVvP C hE h (sh_1 hS) rfl (by decide) (kc_Sc_fail l D k z mi aK aV g N hS e17) (cwV 2 C.2.2.1 (gS_X6_84 _) rfl rfl rfl hd_X8_fail ⟨Nat.le_of_ble_eq_true rfl, Nat.le_of_ble_eq_true rfl⟩) rfl hl.1 rfl (Nat.le_of_ble_eq_true rfl) dX6_count_38 ⟨(Nat.le_of_ble_eq_true rfl), (Nat.le_of_ble_eq_true rfl)⟩ (fun H locs h => ?_)
  cases hm
  exact c_vretP C h hr hlk dX6_count_41
set_option maxHeartbeats 8000000 in
set_option maxRecDepth 100000 in
theorem kl_Rd_count_140 {r : St} (C : Cx p s m args c cX6_count RX6 (cd :: cWd) D (TYs k) 6) (hr : meth.sig.returnType = none) (hlk : meth.locks = false) (hE : Ev z mi aK aV A s s.heap) (hS : SHs π)    {ls : Array Slot} {H : Heap} {locs : List Loc} {σ : St}   (hl : lv_has ls 6 [(0, rfv g 44)]) (h : Hp D A s.heap H locs (cW k z g π σ)) (hm : Rd_count_140 N π σ  = some r) : W p l e { frames := 4, cells := 0, slots := 0, locals := 88 } s m args below meth c H locs 0 0 (MQ below (va_Qv (fun (_ : Unit) => True) (fun _ t => PostW D (TYs k) A (cW k z g π r) t) A) args s 0 0 A) (F0 m 140 ls []) := by
  rw [Rd_count_140] at hm
  refine z_aload_n C dX6_count_140 rfl (lv_at hl 0 rfl) ?_
  refine cg_7_0 C h (sh_44 hS) cU_X6 (List.mem_cons_of_mem _ wl_X6_31) dX6_count_141 ?_
  refine lv_iconst (v := Int32.ofInt 3) C.1 C.2.1 dX6_count_144 (by decide) ?_
  refine z_aload_n C dX6_count_145 rfl (lv_at hl 0 rfl) ?_
  refine cg_7_0 C h (sh_44 hS) cU_X6 (List.mem_cons_of_mem _ wl_X6_31) dX6_count_146 ?_
  refine cg_9_6 C h (sh_1 hS) cU_X8 (List.mem_cons_of_mem _ wl_X6_81) dX6_count_149 ?_
  obtain ⟨r28, e29, hm⟩ := obd_s hm
  refine c_callVvP C hE h (sh_1 hS) rfl (by decide) (kc_Sc_fail l D k z mi aK aV g N hS e29) (cwV 2 C.2.2.1 (gS_X6_84 _) rfl rfl rfl hd_X8_fail ⟨Nat.le_of_ble_eq_true rfl, Nat.le_of_ble_eq_true rfl⟩) rfl hl.1 rfl (Nat.le_of_ble_eq_true rfl) dX6_count_152 ⟨(Nat.le_of_ble_eq_true rfl), (Nat.le_of_ble_eq_true rfl)⟩ (fun H locs h => ?_)
  cases hm
  exact c_vretP C h hr hlk dX6_count_155
set_option maxHeartbeats 8000000 in
set_option maxRecDepth 100000 in
theorem kl_Rd_count_185 {r : St} (C : Cx p s m args c cX6_count RX6 (cd :: cWd) D (TYs k) 6) (hr : meth.sig.returnType = none) (hlk : meth.locks = false) (hE : Ev z mi aK aV A s s.heap) (hS : SHs π)    {ls : Array Slot} {H : Heap} {locs : List Loc} {σ : St}   (hl : lv_has ls 6 [(0, rfv g 44)]) (h : Hp D A s.heap H locs (cW k z g π σ)) (hm : Rd_count_185 N π σ  = some r) : W p l e { frames := 4, cells := 0, slots := 0, locals := 88 } s m args below meth c H locs 0 0 (MQ below (va_Qv (fun (_ : Unit) => True) (fun _ t => PostW D (TYs k) A (cW k z g π r) t) A) args s 0 0 A) (F0 m 185 ls []) := by
  rw [Rd_count_185] at hm
  refine z_aload_n C dX6_count_185 rfl (lv_at hl 0 rfl) ?_
  refine cg_7_0 C h (sh_44 hS) cU_X6 (List.mem_cons_of_mem _ wl_X6_31) dX6_count_186 ?_
  obtain ⟨r36, e37, hm⟩ := obd_s hm
  refine c_callVvP C hE h (sh_1 hS) rfl (by decide) (kc_Sc_advance l D k z mi aK aV g N hS e37) (cwV 0 C.2.2.1 (gS_X6_88 _) rfl rfl rfl hd_X8_advance ⟨Nat.le_of_ble_eq_true rfl, Nat.le_of_ble_eq_true rfl⟩) rfl hl.1 rfl (Nat.le_of_ble_eq_true rfl) dX6_count_189 ⟨(Nat.le_of_ble_eq_true rfl), (Nat.le_of_ble_eq_true rfl)⟩ (fun H locs h => ?_)
  cases hm
  exact c_vretP C h hr hlk dX6_count_192
set_option maxHeartbeats 8000000 in
set_option maxRecDepth 100000 in
theorem kl_Rd_count_156 {r : St} (C : Cx p s m args c cX6_count RX6 (cd :: cWd) D (TYs k) 6) (hr : meth.sig.returnType = none) (hlk : meth.locks = false) (hE : Ev z mi aK aV A s s.heap) (hS : SHs π)    {ls : Array Slot} {H : Heap} {locs : List Loc} {σ : St} {x1 : Int} {x2 : Int}  (hl : lv_has ls 6 [(0, rfv g 44), (1, rfv g x1), (2, .int (Int32.ofInt x2))]) (h : Hp D A s.heap H locs (cW k z g π σ)) (hm : Rd_count_156 N π σ x1 x2 = some r) : W p l e { frames := 4, cells := 0, slots := 0, locals := 88 } s m args below meth c H locs 0 0 (MQ below (va_Qv (fun (_ : Unit) => True) (fun _ t => PostW D (TYs k) A (cW k z g π r) t) A) args s 0 0 A) (F0 m 156 ls []) := by
  rw [Rd_count_156] at hm
  refine lv_iload_n C.1 C.2.1 dX6_count_156 rfl (lv_at hl 2 rfl) ?_
  obtain ⟨g32, hm⟩ := grd_s hm
  refine z_if_eq (tgt := 174) C dX6_count_157 (by decide) g32 (fun c33 => ?_) (fun c33 => ?_)
  · have hm := ite_t c33 hm
    refine z_aload_n C dX6_count_174 rfl (lv_at hl 1 rfl) ?_
    refine z_aload_n C dX6_count_175 rfl (lv_at hl 0 rfl) ?_
    refine cg_7_0 C h (sh_44 hS) cU_X6 (List.mem_cons_of_mem _ wl_X6_31) dX6_count_176 ?_
    refine cg_9_9 C h (sh_1 hS) cU_X8 (List.mem_cons_of_mem _ wl_X6_235) dX6_count_179 ?_
    obtain ⟨g34, hm⟩ := grd_s hm
    refine cp_6_3 C h g34 cU_X5 (List.mem_cons_of_mem _ wl_X6_241) dX6_count_182 (fun H locs h => ?_)
    exact kl_Rd_count_185 (N := N) C hr hlk hE hS (lv_sub hl [0] rfl) h hm
  · have hm := ite_f c33 hm
    refine z_aload_n C dX6_count_160 rfl (lv_at hl 1 rfl) ?_
    refine z_aload_n C dX6_count_161 rfl (lv_at hl 0 rfl) ?_
    refine cg_7_0 C h (sh_44 hS) cU_X6 (List.mem_cons_of_mem _ wl_X6_31) dX6_count_162 ?_
    refine cg_9_9 C h (sh_1 hS) cU_X8 (List.mem_cons_of_mem _ wl_X6_235) dX6_count_165 ?_
    obtain ⟨g35, hm⟩ := grd_s hm
    refine cp_6_2 C h g35 cU_X5 (List.mem_cons_of_mem _ wl_X6_244) dX6_count_168 (fun H locs h => ?_)
    refine lv_goto (tgt := 185) C.1 C.2.1 dX6_count_171 (by decide) ?_
    exact kl_Rd_count_185 (N := N) C hr hlk hE hS (lv_sub hl [0] rfl) h hm
set_option maxHeartbeats 8000000 in
set_option maxRecDepth 100000 in
theorem kl_Rd_count_111 {r : St} (C : Cx p s m args c cX6_count RX6 (cd :: cWd) D (TYs k) 6) (hr : meth.sig.returnType = none) (hlk : meth.locks = false) (hE : Ev z mi aK aV A s s.heap) (hS : SHs π)    {ls : Array Slot} {H : Heap} {locs : List Loc} {σ : St} {x1 : Int} {x2 : Int} {x4 : Int} {s0 : Int}  (hl : lv_has ls 6 [(0, rfv g 44), (1, rfv g x1), (2, .int (Int32.ofInt x2)), (4, .int (Int32.ofInt x4))]) (h : Hp D A s.heap H locs (cW k z g π σ)) (hm : Rd_count_111 N π σ x1 x2 x4 s0 = some r) : W p l e { frames := 4, cells := 0, slots := 0, locals := 88 } s m args below meth c H locs 0 0 (MQ below (va_Qv (fun (_ : Unit) => True) (fun _ t => PostW D (TYs k) A (cW k z g π r) t) A) args s 0 0 A) (F0 m 111 ls [.int (Int32.ofInt s0)]) := by
  rw [Rd_count_111] at hm
  refine lv_istore (lv' := [(5, .int (Int32.ofInt s0)), (0, rfv g 44), (1, rfv g x1), (2, .int (Int32.ofInt x2)), (4, .int (Int32.ofInt x4))]) C.1 C.2.1 dX6_count_111 hl (by decide) rfl (fun ls hl => ?_)
  refine z_aload_n C dX6_count_113 rfl (lv_at hl 1 rfl) ?_
  refine cg_7_0 C h (sh_44 hS) cU_X6 (List.mem_cons_of_mem _ wl_X6_31) dX6_count_114 ?_
  refine cg_9_9 C h (sh_1 hS) cU_X8 (List.mem_cons_of_mem _ wl_X6_235) dX6_count_117 ?_
  refine lv_iload C.1 C.2.1 dX6_count_120 (lv_at hl 0 rfl) ?_
  obtain ⟨g22, hm⟩ := grd_s hm
  obtain ⟨g23, hm⟩ := grd_s hm
  refine z_icmp_gt (tgt := 140) C dX6_count_122 (by decide) g22 g23 (fun c24 => ?_) (fun c24 => ?_)
  · have hm := ite_t c24 hm
    exact kl_Rd_count_140 (N := N) C hr hlk hE hS (lv_sub hl [1] rfl) h hm
  · have hm := ite_f c24 hm
    refine z_aload_n C dX6_count_125 rfl (lv_at hl 1 rfl) ?_
    refine cg_7_0 C h (sh_44 hS) cU_X6 (List.mem_cons_of_mem _ wl_X6_31) dX6_count_126 ?_
    refine cg_9_9 C h (sh_1 hS) cU_X8 (List.mem_cons_of_mem _ wl_X6_235) dX6_count_129 ?_
    refine z_if_ne (tgt := 156) C dX6_count_132 (by decide) g22 (fun c25 => ?_) (fun c25 => ?_)
    · have hm := ite_f c25 hm
      exact kl_Rd_count_156 (N := N) C hr hlk hE hS (lv_sub hl [1, 2, 3] rfl) h hm
    · have hm := ite_t c25 hm
      refine lv_iload C.1 C.2.1 dX6_count_135 (lv_at hl 4 rfl) ?_
      obtain ⟨g26, hm⟩ := grd_s hm
      refine z_if_ne (tgt := 156) C dX6_count_137 (by decide) g26 (fun c27 => ?_) (fun c27 => ?_)
      · have hm := ite_f c27 hm
        exact kl_Rd_count_156 (N := N) C hr hlk hE hS (lv_sub hl [1, 2, 3] rfl) h hm
      · have hm := ite_t c27 hm
        exact kl_Rd_count_140 (N := N) C hr hlk hE hS (lv_sub hl [1] rfl) h hm
set_option maxHeartbeats 8000000 in
set_option maxRecDepth 100000 in
theorem kl_Rd_count_97 {r : St} (C : Cx p s m args c cX6_count RX6 (cd :: cWd) D (TYs k) 6) (hr : meth.sig.returnType = none) (hlk : meth.locks = false) (hE : Ev z mi aK aV A s s.heap) (hS : SHs π)    {ls : Array Slot} {H : Heap} {locs : List Loc} {σ : St} {x1 : Int} {x2 : Int} {x3 : Int} {s0 : Int}  (hl : lv_has ls 6 [(0, rfv g 44), (1, rfv g x1), (2, .int (Int32.ofInt x2)), (3, .int (Int32.ofInt x3))]) (h : Hp D A s.heap H locs (cW k z g π σ)) (hm : Rd_count_97 N π σ x1 x2 x3 s0 = some r) : W p l e { frames := 4, cells := 0, slots := 0, locals := 88 } s m args below meth c H locs 0 0 (MQ below (va_Qv (fun (_ : Unit) => True) (fun _ t => PostW D (TYs k) A (cW k z g π r) t) A) args s 0 0 A) (F0 m 97 ls [.int (Int32.ofInt s0)]) := by
  rw [Rd_count_97] at hm
  refine lv_istore (lv' := [(4, .int (Int32.ofInt s0)), (0, rfv g 44), (1, rfv g x1), (2, .int (Int32.ofInt x2)), (3, .int (Int32.ofInt x3))]) C.1 C.2.1 dX6_count_97 hl (by decide) rfl (fun ls hl => ?_)
  refine lv_iload_n C.1 C.2.1 dX6_count_99 rfl (lv_at hl 4 rfl) ?_
  obtain ⟨g20, hm⟩ := grd_s hm
  refine z_if_eq (tgt := 109) C dX6_count_100 (by decide) g20 (fun c21 => ?_) (fun c21 => ?_)
  · have hm := ite_t c21 hm
    refine lv_bipush (v := Int32.ofInt 32) C.1 C.2.1 dX6_count_109 (by decide) ?_
    exact kl_Rd_count_111 (N := N) C hr hlk hE hS (lv_sub hl [1, 2, 3, 0] rfl) h hm
  · have hm := ite_f c21 hm
    refine lv_sipush (v := Int32.ofInt 1000) C.1 C.2.1 dX6_count_103 (by decide) ?_
    refine lv_goto (tgt := 111) C.1 C.2.1 dX6_count_106 (by decide) ?_
    exact kl_Rd_count_111 (N := N) C hr hlk hE hS (lv_sub hl [1, 2, 3, 0] rfl) h hm
set_option maxHeartbeats 8000000 in
set_option maxRecDepth 100000 in
theorem kl_Rd_count_92 {r : St} (C : Cx p s m args c cX6_count RX6 (cd :: cWd) D (TYs k) 6) (hr : meth.sig.returnType = none) (hlk : meth.locks = false) (hE : Ev z mi aK aV A s s.heap) (hS : SHs π)    {ls : Array Slot} {H : Heap} {locs : List Loc} {σ : St} {x1 : Int} {x2 : Int} {x3 : Int}  (hl : lv_has ls 6 [(0, rfv g 44), (1, rfv g x1), (2, .int (Int32.ofInt x2)), (3, .int (Int32.ofInt x3))]) (h : Hp D A s.heap H locs (cW k z g π σ)) (hm : Rd_count_92 N π σ x1 x2 x3 = some r) : W p l e { frames := 4, cells := 0, slots := 0, locals := 88 } s m args below meth c H locs 0 0 (MQ below (va_Qv (fun (_ : Unit) => True) (fun _ t => PostW D (TYs k) A (cW k z g π r) t) A) args s 0 0 A) (F0 m 92 ls []) := by
  rw [Rd_count_92] at hm
  refine lv_iconst (v := Int32.ofInt 1) C.1 C.2.1 dX6_count_92 (by decide) ?_
  refine lv_goto (tgt := 97) C.1 C.2.1 dX6_count_93 (by decide) ?_
  exact kl_Rd_count_97 (N := N) C hr hlk hE hS (lv_sub hl [0, 1, 2, 3] rfl) h hm
set_option maxHeartbeats 8000000 in
set_option maxRecDepth 100000 in
theorem kl_Rd_count_74 {r : St} (C : Cx p s m args c cX6_count RX6 (cd :: cWd) D (TYs k) 6) (hr : meth.sig.returnType = none) (hlk : meth.locks = false) (hE : Ev z mi aK aV A s s.heap) (hS : SHs π)    {ls : Array Slot} {H : Heap} {locs : List Loc} {σ : St} {x1 : Int} {x2 : Int} {s0 : Int}  (hl : lv_has ls 6 [(0, rfv g 44), (1, rfv g x1), (2, .int (Int32.ofInt x2))]) (h : Hp D A s.heap H locs (cW k z g π σ)) (hm : Rd_count_74 N π σ x1 x2 s0 = some r) : W p l e { frames := 4, cells := 0, slots := 0, locals := 88 } s m args below meth c H locs 0 0 (MQ below (va_Qv (fun (_ : Unit) => True) (fun _ t => PostW D (TYs k) A (cW k z g π r) t) A) args s 0 0 A) (F0 m 74 ls [.int (Int32.ofInt s0)]) := by
  rw [Rd_count_74] at hm
  refine lv_istore_n (lv' := [(3, .int (Int32.ofInt s0)), (0, rfv g 44), (1, rfv g x1), (2, .int (Int32.ofInt x2))]) C.1 C.2.1 dX6_count_74 rfl hl (by decide) rfl (fun ls hl => ?_)
  refine lv_iload_n C.1 C.2.1 dX6_count_75 rfl (lv_at hl 0 rfl) ?_
  obtain ⟨g9, hm⟩ := grd_s hm
  refine z_if_ne (tgt := 92) C dX6_count_76 (by decide) g9 (fun c10 => ?_) (fun c10 => ?_)
  · have hm := ite_f c10 hm
    exact kl_Rd_count_92 (N := N) C hr hlk hE hS (lv_sub hl [1, 2, 3, 0] rfl) h hm
  · have hm := ite_t c10 hm
    refine z_aload_n C dX6_count_79 rfl (lv_at hl 2 rfl) ?_
    obtain ⟨g11, hm⟩ := grd_s hm
    refine cg_6_0 C h g11 cU_X5 (List.mem_cons_of_mem _ wl_X6_218) dX6_count_80 ?_
    refine lv_bipush (v := Int32.ofInt 13) C.1 C.2.1 dX6_count_83 (by decide) ?_
    obtain ⟨g12, hm⟩ := grd_s hm
    refine z_icmp_eq (tgt := 92) C dX6_count_85 (by decide) g12 (by decide) (fun c13 => ?_) (fun c13 => ?_)
    · have hm := ite_t c13 hm
      exact kl_Rd_count_92 (N := N) C hr hlk hE hS (lv_sub hl [1, 2, 3, 0] rfl) h hm
    · have hm := ite_f c13 hm
      refine lv_iload_n C.1 C.2.1 dX6_count_88 rfl (lv_at hl 3 rfl) ?_
      obtain ⟨g14, hm⟩ := grd_s hm
      refine z_if_ne (tgt := 96) C dX6_count_89 (by decide) g14 (fun c15 => ?_) (fun c15 => ?_)
      · have hm := ite_f c15 hm
        refine lv_iconst (v := Int32.ofInt 0) C.1 C.2.1 dX6_count_96 (by decide) ?_
        exact kl_Rd_count_97 (N := N) C hr hlk hE hS (lv_sub hl [1, 2, 3, 0] rfl) h hm
      · have hm := ite_t c15 hm
        exact kl_Rd_count_92 (N := N) C hr hlk hE hS (lv_sub hl [1, 2, 3, 0] rfl) h hm
set_option maxHeartbeats 8000000 in
set_option maxRecDepth 100000 in
theorem kl_Rd_count_69 {r : St} (C : Cx p s m args c cX6_count RX6 (cd :: cWd) D (TYs k) 6) (hr : meth.sig.returnType = none) (hlk : meth.locks = false) (hE : Ev z mi aK aV A s s.heap) (hS : SHs π)    {ls : Array Slot} {H : Heap} {locs : List Loc} {σ : St} {x1 : Int} {x2 : Int}  (hl : lv_has ls 6 [(0, rfv g 44), (1, rfv g x1), (2, .int (Int32.ofInt x2))]) (h : Hp D A s.heap H locs (cW k z g π σ)) (hm : Rd_count_69 N π σ x1 x2 = some r) : W p l e { frames := 4, cells := 0, slots := 0, locals := 88 } s m args below meth c H locs 0 0 (MQ below (va_Qv (fun (_ : Unit) => True) (fun _ t => PostW D (TYs k) A (cW k z g π r) t) A) args s 0 0 A) (F0 m 69 ls []) := by
  rw [Rd_count_69] at hm
  refine lv_iconst (v := Int32.ofInt 1) C.1 C.2.1 dX6_count_69 (by decide) ?_
  refine lv_goto (tgt := 74) C.1 C.2.1 dX6_count_70 (by decide) ?_
  exact kl_Rd_count_74 (N := N) C hr hlk hE hS (lv_sub hl [0, 1, 2] rfl) h hm
set_option maxHeartbeats 8000000 in
set_option maxRecDepth 100000 in
theorem kc_Rd_count (l : Launch) (D : va_G) (k : Nat → ClassId) (z mi : Nat) (aK aV : Nat → Nat) (g : Nat → Nat) (N : Nat)    {π : Sh} {σ : St} {x1 : Int} {x2 : Int} {r : St} (hS : SHs π) (hm : Rd_count N π σ x1 x2 = some r) : Mv l yX6_count (.code yX6_count cX6_count 6 none :: cWd) { frames := 4, cells := 0, slots := 0, locals := 88 } [rfv g 44, rfv g x1, .int (Int32.ofInt x2)] D (TYs k) (cW k z g π σ) (XV z mi aK aV (cW k z g π σ)) Unit (fun _ => True) (fun _ => cW k z g π r) 0 0 := by
  intro sz
  refine v_met (cc := cX6_count) (maxL := 6) (ret := none) (lv := [(0, rfv g 44), (1, rfv g x1), (2, .int (Int32.ofInt x2))]) (by decide) rfl (by simp [lg_sl, rfv_cat, cat_i, cat_l]) (by simp [lv_args, rfv_cat, cat_i, cat_l]) ?_
  intro p e s m below meth c ls C hE hr hlk hmn hl h
  rw [Rd_count] at hm
  refine z_aload_n C dX6_count_0 rfl (lv_at hl 0 rfl) ?_
  refine cg_7_0 C h (sh_44 hS) cU_X6 (List.mem_cons_of_mem _ wl_X6_31) dX6_count_1 ?_
  refine cg_9_5 C h (sh_1 hS) cU_X8 (List.mem_cons_of_mem _ wl_X6_66) dX6_count_4 ?_
  refine lv_iconst (v := Int32.ofInt 2) C.1 C.2.1 dX6_count_7 (by decide) ?_
  obtain ⟨g1, hm⟩ := grd_s hm
  refine z_icmp_eq (tgt := 42) C dX6_count_8 (by decide) g1 (by decide) (fun c2 => ?_) (fun c2 => ?_)
  · have hm := ite_t c2 hm
    refine z_aload_n C dX6_count_42 rfl (lv_at hl 1 rfl) ?_
    obtain ⟨g3, hm⟩ := grd_s hm
    refine cg_6_0 C h g3 cU_X5 (List.mem_cons_of_mem _ wl_X6_218) dX6_count_43 ?_
    refine lv_bipush (v := Int32.ofInt 16) C.1 C.2.1 dX6_count_46 (by decide) ?_
    obtain ⟨g4, hm⟩ := grd_s hm
    refine z_icmp_eq (tgt := 69) C dX6_count_48 (by decide) g4 (by decide) (fun c5 => ?_) (fun c5 => ?_)
    · have hm := ite_t c5 hm
      exact kl_Rd_count_69 (N := N) C hr hlk hE hS (lv_sub hl [0, 1, 2] rfl) h hm
    · have hm := ite_f c5 hm
      refine z_aload_n C dX6_count_51 rfl (lv_at hl 1 rfl) ?_
      refine cg_6_0 C h g3 cU_X5 (List.mem_cons_of_mem _ wl_X6_218) dX6_count_52 ?_
      refine lv_bipush (v := Int32.ofInt 17) C.1 C.2.1 dX6_count_55 (by decide) ?_
      refine z_icmp_eq (tgt := 69) C dX6_count_57 (by decide) g4 (by decide) (fun c6 => ?_) (fun c6 => ?_)
      · have hm := ite_t c6 hm
        exact kl_Rd_count_69 (N := N) C hr hlk hE hS (lv_sub hl [0, 1, 2] rfl) h hm
      · have hm := ite_f c6 hm
        refine z_aload_n C dX6_count_60 rfl (lv_at hl 1 rfl) ?_
        refine cg_6_0 C h g3 cU_X5 (List.mem_cons_of_mem _ wl_X6_218) dX6_count_61 ?_
        refine lv_bipush (v := Int32.ofInt 18) C.1 C.2.1 dX6_count_64 (by decide) ?_
        refine z_icmp_ne (tgt := 73) C dX6_count_66 (by decide) g4 (by decide) (fun c7 => ?_) (fun c7 => ?_)
        · have hm := ite_f c7 hm
          refine lv_iconst (v := Int32.ofInt 0) C.1 C.2.1 dX6_count_73 (by decide) ?_
          exact kl_Rd_count_74 (N := N) C hr hlk hE hS (lv_sub hl [0, 1, 2] rfl) h hm
        · have hm := ite_t c7 hm
          exact kl_Rd_count_69 (N := N) C hr hlk hE hS (lv_sub hl [0, 1, 2] rfl) h hm
  · have hm := ite_f c2 hm
    refine z_aload_n C dX6_count_11 rfl (lv_at hl 0 rfl) ?_
    refine cg_7_0 C h (sh_44 hS) cU_X6 (List.mem_cons_of_mem _ wl_X6_31) dX6_count_12 ?_
    refine z_aload_n C dX6_count_15 rfl (lv_at hl 0 rfl) ?_
    refine cg_7_0 C h (sh_44 hS) cU_X6 (List.mem_cons_of_mem _ wl_X6_31) dX6_count_16 ?_
    refine cg_9_5 C h (sh_1 hS) cU_X8 (List.mem_cons_of_mem _ wl_X6_66) dX6_count_19 ?_
    refine lv_iconst (v := Int32.ofInt 3) C.1 C.2.1 dX6_count_22 (by decide) ?_
    refine z_icmp_ne (tgt := 30) C dX6_count_23 (by decide) g1 (by decide) (fun c8 => ?_) (fun c8 => ?_)
    · have hm := ite_f c8 hm
      refine lv_iconst (v := Int32.ofInt 1) C.1 C.2.1 dX6_count_30 (by decide) ?_
      exact kl_Rd_count_31 (N := N) C hr hlk hE hS (lv_sub hl [0] rfl) h hm
    · have hm := ite_t c8 hm
      refine lv_iconst (v := Int32.ofInt 3) C.1 C.2.1 dX6_count_26 (by decide) ?_
      refine lv_goto (tgt := 31) C.1 C.2.1 dX6_count_27 (by decide) ?_
      exact kl_Rd_count_31 (N := N) C hr hlk hE hS (lv_sub hl [0] rfl) h hm
end Z_Rd_count
section Z_Rd_fraction
variable {p : Program} {l : Launch} {e : Env} {s : State} {m : MethodId} {args : Array Value} {below : List Frame} {meth : Method} {c : Code} {D : va_G} {A : Nat → Prop} {k : Nat → ClassId} {N : Nat} {cd : Cond} {z mi : Nat} {aK aV : Nat → Nat} {g : Nat → Nat} {π : Sh}
set_option maxHeartbeats 8000000 in
set_option maxRecDepth 100000 in
theorem kl_Rd_fraction_172 {r : St} (C : Cx p s m args c cX6_fraction RX6 (cd :: cWd) D (TYs k) 9) (hr : meth.sig.returnType = none) (hlk : meth.locks = false) (hE : Ev z mi aK aV A s s.heap) (hS : SHs π)    {ls : Array Slot} {H : Heap} {locs : List Loc} {σ : St}   (hl : lv_has ls 9 [(0, rfv g 44)]) (h : Hp D A s.heap H locs (cW k z g π σ)) (hm : Rd_fraction_172 N π σ  = some r) : W p l e { frames := 4, cells := 0, slots := 0, locals := 88 } s m args below meth c H locs 0 0 (MQ below (va_Qv (fun (_ : Unit) => True) (fun _ t => PostW D (TYs k) A (cW k z g π r) t) A) args s 0 0 A) (F0 m 172 ls []) := by
  rw [Rd_fraction_172] at hm
  refine z_aload_n C dX6_fraction_172 rfl (lv_at hl 0 rfl) ?_
  refine cg_7_0 C h (sh_44 hS) cU_X6 (List.mem_cons_of_mem _ wl_X6_31) dX6_fraction_173 ?_
  refine lv_iconst (v := Int32.ofInt 3) C.1 C.2.1 dX6_fraction_176 (by decide) ?_
  refine z_aload_n C dX6_fraction_177 rfl (lv_at hl 0 rfl) ?_
  refine cg_7_0 C h (sh_44 hS) cU_X6 (List.mem_cons_of_mem _ wl_X6_31) dX6_fraction_178 ?_
  refine cg_9_6 C h (sh_1 hS) cU_X8 (List.mem_cons_of_mem _ wl_X6_81) dX6_fraction_181 ?_
  obtain ⟨r37, e38, hm⟩ := obd_s hm
  refine c_callVvP C hE h (sh_1 hS) rfl (by decide) (kc_Sc_fail l D k z mi aK aV g N hS e38) (cwV 2 C.2.2.1 (gS_X6_84 _) rfl rfl rfl hd_X8_fail ⟨Nat.le_of_ble_eq_true rfl, Nat.le_of_ble_eq_true rfl⟩) rfl hl.1 rfl (Nat.le_of_ble_eq_true rfl) dX6_fraction_184 ⟨(Nat.le_of_ble_eq_true rfl), (Nat.le_of_ble_eq_true rfl)⟩ (fun H locs h => ?_)
  cases hm
  exact c_vretP C h hr hlk dX6_fraction_187
set_option maxHeartbeats 8000000 in
set_option maxRecDepth 100000 in
theorem kl_Rd_fraction_240 {r : St} (C : Cx p s m args c cX6_fraction RX6 (cd :: cWd) D (TYs k) 9) (hr : meth.sig.returnType = none) (hlk : meth.locks = false) (hE : Ev z mi aK aV A s s.heap) (hS : SHs π)    {ls : Array Slot} {H : Heap} {locs : List Loc} {σ : St}   (hl : lv_has ls 9 [(0, rfv g 44)]) (h : Hp D A s.heap H locs (cW k z g π σ)) (hm : Rd_fraction_240 N π σ  = some r) : W p l e { frames := 4, cells := 0, slots := 0, locals := 88 } s m args below meth c H locs 0 0 (MQ below (va_Qv (fun (_ : Unit) => True) (fun _ t => PostW D (TYs k) A (cW k z g π r) t) A) args s 0 0 A) (F0 m 240 ls []) := by
  rw [Rd_fraction_240] at hm
  refine z_aload_n C dX6_fraction_240 rfl (lv_at hl 0 rfl) ?_
  refine cg_7_0 C h (sh_44 hS) cU_X6 (List.mem_cons_of_mem _ wl_X6_31) dX6_fraction_241 ?_
  obtain ⟨r53, e54, hm⟩ := obd_s hm
  refine c_callVvP C hE h (sh_1 hS) rfl (by decide) (kc_Sc_advance l D k z mi aK aV g N hS e54) (cwV 0 C.2.2.1 (gS_X6_88 _) rfl rfl rfl hd_X8_advance ⟨Nat.le_of_ble_eq_true rfl, Nat.le_of_ble_eq_true rfl⟩) rfl hl.1 rfl (Nat.le_of_ble_eq_true rfl) dX6_fraction_244 ⟨(Nat.le_of_ble_eq_true rfl), (Nat.le_of_ble_eq_true rfl)⟩ (fun H locs h => ?_)
  cases hm
  exact c_vretP C h hr hlk dX6_fraction_247
set_option maxHeartbeats 8000000 in
set_option maxRecDepth 100000 in
theorem kl_Rd_fraction_188 {r : St} (C : Cx p s m args c cX6_fraction RX6 (cd :: cWd) D (TYs k) 9) (hr : meth.sig.returnType = none) (hlk : meth.locks = false) (hE : Ev z mi aK aV A s s.heap) (hS : SHs π)    {ls : Array Slot} {H : Heap} {locs : List Loc} {σ : St} {x1 : Int} {x2 : Int} {x3 : Int} {x4 : Int}  (hl : lv_has ls 9 [(0, rfv g 44), (1, rfv g x1), (2, .int (Int32.ofInt x2)), (3, .int (Int32.ofInt x3)), (4, .int (Int32.ofInt x4))]) (h : Hp D A s.heap H locs (cW k z g π σ)) (hm : Rd_fraction_188 N π σ x1 x2 x3 x4 = some r) : W p l e { frames := 4, cells := 0, slots := 0, locals := 88 } s m args below meth c H locs 0 0 (MQ below (va_Qv (fun (_ : Unit) => True) (fun _ t => PostW D (TYs k) A (cW k z g π r) t) A) args s 0 0 A) (F0 m 188 ls []) := by
  rw [Rd_fraction_188] at hm
  refine lv_iload_n C.1 C.2.1 dX6_fraction_188 rfl (lv_at hl 3 rfl) ?_
  obtain ⟨g41, hm⟩ := grd_s hm
  refine z_i2l C dX6_fraction_189 g41 ?_
  refine lv_iload C.1 C.2.1 dX6_fraction_190 (lv_at hl 4 rfl) ?_
  obtain ⟨g42, hm⟩ := grd_s hm
  refine z_i2l C dX6_fraction_192 g42 ?_
  obtain ⟨r43, e44, hm⟩ := obd_s hm
  refine v_callSl C h (kc_Pt_gcd l D k N x3 x4 r43 e44) (v_cwS 2 C.2.2.1 (gC_X4_gcd _) rfl rfl rfl (C.2.2.1 _ (List.mem_cons_of_mem _ wt_X4)) (C.2.2.1 _ (List.mem_cons_of_mem _ wm_X6_247)) (C.2.2.1 _ (List.mem_cons_of_mem _ ws_X4_gcd)) hdS_X4_gcd ⟨Nat.le_of_ble_eq_true rfl, Nat.le_of_ble_eq_true rfl⟩) rfl hl.1 rfl (Nat.le_of_ble_eq_true rfl) dX6_fraction_193 ⟨(Nat.le_of_ble_eq_true rfl), (Nat.le_of_ble_eq_true rfl)⟩ (fun H locs h => ?_)
  refine z_l2i C dX6_fraction_196 ?_
  refine lv_istore (lv' := [(8, .int (Int32.ofInt r43)), (0, rfv g 44), (1, rfv g x1), (2, .int (Int32.ofInt x2)), (3, .int (Int32.ofInt x3)), (4, .int (Int32.ofInt x4))]) C.1 C.2.1 dX6_fraction_197 hl (by decide) rfl (fun ls hl => ?_)
  refine lv_iload_n C.1 C.2.1 dX6_fraction_199 rfl (lv_at hl 3 rfl) ?_
  obtain ⟨g45, hm⟩ := grd_s hm
  refine z_if_eq (tgt := 223) C dX6_fraction_200 (by decide) g45 (fun c46 => ?_) (fun c46 => ?_)
  · have hm := ite_t c46 hm
    refine z_aload_n C dX6_fraction_223 rfl (lv_at hl 2 rfl) ?_
    refine lv_iload_n C.1 C.2.1 dX6_fraction_224 rfl (lv_at hl 4 rfl) ?_
    refine lv_iload C.1 C.2.1 dX6_fraction_225 (lv_at hl 0 rfl) ?_
    obtain ⟨g47, hm⟩ := grd_s hm
    obtain ⟨g48, hm⟩ := grd_s hm
    refine z_idiv C dX6_fraction_227 g41 g47 g48 ?_
    obtain ⟨g49, hm⟩ := grd_s hm
    refine cp_6_4 C h g49 cU_X5 (List.mem_cons_of_mem _ wl_X6_253) dX6_fraction_228 (fun H locs h => ?_)
    refine z_aload_n C dX6_fraction_231 rfl (lv_at hl 2 rfl) ?_
    refine lv_iload C.1 C.2.1 dX6_fraction_232 (lv_at hl 5 rfl) ?_
    refine lv_iload C.1 C.2.1 dX6_fraction_234 (lv_at hl 0 rfl) ?_
    refine z_idiv C dX6_fraction_236 g42 g47 g48 ?_
    refine cp_6_5 C h g49 cU_X5 (List.mem_cons_of_mem _ wl_X6_256) dX6_fraction_237 (fun H locs h => ?_)
    exact kl_Rd_fraction_240 (N := N) C hr hlk hE hS (lv_sub hl [1] rfl) h hm
  · have hm := ite_f c46 hm
    refine z_aload_n C dX6_fraction_203 rfl (lv_at hl 2 rfl) ?_
    refine lv_iload_n C.1 C.2.1 dX6_fraction_204 rfl (lv_at hl 4 rfl) ?_
    refine lv_iload C.1 C.2.1 dX6_fraction_205 (lv_at hl 0 rfl) ?_
    obtain ⟨g50, hm⟩ := grd_s hm
    obtain ⟨g51, hm⟩ := grd_s hm
    refine z_idiv C dX6_fraction_207 g41 g50 g51 ?_
    obtain ⟨g52, hm⟩ := grd_s hm
    refine cp_6_2 C h g52 cU_X5 (List.mem_cons_of_mem _ wl_X6_244) dX6_fraction_208 (fun H locs h => ?_)
    refine z_aload_n C dX6_fraction_211 rfl (lv_at hl 2 rfl) ?_
    refine lv_iload C.1 C.2.1 dX6_fraction_212 (lv_at hl 5 rfl) ?_
    refine lv_iload C.1 C.2.1 dX6_fraction_214 (lv_at hl 0 rfl) ?_
    refine z_idiv C dX6_fraction_216 g42 g50 g51 ?_
    refine cp_6_3 C h g52 cU_X5 (List.mem_cons_of_mem _ wl_X6_241) dX6_fraction_217 (fun H locs h => ?_)
    refine lv_goto (tgt := 240) C.1 C.2.1 dX6_fraction_220 (by decide) ?_
    exact kl_Rd_fraction_240 (N := N) C hr hlk hE hS (lv_sub hl [1] rfl) h hm
set_option maxHeartbeats 8000000 in
set_option maxRecDepth 100000 in
theorem kl_Rd_fraction_145 {r : St} (C : Cx p s m args c cX6_fraction RX6 (cd :: cWd) D (TYs k) 9) (hr : meth.sig.returnType = none) (hlk : meth.locks = false) (hE : Ev z mi aK aV A s s.heap) (hS : SHs π)    {ls : Array Slot} {H : Heap} {locs : List Loc} {σ : St} {x1 : Int} {x2 : Int} {x3 : Int} {x4 : Int} {s0 : Int}  (hl : lv_has ls 9 [(0, rfv g 44), (1, rfv g x1), (2, .int (Int32.ofInt x2)), (3, .int (Int32.ofInt x3)), (4, .int (Int32.ofInt x4))]) (h : Hp D A s.heap H locs (cW k z g π σ)) (hm : Rd_fraction_145 N π σ x1 x2 x3 x4 s0 = some r) : W p l e { frames := 4, cells := 0, slots := 0, locals := 88 } s m args below meth c H locs 0 0 (MQ below (va_Qv (fun (_ : Unit) => True) (fun _ t => PostW D (TYs k) A (cW k z g π r) t) A) args s 0 0 A) (F0 m 145 ls [.int (Int32.ofInt s0)]) := by
  rw [Rd_fraction_145] at hm
  refine lv_istore (lv' := [(7, .int (Int32.ofInt s0)), (0, rfv g 44), (1, rfv g x1), (2, .int (Int32.ofInt x2)), (3, .int (Int32.ofInt x3)), (4, .int (Int32.ofInt x4))]) C.1 C.2.1 dX6_fraction_145 hl (by decide) rfl (fun ls hl => ?_)
  refine lv_iload C.1 C.2.1 dX6_fraction_147 (lv_at hl 0 rfl) ?_
  obtain ⟨g29, hm⟩ := grd_s hm
  refine z_if_eq (tgt := 172) C dX6_fraction_149 (by decide) g29 (fun c30 => ?_) (fun c30 => ?_)
  · have hm := ite_t c30 hm
    exact kl_Rd_fraction_172 (N := N) C hr hlk hE hS (lv_sub hl [1] rfl) h hm
  · have hm := ite_f c30 hm
    refine lv_iload_n C.1 C.2.1 dX6_fraction_152 rfl (lv_at hl 3 rfl) ?_
    obtain ⟨g31, hm⟩ := grd_s hm
    refine z_if_ne (tgt := 188) C dX6_fraction_153 (by decide) g31 (fun c32 => ?_) (fun c32 => ?_)
    · have hm := ite_f c32 hm
      exact kl_Rd_fraction_188 (N := N) C hr hlk hE hS (lv_sub hl [1, 2, 3, 4, 5] rfl) h hm
    · have hm := ite_t c32 hm
      refine lv_iload_n C.1 C.2.1 dX6_fraction_156 rfl (lv_at hl 4 rfl) ?_
      refine z_aload_n C dX6_fraction_157 rfl (lv_at hl 2 rfl) ?_
      obtain ⟨g33, hm⟩ := grd_s hm
      refine cg_6_3 C h g33 cU_X5 (List.mem_cons_of_mem _ wl_X6_241) dX6_fraction_158 ?_
      refine z_imul C dX6_fraction_161 ?_
      refine z_aload_n C dX6_fraction_162 rfl (lv_at hl 2 rfl) ?_
      refine cg_6_2 C h g33 cU_X5 (List.mem_cons_of_mem _ wl_X6_244) dX6_fraction_163 ?_
      refine lv_iload C.1 C.2.1 dX6_fraction_166 (lv_at hl 5 rfl) ?_
      refine z_imul C dX6_fraction_168 ?_
      obtain ⟨g34, hm⟩ := grd_s hm
      obtain ⟨g35, hm⟩ := grd_s hm
      refine z_icmp_gt (tgt := 188) C dX6_fraction_169 (by decide) g34 g35 (fun c36 => ?_) (fun c36 => ?_)
      · have hm := ite_t c36 hm
        exact kl_Rd_fraction_188 (N := N) C hr hlk hE hS (lv_sub hl [1, 2, 3, 4, 5] rfl) h hm
      · have hm := ite_f c36 hm
        exact kl_Rd_fraction_172 (N := N) C hr hlk hE hS (lv_sub hl [1] rfl) h hm
set_option maxHeartbeats 8000000 in
set_option maxRecDepth 100000 in
theorem kl_Rd_fraction_140 {r : St} (C : Cx p s m args c cX6_fraction RX6 (cd :: cWd) D (TYs k) 9) (hr : meth.sig.returnType = none) (hlk : meth.locks = false) (hE : Ev z mi aK aV A s s.heap) (hS : SHs π)    {ls : Array Slot} {H : Heap} {locs : List Loc} {σ : St} {x1 : Int} {x2 : Int} {x3 : Int} {x4 : Int}  (hl : lv_has ls 9 [(0, rfv g 44), (1, rfv g x1), (2, .int (Int32.ofInt x2)), (3, .int (Int32.ofInt x3)), (4, .int (Int32.ofInt x4))]) (h : Hp D A s.heap H locs (cW k z g π σ)) (hm : Rd_fraction_140 N π σ x1 x2 x3 x4 = some r) : W p l e { frames := 4, cells := 0, slots := 0, locals := 88 } s m args below meth c H locs 0 0 (MQ below (va_Qv (fun (_ : Unit) => True) (fun _ t => PostW D (TYs k) A (cW k z g π r) t) A) args s 0 0 A) (F0 m 140 ls []) := by
  rw [Rd_fraction_140] at hm
  refine lv_iconst (v := Int32.ofInt 1) C.1 C.2.1 dX6_fraction_140 (by decide) ?_
  refine lv_goto (tgt := 145) C.1 C.2.1 dX6_fraction_141 (by decide) ?_
  exact kl_Rd_fraction_145 (N := N) C hr hlk hE hS (lv_sub hl [0, 1, 2, 3, 4] rfl) h hm
set_option maxHeartbeats 8000000 in
set_option maxRecDepth 100000 in
theorem kl_Rd_fraction_144 {r : St} (C : Cx p s m args c cX6_fraction RX6 (cd :: cWd) D (TYs k) 9) (hr : meth.sig.returnType = none) (hlk : meth.locks = false) (hE : Ev z mi aK aV A s s.heap) (hS : SHs π)    {ls : Array Slot} {H : Heap} {locs : List Loc} {σ : St} {x1 : Int} {x2 : Int} {x3 : Int} {x4 : Int}  (hl : lv_has ls 9 [(0, rfv g 44), (1, rfv g x1), (2, .int (Int32.ofInt x2)), (3, .int (Int32.ofInt x3)), (4, .int (Int32.ofInt x4))]) (h : Hp D A s.heap H locs (cW k z g π σ)) (hm : Rd_fraction_144 N π σ x1 x2 x3 x4 = some r) : W p l e { frames := 4, cells := 0, slots := 0, locals := 88 } s m args below meth c H locs 0 0 (MQ below (va_Qv (fun (_ : Unit) => True) (fun _ t => PostW D (TYs k) A (cW k z g π r) t) A) args s 0 0 A) (F0 m 144 ls []) := by
  rw [Rd_fraction_144] at hm
  refine lv_iconst (v := Int32.ofInt 0) C.1 C.2.1 dX6_fraction_144 (by decide) ?_
  exact kl_Rd_fraction_145 (N := N) C hr hlk hE hS (lv_sub hl [0, 1, 2, 3, 4] rfl) h hm
set_option maxHeartbeats 8000000 in
set_option maxRecDepth 100000 in
theorem kl_Rd_fraction_129 {r : St} (C : Cx p s m args c cX6_fraction RX6 (cd :: cWd) D (TYs k) 9) (hr : meth.sig.returnType = none) (hlk : meth.locks = false) (hE : Ev z mi aK aV A s s.heap) (hS : SHs π)    {ls : Array Slot} {H : Heap} {locs : List Loc} {σ : St} {x1 : Int} {x2 : Int} {x3 : Int} {x4 : Int} {x6 : Int}  (hl : lv_has ls 9 [(0, rfv g 44), (1, rfv g x1), (2, .int (Int32.ofInt x2)), (3, .int (Int32.ofInt x3)), (4, .int (Int32.ofInt x4)), (6, .int (Int32.ofInt x6))]) (h : Hp D A s.heap H locs (cW k z g π σ)) (hm : Rd_fraction_129 N π σ x1 x2 x3 x4 x6 = some r) : W p l e { frames := 4, cells := 0, slots := 0, locals := 88 } s m args below meth c H locs 0 0 (MQ below (va_Qv (fun (_ : Unit) => True) (fun _ t => PostW D (TYs k) A (cW k z g π r) t) A) args s 0 0 A) (F0 m 129 ls []) := by
  rw [Rd_fraction_129] at hm
  refine lv_iload C.1 C.2.1 dX6_fraction_129 (lv_at hl 5 rfl) ?_
  obtain ⟨g24, hm⟩ := grd_s hm
  refine z_if_eq (tgt := 140) C dX6_fraction_131 (by decide) g24 (fun c25 => ?_) (fun c25 => ?_)
  · have hm := ite_t c25 hm
    exact kl_Rd_fraction_140 (N := N) C hr hlk hE hS (lv_sub hl [0, 1, 2, 3, 4] rfl) h hm
  · have hm := ite_f c25 hm
    refine lv_iload_n C.1 C.2.1 dX6_fraction_134 rfl (lv_at hl 3 rfl) ?_
    refine lv_iload C.1 C.2.1 dX6_fraction_135 (lv_at hl 4 rfl) ?_
    obtain ⟨g26, hm⟩ := grd_s hm
    obtain ⟨g27, hm⟩ := grd_s hm
    refine z_icmp_gt (tgt := 144) C dX6_fraction_137 (by decide) g26 g27 (fun c28 => ?_) (fun c28 => ?_)
    · have hm := ite_t c28 hm
      exact kl_Rd_fraction_144 (N := N) C hr hlk hE hS (lv_sub hl [0, 1, 2, 3, 4] rfl) h hm
    · have hm := ite_f c28 hm
      exact kl_Rd_fraction_140 (N := N) C hr hlk hE hS (lv_sub hl [0, 1, 2, 3, 4] rfl) h hm
set_option maxHeartbeats 8000000 in
set_option maxRecDepth 100000 in
theorem kl_Rd_fraction_100 {r : St} (C : Cx p s m args c cX6_fraction RX6 (cd :: cWd) D (TYs k) 9) (hr : meth.sig.returnType = none) (hlk : meth.locks = false) (hE : Ev z mi aK aV A s s.heap) (hS : SHs π)    {ls : Array Slot} {H : Heap} {locs : List Loc} {σ : St} {x1 : Int} {x2 : Int} {x3 : Int} {x4 : Int} {x5 : Int} {s0 : Int}  (hl : lv_has ls 9 [(0, rfv g 44), (1, rfv g x1), (2, .int (Int32.ofInt x2)), (3, .int (Int32.ofInt x3)), (4, .int (Int32.ofInt x4)), (5, .int (Int32.ofInt x5))]) (h : Hp D A s.heap H locs (cW k z g π σ)) (hm : Rd_fraction_100 N π σ x1 x2 x3 x4 x5 s0 = some r) : W p l e { frames := 4, cells := 0, slots := 0, locals := 88 } s m args below meth c H locs 0 0 (MQ below (va_Qv (fun (_ : Unit) => True) (fun _ t => PostW D (TYs k) A (cW k z g π r) t) A) args s 0 0 A) (F0 m 100 ls [.int (Int32.ofInt s0)]) := by
  rw [Rd_fraction_100] at hm
  refine lv_istore (lv' := [(6, .int (Int32.ofInt s0)), (0, rfv g 44), (1, rfv g x1), (2, .int (Int32.ofInt x2)), (3, .int (Int32.ofInt x3)), (4, .int (Int32.ofInt x4)), (5, .int (Int32.ofInt x5))]) C.1 C.2.1 dX6_fraction_100 hl (by decide) rfl (fun ls hl => ?_)
  refine lv_iload_n C.1 C.2.1 dX6_fraction_102 rfl (lv_at hl 4 rfl) ?_
  refine lv_bipush (v := Int32.ofInt 64) C.1 C.2.1 dX6_fraction_103 (by decide) ?_
  obtain ⟨g16, hm⟩ := grd_s hm
  refine z_icmp_gt (tgt := 144) C dX6_fraction_105 (by decide) g16 (by decide) (fun c17 => ?_) (fun c17 => ?_)
  · have hm := ite_t c17 hm
    exact kl_Rd_fraction_144 (N := N) C hr hlk hE hS (lv_sub hl [1, 2, 3, 4, 5] rfl) h hm
  · have hm := ite_f c17 hm
    refine lv_iload C.1 C.2.1 dX6_fraction_108 (lv_at hl 5 rfl) ?_
    refine lv_bipush (v := Int32.ofInt 64) C.1 C.2.1 dX6_fraction_110 (by decide) ?_
    obtain ⟨g18, hm⟩ := grd_s hm
    refine z_icmp_gt (tgt := 144) C dX6_fraction_112 (by decide) g18 (by decide) (fun c19 => ?_) (fun c19 => ?_)
    · have hm := ite_t c19 hm
      exact kl_Rd_fraction_144 (N := N) C hr hlk hE hS (lv_sub hl [1, 2, 3, 4, 5] rfl) h hm
    · have hm := ite_f c19 hm
      refine lv_iload C.1 C.2.1 dX6_fraction_115 (lv_at hl 5 rfl) ?_
      refine z_if_le (tgt := 144) C dX6_fraction_117 (by decide) g18 (fun c20 => ?_) (fun c20 => ?_)
      · have hm := ite_f c20 hm
        exact kl_Rd_fraction_144 (N := N) C hr hlk hE hS (lv_sub hl [1, 2, 3, 4, 5] rfl) h hm
      · have hm := ite_t c20 hm
        refine lv_iload C.1 C.2.1 dX6_fraction_120 (lv_at hl 6 rfl) ?_
        obtain ⟨g21, hm⟩ := grd_s hm
        refine z_if_eq (tgt := 129) C dX6_fraction_122 (by decide) g21 (fun c22 => ?_) (fun c22 => ?_)
        · have hm := ite_t c22 hm
          exact kl_Rd_fraction_129 (N := N) C hr hlk hE hS (lv_sub hl [1, 2, 3, 4, 5, 0] rfl) h hm
        · have hm := ite_f c22 hm
          refine lv_iload_n C.1 C.2.1 dX6_fraction_125 rfl (lv_at hl 4 rfl) ?_
          refine z_if_eq (tgt := 144) C dX6_fraction_126 (by decide) g16 (fun c23 => ?_) (fun c23 => ?_)
          · have hm := ite_t c23 hm
            exact kl_Rd_fraction_144 (N := N) C hr hlk hE hS (lv_sub hl [1, 2, 3, 4, 5] rfl) h hm
          · have hm := ite_f c23 hm
            exact kl_Rd_fraction_129 (N := N) C hr hlk hE hS (lv_sub hl [1, 2, 3, 4, 5, 0] rfl) h hm
set_option maxHeartbeats 8000000 in
set_option maxRecDepth 100000 in
theorem kl_Rd_fraction_95 {r : St} (C : Cx p s m args c cX6_fraction RX6 (cd :: cWd) D (TYs k) 9) (hr : meth.sig.returnType = none) (hlk : meth.locks = false) (hE : Ev z mi aK aV A s s.heap) (hS : SHs π)    {ls : Array Slot} {H : Heap} {locs : List Loc} {σ : St} {x1 : Int} {x2 : Int} {x3 : Int} {x4 : Int} {x5 : Int}  (hl : lv_has ls 9 [(0, rfv g 44), (1, rfv g x1), (2, .int (Int32.ofInt x2)), (3, .int (Int32.ofInt x3)), (4, .int (Int32.ofInt x4)), (5, .int (Int32.ofInt x5))]) (h : Hp D A s.heap H locs (cW k z g π σ)) (hm : Rd_fraction_95 N π σ x1 x2 x3 x4 x5 = some r) : W p l e { frames := 4, cells := 0, slots := 0, locals := 88 } s m args below meth c H locs 0 0 (MQ below (va_Qv (fun (_ : Unit) => True) (fun _ t => PostW D (TYs k) A (cW k z g π r) t) A) args s 0 0 A) (F0 m 95 ls []) := by
  rw [Rd_fraction_95] at hm
  refine lv_iconst (v := Int32.ofInt 1) C.1 C.2.1 dX6_fraction_95 (by decide) ?_
  refine lv_goto (tgt := 100) C.1 C.2.1 dX6_fraction_96 (by decide) ?_
  exact kl_Rd_fraction_100 (N := N) C hr hlk hE hS (lv_sub hl [0, 1, 2, 3, 4, 5] rfl) h hm
set_option maxHeartbeats 8000000 in
set_option maxRecDepth 100000 in
theorem kl_Rd_fraction_75 {r : St} (C : Cx p s m args c cX6_fraction RX6 (cd :: cWd) D (TYs k) 9) (hr : meth.sig.returnType = none) (hlk : meth.locks = false) (hE : Ev z mi aK aV A s s.heap) (hS : SHs π)    {ls : Array Slot} {H : Heap} {locs : List Loc} {σ : St} {x1 : Int} {x2 : Int} {x3 : Int} {x4 : Int} {s0 : Int}  (hl : lv_has ls 9 [(0, rfv g 44), (1, rfv g x1), (2, .int (Int32.ofInt x2)), (3, .int (Int32.ofInt x3)), (4, .int (Int32.ofInt x4))]) (h : Hp D A s.heap H locs (cW k z g π σ)) (hm : Rd_fraction_75 N π σ x1 x2 x3 x4 s0 = some r) : W p l e { frames := 4, cells := 0, slots := 0, locals := 88 } s m args below meth c H locs 0 0 (MQ below (va_Qv (fun (_ : Unit) => True) (fun _ t => PostW D (TYs k) A (cW k z g π r) t) A) args s 0 0 A) (F0 m 75 ls [.int (Int32.ofInt s0)]) := by
  rw [Rd_fraction_75] at hm
  refine lv_istore (lv' := [(5, .int (Int32.ofInt s0)), (0, rfv g 44), (1, rfv g x1), (2, .int (Int32.ofInt x2)), (3, .int (Int32.ofInt x3)), (4, .int (Int32.ofInt x4))]) C.1 C.2.1 dX6_fraction_75 hl (by decide) rfl (fun ls hl => ?_)
  refine z_aload_n C dX6_fraction_77 rfl (lv_at hl 2 rfl) ?_
  obtain ⟨g12, hm⟩ := grd_s hm
  refine cg_6_0 C h g12 cU_X5 (List.mem_cons_of_mem _ wl_X6_218) dX6_fraction_78 ?_
  refine lv_bipush (v := Int32.ofInt 19) C.1 C.2.1 dX6_fraction_81 (by decide) ?_
  obtain ⟨g13, hm⟩ := grd_s hm
  refine z_icmp_eq (tgt := 95) C dX6_fraction_83 (by decide) g13 (by decide) (fun c14 => ?_) (fun c14 => ?_)
  · have hm := ite_t c14 hm
    exact kl_Rd_fraction_95 (N := N) C hr hlk hE hS (lv_sub hl [1, 2, 3, 4, 5, 0] rfl) h hm
  · have hm := ite_f c14 hm
    refine z_aload_n C dX6_fraction_86 rfl (lv_at hl 2 rfl) ?_
    refine cg_6_0 C h g12 cU_X5 (List.mem_cons_of_mem _ wl_X6_218) dX6_fraction_87 ?_
    refine lv_bipush (v := Int32.ofInt 20) C.1 C.2.1 dX6_fraction_90 (by decide) ?_
    refine z_icmp_ne (tgt := 99) C dX6_fraction_92 (by decide) g13 (by decide) (fun c15 => ?_) (fun c15 => ?_)
    · have hm := ite_f c15 hm
      refine lv_iconst (v := Int32.ofInt 0) C.1 C.2.1 dX6_fraction_99 (by decide) ?_
      exact kl_Rd_fraction_100 (N := N) C hr hlk hE hS (lv_sub hl [1, 2, 3, 4, 5, 0] rfl) h hm
    · have hm := ite_t c15 hm
      exact kl_Rd_fraction_95 (N := N) C hr hlk hE hS (lv_sub hl [1, 2, 3, 4, 5, 0] rfl) h hm
set_option maxHeartbeats 8000000 in
set_option maxRecDepth 100000 in
theorem kl_Rd_fraction_70 {r : St} (C : Cx p s m args c cX6_fraction RX6 (cd :: cWd) D (TYs k) 9) (hr : meth.sig.returnType = none) (hlk : meth.locks = false) (hE : Ev z mi aK aV A s s.heap) (hS : SHs π)    {ls : Array Slot} {H : Heap} {locs : List Loc} {σ : St} {x1 : Int} {x2 : Int} {x3 : Int} {x4 : Int}  (hl : lv_has ls 9 [(0, rfv g 44), (1, rfv g x1), (2, .int (Int32.ofInt x2)), (3, .int (Int32.ofInt x3)), (4, .int (Int32.ofInt x4))]) (h : Hp D A s.heap H locs (cW k z g π σ)) (hm : Rd_fraction_70 N π σ x1 x2 x3 x4 = some r) : W p l e { frames := 4, cells := 0, slots := 0, locals := 88 } s m args below meth c H locs 0 0 (MQ below (va_Qv (fun (_ : Unit) => True) (fun _ t => PostW D (TYs k) A (cW k z g π r) t) A) args s 0 0 A) (F0 m 70 ls []) := by
  rw [Rd_fraction_70] at hm
  refine lv_iconst (v := Int32.ofInt 1) C.1 C.2.1 dX6_fraction_70 (by decide) ?_
  refine lv_goto (tgt := 75) C.1 C.2.1 dX6_fraction_71 (by decide) ?_
  exact kl_Rd_fraction_75 (N := N) C hr hlk hE hS (lv_sub hl [0, 1, 2, 3, 4] rfl) h hm
set_option maxHeartbeats 8000000 in
set_option maxRecDepth 100000 in
theorem kl_Rd_fraction_38 {r : St} (C : Cx p s m args c cX6_fraction RX6 (cd :: cWd) D (TYs k) 9) (hr : meth.sig.returnType = none) (hlk : meth.locks = false) (hE : Ev z mi aK aV A s s.heap) (hS : SHs π)    {ls : Array Slot} {H : Heap} {locs : List Loc} {σ : St} {x1 : Int} {x2 : Int}  (hl : lv_has ls 9 [(0, rfv g 44), (1, rfv g x1), (2, .int (Int32.ofInt x2))]) (h : Hp D A s.heap H locs (cW k z g π σ)) (hm : Rd_fraction_38 N π σ x1 x2 = some r) : W p l e { frames := 4, cells := 0, slots := 0, locals := 88 } s m args below meth c H locs 0 0 (MQ below (va_Qv (fun (_ : Unit) => True) (fun _ t => PostW D (TYs k) A (cW k z g π r) t) A) args s 0 0 A) (F0 m 38 ls []) := by
  rw [Rd_fraction_38] at hm
  refine z_aload_n C dX6_fraction_38 rfl (lv_at hl 0 rfl) ?_
  refine cg_7_0 C h (sh_44 hS) cU_X6 (List.mem_cons_of_mem _ wl_X6_31) dX6_fraction_39 ?_
  refine cg_9_9 C h (sh_1 hS) cU_X8 (List.mem_cons_of_mem _ wl_X6_235) dX6_fraction_42 ?_
  refine lv_istore_n (lv' := [(3, .int (Int32.ofInt (fl σ 189 1))), (0, rfv g 44), (1, rfv g x1), (2, .int (Int32.ofInt x2))]) C.1 C.2.1 dX6_fraction_45 rfl hl (by decide) rfl (fun ls hl => ?_)
  refine z_aload_n C dX6_fraction_46 rfl (lv_at hl 1 rfl) ?_
  refine cg_7_0 C h (sh_44 hS) cU_X6 (List.mem_cons_of_mem _ wl_X6_31) dX6_fraction_47 ?_
  refine cg_9_10 C h (sh_1 hS) cU_X8 (List.mem_cons_of_mem _ wl_X6_238) dX6_fraction_50 ?_
  refine lv_istore (lv' := [(4, .int (Int32.ofInt (fl σ 190 1))), (3, .int (Int32.ofInt (fl σ 189 1))), (0, rfv g 44), (1, rfv g x1), (2, .int (Int32.ofInt x2))]) C.1 C.2.1 dX6_fraction_53 hl (by decide) rfl (fun ls hl => ?_)
  refine z_aload_n C dX6_fraction_55 rfl (lv_at hl 3 rfl) ?_
  obtain ⟨g8, hm⟩ := grd_s hm
  refine cg_6_0 C h g8 cU_X5 (List.mem_cons_of_mem _ wl_X6_218) dX6_fraction_56 ?_
  obtain ⟨g9, hm⟩ := grd_s hm
  refine z_if_eq (tgt := 70) C dX6_fraction_59 (by decide) g9 (fun c10 => ?_) (fun c10 => ?_)
  · have hm := ite_t c10 hm
    exact kl_Rd_fraction_70 (N := N) C hr hlk hE hS (lv_sub hl [2, 3, 4, 1, 0] rfl) h hm
  · have hm := ite_f c10 hm
    refine z_aload_n C dX6_fraction_62 rfl (lv_at hl 3 rfl) ?_
    refine cg_6_0 C h g8 cU_X5 (List.mem_cons_of_mem _ wl_X6_218) dX6_fraction_63 ?_
    refine lv_iconst (v := Int32.ofInt 1) C.1 C.2.1 dX6_fraction_66 (by decide) ?_
    refine z_icmp_ne (tgt := 74) C dX6_fraction_67 (by decide) g9 (by decide) (fun c11 => ?_) (fun c11 => ?_)
    · have hm := ite_f c11 hm
      refine lv_iconst (v := Int32.ofInt 0) C.1 C.2.1 dX6_fraction_74 (by decide) ?_
      exact kl_Rd_fraction_75 (N := N) C hr hlk hE hS (lv_sub hl [2, 3, 4, 1, 0] rfl) h hm
    · have hm := ite_t c11 hm
      exact kl_Rd_fraction_70 (N := N) C hr hlk hE hS (lv_sub hl [2, 3, 4, 1, 0] rfl) h hm
set_option maxHeartbeats 8000000 in
set_option maxRecDepth 100000 in
theorem kc_Rd_fraction (l : Launch) (D : va_G) (k : Nat → ClassId) (z mi : Nat) (aK aV : Nat → Nat) (g : Nat → Nat) (N : Nat)    {π : Sh} {σ : St} {x1 : Int} {x2 : Int} {r : St} (hS : SHs π) (hm : Rd_fraction N π σ x1 x2 = some r) : Mv l yX6_fraction (.code yX6_fraction cX6_fraction 9 none :: cWd) { frames := 4, cells := 0, slots := 0, locals := 88 } [rfv g 44, rfv g x1, .int (Int32.ofInt x2)] D (TYs k) (cW k z g π σ) (XV z mi aK aV (cW k z g π σ)) Unit (fun _ => True) (fun _ => cW k z g π r) 0 0 := by
  intro sz
  refine v_met (cc := cX6_fraction) (maxL := 9) (ret := none) (lv := [(0, rfv g 44), (1, rfv g x1), (2, .int (Int32.ofInt x2))]) (by decide) rfl (by simp [lg_sl, rfv_cat, cat_i, cat_l]) (by simp [lv_args, rfv_cat, cat_i, cat_l]) ?_
  intro p e s m below meth c ls C hE hr hlk hmn hl h
  rw [Rd_fraction] at hm
  refine z_aload_n C dX6_fraction_0 rfl (lv_at hl 0 rfl) ?_
  refine cg_7_0 C h (sh_44 hS) cU_X6 (List.mem_cons_of_mem _ wl_X6_31) dX6_fraction_1 ?_
  refine cg_9_5 C h (sh_1 hS) cU_X8 (List.mem_cons_of_mem _ wl_X6_66) dX6_fraction_4 ?_
  refine lv_iconst (v := Int32.ofInt 2) C.1 C.2.1 dX6_fraction_7 (by decide) ?_
  obtain ⟨g1, hm⟩ := grd_s hm
  refine z_icmp_eq (tgt := 38) C dX6_fraction_8 (by decide) g1 (by decide) (fun c2 => ?_) (fun c2 => ?_)
  · have hm := ite_t c2 hm
    exact kl_Rd_fraction_38 (N := N) C hr hlk hE hS (lv_sub hl [0, 1, 2] rfl) h hm
  · have hm := ite_f c2 hm
    refine z_aload_n C dX6_fraction_11 rfl (lv_at hl 0 rfl) ?_
    refine cg_7_0 C h (sh_44 hS) cU_X6 (List.mem_cons_of_mem _ wl_X6_31) dX6_fraction_12 ?_
    refine cg_9_5 C h (sh_1 hS) cU_X8 (List.mem_cons_of_mem _ wl_X6_66) dX6_fraction_15 ?_
    refine lv_iconst (v := Int32.ofInt 3) C.1 C.2.1 dX6_fraction_18 (by decide) ?_
    refine z_icmp_eq (tgt := 38) C dX6_fraction_19 (by decide) g1 (by decide) (fun c3 => ?_) (fun c3 => ?_)
    · have hm := ite_t c3 hm
      exact kl_Rd_fraction_38 (N := N) C hr hlk hE hS (lv_sub hl [0, 1, 2] rfl) h hm
    · have hm := ite_f c3 hm
      refine z_aload_n C dX6_fraction_22 rfl (lv_at hl 0 rfl) ?_
      refine cg_7_0 C h (sh_44 hS) cU_X6 (List.mem_cons_of_mem _ wl_X6_31) dX6_fraction_23 ?_
      refine lv_iconst (v := Int32.ofInt 1) C.1 C.2.1 dX6_fraction_26 (by decide) ?_
      refine z_aload_n C dX6_fraction_27 rfl (lv_at hl 0 rfl) ?_
      refine cg_7_0 C h (sh_44 hS) cU_X6 (List.mem_cons_of_mem _ wl_X6_31) dX6_fraction_28 ?_
      refine cg_9_6 C h (sh_1 hS) cU_X8 (List.mem_cons_of_mem _ wl_X6_81) dX6_fraction_31 ?_
      obtain ⟨r4, e5, hm⟩ := obd_s hm
      refine c_callVvP C hE h (sh_1 hS) rfl (by decide) (kc_Sc_fail l D k z mi aK aV g N hS e5) (cwV 2 C.2.2.1 (gS_X6_84 _) rfl rfl rfl hd_X8_fail ⟨Nat.le_of_ble_eq_true rfl, Nat.le_of_ble_eq_true rfl⟩) rfl hl.1 rfl (Nat.le_of_ble_eq_true rfl) dX6_fraction_34 ⟨(Nat.le_of_ble_eq_true rfl), (Nat.le_of_ble_eq_true rfl)⟩ (fun H locs h => ?_)
      cases hm
      exact c_vretP C h hr hlk dX6_fraction_37
end Z_Rd_fraction
section Z_Rd_wants
variable {p : Program} {l : Launch} {e : Env} {s : State} {m : MethodId} {args : Array Value} {below : List Frame} {meth : Method} {c : Code} {D : va_G} {A : Nat → Prop} {k : Nat → ClassId} {N : Nat} {cd : Cond} {z mi : Nat} {aK aV : Nat → Nat} {g0 : Nat → Nat} {π0 : Sh} {φ ψ : Nat}
set_option maxHeartbeats 8000000 in
set_option maxRecDepth 100000 in
theorem kl_Rd_wants_147 {r : Sh × St} (C : Cx p s m args c cX6_wants RX6 (cd :: cWd) D (TYs k) 5) (hr : meth.sig.returnType = none) (hlk : meth.locks = false) (hE : Ev z mi aK aV A s s.heap) {rArg : Sh → St → Option (Sh × St × Int)} {rFun : Sh → St → Option (Sh × St × Int)} (hφ : 260 ≤ φ) (hψ : 12000 ≤ ψ) (hmrArg : ∀ {π : Sh} {σ : St}  {r : Sh × St × Int}, Cl π σ → rArg π σ  = some r → ext π r.1 ∧ Cl r.1 r.2.1) (hcrArg : ∀ {g : Nat → Nat} {π : Sh} {σ : St}  {r : Sh × St × Int}, Cl π σ → rArg π σ  = some r → Mi l yX6_arg (.code yX6_arg cX6_arg 3 (some .int) :: cWd) { frames := φ, cells := nn r.1 - nn π, slots := sw r.1 - sw π, locals := ψ } [rfv g 44] D (TYs k) (cW k z g π σ) (XV z mi aK aV (cW k z g π σ)) (Nat → Nat) (fun v u => gx (nn π) g u ∧ v = Int32.ofInt r.2.2) (fun u => cW k z u r.1 r.2.1) (nn r.1 - nn π) (sw r.1 - sw π)) (hmrFun : ∀ {π : Sh} {σ : St}  {r : Sh × St × Int}, Cl π σ → rFun π σ  = some r → ext π r.1 ∧ Cl r.1 r.2.1 ∧ r.2.2 < nn r.1) (hcrFun : ∀ {g : Nat → Nat} {π : Sh} {σ : St}  {r : Sh × St × Int}, Cl π σ → rFun π σ  = some r → Mq l yX6_fun (.code yX6_fun cX6_fun 5 (some (.object "CycleStudio$Piece")) :: cWd) { frames := φ, cells := nn r.1 - nn π, slots := sw r.1 - sw π, locals := ψ } [rfv g 44] D (TYs k) (cW k z g π σ) (XV z mi aK aV (cW k z g π σ)) (Nat → Nat) (fun v u => gx (nn π) g u ∧ v = rfo u r.2.2) (fun u => cW k z u r.1 r.2.1) (nn r.1 - nn π) (sw r.1 - sw π)) {rec9 : Sh → St → Int → Int → Int → Option (Sh × St)} (krec9 : ∀ {π : Sh} {σ : St} {x1 : Int} {x2 : Int} {x3 : Int}, Cl π σ → x1 < nn π → rec9 π σ x1 x2 x3 = some r → ext π r.1 ∧ Cl r.1 r.2) (hrec9 : ∀ {ls : Array Slot} {H : Heap} {locs : List Loc} {g : Nat → Nat} {π : Sh} {σ : St} {x1 : Int} {x2 : Int} {x3 : Int}, Cl π σ → gx (nn π0) g0 g → ext π0 π → x1 < nn π → lv_has ls 5 [(0, rfv g 44), (1, rfv g x1), (2, .int (Int32.ofInt x2)), (3, .int (Int32.ofInt x3))] → Hp D A s.heap H locs (cW k z g π σ) → rec9 π σ x1 x2 x3 = some r → W p l e { frames := φ + 1, cells := nn r.1 - nn π0, slots := sw r.1 - sw π0, locals := ψ + 24 } s m args below meth c H locs (nn π - nn π0) (sw π - sw π0) (MQ below (va_Qv (fun u => gx (nn π0) g0 u) (fun u t => PostW D (TYs k) A (cW k z u r.1 r.2) t) A) args s (nn r.1 - nn π0) (sw r.1 - sw π0) A) (F0 m 9 ls [])) {ls : Array Slot} {H : Heap} {locs : List Loc} {g : Nat → Nat} {π : Sh} {σ : St} {x1 : Int} {x2 : Int} {x3 : Int} (hC : Cl π σ) (hG : gx (nn π0) g0 g) (hX : ext π0 π) (hv_x1 : x1 < nn π) (hl : lv_has ls 5 [(0, rfv g 44), (1, rfv g x1), (2, .int (Int32.ofInt x2)), (3, .int (Int32.ofInt x3))]) (h : Hp D A s.heap H locs (cW k z g π σ)) (hm : Rd_wants_147 N rArg rFun rec9 π σ x1 x2 x3 = some r) : W p l e { frames := φ + 1, cells := nn r.1 - nn π0, slots := sw r.1 - sw π0, locals := ψ + 24 } s m args below meth c H locs (nn π - nn π0) (sw π - sw π0) (MQ below (va_Qv (fun u => gx (nn π0) g0 u) (fun u t => PostW D (TYs k) A (cW k z u r.1 r.2) t) A) args s (nn r.1 - nn π0) (sw r.1 - sw π0) A) (F0 m 147 ls []) := by
  have hS := hC.1
  have hq := km_Rd_wants_147 hmrArg hmrFun krec9  hC hv_x1 hm
  rw [Rd_wants_147] at hm
  refine lv_iinc (v := Int32.ofInt (x3 + 1)) (lv' := [(3, .int (Int32.ofInt (x3 + 1))), (0, rfv g 44), (1, rfv g x1), (2, .int (Int32.ofInt x2))]) C.1 C.2.1 dX6_wants_147 hl (k := 3) rfl (c32_add _ _) (by decide) rfl (fun ls hl => ?_)
  refine lv_goto (tgt := 9) C.1 C.2.1 dX6_wants_150 (by decide) ?_
  exact hrec9 hC hG hX hv_x1 (lv_sub hl [1, 2, 3, 0] rfl) h hm
set_option maxHeartbeats 8000000 in
set_option maxRecDepth 100000 in
theorem kl_Rd_wants_144 {r : Sh × St} (C : Cx p s m args c cX6_wants RX6 (cd :: cWd) D (TYs k) 5) (hr : meth.sig.returnType = none) (hlk : meth.locks = false) (hE : Ev z mi aK aV A s s.heap) {rArg : Sh → St → Option (Sh × St × Int)} {rFun : Sh → St → Option (Sh × St × Int)} (hφ : 260 ≤ φ) (hψ : 12000 ≤ ψ) (hmrArg : ∀ {π : Sh} {σ : St}  {r : Sh × St × Int}, Cl π σ → rArg π σ  = some r → ext π r.1 ∧ Cl r.1 r.2.1) (hcrArg : ∀ {g : Nat → Nat} {π : Sh} {σ : St}  {r : Sh × St × Int}, Cl π σ → rArg π σ  = some r → Mi l yX6_arg (.code yX6_arg cX6_arg 3 (some .int) :: cWd) { frames := φ, cells := nn r.1 - nn π, slots := sw r.1 - sw π, locals := ψ } [rfv g 44] D (TYs k) (cW k z g π σ) (XV z mi aK aV (cW k z g π σ)) (Nat → Nat) (fun v u => gx (nn π) g u ∧ v = Int32.ofInt r.2.2) (fun u => cW k z u r.1 r.2.1) (nn r.1 - nn π) (sw r.1 - sw π)) (hmrFun : ∀ {π : Sh} {σ : St}  {r : Sh × St × Int}, Cl π σ → rFun π σ  = some r → ext π r.1 ∧ Cl r.1 r.2.1 ∧ r.2.2 < nn r.1) (hcrFun : ∀ {g : Nat → Nat} {π : Sh} {σ : St}  {r : Sh × St × Int}, Cl π σ → rFun π σ  = some r → Mq l yX6_fun (.code yX6_fun cX6_fun 5 (some (.object "CycleStudio$Piece")) :: cWd) { frames := φ, cells := nn r.1 - nn π, slots := sw r.1 - sw π, locals := ψ } [rfv g 44] D (TYs k) (cW k z g π σ) (XV z mi aK aV (cW k z g π σ)) (Nat → Nat) (fun v u => gx (nn π) g u ∧ v = rfo u r.2.2) (fun u => cW k z u r.1 r.2.1) (nn r.1 - nn π) (sw r.1 - sw π)) {rec9 : Sh → St → Int → Int → Int → Option (Sh × St)} (krec9 : ∀ {π : Sh} {σ : St} {x1 : Int} {x2 : Int} {x3 : Int}, Cl π σ → x1 < nn π → rec9 π σ x1 x2 x3 = some r → ext π r.1 ∧ Cl r.1 r.2) (hrec9 : ∀ {ls : Array Slot} {H : Heap} {locs : List Loc} {g : Nat → Nat} {π : Sh} {σ : St} {x1 : Int} {x2 : Int} {x3 : Int}, Cl π σ → gx (nn π0) g0 g → ext π0 π → x1 < nn π → lv_has ls 5 [(0, rfv g 44), (1, rfv g x1), (2, .int (Int32.ofInt x2)), (3, .int (Int32.ofInt x3))] → Hp D A s.heap H locs (cW k z g π σ) → rec9 π σ x1 x2 x3 = some r → W p l e { frames := φ + 1, cells := nn r.1 - nn π0, slots := sw r.1 - sw π0, locals := ψ + 24 } s m args below meth c H locs (nn π - nn π0) (sw π - sw π0) (MQ below (va_Qv (fun u => gx (nn π0) g0 u) (fun u t => PostW D (TYs k) A (cW k z u r.1 r.2) t) A) args s (nn r.1 - nn π0) (sw r.1 - sw π0) A) (F0 m 9 ls [])) {ls : Array Slot} {H : Heap} {locs : List Loc} {g : Nat → Nat} {π : Sh} {σ : St} {x1 : Int} {x2 : Int} {x3 : Int} {s0 : Int} {s1 : Int} (hC : Cl π σ) (hG : gx (nn π0) g0 g) (hX : ext π0 π) (hv_x1 : x1 < nn π) (hv_s1 : s1 < nn π) (hl : lv_has ls 5 [(0, rfv g 44), (1, rfv g x1), (2, .int (Int32.ofInt x2)), (3, .int (Int32.ofInt x3))]) (h : Hp D A s.heap H locs (cW k z g π σ)) (hm : Rd_wants_144 N rArg rFun rec9 π σ x1 x2 x3 s0 s1 = some r) : W p l e { frames := φ + 1, cells := nn r.1 - nn π0, slots := sw r.1 - sw π0, locals := ψ + 24 } s m args below meth c H locs (nn π - nn π0) (sw π - sw π0) (MQ below (va_Qv (fun u => gx (nn π0) g0 u) (fun u t => PostW D (TYs k) A (cW k z u r.1 r.2) t) A) args s (nn r.1 - nn π0) (sw r.1 - sw π0) A) (F0 m 144 ls [.int (Int32.ofInt s0), rfv g s1]) := by
  have hS := hC.1
  have hq := km_Rd_wants_144 hmrArg hmrFun krec9  hC hv_x1 hv_s1 hm
  rw [Rd_wants_144] at hm
  obtain ⟨r37, e38, hm⟩ := obd_s hm
  have q39 := (km_Pc_give hC hv_s1 e38)
  obtain ⟨g40, hm⟩ := grd_s hm
  refine c_callVvP C hE h g40 rfl (by decide) (kc_Pc_give l D k z mi aK aV g N hS e38) (cwV 1 C.2.2.1 (gS_X6_216 _) rfl rfl rfl hd_X5_give ⟨(by show 0 + 1 ≤ φ + 1; omega), (by show 8 + (2 + 11) + 0 ≤ ψ + 24; omega)⟩) rfl hl.1 rfl (Nat.le_of_ble_eq_true rfl) dX6_wants_144 ⟨(czz hX hq.1), (szz hX hq.1)⟩ (fun H locs h => ?_)
  have hC41 : Cl π r37 := q39
  exact kl_Rd_wants_147 (N := N) C hr hlk hE hφ hψ hmrArg hcrArg hmrFun hcrFun krec9 hrec9 hC41 hG hX hv_x1 (lv_sub hl [0, 1, 2, 3] rfl) h hm
set_option maxHeartbeats 8000000 in
set_option maxRecDepth 100000 in
theorem kl_Rd_wants_99 {r : Sh × St} (C : Cx p s m args c cX6_wants RX6 (cd :: cWd) D (TYs k) 5) (hr : meth.sig.returnType = none) (hlk : meth.locks = false) (hE : Ev z mi aK aV A s s.heap) {rArg : Sh → St → Option (Sh × St × Int)} {rFun : Sh → St → Option (Sh × St × Int)} (hφ : 260 ≤ φ) (hψ : 12000 ≤ ψ) (hmrArg : ∀ {π : Sh} {σ : St}  {r : Sh × St × Int}, Cl π σ → rArg π σ  = some r → ext π r.1 ∧ Cl r.1 r.2.1) (hcrArg : ∀ {g : Nat → Nat} {π : Sh} {σ : St}  {r : Sh × St × Int}, Cl π σ → rArg π σ  = some r → Mi l yX6_arg (.code yX6_arg cX6_arg 3 (some .int) :: cWd) { frames := φ, cells := nn r.1 - nn π, slots := sw r.1 - sw π, locals := ψ } [rfv g 44] D (TYs k) (cW k z g π σ) (XV z mi aK aV (cW k z g π σ)) (Nat → Nat) (fun v u => gx (nn π) g u ∧ v = Int32.ofInt r.2.2) (fun u => cW k z u r.1 r.2.1) (nn r.1 - nn π) (sw r.1 - sw π)) (hmrFun : ∀ {π : Sh} {σ : St}  {r : Sh × St × Int}, Cl π σ → rFun π σ  = some r → ext π r.1 ∧ Cl r.1 r.2.1 ∧ r.2.2 < nn r.1) (hcrFun : ∀ {g : Nat → Nat} {π : Sh} {σ : St}  {r : Sh × St × Int}, Cl π σ → rFun π σ  = some r → Mq l yX6_fun (.code yX6_fun cX6_fun 5 (some (.object "CycleStudio$Piece")) :: cWd) { frames := φ, cells := nn r.1 - nn π, slots := sw r.1 - sw π, locals := ψ } [rfv g 44] D (TYs k) (cW k z g π σ) (XV z mi aK aV (cW k z g π σ)) (Nat → Nat) (fun v u => gx (nn π) g u ∧ v = rfo u r.2.2) (fun u => cW k z u r.1 r.2.1) (nn r.1 - nn π) (sw r.1 - sw π)) {rec9 : Sh → St → Int → Int → Int → Option (Sh × St)} (krec9 : ∀ {π : Sh} {σ : St} {x1 : Int} {x2 : Int} {x3 : Int}, Cl π σ → x1 < nn π → rec9 π σ x1 x2 x3 = some r → ext π r.1 ∧ Cl r.1 r.2) (hrec9 : ∀ {ls : Array Slot} {H : Heap} {locs : List Loc} {g : Nat → Nat} {π : Sh} {σ : St} {x1 : Int} {x2 : Int} {x3 : Int}, Cl π σ → gx (nn π0) g0 g → ext π0 π → x1 < nn π → lv_has ls 5 [(0, rfv g 44), (1, rfv g x1), (2, .int (Int32.ofInt x2)), (3, .int (Int32.ofInt x3))] → Hp D A s.heap H locs (cW k z g π σ) → rec9 π σ x1 x2 x3 = some r → W p l e { frames := φ + 1, cells := nn r.1 - nn π0, slots := sw r.1 - sw π0, locals := ψ + 24 } s m args below meth c H locs (nn π - nn π0) (sw π - sw π0) (MQ below (va_Qv (fun u => gx (nn π0) g0 u) (fun u t => PostW D (TYs k) A (cW k z u r.1 r.2) t) A) args s (nn r.1 - nn π0) (sw r.1 - sw π0) A) (F0 m 9 ls [])) {ls : Array Slot} {H : Heap} {locs : List Loc} {g : Nat → Nat} {π : Sh} {σ : St} {x1 : Int} {x2 : Int} {x3 : Int} {s0 : Int} {s1 : Int} (hC : Cl π σ) (hG : gx (nn π0) g0 g) (hX : ext π0 π) (hv_x1 : x1 < nn π) (hv_s1 : s1 < nn π) (hl : lv_has ls 5 [(0, rfv g 44), (1, rfv g x1), (2, .int (Int32.ofInt x2)), (3, .int (Int32.ofInt x3))]) (h : Hp D A s.heap H locs (cW k z g π σ)) (hm : Rd_wants_99 N rArg rFun rec9 π σ x1 x2 x3 s0 s1 = some r) : W p l e { frames := φ + 1, cells := nn r.1 - nn π0, slots := sw r.1 - sw π0, locals := ψ + 24 } s m args below meth c H locs (nn π - nn π0) (sw π - sw π0) (MQ below (va_Qv (fun u => gx (nn π0) g0 u) (fun u t => PostW D (TYs k) A (cW k z u r.1 r.2) t) A) args s (nn r.1 - nn π0) (sw r.1 - sw π0) A) (F0 m 99 ls [.int (Int32.ofInt s0), rfv g s1, rfv g 44]) := by
  have hS := hC.1
  have hq := km_Rd_wants_99 hmrArg hmrFun krec9  hC hv_x1 hv_s1 hm
  rw [Rd_wants_99] at hm
  obtain ⟨r28, e29, hm⟩ := obd_s hm
  have q30 := (km_Rd_fraction hC hv_s1 e29)
  refine c_callVvP C hE h (sh_44 hS) rfl (by decide) (kc_Rd_fraction l D k z mi aK aV g N hS e29) (cwV 2 C.2.2.1 (gS_X6_221 _) rfl rfl rfl hd_X6_fraction ⟨(by show 4 + 1 ≤ φ + 1; omega), (by show 8 + (9 + 11) + 88 ≤ ψ + 24; omega)⟩) rfl hl.1 rfl (Nat.le_of_ble_eq_true rfl) dX6_wants_99 ⟨(czz hX hq.1), (szz hX hq.1)⟩ (fun H locs h => ?_)
  have hC31 : Cl π r28 := q30
  refine lv_goto (tgt := 147) C.1 C.2.1 dX6_wants_102 (by decide) ?_
  exact kl_Rd_wants_147 (N := N) C hr hlk hE hφ hψ hmrArg hcrArg hmrFun hcrFun krec9 hrec9 hC31 hG hX hv_x1 (lv_sub hl [0, 1, 2, 3] rfl) h hm
set_option maxHeartbeats 8000000 in
set_option maxRecDepth 100000 in
theorem kl_Rd_wants_127 {r : Sh × St} (C : Cx p s m args c cX6_wants RX6 (cd :: cWd) D (TYs k) 5) (hr : meth.sig.returnType = none) (hlk : meth.locks = false) (hE : Ev z mi aK aV A s s.heap) {rArg : Sh → St → Option (Sh × St × Int)} {rFun : Sh → St → Option (Sh × St × Int)} (hφ : 260 ≤ φ) (hψ : 12000 ≤ ψ) (hmrArg : ∀ {π : Sh} {σ : St}  {r : Sh × St × Int}, Cl π σ → rArg π σ  = some r → ext π r.1 ∧ Cl r.1 r.2.1) (hcrArg : ∀ {g : Nat → Nat} {π : Sh} {σ : St}  {r : Sh × St × Int}, Cl π σ → rArg π σ  = some r → Mi l yX6_arg (.code yX6_arg cX6_arg 3 (some .int) :: cWd) { frames := φ, cells := nn r.1 - nn π, slots := sw r.1 - sw π, locals := ψ } [rfv g 44] D (TYs k) (cW k z g π σ) (XV z mi aK aV (cW k z g π σ)) (Nat → Nat) (fun v u => gx (nn π) g u ∧ v = Int32.ofInt r.2.2) (fun u => cW k z u r.1 r.2.1) (nn r.1 - nn π) (sw r.1 - sw π)) (hmrFun : ∀ {π : Sh} {σ : St}  {r : Sh × St × Int}, Cl π σ → rFun π σ  = some r → ext π r.1 ∧ Cl r.1 r.2.1 ∧ r.2.2 < nn r.1) (hcrFun : ∀ {g : Nat → Nat} {π : Sh} {σ : St}  {r : Sh × St × Int}, Cl π σ → rFun π σ  = some r → Mq l yX6_fun (.code yX6_fun cX6_fun 5 (some (.object "CycleStudio$Piece")) :: cWd) { frames := φ, cells := nn r.1 - nn π, slots := sw r.1 - sw π, locals := ψ } [rfv g 44] D (TYs k) (cW k z g π σ) (XV z mi aK aV (cW k z g π σ)) (Nat → Nat) (fun v u => gx (nn π) g u ∧ v = rfo u r.2.2) (fun u => cW k z u r.1 r.2.1) (nn r.1 - nn π) (sw r.1 - sw π)) {rec9 : Sh → St → Int → Int → Int → Option (Sh × St)} (krec9 : ∀ {π : Sh} {σ : St} {x1 : Int} {x2 : Int} {x3 : Int}, Cl π σ → x1 < nn π → rec9 π σ x1 x2 x3 = some r → ext π r.1 ∧ Cl r.1 r.2) (hrec9 : ∀ {ls : Array Slot} {H : Heap} {locs : List Loc} {g : Nat → Nat} {π : Sh} {σ : St} {x1 : Int} {x2 : Int} {x3 : Int}, Cl π σ → gx (nn π0) g0 g → ext π0 π → x1 < nn π → lv_has ls 5 [(0, rfv g 44), (1, rfv g x1), (2, .int (Int32.ofInt x2)), (3, .int (Int32.ofInt x3))] → Hp D A s.heap H locs (cW k z g π σ) → rec9 π σ x1 x2 x3 = some r → W p l e { frames := φ + 1, cells := nn r.1 - nn π0, slots := sw r.1 - sw π0, locals := ψ + 24 } s m args below meth c H locs (nn π - nn π0) (sw π - sw π0) (MQ below (va_Qv (fun u => gx (nn π0) g0 u) (fun u t => PostW D (TYs k) A (cW k z u r.1 r.2) t) A) args s (nn r.1 - nn π0) (sw r.1 - sw π0) A) (F0 m 9 ls [])) {ls : Array Slot} {H : Heap} {locs : List Loc} {g : Nat → Nat} {π : Sh} {σ : St} {x1 : Int} {x2 : Int} {x3 : Int} {s0 : Int} {s1 : Int} (hC : Cl π σ) (hG : gx (nn π0) g0 g) (hX : ext π0 π) (hv_x1 : x1 < nn π) (hv_s0 : s0 < nn π) (hv_s1 : s1 < nn π) (hl : lv_has ls 5 [(0, rfv g 44), (1, rfv g x1), (2, .int (Int32.ofInt x2)), (3, .int (Int32.ofInt x3))]) (h : Hp D A s.heap H locs (cW k z g π σ)) (hm : Rd_wants_127 N rArg rFun rec9 π σ x1 x2 x3 s0 s1 = some r) : W p l e { frames := φ + 1, cells := nn r.1 - nn π0, slots := sw r.1 - sw π0, locals := ψ + 24 } s m args below meth c H locs (nn π - nn π0) (sw π - sw π0) (MQ below (va_Qv (fun u => gx (nn π0) g0 u) (fun u t => PostW D (TYs k) A (cW k z u r.1 r.2) t) A) args s (nn r.1 - nn π0) (sw r.1 - sw π0) A) (F0 m 127 ls [rfv g s0, rfv g s1]) := by
  have hS := hC.1
  have hq := km_Rd_wants_127 hmrArg hmrFun krec9  hC hv_x1 hv_s0 hv_s1 hm
  rw [Rd_wants_127] at hm
  obtain ⟨g32, hm⟩ := grd_s hm
  refine cp_6_6 C h g32 cU_X5 (List.mem_cons_of_mem _ wl_X6_232) dX6_wants_127 (fun H locs h => ?_)
  refine lv_goto (tgt := 147) C.1 C.2.1 dX6_wants_130 (by decide) ?_
  exact kl_Rd_wants_147 (N := N) C hr hlk hE hφ hψ hmrArg hcrArg hmrFun hcrFun krec9 hrec9 (cl_sfR hC _ _ hv_s0) hG hX hv_x1 (lv_sub hl [0, 1, 2, 3] rfl) h hm
set_option maxHeartbeats 8000000 in
set_option maxRecDepth 100000 in
theorem kl_Rd_wants_116 {r : Sh × St} (C : Cx p s m args c cX6_wants RX6 (cd :: cWd) D (TYs k) 5) (hr : meth.sig.returnType = none) (hlk : meth.locks = false) (hE : Ev z mi aK aV A s s.heap) {rArg : Sh → St → Option (Sh × St × Int)} {rFun : Sh → St → Option (Sh × St × Int)} (hφ : 260 ≤ φ) (hψ : 12000 ≤ ψ) (hmrArg : ∀ {π : Sh} {σ : St}  {r : Sh × St × Int}, Cl π σ → rArg π σ  = some r → ext π r.1 ∧ Cl r.1 r.2.1) (hcrArg : ∀ {g : Nat → Nat} {π : Sh} {σ : St}  {r : Sh × St × Int}, Cl π σ → rArg π σ  = some r → Mi l yX6_arg (.code yX6_arg cX6_arg 3 (some .int) :: cWd) { frames := φ, cells := nn r.1 - nn π, slots := sw r.1 - sw π, locals := ψ } [rfv g 44] D (TYs k) (cW k z g π σ) (XV z mi aK aV (cW k z g π σ)) (Nat → Nat) (fun v u => gx (nn π) g u ∧ v = Int32.ofInt r.2.2) (fun u => cW k z u r.1 r.2.1) (nn r.1 - nn π) (sw r.1 - sw π)) (hmrFun : ∀ {π : Sh} {σ : St}  {r : Sh × St × Int}, Cl π σ → rFun π σ  = some r → ext π r.1 ∧ Cl r.1 r.2.1 ∧ r.2.2 < nn r.1) (hcrFun : ∀ {g : Nat → Nat} {π : Sh} {σ : St}  {r : Sh × St × Int}, Cl π σ → rFun π σ  = some r → Mq l yX6_fun (.code yX6_fun cX6_fun 5 (some (.object "CycleStudio$Piece")) :: cWd) { frames := φ, cells := nn r.1 - nn π, slots := sw r.1 - sw π, locals := ψ } [rfv g 44] D (TYs k) (cW k z g π σ) (XV z mi aK aV (cW k z g π σ)) (Nat → Nat) (fun v u => gx (nn π) g u ∧ v = rfo u r.2.2) (fun u => cW k z u r.1 r.2.1) (nn r.1 - nn π) (sw r.1 - sw π)) {rec9 : Sh → St → Int → Int → Int → Option (Sh × St)} (krec9 : ∀ {π : Sh} {σ : St} {x1 : Int} {x2 : Int} {x3 : Int}, Cl π σ → x1 < nn π → rec9 π σ x1 x2 x3 = some r → ext π r.1 ∧ Cl r.1 r.2) (hrec9 : ∀ {ls : Array Slot} {H : Heap} {locs : List Loc} {g : Nat → Nat} {π : Sh} {σ : St} {x1 : Int} {x2 : Int} {x3 : Int}, Cl π σ → gx (nn π0) g0 g → ext π0 π → x1 < nn π → lv_has ls 5 [(0, rfv g 44), (1, rfv g x1), (2, .int (Int32.ofInt x2)), (3, .int (Int32.ofInt x3))] → Hp D A s.heap H locs (cW k z g π σ) → rec9 π σ x1 x2 x3 = some r → W p l e { frames := φ + 1, cells := nn r.1 - nn π0, slots := sw r.1 - sw π0, locals := ψ + 24 } s m args below meth c H locs (nn π - nn π0) (sw π - sw π0) (MQ below (va_Qv (fun u => gx (nn π0) g0 u) (fun u t => PostW D (TYs k) A (cW k z u r.1 r.2) t) A) args s (nn r.1 - nn π0) (sw r.1 - sw π0) A) (F0 m 9 ls [])) {ls : Array Slot} {H : Heap} {locs : List Loc} {g : Nat → Nat} {π : Sh} {σ : St} {x1 : Int} {x2 : Int} {x3 : Int} {s0 : Int} {s1 : Int} (hC : Cl π σ) (hG : gx (nn π0) g0 g) (hX : ext π0 π) (hv_x1 : x1 < nn π) (hv_s1 : s1 < nn π) (hl : lv_has ls 5 [(0, rfv g 44), (1, rfv g x1), (2, .int (Int32.ofInt x2)), (3, .int (Int32.ofInt x3))]) (h : Hp D A s.heap H locs (cW k z g π σ)) (hm : Rd_wants_116 N rArg rFun rec9 π σ x1 x2 x3 s0 s1 = some r) : W p l e { frames := φ + 1, cells := nn r.1 - nn π0, slots := sw r.1 - sw π0, locals := ψ + 24 } s m args below meth c H locs (nn π - nn π0) (sw π - sw π0) (MQ below (va_Qv (fun u => gx (nn π0) g0 u) (fun u t => PostW D (TYs k) A (cW k z u r.1 r.2) t) A) args s (nn r.1 - nn π0) (sw r.1 - sw π0) A) (F0 m 116 ls [.int (Int32.ofInt s0), rfv g s1, rfv g 44]) := by
  have hS := hC.1
  have hq := km_Rd_wants_116 hmrArg hmrFun krec9  hC hv_x1 hv_s1 hm
  rw [Rd_wants_116] at hm
  obtain ⟨r33, e34, hm⟩ := obd_s hm
  have q35 := (km_Rd_count hC hv_s1 e34)
  refine c_callVvP C hE h (sh_44 hS) rfl (by decide) (kc_Rd_count l D k z mi aK aV g N hS e34) (cwV 2 C.2.2.1 (gS_X6_225 _) rfl rfl rfl hd_X6_count ⟨(by show 4 + 1 ≤ φ + 1; omega), (by show 8 + (6 + 11) + 88 ≤ ψ + 24; omega)⟩) rfl hl.1 rfl (Nat.le_of_ble_eq_true rfl) dX6_wants_116 ⟨(czz hX hq.1), (szz hX hq.1)⟩ (fun H locs h => ?_)
  have hC36 : Cl π r33 := q35
  refine lv_goto (tgt := 147) C.1 C.2.1 dX6_wants_119 (by decide) ?_
  exact kl_Rd_wants_147 (N := N) C hr hlk hE hφ hψ hmrArg hcrArg hmrFun hcrFun krec9 hrec9 hC36 hG hX hv_x1 (lv_sub hl [0, 1, 2, 3] rfl) h hm
set_option maxHeartbeats 8000000 in
set_option maxRecDepth 100000 in
theorem kl_Rd_wants_44 {r : Sh × St} (C : Cx p s m args c cX6_wants RX6 (cd :: cWd) D (TYs k) 5) (hr : meth.sig.returnType = none) (hlk : meth.locks = false) (hE : Ev z mi aK aV A s s.heap) {rArg : Sh → St → Option (Sh × St × Int)} {rFun : Sh → St → Option (Sh × St × Int)} (hφ : 260 ≤ φ) (hψ : 12000 ≤ ψ) (hmrArg : ∀ {π : Sh} {σ : St}  {r : Sh × St × Int}, Cl π σ → rArg π σ  = some r → ext π r.1 ∧ Cl r.1 r.2.1) (hcrArg : ∀ {g : Nat → Nat} {π : Sh} {σ : St}  {r : Sh × St × Int}, Cl π σ → rArg π σ  = some r → Mi l yX6_arg (.code yX6_arg cX6_arg 3 (some .int) :: cWd) { frames := φ, cells := nn r.1 - nn π, slots := sw r.1 - sw π, locals := ψ } [rfv g 44] D (TYs k) (cW k z g π σ) (XV z mi aK aV (cW k z g π σ)) (Nat → Nat) (fun v u => gx (nn π) g u ∧ v = Int32.ofInt r.2.2) (fun u => cW k z u r.1 r.2.1) (nn r.1 - nn π) (sw r.1 - sw π)) (hmrFun : ∀ {π : Sh} {σ : St}  {r : Sh × St × Int}, Cl π σ → rFun π σ  = some r → ext π r.1 ∧ Cl r.1 r.2.1 ∧ r.2.2 < nn r.1) (hcrFun : ∀ {g : Nat → Nat} {π : Sh} {σ : St}  {r : Sh × St × Int}, Cl π σ → rFun π σ  = some r → Mq l yX6_fun (.code yX6_fun cX6_fun 5 (some (.object "CycleStudio$Piece")) :: cWd) { frames := φ, cells := nn r.1 - nn π, slots := sw r.1 - sw π, locals := ψ } [rfv g 44] D (TYs k) (cW k z g π σ) (XV z mi aK aV (cW k z g π σ)) (Nat → Nat) (fun v u => gx (nn π) g u ∧ v = rfo u r.2.2) (fun u => cW k z u r.1 r.2.1) (nn r.1 - nn π) (sw r.1 - sw π)) {rec9 : Sh → St → Int → Int → Int → Option (Sh × St)} (krec9 : ∀ {π : Sh} {σ : St} {x1 : Int} {x2 : Int} {x3 : Int}, Cl π σ → x1 < nn π → rec9 π σ x1 x2 x3 = some r → ext π r.1 ∧ Cl r.1 r.2) (hrec9 : ∀ {ls : Array Slot} {H : Heap} {locs : List Loc} {g : Nat → Nat} {π : Sh} {σ : St} {x1 : Int} {x2 : Int} {x3 : Int}, Cl π σ → gx (nn π0) g0 g → ext π0 π → x1 < nn π → lv_has ls 5 [(0, rfv g 44), (1, rfv g x1), (2, .int (Int32.ofInt x2)), (3, .int (Int32.ofInt x3))] → Hp D A s.heap H locs (cW k z g π σ) → rec9 π σ x1 x2 x3 = some r → W p l e { frames := φ + 1, cells := nn r.1 - nn π0, slots := sw r.1 - sw π0, locals := ψ + 24 } s m args below meth c H locs (nn π - nn π0) (sw π - sw π0) (MQ below (va_Qv (fun u => gx (nn π0) g0 u) (fun u t => PostW D (TYs k) A (cW k z u r.1 r.2) t) A) args s (nn r.1 - nn π0) (sw r.1 - sw π0) A) (F0 m 9 ls [])) {ls : Array Slot} {H : Heap} {locs : List Loc} {g : Nat → Nat} {π : Sh} {σ : St} {x1 : Int} {x2 : Int} {x3 : Int} {s0 : Int} (hC : Cl π σ) (hG : gx (nn π0) g0 g) (hX : ext π0 π) (hv_x1 : x1 < nn π) (hl : lv_has ls 5 [(0, rfv g 44), (1, rfv g x1), (2, .int (Int32.ofInt x2)), (3, .int (Int32.ofInt x3))]) (h : Hp D A s.heap H locs (cW k z g π σ)) (hm : Rd_wants_44 N rArg rFun rec9 π σ x1 x2 x3 s0 = some r) : W p l e { frames := φ + 1, cells := nn r.1 - nn π0, slots := sw r.1 - sw π0, locals := ψ + 24 } s m args below meth c H locs (nn π - nn π0) (sw π - sw π0) (MQ below (va_Qv (fun u => gx (nn π0) g0 u) (fun u t => PostW D (TYs k) A (cW k z u r.1 r.2) t) A) args s (nn r.1 - nn π0) (sw r.1 - sw π0) A) (F0 m 44 ls [.int (Int32.ofInt s0)]) := by
  have hS := hC.1
  have hq := km_Rd_wants_44 hmrArg hmrFun krec9  hC hv_x1 hm
  rw [Rd_wants_44] at hm
  refine lv_istore (lv' := [(4, .int (Int32.ofInt s0)), (0, rfv g 44), (1, rfv g x1), (2, .int (Int32.ofInt x2)), (3, .int (Int32.ofInt x3))]) C.1 C.2.1 dX6_wants_44 hl (by decide) rfl (fun ls hl => ?_)
  refine v_ldcS C hE.1.2.2.2.2.2.2.2.2.2.2.1 dX6_wants_46 ?_
  refine lv_iload_n C.1 C.2.1 dX6_wants_48 rfl (lv_at hl 3 rfl) ?_
  refine lv_iload_n C.1 C.2.1 dX6_wants_49 rfl (lv_at hl 4 rfl) ?_
  refine z_iadd C dX6_wants_50 ?_
  obtain ⟨g11, hm⟩ := grd_s hm
  refine v_charAt C hE h g11 dX6_wants_51 (cwV 1 C.2.2.1 (gS_charAt _) rfl rfl rfl hd_charAt ⟨(by show 3 + 1 ≤ φ + 1; omega), (by show 8 + (2 + 11) + 64 ≤ ψ + 24; omega)⟩) hl.1 (Nat.le_of_ble_eq_true rfl) ⟨(czz hX hq.1), (szz hX hq.1)⟩ (fun H locs h => ?_)
  obtain ⟨g12, hm⟩ := grd_s hm
  by_cases c13 : (chW (x2 + x3)) = 65
  · refine x_topi (congrArg Int32.ofInt c13) ?_
    have hm := ite_t c13 hm
    refine lv_lookup (off := 34) (tgt := 88) C.1 C.2.1 dX6_wants_54 (by decide) (by decide) (by decide) ?_
    refine z_aload_n C dX6_wants_88 rfl (lv_at hl 1 rfl) ?_
    refine z_aload_n C dX6_wants_89 rfl (lv_at hl 2 rfl) ?_
    refine lv_iload_n C.1 C.2.1 dX6_wants_90 rfl (lv_at hl 4 rfl) ?_
    obtain ⟨g14, hm⟩ := grd_s hm
    refine z_if_ne (tgt := 98) C dX6_wants_91 (by decide) g14 (fun c15 => ?_) (fun c15 => ?_)
    · have hm := ite_f c15 hm
      refine lv_iconst (v := Int32.ofInt 0) C.1 C.2.1 dX6_wants_98 (by decide) ?_
      exact kl_Rd_wants_99 (N := N) C hr hlk hE hφ hψ hmrArg hcrArg hmrFun hcrFun krec9 hrec9 hC hG hX hv_x1 hv_x1 (lv_sub hl [1, 2, 3, 4] rfl) h hm
    · have hm := ite_t c15 hm
      refine lv_iconst (v := Int32.ofInt 1) C.1 C.2.1 dX6_wants_94 (by decide) ?_
      refine lv_goto (tgt := 99) C.1 C.2.1 dX6_wants_95 (by decide) ?_
      exact kl_Rd_wants_99 (N := N) C hr hlk hE hφ hψ hmrArg hcrArg hmrFun hcrFun krec9 hrec9 hC hG hX hv_x1 hv_x1 (lv_sub hl [1, 2, 3, 4] rfl) h hm
  have hm := ite_f c13 hm
  by_cases c16 : (chW (x2 + x3)) = 70
  · refine x_topi (congrArg Int32.ofInt c16) ?_
    have hm := ite_t c16 hm
    refine lv_lookup (off := 68) (tgt := 122) C.1 C.2.1 dX6_wants_54 (by decide) (by decide) (by decide) ?_
    refine z_aload_n C dX6_wants_122 rfl (lv_at hl 2 rfl) ?_
    refine z_aload_n C dX6_wants_123 rfl (lv_at hl 1 rfl) ?_
    obtain ⟨r17, e18, hm⟩ := obd_s hm
    have q19 := (hmrFun hC e18)
    have q := km_Rd_wants_127 hmrArg hmrFun krec9 q19.2.1 (lt_ext hv_x1 q19.1) q19.2.2 (lt_ext hv_x1 q19.1) hm
    refine c_callVqA C hE h (sh_44 hS) rfl (by decide) (hcrFun hC e18) (cwV 0 C.2.2.1 (gS_X6_228 _) rfl rfl rfl hd_X6_fun ⟨(by show φ + 1 ≤ φ + 1; omega), (by show 8 + (5 + 11) + ψ ≤ ψ + 24; omega)⟩) rfl hl.1 rfl (by simp [rfv_cat, cat_i, cat_l]) dX6_wants_124 ⟨rcC hX q19.1 q.1, rsC hX q19.1 q.1⟩ (fun u H locs hg h => ?_)
    simp only [← gx_rfv hg (sh_44 hS).2.1, ← gx_rfv hg hv_x1] at hl
    try simp only [← gx_rfv hg (sh_44 hS).2.1, ← gx_rfv hg hv_x1]
    refine W_cast (wcC hX q19.1).symm (wsC hX q19.1).symm ?_
    exact kl_Rd_wants_127 (N := N) C hr hlk hE hφ hψ hmrArg hcrArg hmrFun hcrFun krec9 hrec9 q19.2.1 (hG.tr hg hX.1) (hX.tr q19.1) (lt_ext hv_x1 q19.1) q19.2.2 (lt_ext hv_x1 q19.1) (lv_sub hl [1, 2, 3, 4] rfl) h hm
  have hm := ite_f c16 hm
  by_cases c20 : (chW (x2 + x3)) = 78
  · refine x_topi (congrArg Int32.ofInt c20) ?_
    have hm := ite_t c20 hm
    refine lv_lookup (off := 51) (tgt := 105) C.1 C.2.1 dX6_wants_54 (by decide) (by decide) (by decide) ?_
    refine z_aload_n C dX6_wants_105 rfl (lv_at hl 1 rfl) ?_
    refine z_aload_n C dX6_wants_106 rfl (lv_at hl 2 rfl) ?_
    refine lv_iload_n C.1 C.2.1 dX6_wants_107 rfl (lv_at hl 4 rfl) ?_
    obtain ⟨g21, hm⟩ := grd_s hm
    refine z_if_ne (tgt := 115) C dX6_wants_108 (by decide) g21 (fun c22 => ?_) (fun c22 => ?_)
    · have hm := ite_f c22 hm
      refine lv_iconst (v := Int32.ofInt 0) C.1 C.2.1 dX6_wants_115 (by decide) ?_
      exact kl_Rd_wants_116 (N := N) C hr hlk hE hφ hψ hmrArg hcrArg hmrFun hcrFun krec9 hrec9 hC hG hX hv_x1 hv_x1 (lv_sub hl [1, 2, 3, 4] rfl) h hm
    · have hm := ite_t c22 hm
      refine lv_iconst (v := Int32.ofInt 1) C.1 C.2.1 dX6_wants_111 (by decide) ?_
      refine lv_goto (tgt := 116) C.1 C.2.1 dX6_wants_112 (by decide) ?_
      exact kl_Rd_wants_116 (N := N) C hr hlk hE hφ hψ hmrArg hcrArg hmrFun hcrFun krec9 hrec9 hC hG hX hv_x1 hv_x1 (lv_sub hl [1, 2, 3, 4] rfl) h hm
  have hm := ite_f c20 hm
  refine lv_lookup (off := 79) (tgt := 133) C.1 C.2.1 dX6_wants_54 (by decide) (by rw [c32_ti g12]; simp only [Op.lookupswitch.offset]; split <;> first | omega | (split <;> first | omega | (split <;> first | omega | rfl))) (by decide) ?_
  refine lv_iload C.1 C.2.1 dX6_wants_133 (lv_at hl 0 rfl) ?_
  obtain ⟨g23, hm⟩ := grd_s hm
  refine z_if_eq (tgt := 139) C dX6_wants_135 (by decide) g23 (fun c24 => ?_) (fun c24 => ?_)
  · have hm := ite_t c24 hm
    refine z_aload_n C dX6_wants_139 rfl (lv_at hl 2 rfl) ?_
    refine z_aload_n C dX6_wants_140 rfl (lv_at hl 1 rfl) ?_
    obtain ⟨r25, e26, hm⟩ := obd_s hm
    have q27 := (hmrArg hC e26)
    have q := km_Rd_wants_144 hmrArg hmrFun krec9 q27.2 (lt_ext hv_x1 q27.1) (lt_ext hv_x1 q27.1) hm
    refine c_callViA C hE h (sh_44 hS) rfl (by decide) (hcrArg hC e26) (cwV 0 C.2.2.1 (gS_X6_162 _) rfl rfl rfl hd_X6_arg ⟨(by show φ + 1 ≤ φ + 1; omega), (by show 8 + (3 + 11) + ψ ≤ ψ + 24; omega)⟩) rfl hl.1 rfl (by simp [rfv_cat, cat_i, cat_l]) dX6_wants_141 ⟨rcC hX q27.1 q.1, rsC hX q27.1 q.1⟩ (fun u H locs hg h => ?_)
    simp only [← gx_rfv hg (sh_44 hS).2.1, ← gx_rfv hg hv_x1] at hl
    try simp only [← gx_rfv hg (sh_44 hS).2.1, ← gx_rfv hg hv_x1]
    refine W_cast (wcC hX q27.1).symm (wsC hX q27.1).symm ?_
    exact kl_Rd_wants_144 (N := N) C hr hlk hE hφ hψ hmrArg hcrArg hmrFun hcrFun krec9 hrec9 q27.2 (hG.tr hg hX.1) (hX.tr q27.1) (lt_ext hv_x1 q27.1) (lt_ext hv_x1 q27.1) (lv_sub hl [1, 2, 3, 4] rfl) h hm
  · have hm := ite_f c24 hm
    cases hm
    exact c_vretA C hG h hr hlk dX6_wants_138
set_option maxHeartbeats 8000000 in
set_option maxRecDepth 100000 in
theorem kl_Rd_wants_9 {r : Sh × St} (C : Cx p s m args c cX6_wants RX6 (cd :: cWd) D (TYs k) 5) (hr : meth.sig.returnType = none) (hlk : meth.locks = false) (hE : Ev z mi aK aV A s s.heap) {rArg : Sh → St → Option (Sh × St × Int)} {rFun : Sh → St → Option (Sh × St × Int)} (hφ : 260 ≤ φ) (hψ : 12000 ≤ ψ) (hmrArg : ∀ {π : Sh} {σ : St}  {r : Sh × St × Int}, Cl π σ → rArg π σ  = some r → ext π r.1 ∧ Cl r.1 r.2.1) (hcrArg : ∀ {g : Nat → Nat} {π : Sh} {σ : St}  {r : Sh × St × Int}, Cl π σ → rArg π σ  = some r → Mi l yX6_arg (.code yX6_arg cX6_arg 3 (some .int) :: cWd) { frames := φ, cells := nn r.1 - nn π, slots := sw r.1 - sw π, locals := ψ } [rfv g 44] D (TYs k) (cW k z g π σ) (XV z mi aK aV (cW k z g π σ)) (Nat → Nat) (fun v u => gx (nn π) g u ∧ v = Int32.ofInt r.2.2) (fun u => cW k z u r.1 r.2.1) (nn r.1 - nn π) (sw r.1 - sw π)) (hmrFun : ∀ {π : Sh} {σ : St}  {r : Sh × St × Int}, Cl π σ → rFun π σ  = some r → ext π r.1 ∧ Cl r.1 r.2.1 ∧ r.2.2 < nn r.1) (hcrFun : ∀ {g : Nat → Nat} {π : Sh} {σ : St}  {r : Sh × St × Int}, Cl π σ → rFun π σ  = some r → Mq l yX6_fun (.code yX6_fun cX6_fun 5 (some (.object "CycleStudio$Piece")) :: cWd) { frames := φ, cells := nn r.1 - nn π, slots := sw r.1 - sw π, locals := ψ } [rfv g 44] D (TYs k) (cW k z g π σ) (XV z mi aK aV (cW k z g π σ)) (Nat → Nat) (fun v u => gx (nn π) g u ∧ v = rfo u r.2.2) (fun u => cW k z u r.1 r.2.1) (nn r.1 - nn π) (sw r.1 - sw π))  (n : Nat) : ∀ {ls : Array Slot} {H : Heap} {locs : List Loc} {g : Nat → Nat} {π : Sh} {σ : St} {x1 : Int} {x2 : Int} {x3 : Int}, Cl π σ → gx (nn π0) g0 g → ext π0 π → x1 < nn π → lv_has ls 5 [(0, rfv g 44), (1, rfv g x1), (2, .int (Int32.ofInt x2)), (3, .int (Int32.ofInt x3))] → Hp D A s.heap H locs (cW k z g π σ) → Rd_wants_9 N rArg rFun n π σ x1 x2 x3 = some r → W p l e { frames := φ + 1, cells := nn r.1 - nn π0, slots := sw r.1 - sw π0, locals := ψ + 24 } s m args below meth c H locs (nn π - nn π0) (sw π - sw π0) (MQ below (va_Qv (fun u => gx (nn π0) g0 u) (fun u t => PostW D (TYs k) A (cW k z u r.1 r.2) t) A) args s (nn r.1 - nn π0) (sw r.1 - sw π0) A) (F0 m 9 ls []) := by
  induction n with
  | zero => intro ls H locs g π σ x1 x2 x3 hC hG hX hv_x1 hl h hm; cases (show none = some r from hm)
  | succ n hrec9 =>
    intro ls H locs g π σ x1 x2 x3 hC hG hX hv_x1 hl h hm
    have hS := hC.1
    have hq := km_Rd_wants_9 hmrArg hmrFun  (n + 1) hC hv_x1 hm
    have krec9 : ∀ {π : Sh} {σ : St} {x1 : Int} {x2 : Int} {x3 : Int}, Cl π σ → x1 < nn π → Rd_wants_9 N rArg rFun n π σ x1 x2 x3 = some r → ext π r.1 ∧ Cl r.1 r.2 := fun {_ _} {_} {_} {_} => km_Rd_wants_9 hmrArg hmrFun  n
    rw [Rd_wants_9] at hm
    refine lv_iload_n C.1 C.2.1 dX6_wants_9 rfl (lv_at hl 3 rfl) ?_
    refine lv_iconst (v := Int32.ofInt 3) C.1 C.2.1 dX6_wants_10 (by decide) ?_
    obtain ⟨g4, hm⟩ := grd_s hm
    refine z_icmp_ge (tgt := 153) C dX6_wants_11 (by decide) g4 (by decide) (fun c5 => ?_) (fun c5 => ?_)
    · have hm := ite_f c5 hm
      cases hm
      exact c_vretA C hG h hr hlk dX6_wants_153
    · have hm := ite_t c5 hm
      refine z_aload_n C dX6_wants_14 rfl (lv_at hl 0 rfl) ?_
      refine cg_7_0 C h (sh_44 hS) cU_X6 (List.mem_cons_of_mem _ wl_X6_31) dX6_wants_15 ?_
      refine cg_9_2 C h (sh_1 hS) cU_X8 (List.mem_cons_of_mem _ wl_X6_72) dX6_wants_18 ?_
      obtain ⟨g6, hm⟩ := grd_s hm
      refine z_if_ne (tgt := 153) C dX6_wants_21 (by decide) g6 (fun c7 => ?_) (fun c7 => ?_)
      · have hm := ite_f c7 hm
        cases hm
        exact c_vretA C hG h hr hlk dX6_wants_153
      · have hm := ite_t c7 hm
        refine v_ldcS C hE.1.2.2.2.2.2.2.2.2.2.2.1 dX6_wants_24 ?_
        refine lv_iload_n C.1 C.2.1 dX6_wants_26 rfl (lv_at hl 2 rfl) ?_
        refine lv_iload_n C.1 C.2.1 dX6_wants_27 rfl (lv_at hl 3 rfl) ?_
        refine z_iadd C dX6_wants_28 ?_
        refine lv_iconst (v := Int32.ofInt 1) C.1 C.2.1 dX6_wants_29 (by decide) ?_
        refine z_iadd C dX6_wants_30 ?_
        obtain ⟨g8, hm⟩ := grd_s hm
        refine v_charAt C hE h g8 dX6_wants_31 (cwV 1 C.2.2.1 (gS_charAt _) rfl rfl rfl hd_charAt ⟨(by show 3 + 1 ≤ φ + 1; omega), (by show 8 + (2 + 11) + 64 ≤ ψ + 24; omega)⟩) hl.1 (Nat.le_of_ble_eq_true rfl) ⟨(czz hX hq.1), (szz hX hq.1)⟩ (fun H locs h => ?_)
        refine lv_bipush (v := Int32.ofInt 32) C.1 C.2.1 dX6_wants_34 (by decide) ?_
        obtain ⟨g9, hm⟩ := grd_s hm
        refine z_icmp_ne (tgt := 43) C dX6_wants_36 (by decide) g9 (by decide) (fun c10 => ?_) (fun c10 => ?_)
        · have hm := ite_f c10 hm
          refine lv_iconst (v := Int32.ofInt 0) C.1 C.2.1 dX6_wants_43 (by decide) ?_
          exact kl_Rd_wants_44 (N := N) C hr hlk hE hφ hψ hmrArg hcrArg hmrFun hcrFun krec9 hrec9 hC hG hX hv_x1 (lv_sub hl [0, 1, 2, 3] rfl) h hm
        · have hm := ite_t c10 hm
          refine lv_iconst (v := Int32.ofInt 1) C.1 C.2.1 dX6_wants_39 (by decide) ?_
          refine lv_goto (tgt := 44) C.1 C.2.1 dX6_wants_40 (by decide) ?_
          exact kl_Rd_wants_44 (N := N) C hr hlk hE hφ hψ hmrArg hcrArg hmrFun hcrFun krec9 hrec9 hC hG hX hv_x1 (lv_sub hl [0, 1, 2, 3] rfl) h hm
set_option maxHeartbeats 8000000 in
set_option maxRecDepth 100000 in
theorem kc_Rd_wants (l : Launch) (D : va_G) (k : Nat → ClassId) (z mi : Nat) (aK aV : Nat → Nat) (g : Nat → Nat) (N : Nat) {φ ψ : Nat} {rArg : Sh → St → Option (Sh × St × Int)} {rFun : Sh → St → Option (Sh × St × Int)} (hφ : 260 ≤ φ) (hψ : 12000 ≤ ψ) (hmrArg : ∀ {π : Sh} {σ : St}  {r : Sh × St × Int}, Cl π σ → rArg π σ  = some r → ext π r.1 ∧ Cl r.1 r.2.1) (hcrArg : ∀ {g : Nat → Nat} {π : Sh} {σ : St}  {r : Sh × St × Int}, Cl π σ → rArg π σ  = some r → Mi l yX6_arg (.code yX6_arg cX6_arg 3 (some .int) :: cWd) { frames := φ, cells := nn r.1 - nn π, slots := sw r.1 - sw π, locals := ψ } [rfv g 44] D (TYs k) (cW k z g π σ) (XV z mi aK aV (cW k z g π σ)) (Nat → Nat) (fun v u => gx (nn π) g u ∧ v = Int32.ofInt r.2.2) (fun u => cW k z u r.1 r.2.1) (nn r.1 - nn π) (sw r.1 - sw π)) (hmrFun : ∀ {π : Sh} {σ : St}  {r : Sh × St × Int}, Cl π σ → rFun π σ  = some r → ext π r.1 ∧ Cl r.1 r.2.1 ∧ r.2.2 < nn r.1) (hcrFun : ∀ {g : Nat → Nat} {π : Sh} {σ : St}  {r : Sh × St × Int}, Cl π σ → rFun π σ  = some r → Mq l yX6_fun (.code yX6_fun cX6_fun 5 (some (.object "CycleStudio$Piece")) :: cWd) { frames := φ, cells := nn r.1 - nn π, slots := sw r.1 - sw π, locals := ψ } [rfv g 44] D (TYs k) (cW k z g π σ) (XV z mi aK aV (cW k z g π σ)) (Nat → Nat) (fun v u => gx (nn π) g u ∧ v = rfo u r.2.2) (fun u => cW k z u r.1 r.2.1) (nn r.1 - nn π) (sw r.1 - sw π)) {π : Sh} {σ : St} {x1 : Int} {r : Sh × St} (hC : Cl π σ) (hv_x1 : x1 < nn π) (hm : Rd_wants N rArg rFun π σ x1 = some r) : Mv l yX6_wants (.code yX6_wants cX6_wants 5 none :: cWd) { frames := φ + 1, cells := nn r.1 - nn π, slots := sw r.1 - sw π, locals := ψ + 24 } [rfv g 44, rfv g x1] D (TYs k) (cW k z g π σ) (XV z mi aK aV (cW k z g π σ)) (Nat → Nat) (fun u => gx (nn π) g u) (fun u => cW k z u r.1 r.2) (nn r.1 - nn π) (sw r.1 - sw π) := by
  have hS := hC.1
  have hq := km_Rd_wants hmrArg hmrFun hC hv_x1 hm
  intro sz
  refine v_met (cc := cX6_wants) (maxL := 5) (ret := none) (lv := [(0, rfv g 44), (1, rfv g x1)]) (by decide) rfl (by simp [lg_sl, rfv_cat, cat_i, cat_l]) (by simp [lv_args, rfv_cat, cat_i, cat_l]) ?_
  intro p e s m below meth c ls C hE hr hlk hmn hl h
  generalize ([rfv g 44, rfv g x1] : List Value).toArray = args at C ⊢
  have hG := gx.rf (nn π) g
  have hX := ext.rf π
  refine W_cast (Nat.sub_self (nn π)) (Nat.sub_self (sw π)) ?_
  rw [Rd_wants] at hm
  refine z_aload_n C dX6_wants_0 rfl (lv_at hl 1 rfl) ?_
  obtain ⟨g1, hm⟩ := grd_s hm
  refine cg_6_0 C h g1 cU_X5 (List.mem_cons_of_mem _ wl_X6_218) dX6_wants_1 ?_
  refine lv_iconst (v := Int32.ofInt 4) C.1 C.2.1 dX6_wants_4 (by decide) ?_
  refine z_imul C dX6_wants_5 ?_
  obtain ⟨v2, e3, hm⟩ := bnd_s hm
  rw [e3]
  refine lv_istore_n (i := 2) (lv' := [(2, .int (Int32.ofInt v2)), (0, rfv g 44), (1, rfv g x1)]) C.1 C.2.1 dX6_wants_6 rfl hl (by decide) (by simp [rfv_cat, cat_i, cat_l]) (fun ls hl => ?_)
  refine lv_iconst (v := Int32.ofInt 0) C.1 C.2.1 dX6_wants_7 (by decide) ?_
  refine lv_istore_n (lv' := [(3, .int (Int32.ofInt 0)), (2, .int (Int32.ofInt v2)), (0, rfv g 44), (1, rfv g x1)]) C.1 C.2.1 dX6_wants_8 rfl hl (by decide) rfl (fun ls hl => ?_)
  exact kl_Rd_wants_9 (N := N) C hr hlk hE hφ hψ hmrArg hcrArg hmrFun hcrFun N hC hG hX hv_x1 (lv_sub hl [2, 3, 1, 0] rfl) h hm
end Z_Rd_wants
section Z_Rd_named
variable {p : Program} {l : Launch} {e : Env} {s : State} {m : MethodId} {args : Array Value} {below : List Frame} {meth : Method} {c : Code} {D : va_G} {A : Nat → Prop} {k : Nat → ClassId} {N : Nat} {cd : Cond} {z mi : Nat} {aK aV : Nat → Nat} {g0 : Nat → Nat} {π0 : Sh} {φ ψ : Nat}
set_option maxHeartbeats 8000000 in
set_option maxRecDepth 100000 in
theorem kl_Rd_named_46 {r : Sh × St × Int} (C : Cx p s m args c cX6_named RX6 (cd :: cWd) D (TYs k) 5) (hr : meth.sig.returnType = (some (.object "CycleStudio$Piece"))) (hlk : meth.locks = false) (hE : Ev z mi aK aV A s s.heap) {rArg : Sh → St → Option (Sh × St × Int)} {rFun : Sh → St → Option (Sh × St × Int)} (hφ : 260 ≤ φ) (hψ : 12000 ≤ ψ) (hmrArg : ∀ {π : Sh} {σ : St}  {r : Sh × St × Int}, Cl π σ → rArg π σ  = some r → ext π r.1 ∧ Cl r.1 r.2.1) (hcrArg : ∀ {g : Nat → Nat} {π : Sh} {σ : St}  {r : Sh × St × Int}, Cl π σ → rArg π σ  = some r → Mi l yX6_arg (.code yX6_arg cX6_arg 3 (some .int) :: cWd) { frames := φ, cells := nn r.1 - nn π, slots := sw r.1 - sw π, locals := ψ } [rfv g 44] D (TYs k) (cW k z g π σ) (XV z mi aK aV (cW k z g π σ)) (Nat → Nat) (fun v u => gx (nn π) g u ∧ v = Int32.ofInt r.2.2) (fun u => cW k z u r.1 r.2.1) (nn r.1 - nn π) (sw r.1 - sw π)) (hmrFun : ∀ {π : Sh} {σ : St}  {r : Sh × St × Int}, Cl π σ → rFun π σ  = some r → ext π r.1 ∧ Cl r.1 r.2.1 ∧ r.2.2 < nn r.1) (hcrFun : ∀ {g : Nat → Nat} {π : Sh} {σ : St}  {r : Sh × St × Int}, Cl π σ → rFun π σ  = some r → Mq l yX6_fun (.code yX6_fun cX6_fun 5 (some (.object "CycleStudio$Piece")) :: cWd) { frames := φ, cells := nn r.1 - nn π, slots := sw r.1 - sw π, locals := ψ } [rfv g 44] D (TYs k) (cW k z g π σ) (XV z mi aK aV (cW k z g π σ)) (Nat → Nat) (fun v u => gx (nn π) g u ∧ v = rfo u r.2.2) (fun u => cW k z u r.1 r.2.1) (nn r.1 - nn π) (sw r.1 - sw π))  {ls : Array Slot} {H : Heap} {locs : List Loc} {g : Nat → Nat} {π : Sh} {σ : St} {x2 : Int} (hC : Cl π σ) (hG : gx (nn π0) g0 g) (hX : ext π0 π) (hv_x2 : x2 < nn π) (hl : lv_has ls 5 [(2, rfv g x2)]) (h : Hp D A s.heap H locs (cW k z g π σ)) (hm : Rd_named_46 N rArg rFun π σ x2 = some r) : W p l e { frames := φ + 2, cells := nn r.1 - nn π0, slots := sw r.1 - sw π0, locals := ψ + 48 } s m args below meth c H locs (nn π - nn π0) (sw π - sw π0) (MQ below (va_Qq (fun v u => gx (nn π0) g0 u ∧ v = rfo u r.2.2) (fun u t => PostW D (TYs k) A (cW k z u r.1 r.2.1) t) A) args s (nn r.1 - nn π0) (sw r.1 - sw π0) A) (F0 m 46 ls []) := by
  have hS := hC.1
  have hq := km_Rd_named_46 hmrArg hmrFun   hC hv_x2 hm
  rw [Rd_named_46] at hm
  refine z_aload_n C dX6_named_46 rfl (lv_at hl 0 rfl) ?_
  cases hm
  exact c_aretA C hG h hr hlk (Or.inl ⟨_, rfl⟩) dX6_named_47
set_option maxHeartbeats 8000000 in
set_option maxRecDepth 100000 in
theorem kl_Rd_named_97 {r : Sh × St × Int} (C : Cx p s m args c cX6_named RX6 (cd :: cWd) D (TYs k) 5) (hr : meth.sig.returnType = (some (.object "CycleStudio$Piece"))) (hlk : meth.locks = false) (hE : Ev z mi aK aV A s s.heap) {rArg : Sh → St → Option (Sh × St × Int)} {rFun : Sh → St → Option (Sh × St × Int)} (hφ : 260 ≤ φ) (hψ : 12000 ≤ ψ) (hmrArg : ∀ {π : Sh} {σ : St}  {r : Sh × St × Int}, Cl π σ → rArg π σ  = some r → ext π r.1 ∧ Cl r.1 r.2.1) (hcrArg : ∀ {g : Nat → Nat} {π : Sh} {σ : St}  {r : Sh × St × Int}, Cl π σ → rArg π σ  = some r → Mi l yX6_arg (.code yX6_arg cX6_arg 3 (some .int) :: cWd) { frames := φ, cells := nn r.1 - nn π, slots := sw r.1 - sw π, locals := ψ } [rfv g 44] D (TYs k) (cW k z g π σ) (XV z mi aK aV (cW k z g π σ)) (Nat → Nat) (fun v u => gx (nn π) g u ∧ v = Int32.ofInt r.2.2) (fun u => cW k z u r.1 r.2.1) (nn r.1 - nn π) (sw r.1 - sw π)) (hmrFun : ∀ {π : Sh} {σ : St}  {r : Sh × St × Int}, Cl π σ → rFun π σ  = some r → ext π r.1 ∧ Cl r.1 r.2.1 ∧ r.2.2 < nn r.1) (hcrFun : ∀ {g : Nat → Nat} {π : Sh} {σ : St}  {r : Sh × St × Int}, Cl π σ → rFun π σ  = some r → Mq l yX6_fun (.code yX6_fun cX6_fun 5 (some (.object "CycleStudio$Piece")) :: cWd) { frames := φ, cells := nn r.1 - nn π, slots := sw r.1 - sw π, locals := ψ } [rfv g 44] D (TYs k) (cW k z g π σ) (XV z mi aK aV (cW k z g π σ)) (Nat → Nat) (fun v u => gx (nn π) g u ∧ v = rfo u r.2.2) (fun u => cW k z u r.1 r.2.1) (nn r.1 - nn π) (sw r.1 - sw π)) {rec76 : Sh → St → Int → Int → Int → Option (Sh × St × Int)} (krec76 : ∀ {π : Sh} {σ : St} {x2 : Int} {x3 : Int} {x4 : Int}, Cl π σ → x2 < nn π → rec76 π σ x2 x3 x4 = some r → ext π r.1 ∧ Cl r.1 r.2.1 ∧ r.2.2 < nn r.1) (hrec76 : ∀ {ls : Array Slot} {H : Heap} {locs : List Loc} {g : Nat → Nat} {π : Sh} {σ : St} {x2 : Int} {x3 : Int} {x4 : Int}, Cl π σ → gx (nn π0) g0 g → ext π0 π → x2 < nn π → lv_has ls 5 [(0, rfv g 44), (2, rfv g x2), (3, .int (Int32.ofInt x3)), (4, .int (Int32.ofInt x4))] → Hp D A s.heap H locs (cW k z g π σ) → rec76 π σ x2 x3 x4 = some r → W p l e { frames := φ + 2, cells := nn r.1 - nn π0, slots := sw r.1 - sw π0, locals := ψ + 48 } s m args below meth c H locs (nn π - nn π0) (sw π - sw π0) (MQ below (va_Qq (fun v u => gx (nn π0) g0 u ∧ v = rfo u r.2.2) (fun u t => PostW D (TYs k) A (cW k z u r.1 r.2.1) t) A) args s (nn r.1 - nn π0) (sw r.1 - sw π0) A) (F0 m 76 ls [])) {ls : Array Slot} {H : Heap} {locs : List Loc} {g : Nat → Nat} {π : Sh} {σ : St} {x2 : Int} {x3 : Int} {x4 : Int} {s0 : Int} {s1 : Int} (hC : Cl π σ) (hG : gx (nn π0) g0 g) (hX : ext π0 π) (hv_x2 : x2 < nn π) (hv_s1 : s1 < nn π) (hl : lv_has ls 5 [(0, rfv g 44), (2, rfv g x2), (3, .int (Int32.ofInt x3)), (4, .int (Int32.ofInt x4))]) (h : Hp D A s.heap H locs (cW k z g π σ)) (hm : Rd_named_97 N rArg rFun rec76 π σ x2 x3 x4 s0 s1 = some r) : W p l e { frames := φ + 2, cells := nn r.1 - nn π0, slots := sw r.1 - sw π0, locals := ψ + 48 } s m args below meth c H locs (nn π - nn π0) (sw π - sw π0) (MQ below (va_Qq (fun v u => gx (nn π0) g0 u ∧ v = rfo u r.2.2) (fun u t => PostW D (TYs k) A (cW k z u r.1 r.2.1) t) A) args s (nn r.1 - nn π0) (sw r.1 - sw π0) A) (F0 m 97 ls [.int (Int32.ofInt s0), rfv g s1]) := by
  have hS := hC.1
  have hq := km_Rd_named_97 hmrArg hmrFun krec76  hC hv_x2 hv_s1 hm
  rw [Rd_named_97] at hm
  obtain ⟨r36, e37, hm⟩ := obd_s hm
  have q38 := (km_Pc_give hC hv_s1 e37)
  obtain ⟨g39, hm⟩ := grd_s hm
  refine c_callVvP C hE h g39 rfl (by decide) (kc_Pc_give l D k z mi aK aV g N hS e37) (cwV 1 C.2.2.1 (gS_X6_216 _) rfl rfl rfl hd_X5_give ⟨(by show 0 + 1 ≤ φ + 2; omega), (by show 8 + (2 + 11) + 0 ≤ ψ + 48; omega)⟩) rfl hl.1 rfl (Nat.le_of_ble_eq_true rfl) dX6_named_97 ⟨(czz hX hq.1), (szz hX hq.1)⟩ (fun H locs h => ?_)
  have hC40 : Cl π r36 := q38
  refine lv_iinc (v := Int32.ofInt (x4 + 1)) (lv' := [(4, .int (Int32.ofInt (x4 + 1))), (0, rfv g 44), (2, rfv g x2), (3, .int (Int32.ofInt x3))]) C.1 C.2.1 dX6_named_100 hl (k := 3) rfl (c32_add _ _) (by decide) rfl (fun ls hl => ?_)
  refine lv_goto (tgt := 76) C.1 C.2.1 dX6_named_103 (by decide) ?_
  exact hrec76 hC40 hG hX hv_x2 (lv_sub hl [1, 2, 3, 0] rfl) h hm
set_option maxHeartbeats 8000000 in
set_option maxRecDepth 100000 in
theorem kl_Rd_named_106 {r : Sh × St × Int} (C : Cx p s m args c cX6_named RX6 (cd :: cWd) D (TYs k) 5) (hr : meth.sig.returnType = (some (.object "CycleStudio$Piece"))) (hlk : meth.locks = false) (hE : Ev z mi aK aV A s s.heap) {rArg : Sh → St → Option (Sh × St × Int)} {rFun : Sh → St → Option (Sh × St × Int)} (hφ : 260 ≤ φ) (hψ : 12000 ≤ ψ) (hmrArg : ∀ {π : Sh} {σ : St}  {r : Sh × St × Int}, Cl π σ → rArg π σ  = some r → ext π r.1 ∧ Cl r.1 r.2.1) (hcrArg : ∀ {g : Nat → Nat} {π : Sh} {σ : St}  {r : Sh × St × Int}, Cl π σ → rArg π σ  = some r → Mi l yX6_arg (.code yX6_arg cX6_arg 3 (some .int) :: cWd) { frames := φ, cells := nn r.1 - nn π, slots := sw r.1 - sw π, locals := ψ } [rfv g 44] D (TYs k) (cW k z g π σ) (XV z mi aK aV (cW k z g π σ)) (Nat → Nat) (fun v u => gx (nn π) g u ∧ v = Int32.ofInt r.2.2) (fun u => cW k z u r.1 r.2.1) (nn r.1 - nn π) (sw r.1 - sw π)) (hmrFun : ∀ {π : Sh} {σ : St}  {r : Sh × St × Int}, Cl π σ → rFun π σ  = some r → ext π r.1 ∧ Cl r.1 r.2.1 ∧ r.2.2 < nn r.1) (hcrFun : ∀ {g : Nat → Nat} {π : Sh} {σ : St}  {r : Sh × St × Int}, Cl π σ → rFun π σ  = some r → Mq l yX6_fun (.code yX6_fun cX6_fun 5 (some (.object "CycleStudio$Piece")) :: cWd) { frames := φ, cells := nn r.1 - nn π, slots := sw r.1 - sw π, locals := ψ } [rfv g 44] D (TYs k) (cW k z g π σ) (XV z mi aK aV (cW k z g π σ)) (Nat → Nat) (fun v u => gx (nn π) g u ∧ v = rfo u r.2.2) (fun u => cW k z u r.1 r.2.1) (nn r.1 - nn π) (sw r.1 - sw π))  {ls : Array Slot} {H : Heap} {locs : List Loc} {g : Nat → Nat} {π : Sh} {σ : St} {x2 : Int} (hC : Cl π σ) (hG : gx (nn π0) g0 g) (hX : ext π0 π) (hv_x2 : x2 < nn π) (hl : lv_has ls 5 [(2, rfv g x2)]) (h : Hp D A s.heap H locs (cW k z g π σ)) (hm : Rd_named_106 N rArg rFun π σ x2 = some r) : W p l e { frames := φ + 2, cells := nn r.1 - nn π0, slots := sw r.1 - sw π0, locals := ψ + 48 } s m args below meth c H locs (nn π - nn π0) (sw π - sw π0) (MQ below (va_Qq (fun v u => gx (nn π0) g0 u ∧ v = rfo u r.2.2) (fun u t => PostW D (TYs k) A (cW k z u r.1 r.2.1) t) A) args s (nn r.1 - nn π0) (sw r.1 - sw π0) A) (F0 m 106 ls []) := by
  have hS := hC.1
  have hq := km_Rd_named_106 hmrArg hmrFun   hC hv_x2 hm
  rw [Rd_named_106] at hm
  refine z_aload_n C dX6_named_106 rfl (lv_at hl 0 rfl) ?_
  cases hm
  exact c_aretA C hG h hr hlk (Or.inl ⟨_, rfl⟩) dX6_named_107
set_option maxHeartbeats 8000000 in
set_option maxRecDepth 100000 in
theorem kl_Rd_named_76 {r : Sh × St × Int} (C : Cx p s m args c cX6_named RX6 (cd :: cWd) D (TYs k) 5) (hr : meth.sig.returnType = (some (.object "CycleStudio$Piece"))) (hlk : meth.locks = false) (hE : Ev z mi aK aV A s s.heap) {rArg : Sh → St → Option (Sh × St × Int)} {rFun : Sh → St → Option (Sh × St × Int)} (hφ : 260 ≤ φ) (hψ : 12000 ≤ ψ) (hmrArg : ∀ {π : Sh} {σ : St}  {r : Sh × St × Int}, Cl π σ → rArg π σ  = some r → ext π r.1 ∧ Cl r.1 r.2.1) (hcrArg : ∀ {g : Nat → Nat} {π : Sh} {σ : St}  {r : Sh × St × Int}, Cl π σ → rArg π σ  = some r → Mi l yX6_arg (.code yX6_arg cX6_arg 3 (some .int) :: cWd) { frames := φ, cells := nn r.1 - nn π, slots := sw r.1 - sw π, locals := ψ } [rfv g 44] D (TYs k) (cW k z g π σ) (XV z mi aK aV (cW k z g π σ)) (Nat → Nat) (fun v u => gx (nn π) g u ∧ v = Int32.ofInt r.2.2) (fun u => cW k z u r.1 r.2.1) (nn r.1 - nn π) (sw r.1 - sw π)) (hmrFun : ∀ {π : Sh} {σ : St}  {r : Sh × St × Int}, Cl π σ → rFun π σ  = some r → ext π r.1 ∧ Cl r.1 r.2.1 ∧ r.2.2 < nn r.1) (hcrFun : ∀ {g : Nat → Nat} {π : Sh} {σ : St}  {r : Sh × St × Int}, Cl π σ → rFun π σ  = some r → Mq l yX6_fun (.code yX6_fun cX6_fun 5 (some (.object "CycleStudio$Piece")) :: cWd) { frames := φ, cells := nn r.1 - nn π, slots := sw r.1 - sw π, locals := ψ } [rfv g 44] D (TYs k) (cW k z g π σ) (XV z mi aK aV (cW k z g π σ)) (Nat → Nat) (fun v u => gx (nn π) g u ∧ v = rfo u r.2.2) (fun u => cW k z u r.1 r.2.1) (nn r.1 - nn π) (sw r.1 - sw π))  (n : Nat) : ∀ {ls : Array Slot} {H : Heap} {locs : List Loc} {g : Nat → Nat} {π : Sh} {σ : St} {x2 : Int} {x3 : Int} {x4 : Int}, Cl π σ → gx (nn π0) g0 g → ext π0 π → x2 < nn π → lv_has ls 5 [(0, rfv g 44), (2, rfv g x2), (3, .int (Int32.ofInt x3)), (4, .int (Int32.ofInt x4))] → Hp D A s.heap H locs (cW k z g π σ) → Rd_named_76 N rArg rFun n π σ x2 x3 x4 = some r → W p l e { frames := φ + 2, cells := nn r.1 - nn π0, slots := sw r.1 - sw π0, locals := ψ + 48 } s m args below meth c H locs (nn π - nn π0) (sw π - sw π0) (MQ below (va_Qq (fun v u => gx (nn π0) g0 u ∧ v = rfo u r.2.2) (fun u t => PostW D (TYs k) A (cW k z u r.1 r.2.1) t) A) args s (nn r.1 - nn π0) (sw r.1 - sw π0) A) (F0 m 76 ls []) := by
  induction n with
  | zero => intro ls H locs g π σ x2 x3 x4 hC hG hX hv_x2 hl h hm; cases (show none = some r from hm)
  | succ n hrec76 =>
    intro ls H locs g π σ x2 x3 x4 hC hG hX hv_x2 hl h hm
    have hS := hC.1
    have hq := km_Rd_named_76 hmrArg hmrFun  (n + 1) hC hv_x2 hm
    have krec76 : ∀ {π : Sh} {σ : St} {x2 : Int} {x3 : Int} {x4 : Int}, Cl π σ → x2 < nn π → Rd_named_76 N rArg rFun n π σ x2 x3 x4 = some r → ext π r.1 ∧ Cl r.1 r.2.1 ∧ r.2.2 < nn r.1 := fun {_ _} {_} {_} {_} => km_Rd_named_76 hmrArg hmrFun  n
    rw [Rd_named_76] at hm
    refine lv_iload C.1 C.2.1 dX6_named_76 (lv_at hl 3 rfl) ?_
    refine lv_iload_n C.1 C.2.1 dX6_named_78 rfl (lv_at hl 2 rfl) ?_
    obtain ⟨g28, hm⟩ := grd_s hm
    obtain ⟨g29, hm⟩ := grd_s hm
    refine z_icmp_ge (tgt := 106) C dX6_named_79 (by decide) g28 g29 (fun c30 => ?_) (fun c30 => ?_)
    · have hm := ite_f c30 hm
      exact kl_Rd_named_106 (N := N) C hr hlk hE hφ hψ hmrArg hcrArg hmrFun hcrFun hC hG hX hv_x2 (lv_sub hl [1] rfl) h hm
    · have hm := ite_t c30 hm
      refine z_aload_n C dX6_named_82 rfl (lv_at hl 0 rfl) ?_
      refine cg_7_0 C h (sh_44 hS) cU_X6 (List.mem_cons_of_mem _ wl_X6_31) dX6_named_83 ?_
      refine cg_9_2 C h (sh_1 hS) cU_X8 (List.mem_cons_of_mem _ wl_X6_72) dX6_named_86 ?_
      obtain ⟨g31, hm⟩ := grd_s hm
      refine z_if_ne (tgt := 106) C dX6_named_89 (by decide) g31 (fun c32 => ?_) (fun c32 => ?_)
      · have hm := ite_f c32 hm
        exact kl_Rd_named_106 (N := N) C hr hlk hE hφ hψ hmrArg hcrArg hmrFun hcrFun hC hG hX hv_x2 (lv_sub hl [1] rfl) h hm
      · have hm := ite_t c32 hm
        refine z_aload_n C dX6_named_92 rfl (lv_at hl 1 rfl) ?_
        refine z_aload_n C dX6_named_93 rfl (lv_at hl 0 rfl) ?_
        obtain ⟨r33, e34, hm⟩ := obd_s hm
        have q35 := (hmrArg hC e34)
        have q := km_Rd_named_97 hmrArg hmrFun krec76 q35.2 (lt_ext hv_x2 q35.1) (lt_ext hv_x2 q35.1) hm
        refine c_callViA C hE h (sh_44 hS) rfl (by decide) (hcrArg hC e34) (cwV 0 C.2.2.1 (gS_X6_162 _) rfl rfl rfl hd_X6_arg ⟨(by show φ + 1 ≤ φ + 2; omega), (by show 8 + (3 + 11) + ψ ≤ ψ + 48; omega)⟩) rfl hl.1 rfl (by simp [rfv_cat, cat_i, cat_l]) dX6_named_94 ⟨rcC hX q35.1 q.1, rsC hX q35.1 q.1⟩ (fun u H locs hg h => ?_)
        simp only [← gx_rfv hg (sh_44 hS).2.1, ← gx_rfv hg hv_x2] at hl
        try simp only [← gx_rfv hg (sh_44 hS).2.1, ← gx_rfv hg hv_x2]
        refine W_cast (wcC hX q35.1).symm (wsC hX q35.1).symm ?_
        exact kl_Rd_named_97 (N := N) C hr hlk hE hφ hψ hmrArg hcrArg hmrFun hcrFun krec76 hrec76 q35.2 (hG.tr hg hX.1) (hX.tr q35.1) (lt_ext hv_x2 q35.1) (lt_ext hv_x2 q35.1) (lv_sub hl [0, 1, 2, 3] rfl) h hm
set_option maxHeartbeats 8000000 in
set_option maxRecDepth 100000 in
theorem kl_Rd_named_28 {r : Sh × St × Int} (C : Cx p s m args c cX6_named RX6 (cd :: cWd) D (TYs k) 5) (hr : meth.sig.returnType = (some (.object "CycleStudio$Piece"))) (hlk : meth.locks = false) (hE : Ev z mi aK aV A s s.heap) {rArg : Sh → St → Option (Sh × St × Int)} {rFun : Sh → St → Option (Sh × St × Int)} (hφ : 260 ≤ φ) (hψ : 12000 ≤ ψ) (hmrArg : ∀ {π : Sh} {σ : St}  {r : Sh × St × Int}, Cl π σ → rArg π σ  = some r → ext π r.1 ∧ Cl r.1 r.2.1) (hcrArg : ∀ {g : Nat → Nat} {π : Sh} {σ : St}  {r : Sh × St × Int}, Cl π σ → rArg π σ  = some r → Mi l yX6_arg (.code yX6_arg cX6_arg 3 (some .int) :: cWd) { frames := φ, cells := nn r.1 - nn π, slots := sw r.1 - sw π, locals := ψ } [rfv g 44] D (TYs k) (cW k z g π σ) (XV z mi aK aV (cW k z g π σ)) (Nat → Nat) (fun v u => gx (nn π) g u ∧ v = Int32.ofInt r.2.2) (fun u => cW k z u r.1 r.2.1) (nn r.1 - nn π) (sw r.1 - sw π)) (hmrFun : ∀ {π : Sh} {σ : St}  {r : Sh × St × Int}, Cl π σ → rFun π σ  = some r → ext π r.1 ∧ Cl r.1 r.2.1 ∧ r.2.2 < nn r.1) (hcrFun : ∀ {g : Nat → Nat} {π : Sh} {σ : St}  {r : Sh × St × Int}, Cl π σ → rFun π σ  = some r → Mq l yX6_fun (.code yX6_fun cX6_fun 5 (some (.object "CycleStudio$Piece")) :: cWd) { frames := φ, cells := nn r.1 - nn π, slots := sw r.1 - sw π, locals := ψ } [rfv g 44] D (TYs k) (cW k z g π σ) (XV z mi aK aV (cW k z g π σ)) (Nat → Nat) (fun v u => gx (nn π) g u ∧ v = rfo u r.2.2) (fun u => cW k z u r.1 r.2.1) (nn r.1 - nn π) (sw r.1 - sw π))  {ls : Array Slot} {H : Heap} {locs : List Loc} {g : Nat → Nat} {π : Sh} {σ : St} {x1 : Int} {s0 : Int} (hC : Cl π σ) (hG : gx (nn π0) g0 g) (hX : ext π0 π) (hv_s0 : s0 < nn π) (hl : lv_has ls 5 [(0, rfv g 44), (1, .int (Int32.ofInt x1))]) (h : Hp D A s.heap H locs (cW k z g π σ)) (hm : Rd_named_28 N rArg rFun π σ x1 s0 = some r) : W p l e { frames := φ + 2, cells := nn r.1 - nn π0, slots := sw r.1 - sw π0, locals := ψ + 48 } s m args below meth c H locs (nn π - nn π0) (sw π - sw π0) (MQ below (va_Qq (fun v u => gx (nn π0) g0 u ∧ v = rfo u r.2.2) (fun u t => PostW D (TYs k) A (cW k z u r.1 r.2.1) t) A) args s (nn r.1 - nn π0) (sw r.1 - sw π0) A) (F0 m 28 ls [rfv g s0]) := by
  have hS := hC.1
  have hq := km_Rd_named_28 hmrArg hmrFun   hC hv_s0 hm
  rw [Rd_named_28] at hm
  refine z_astore_n (lv' := [(2, rfv g s0), (0, rfv g 44), (1, .int (Int32.ofInt x1))]) C dX6_named_28 rfl hl (by decide) rfl (fun ls hl => ?_)
  refine lv_iload_n C.1 C.2.1 dX6_named_29 rfl (lv_at hl 2 rfl) ?_
  refine lv_iconst (v := Int32.ofInt 2) C.1 C.2.1 dX6_named_30 (by decide) ?_
  obtain ⟨g8, hm⟩ := grd_s hm
  refine z_icmp_ne (tgt := 48) C dX6_named_31 (by decide) g8 (by decide) (fun c9 => ?_) (fun c9 => ?_)
  · have hm := ite_f c9 hm
    refine z_aload_n C dX6_named_48 rfl (lv_at hl 0 rfl) ?_
    refine z_aload_n C dX6_named_49 rfl (lv_at hl 1 rfl) ?_
    refine cg_7_6 C h (sh_44 hS) cU_X6 (List.mem_cons_of_mem _ wl_X6_28) dX6_named_50 ?_
    obtain ⟨g10, hm⟩ := grd_s hm
    refine cp_6_8 C h g10 cU_X5 (List.mem_cons_of_mem _ wl_X6_213) dX6_named_53 (fun H locs h => ?_)
    refine z_aload_n C dX6_named_56 rfl (lv_at hl 1 rfl) ?_
    refine cg_7_6 C h (sh_44 hS) cU_X6 (List.mem_cons_of_mem _ wl_X6_28) dX6_named_57 ?_
    refine x_topv (b := rfv g (fl σ 146 44)) rfl ?_
    obtain ⟨g11, hm⟩ := grd_s hm
    refine cg_1_2 C h g11 cU_X0 (List.mem_cons_of_mem _ wl_X6_103) dX6_named_60 ?_
    refine x_topi (y := Int32.ofInt (fl σ 22 (fl σ 146 44))) rfl ?_
    refine lv_iconst (v := Int32.ofInt 1) C.1 C.2.1 dX6_named_63 (by decide) ?_
    refine z_isub C dX6_named_64 ?_
    obtain ⟨v12, e13, hm⟩ := bnd_s hm
    rw [e13]
    refine lv_istore_n (i := 3) (lv' := [(3, .int (Int32.ofInt v12)), (2, rfv g s0), (0, rfv g 44), (1, .int (Int32.ofInt x1))]) C.1 C.2.1 dX6_named_65 rfl hl (by decide) (by simp [rfv_cat, cat_i, cat_l]) (fun ls hl => ?_)
    refine z_aload_n C dX6_named_66 rfl (lv_at hl 2 rfl) ?_
    refine cg_7_0 C h (sh_44 hS) cU_X6 (List.mem_cons_of_mem _ wl_X6_31) dX6_named_67 ?_
    obtain ⟨σ14, e15, hm⟩ := bnd_s hm
    rw [e15] at h
    have hC16 : Cl π σ14 := e15 ▸ (cl_sfR hC _ _ (cl_fl hC (f := 146) rfl 44))
    obtain ⟨r17, e18, hm⟩ := obd_s hm
    have q19 := (km_Sc_advance hC16 e18)
    refine c_callVvP C hE h (sh_1 hS) rfl (by decide) (kc_Sc_advance l D k z mi aK aV g N hS e18) (cwV 0 C.2.2.1 (gS_X6_88 _) rfl rfl rfl hd_X8_advance ⟨(by show 3 + 1 ≤ φ + 2; omega), (by show 8 + (2 + 11) + 67 ≤ ψ + 48; omega)⟩) rfl hl.1 rfl (Nat.le_of_ble_eq_true rfl) dX6_named_70 ⟨(czz hX hq.1), (szz hX hq.1)⟩ (fun H locs h => ?_)
    have hC20 : Cl π r17 := q19
    refine lv_iconst (v := Int32.ofInt 0) C.1 C.2.1 dX6_named_73 (by decide) ?_
    refine lv_istore (lv' := [(4, .int (Int32.ofInt 0)), (3, .int (Int32.ofInt v12)), (2, rfv g s0), (0, rfv g 44), (1, .int (Int32.ofInt x1))]) C.1 C.2.1 dX6_named_74 hl (by decide) rfl (fun ls hl => ?_)
    exact kl_Rd_named_76 (N := N) C hr hlk hE hφ hψ hmrArg hcrArg hmrFun hcrFun N hC20 hG hX hv_s0 (lv_sub hl [3, 2, 1, 0] rfl) h hm
  · have hm := ite_t c9 hm
    refine z_aload_n C dX6_named_34 rfl (lv_at hl 1 rfl) ?_
    refine cg_7_0 C h (sh_44 hS) cU_X6 (List.mem_cons_of_mem _ wl_X6_31) dX6_named_35 ?_
    obtain ⟨r21, e22, hm⟩ := obd_s hm
    have q23 := (km_Sc_advance hC e22)
    refine c_callVvP C hE h (sh_1 hS) rfl (by decide) (kc_Sc_advance l D k z mi aK aV g N hS e22) (cwV 0 C.2.2.1 (gS_X6_88 _) rfl rfl rfl hd_X8_advance ⟨(by show 3 + 1 ≤ φ + 2; omega), (by show 8 + (2 + 11) + 67 ≤ ψ + 48; omega)⟩) rfl hl.1 rfl (Nat.le_of_ble_eq_true rfl) dX6_named_38 ⟨(czz hX hq.1), (szz hX hq.1)⟩ (fun H locs h => ?_)
    have hC24 : Cl π r21 := q23
    refine z_aload_n C dX6_named_41 rfl (lv_at hl 1 rfl) ?_
    refine z_aload_n C dX6_named_42 rfl (lv_at hl 0 rfl) ?_
    obtain ⟨r25, e26, hm⟩ := obd_s hm
    have q27 := (km_Rd_wants hmrArg hmrFun hC24 hv_s0 e26)
    have q := km_Rd_named_46 hmrArg hmrFun  q27.2 (lt_ext hv_s0 q27.1) hm
    refine c_callVvA C hE h (sh_44 hS) rfl (by decide) (kc_Rd_wants l D k z mi aK aV g N hφ hψ hmrArg hcrArg hmrFun hcrFun hC24 hv_s0 e26) (cwV 1 C.2.2.1 (gS_X6_209 _) rfl rfl rfl hd_X6_wants ⟨(by show φ + 1 + 1 ≤ φ + 2; omega), (by show 8 + (5 + 11) + (ψ + 24) ≤ ψ + 48; omega)⟩) rfl hl.1 rfl (Nat.le_of_ble_eq_true rfl) dX6_named_43 ⟨rcC hX q27.1 q.1, rsC hX q27.1 q.1⟩ (fun u H locs hg h => ?_)
    simp only [← gx_rfv hg hv_s0, ← gx_rfv hg (sh_44 hS).2.1] at hl
    try simp only [← gx_rfv hg hv_s0, ← gx_rfv hg (sh_44 hS).2.1]
    refine W_cast (wcC hX q27.1).symm (wsC hX q27.1).symm ?_
    exact kl_Rd_named_46 (N := N) C hr hlk hE hφ hψ hmrArg hcrArg hmrFun hcrFun  q27.2 (hG.tr hg hX.1) (hX.tr q27.1) (lt_ext hv_s0 q27.1) (lv_sub hl [0] rfl) h hm
set_option maxHeartbeats 8000000 in
set_option maxRecDepth 100000 in
theorem kl_Rd_named_18 {r : Sh × St × Int} (C : Cx p s m args c cX6_named RX6 (cd :: cWd) D (TYs k) 5) (hr : meth.sig.returnType = (some (.object "CycleStudio$Piece"))) (hlk : meth.locks = false) (hE : Ev z mi aK aV A s s.heap) {rArg : Sh → St → Option (Sh × St × Int)} {rFun : Sh → St → Option (Sh × St × Int)} (hφ : 260 ≤ φ) (hψ : 12000 ≤ ψ) (hmrArg : ∀ {π : Sh} {σ : St}  {r : Sh × St × Int}, Cl π σ → rArg π σ  = some r → ext π r.1 ∧ Cl r.1 r.2.1) (hcrArg : ∀ {g : Nat → Nat} {π : Sh} {σ : St}  {r : Sh × St × Int}, Cl π σ → rArg π σ  = some r → Mi l yX6_arg (.code yX6_arg cX6_arg 3 (some .int) :: cWd) { frames := φ, cells := nn r.1 - nn π, slots := sw r.1 - sw π, locals := ψ } [rfv g 44] D (TYs k) (cW k z g π σ) (XV z mi aK aV (cW k z g π σ)) (Nat → Nat) (fun v u => gx (nn π) g u ∧ v = Int32.ofInt r.2.2) (fun u => cW k z u r.1 r.2.1) (nn r.1 - nn π) (sw r.1 - sw π)) (hmrFun : ∀ {π : Sh} {σ : St}  {r : Sh × St × Int}, Cl π σ → rFun π σ  = some r → ext π r.1 ∧ Cl r.1 r.2.1 ∧ r.2.2 < nn r.1) (hcrFun : ∀ {g : Nat → Nat} {π : Sh} {σ : St}  {r : Sh × St × Int}, Cl π σ → rFun π σ  = some r → Mq l yX6_fun (.code yX6_fun cX6_fun 5 (some (.object "CycleStudio$Piece")) :: cWd) { frames := φ, cells := nn r.1 - nn π, slots := sw r.1 - sw π, locals := ψ } [rfv g 44] D (TYs k) (cW k z g π σ) (XV z mi aK aV (cW k z g π σ)) (Nat → Nat) (fun v u => gx (nn π) g u ∧ v = rfo u r.2.2) (fun u => cW k z u r.1 r.2.1) (nn r.1 - nn π) (sw r.1 - sw π))  {ls : Array Slot} {H : Heap} {locs : List Loc} {g : Nat → Nat} {π : Sh} {σ : St} {x1 : Int} {s0 : Int} {s1 : Int} {s2 : Int} (hC : Cl π σ) (hG : gx (nn π0) g0 g) (hX : ext π0 π) (hv_s1 : s1 < nn π) (hv_s2 : s2 < nn π) (hl : lv_has ls 5 [(0, rfv g 44), (1, .int (Int32.ofInt x1))]) (h : Hp D A s.heap H locs (cW k z g π σ)) (hm : Rd_named_18 N rArg rFun π σ x1 s0 s1 s2 = some r) : W p l e { frames := φ + 2, cells := nn r.1 - nn π0, slots := sw r.1 - sw π0, locals := ψ + 48 } s m args below meth c H locs (nn π - nn π0) (sw π - sw π0) (MQ below (va_Qq (fun v u => gx (nn π0) g0 u ∧ v = rfo u r.2.2) (fun u t => PostW D (TYs k) A (cW k z u r.1 r.2.1) t) A) args s (nn r.1 - nn π0) (sw r.1 - sw π0) A) (F0 m 18 ls [.int (Int32.ofInt s0), rfv g s1, rfv g s2]) := by
  have hS := hC.1
  have hq := km_Rd_named_18 hmrArg hmrFun   hC hv_s1 hv_s2 hm
  rw [Rd_named_18] at hm
  refine z_aload_n C dX6_named_18 rfl (lv_at hl 0 rfl) ?_
  refine cg_7_0 C h (sh_44 hS) cU_X6 (List.mem_cons_of_mem _ wl_X6_31) dX6_named_19 ?_
  refine cg_9_6 C h (sh_1 hS) cU_X8 (List.mem_cons_of_mem _ wl_X6_81) dX6_named_22 ?_
  obtain ⟨r4, e5, hm⟩ := obd_s hm
  have q6 := (km_Pc_init hC hv_s1 e5)
  obtain ⟨g7, hm⟩ := grd_s hm
  have q := km_Rd_named_28 hmrArg hmrFun  q6.2 (lt_ext hv_s2 q6.1) hm
  refine c_callIvA C hE h g7 (kc_Pc_init l D k z mi aK aV g N hC hv_s1 e5) (cwI 2 C.2.2.1 (gC_X5_init _) rfl rfl rfl (C.2.2.1 _ (List.mem_cons_of_mem _ wt_X5)) (C.2.2.1 _ (List.mem_cons_of_mem _ wm_X6_208)) (C.2.2.1 _ (List.mem_cons_of_mem _ wj_X5_init)) rfl hdS_X5_init ⟨(by show 1 + 1 ≤ φ + 2; omega), (by show 8 + (3 + 11) + 30 ≤ ψ + 48; omega)⟩) rfl hl.1 rfl (by simp [rfv_cat, cat_i, cat_l]) dX6_named_25 ⟨rcC hX q6.1 q.1, rsC hX q6.1 q.1⟩ (fun u H locs hg h => ?_)
  simp only [← gx_rfv hg (sh_44 hS).2.1, ← gx_rfv hg hv_s2] at hl
  try simp only [← gx_rfv hg (sh_44 hS).2.1, ← gx_rfv hg hv_s2]
  refine W_cast (wcC hX q6.1).symm (wsC hX q6.1).symm ?_
  exact kl_Rd_named_28 (N := N) C hr hlk hE hφ hψ hmrArg hcrArg hmrFun hcrFun  q6.2 (hG.tr hg hX.1) (hX.tr q6.1) (lt_ext hv_s2 q6.1) (lv_sub hl [0, 1] rfl) h hm
set_option maxHeartbeats 8000000 in
set_option maxRecDepth 100000 in
theorem kl_Rd_named_3 {r : Sh × St × Int} (C : Cx p s m args c cX6_named RX6 (cd :: cWd) D (TYs k) 5) (hr : meth.sig.returnType = (some (.object "CycleStudio$Piece"))) (hlk : meth.locks = false) (hE : Ev z mi aK aV A s s.heap) {rArg : Sh → St → Option (Sh × St × Int)} {rFun : Sh → St → Option (Sh × St × Int)} (hφ : 260 ≤ φ) (hψ : 12000 ≤ ψ) (hmrArg : ∀ {π : Sh} {σ : St}  {r : Sh × St × Int}, Cl π σ → rArg π σ  = some r → ext π r.1 ∧ Cl r.1 r.2.1) (hcrArg : ∀ {g : Nat → Nat} {π : Sh} {σ : St}  {r : Sh × St × Int}, Cl π σ → rArg π σ  = some r → Mi l yX6_arg (.code yX6_arg cX6_arg 3 (some .int) :: cWd) { frames := φ, cells := nn r.1 - nn π, slots := sw r.1 - sw π, locals := ψ } [rfv g 44] D (TYs k) (cW k z g π σ) (XV z mi aK aV (cW k z g π σ)) (Nat → Nat) (fun v u => gx (nn π) g u ∧ v = Int32.ofInt r.2.2) (fun u => cW k z u r.1 r.2.1) (nn r.1 - nn π) (sw r.1 - sw π)) (hmrFun : ∀ {π : Sh} {σ : St}  {r : Sh × St × Int}, Cl π σ → rFun π σ  = some r → ext π r.1 ∧ Cl r.1 r.2.1 ∧ r.2.2 < nn r.1) (hcrFun : ∀ {g : Nat → Nat} {π : Sh} {σ : St}  {r : Sh × St × Int}, Cl π σ → rFun π σ  = some r → Mq l yX6_fun (.code yX6_fun cX6_fun 5 (some (.object "CycleStudio$Piece")) :: cWd) { frames := φ, cells := nn r.1 - nn π, slots := sw r.1 - sw π, locals := ψ } [rfv g 44] D (TYs k) (cW k z g π σ) (XV z mi aK aV (cW k z g π σ)) (Nat → Nat) (fun v u => gx (nn π) g u ∧ v = rfo u r.2.2) (fun u => cW k z u r.1 r.2.1) (nn r.1 - nn π) (sw r.1 - sw π))  {ls : Array Slot} {H : Heap} {locs : List Loc} {g : Nat → Nat} {π : Sh} {σ : St} {x1 : Int} {s0 : Int} (hC : Cl π σ) (hG : gx (nn π0) g0 g) (hX : ext π0 π) (hv_s0 : s0 < nn π) (hl : lv_has ls 5 [(0, rfv g 44), (1, .int (Int32.ofInt x1))]) (h : Hp D A s.heap H locs (cW k z g π σ)) (hm : Rd_named_3 N rArg rFun π σ x1 s0 = some r) : W p l e { frames := φ + 2, cells := nn r.1 - nn π0, slots := sw r.1 - sw π0, locals := ψ + 48 } s m args below meth c H locs (nn π - nn π0) (sw π - sw π0) (MQ below (va_Qq (fun v u => gx (nn π0) g0 u ∧ v = rfo u r.2.2) (fun u t => PostW D (TYs k) A (cW k z u r.1 r.2.1) t) A) args s (nn r.1 - nn π0) (sw r.1 - sw π0) A) (F0 m 3 ls [rfv g s0]) := by
  have hS := hC.1
  have hq := km_Rd_named_3 hmrArg hmrFun   hC hv_s0 hm
  rw [Rd_named_3] at hm
  refine lv_dup C.1 C.2.1 dX6_named_3 (rfv_cat _ _) ?_
  refine lv_iload_n C.1 C.2.1 dX6_named_4 rfl (lv_at hl 1 rfl) ?_
  refine lv_iconst (v := Int32.ofInt 2) C.1 C.2.1 dX6_named_5 (by decide) ?_
  obtain ⟨g2, hm⟩ := grd_s hm
  refine z_icmp_ne (tgt := 16) C dX6_named_6 (by decide) g2 (by decide) (fun c3 => ?_) (fun c3 => ?_)
  · have hm := ite_f c3 hm
    refine lv_bipush (v := Int32.ofInt 22) C.1 C.2.1 dX6_named_16 (by decide) ?_
    exact kl_Rd_named_18 (N := N) C hr hlk hE hφ hψ hmrArg hcrArg hmrFun hcrFun hC hG hX hv_s0 hv_s0 (lv_sub hl [0, 1] rfl) h hm
  · have hm := ite_t c3 hm
    refine z_aload_n C dX6_named_9 rfl (lv_at hl 0 rfl) ?_
    refine cg_7_5 C h (sh_44 hS) cU_X6 (List.mem_cons_of_mem _ wl_X6_24) dX6_named_10 ?_
    refine lv_goto (tgt := 18) C.1 C.2.1 dX6_named_13 (by decide) ?_
    exact kl_Rd_named_18 (N := N) C hr hlk hE hφ hψ hmrArg hcrArg hmrFun hcrFun hC hG hX hv_s0 hv_s0 (lv_sub hl [0, 1] rfl) h hm
set_option maxHeartbeats 8000000 in
set_option maxRecDepth 100000 in
theorem kc_Rd_named (l : Launch) (D : va_G) (k : Nat → ClassId) (z mi : Nat) (aK aV : Nat → Nat) (g : Nat → Nat) (N : Nat) {φ ψ : Nat} {rArg : Sh → St → Option (Sh × St × Int)} {rFun : Sh → St → Option (Sh × St × Int)} (hφ : 260 ≤ φ) (hψ : 12000 ≤ ψ) (hmrArg : ∀ {π : Sh} {σ : St}  {r : Sh × St × Int}, Cl π σ → rArg π σ  = some r → ext π r.1 ∧ Cl r.1 r.2.1) (hcrArg : ∀ {g : Nat → Nat} {π : Sh} {σ : St}  {r : Sh × St × Int}, Cl π σ → rArg π σ  = some r → Mi l yX6_arg (.code yX6_arg cX6_arg 3 (some .int) :: cWd) { frames := φ, cells := nn r.1 - nn π, slots := sw r.1 - sw π, locals := ψ } [rfv g 44] D (TYs k) (cW k z g π σ) (XV z mi aK aV (cW k z g π σ)) (Nat → Nat) (fun v u => gx (nn π) g u ∧ v = Int32.ofInt r.2.2) (fun u => cW k z u r.1 r.2.1) (nn r.1 - nn π) (sw r.1 - sw π)) (hmrFun : ∀ {π : Sh} {σ : St}  {r : Sh × St × Int}, Cl π σ → rFun π σ  = some r → ext π r.1 ∧ Cl r.1 r.2.1 ∧ r.2.2 < nn r.1) (hcrFun : ∀ {g : Nat → Nat} {π : Sh} {σ : St}  {r : Sh × St × Int}, Cl π σ → rFun π σ  = some r → Mq l yX6_fun (.code yX6_fun cX6_fun 5 (some (.object "CycleStudio$Piece")) :: cWd) { frames := φ, cells := nn r.1 - nn π, slots := sw r.1 - sw π, locals := ψ } [rfv g 44] D (TYs k) (cW k z g π σ) (XV z mi aK aV (cW k z g π σ)) (Nat → Nat) (fun v u => gx (nn π) g u ∧ v = rfo u r.2.2) (fun u => cW k z u r.1 r.2.1) (nn r.1 - nn π) (sw r.1 - sw π)) {π : Sh} {σ : St} {x1 : Int} {r : Sh × St × Int} (hC : Cl π σ)  (hm : Rd_named N rArg rFun π σ x1 = some r) : Mq l yX6_named (.code yX6_named cX6_named 5 (some (.object "CycleStudio$Piece")) :: cWd) { frames := φ + 2, cells := nn r.1 - nn π, slots := sw r.1 - sw π, locals := ψ + 48 } [rfv g 44, .int (Int32.ofInt x1)] D (TYs k) (cW k z g π σ) (XV z mi aK aV (cW k z g π σ)) (Nat → Nat) (fun v u => gx (nn π) g u ∧ v = rfo u r.2.2) (fun u => cW k z u r.1 r.2.1) (nn r.1 - nn π) (sw r.1 - sw π) := by
  have hS := hC.1
  have hq := km_Rd_named hmrArg hmrFun hC  hm
  intro sz
  refine v_met (cc := cX6_named) (maxL := 5) (ret := (some (.object "CycleStudio$Piece"))) (lv := [(0, rfv g 44), (1, .int (Int32.ofInt x1))]) (by decide) rfl (by simp [lg_sl, rfv_cat, cat_i, cat_l]) (by simp [lv_args, rfv_cat, cat_i, cat_l]) ?_
  intro p e s m below meth c ls C hE hr hlk hmn hl h
  generalize ([rfv g 44, .int (Int32.ofInt x1)] : List Value).toArray = args at C ⊢
  have hG := gx.rf (nn π) g
  have hX := ext.rf π
  refine W_cast (Nat.sub_self (nn π)) (Nat.sub_self (sw π)) ?_
  rw [Rd_named] at hm
  have q := km_Rd_named_3 hmrArg hmrFun  ((cl_nO hC (by decide) (by decide) _)) lt_nO hm
  refine c_new C h hC (by decide) dX6_named_0 rfl cU_X5 tyX5_ok (List.mem_cons_of_mem _ wn_X6_173) (List.mem_cons_of_mem _ wi_X5) (List.mem_cons_of_mem _ wt_X5) (df_X5) (dn_X5 z) (rc1 hX q.1) (rs1 hX q.1) (fun u H hg h => ?_)
  simp only [← gx_rfv hg (sh_44 hS).2.1] at hl
  try simp only [← gx_rfv hg (sh_44 hS).2.1]
  refine W_cast (wcO (c := 6) (w := 11) hX).symm (wsO (c := 6) (w := 11) hX).symm ?_
  exact kl_Rd_named_3 (N := N) C hr hlk hE hφ hψ hmrArg hcrArg hmrFun hcrFun  ((cl_nO hC (by decide) (by decide) _)) (hG.tr hg hX.1) (hX.tr (ext_nO π 6 11)) lt_nO (lv_sub hl [0, 1] rfl) h hm
end Z_Rd_named
section Z_Rd_app
variable {p : Program} {l : Launch} {e : Env} {s : State} {m : MethodId} {args : Array Value} {below : List Frame} {meth : Method} {c : Code} {D : va_G} {A : Nat → Prop} {k : Nat → ClassId} {N : Nat} {cd : Cond} {z mi : Nat} {aK aV : Nat → Nat} {g0 : Nat → Nat} {π0 : Sh} {φ ψ : Nat}
set_option maxHeartbeats 8000000 in
set_option maxRecDepth 100000 in
theorem kl_Rd_app_15 {r : Sh × St × Int} (C : Cx p s m args c cX6_app RX6 (cd :: cWd) D (TYs k) 4) (hr : meth.sig.returnType = (some .int)) (hlk : meth.locks = false) (hE : Ev z mi aK aV A s s.heap) {rArg : Sh → St → Option (Sh × St × Int)} {rFun : Sh → St → Option (Sh × St × Int)} (hφ : 260 ≤ φ) (hψ : 12000 ≤ ψ) (hmrArg : ∀ {π : Sh} {σ : St}  {r : Sh × St × Int}, Cl π σ → rArg π σ  = some r → ext π r.1 ∧ Cl r.1 r.2.1) (hcrArg : ∀ {g : Nat → Nat} {π : Sh} {σ : St}  {r : Sh × St × Int}, Cl π σ → rArg π σ  = some r → Mi l yX6_arg (.code yX6_arg cX6_arg 3 (some .int) :: cWd) { frames := φ, cells := nn r.1 - nn π, slots := sw r.1 - sw π, locals := ψ } [rfv g 44] D (TYs k) (cW k z g π σ) (XV z mi aK aV (cW k z g π σ)) (Nat → Nat) (fun v u => gx (nn π) g u ∧ v = Int32.ofInt r.2.2) (fun u => cW k z u r.1 r.2.1) (nn r.1 - nn π) (sw r.1 - sw π)) (hmrFun : ∀ {π : Sh} {σ : St}  {r : Sh × St × Int}, Cl π σ → rFun π σ  = some r → ext π r.1 ∧ Cl r.1 r.2.1 ∧ r.2.2 < nn r.1) (hcrFun : ∀ {g : Nat → Nat} {π : Sh} {σ : St}  {r : Sh × St × Int}, Cl π σ → rFun π σ  = some r → Mq l yX6_fun (.code yX6_fun cX6_fun 5 (some (.object "CycleStudio$Piece")) :: cWd) { frames := φ, cells := nn r.1 - nn π, slots := sw r.1 - sw π, locals := ψ } [rfv g 44] D (TYs k) (cW k z g π σ) (XV z mi aK aV (cW k z g π σ)) (Nat → Nat) (fun v u => gx (nn π) g u ∧ v = rfo u r.2.2) (fun u => cW k z u r.1 r.2.1) (nn r.1 - nn π) (sw r.1 - sw π))  {ls : Array Slot} {H : Heap} {locs : List Loc} {g : Nat → Nat} {π : Sh} {σ : St} {s0 : Int} (hC : Cl π σ) (hG : gx (nn π0) g0 g) (hX : ext π0 π)  (hl : lv_has ls 4 []) (h : Hp D A s.heap H locs (cW k z g π σ)) (hm : Rd_app_15 N rArg rFun π σ s0 = some r) : W p l e { frames := φ + 3, cells := nn r.1 - nn π0, slots := sw r.1 - sw π0, locals := ψ + 72 } s m args below meth c H locs (nn π - nn π0) (sw π - sw π0) (MQ below (va_Qi (fun v u => gx (nn π0) g0 u ∧ v = Int32.ofInt r.2.2) (fun u t => PostW D (TYs k) A (cW k z u r.1 r.2.1) t) A) args s (nn r.1 - nn π0) (sw r.1 - sw π0) A) (F0 m 15 ls [.int (Int32.ofInt s0)]) := by
  have hS := hC.1
  have hq := km_Rd_app_15 hmrArg hmrFun   hC  hm
  rw [Rd_app_15] at hm
  cases hm
  exact c_iretA C hG h hr hlk dX6_app_15 rfl
set_option maxHeartbeats 8000000 in
set_option maxRecDepth 100000 in
theorem kl_Rd_app_42 {r : Sh × St × Int} (C : Cx p s m args c cX6_app RX6 (cd :: cWd) D (TYs k) 4) (hr : meth.sig.returnType = (some .int)) (hlk : meth.locks = false) (hE : Ev z mi aK aV A s s.heap) {rArg : Sh → St → Option (Sh × St × Int)} {rFun : Sh → St → Option (Sh × St × Int)} (hφ : 260 ≤ φ) (hψ : 12000 ≤ ψ) (hmrArg : ∀ {π : Sh} {σ : St}  {r : Sh × St × Int}, Cl π σ → rArg π σ  = some r → ext π r.1 ∧ Cl r.1 r.2.1) (hcrArg : ∀ {g : Nat → Nat} {π : Sh} {σ : St}  {r : Sh × St × Int}, Cl π σ → rArg π σ  = some r → Mi l yX6_arg (.code yX6_arg cX6_arg 3 (some .int) :: cWd) { frames := φ, cells := nn r.1 - nn π, slots := sw r.1 - sw π, locals := ψ } [rfv g 44] D (TYs k) (cW k z g π σ) (XV z mi aK aV (cW k z g π σ)) (Nat → Nat) (fun v u => gx (nn π) g u ∧ v = Int32.ofInt r.2.2) (fun u => cW k z u r.1 r.2.1) (nn r.1 - nn π) (sw r.1 - sw π)) (hmrFun : ∀ {π : Sh} {σ : St}  {r : Sh × St × Int}, Cl π σ → rFun π σ  = some r → ext π r.1 ∧ Cl r.1 r.2.1 ∧ r.2.2 < nn r.1) (hcrFun : ∀ {g : Nat → Nat} {π : Sh} {σ : St}  {r : Sh × St × Int}, Cl π σ → rFun π σ  = some r → Mq l yX6_fun (.code yX6_fun cX6_fun 5 (some (.object "CycleStudio$Piece")) :: cWd) { frames := φ, cells := nn r.1 - nn π, slots := sw r.1 - sw π, locals := ψ } [rfv g 44] D (TYs k) (cW k z g π σ) (XV z mi aK aV (cW k z g π σ)) (Nat → Nat) (fun v u => gx (nn π) g u ∧ v = rfo u r.2.2) (fun u => cW k z u r.1 r.2.1) (nn r.1 - nn π) (sw r.1 - sw π))  {ls : Array Slot} {H : Heap} {locs : List Loc} {g : Nat → Nat} {π : Sh} {σ : St} {s0 : Int} (hC : Cl π σ) (hG : gx (nn π0) g0 g) (hX : ext π0 π)  (hl : lv_has ls 4 []) (h : Hp D A s.heap H locs (cW k z g π σ)) (hm : Rd_app_42 N rArg rFun π σ s0 = some r) : W p l e { frames := φ + 3, cells := nn r.1 - nn π0, slots := sw r.1 - sw π0, locals := ψ + 72 } s m args below meth c H locs (nn π - nn π0) (sw π - sw π0) (MQ below (va_Qi (fun v u => gx (nn π0) g0 u ∧ v = Int32.ofInt r.2.2) (fun u t => PostW D (TYs k) A (cW k z u r.1 r.2.1) t) A) args s (nn r.1 - nn π0) (sw r.1 - sw π0) A) (F0 m 42 ls [.int (Int32.ofInt s0)]) := by
  have hS := hC.1
  have hq := km_Rd_app_42 hmrArg hmrFun   hC  hm
  rw [Rd_app_42] at hm
  cases hm
  exact c_iretA C hG h hr hlk dX6_app_42 rfl
set_option maxHeartbeats 8000000 in
set_option maxRecDepth 100000 in
theorem kl_Rd_app_87 {r : Sh × St × Int} (C : Cx p s m args c cX6_app RX6 (cd :: cWd) D (TYs k) 4) (hr : meth.sig.returnType = (some .int)) (hlk : meth.locks = false) (hE : Ev z mi aK aV A s s.heap) {rArg : Sh → St → Option (Sh × St × Int)} {rFun : Sh → St → Option (Sh × St × Int)} (hφ : 260 ≤ φ) (hψ : 12000 ≤ ψ) (hmrArg : ∀ {π : Sh} {σ : St}  {r : Sh × St × Int}, Cl π σ → rArg π σ  = some r → ext π r.1 ∧ Cl r.1 r.2.1) (hcrArg : ∀ {g : Nat → Nat} {π : Sh} {σ : St}  {r : Sh × St × Int}, Cl π σ → rArg π σ  = some r → Mi l yX6_arg (.code yX6_arg cX6_arg 3 (some .int) :: cWd) { frames := φ, cells := nn r.1 - nn π, slots := sw r.1 - sw π, locals := ψ } [rfv g 44] D (TYs k) (cW k z g π σ) (XV z mi aK aV (cW k z g π σ)) (Nat → Nat) (fun v u => gx (nn π) g u ∧ v = Int32.ofInt r.2.2) (fun u => cW k z u r.1 r.2.1) (nn r.1 - nn π) (sw r.1 - sw π)) (hmrFun : ∀ {π : Sh} {σ : St}  {r : Sh × St × Int}, Cl π σ → rFun π σ  = some r → ext π r.1 ∧ Cl r.1 r.2.1 ∧ r.2.2 < nn r.1) (hcrFun : ∀ {g : Nat → Nat} {π : Sh} {σ : St}  {r : Sh × St × Int}, Cl π σ → rFun π σ  = some r → Mq l yX6_fun (.code yX6_fun cX6_fun 5 (some (.object "CycleStudio$Piece")) :: cWd) { frames := φ, cells := nn r.1 - nn π, slots := sw r.1 - sw π, locals := ψ } [rfv g 44] D (TYs k) (cW k z g π σ) (XV z mi aK aV (cW k z g π σ)) (Nat → Nat) (fun v u => gx (nn π) g u ∧ v = rfo u r.2.2) (fun u => cW k z u r.1 r.2.1) (nn r.1 - nn π) (sw r.1 - sw π))  {ls : Array Slot} {H : Heap} {locs : List Loc} {g : Nat → Nat} {π : Sh} {σ : St} {s0 : Int} (hC : Cl π σ) (hG : gx (nn π0) g0 g) (hX : ext π0 π)  (hl : lv_has ls 4 []) (h : Hp D A s.heap H locs (cW k z g π σ)) (hm : Rd_app_87 N rArg rFun π σ s0 = some r) : W p l e { frames := φ + 3, cells := nn r.1 - nn π0, slots := sw r.1 - sw π0, locals := ψ + 72 } s m args below meth c H locs (nn π - nn π0) (sw π - sw π0) (MQ below (va_Qi (fun v u => gx (nn π0) g0 u ∧ v = Int32.ofInt r.2.2) (fun u t => PostW D (TYs k) A (cW k z u r.1 r.2.1) t) A) args s (nn r.1 - nn π0) (sw r.1 - sw π0) A) (F0 m 87 ls [.int (Int32.ofInt s0)]) := by
  have hS := hC.1
  have hq := km_Rd_app_87 hmrArg hmrFun   hC  hm
  rw [Rd_app_87] at hm
  refine lv_goto (tgt := 91) C.1 C.2.1 dX6_app_87 (by decide) ?_
  cases hm
  exact c_iretA C hG h hr hlk dX6_app_91 rfl
set_option maxHeartbeats 8000000 in
set_option maxRecDepth 100000 in
theorem kl_Rd_app_67 {r : Sh × St × Int} (C : Cx p s m args c cX6_app RX6 (cd :: cWd) D (TYs k) 4) (hr : meth.sig.returnType = (some .int)) (hlk : meth.locks = false) (hE : Ev z mi aK aV A s s.heap) {rArg : Sh → St → Option (Sh × St × Int)} {rFun : Sh → St → Option (Sh × St × Int)} (hφ : 260 ≤ φ) (hψ : 12000 ≤ ψ) (hmrArg : ∀ {π : Sh} {σ : St}  {r : Sh × St × Int}, Cl π σ → rArg π σ  = some r → ext π r.1 ∧ Cl r.1 r.2.1) (hcrArg : ∀ {g : Nat → Nat} {π : Sh} {σ : St}  {r : Sh × St × Int}, Cl π σ → rArg π σ  = some r → Mi l yX6_arg (.code yX6_arg cX6_arg 3 (some .int) :: cWd) { frames := φ, cells := nn r.1 - nn π, slots := sw r.1 - sw π, locals := ψ } [rfv g 44] D (TYs k) (cW k z g π σ) (XV z mi aK aV (cW k z g π σ)) (Nat → Nat) (fun v u => gx (nn π) g u ∧ v = Int32.ofInt r.2.2) (fun u => cW k z u r.1 r.2.1) (nn r.1 - nn π) (sw r.1 - sw π)) (hmrFun : ∀ {π : Sh} {σ : St}  {r : Sh × St × Int}, Cl π σ → rFun π σ  = some r → ext π r.1 ∧ Cl r.1 r.2.1 ∧ r.2.2 < nn r.1) (hcrFun : ∀ {g : Nat → Nat} {π : Sh} {σ : St}  {r : Sh × St × Int}, Cl π σ → rFun π σ  = some r → Mq l yX6_fun (.code yX6_fun cX6_fun 5 (some (.object "CycleStudio$Piece")) :: cWd) { frames := φ, cells := nn r.1 - nn π, slots := sw r.1 - sw π, locals := ψ } [rfv g 44] D (TYs k) (cW k z g π σ) (XV z mi aK aV (cW k z g π σ)) (Nat → Nat) (fun v u => gx (nn π) g u ∧ v = rfo u r.2.2) (fun u => cW k z u r.1 r.2.1) (nn r.1 - nn π) (sw r.1 - sw π))  {ls : Array Slot} {H : Heap} {locs : List Loc} {g : Nat → Nat} {π : Sh} {σ : St} {x2 : Int} {s0 : Int} (hC : Cl π σ) (hG : gx (nn π0) g0 g) (hX : ext π0 π) (hv_x2 : x2 < nn π) (hl : lv_has ls 4 [(0, rfv g 44), (2, rfv g x2)]) (h : Hp D A s.heap H locs (cW k z g π σ)) (hm : Rd_app_67 N rArg rFun π σ x2 s0 = some r) : W p l e { frames := φ + 3, cells := nn r.1 - nn π0, slots := sw r.1 - sw π0, locals := ψ + 72 } s m args below meth c H locs (nn π - nn π0) (sw π - sw π0) (MQ below (va_Qi (fun v u => gx (nn π0) g0 u ∧ v = Int32.ofInt r.2.2) (fun u t => PostW D (TYs k) A (cW k z u r.1 r.2.1) t) A) args s (nn r.1 - nn π0) (sw r.1 - sw π0) A) (F0 m 67 ls [.int (Int32.ofInt s0)]) := by
  have hS := hC.1
  have hq := km_Rd_app_67 hmrArg hmrFun   hC hv_x2 hm
  rw [Rd_app_67] at hm
  refine lv_istore_n (i := 3) (lv' := [(3, .int (Int32.ofInt s0)), (0, rfv g 44), (2, rfv g x2)]) C.1 C.2.1 dX6_app_67 rfl hl (by decide) (by simp [rfv_cat, cat_i, cat_l]) (fun ls hl => ?_)
  refine z_aload_n C dX6_app_68 rfl (lv_at hl 1 rfl) ?_
  refine cg_7_0 C h (sh_44 hS) cU_X6 (List.mem_cons_of_mem _ wl_X6_31) dX6_app_69 ?_
  refine cg_9_2 C h (sh_1 hS) cU_X8 (List.mem_cons_of_mem _ wl_X6_72) dX6_app_72 ?_
  obtain ⟨g24, hm⟩ := grd_s hm
  refine z_if_ne (tgt := 90) C dX6_app_75 (by decide) g24 (fun c25 => ?_) (fun c25 => ?_)
  · have hm := ite_f c25 hm
    refine lv_iconst (v := Int32.ofInt 0) C.1 C.2.1 dX6_app_90 (by decide) ?_
    cases hm
    exact c_iretA C hG h hr hlk dX6_app_91 rfl
  · have hm := ite_t c25 hm
    refine z_aload_n C dX6_app_78 rfl (lv_at hl 2 rfl) ?_
    refine z_aload_n C dX6_app_79 rfl (lv_at hl 1 rfl) ?_
    refine cg_7_4 C h (sh_44 hS) cU_X6 (List.mem_cons_of_mem _ wl_X6_20) dX6_app_80 ?_
    refine lv_iload_n C.1 C.2.1 dX6_app_83 rfl (lv_at hl 0 rfl) ?_
    obtain ⟨r26, e27, hm⟩ := obd_s hm
    have q28 := (km_Pc_applyC hC hv_x2 (cl_fl hC (f := 144) rfl 44) e27)
    obtain ⟨g29, hm⟩ := grd_s hm
    have q := km_Rd_app_87 hmrArg hmrFun  q28.2  hm
    refine c_callViA C hE h g29 rfl (by decide) (kc_Pc_applyC l D k z mi aK aV N 24 hC hv_x2 (cl_fl hC (f := 144) rfl 44) e27) (cwV 2 C.2.2.1 (gS_X6_172 _) rfl rfl rfl hd_X5_apply ⟨(by show 164 + 1 ≤ φ + 3; omega), (by show 8 + (3 + 11) + 7800 ≤ ψ + 72; omega)⟩) rfl hl.1 rfl (Nat.le_of_ble_eq_true rfl) dX6_app_84 ⟨rcC hX q28.1 q.1, rsC hX q28.1 q.1⟩ (fun u H locs hg h => ?_)
    simp only [← gx_rfv hg (sh_44 hS).2.1, ← gx_rfv hg hv_x2] at hl
    try simp only [← gx_rfv hg (sh_44 hS).2.1, ← gx_rfv hg hv_x2]
    refine W_cast (wcC hX q28.1).symm (wsC hX q28.1).symm ?_
    exact kl_Rd_app_87 (N := N) C hr hlk hE hφ hψ hmrArg hcrArg hmrFun hcrFun  q28.2 (hG.tr hg hX.1) (hX.tr q28.1)  (lv_sub hl [] rfl) h hm
set_option maxHeartbeats 8000000 in
set_option maxRecDepth 100000 in
theorem kl_Rd_app_63 {r : Sh × St × Int} (C : Cx p s m args c cX6_app RX6 (cd :: cWd) D (TYs k) 4) (hr : meth.sig.returnType = (some .int)) (hlk : meth.locks = false) (hE : Ev z mi aK aV A s s.heap) {rArg : Sh → St → Option (Sh × St × Int)} {rFun : Sh → St → Option (Sh × St × Int)} (hφ : 260 ≤ φ) (hψ : 12000 ≤ ψ) (hmrArg : ∀ {π : Sh} {σ : St}  {r : Sh × St × Int}, Cl π σ → rArg π σ  = some r → ext π r.1 ∧ Cl r.1 r.2.1) (hcrArg : ∀ {g : Nat → Nat} {π : Sh} {σ : St}  {r : Sh × St × Int}, Cl π σ → rArg π σ  = some r → Mi l yX6_arg (.code yX6_arg cX6_arg 3 (some .int) :: cWd) { frames := φ, cells := nn r.1 - nn π, slots := sw r.1 - sw π, locals := ψ } [rfv g 44] D (TYs k) (cW k z g π σ) (XV z mi aK aV (cW k z g π σ)) (Nat → Nat) (fun v u => gx (nn π) g u ∧ v = Int32.ofInt r.2.2) (fun u => cW k z u r.1 r.2.1) (nn r.1 - nn π) (sw r.1 - sw π)) (hmrFun : ∀ {π : Sh} {σ : St}  {r : Sh × St × Int}, Cl π σ → rFun π σ  = some r → ext π r.1 ∧ Cl r.1 r.2.1 ∧ r.2.2 < nn r.1) (hcrFun : ∀ {g : Nat → Nat} {π : Sh} {σ : St}  {r : Sh × St × Int}, Cl π σ → rFun π σ  = some r → Mq l yX6_fun (.code yX6_fun cX6_fun 5 (some (.object "CycleStudio$Piece")) :: cWd) { frames := φ, cells := nn r.1 - nn π, slots := sw r.1 - sw π, locals := ψ } [rfv g 44] D (TYs k) (cW k z g π σ) (XV z mi aK aV (cW k z g π σ)) (Nat → Nat) (fun v u => gx (nn π) g u ∧ v = rfo u r.2.2) (fun u => cW k z u r.1 r.2.1) (nn r.1 - nn π) (sw r.1 - sw π))  {ls : Array Slot} {H : Heap} {locs : List Loc} {g : Nat → Nat} {π : Sh} {σ : St} {x2 : Int} {s0 : Int} (hC : Cl π σ) (hG : gx (nn π0) g0 g) (hX : ext π0 π) (hv_x2 : x2 < nn π) (hl : lv_has ls 4 [(0, rfv g 44), (2, rfv g x2)]) (h : Hp D A s.heap H locs (cW k z g π σ)) (hm : Rd_app_63 N rArg rFun π σ x2 s0 = some r) : W p l e { frames := φ + 3, cells := nn r.1 - nn π0, slots := sw r.1 - sw π0, locals := ψ + 72 } s m args below meth c H locs (nn π - nn π0) (sw π - sw π0) (MQ below (va_Qi (fun v u => gx (nn π0) g0 u ∧ v = Int32.ofInt r.2.2) (fun u t => PostW D (TYs k) A (cW k z u r.1 r.2.1) t) A) args s (nn r.1 - nn π0) (sw r.1 - sw π0) A) (F0 m 63 ls [.int (Int32.ofInt s0)]) := by
  have hS := hC.1
  have hq := km_Rd_app_63 hmrArg hmrFun   hC hv_x2 hm
  rw [Rd_app_63] at hm
  refine lv_goto (tgt := 67) C.1 C.2.1 dX6_app_63 (by decide) ?_
  exact kl_Rd_app_67 (N := N) C hr hlk hE hφ hψ hmrArg hcrArg hmrFun hcrFun hC hG hX hv_x2 (lv_sub hl [0, 1] rfl) h hm
set_option maxHeartbeats 8000000 in
set_option maxRecDepth 100000 in
theorem kl_Rd_app_48 {r : Sh × St × Int} (C : Cx p s m args c cX6_app RX6 (cd :: cWd) D (TYs k) 4) (hr : meth.sig.returnType = (some .int)) (hlk : meth.locks = false) (hE : Ev z mi aK aV A s s.heap) {rArg : Sh → St → Option (Sh × St × Int)} {rFun : Sh → St → Option (Sh × St × Int)} (hφ : 260 ≤ φ) (hψ : 12000 ≤ ψ) (hmrArg : ∀ {π : Sh} {σ : St}  {r : Sh × St × Int}, Cl π σ → rArg π σ  = some r → ext π r.1 ∧ Cl r.1 r.2.1) (hcrArg : ∀ {g : Nat → Nat} {π : Sh} {σ : St}  {r : Sh × St × Int}, Cl π σ → rArg π σ  = some r → Mi l yX6_arg (.code yX6_arg cX6_arg 3 (some .int) :: cWd) { frames := φ, cells := nn r.1 - nn π, slots := sw r.1 - sw π, locals := ψ } [rfv g 44] D (TYs k) (cW k z g π σ) (XV z mi aK aV (cW k z g π σ)) (Nat → Nat) (fun v u => gx (nn π) g u ∧ v = Int32.ofInt r.2.2) (fun u => cW k z u r.1 r.2.1) (nn r.1 - nn π) (sw r.1 - sw π)) (hmrFun : ∀ {π : Sh} {σ : St}  {r : Sh × St × Int}, Cl π σ → rFun π σ  = some r → ext π r.1 ∧ Cl r.1 r.2.1 ∧ r.2.2 < nn r.1) (hcrFun : ∀ {g : Nat → Nat} {π : Sh} {σ : St}  {r : Sh × St × Int}, Cl π σ → rFun π σ  = some r → Mq l yX6_fun (.code yX6_fun cX6_fun 5 (some (.object "CycleStudio$Piece")) :: cWd) { frames := φ, cells := nn r.1 - nn π, slots := sw r.1 - sw π, locals := ψ } [rfv g 44] D (TYs k) (cW k z g π σ) (XV z mi aK aV (cW k z g π σ)) (Nat → Nat) (fun v u => gx (nn π) g u ∧ v = rfo u r.2.2) (fun u => cW k z u r.1 r.2.1) (nn r.1 - nn π) (sw r.1 - sw π))  {ls : Array Slot} {H : Heap} {locs : List Loc} {g : Nat → Nat} {π : Sh} {σ : St} {s0 : Int} (hC : Cl π σ) (hG : gx (nn π0) g0 g) (hX : ext π0 π) (hv_s0 : s0 < nn π) (hl : lv_has ls 4 [(0, rfv g 44)]) (h : Hp D A s.heap H locs (cW k z g π σ)) (hm : Rd_app_48 N rArg rFun π σ s0 = some r) : W p l e { frames := φ + 3, cells := nn r.1 - nn π0, slots := sw r.1 - sw π0, locals := ψ + 72 } s m args below meth c H locs (nn π - nn π0) (sw π - sw π0) (MQ below (va_Qi (fun v u => gx (nn π0) g0 u ∧ v = Int32.ofInt r.2.2) (fun u t => PostW D (TYs k) A (cW k z u r.1 r.2.1) t) A) args s (nn r.1 - nn π0) (sw r.1 - sw π0) A) (F0 m 48 ls [rfv g s0]) := by
  have hS := hC.1
  have hq := km_Rd_app_48 hmrArg hmrFun   hC hv_s0 hm
  rw [Rd_app_48] at hm
  refine z_astore_n (lv' := [(2, rfv g s0), (0, rfv g 44)]) C dX6_app_48 rfl hl (by decide) rfl (fun ls hl => ?_)
  refine z_aload_n C dX6_app_49 rfl (lv_at hl 1 rfl) ?_
  refine cg_7_0 C h (sh_44 hS) cU_X6 (List.mem_cons_of_mem _ wl_X6_31) dX6_app_50 ?_
  refine cg_9_2 C h (sh_1 hS) cU_X8 (List.mem_cons_of_mem _ wl_X6_72) dX6_app_53 ?_
  obtain ⟨g19, hm⟩ := grd_s hm
  refine z_if_ne (tgt := 66) C dX6_app_56 (by decide) g19 (fun c20 => ?_) (fun c20 => ?_)
  · have hm := ite_f c20 hm
    refine lv_iconst (v := Int32.ofInt 0) C.1 C.2.1 dX6_app_66 (by decide) ?_
    exact kl_Rd_app_67 (N := N) C hr hlk hE hφ hψ hmrArg hcrArg hmrFun hcrFun hC hG hX hv_s0 (lv_sub hl [1, 0] rfl) h hm
  · have hm := ite_t c20 hm
    refine z_aload_n C dX6_app_59 rfl (lv_at hl 1 rfl) ?_
    obtain ⟨r21, e22, hm⟩ := obd_s hm
    have q23 := (hmrArg hC e22)
    have q := km_Rd_app_63 hmrArg hmrFun  q23.2 (lt_ext hv_s0 q23.1) hm
    refine c_callViA C hE h (sh_44 hS) rfl (by decide) (hcrArg hC e22) (cwV 0 C.2.2.1 (gS_X6_162 _) rfl rfl rfl hd_X6_arg ⟨(by show φ + 1 ≤ φ + 3; omega), (by show 8 + (3 + 11) + ψ ≤ ψ + 72; omega)⟩) rfl hl.1 rfl (Nat.le_of_ble_eq_true rfl) dX6_app_60 ⟨rcC hX q23.1 q.1, rsC hX q23.1 q.1⟩ (fun u H locs hg h => ?_)
    simp only [← gx_rfv hg hv_s0, ← gx_rfv hg (sh_44 hS).2.1] at hl
    try simp only [← gx_rfv hg hv_s0, ← gx_rfv hg (sh_44 hS).2.1]
    refine W_cast (wcC hX q23.1).symm (wsC hX q23.1).symm ?_
    exact kl_Rd_app_63 (N := N) C hr hlk hE hφ hψ hmrArg hcrArg hmrFun hcrFun  q23.2 (hG.tr hg hX.1) (hX.tr q23.1) (lt_ext hv_s0 q23.1) (lv_sub hl [1, 0] rfl) h hm
set_option maxHeartbeats 8000000 in
set_option maxRecDepth 100000 in
theorem kl_Rd_app_43 {r : Sh × St × Int} (C : Cx p s m args c cX6_app RX6 (cd :: cWd) D (TYs k) 4) (hr : meth.sig.returnType = (some .int)) (hlk : meth.locks = false) (hE : Ev z mi aK aV A s s.heap) {rArg : Sh → St → Option (Sh × St × Int)} {rFun : Sh → St → Option (Sh × St × Int)} (hφ : 260 ≤ φ) (hψ : 12000 ≤ ψ) (hmrArg : ∀ {π : Sh} {σ : St}  {r : Sh × St × Int}, Cl π σ → rArg π σ  = some r → ext π r.1 ∧ Cl r.1 r.2.1) (hcrArg : ∀ {g : Nat → Nat} {π : Sh} {σ : St}  {r : Sh × St × Int}, Cl π σ → rArg π σ  = some r → Mi l yX6_arg (.code yX6_arg cX6_arg 3 (some .int) :: cWd) { frames := φ, cells := nn r.1 - nn π, slots := sw r.1 - sw π, locals := ψ } [rfv g 44] D (TYs k) (cW k z g π σ) (XV z mi aK aV (cW k z g π σ)) (Nat → Nat) (fun v u => gx (nn π) g u ∧ v = Int32.ofInt r.2.2) (fun u => cW k z u r.1 r.2.1) (nn r.1 - nn π) (sw r.1 - sw π)) (hmrFun : ∀ {π : Sh} {σ : St}  {r : Sh × St × Int}, Cl π σ → rFun π σ  = some r → ext π r.1 ∧ Cl r.1 r.2.1 ∧ r.2.2 < nn r.1) (hcrFun : ∀ {g : Nat → Nat} {π : Sh} {σ : St}  {r : Sh × St × Int}, Cl π σ → rFun π σ  = some r → Mq l yX6_fun (.code yX6_fun cX6_fun 5 (some (.object "CycleStudio$Piece")) :: cWd) { frames := φ, cells := nn r.1 - nn π, slots := sw r.1 - sw π, locals := ψ } [rfv g 44] D (TYs k) (cW k z g π σ) (XV z mi aK aV (cW k z g π σ)) (Nat → Nat) (fun v u => gx (nn π) g u ∧ v = rfo u r.2.2) (fun u => cW k z u r.1 r.2.1) (nn r.1 - nn π) (sw r.1 - sw π))  {ls : Array Slot} {H : Heap} {locs : List Loc} {g : Nat → Nat} {π : Sh} {σ : St} {x1 : Int} (hC : Cl π σ) (hG : gx (nn π0) g0 g) (hX : ext π0 π)  (hl : lv_has ls 4 [(0, rfv g 44), (1, .int (Int32.ofInt x1))]) (h : Hp D A s.heap H locs (cW k z g π σ)) (hm : Rd_app_43 N rArg rFun π σ x1 = some r) : W p l e { frames := φ + 3, cells := nn r.1 - nn π0, slots := sw r.1 - sw π0, locals := ψ + 72 } s m args below meth c H locs (nn π - nn π0) (sw π - sw π0) (MQ below (va_Qi (fun v u => gx (nn π0) g0 u ∧ v = Int32.ofInt r.2.2) (fun u t => PostW D (TYs k) A (cW k z u r.1 r.2.1) t) A) args s (nn r.1 - nn π0) (sw r.1 - sw π0) A) (F0 m 43 ls []) := by
  have hS := hC.1
  have hq := km_Rd_app_43 hmrArg hmrFun   hC  hm
  rw [Rd_app_43] at hm
  refine z_aload_n C dX6_app_43 rfl (lv_at hl 0 rfl) ?_
  refine lv_iload_n C.1 C.2.1 dX6_app_44 rfl (lv_at hl 1 rfl) ?_
  obtain ⟨r16, e17, hm⟩ := obd_s hm
  have q18 := (km_Rd_named hmrArg hmrFun hC e17)
  have q := km_Rd_app_48 hmrArg hmrFun  q18.2.1 q18.2.2 hm
  refine c_callVqA C hE h (sh_44 hS) rfl (by decide) (kc_Rd_named l D k z mi aK aV g N hφ hψ hmrArg hcrArg hmrFun hcrFun hC e17) (cwV 1 C.2.2.1 (gS_X6_168 _) rfl rfl rfl hd_X6_named ⟨(by show φ + 2 + 1 ≤ φ + 3; omega), (by show 8 + (5 + 11) + (ψ + 48) ≤ ψ + 72; omega)⟩) rfl hl.1 rfl (Nat.le_of_ble_eq_true rfl) dX6_app_45 ⟨rcC hX q18.1 q.1, rsC hX q18.1 q.1⟩ (fun u H locs hg h => ?_)
  simp only [← gx_rfv hg (sh_44 hS).2.1] at hl
  try simp only [← gx_rfv hg (sh_44 hS).2.1]
  refine W_cast (wcC hX q18.1).symm (wsC hX q18.1).symm ?_
  exact kl_Rd_app_48 (N := N) C hr hlk hE hφ hψ hmrArg hcrArg hmrFun hcrFun  q18.2.1 (hG.tr hg hX.1) (hX.tr q18.1) q18.2.2 (lv_sub hl [0] rfl) h hm
set_option maxHeartbeats 8000000 in
set_option maxRecDepth 100000 in
theorem kc_Rd_app (l : Launch) (D : va_G) (k : Nat → ClassId) (z mi : Nat) (aK aV : Nat → Nat) (g : Nat → Nat) (N : Nat) {φ ψ : Nat} {rArg : Sh → St → Option (Sh × St × Int)} {rFun : Sh → St → Option (Sh × St × Int)} (hφ : 260 ≤ φ) (hψ : 12000 ≤ ψ) (hmrArg : ∀ {π : Sh} {σ : St}  {r : Sh × St × Int}, Cl π σ → rArg π σ  = some r → ext π r.1 ∧ Cl r.1 r.2.1) (hcrArg : ∀ {g : Nat → Nat} {π : Sh} {σ : St}  {r : Sh × St × Int}, Cl π σ → rArg π σ  = some r → Mi l yX6_arg (.code yX6_arg cX6_arg 3 (some .int) :: cWd) { frames := φ, cells := nn r.1 - nn π, slots := sw r.1 - sw π, locals := ψ } [rfv g 44] D (TYs k) (cW k z g π σ) (XV z mi aK aV (cW k z g π σ)) (Nat → Nat) (fun v u => gx (nn π) g u ∧ v = Int32.ofInt r.2.2) (fun u => cW k z u r.1 r.2.1) (nn r.1 - nn π) (sw r.1 - sw π)) (hmrFun : ∀ {π : Sh} {σ : St}  {r : Sh × St × Int}, Cl π σ → rFun π σ  = some r → ext π r.1 ∧ Cl r.1 r.2.1 ∧ r.2.2 < nn r.1) (hcrFun : ∀ {g : Nat → Nat} {π : Sh} {σ : St}  {r : Sh × St × Int}, Cl π σ → rFun π σ  = some r → Mq l yX6_fun (.code yX6_fun cX6_fun 5 (some (.object "CycleStudio$Piece")) :: cWd) { frames := φ, cells := nn r.1 - nn π, slots := sw r.1 - sw π, locals := ψ } [rfv g 44] D (TYs k) (cW k z g π σ) (XV z mi aK aV (cW k z g π σ)) (Nat → Nat) (fun v u => gx (nn π) g u ∧ v = rfo u r.2.2) (fun u => cW k z u r.1 r.2.1) (nn r.1 - nn π) (sw r.1 - sw π)) {π : Sh} {σ : St}  {r : Sh × St × Int} (hC : Cl π σ)  (hm : Rd_app N rArg rFun π σ  = some r) : Mi l yX6_app (.code yX6_app cX6_app 4 (some .int) :: cWd) { frames := φ + 3, cells := nn r.1 - nn π, slots := sw r.1 - sw π, locals := ψ + 72 } [rfv g 44] D (TYs k) (cW k z g π σ) (XV z mi aK aV (cW k z g π σ)) (Nat → Nat) (fun v u => gx (nn π) g u ∧ v = Int32.ofInt r.2.2) (fun u => cW k z u r.1 r.2.1) (nn r.1 - nn π) (sw r.1 - sw π) := by
  have hS := hC.1
  have hq := km_Rd_app hmrArg hmrFun hC  hm
  intro sz
  refine v_met (cc := cX6_app) (maxL := 4) (ret := (some .int)) (lv := [(0, rfv g 44)]) (by decide) rfl (by simp [lg_sl, rfv_cat, cat_i, cat_l]) (by simp [lv_args, rfv_cat, cat_i, cat_l]) ?_
  intro p e s m below meth c ls C hE hr hlk hmn hl h
  generalize ([rfv g 44] : List Value).toArray = args at C ⊢
  have hG := gx.rf (nn π) g
  have hX := ext.rf π
  refine W_cast (Nat.sub_self (nn π)) (Nat.sub_self (sw π)) ?_
  rw [Rd_app] at hm
  refine z_aload_n C dX6_app_0 rfl (lv_at hl 0 rfl) ?_
  refine cg_7_0 C h (sh_44 hS) cU_X6 (List.mem_cons_of_mem _ wl_X6_31) dX6_app_1 ?_
  refine cg_9_5 C h (sh_1 hS) cU_X8 (List.mem_cons_of_mem _ wl_X6_66) dX6_app_4 ?_
  refine lv_iconst (v := Int32.ofInt 1) C.1 C.2.1 dX6_app_7 (by decide) ?_
  obtain ⟨g1, hm⟩ := grd_s hm
  refine z_icmp_eq (tgt := 16) C dX6_app_8 (by decide) g1 (by decide) (fun c2 => ?_) (fun c2 => ?_)
  · have hm := ite_t c2 hm
    refine z_aload_n C dX6_app_16 rfl (lv_at hl 0 rfl) ?_
    refine z_aload_n C dX6_app_17 rfl (lv_at hl 0 rfl) ?_
    refine cg_7_0 C h (sh_44 hS) cU_X6 (List.mem_cons_of_mem _ wl_X6_31) dX6_app_18 ?_
    refine cg_9_8 C h (sh_1 hS) cU_X8 (List.mem_cons_of_mem _ wl_X6_91) dX6_app_21 ?_
    obtain ⟨r3, e4, hm⟩ := obd_s hm
    have q5 := (km_Rd_kindOf hC e4)
    refine c_callViP C hE h (sh_44 hS) rfl (by decide) (kc_Rd_kindOf l D k z mi aK aV g N hS e4) (cwV 1 C.2.2.1 (gS_X6_165 _) rfl rfl rfl hd_X6_kindOf ⟨(by show 3 + 1 ≤ φ + 3; omega), (by show 8 + (4 + 11) + 81 ≤ ψ + 72; omega)⟩) rfl hl.1 rfl (Nat.le_of_ble_eq_true rfl) dX6_app_24 ⟨(czz hX hq.1), (szz hX hq.1)⟩ (fun H locs h => ?_)
    have hC6 : Cl π r3.1 := q5
    refine lv_istore_n (i := 1) (lv' := [(1, .int (Int32.ofInt r3.2)), (0, rfv g 44)]) C.1 C.2.1 dX6_app_27 rfl hl (by decide) (by simp [rfv_cat, cat_i, cat_l]) (fun ls hl => ?_)
    refine lv_iload_n C.1 C.2.1 dX6_app_28 rfl (lv_at hl 0 rfl) ?_
    refine lv_iconst (v := Int32.ofInt 2) C.1 C.2.1 dX6_app_29 (by decide) ?_
    obtain ⟨g7, hm⟩ := grd_s hm
    refine z_icmp_eq (tgt := 43) C dX6_app_30 (by decide) g7 (by decide) (fun c8 => ?_) (fun c8 => ?_)
    · have hm := ite_t c8 hm
      exact kl_Rd_app_43 (N := N) C hr hlk hE hφ hψ hmrArg hcrArg hmrFun hcrFun hC6 hG hX (lv_sub hl [1, 0] rfl) h hm
    · have hm := ite_f c8 hm
      refine lv_iload_n C.1 C.2.1 dX6_app_33 rfl (lv_at hl 0 rfl) ?_
      refine lv_iconst (v := Int32.ofInt 4) C.1 C.2.1 dX6_app_34 (by decide) ?_
      refine z_icmp_eq (tgt := 43) C dX6_app_35 (by decide) g7 (by decide) (fun c9 => ?_) (fun c9 => ?_)
      · have hm := ite_t c9 hm
        exact kl_Rd_app_43 (N := N) C hr hlk hE hφ hψ hmrArg hcrArg hmrFun hcrFun hC6 hG hX (lv_sub hl [1, 0] rfl) h hm
      · have hm := ite_f c9 hm
        refine z_aload_n C dX6_app_38 rfl (lv_at hl 1 rfl) ?_
        obtain ⟨r10, e11, hm⟩ := obd_s hm
        have q12 := (hmrArg hC6 e11)
        have q := km_Rd_app_42 hmrArg hmrFun  q12.2  hm
        refine c_callViA C hE h (sh_44 hS) rfl (by decide) (hcrArg hC6 e11) (cwV 0 C.2.2.1 (gS_X6_162 _) rfl rfl rfl hd_X6_arg ⟨(by show φ + 1 ≤ φ + 3; omega), (by show 8 + (3 + 11) + ψ ≤ ψ + 72; omega)⟩) rfl hl.1 rfl (Nat.le_of_ble_eq_true rfl) dX6_app_39 ⟨rcC hX q12.1 q.1, rsC hX q12.1 q.1⟩ (fun u H locs hg h => ?_)
        simp only [← gx_rfv hg (sh_44 hS).2.1] at hl
        try simp only [← gx_rfv hg (sh_44 hS).2.1]
        refine W_cast (wcC hX q12.1).symm (wsC hX q12.1).symm ?_
        exact kl_Rd_app_42 (N := N) C hr hlk hE hφ hψ hmrArg hcrArg hmrFun hcrFun  q12.2 (hG.tr hg hX.1) (hX.tr q12.1)  (lv_sub hl [] rfl) h hm
  · have hm := ite_f c2 hm
    refine z_aload_n C dX6_app_11 rfl (lv_at hl 0 rfl) ?_
    obtain ⟨r13, e14, hm⟩ := obd_s hm
    have q15 := (hmrArg hC e14)
    have q := km_Rd_app_15 hmrArg hmrFun  q15.2  hm
    refine c_callViA C hE h (sh_44 hS) rfl (by decide) (hcrArg hC e14) (cwV 0 C.2.2.1 (gS_X6_162 _) rfl rfl rfl hd_X6_arg ⟨(by show φ + 1 ≤ φ + 3; omega), (by show 8 + (3 + 11) + ψ ≤ ψ + 72; omega)⟩) rfl hl.1 rfl (Nat.le_of_ble_eq_true rfl) dX6_app_12 ⟨rcC hX q15.1 q.1, rsC hX q15.1 q.1⟩ (fun u H locs hg h => ?_)
    simp only [← gx_rfv hg (sh_44 hS).2.1] at hl
    try simp only [← gx_rfv hg (sh_44 hS).2.1]
    refine W_cast (wcC hX q15.1).symm (wsC hX q15.1).symm ?_
    exact kl_Rd_app_15 (N := N) C hr hlk hE hφ hψ hmrArg hcrArg hmrFun hcrFun  q15.2 (hG.tr hg hX.1) (hX.tr q15.1)  (lv_sub hl [] rfl) h hm
end Z_Rd_app
section Z_Rd_sum
variable {p : Program} {l : Launch} {e : Env} {s : State} {m : MethodId} {args : Array Value} {below : List Frame} {meth : Method} {c : Code} {D : va_G} {A : Nat → Prop} {k : Nat → ClassId} {N : Nat} {cd : Cond} {z mi : Nat} {aK aV : Nat → Nat} {g0 : Nat → Nat} {π0 : Sh} {φ ψ : Nat}
set_option maxHeartbeats 8000000 in
set_option maxRecDepth 100000 in
theorem kl_Rd_sum_90 {r : Sh × St × Int} (C : Cx p s m args c cX6_sum RX6 (cd :: cWd) D (TYs k) 4) (hr : meth.sig.returnType = (some .int)) (hlk : meth.locks = false) (hE : Ev z mi aK aV A s s.heap) {rArg : Sh → St → Option (Sh × St × Int)} {rFun : Sh → St → Option (Sh × St × Int)} (hφ : 260 ≤ φ) (hψ : 12000 ≤ ψ) (hmrArg : ∀ {π : Sh} {σ : St}  {r : Sh × St × Int}, Cl π σ → rArg π σ  = some r → ext π r.1 ∧ Cl r.1 r.2.1) (hcrArg : ∀ {g : Nat → Nat} {π : Sh} {σ : St}  {r : Sh × St × Int}, Cl π σ → rArg π σ  = some r → Mi l yX6_arg (.code yX6_arg cX6_arg 3 (some .int) :: cWd) { frames := φ, cells := nn r.1 - nn π, slots := sw r.1 - sw π, locals := ψ } [rfv g 44] D (TYs k) (cW k z g π σ) (XV z mi aK aV (cW k z g π σ)) (Nat → Nat) (fun v u => gx (nn π) g u ∧ v = Int32.ofInt r.2.2) (fun u => cW k z u r.1 r.2.1) (nn r.1 - nn π) (sw r.1 - sw π)) (hmrFun : ∀ {π : Sh} {σ : St}  {r : Sh × St × Int}, Cl π σ → rFun π σ  = some r → ext π r.1 ∧ Cl r.1 r.2.1 ∧ r.2.2 < nn r.1) (hcrFun : ∀ {g : Nat → Nat} {π : Sh} {σ : St}  {r : Sh × St × Int}, Cl π σ → rFun π σ  = some r → Mq l yX6_fun (.code yX6_fun cX6_fun 5 (some (.object "CycleStudio$Piece")) :: cWd) { frames := φ, cells := nn r.1 - nn π, slots := sw r.1 - sw π, locals := ψ } [rfv g 44] D (TYs k) (cW k z g π σ) (XV z mi aK aV (cW k z g π σ)) (Nat → Nat) (fun v u => gx (nn π) g u ∧ v = rfo u r.2.2) (fun u => cW k z u r.1 r.2.1) (nn r.1 - nn π) (sw r.1 - sw π)) {rec7 : Sh → St → Int → Int → Option (Sh × St × Int)} (krec7 : ∀ {π : Sh} {σ : St} {x1 : Int} {x2 : Int}, Cl π σ → rec7 π σ x1 x2 = some r → ext π r.1 ∧ Cl r.1 r.2.1) (hrec7 : ∀ {ls : Array Slot} {H : Heap} {locs : List Loc} {g : Nat → Nat} {π : Sh} {σ : St} {x1 : Int} {x2 : Int}, Cl π σ → gx (nn π0) g0 g → ext π0 π → lv_has ls 4 [(0, rfv g 44), (1, .int (Int32.ofInt x1)), (2, .int (Int32.ofInt x2))] → Hp D A s.heap H locs (cW k z g π σ) → rec7 π σ x1 x2 = some r → W p l e { frames := φ + 4, cells := nn r.1 - nn π0, slots := sw r.1 - sw π0, locals := ψ + 95 } s m args below meth c H locs (nn π - nn π0) (sw π - sw π0) (MQ below (va_Qi (fun v u => gx (nn π0) g0 u ∧ v = Int32.ofInt r.2.2) (fun u t => PostW D (TYs k) A (cW k z u r.1 r.2.1) t) A) args s (nn r.1 - nn π0) (sw r.1 - sw π0) A) (F0 m 7 ls [])) {ls : Array Slot} {H : Heap} {locs : List Loc} {g : Nat → Nat} {π : Sh} {σ : St} {x2 : Int} {s0 : Int} (hC : Cl π σ) (hG : gx (nn π0) g0 g) (hX : ext π0 π)  (hl : lv_has ls 4 [(0, rfv g 44), (2, .int (Int32.ofInt x2))]) (h : Hp D A s.heap H locs (cW k z g π σ)) (hm : Rd_sum_90 N rArg rFun rec7 π σ x2 s0 = some r) : W p l e { frames := φ + 4, cells := nn r.1 - nn π0, slots := sw r.1 - sw π0, locals := ψ + 95 } s m args below meth c H locs (nn π - nn π0) (sw π - sw π0) (MQ below (va_Qi (fun v u => gx (nn π0) g0 u ∧ v = Int32.ofInt r.2.2) (fun u t => PostW D (TYs k) A (cW k z u r.1 r.2.1) t) A) args s (nn r.1 - nn π0) (sw r.1 - sw π0) A) (F0 m 90 ls [.int (Int32.ofInt s0)]) := by
  have hS := hC.1
  have hq := km_Rd_sum_90 hmrArg hmrFun krec7  hC  hm
  rw [Rd_sum_90] at hm
  refine lv_istore_n (i := 1) (lv' := [(1, .int (Int32.ofInt s0)), (0, rfv g 44), (2, .int (Int32.ofInt x2))]) C.1 C.2.1 dX6_sum_90 rfl hl (by decide) (by simp [rfv_cat, cat_i, cat_l]) (fun ls hl => ?_)
  refine lv_iinc (v := Int32.ofInt (x2 + 1)) (lv' := [(2, .int (Int32.ofInt (x2 + 1))), (1, .int (Int32.ofInt s0)), (0, rfv g 44)]) C.1 C.2.1 dX6_sum_91 hl (k := 2) rfl (c32_add _ _) (by decide) rfl (fun ls hl => ?_)
  refine lv_goto (tgt := 7) C.1 C.2.1 dX6_sum_94 (by decide) ?_
  exact hrec7 hC hG hX (lv_sub hl [2, 1, 0] rfl) h hm
set_option maxHeartbeats 8000000 in
set_option maxRecDepth 100000 in
theorem kl_Rd_sum_81 {r : Sh × St × Int} (C : Cx p s m args c cX6_sum RX6 (cd :: cWd) D (TYs k) 4) (hr : meth.sig.returnType = (some .int)) (hlk : meth.locks = false) (hE : Ev z mi aK aV A s s.heap) {rArg : Sh → St → Option (Sh × St × Int)} {rFun : Sh → St → Option (Sh × St × Int)} (hφ : 260 ≤ φ) (hψ : 12000 ≤ ψ) (hmrArg : ∀ {π : Sh} {σ : St}  {r : Sh × St × Int}, Cl π σ → rArg π σ  = some r → ext π r.1 ∧ Cl r.1 r.2.1) (hcrArg : ∀ {g : Nat → Nat} {π : Sh} {σ : St}  {r : Sh × St × Int}, Cl π σ → rArg π σ  = some r → Mi l yX6_arg (.code yX6_arg cX6_arg 3 (some .int) :: cWd) { frames := φ, cells := nn r.1 - nn π, slots := sw r.1 - sw π, locals := ψ } [rfv g 44] D (TYs k) (cW k z g π σ) (XV z mi aK aV (cW k z g π σ)) (Nat → Nat) (fun v u => gx (nn π) g u ∧ v = Int32.ofInt r.2.2) (fun u => cW k z u r.1 r.2.1) (nn r.1 - nn π) (sw r.1 - sw π)) (hmrFun : ∀ {π : Sh} {σ : St}  {r : Sh × St × Int}, Cl π σ → rFun π σ  = some r → ext π r.1 ∧ Cl r.1 r.2.1 ∧ r.2.2 < nn r.1) (hcrFun : ∀ {g : Nat → Nat} {π : Sh} {σ : St}  {r : Sh × St × Int}, Cl π σ → rFun π σ  = some r → Mq l yX6_fun (.code yX6_fun cX6_fun 5 (some (.object "CycleStudio$Piece")) :: cWd) { frames := φ, cells := nn r.1 - nn π, slots := sw r.1 - sw π, locals := ψ } [rfv g 44] D (TYs k) (cW k z g π σ) (XV z mi aK aV (cW k z g π σ)) (Nat → Nat) (fun v u => gx (nn π) g u ∧ v = rfo u r.2.2) (fun u => cW k z u r.1 r.2.1) (nn r.1 - nn π) (sw r.1 - sw π)) {rec7 : Sh → St → Int → Int → Option (Sh × St × Int)} (krec7 : ∀ {π : Sh} {σ : St} {x1 : Int} {x2 : Int}, Cl π σ → rec7 π σ x1 x2 = some r → ext π r.1 ∧ Cl r.1 r.2.1) (hrec7 : ∀ {ls : Array Slot} {H : Heap} {locs : List Loc} {g : Nat → Nat} {π : Sh} {σ : St} {x1 : Int} {x2 : Int}, Cl π σ → gx (nn π0) g0 g → ext π0 π → lv_has ls 4 [(0, rfv g 44), (1, .int (Int32.ofInt x1)), (2, .int (Int32.ofInt x2))] → Hp D A s.heap H locs (cW k z g π σ) → rec7 π σ x1 x2 = some r → W p l e { frames := φ + 4, cells := nn r.1 - nn π0, slots := sw r.1 - sw π0, locals := ψ + 95 } s m args below meth c H locs (nn π - nn π0) (sw π - sw π0) (MQ below (va_Qi (fun v u => gx (nn π0) g0 u ∧ v = Int32.ofInt r.2.2) (fun u t => PostW D (TYs k) A (cW k z u r.1 r.2.1) t) A) args s (nn r.1 - nn π0) (sw r.1 - sw π0) A) (F0 m 7 ls [])) {ls : Array Slot} {H : Heap} {locs : List Loc} {g : Nat → Nat} {π : Sh} {σ : St} {x2 : Int} {x3 : Int} {s0 : Int} (hC : Cl π σ) (hG : gx (nn π0) g0 g) (hX : ext π0 π) (hv_x3 : x3 < nn π) (hv_s0 : s0 < nn π) (hl : lv_has ls 4 [(0, rfv g 44), (2, .int (Int32.ofInt x2)), (3, rfv g x3)]) (h : Hp D A s.heap H locs (cW k z g π σ)) (hm : Rd_sum_81 N rArg rFun rec7 π σ x2 x3 s0 = some r) : W p l e { frames := φ + 4, cells := nn r.1 - nn π0, slots := sw r.1 - sw π0, locals := ψ + 95 } s m args below meth c H locs (nn π - nn π0) (sw π - sw π0) (MQ below (va_Qi (fun v u => gx (nn π0) g0 u ∧ v = Int32.ofInt r.2.2) (fun u t => PostW D (TYs k) A (cW k z u r.1 r.2.1) t) A) args s (nn r.1 - nn π0) (sw r.1 - sw π0) A) (F0 m 81 ls [rfv g s0]) := by
  have hS := hC.1
  have hq := km_Rd_sum_81 hmrArg hmrFun krec7  hC hv_x3 hv_s0 hm
  rw [Rd_sum_81] at hm
  refine lv_pop C.1 C.2.1 dX6_sum_81 (rfv_cat _ _) ?_
  refine z_aload_n C dX6_sum_82 rfl (lv_at hl 0 rfl) ?_
  refine cg_7_4 C h (sh_44 hS) cU_X6 (List.mem_cons_of_mem _ wl_X6_20) dX6_sum_83 ?_
  refine z_aload_n C dX6_sum_86 rfl (lv_at hl 2 rfl) ?_
  obtain ⟨r32, e33, hm⟩ := obd_s hm
  have q34 := (km_Df_add hC (cl_fl hC (f := 144) rfl 44) hv_x3 e33)
  obtain ⟨g35, hm⟩ := grd_s hm
  have q := km_Rd_sum_90 hmrArg hmrFun krec7 q34.2  hm
  refine c_callViA C hE h g35 rfl (by decide) (kc_Df_add l D k z mi aK aV g N hC (cl_fl hC (f := 144) rfl 44) hv_x3 e33) (cwV 1 C.2.2.1 (gS_X6_141 _) rfl rfl rfl hd_X0_add ⟨(by show 7 + 1 ≤ φ + 4; omega), (by show 8 + (2 + 11) + 241 ≤ ψ + 95; omega)⟩) rfl hl.1 rfl (Nat.le_of_ble_eq_true rfl) dX6_sum_87 ⟨rcC hX q34.1 q.1, rsC hX q34.1 q.1⟩ (fun u H locs hg h => ?_)
  simp only [← gx_rfv hg (sh_44 hS).2.1, ← gx_rfv hg hv_x3] at hl
  try simp only [← gx_rfv hg (sh_44 hS).2.1, ← gx_rfv hg hv_x3]
  refine W_cast (wcC hX q34.1).symm (wsC hX q34.1).symm ?_
  exact kl_Rd_sum_90 (N := N) C hr hlk hE hφ hψ hmrArg hcrArg hmrFun hcrFun krec7 hrec7 q34.2 (hG.tr hg hX.1) (hX.tr q34.1)  (lv_sub hl [0, 1] rfl) h hm
set_option maxHeartbeats 8000000 in
set_option maxRecDepth 100000 in
theorem kl_Rd_sum_78 {r : Sh × St × Int} (C : Cx p s m args c cX6_sum RX6 (cd :: cWd) D (TYs k) 4) (hr : meth.sig.returnType = (some .int)) (hlk : meth.locks = false) (hE : Ev z mi aK aV A s s.heap) {rArg : Sh → St → Option (Sh × St × Int)} {rFun : Sh → St → Option (Sh × St × Int)} (hφ : 260 ≤ φ) (hψ : 12000 ≤ ψ) (hmrArg : ∀ {π : Sh} {σ : St}  {r : Sh × St × Int}, Cl π σ → rArg π σ  = some r → ext π r.1 ∧ Cl r.1 r.2.1) (hcrArg : ∀ {g : Nat → Nat} {π : Sh} {σ : St}  {r : Sh × St × Int}, Cl π σ → rArg π σ  = some r → Mi l yX6_arg (.code yX6_arg cX6_arg 3 (some .int) :: cWd) { frames := φ, cells := nn r.1 - nn π, slots := sw r.1 - sw π, locals := ψ } [rfv g 44] D (TYs k) (cW k z g π σ) (XV z mi aK aV (cW k z g π σ)) (Nat → Nat) (fun v u => gx (nn π) g u ∧ v = Int32.ofInt r.2.2) (fun u => cW k z u r.1 r.2.1) (nn r.1 - nn π) (sw r.1 - sw π)) (hmrFun : ∀ {π : Sh} {σ : St}  {r : Sh × St × Int}, Cl π σ → rFun π σ  = some r → ext π r.1 ∧ Cl r.1 r.2.1 ∧ r.2.2 < nn r.1) (hcrFun : ∀ {g : Nat → Nat} {π : Sh} {σ : St}  {r : Sh × St × Int}, Cl π σ → rFun π σ  = some r → Mq l yX6_fun (.code yX6_fun cX6_fun 5 (some (.object "CycleStudio$Piece")) :: cWd) { frames := φ, cells := nn r.1 - nn π, slots := sw r.1 - sw π, locals := ψ } [rfv g 44] D (TYs k) (cW k z g π σ) (XV z mi aK aV (cW k z g π σ)) (Nat → Nat) (fun v u => gx (nn π) g u ∧ v = rfo u r.2.2) (fun u => cW k z u r.1 r.2.1) (nn r.1 - nn π) (sw r.1 - sw π)) {rec7 : Sh → St → Int → Int → Option (Sh × St × Int)} (krec7 : ∀ {π : Sh} {σ : St} {x1 : Int} {x2 : Int}, Cl π σ → rec7 π σ x1 x2 = some r → ext π r.1 ∧ Cl r.1 r.2.1) (hrec7 : ∀ {ls : Array Slot} {H : Heap} {locs : List Loc} {g : Nat → Nat} {π : Sh} {σ : St} {x1 : Int} {x2 : Int}, Cl π σ → gx (nn π0) g0 g → ext π0 π → lv_has ls 4 [(0, rfv g 44), (1, .int (Int32.ofInt x1)), (2, .int (Int32.ofInt x2))] → Hp D A s.heap H locs (cW k z g π σ) → rec7 π σ x1 x2 = some r → W p l e { frames := φ + 4, cells := nn r.1 - nn π0, slots := sw r.1 - sw π0, locals := ψ + 95 } s m args below meth c H locs (nn π - nn π0) (sw π - sw π0) (MQ below (va_Qi (fun v u => gx (nn π0) g0 u ∧ v = Int32.ofInt r.2.2) (fun u t => PostW D (TYs k) A (cW k z u r.1 r.2.1) t) A) args s (nn r.1 - nn π0) (sw r.1 - sw π0) A) (F0 m 7 ls [])) {ls : Array Slot} {H : Heap} {locs : List Loc} {g : Nat → Nat} {π : Sh} {σ : St} {x2 : Int} {x3 : Int} {s0 : Int} {s1 : Int} (hC : Cl π σ) (hG : gx (nn π0) g0 g) (hX : ext π0 π) (hv_x3 : x3 < nn π) (hv_s1 : s1 < nn π) (hl : lv_has ls 4 [(0, rfv g 44), (2, .int (Int32.ofInt x2)), (3, rfv g x3)]) (h : Hp D A s.heap H locs (cW k z g π σ)) (hm : Rd_sum_78 N rArg rFun rec7 π σ x2 x3 s0 s1 = some r) : W p l e { frames := φ + 4, cells := nn r.1 - nn π0, slots := sw r.1 - sw π0, locals := ψ + 95 } s m args below meth c H locs (nn π - nn π0) (sw π - sw π0) (MQ below (va_Qi (fun v u => gx (nn π0) g0 u ∧ v = Int32.ofInt r.2.2) (fun u t => PostW D (TYs k) A (cW k z u r.1 r.2.1) t) A) args s (nn r.1 - nn π0) (sw r.1 - sw π0) A) (F0 m 78 ls [.int (Int32.ofInt s0), rfv g s1]) := by
  have hS := hC.1
  have hq := km_Rd_sum_78 hmrArg hmrFun krec7  hC hv_x3 hv_s1 hm
  rw [Rd_sum_78] at hm
  obtain ⟨r28, e29, hm⟩ := obd_s hm
  have q30 := (km_Sp_give hC hv_s1 e29)
  obtain ⟨g31, hm⟩ := grd_s hm
  have q := km_Rd_sum_81 hmrArg hmrFun krec7 q30.2.1 (lt_ext hv_x3 q30.1) q30.2.2 hm
  refine c_callVqA C hE h g31 rfl (by decide) (kc_Sp_give l D k z mi aK aV g N hC hv_s1 e29) (cwV 1 C.2.2.1 (gS_X6_137 _) rfl rfl rfl hd_X9_give ⟨(by show 2 + 1 ≤ φ + 4; omega), (by show 8 + (2 + 11) + 82 ≤ ψ + 95; omega)⟩) rfl hl.1 rfl (Nat.le_of_ble_eq_true rfl) dX6_sum_78 ⟨rcC hX q30.1 q.1, rsC hX q30.1 q.1⟩ (fun u H locs hg h => ?_)
  simp only [← gx_rfv hg (sh_44 hS).2.1, ← gx_rfv hg hv_x3] at hl
  try simp only [← gx_rfv hg (sh_44 hS).2.1, ← gx_rfv hg hv_x3]
  refine W_cast (wcC hX q30.1).symm (wsC hX q30.1).symm ?_
  exact kl_Rd_sum_81 (N := N) C hr hlk hE hφ hψ hmrArg hcrArg hmrFun hcrFun krec7 hrec7 q30.2.1 (hG.tr hg hX.1) (hX.tr q30.1) (lt_ext hv_x3 q30.1) q30.2.2 (lv_sub hl [0, 1, 2] rfl) h hm
set_option maxHeartbeats 8000000 in
set_option maxRecDepth 100000 in
theorem kl_Rd_sum_74 {r : Sh × St × Int} (C : Cx p s m args c cX6_sum RX6 (cd :: cWd) D (TYs k) 4) (hr : meth.sig.returnType = (some .int)) (hlk : meth.locks = false) (hE : Ev z mi aK aV A s s.heap) {rArg : Sh → St → Option (Sh × St × Int)} {rFun : Sh → St → Option (Sh × St × Int)} (hφ : 260 ≤ φ) (hψ : 12000 ≤ ψ) (hmrArg : ∀ {π : Sh} {σ : St}  {r : Sh × St × Int}, Cl π σ → rArg π σ  = some r → ext π r.1 ∧ Cl r.1 r.2.1) (hcrArg : ∀ {g : Nat → Nat} {π : Sh} {σ : St}  {r : Sh × St × Int}, Cl π σ → rArg π σ  = some r → Mi l yX6_arg (.code yX6_arg cX6_arg 3 (some .int) :: cWd) { frames := φ, cells := nn r.1 - nn π, slots := sw r.1 - sw π, locals := ψ } [rfv g 44] D (TYs k) (cW k z g π σ) (XV z mi aK aV (cW k z g π σ)) (Nat → Nat) (fun v u => gx (nn π) g u ∧ v = Int32.ofInt r.2.2) (fun u => cW k z u r.1 r.2.1) (nn r.1 - nn π) (sw r.1 - sw π)) (hmrFun : ∀ {π : Sh} {σ : St}  {r : Sh × St × Int}, Cl π σ → rFun π σ  = some r → ext π r.1 ∧ Cl r.1 r.2.1 ∧ r.2.2 < nn r.1) (hcrFun : ∀ {g : Nat → Nat} {π : Sh} {σ : St}  {r : Sh × St × Int}, Cl π σ → rFun π σ  = some r → Mq l yX6_fun (.code yX6_fun cX6_fun 5 (some (.object "CycleStudio$Piece")) :: cWd) { frames := φ, cells := nn r.1 - nn π, slots := sw r.1 - sw π, locals := ψ } [rfv g 44] D (TYs k) (cW k z g π σ) (XV z mi aK aV (cW k z g π σ)) (Nat → Nat) (fun v u => gx (nn π) g u ∧ v = rfo u r.2.2) (fun u => cW k z u r.1 r.2.1) (nn r.1 - nn π) (sw r.1 - sw π)) {rec7 : Sh → St → Int → Int → Option (Sh × St × Int)} (krec7 : ∀ {π : Sh} {σ : St} {x1 : Int} {x2 : Int}, Cl π σ → rec7 π σ x1 x2 = some r → ext π r.1 ∧ Cl r.1 r.2.1) (hrec7 : ∀ {ls : Array Slot} {H : Heap} {locs : List Loc} {g : Nat → Nat} {π : Sh} {σ : St} {x1 : Int} {x2 : Int}, Cl π σ → gx (nn π0) g0 g → ext π0 π → lv_has ls 4 [(0, rfv g 44), (1, .int (Int32.ofInt x1)), (2, .int (Int32.ofInt x2))] → Hp D A s.heap H locs (cW k z g π σ) → rec7 π σ x1 x2 = some r → W p l e { frames := φ + 4, cells := nn r.1 - nn π0, slots := sw r.1 - sw π0, locals := ψ + 95 } s m args below meth c H locs (nn π - nn π0) (sw π - sw π0) (MQ below (va_Qi (fun v u => gx (nn π0) g0 u ∧ v = Int32.ofInt r.2.2) (fun u t => PostW D (TYs k) A (cW k z u r.1 r.2.1) t) A) args s (nn r.1 - nn π0) (sw r.1 - sw π0) A) (F0 m 7 ls [])) {ls : Array Slot} {H : Heap} {locs : List Loc} {g : Nat → Nat} {π : Sh} {σ : St} {x2 : Int} {x3 : Int} {s0 : Int} (hC : Cl π σ) (hG : gx (nn π0) g0 g) (hX : ext π0 π) (hv_x3 : x3 < nn π) (hv_s0 : s0 < nn π) (hl : lv_has ls 4 [(0, rfv g 44), (2, .int (Int32.ofInt x2)), (3, rfv g x3)]) (h : Hp D A s.heap H locs (cW k z g π σ)) (hm : Rd_sum_74 N rArg rFun rec7 π σ x2 x3 s0 = some r) : W p l e { frames := φ + 4, cells := nn r.1 - nn π0, slots := sw r.1 - sw π0, locals := ψ + 95 } s m args below meth c H locs (nn π - nn π0) (sw π - sw π0) (MQ below (va_Qi (fun v u => gx (nn π0) g0 u ∧ v = Int32.ofInt r.2.2) (fun u t => PostW D (TYs k) A (cW k z u r.1 r.2.1) t) A) args s (nn r.1 - nn π0) (sw r.1 - sw π0) A) (F0 m 74 ls [rfv g s0]) := by
  have hS := hC.1
  have hq := km_Rd_sum_74 hmrArg hmrFun krec7  hC hv_x3 hv_s0 hm
  rw [Rd_sum_74] at hm
  refine z_aload_n C dX6_sum_74 rfl (lv_at hl 0 rfl) ?_
  obtain ⟨r25, e26, hm⟩ := obd_s hm
  have q27 := (km_Rd_app hmrArg hmrFun hC e26)
  have q := km_Rd_sum_78 hmrArg hmrFun krec7 q27.2 (lt_ext hv_x3 q27.1) (lt_ext hv_s0 q27.1) hm
  refine c_callViA C hE h (sh_44 hS) rfl (by decide) (kc_Rd_app l D k z mi aK aV g N hφ hψ hmrArg hcrArg hmrFun hcrFun hC e26) (cwV 0 C.2.2.1 (gS_X6_152 _) rfl rfl rfl hd_X6_app ⟨(by show φ + 3 + 1 ≤ φ + 4; omega), (by show 8 + (4 + 11) + (ψ + 72) ≤ ψ + 95; omega)⟩) rfl hl.1 rfl (by simp [rfv_cat, cat_i, cat_l]) dX6_sum_75 ⟨rcC hX q27.1 q.1, rsC hX q27.1 q.1⟩ (fun u H locs hg h => ?_)
  simp only [← gx_rfv hg (sh_44 hS).2.1, ← gx_rfv hg hv_x3, ← gx_rfv hg hv_s0] at hl
  try simp only [← gx_rfv hg (sh_44 hS).2.1, ← gx_rfv hg hv_x3, ← gx_rfv hg hv_s0]
  refine W_cast (wcC hX q27.1).symm (wsC hX q27.1).symm ?_
  exact kl_Rd_sum_78 (N := N) C hr hlk hE hφ hψ hmrArg hcrArg hmrFun hcrFun krec7 hrec7 q27.2 (hG.tr hg hX.1) (hX.tr q27.1) (lt_ext hv_x3 q27.1) (lt_ext hv_s0 q27.1) (lv_sub hl [0, 1, 2] rfl) h hm
set_option maxHeartbeats 8000000 in
set_option maxRecDepth 100000 in
theorem kl_Rd_sum_61 {r : Sh × St × Int} (C : Cx p s m args c cX6_sum RX6 (cd :: cWd) D (TYs k) 4) (hr : meth.sig.returnType = (some .int)) (hlk : meth.locks = false) (hE : Ev z mi aK aV A s s.heap) {rArg : Sh → St → Option (Sh × St × Int)} {rFun : Sh → St → Option (Sh × St × Int)} (hφ : 260 ≤ φ) (hψ : 12000 ≤ ψ) (hmrArg : ∀ {π : Sh} {σ : St}  {r : Sh × St × Int}, Cl π σ → rArg π σ  = some r → ext π r.1 ∧ Cl r.1 r.2.1) (hcrArg : ∀ {g : Nat → Nat} {π : Sh} {σ : St}  {r : Sh × St × Int}, Cl π σ → rArg π σ  = some r → Mi l yX6_arg (.code yX6_arg cX6_arg 3 (some .int) :: cWd) { frames := φ, cells := nn r.1 - nn π, slots := sw r.1 - sw π, locals := ψ } [rfv g 44] D (TYs k) (cW k z g π σ) (XV z mi aK aV (cW k z g π σ)) (Nat → Nat) (fun v u => gx (nn π) g u ∧ v = Int32.ofInt r.2.2) (fun u => cW k z u r.1 r.2.1) (nn r.1 - nn π) (sw r.1 - sw π)) (hmrFun : ∀ {π : Sh} {σ : St}  {r : Sh × St × Int}, Cl π σ → rFun π σ  = some r → ext π r.1 ∧ Cl r.1 r.2.1 ∧ r.2.2 < nn r.1) (hcrFun : ∀ {g : Nat → Nat} {π : Sh} {σ : St}  {r : Sh × St × Int}, Cl π σ → rFun π σ  = some r → Mq l yX6_fun (.code yX6_fun cX6_fun 5 (some (.object "CycleStudio$Piece")) :: cWd) { frames := φ, cells := nn r.1 - nn π, slots := sw r.1 - sw π, locals := ψ } [rfv g 44] D (TYs k) (cW k z g π σ) (XV z mi aK aV (cW k z g π σ)) (Nat → Nat) (fun v u => gx (nn π) g u ∧ v = rfo u r.2.2) (fun u => cW k z u r.1 r.2.1) (nn r.1 - nn π) (sw r.1 - sw π)) {rec7 : Sh → St → Int → Int → Option (Sh × St × Int)} (krec7 : ∀ {π : Sh} {σ : St} {x1 : Int} {x2 : Int}, Cl π σ → rec7 π σ x1 x2 = some r → ext π r.1 ∧ Cl r.1 r.2.1) (hrec7 : ∀ {ls : Array Slot} {H : Heap} {locs : List Loc} {g : Nat → Nat} {π : Sh} {σ : St} {x1 : Int} {x2 : Int}, Cl π σ → gx (nn π0) g0 g → ext π0 π → lv_has ls 4 [(0, rfv g 44), (1, .int (Int32.ofInt x1)), (2, .int (Int32.ofInt x2))] → Hp D A s.heap H locs (cW k z g π σ) → rec7 π σ x1 x2 = some r → W p l e { frames := φ + 4, cells := nn r.1 - nn π0, slots := sw r.1 - sw π0, locals := ψ + 95 } s m args below meth c H locs (nn π - nn π0) (sw π - sw π0) (MQ below (va_Qi (fun v u => gx (nn π0) g0 u ∧ v = Int32.ofInt r.2.2) (fun u t => PostW D (TYs k) A (cW k z u r.1 r.2.1) t) A) args s (nn r.1 - nn π0) (sw r.1 - sw π0) A) (F0 m 7 ls [])) {ls : Array Slot} {H : Heap} {locs : List Loc} {g : Nat → Nat} {π : Sh} {σ : St} {x1 : Int} {x2 : Int} {s0 : Int} (hC : Cl π σ) (hG : gx (nn π0) g0 g) (hX : ext π0 π) (hv_s0 : s0 < nn π) (hl : lv_has ls 4 [(0, rfv g 44), (1, .int (Int32.ofInt x1)), (2, .int (Int32.ofInt x2))]) (h : Hp D A s.heap H locs (cW k z g π σ)) (hm : Rd_sum_61 N rArg rFun rec7 π σ x1 x2 s0 = some r) : W p l e { frames := φ + 4, cells := nn r.1 - nn π0, slots := sw r.1 - sw π0, locals := ψ + 95 } s m args below meth c H locs (nn π - nn π0) (sw π - sw π0) (MQ below (va_Qi (fun v u => gx (nn π0) g0 u ∧ v = Int32.ofInt r.2.2) (fun u t => PostW D (TYs k) A (cW k z u r.1 r.2.1) t) A) args s (nn r.1 - nn π0) (sw r.1 - sw π0) A) (F0 m 61 ls [rfv g s0]) := by
  have hS := hC.1
  have hq := km_Rd_sum_61 hmrArg hmrFun krec7  hC hv_s0 hm
  rw [Rd_sum_61] at hm
  refine z_astore_n (lv' := [(3, rfv g s0), (0, rfv g 44), (1, .int (Int32.ofInt x1)), (2, .int (Int32.ofInt x2))]) C dX6_sum_61 rfl hl (by decide) rfl (fun ls hl => ?_)
  refine z_aload_n C dX6_sum_62 rfl (lv_at hl 1 rfl) ?_
  refine cg_7_0 C h (sh_44 hS) cU_X6 (List.mem_cons_of_mem _ wl_X6_31) dX6_sum_63 ?_
  obtain ⟨r17, e18, hm⟩ := obd_s hm
  have q19 := (km_Sc_advance hC e18)
  refine c_callVvP C hE h (sh_1 hS) rfl (by decide) (kc_Sc_advance l D k z mi aK aV g N hS e18) (cwV 0 C.2.2.1 (gS_X6_88 _) rfl rfl rfl hd_X8_advance ⟨(by show 3 + 1 ≤ φ + 4; omega), (by show 8 + (2 + 11) + 67 ≤ ψ + 95; omega)⟩) rfl hl.1 rfl (Nat.le_of_ble_eq_true rfl) dX6_sum_66 ⟨(czz hX hq.1), (szz hX hq.1)⟩ (fun H locs h => ?_)
  have hC20 : Cl π r17 := q19
  refine z_aload_n C dX6_sum_69 rfl (lv_at hl 0 rfl) ?_
  refine lv_iload_n C.1 C.2.1 dX6_sum_70 rfl (lv_at hl 2 rfl) ?_
  obtain ⟨r21, e22, hm⟩ := obd_s hm
  have q23 := (km_Sp_give hC20 hv_s0 e22)
  obtain ⟨g24, hm⟩ := grd_s hm
  have q := km_Rd_sum_74 hmrArg hmrFun krec7 q23.2.1 (lt_ext hv_s0 q23.1) q23.2.2 hm
  refine c_callVqA C hE h g24 rfl (by decide) (kc_Sp_give l D k z mi aK aV g N hC20 hv_s0 e22) (cwV 1 C.2.2.1 (gS_X6_137 _) rfl rfl rfl hd_X9_give ⟨(by show 2 + 1 ≤ φ + 4; omega), (by show 8 + (2 + 11) + 82 ≤ ψ + 95; omega)⟩) rfl hl.1 rfl (Nat.le_of_ble_eq_true rfl) dX6_sum_71 ⟨rcC hX q23.1 q.1, rsC hX q23.1 q.1⟩ (fun u H locs hg h => ?_)
  simp only [← gx_rfv hg hv_s0, ← gx_rfv hg (sh_44 hS).2.1] at hl
  try simp only [← gx_rfv hg hv_s0, ← gx_rfv hg (sh_44 hS).2.1]
  refine W_cast (wcC hX q23.1).symm (wsC hX q23.1).symm ?_
  exact kl_Rd_sum_74 (N := N) C hr hlk hE hφ hψ hmrArg hcrArg hmrFun hcrFun krec7 hrec7 q23.2.1 (hG.tr hg hX.1) (hX.tr q23.1) (lt_ext hv_s0 q23.1) q23.2.2 (lv_sub hl [1, 3, 0] rfl) h hm
set_option maxHeartbeats 8000000 in
set_option maxRecDepth 100000 in
theorem kl_Rd_sum_40 {r : Sh × St × Int} (C : Cx p s m args c cX6_sum RX6 (cd :: cWd) D (TYs k) 4) (hr : meth.sig.returnType = (some .int)) (hlk : meth.locks = false) (hE : Ev z mi aK aV A s s.heap) {rArg : Sh → St → Option (Sh × St × Int)} {rFun : Sh → St → Option (Sh × St × Int)} (hφ : 260 ≤ φ) (hψ : 12000 ≤ ψ) (hmrArg : ∀ {π : Sh} {σ : St}  {r : Sh × St × Int}, Cl π σ → rArg π σ  = some r → ext π r.1 ∧ Cl r.1 r.2.1) (hcrArg : ∀ {g : Nat → Nat} {π : Sh} {σ : St}  {r : Sh × St × Int}, Cl π σ → rArg π σ  = some r → Mi l yX6_arg (.code yX6_arg cX6_arg 3 (some .int) :: cWd) { frames := φ, cells := nn r.1 - nn π, slots := sw r.1 - sw π, locals := ψ } [rfv g 44] D (TYs k) (cW k z g π σ) (XV z mi aK aV (cW k z g π σ)) (Nat → Nat) (fun v u => gx (nn π) g u ∧ v = Int32.ofInt r.2.2) (fun u => cW k z u r.1 r.2.1) (nn r.1 - nn π) (sw r.1 - sw π)) (hmrFun : ∀ {π : Sh} {σ : St}  {r : Sh × St × Int}, Cl π σ → rFun π σ  = some r → ext π r.1 ∧ Cl r.1 r.2.1 ∧ r.2.2 < nn r.1) (hcrFun : ∀ {g : Nat → Nat} {π : Sh} {σ : St}  {r : Sh × St × Int}, Cl π σ → rFun π σ  = some r → Mq l yX6_fun (.code yX6_fun cX6_fun 5 (some (.object "CycleStudio$Piece")) :: cWd) { frames := φ, cells := nn r.1 - nn π, slots := sw r.1 - sw π, locals := ψ } [rfv g 44] D (TYs k) (cW k z g π σ) (XV z mi aK aV (cW k z g π σ)) (Nat → Nat) (fun v u => gx (nn π) g u ∧ v = rfo u r.2.2) (fun u => cW k z u r.1 r.2.1) (nn r.1 - nn π) (sw r.1 - sw π)) {rec7 : Sh → St → Int → Int → Option (Sh × St × Int)} (krec7 : ∀ {π : Sh} {σ : St} {x1 : Int} {x2 : Int}, Cl π σ → rec7 π σ x1 x2 = some r → ext π r.1 ∧ Cl r.1 r.2.1) (hrec7 : ∀ {ls : Array Slot} {H : Heap} {locs : List Loc} {g : Nat → Nat} {π : Sh} {σ : St} {x1 : Int} {x2 : Int}, Cl π σ → gx (nn π0) g0 g → ext π0 π → lv_has ls 4 [(0, rfv g 44), (1, .int (Int32.ofInt x1)), (2, .int (Int32.ofInt x2))] → Hp D A s.heap H locs (cW k z g π σ) → rec7 π σ x1 x2 = some r → W p l e { frames := φ + 4, cells := nn r.1 - nn π0, slots := sw r.1 - sw π0, locals := ψ + 95 } s m args below meth c H locs (nn π - nn π0) (sw π - sw π0) (MQ below (va_Qi (fun v u => gx (nn π0) g0 u ∧ v = Int32.ofInt r.2.2) (fun u t => PostW D (TYs k) A (cW k z u r.1 r.2.1) t) A) args s (nn r.1 - nn π0) (sw r.1 - sw π0) A) (F0 m 7 ls [])) {ls : Array Slot} {H : Heap} {locs : List Loc} {g : Nat → Nat} {π : Sh} {σ : St} {x1 : Int} {x2 : Int} {s0 : Int} (hC : Cl π σ) (hG : gx (nn π0) g0 g) (hX : ext π0 π) (hv_s0 : s0 < nn π) (hl : lv_has ls 4 [(0, rfv g 44), (1, .int (Int32.ofInt x1)), (2, .int (Int32.ofInt x2))]) (h : Hp D A s.heap H locs (cW k z g π σ)) (hm : Rd_sum_40 N rArg rFun rec7 π σ x1 x2 s0 = some r) : W p l e { frames := φ + 4, cells := nn r.1 - nn π0, slots := sw r.1 - sw π0, locals := ψ + 95 } s m args below meth c H locs (nn π - nn π0) (sw π - sw π0) (MQ below (va_Qi (fun v u => gx (nn π0) g0 u ∧ v = Int32.ofInt r.2.2) (fun u t => PostW D (TYs k) A (cW k z u r.1 r.2.1) t) A) args s (nn r.1 - nn π0) (sw r.1 - sw π0) A) (F0 m 40 ls [rfv g s0]) := by
  have hS := hC.1
  have hq := km_Rd_sum_40 hmrArg hmrFun krec7  hC hv_s0 hm
  rw [Rd_sum_40] at hm
  refine lv_dup C.1 C.2.1 dX6_sum_40 (rfv_cat _ _) ?_
  refine lv_bipush (v := Int32.ofInt 21) C.1 C.2.1 dX6_sum_41 (by decide) ?_
  refine z_aload_n C dX6_sum_43 rfl (lv_at hl 0 rfl) ?_
  refine cg_7_0 C h (sh_44 hS) cU_X6 (List.mem_cons_of_mem _ wl_X6_31) dX6_sum_44 ?_
  refine cg_9_6 C h (sh_1 hS) cU_X8 (List.mem_cons_of_mem _ wl_X6_81) dX6_sum_47 ?_
  refine z_aload_n C dX6_sum_50 rfl (lv_at hl 0 rfl) ?_
  refine cg_7_0 C h (sh_44 hS) cU_X6 (List.mem_cons_of_mem _ wl_X6_31) dX6_sum_51 ?_
  refine cg_9_5 C h (sh_1 hS) cU_X8 (List.mem_cons_of_mem _ wl_X6_66) dX6_sum_54 ?_
  refine lv_iconst (v := Int32.ofInt 0) C.1 C.2.1 dX6_sum_57 (by decide) ?_
  obtain ⟨r13, e14, hm⟩ := obd_s hm
  have q15 := (km_Sp_initB hC hv_s0 e14)
  obtain ⟨g16, hm⟩ := grd_s hm
  have q := km_Rd_sum_61 hmrArg hmrFun krec7 q15.2 (lt_ext hv_s0 q15.1) hm
  refine c_callIvA C hE h g16 (kc_Sp_initB l D k z mi aK aV g N hC hv_s0 e14) (cwI 4 C.2.2.1 (gC_X9_init_ _) rfl rfl rfl (C.2.2.1 _ (List.mem_cons_of_mem _ wt_X9)) (C.2.2.1 _ (List.mem_cons_of_mem _ wm_X6_159)) (C.2.2.1 _ (List.mem_cons_of_mem _ wj_X9_init_)) rfl hdS_X9_init_ ⟨(by show 1 + 1 ≤ φ + 4; omega), (by show 8 + (5 + 11) + 30 ≤ ψ + 95; omega)⟩) rfl hl.1 rfl (by simp [rfv_cat, cat_i, cat_l]) dX6_sum_58 ⟨rcC hX q15.1 q.1, rsC hX q15.1 q.1⟩ (fun u H locs hg h => ?_)
  simp only [← gx_rfv hg (sh_44 hS).2.1, ← gx_rfv hg hv_s0] at hl
  try simp only [← gx_rfv hg (sh_44 hS).2.1, ← gx_rfv hg hv_s0]
  refine W_cast (wcC hX q15.1).symm (wsC hX q15.1).symm ?_
  exact kl_Rd_sum_61 (N := N) C hr hlk hE hφ hψ hmrArg hcrArg hmrFun hcrFun krec7 hrec7 q15.2 (hG.tr hg hX.1) (hX.tr q15.1) (lt_ext hv_s0 q15.1) (lv_sub hl [0, 1, 2] rfl) h hm
set_option maxHeartbeats 8000000 in
set_option maxRecDepth 100000 in
theorem kl_Rd_sum_7 {r : Sh × St × Int} (C : Cx p s m args c cX6_sum RX6 (cd :: cWd) D (TYs k) 4) (hr : meth.sig.returnType = (some .int)) (hlk : meth.locks = false) (hE : Ev z mi aK aV A s s.heap) {rArg : Sh → St → Option (Sh × St × Int)} {rFun : Sh → St → Option (Sh × St × Int)} (hφ : 260 ≤ φ) (hψ : 12000 ≤ ψ) (hmrArg : ∀ {π : Sh} {σ : St}  {r : Sh × St × Int}, Cl π σ → rArg π σ  = some r → ext π r.1 ∧ Cl r.1 r.2.1) (hcrArg : ∀ {g : Nat → Nat} {π : Sh} {σ : St}  {r : Sh × St × Int}, Cl π σ → rArg π σ  = some r → Mi l yX6_arg (.code yX6_arg cX6_arg 3 (some .int) :: cWd) { frames := φ, cells := nn r.1 - nn π, slots := sw r.1 - sw π, locals := ψ } [rfv g 44] D (TYs k) (cW k z g π σ) (XV z mi aK aV (cW k z g π σ)) (Nat → Nat) (fun v u => gx (nn π) g u ∧ v = Int32.ofInt r.2.2) (fun u => cW k z u r.1 r.2.1) (nn r.1 - nn π) (sw r.1 - sw π)) (hmrFun : ∀ {π : Sh} {σ : St}  {r : Sh × St × Int}, Cl π σ → rFun π σ  = some r → ext π r.1 ∧ Cl r.1 r.2.1 ∧ r.2.2 < nn r.1) (hcrFun : ∀ {g : Nat → Nat} {π : Sh} {σ : St}  {r : Sh × St × Int}, Cl π σ → rFun π σ  = some r → Mq l yX6_fun (.code yX6_fun cX6_fun 5 (some (.object "CycleStudio$Piece")) :: cWd) { frames := φ, cells := nn r.1 - nn π, slots := sw r.1 - sw π, locals := ψ } [rfv g 44] D (TYs k) (cW k z g π σ) (XV z mi aK aV (cW k z g π σ)) (Nat → Nat) (fun v u => gx (nn π) g u ∧ v = rfo u r.2.2) (fun u => cW k z u r.1 r.2.1) (nn r.1 - nn π) (sw r.1 - sw π))  (n : Nat) : ∀ {ls : Array Slot} {H : Heap} {locs : List Loc} {g : Nat → Nat} {π : Sh} {σ : St} {x1 : Int} {x2 : Int}, Cl π σ → gx (nn π0) g0 g → ext π0 π → lv_has ls 4 [(0, rfv g 44), (1, .int (Int32.ofInt x1)), (2, .int (Int32.ofInt x2))] → Hp D A s.heap H locs (cW k z g π σ) → Rd_sum_7 N rArg rFun n π σ x1 x2 = some r → W p l e { frames := φ + 4, cells := nn r.1 - nn π0, slots := sw r.1 - sw π0, locals := ψ + 95 } s m args below meth c H locs (nn π - nn π0) (sw π - sw π0) (MQ below (va_Qi (fun v u => gx (nn π0) g0 u ∧ v = Int32.ofInt r.2.2) (fun u t => PostW D (TYs k) A (cW k z u r.1 r.2.1) t) A) args s (nn r.1 - nn π0) (sw r.1 - sw π0) A) (F0 m 7 ls []) := by
  induction n with
  | zero => intro ls H locs g π σ x1 x2 hC hG hX  hl h hm; cases (show none = some r from hm)
  | succ n hrec7 =>
    intro ls H locs g π σ x1 x2 hC hG hX  hl h hm
    have hS := hC.1
    have hq := km_Rd_sum_7 hmrArg hmrFun  (n + 1) hC  hm
    have krec7 : ∀ {π : Sh} {σ : St} {x1 : Int} {x2 : Int}, Cl π σ → Rd_sum_7 N rArg rFun n π σ x1 x2 = some r → ext π r.1 ∧ Cl r.1 r.2.1 := fun {_ _} {_} {_} => km_Rd_sum_7 hmrArg hmrFun  n
    rw [Rd_sum_7] at hm
    refine lv_iload_n C.1 C.2.1 dX6_sum_7 rfl (lv_at hl 2 rfl) ?_
    refine lv_sipush (v := Int32.ofInt 2000) C.1 C.2.1 dX6_sum_8 (by decide) ?_
    obtain ⟨g4, hm⟩ := grd_s hm
    refine z_icmp_ge (tgt := 97) C dX6_sum_11 (by decide) g4 (by decide) (fun c5 => ?_) (fun c5 => ?_)
    · have hm := ite_f c5 hm
      refine lv_iload_n C.1 C.2.1 dX6_sum_97 rfl (lv_at hl 1 rfl) ?_
      cases hm
      exact c_iretA C hG h hr hlk dX6_sum_98 rfl
    · have hm := ite_t c5 hm
      refine z_aload_n C dX6_sum_14 rfl (lv_at hl 0 rfl) ?_
      refine cg_7_0 C h (sh_44 hS) cU_X6 (List.mem_cons_of_mem _ wl_X6_31) dX6_sum_15 ?_
      refine cg_9_2 C h (sh_1 hS) cU_X8 (List.mem_cons_of_mem _ wl_X6_72) dX6_sum_18 ?_
      obtain ⟨g6, hm⟩ := grd_s hm
      refine z_if_ne (tgt := 97) C dX6_sum_21 (by decide) g6 (fun c7 => ?_) (fun c7 => ?_)
      · have hm := ite_f c7 hm
        refine lv_iload_n C.1 C.2.1 dX6_sum_97 rfl (lv_at hl 1 rfl) ?_
        cases hm
        exact c_iretA C hG h hr hlk dX6_sum_98 rfl
      · have hm := ite_t c7 hm
        refine z_aload_n C dX6_sum_24 rfl (lv_at hl 0 rfl) ?_
        refine cg_7_0 C h (sh_44 hS) cU_X6 (List.mem_cons_of_mem _ wl_X6_31) dX6_sum_25 ?_
        refine cg_9_5 C h (sh_1 hS) cU_X8 (List.mem_cons_of_mem _ wl_X6_66) dX6_sum_28 ?_
        obtain ⟨r8, e9, hm⟩ := obd_s hm
        refine v_callSi C h (kc_Sc_isOp l D k N (fl σ 185 1) r8 e9) (v_cwS 1 C.2.2.1 (gC_X8_isOp _) rfl rfl rfl (C.2.2.1 _ (List.mem_cons_of_mem _ wt_X8)) (C.2.2.1 _ (List.mem_cons_of_mem _ wm_X6_155)) (C.2.2.1 _ (List.mem_cons_of_mem _ ws_X8_isOp)) hdS_X8_isOp ⟨(by show 0 + 1 ≤ φ + 4; omega), (by show 8 + (1 + 11) + 0 ≤ ψ + 95; omega)⟩) rfl hl.1 rfl (Nat.le_of_ble_eq_true rfl) dX6_sum_31 ⟨(czz hX hq.1), (szz hX hq.1)⟩ (fun H locs h => ?_)
        obtain ⟨g10, hm⟩ := grd_s hm
        refine z_if_eq (tgt := 97) C dX6_sum_34 (by decide) g10 (fun c11 => ?_) (fun c11 => ?_)
        · have hm := ite_t c11 hm
          refine lv_iload_n C.1 C.2.1 dX6_sum_97 rfl (lv_at hl 1 rfl) ?_
          cases hm
          exact c_iretA C hG h hr hlk dX6_sum_98 rfl
        · have hm := ite_f c11 hm
          have q := km_Rd_sum_40 hmrArg hmrFun krec7 ((cl_nO hC (by decide) (by decide) _)) lt_nO hm
          refine c_new C h hC (by decide) dX6_sum_37 rfl cU_X9 tyX9_ok (List.mem_cons_of_mem _ wn_X6_129) (List.mem_cons_of_mem _ wi_X9) (List.mem_cons_of_mem _ wt_X9) (df_X9) (dn_X9 z) (rc1 hX q.1) (rs1 hX q.1) (fun u H hg h => ?_)
          simp only [← gx_rfv hg (sh_44 hS).2.1] at hl
          try simp only [← gx_rfv hg (sh_44 hS).2.1]
          refine W_cast (wcO (c := 10) (w := 14) hX).symm (wsO (c := 10) (w := 14) hX).symm ?_
          exact kl_Rd_sum_40 (N := N) C hr hlk hE hφ hψ hmrArg hcrArg hmrFun hcrFun krec7 hrec7 ((cl_nO hC (by decide) (by decide) _)) (hG.tr hg hX.1) (hX.tr (ext_nO π 10 14)) lt_nO (lv_sub hl [0, 1, 2] rfl) h hm
set_option maxHeartbeats 8000000 in
set_option maxRecDepth 100000 in
theorem kl_Rd_sum_4 {r : Sh × St × Int} (C : Cx p s m args c cX6_sum RX6 (cd :: cWd) D (TYs k) 4) (hr : meth.sig.returnType = (some .int)) (hlk : meth.locks = false) (hE : Ev z mi aK aV A s s.heap) {rArg : Sh → St → Option (Sh × St × Int)} {rFun : Sh → St → Option (Sh × St × Int)} (hφ : 260 ≤ φ) (hψ : 12000 ≤ ψ) (hmrArg : ∀ {π : Sh} {σ : St}  {r : Sh × St × Int}, Cl π σ → rArg π σ  = some r → ext π r.1 ∧ Cl r.1 r.2.1) (hcrArg : ∀ {g : Nat → Nat} {π : Sh} {σ : St}  {r : Sh × St × Int}, Cl π σ → rArg π σ  = some r → Mi l yX6_arg (.code yX6_arg cX6_arg 3 (some .int) :: cWd) { frames := φ, cells := nn r.1 - nn π, slots := sw r.1 - sw π, locals := ψ } [rfv g 44] D (TYs k) (cW k z g π σ) (XV z mi aK aV (cW k z g π σ)) (Nat → Nat) (fun v u => gx (nn π) g u ∧ v = Int32.ofInt r.2.2) (fun u => cW k z u r.1 r.2.1) (nn r.1 - nn π) (sw r.1 - sw π)) (hmrFun : ∀ {π : Sh} {σ : St}  {r : Sh × St × Int}, Cl π σ → rFun π σ  = some r → ext π r.1 ∧ Cl r.1 r.2.1 ∧ r.2.2 < nn r.1) (hcrFun : ∀ {g : Nat → Nat} {π : Sh} {σ : St}  {r : Sh × St × Int}, Cl π σ → rFun π σ  = some r → Mq l yX6_fun (.code yX6_fun cX6_fun 5 (some (.object "CycleStudio$Piece")) :: cWd) { frames := φ, cells := nn r.1 - nn π, slots := sw r.1 - sw π, locals := ψ } [rfv g 44] D (TYs k) (cW k z g π σ) (XV z mi aK aV (cW k z g π σ)) (Nat → Nat) (fun v u => gx (nn π) g u ∧ v = rfo u r.2.2) (fun u => cW k z u r.1 r.2.1) (nn r.1 - nn π) (sw r.1 - sw π))  {ls : Array Slot} {H : Heap} {locs : List Loc} {g : Nat → Nat} {π : Sh} {σ : St} {s0 : Int} (hC : Cl π σ) (hG : gx (nn π0) g0 g) (hX : ext π0 π)  (hl : lv_has ls 4 [(0, rfv g 44)]) (h : Hp D A s.heap H locs (cW k z g π σ)) (hm : Rd_sum_4 N rArg rFun π σ s0 = some r) : W p l e { frames := φ + 4, cells := nn r.1 - nn π0, slots := sw r.1 - sw π0, locals := ψ + 95 } s m args below meth c H locs (nn π - nn π0) (sw π - sw π0) (MQ below (va_Qi (fun v u => gx (nn π0) g0 u ∧ v = Int32.ofInt r.2.2) (fun u t => PostW D (TYs k) A (cW k z u r.1 r.2.1) t) A) args s (nn r.1 - nn π0) (sw r.1 - sw π0) A) (F0 m 4 ls [.int (Int32.ofInt s0)]) := by
  have hS := hC.1
  have hq := km_Rd_sum_4 hmrArg hmrFun   hC  hm
  rw [Rd_sum_4] at hm
  refine lv_istore_n (i := 1) (lv' := [(1, .int (Int32.ofInt s0)), (0, rfv g 44)]) C.1 C.2.1 dX6_sum_4 rfl hl (by decide) (by simp [rfv_cat, cat_i, cat_l]) (fun ls hl => ?_)
  refine lv_iconst (v := Int32.ofInt 0) C.1 C.2.1 dX6_sum_5 (by decide) ?_
  refine lv_istore_n (lv' := [(2, .int (Int32.ofInt 0)), (1, .int (Int32.ofInt s0)), (0, rfv g 44)]) C.1 C.2.1 dX6_sum_6 rfl hl (by decide) rfl (fun ls hl => ?_)
  exact kl_Rd_sum_7 (N := N) C hr hlk hE hφ hψ hmrArg hcrArg hmrFun hcrFun N hC hG hX (lv_sub hl [2, 1, 0] rfl) h hm
set_option maxHeartbeats 8000000 in
set_option maxRecDepth 100000 in
theorem kc_Rd_sum (l : Launch) (D : va_G) (k : Nat → ClassId) (z mi : Nat) (aK aV : Nat → Nat) (g : Nat → Nat) (N : Nat) {φ ψ : Nat} {rArg : Sh → St → Option (Sh × St × Int)} {rFun : Sh → St → Option (Sh × St × Int)} (hφ : 260 ≤ φ) (hψ : 12000 ≤ ψ) (hmrArg : ∀ {π : Sh} {σ : St}  {r : Sh × St × Int}, Cl π σ → rArg π σ  = some r → ext π r.1 ∧ Cl r.1 r.2.1) (hcrArg : ∀ {g : Nat → Nat} {π : Sh} {σ : St}  {r : Sh × St × Int}, Cl π σ → rArg π σ  = some r → Mi l yX6_arg (.code yX6_arg cX6_arg 3 (some .int) :: cWd) { frames := φ, cells := nn r.1 - nn π, slots := sw r.1 - sw π, locals := ψ } [rfv g 44] D (TYs k) (cW k z g π σ) (XV z mi aK aV (cW k z g π σ)) (Nat → Nat) (fun v u => gx (nn π) g u ∧ v = Int32.ofInt r.2.2) (fun u => cW k z u r.1 r.2.1) (nn r.1 - nn π) (sw r.1 - sw π)) (hmrFun : ∀ {π : Sh} {σ : St}  {r : Sh × St × Int}, Cl π σ → rFun π σ  = some r → ext π r.1 ∧ Cl r.1 r.2.1 ∧ r.2.2 < nn r.1) (hcrFun : ∀ {g : Nat → Nat} {π : Sh} {σ : St}  {r : Sh × St × Int}, Cl π σ → rFun π σ  = some r → Mq l yX6_fun (.code yX6_fun cX6_fun 5 (some (.object "CycleStudio$Piece")) :: cWd) { frames := φ, cells := nn r.1 - nn π, slots := sw r.1 - sw π, locals := ψ } [rfv g 44] D (TYs k) (cW k z g π σ) (XV z mi aK aV (cW k z g π σ)) (Nat → Nat) (fun v u => gx (nn π) g u ∧ v = rfo u r.2.2) (fun u => cW k z u r.1 r.2.1) (nn r.1 - nn π) (sw r.1 - sw π)) {π : Sh} {σ : St}  {r : Sh × St × Int} (hC : Cl π σ)  (hm : Rd_sum N rArg rFun π σ  = some r) : Mi l yX6_sum (.code yX6_sum cX6_sum 4 (some .int) :: cWd) { frames := φ + 4, cells := nn r.1 - nn π, slots := sw r.1 - sw π, locals := ψ + 95 } [rfv g 44] D (TYs k) (cW k z g π σ) (XV z mi aK aV (cW k z g π σ)) (Nat → Nat) (fun v u => gx (nn π) g u ∧ v = Int32.ofInt r.2.2) (fun u => cW k z u r.1 r.2.1) (nn r.1 - nn π) (sw r.1 - sw π) := by
  have hS := hC.1
  have hq := km_Rd_sum hmrArg hmrFun hC  hm
  intro sz
  refine v_met (cc := cX6_sum) (maxL := 4) (ret := (some .int)) (lv := [(0, rfv g 44)]) (by decide) rfl (by simp [lg_sl, rfv_cat, cat_i, cat_l]) (by simp [lv_args, rfv_cat, cat_i, cat_l]) ?_
  intro p e s m below meth c ls C hE hr hlk hmn hl h
  generalize ([rfv g 44] : List Value).toArray = args at C ⊢
  have hG := gx.rf (nn π) g
  have hX := ext.rf π
  refine W_cast (Nat.sub_self (nn π)) (Nat.sub_self (sw π)) ?_
  rw [Rd_sum] at hm
  refine z_aload_n C dX6_sum_0 rfl (lv_at hl 0 rfl) ?_
  obtain ⟨r1, e2, hm⟩ := obd_s hm
  have q3 := (km_Rd_app hmrArg hmrFun hC e2)
  have q := km_Rd_sum_4 hmrArg hmrFun  q3.2  hm
  refine c_callViA C hE h (sh_44 hS) rfl (by decide) (kc_Rd_app l D k z mi aK aV g N hφ hψ hmrArg hcrArg hmrFun hcrFun hC e2) (cwV 0 C.2.2.1 (gS_X6_152 _) rfl rfl rfl hd_X6_app ⟨(by show φ + 3 + 1 ≤ φ + 4; omega), (by show 8 + (4 + 11) + (ψ + 72) ≤ ψ + 95; omega)⟩) rfl hl.1 rfl (Nat.le_of_ble_eq_true rfl) dX6_sum_1 ⟨rcC hX q3.1 q.1, rsC hX q3.1 q.1⟩ (fun u H locs hg h => ?_)
  simp only [← gx_rfv hg (sh_44 hS).2.1] at hl
  try simp only [← gx_rfv hg (sh_44 hS).2.1]
  refine W_cast (wcC hX q3.1).symm (wsC hX q3.1).symm ?_
  exact kl_Rd_sum_4 (N := N) C hr hlk hE hφ hψ hmrArg hcrArg hmrFun hcrFun  q3.2 (hG.tr hg hX.1) (hX.tr q3.1)  (lv_sub hl [0] rfl) h hm
end Z_Rd_sum
