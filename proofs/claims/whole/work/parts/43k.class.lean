section Z_Cs_hearCycle
variable {p : Program} {l : Launch} {e : Env} {s : State} {m : MethodId} {args : Array Value} {below : List Frame} {meth : Method} {c : Code} {D : va_G} {A : Nat → Prop} {k : Nat → ClassId} {N : Nat} {cd : Cond} {z mi : Nat} {aK aV : Nat → Nat} {g : Nat → Nat} {π : Sh}
set_option maxHeartbeats 8000000 in
set_option maxRecDepth 100000 in
theorem kl_Cs_hearCycle_154 {r : St × Int} (C : Cx p s m args c cX11_hearCycle RX11 (cd :: cWd) D (TYs k) 10) (hr : meth.sig.returnType = (some .int)) (hlk : meth.locks = false) (hE : Ev z mi aK aV A s s.heap) (hS : SHs π)   {rec21 : St → Int → Int → Int → Int → Int → Int → Int → Option (St × Int)} (hrec21 : ∀ {ls : Array Slot} {H : Heap} {locs : List Loc} {σ : St} {x1 : Int} {x2 : Int} {x3 : Int} {x4 : Int} {x5 : Int} {x6 : Int} {x7 : Int}, lv_has ls 10 [(0, rfv g 0), (1, .int (Int32.ofInt x1)), (2, .int (Int32.ofInt x2)), (3, .int (Int32.ofInt x3)), (4, .int (Int32.ofInt x4)), (5, .int (Int32.ofInt x5)), (6, .int (Int32.ofInt x6)), (7, .int (Int32.ofInt x7))] → Hp D A s.heap H locs (cW k z g π σ) → rec21 σ x1 x2 x3 x4 x5 x6 x7 = some r → W p l e { frames := 398, cells := 0, slots := 0, locals := 19647 } s m args below meth c H locs 0 0 (MQ below (va_Qi (fun v (_ : Unit) => v = Int32.ofInt r.2) (fun _ t => PostW D (TYs k) A (cW k z g π r.1) t) A) args s 0 0 A) (F0 m 21 ls [])) {ls : Array Slot} {H : Heap} {locs : List Loc} {σ : St} {x1 : Int} {x2 : Int} {x3 : Int} {x4 : Int} {x5 : Int} {x6 : Int} {x7 : Int}  (hl : lv_has ls 10 [(0, rfv g 0), (1, .int (Int32.ofInt x1)), (2, .int (Int32.ofInt x2)), (3, .int (Int32.ofInt x3)), (4, .int (Int32.ofInt x4)), (5, .int (Int32.ofInt x5)), (6, .int (Int32.ofInt x6)), (7, .int (Int32.ofInt x7))]) (h : Hp D A s.heap H locs (cW k z g π σ)) (hm : Cs_hearCycle_154 N π rec21 σ x1 x2 x3 x4 x5 x6 x7 = some r) : W p l e { frames := 398, cells := 0, slots := 0, locals := 19647 } s m args below meth c H locs 0 0 (MQ below (va_Qi (fun v (_ : Unit) => v = Int32.ofInt r.2) (fun _ t => PostW D (TYs k) A (cW k z g π r.1) t) A) args s 0 0 A) (F0 m 154 ls []) := by
  rw [Cs_hearCycle_154] at hm
  refine lv_iinc (v := Int32.ofInt (x7 + 1)) (lv' := [(7, .int (Int32.ofInt (x7 + 1))), (0, rfv g 0), (1, .int (Int32.ofInt x1)), (2, .int (Int32.ofInt x2)), (3, .int (Int32.ofInt x3)), (4, .int (Int32.ofInt x4)), (5, .int (Int32.ofInt x5)), (6, .int (Int32.ofInt x6))]) C.1 C.2.1 dX11_hearCycle_154 hl (k := 7) rfl (c32_add _ _) (by decide) rfl (fun ls hl => ?_)
  refine lv_goto (tgt := 21) C.1 C.2.1 dX11_hearCycle_157 (by decide) ?_
  exact hrec21 (lv_sub hl [1, 2, 3, 4, 5, 6, 7, 0] rfl) h hm
set_option maxHeartbeats 8000000 in
set_option maxRecDepth 100000 in
theorem kl_Cs_hearCycle_70 {r : St × Int} (C : Cx p s m args c cX11_hearCycle RX11 (cd :: cWd) D (TYs k) 10) (hr : meth.sig.returnType = (some .int)) (hlk : meth.locks = false) (hE : Ev z mi aK aV A s s.heap) (hS : SHs π)   {rec21 : St → Int → Int → Int → Int → Int → Int → Int → Option (St × Int)} (hrec21 : ∀ {ls : Array Slot} {H : Heap} {locs : List Loc} {σ : St} {x1 : Int} {x2 : Int} {x3 : Int} {x4 : Int} {x5 : Int} {x6 : Int} {x7 : Int}, lv_has ls 10 [(0, rfv g 0), (1, .int (Int32.ofInt x1)), (2, .int (Int32.ofInt x2)), (3, .int (Int32.ofInt x3)), (4, .int (Int32.ofInt x4)), (5, .int (Int32.ofInt x5)), (6, .int (Int32.ofInt x6)), (7, .int (Int32.ofInt x7))] → Hp D A s.heap H locs (cW k z g π σ) → rec21 σ x1 x2 x3 x4 x5 x6 x7 = some r → W p l e { frames := 398, cells := 0, slots := 0, locals := 19647 } s m args below meth c H locs 0 0 (MQ below (va_Qi (fun v (_ : Unit) => v = Int32.ofInt r.2) (fun _ t => PostW D (TYs k) A (cW k z g π r.1) t) A) args s 0 0 A) (F0 m 21 ls [])) {ls : Array Slot} {H : Heap} {locs : List Loc} {σ : St} {x1 : Int} {x2 : Int} {x3 : Int} {x4 : Int} {x5 : Int} {x6 : Int} {x7 : Int} {x8 : Int}  (hl : lv_has ls 10 [(0, rfv g 0), (1, .int (Int32.ofInt x1)), (2, .int (Int32.ofInt x2)), (3, .int (Int32.ofInt x3)), (4, .int (Int32.ofInt x4)), (5, .int (Int32.ofInt x5)), (6, .int (Int32.ofInt x6)), (7, .int (Int32.ofInt x7)), (8, rfv g x8)]) (h : Hp D A s.heap H locs (cW k z g π σ)) (hm : Cs_hearCycle_70 N π rec21 σ x1 x2 x3 x4 x5 x6 x7 x8 = some r) : W p l e { frames := 398, cells := 0, slots := 0, locals := 19647 } s m args below meth c H locs 0 0 (MQ below (va_Qi (fun v (_ : Unit) => v = Int32.ofInt r.2) (fun _ t => PostW D (TYs k) A (cW k z g π r.1) t) A) args s 0 0 A) (F0 m 70 ls []) := by
  rw [Cs_hearCycle_70] at hm
  refine z_aload_n C dX11_hearCycle_70 rfl (lv_at hl 0 rfl) ?_
  refine cg_12_2 C h (sh_0 hS) cU_X11 (List.mem_cons_of_mem _ wl_X11_26) dX11_hearCycle_71 ?_
  refine z_aload C dX11_hearCycle_74 (lv_at hl 8 rfl) ?_
  refine lv_iload_n C.1 C.2.1 dX11_hearCycle_76 rfl (lv_at hl 1 rfl) ?_
  obtain ⟨g17, hm⟩ := grd_s hm
  refine z_i2l C dX11_hearCycle_77 g17 ?_
  obtain ⟨r18, e19, hm⟩ := obd_s hm
  refine c_callVvP C hE h (sh_9 hS) rfl (by decide) (kc_Rw_workOut l D k z mi aK aV g N hS e19) (cwV 2 C.2.2.1 (gS_X11_167 _) rfl rfl rfl hd_X7_workOut ⟨Nat.le_of_ble_eq_true rfl, Nat.le_of_ble_eq_true rfl⟩) rfl hl.1 rfl (Nat.le_of_ble_eq_true rfl) dX11_hearCycle_78 ⟨(Nat.le_of_ble_eq_true rfl), (Nat.le_of_ble_eq_true rfl)⟩ (fun H locs h => ?_)
  refine z_aload_n C dX11_hearCycle_81 rfl (lv_at hl 0 rfl) ?_
  refine cg_12_2 C h (sh_0 hS) cU_X11 (List.mem_cons_of_mem _ wl_X11_26) dX11_hearCycle_82 ?_
  refine cg_8_0 C h (sh_9 hS) cU_X7 (List.mem_cons_of_mem _ wl_X11_174) dX11_hearCycle_85 ?_
  refine z_astore (lv' := [(9, rfv g 10), (0, rfv g 0), (1, .int (Int32.ofInt x1)), (2, .int (Int32.ofInt x2)), (3, .int (Int32.ofInt x3)), (4, .int (Int32.ofInt x4)), (5, .int (Int32.ofInt x5)), (6, .int (Int32.ofInt x6)), (7, .int (Int32.ofInt x7)), (8, rfv g x8)]) C dX11_hearCycle_88 hl (by decide) (by simp [rfv_cat, cat_i, cat_l]) (fun ls hl => ?_)
  refine z_aload C dX11_hearCycle_90 (lv_at hl 0 rfl) ?_
  refine lv_iconst (v := Int32.ofInt 0) C.1 C.2.1 dX11_hearCycle_92 (by decide) ?_
  refine lv_iload_n C.1 C.2.1 dX11_hearCycle_93 rfl (lv_at hl 3 rfl) ?_
  obtain ⟨g22, hm⟩ := grd_s hm
  refine z_i2l C dX11_hearCycle_94 g22 ?_
  refine z_aload C dX11_hearCycle_95 (lv_at hl 9 rfl) ?_
  obtain ⟨g23, hm⟩ := grd_s hm
  refine cg_5_2 C h g23 cU_X4 (List.mem_cons_of_mem _ wl_X11_150) dX11_hearCycle_97 ?_
  refine z_lmul C dX11_hearCycle_100 ?_
  refine lv_ldc2 (v := 960) C.1 C.2.1 C.2.2.2.1 (C.2.2.1 _ (List.mem_cons_of_mem _ wk_X11_273)) dX11_hearCycle_101 ?_
  refine x_topl (y := Int64.ofInt 960) (by decide) ?_
  obtain ⟨r24, e25, hm⟩ := obd_s hm
  refine v_callSl C h (kc_Rw_ceiling l D k N (x2 * (fl r18 102 x8)) 960 r24 e25) (v_cwS 2 C.2.2.1 (gC_X7_ceiling _) rfl rfl rfl (C.2.2.1 _ (List.mem_cons_of_mem _ wt_X7)) (C.2.2.1 _ (List.mem_cons_of_mem _ wm_X11_275)) (C.2.2.1 _ (List.mem_cons_of_mem _ ws_X7_ceiling)) hdS_X7_ceiling ⟨Nat.le_of_ble_eq_true rfl, Nat.le_of_ble_eq_true rfl⟩) rfl hl.1 rfl (by simp [rfv_cat, cat_i, cat_l]) dX11_hearCycle_104 ⟨(Nat.le_of_ble_eq_true rfl), (Nat.le_of_ble_eq_true rfl)⟩ (fun H locs h => ?_)
  refine lv_iload_n C.1 C.2.1 dX11_hearCycle_107 rfl (lv_at hl 4 rfl) ?_
  obtain ⟨g26, hm⟩ := grd_s hm
  refine z_i2l C dX11_hearCycle_108 g26 ?_
  refine z_aload C dX11_hearCycle_109 (lv_at hl 9 rfl) ?_
  refine cg_5_2 C h g23 cU_X4 (List.mem_cons_of_mem _ wl_X11_150) dX11_hearCycle_111 ?_
  refine z_lmul C dX11_hearCycle_114 ?_
  refine lv_ldc2 (v := 960) C.1 C.2.1 C.2.2.2.1 (C.2.2.1 _ (List.mem_cons_of_mem _ wk_X11_273)) dX11_hearCycle_115 ?_
  refine x_topl (y := Int64.ofInt 960) (by decide) ?_
  obtain ⟨r27, e28, hm⟩ := obd_s hm
  refine v_callSl C h (kc_Rw_ceiling l D k N (x3 * (fl r18 102 x8)) 960 r27 e28) (v_cwS 2 C.2.2.1 (gC_X7_ceiling _) rfl rfl rfl (C.2.2.1 _ (List.mem_cons_of_mem _ wt_X7)) (C.2.2.1 _ (List.mem_cons_of_mem _ wm_X11_275)) (C.2.2.1 _ (List.mem_cons_of_mem _ ws_X7_ceiling)) hdS_X7_ceiling ⟨Nat.le_of_ble_eq_true rfl, Nat.le_of_ble_eq_true rfl⟩) rfl hl.1 rfl (by simp [rfv_cat, cat_i, cat_l]) dX11_hearCycle_118 ⟨(Nat.le_of_ble_eq_true rfl), (Nat.le_of_ble_eq_true rfl)⟩ (fun H locs h => ?_)
  refine lv_iconst (v := Int32.ofInt 1) C.1 C.2.1 dX11_hearCycle_121 (by decide) ?_
  obtain ⟨r29, e30, hm⟩ := obd_s hm
  refine c_callVvP C hE h (sh_10 hS) rfl (by decide) (kc_Es_choose l D k z mi aK aV g N hS e30) (cwV 4 C.2.2.1 (gS_X11_279 _) rfl rfl rfl hd_X1_choose ⟨Nat.le_of_ble_eq_true rfl, Nat.le_of_ble_eq_true rfl⟩) rfl hl.1 rfl (Nat.le_of_ble_eq_true rfl) dX11_hearCycle_122 ⟨(Nat.le_of_ble_eq_true rfl), (Nat.le_of_ble_eq_true rfl)⟩ (fun H locs h => ?_)
  refine lv_iload C.1 C.2.1 dX11_hearCycle_125 (lv_at hl 7 rfl) ?_
  refine z_aload C dX11_hearCycle_127 (lv_at hl 0 rfl) ?_
  refine cg_2_6 C h (sh_10 hS) cU_X1 (List.mem_cons_of_mem _ wl_X11_285) dX11_hearCycle_129 ?_
  refine z_iadd C dX11_hearCycle_132 ?_
  obtain ⟨v33, e34, hm⟩ := bnd_s hm
  rw [e34]
  refine lv_istore (lv' := [(6, .int (Int32.ofInt v33)), (9, rfv g 10), (0, rfv g 0), (1, .int (Int32.ofInt x1)), (2, .int (Int32.ofInt x2)), (3, .int (Int32.ofInt x3)), (4, .int (Int32.ofInt x4)), (5, .int (Int32.ofInt x5)), (7, .int (Int32.ofInt x7)), (8, rfv g x8)]) C.1 C.2.1 dX11_hearCycle_133 hl (by decide) rfl (fun ls hl => ?_)
  refine z_aload_n C dX11_hearCycle_135 rfl (lv_at hl 2 rfl) ?_
  refine cg_12_4 C h (sh_0 hS) cU_X11 (List.mem_cons_of_mem _ wl_X11_37) dX11_hearCycle_136 ?_
  refine z_aload C dX11_hearCycle_139 (lv_at hl 1 rfl) ?_
  refine z_aload C dX11_hearCycle_141 (lv_at hl 9 rfl) ?_
  refine cg_5_2 C h g23 cU_X4 (List.mem_cons_of_mem _ wl_X11_150) dX11_hearCycle_143 ?_
  refine lv_iload C.1 C.2.1 dX11_hearCycle_146 (lv_at hl 8 rfl) ?_
  refine lv_iload_n C.1 C.2.1 dX11_hearCycle_148 rfl (lv_at hl 3 rfl) ?_
  refine lv_iload C.1 C.2.1 dX11_hearCycle_149 (lv_at hl 6 rfl) ?_
  obtain ⟨r35, e36, hm⟩ := obd_s hm
  refine c_callVvP C hE h (sh_33 hS) rfl (by decide) (kc_Kh_merge l D k z mi aK aV g N hS e36) (cwV 5 C.2.2.1 (gS_X11_178 _) rfl rfl rfl hd_X2_merge ⟨Nat.le_of_ble_eq_true rfl, Nat.le_of_ble_eq_true rfl⟩) rfl hl.1 rfl (Nat.le_of_ble_eq_true rfl) dX11_hearCycle_151 ⟨(Nat.le_of_ble_eq_true rfl), (Nat.le_of_ble_eq_true rfl)⟩ (fun H locs h => ?_)
  exact kl_Cs_hearCycle_154 (N := N) C hr hlk hE hS hrec21 (lv_sub hl [2, 3, 4, 5, 6, 7, 0, 8] rfl) h hm
set_option maxHeartbeats 8000000 in
set_option maxRecDepth 100000 in
theorem kl_Cs_hearCycle_21 {r : St × Int} (C : Cx p s m args c cX11_hearCycle RX11 (cd :: cWd) D (TYs k) 10) (hr : meth.sig.returnType = (some .int)) (hlk : meth.locks = false) (hE : Ev z mi aK aV A s s.heap) (hS : SHs π)    (n : Nat) : ∀ {ls : Array Slot} {H : Heap} {locs : List Loc} {σ : St} {x1 : Int} {x2 : Int} {x3 : Int} {x4 : Int} {x5 : Int} {x6 : Int} {x7 : Int}, lv_has ls 10 [(0, rfv g 0), (1, .int (Int32.ofInt x1)), (2, .int (Int32.ofInt x2)), (3, .int (Int32.ofInt x3)), (4, .int (Int32.ofInt x4)), (5, .int (Int32.ofInt x5)), (6, .int (Int32.ofInt x6)), (7, .int (Int32.ofInt x7))] → Hp D A s.heap H locs (cW k z g π σ) → Cs_hearCycle_21 N π n σ x1 x2 x3 x4 x5 x6 x7 = some r → W p l e { frames := 398, cells := 0, slots := 0, locals := 19647 } s m args below meth c H locs 0 0 (MQ below (va_Qi (fun v (_ : Unit) => v = Int32.ofInt r.2) (fun _ t => PostW D (TYs k) A (cW k z g π r.1) t) A) args s 0 0 A) (F0 m 21 ls []) := by
  induction n with
  | zero => intro ls H locs σ x1 x2 x3 x4 x5 x6 x7  hl h hm; cases (show none = some r from hm)
  | succ n hrec21 =>
    intro ls H locs σ x1 x2 x3 x4 x5 x6 x7  hl h hm
    rw [Cs_hearCycle_21] at hm
    refine lv_iload C.1 C.2.1 dX11_hearCycle_21 (lv_at hl 7 rfl) ?_
    refine lv_bipush (v := Int32.ofInt 8) C.1 C.2.1 dX11_hearCycle_23 (by decide) ?_
    obtain ⟨g5, hm⟩ := grd_s hm
    refine z_icmp_ge (tgt := 160) C dX11_hearCycle_25 (by decide) g5 (by decide) (fun c6 => ?_) (fun c6 => ?_)
    · have hm := ite_f c6 hm
      refine lv_iload C.1 C.2.1 dX11_hearCycle_160 (lv_at hl 6 rfl) ?_
      cases hm
      exact c_iretP C h hr hlk dX11_hearCycle_162 rfl
    · have hm := ite_t c6 hm
      refine z_aload_n C dX11_hearCycle_28 rfl (lv_at hl 0 rfl) ?_
      refine cg_12_8 C h (sh_0 hS) cU_X11 (List.mem_cons_of_mem _ wl_X11_61) dX11_hearCycle_29 ?_
      refine lv_iload C.1 C.2.1 dX11_hearCycle_32 (lv_at hl 7 rfl) ?_
      obtain ⟨g7, hm⟩ := grd_s hm
      refine c_qald C h (t := 6) (by decide) rfl (sh_51 hS) (ina_inb (n := 8) (sl_51 hS) (Nat.le_of_ble_eq_true rfl) g7) dX11_hearCycle_34 ?_
      obtain ⟨v8, e9, hm⟩ := bnd_s hm
      rw [e9]
      refine z_astore (lv' := [(8, rfv g v8), (0, rfv g 0), (1, .int (Int32.ofInt x1)), (2, .int (Int32.ofInt x2)), (3, .int (Int32.ofInt x3)), (4, .int (Int32.ofInt x4)), (5, .int (Int32.ofInt x5)), (6, .int (Int32.ofInt x6)), (7, .int (Int32.ofInt x7))]) C dX11_hearCycle_35 hl (by decide) rfl (fun ls hl => ?_)
      refine z_aload C dX11_hearCycle_37 (lv_at hl 0 rfl) ?_
      refine z_ifnull (tgt := 154) C dX11_hearCycle_39 (by decide) (fun c10 => ?_) (fun c10 => ?_)
      · have hm := ite_t c10 hm
        exact kl_Cs_hearCycle_154 (N := N) C hr hlk hE hS hrec21 (lv_sub hl [1, 2, 3, 4, 5, 6, 7, 8] rfl) h hm
      · have hm := ite_f c10 hm
        refine z_aload_n C dX11_hearCycle_42 rfl (lv_at hl 1 rfl) ?_
        refine cg_12_11 C h (sh_0 hS) cU_X11 (List.mem_cons_of_mem _ wl_X11_72) dX11_hearCycle_43 ?_
        refine lv_iload C.1 C.2.1 dX11_hearCycle_46 (lv_at hl 8 rfl) ?_
        refine c_zald C h (sh_54 hS) (ina_inb (n := 8) (sl_54 hS) (Nat.le_of_ble_eq_true rfl) g7) dX11_hearCycle_48 ?_
        obtain ⟨g11, hm⟩ := grd_s hm
        refine z_if_ne (tgt := 154) C dX11_hearCycle_49 (by decide) g11 (fun c12 => ?_) (fun c12 => ?_)
        · have hm := ite_f c12 hm
          exact kl_Cs_hearCycle_154 (N := N) C hr hlk hE hS hrec21 (lv_sub hl [1, 2, 3, 4, 5, 6, 7, 8] rfl) h hm
        · have hm := ite_t c12 hm
          refine lv_iload C.1 C.2.1 dX11_hearCycle_52 (lv_at hl 6 rfl) ?_
          obtain ⟨g13, hm⟩ := grd_s hm
          refine z_if_eq (tgt := 70) C dX11_hearCycle_54 (by decide) g13 (fun c14 => ?_) (fun c14 => ?_)
          · have hm := ite_t c14 hm
            exact kl_Cs_hearCycle_70 (N := N) C hr hlk hE hS hrec21 (lv_sub hl [1, 2, 3, 4, 5, 6, 7, 8, 0] rfl) h hm
          · have hm := ite_f c14 hm
            refine z_aload_n C dX11_hearCycle_57 rfl (lv_at hl 1 rfl) ?_
            refine cg_12_12 C h (sh_0 hS) cU_X11 (List.mem_cons_of_mem _ wl_X11_75) dX11_hearCycle_58 ?_
            refine lv_iload C.1 C.2.1 dX11_hearCycle_61 (lv_at hl 8 rfl) ?_
            refine c_zald C h (sh_55 hS) (ina_inb (n := 8) (sl_55 hS) (Nat.le_of_ble_eq_true rfl) g7) dX11_hearCycle_63 ?_
            obtain ⟨g15, hm⟩ := grd_s hm
            refine z_if_ne (tgt := 70) C dX11_hearCycle_64 (by decide) g15 (fun c16 => ?_) (fun c16 => ?_)
            · have hm := ite_f c16 hm
              exact kl_Cs_hearCycle_70 (N := N) C hr hlk hE hS hrec21 (lv_sub hl [1, 2, 3, 4, 5, 6, 7, 8, 0] rfl) h hm
            · have hm := ite_t c16 hm
              refine lv_goto (tgt := 154) C.1 C.2.1 dX11_hearCycle_67 (by decide) ?_
              exact kl_Cs_hearCycle_154 (N := N) C hr hlk hE hS hrec21 (lv_sub hl [1, 2, 3, 4, 5, 6, 7, 8] rfl) h hm
set_option maxHeartbeats 8000000 in
set_option maxRecDepth 100000 in
theorem kc_Cs_hearCycle (l : Launch) (D : va_G) (k : Nat → ClassId) (z mi : Nat) (aK aV : Nat → Nat) (g : Nat → Nat) (N : Nat)    {π : Sh} {σ : St} {x1 : Int} {x2 : Int} {x3 : Int} {r : St × Int} (hS : SHs π) (hm : Cs_hearCycle N π σ x1 x2 x3 = some r) : Mi l yX11_hearCycle (.code yX11_hearCycle cX11_hearCycle 10 (some .int) :: cWd) { frames := 398, cells := 0, slots := 0, locals := 19647 } [rfv g 0, .int (Int32.ofInt x1), .int (Int32.ofInt x2), .int (Int32.ofInt x3)] D (TYs k) (cW k z g π σ) (XV z mi aK aV (cW k z g π σ)) Unit (fun v _ => v = Int32.ofInt r.2) (fun _ => cW k z g π r.1) 0 0 := by
  intro sz
  refine v_met (cc := cX11_hearCycle) (maxL := 10) (ret := (some .int)) (lv := [(0, rfv g 0), (1, .int (Int32.ofInt x1)), (2, .int (Int32.ofInt x2)), (3, .int (Int32.ofInt x3))]) (by decide) rfl (by simp [lg_sl, rfv_cat, cat_i, cat_l]) (by simp [lv_args, rfv_cat, cat_i, cat_l]) ?_
  intro p e s m below meth c ls C hE hr hlk hmn hl h
  rw [Cs_hearCycle] at hm
  refine z_aload_n C dX11_hearCycle_0 rfl (lv_at hl 0 rfl) ?_
  refine cg_12_4 C h (sh_0 hS) cU_X11 (List.mem_cons_of_mem _ wl_X11_37) dX11_hearCycle_1 ?_
  refine cg_3_8 C h (sh_33 hS) cU_X2 (List.mem_cons_of_mem _ wl_X11_171) dX11_hearCycle_4 ?_
  refine lv_istore (lv' := [(4, .int (Int32.ofInt (fl σ 68 33))), (0, rfv g 0), (1, .int (Int32.ofInt x1)), (2, .int (Int32.ofInt x2)), (3, .int (Int32.ofInt x3))]) C.1 C.2.1 dX11_hearCycle_7 hl (by decide) rfl (fun ls hl => ?_)
  refine z_aload_n C dX11_hearCycle_9 rfl (lv_at hl 1 rfl) ?_
  obtain ⟨r1, e2, hm⟩ := obd_s hm
  refine c_callViP C hE h (sh_0 hS) rfl (by decide) (kc_Cs_anyAlone l D k z mi aK aV g N hS e2) (cwV 0 C.2.2.1 (gS_X11_270 _) rfl rfl rfl hd_X11_anyAlone ⟨Nat.le_of_ble_eq_true rfl, Nat.le_of_ble_eq_true rfl⟩) rfl hl.1 rfl (Nat.le_of_ble_eq_true rfl) dX11_hearCycle_10 ⟨(Nat.le_of_ble_eq_true rfl), (Nat.le_of_ble_eq_true rfl)⟩ (fun H locs h => ?_)
  refine lv_istore (lv' := [(5, .int (Int32.ofInt r1.2)), (4, .int (Int32.ofInt (fl σ 68 33))), (0, rfv g 0), (1, .int (Int32.ofInt x1)), (2, .int (Int32.ofInt x2)), (3, .int (Int32.ofInt x3))]) C.1 C.2.1 dX11_hearCycle_13 hl (by decide) rfl (fun ls hl => ?_)
  refine lv_iconst (v := Int32.ofInt 0) C.1 C.2.1 dX11_hearCycle_15 (by decide) ?_
  refine lv_istore (lv' := [(6, .int (Int32.ofInt 0)), (5, .int (Int32.ofInt r1.2)), (4, .int (Int32.ofInt (fl σ 68 33))), (0, rfv g 0), (1, .int (Int32.ofInt x1)), (2, .int (Int32.ofInt x2)), (3, .int (Int32.ofInt x3))]) C.1 C.2.1 dX11_hearCycle_16 hl (by decide) rfl (fun ls hl => ?_)
  refine lv_iconst (v := Int32.ofInt 0) C.1 C.2.1 dX11_hearCycle_18 (by decide) ?_
  refine lv_istore (lv' := [(7, .int (Int32.ofInt 0)), (6, .int (Int32.ofInt 0)), (5, .int (Int32.ofInt r1.2)), (4, .int (Int32.ofInt (fl σ 68 33))), (0, rfv g 0), (1, .int (Int32.ofInt x1)), (2, .int (Int32.ofInt x2)), (3, .int (Int32.ofInt x3))]) C.1 C.2.1 dX11_hearCycle_19 hl (by decide) rfl (fun ls hl => ?_)
  exact kl_Cs_hearCycle_21 (N := N) C hr hlk hE hS N (lv_sub hl [4, 5, 6, 7, 3, 2, 1, 0] rfl) h hm
end Z_Cs_hearCycle
section Z_Cs_play
variable {p : Program} {l : Launch} {e : Env} {s : State} {m : MethodId} {args : Array Value} {below : List Frame} {meth : Method} {c : Code} {D : va_G} {A : Nat → Prop} {k : Nat → ClassId} {N : Nat} {cd : Cond} {z mi : Nat} {aK aV : Nat → Nat} {g : Nat → Nat} {π : Sh}
set_option maxHeartbeats 8000000 in
set_option maxRecDepth 100000 in
theorem kl_Cs_play_130 {r : St × Int} (C : Cx p s m args c cX11_play RX11 (cd :: cWd) D (TYs k) 7) (hr : meth.sig.returnType = (some .int)) (hlk : meth.locks = false) (hE : Ev z mi aK aV A s s.heap) (hS : SHs π)    {ls : Array Slot} {H : Heap} {locs : List Loc} {σ : St} {x3 : Int}  (hl : lv_has ls 7 [(0, rfv g 0), (3, .int (Int32.ofInt x3))]) (h : Hp D A s.heap H locs (cW k z g π σ)) (hm : Cs_play_130 N π σ x3 = some r) : W p l e { frames := 399, cells := 0, slots := 0, locals := 19676 } s m args below meth c H locs 0 0 (MQ below (va_Qi (fun v (_ : Unit) => v = Int32.ofInt r.2) (fun _ t => PostW D (TYs k) A (cW k z g π r.1) t) A) args s 0 0 A) (F0 m 130 ls []) := by
  rw [Cs_play_130] at hm
  refine z_aload_n C dX11_play_130 rfl (lv_at hl 0 rfl) ?_
  refine lv_dup C.1 C.2.1 dX11_play_131 (rfv_cat _ _) ?_
  refine cg_12_14 C h (sh_0 hS) cU_X11 (List.mem_cons_of_mem _ wl_X11_82) dX11_play_132 ?_
  refine lv_iload_n C.1 C.2.1 dX11_play_135 rfl (lv_at hl 1 rfl) ?_
  refine z_iadd C dX11_play_136 ?_
  refine cp_12_14 C h (sh_0 hS) cU_X11 (List.mem_cons_of_mem _ wl_X11_82) dX11_play_137 (fun H locs h => ?_)
  refine lv_iload_n C.1 C.2.1 dX11_play_140 rfl (lv_at hl 1 rfl) ?_
  cases hm
  exact c_iretP C h hr hlk dX11_play_141 rfl
set_option maxHeartbeats 8000000 in
set_option maxRecDepth 100000 in
theorem kl_Cs_play_45 {r : St × Int} (C : Cx p s m args c cX11_play RX11 (cd :: cWd) D (TYs k) 7) (hr : meth.sig.returnType = (some .int)) (hlk : meth.locks = false) (hE : Ev z mi aK aV A s s.heap) (hS : SHs π)    (n : Nat) : ∀ {ls : Array Slot} {H : Heap} {locs : List Loc} {σ : St} {x2 : Int} {x3 : Int} {x4 : Int}, lv_has ls 7 [(0, rfv g 0), (2, .int (Int32.ofInt x2)), (3, .int (Int32.ofInt x3)), (4, .int (Int32.ofInt x4))] → Hp D A s.heap H locs (cW k z g π σ) → Cs_play_45 N π n σ x2 x3 x4 = some r → W p l e { frames := 399, cells := 0, slots := 0, locals := 19676 } s m args below meth c H locs 0 0 (MQ below (va_Qi (fun v (_ : Unit) => v = Int32.ofInt r.2) (fun _ t => PostW D (TYs k) A (cW k z g π r.1) t) A) args s 0 0 A) (F0 m 45 ls []) := by
  induction n with
  | zero => intro ls H locs σ x2 x3 x4  hl h hm; cases (show none = some r from hm)
  | succ n hrec45 =>
    intro ls H locs σ x2 x3 x4  hl h hm
    rw [Cs_play_45] at hm
    refine lv_iload C.1 C.2.1 dX11_play_45 (lv_at hl 3 rfl) ?_
    refine lv_sipush (v := Int32.ofInt 3840) C.1 C.2.1 dX11_play_47 (by decide) ?_
    obtain ⟨g8, hm⟩ := grd_s hm
    refine z_icmp_gt (tgt := 130) C dX11_play_50 (by decide) g8 (by decide) (fun c9 => ?_) (fun c9 => ?_)
    · have hm := ite_t c9 hm
      exact kl_Cs_play_130 (N := N) C hr hlk hE hS (lv_sub hl [0, 2] rfl) h hm
    · have hm := ite_f c9 hm
      refine z_aload_n C dX11_play_53 rfl (lv_at hl 0 rfl) ?_
      refine cg_12_13 C h (sh_0 hS) cU_X11 (List.mem_cons_of_mem _ wl_X11_78) dX11_play_54 ?_
      refine lv_iload_n C.1 C.2.1 dX11_play_57 rfl (lv_at hl 1 rfl) ?_
      obtain ⟨g10, hm⟩ := grd_s hm
      obtain ⟨g11, hm⟩ := grd_s hm
      refine z_icmp_ge (tgt := 130) C dX11_play_58 (by decide) g10 g11 (fun c12 => ?_) (fun c12 => ?_)
      · have hm := ite_f c12 hm
        exact kl_Cs_play_130 (N := N) C hr hlk hE hS (lv_sub hl [0, 2] rfl) h hm
      · have hm := ite_t c12 hm
        refine z_aload_n C dX11_play_61 rfl (lv_at hl 0 rfl) ?_
        refine cg_12_13 C h (sh_0 hS) cU_X11 (List.mem_cons_of_mem _ wl_X11_78) dX11_play_62 ?_
        refine lv_sipush (v := Int32.ofInt 960) C.1 C.2.1 dX11_play_65 (by decide) ?_
        refine z_idiv C dX11_play_68 g10 (by decide) (by decide) ?_
        obtain ⟨v13, e14, hm⟩ := bnd_s hm
        rw [e14]
        refine lv_istore (lv' := [(5, .int (Int32.ofInt v13)), (0, rfv g 0), (2, .int (Int32.ofInt x2)), (3, .int (Int32.ofInt x3)), (4, .int (Int32.ofInt x4))]) C.1 C.2.1 dX11_play_69 hl (by decide) rfl (fun ls hl => ?_)
        refine lv_iload_n C.1 C.2.1 dX11_play_71 rfl (lv_at hl 2 rfl) ?_
        refine lv_iload C.1 C.2.1 dX11_play_72 (lv_at hl 0 rfl) ?_
        refine lv_iconst (v := Int32.ofInt 1) C.1 C.2.1 dX11_play_74 (by decide) ?_
        refine z_iadd C dX11_play_75 ?_
        refine lv_sipush (v := Int32.ofInt 960) C.1 C.2.1 dX11_play_76 (by decide) ?_
        refine z_imul C dX11_play_79 ?_
        obtain ⟨g15, hm⟩ := grd_s hm
        refine v_min C hl.1 dX11_play_80 g11 g15 (List.mem_cons_of_mem _ wx_X11_205) (List.mem_cons_of_mem _ wxs_min) (List.mem_cons_of_mem _ wxc_min) (List.mem_cons_of_mem _ wt_Math) (Nat.le_of_ble_eq_true rfl) (by simp [rfv_cat, cat_i, cat_l]) (Nat.le_of_ble_eq_true rfl) (Nat.le_of_ble_eq_true rfl) ?_
        obtain ⟨v16, e17, hm⟩ := bnd_s hm
        rw [e17]
        refine lv_istore (lv' := [(6, .int (Int32.ofInt v16)), (5, .int (Int32.ofInt v13)), (0, rfv g 0), (2, .int (Int32.ofInt x2)), (3, .int (Int32.ofInt x3)), (4, .int (Int32.ofInt x4))]) C.1 C.2.1 dX11_play_83 hl (by decide) rfl (fun ls hl => ?_)
        refine lv_iload_n C.1 C.2.1 dX11_play_85 rfl (lv_at hl 4 rfl) ?_
        refine z_aload_n C dX11_play_86 rfl (lv_at hl 2 rfl) ?_
        refine lv_iload C.1 C.2.1 dX11_play_87 (lv_at hl 1 rfl) ?_
        refine z_aload_n C dX11_play_89 rfl (lv_at hl 2 rfl) ?_
        refine cg_12_13 C h (sh_0 hS) cU_X11 (List.mem_cons_of_mem _ wl_X11_78) dX11_play_90 ?_
        refine lv_iload C.1 C.2.1 dX11_play_93 (lv_at hl 1 rfl) ?_
        refine lv_sipush (v := Int32.ofInt 960) C.1 C.2.1 dX11_play_95 (by decide) ?_
        refine z_imul C dX11_play_98 ?_
        refine z_isub C dX11_play_99 ?_
        refine lv_iload C.1 C.2.1 dX11_play_100 (lv_at hl 0 rfl) ?_
        refine lv_iload C.1 C.2.1 dX11_play_102 (lv_at hl 1 rfl) ?_
        refine lv_sipush (v := Int32.ofInt 960) C.1 C.2.1 dX11_play_104 (by decide) ?_
        refine z_imul C dX11_play_107 ?_
        refine z_isub C dX11_play_108 ?_
        obtain ⟨r18, e19, hm⟩ := obd_s hm
        refine c_callViP C hE h (sh_0 hS) rfl (by decide) (kc_Cs_hearCycle l D k z mi aK aV g N hS e19) (cwV 3 C.2.2.1 (gS_X11_210 _) rfl rfl rfl hd_X11_hearCycle ⟨Nat.le_of_ble_eq_true rfl, Nat.le_of_ble_eq_true rfl⟩) rfl hl.1 rfl (Nat.le_of_ble_eq_true rfl) dX11_play_109 ⟨(Nat.le_of_ble_eq_true rfl), (Nat.le_of_ble_eq_true rfl)⟩ (fun H locs h => ?_)
        refine z_iadd C dX11_play_112 ?_
        obtain ⟨v22, e23, hm⟩ := bnd_s hm
        rw [e23]
        refine lv_istore_n (lv' := [(3, .int (Int32.ofInt v22)), (6, .int (Int32.ofInt v16)), (5, .int (Int32.ofInt v13)), (0, rfv g 0), (2, .int (Int32.ofInt x2)), (4, .int (Int32.ofInt x4))]) C.1 C.2.1 dX11_play_113 rfl hl (by decide) rfl (fun ls hl => ?_)
        refine z_aload_n C dX11_play_114 rfl (lv_at hl 3 rfl) ?_
        refine lv_iload C.1 C.2.1 dX11_play_115 (lv_at hl 1 rfl) ?_
        refine cp_12_13 C h (sh_0 hS) cU_X11 (List.mem_cons_of_mem _ wl_X11_78) dX11_play_117 (fun H locs h => ?_)
        refine z_aload_n C dX11_play_120 rfl (lv_at hl 3 rfl) ?_
        obtain ⟨σ24, e25, hm⟩ := bnd_s hm
        rw [e25] at h
        obtain ⟨r27, e28, hm⟩ := obd_s hm
        refine c_callVvP C hE h (sh_0 hS) rfl (by decide) (kc_Cs_settle l D k z mi aK aV g N hS e28) (cwV 0 C.2.2.1 (gS_X11_214 _) rfl rfl rfl hd_X11_settle ⟨Nat.le_of_ble_eq_true rfl, Nat.le_of_ble_eq_true rfl⟩) rfl hl.1 rfl (Nat.le_of_ble_eq_true rfl) dX11_play_121 ⟨(Nat.le_of_ble_eq_true rfl), (Nat.le_of_ble_eq_true rfl)⟩ (fun H locs h => ?_)
        refine lv_iinc (v := Int32.ofInt (x4 + 1)) (lv' := [(4, .int (Int32.ofInt (x4 + 1))), (3, .int (Int32.ofInt v22)), (6, .int (Int32.ofInt v16)), (5, .int (Int32.ofInt v13)), (0, rfv g 0), (2, .int (Int32.ofInt x2))]) C.1 C.2.1 dX11_play_124 hl (k := 5) rfl (c32_add _ _) (by decide) rfl (fun ls hl => ?_)
        refine lv_goto (tgt := 45) C.1 C.2.1 dX11_play_127 (by decide) ?_
        exact hrec45 (lv_sub hl [4, 5, 1, 0] rfl) h hm
set_option maxHeartbeats 8000000 in
set_option maxRecDepth 100000 in
theorem kc_Cs_play (l : Launch) (D : va_G) (k : Nat → ClassId) (z mi : Nat) (aK aV : Nat → Nat) (g : Nat → Nat) (N : Nat)    {π : Sh} {σ : St} {x1 : Int} {r : St × Int} (hS : SHs π) (hm : Cs_play N π σ x1 = some r) : Mi l yX11_play (.code yX11_play cX11_play 7 (some .int) :: cWd) { frames := 399, cells := 0, slots := 0, locals := 19676 } [rfv g 0, .int (Int32.ofInt x1)] D (TYs k) (cW k z g π σ) (XV z mi aK aV (cW k z g π σ)) Unit (fun v _ => v = Int32.ofInt r.2) (fun _ => cW k z g π r.1) 0 0 := by
  intro sz
  refine v_met (cc := cX11_play) (maxL := 7) (ret := (some .int)) (lv := [(0, rfv g 0), (1, .int (Int32.ofInt x1))]) (by decide) rfl (by simp [lg_sl, rfv_cat, cat_i, cat_l]) (by simp [lv_args, rfv_cat, cat_i, cat_l]) ?_
  intro p e s m below meth c ls C hE hr hlk hmn hl h
  rw [Cs_play] at hm
  refine lv_iload_n C.1 C.2.1 dX11_play_0 rfl (lv_at hl 1 rfl) ?_
  refine lv_iconst (v := Int32.ofInt 1) C.1 C.2.1 dX11_play_1 (by decide) ?_
  obtain ⟨g1, hm⟩ := grd_s hm
  refine z_icmp_lt (tgt := 23) C dX11_play_2 (by decide) g1 (by decide) (fun c2 => ?_) (fun c2 => ?_)
  · have hm := ite_t c2 hm
    refine lv_iconst (v := Int32.ofInt (-1)) C.1 C.2.1 dX11_play_23 (by decide) ?_
    cases hm
    exact c_iretP C h hr hlk dX11_play_24 rfl
  · have hm := ite_f c2 hm
    refine lv_iload_n C.1 C.2.1 dX11_play_5 rfl (lv_at hl 1 rfl) ?_
    refine lv_sipush (v := Int32.ofInt 3840) C.1 C.2.1 dX11_play_6 (by decide) ?_
    refine z_icmp_gt (tgt := 23) C dX11_play_9 (by decide) g1 (by decide) (fun c3 => ?_) (fun c3 => ?_)
    · have hm := ite_t c3 hm
      refine lv_iconst (v := Int32.ofInt (-1)) C.1 C.2.1 dX11_play_23 (by decide) ?_
      cases hm
      exact c_iretP C h hr hlk dX11_play_24 rfl
    · have hm := ite_f c3 hm
      refine z_aload_n C dX11_play_12 rfl (lv_at hl 0 rfl) ?_
      refine cg_12_13 C h (sh_0 hS) cU_X11 (List.mem_cons_of_mem _ wl_X11_78) dX11_play_13 ?_
      refine lv_iload_n C.1 C.2.1 dX11_play_16 rfl (lv_at hl 1 rfl) ?_
      refine z_iadd C dX11_play_17 ?_
      refine lv_ldc (v := 96000000) C.1 C.2.1 C.2.2.2.1 (C.2.2.1 _ (List.mem_cons_of_mem _ wk_X11_204)) dX11_play_18 ?_
      refine x_topi (y := Int32.ofInt 96000000) (by decide) ?_
      obtain ⟨g4, hm⟩ := grd_s hm
      refine z_icmp_le (tgt := 25) C dX11_play_20 (by decide) g4 (by decide) (fun c5 => ?_) (fun c5 => ?_)
      · have hm := ite_f c5 hm
        refine z_aload_n C dX11_play_25 rfl (lv_at hl 0 rfl) ?_
        refine cg_12_4 C h (sh_0 hS) cU_X11 (List.mem_cons_of_mem _ wl_X11_37) dX11_play_26 ?_
        refine lv_iconst (v := Int32.ofInt 0) C.1 C.2.1 dX11_play_29 (by decide) ?_
        refine cp_3_8 C h (sh_33 hS) cU_X2 (List.mem_cons_of_mem _ wl_X11_171) dX11_play_30 (fun H locs h => ?_)
        refine z_aload_n C dX11_play_33 rfl (lv_at hl 0 rfl) ?_
        refine cg_12_13 C h (sh_0 hS) cU_X11 (List.mem_cons_of_mem _ wl_X11_78) dX11_play_34 ?_
        refine x_topi (y := Int32.ofInt (fl σ 253 0)) rfl ?_
        refine lv_iload_n C.1 C.2.1 dX11_play_37 rfl (lv_at hl 1 rfl) ?_
        refine z_iadd C dX11_play_38 ?_
        obtain ⟨v6, e7, hm⟩ := bnd_s hm
        rw [e7]
        refine lv_istore_n (lv' := [(2, .int (Int32.ofInt v6)), (0, rfv g 0), (1, .int (Int32.ofInt x1))]) C.1 C.2.1 dX11_play_39 rfl hl (by decide) rfl (fun ls hl => ?_)
        refine lv_iconst (v := Int32.ofInt 0) C.1 C.2.1 dX11_play_40 (by decide) ?_
        refine lv_istore_n (lv' := [(3, .int (Int32.ofInt 0)), (2, .int (Int32.ofInt v6)), (0, rfv g 0), (1, .int (Int32.ofInt x1))]) C.1 C.2.1 dX11_play_41 rfl hl (by decide) rfl (fun ls hl => ?_)
        refine lv_iconst (v := Int32.ofInt 0) C.1 C.2.1 dX11_play_42 (by decide) ?_
        refine lv_istore (lv' := [(4, .int (Int32.ofInt 0)), (3, .int (Int32.ofInt 0)), (2, .int (Int32.ofInt v6)), (0, rfv g 0), (1, .int (Int32.ofInt x1))]) C.1 C.2.1 dX11_play_43 hl (by decide) rfl (fun ls hl => ?_)
        exact kl_Cs_play_45 (N := N) C hr hlk hE hS N (lv_sub hl [3, 2, 1, 0] rfl) h hm
      · have hm := ite_t c5 hm
        refine lv_iconst (v := Int32.ofInt (-1)) C.1 C.2.1 dX11_play_23 (by decide) ?_
        cases hm
        exact c_iretP C h hr hlk dX11_play_24 rfl
end Z_Cs_play
section Z_Cs_heard
variable {p : Program} {l : Launch} {e : Env} {s : State} {m : MethodId} {args : Array Value} {below : List Frame} {meth : Method} {c : Code} {D : va_G} {A : Nat → Prop} {k : Nat → ClassId} {N : Nat} {cd : Cond} {z mi : Nat} {aK aV : Nat → Nat} {g : Nat → Nat} {π : Sh}
set_option maxHeartbeats 8000000 in
set_option maxRecDepth 100000 in
theorem kc_Cs_heard (l : Launch) (D : va_G) (k : Nat → ClassId) (z mi : Nat) (aK aV : Nat → Nat) (g : Nat → Nat) (N : Nat)    {π : Sh} {σ : St} {x1 : Int} {x2 : Int} {r : St × Int} (hS : SHs π) (hm : Cs_heard N π σ x1 x2 = some r) : Mi l yX11_heard (.code yX11_heard cX11_heard 3 (some .int) :: cWd) { frames := 2, cells := 0, slots := 0, locals := 56 } [rfv g 0, .int (Int32.ofInt x1), .int (Int32.ofInt x2)] D (TYs k) (cW k z g π σ) (XV z mi aK aV (cW k z g π σ)) Unit (fun v _ => v = Int32.ofInt r.2) (fun _ => cW k z g π r.1) 0 0 := by
  intro sz
  refine v_met (cc := cX11_heard) (maxL := 3) (ret := (some .int)) (lv := [(0, rfv g 0), (1, .int (Int32.ofInt x1)), (2, .int (Int32.ofInt x2))]) (by decide) rfl (by simp [lg_sl, rfv_cat, cat_i, cat_l]) (by simp [lv_args, rfv_cat, cat_i, cat_l]) ?_
  intro p e s m below meth c ls C hE hr hlk hmn hl h
  rw [Cs_heard] at hm
  refine lv_iload_n C.1 C.2.1 dX11_heard_0 rfl (lv_at hl 1 rfl) ?_
  obtain ⟨g1, hm⟩ := grd_s hm
  refine z_if_lt (tgt := 15) C dX11_heard_1 (by decide) g1 (fun c2 => ?_) (fun c2 => ?_)
  · have hm := ite_t c2 hm
    refine lv_iconst (v := Int32.ofInt (-1)) C.1 C.2.1 dX11_heard_15 (by decide) ?_
    cases hm
    exact c_iretP C h hr hlk dX11_heard_16 rfl
  · have hm := ite_f c2 hm
    refine lv_iload_n C.1 C.2.1 dX11_heard_4 rfl (lv_at hl 1 rfl) ?_
    refine z_aload_n C dX11_heard_5 rfl (lv_at hl 0 rfl) ?_
    refine cg_12_4 C h (sh_0 hS) cU_X11 (List.mem_cons_of_mem _ wl_X11_37) dX11_heard_6 ?_
    refine cg_3_8 C h (sh_33 hS) cU_X2 (List.mem_cons_of_mem _ wl_X11_171) dX11_heard_9 ?_
    obtain ⟨g3, hm⟩ := grd_s hm
    refine z_icmp_lt (tgt := 17) C dX11_heard_12 (by decide) g1 g3 (fun c4 => ?_) (fun c4 => ?_)
    · have hm := ite_t c4 hm
      refine lv_iload_n C.1 C.2.1 dX11_heard_17 rfl (lv_at hl 2 rfl) ?_
      obtain ⟨g5, hm⟩ := grd_s hm
      by_cases c6 : x2 = 0
      · refine x_topi (congrArg Int32.ofInt c6) ?_
        have hm := ite_t c6 hm
        refine lv_tableIn (tgt := 64) C.1 C.2.1 dX11_heard_18 (by decide) (by decide) rfl (by decide) ?_
        refine z_aload_n C dX11_heard_64 rfl (lv_at hl 0 rfl) ?_
        refine cg_12_4 C h (sh_0 hS) cU_X11 (List.mem_cons_of_mem _ wl_X11_37) dX11_heard_65 ?_
        refine cg_3_0_33 C h (sh_33 hS) cU_X2 (List.mem_cons_of_mem _ wl_X11_217) dX11_heard_68 ?_
        refine lv_iload_n C.1 C.2.1 dX11_heard_71 rfl (lv_at hl 1 rfl) ?_
        obtain ⟨g7, hm⟩ := grd_s hm
        refine c_iald C h (sh_34 hS) (ina_inb (n := 400) (sl_34 hS) (Nat.le_of_ble_eq_true rfl) g7) dX11_heard_72 ?_
        cases hm
        exact c_iretP C h hr hlk dX11_heard_73 rfl
      have hm := ite_f c6 hm
      by_cases c8 : x2 = 1
      · refine x_topi (congrArg Int32.ofInt c8) ?_
        have hm := ite_t c8 hm
        refine lv_tableIn (tgt := 74) C.1 C.2.1 dX11_heard_18 (by decide) (by decide) rfl (by decide) ?_
        refine z_aload_n C dX11_heard_74 rfl (lv_at hl 0 rfl) ?_
        refine cg_12_4 C h (sh_0 hS) cU_X11 (List.mem_cons_of_mem _ wl_X11_37) dX11_heard_75 ?_
        refine cg_3_1_33 C h (sh_33 hS) cU_X2 (List.mem_cons_of_mem _ wl_X11_220) dX11_heard_78 ?_
        refine lv_iload_n C.1 C.2.1 dX11_heard_81 rfl (lv_at hl 1 rfl) ?_
        obtain ⟨g9, hm⟩ := grd_s hm
        refine c_iald C h (sh_35 hS) (ina_inb (n := 400) (sl_35 hS) (Nat.le_of_ble_eq_true rfl) g9) dX11_heard_82 ?_
        cases hm
        exact c_iretP C h hr hlk dX11_heard_83 rfl
      have hm := ite_f c8 hm
      by_cases c10 : x2 = 2
      · refine x_topi (congrArg Int32.ofInt c10) ?_
        have hm := ite_t c10 hm
        refine lv_tableIn (tgt := 84) C.1 C.2.1 dX11_heard_18 (by decide) (by decide) rfl (by decide) ?_
        refine z_aload_n C dX11_heard_84 rfl (lv_at hl 0 rfl) ?_
        refine cg_12_4 C h (sh_0 hS) cU_X11 (List.mem_cons_of_mem _ wl_X11_37) dX11_heard_85 ?_
        refine lv_iload_n C.1 C.2.1 dX11_heard_88 rfl (lv_at hl 1 rfl) ?_
        refine lv_iload_n C.1 C.2.1 dX11_heard_89 rfl (lv_at hl 2 rfl) ?_
        refine lv_iconst (v := Int32.ofInt 2) C.1 C.2.1 dX11_heard_90 (by decide) ?_
        refine z_isub C dX11_heard_91 ?_
        obtain ⟨r11, e12, hm⟩ := obd_s hm
        refine c_callViP C hE h (sh_33 hS) rfl (by decide) (kc_Kh_time l D k z mi aK aV g N hS e12) (cwV 2 C.2.2.1 (gS_X11_182 _) rfl rfl rfl hd_X2_time ⟨Nat.le_of_ble_eq_true rfl, Nat.le_of_ble_eq_true rfl⟩) rfl hl.1 rfl (Nat.le_of_ble_eq_true rfl) dX11_heard_92 ⟨(Nat.le_of_ble_eq_true rfl), (Nat.le_of_ble_eq_true rfl)⟩ (fun H locs h => ?_)
        cases hm
        exact c_iretP C h hr hlk dX11_heard_95 rfl
      have hm := ite_f c10 hm
      by_cases c15 : x2 = 3
      · refine x_topi (congrArg Int32.ofInt c15) ?_
        have hm := ite_t c15 hm
        refine lv_tableIn (tgt := 84) C.1 C.2.1 dX11_heard_18 (by decide) (by decide) rfl (by decide) ?_
        refine z_aload_n C dX11_heard_84 rfl (lv_at hl 0 rfl) ?_
        refine cg_12_4 C h (sh_0 hS) cU_X11 (List.mem_cons_of_mem _ wl_X11_37) dX11_heard_85 ?_
        refine lv_iload_n C.1 C.2.1 dX11_heard_88 rfl (lv_at hl 1 rfl) ?_
        refine lv_iload_n C.1 C.2.1 dX11_heard_89 rfl (lv_at hl 2 rfl) ?_
        refine lv_iconst (v := Int32.ofInt 2) C.1 C.2.1 dX11_heard_90 (by decide) ?_
        refine z_isub C dX11_heard_91 ?_
        obtain ⟨r16, e17, hm⟩ := obd_s hm
        refine c_callViP C hE h (sh_33 hS) rfl (by decide) (kc_Kh_time l D k z mi aK aV g N hS e17) (cwV 2 C.2.2.1 (gS_X11_182 _) rfl rfl rfl hd_X2_time ⟨Nat.le_of_ble_eq_true rfl, Nat.le_of_ble_eq_true rfl⟩) rfl hl.1 rfl (Nat.le_of_ble_eq_true rfl) dX11_heard_92 ⟨(Nat.le_of_ble_eq_true rfl), (Nat.le_of_ble_eq_true rfl)⟩ (fun H locs h => ?_)
        cases hm
        exact c_iretP C h hr hlk dX11_heard_95 rfl
      have hm := ite_f c15 hm
      by_cases c20 : x2 = 4
      · refine x_topi (congrArg Int32.ofInt c20) ?_
        have hm := ite_t c20 hm
        refine lv_tableIn (tgt := 84) C.1 C.2.1 dX11_heard_18 (by decide) (by decide) rfl (by decide) ?_
        refine z_aload_n C dX11_heard_84 rfl (lv_at hl 0 rfl) ?_
        refine cg_12_4 C h (sh_0 hS) cU_X11 (List.mem_cons_of_mem _ wl_X11_37) dX11_heard_85 ?_
        refine lv_iload_n C.1 C.2.1 dX11_heard_88 rfl (lv_at hl 1 rfl) ?_
        refine lv_iload_n C.1 C.2.1 dX11_heard_89 rfl (lv_at hl 2 rfl) ?_
        refine lv_iconst (v := Int32.ofInt 2) C.1 C.2.1 dX11_heard_90 (by decide) ?_
        refine z_isub C dX11_heard_91 ?_
        obtain ⟨r21, e22, hm⟩ := obd_s hm
        refine c_callViP C hE h (sh_33 hS) rfl (by decide) (kc_Kh_time l D k z mi aK aV g N hS e22) (cwV 2 C.2.2.1 (gS_X11_182 _) rfl rfl rfl hd_X2_time ⟨Nat.le_of_ble_eq_true rfl, Nat.le_of_ble_eq_true rfl⟩) rfl hl.1 rfl (Nat.le_of_ble_eq_true rfl) dX11_heard_92 ⟨(Nat.le_of_ble_eq_true rfl), (Nat.le_of_ble_eq_true rfl)⟩ (fun H locs h => ?_)
        cases hm
        exact c_iretP C h hr hlk dX11_heard_95 rfl
      have hm := ite_f c20 hm
      by_cases c25 : x2 = 5
      · refine x_topi (congrArg Int32.ofInt c25) ?_
        have hm := ite_t c25 hm
        refine lv_tableIn (tgt := 84) C.1 C.2.1 dX11_heard_18 (by decide) (by decide) rfl (by decide) ?_
        refine z_aload_n C dX11_heard_84 rfl (lv_at hl 0 rfl) ?_
        refine cg_12_4 C h (sh_0 hS) cU_X11 (List.mem_cons_of_mem _ wl_X11_37) dX11_heard_85 ?_
        refine lv_iload_n C.1 C.2.1 dX11_heard_88 rfl (lv_at hl 1 rfl) ?_
        refine lv_iload_n C.1 C.2.1 dX11_heard_89 rfl (lv_at hl 2 rfl) ?_
        refine lv_iconst (v := Int32.ofInt 2) C.1 C.2.1 dX11_heard_90 (by decide) ?_
        refine z_isub C dX11_heard_91 ?_
        obtain ⟨r26, e27, hm⟩ := obd_s hm
        refine c_callViP C hE h (sh_33 hS) rfl (by decide) (kc_Kh_time l D k z mi aK aV g N hS e27) (cwV 2 C.2.2.1 (gS_X11_182 _) rfl rfl rfl hd_X2_time ⟨Nat.le_of_ble_eq_true rfl, Nat.le_of_ble_eq_true rfl⟩) rfl hl.1 rfl (Nat.le_of_ble_eq_true rfl) dX11_heard_92 ⟨(Nat.le_of_ble_eq_true rfl), (Nat.le_of_ble_eq_true rfl)⟩ (fun H locs h => ?_)
        cases hm
        exact c_iretP C h hr hlk dX11_heard_95 rfl
      have hm := ite_f c25 hm
      by_cases c30 : x2 = 6
      · refine x_topi (congrArg Int32.ofInt c30) ?_
        have hm := ite_t c30 hm
        refine lv_tableIn (tgt := 96) C.1 C.2.1 dX11_heard_18 (by decide) (by decide) rfl (by decide) ?_
        refine z_aload_n C dX11_heard_96 rfl (lv_at hl 0 rfl) ?_
        refine cg_12_4 C h (sh_0 hS) cU_X11 (List.mem_cons_of_mem _ wl_X11_37) dX11_heard_97 ?_
        refine cg_3_6_33 C h (sh_33 hS) cU_X2 (List.mem_cons_of_mem _ wl_X11_186) dX11_heard_100 ?_
        refine lv_iload_n C.1 C.2.1 dX11_heard_103 rfl (lv_at hl 1 rfl) ?_
        obtain ⟨g31, hm⟩ := grd_s hm
        refine c_iald C h (sh_40 hS) (ina_inb (n := 400) (sl_40 hS) (Nat.le_of_ble_eq_true rfl) g31) dX11_heard_104 ?_
        cases hm
        exact c_iretP C h hr hlk dX11_heard_105 rfl
      have hm := ite_f c30 hm
      by_cases c32 : x2 = 7
      · refine x_topi (congrArg Int32.ofInt c32) ?_
        have hm := ite_t c32 hm
        refine lv_tableIn (tgt := 106) C.1 C.2.1 dX11_heard_18 (by decide) (by decide) rfl (by decide) ?_
        refine z_aload_n C dX11_heard_106 rfl (lv_at hl 0 rfl) ?_
        refine cg_12_4 C h (sh_0 hS) cU_X11 (List.mem_cons_of_mem _ wl_X11_37) dX11_heard_107 ?_
        refine cg_3_5_33 C h (sh_33 hS) cU_X2 (List.mem_cons_of_mem _ wl_X11_193) dX11_heard_110 ?_
        refine lv_iload_n C.1 C.2.1 dX11_heard_113 rfl (lv_at hl 1 rfl) ?_
        obtain ⟨g33, hm⟩ := grd_s hm
        refine c_lald C h (sh_39 hS) (ina_inb (n := 400) (sl_39 hS) (Nat.le_of_ble_eq_true rfl) g33) dX11_heard_114 ?_
        obtain ⟨r34, e35, hm⟩ := obd_s hm
        refine v_callSi C h (kc_Ks_lettersOf l D k N (el σ 39 x1) r34 e35) (v_cwS 1 C.2.2.1 (gC_X2_lettersOf _) rfl rfl rfl (C.2.2.1 _ (List.mem_cons_of_mem _ wt_X2)) (C.2.2.1 _ (List.mem_cons_of_mem _ wm_X11_197)) (C.2.2.1 _ (List.mem_cons_of_mem _ ws_X2_lettersOf)) hdS_X2_lettersOf ⟨Nat.le_of_ble_eq_true rfl, Nat.le_of_ble_eq_true rfl⟩) rfl hl.1 rfl (Nat.le_of_ble_eq_true rfl) dX11_heard_115 ⟨(Nat.le_of_ble_eq_true rfl), (Nat.le_of_ble_eq_true rfl)⟩ (fun H locs h => ?_)
        cases hm
        exact c_iretP C h hr hlk dX11_heard_118 rfl
      have hm := ite_f c32 hm
      refine lv_tableOut (tgt := 119) C.1 C.2.1 dX11_heard_18 (by rw [c32_ti g5]; omega) (by decide) ?_
      refine lv_iconst (v := Int32.ofInt (-1)) C.1 C.2.1 dX11_heard_119 (by decide) ?_
      cases hm
      exact c_iretP C h hr hlk dX11_heard_120 rfl
    · have hm := ite_f c4 hm
      refine lv_iconst (v := Int32.ofInt (-1)) C.1 C.2.1 dX11_heard_15 (by decide) ?_
      cases hm
      exact c_iretP C h hr hlk dX11_heard_16 rfl
end Z_Cs_heard
section Z_Cs_heardLetter
variable {p : Program} {l : Launch} {e : Env} {s : State} {m : MethodId} {args : Array Value} {below : List Frame} {meth : Method} {c : Code} {D : va_G} {A : Nat → Prop} {k : Nat → ClassId} {N : Nat} {cd : Cond} {z mi : Nat} {aK aV : Nat → Nat} {g : Nat → Nat} {π : Sh}
set_option maxHeartbeats 8000000 in
set_option maxRecDepth 100000 in
theorem kc_Cs_heardLetter (l : Launch) (D : va_G) (k : Nat → ClassId) (z mi : Nat) (aK aV : Nat → Nat) (g : Nat → Nat) (N : Nat)    {π : Sh} {σ : St} {x1 : Int} {x2 : Int} {r : St × Int} (hS : SHs π) (hm : Cs_heardLetter N π σ x1 x2 = some r) : Mi l yX11_heardLetter (.code yX11_heardLetter cX11_heardLetter 3 (some .int) :: cWd) { frames := 2, cells := 0, slots := 0, locals := 44 } [rfv g 0, .int (Int32.ofInt x1), .int (Int32.ofInt x2)] D (TYs k) (cW k z g π σ) (XV z mi aK aV (cW k z g π σ)) Unit (fun v _ => v = Int32.ofInt r.2) (fun _ => cW k z g π r.1) 0 0 := by
  intro sz
  refine v_met (cc := cX11_heardLetter) (maxL := 3) (ret := (some .int)) (lv := [(0, rfv g 0), (1, .int (Int32.ofInt x1)), (2, .int (Int32.ofInt x2))]) (by decide) rfl (by simp [lg_sl, rfv_cat, cat_i, cat_l]) (by simp [lv_args, rfv_cat, cat_i, cat_l]) ?_
  intro p e s m below meth c ls C hE hr hlk hmn hl h
  rw [Cs_heardLetter] at hm
  refine z_aload_n C dX11_heardLetter_0 rfl (lv_at hl 0 rfl) ?_
  refine cg_12_4 C h (sh_0 hS) cU_X11 (List.mem_cons_of_mem _ wl_X11_37) dX11_heardLetter_1 ?_
  refine lv_iload_n C.1 C.2.1 dX11_heardLetter_4 rfl (lv_at hl 1 rfl) ?_
  refine lv_iload_n C.1 C.2.1 dX11_heardLetter_5 rfl (lv_at hl 2 rfl) ?_
  obtain ⟨r1, e2, hm⟩ := obd_s hm
  refine c_callViP C hE h (sh_33 hS) rfl (by decide) (kc_Kh_letterAt l D k z mi aK aV g N hS e2) (cwV 2 C.2.2.1 (gS_X11_201 _) rfl rfl rfl hd_X2_letterAt ⟨Nat.le_of_ble_eq_true rfl, Nat.le_of_ble_eq_true rfl⟩) rfl hl.1 rfl (Nat.le_of_ble_eq_true rfl) dX11_heardLetter_6 ⟨(Nat.le_of_ble_eq_true rfl), (Nat.le_of_ble_eq_true rfl)⟩ (fun H locs h => ?_)
  cases hm
  exact c_iretP C h hr hlk dX11_heardLetter_9 rfl
end Z_Cs_heardLetter
section Z_Cs_jump
variable {p : Program} {l : Launch} {e : Env} {s : State} {m : MethodId} {args : Array Value} {below : List Frame} {meth : Method} {c : Code} {D : va_G} {A : Nat → Prop} {k : Nat → ClassId} {N : Nat} {cd : Cond} {z mi : Nat} {aK aV : Nat → Nat} {g : Nat → Nat} {π : Sh}
set_option maxHeartbeats 8000000 in
set_option maxRecDepth 100000 in
theorem kc_Cs_jump (l : Launch) (D : va_G) (k : Nat → ClassId) (z mi : Nat) (aK aV : Nat → Nat) (g : Nat → Nat) (N : Nat)    {π : Sh} {σ : St} {x1 : Int} {r : St × Int} (hS : SHs π) (hm : Cs_jump N π σ x1 = some r) : Mi l yX11_jump (.code yX11_jump cX11_jump 2 (some .boolean) :: cWd) { frames := 1, cells := 0, slots := 0, locals := 21 } [rfv g 0, .int (Int32.ofInt x1)] D (TYs k) (cW k z g π σ) (XV z mi aK aV (cW k z g π σ)) Unit (fun v _ => v = Int32.ofInt r.2) (fun _ => cW k z g π r.1) 0 0 := by
  intro sz
  refine v_met (cc := cX11_jump) (maxL := 2) (ret := (some .boolean)) (lv := [(0, rfv g 0), (1, .int (Int32.ofInt x1))]) (by decide) rfl (by simp [lg_sl, rfv_cat, cat_i, cat_l]) (by simp [lv_args, rfv_cat, cat_i, cat_l]) ?_
  intro p e s m below meth c ls C hE hr hlk hmn hl h
  rw [Cs_jump] at hm
  refine lv_iload_n C.1 C.2.1 dX11_jump_0 rfl (lv_at hl 1 rfl) ?_
  obtain ⟨g1, hm⟩ := grd_s hm
  refine z_if_lt (tgt := 10) C dX11_jump_1 (by decide) g1 (fun c2 => ?_) (fun c2 => ?_)
  · have hm := ite_t c2 hm
    refine lv_iconst (v := Int32.ofInt 0) C.1 C.2.1 dX11_jump_10 (by decide) ?_
    cases hm
    exact c_iretP C h hr hlk dX11_jump_11 rfl
  · have hm := ite_f c2 hm
    refine lv_iload_n C.1 C.2.1 dX11_jump_4 rfl (lv_at hl 1 rfl) ?_
    refine lv_ldc (v := 100000) C.1 C.2.1 C.2.2.2.1 (C.2.2.1 _ (List.mem_cons_of_mem _ wk_X11_166)) dX11_jump_5 ?_
    refine x_topi (y := Int32.ofInt 100000) (by decide) ?_
    refine z_icmp_lt (tgt := 12) C dX11_jump_7 (by decide) g1 (by decide) (fun c3 => ?_) (fun c3 => ?_)
    · have hm := ite_t c3 hm
      refine z_aload_n C dX11_jump_12 rfl (lv_at hl 0 rfl) ?_
      refine lv_iload_n C.1 C.2.1 dX11_jump_13 rfl (lv_at hl 1 rfl) ?_
      refine lv_sipush (v := Int32.ofInt 960) C.1 C.2.1 dX11_jump_14 (by decide) ?_
      refine z_imul C dX11_jump_17 ?_
      refine cp_12_13 C h (sh_0 hS) cU_X11 (List.mem_cons_of_mem _ wl_X11_78) dX11_jump_18 (fun H locs h => ?_)
      refine z_aload_n C dX11_jump_21 rfl (lv_at hl 0 rfl) ?_
      obtain ⟨σ4, e5, hm⟩ := bnd_s hm
      rw [e5] at h
      obtain ⟨r7, e8, hm⟩ := obd_s hm
      refine c_callVvP C hE h (sh_0 hS) rfl (by decide) (kc_Cs_settle l D k z mi aK aV g N hS e8) (cwV 0 C.2.2.1 (gS_X11_214 _) rfl rfl rfl hd_X11_settle ⟨Nat.le_of_ble_eq_true rfl, Nat.le_of_ble_eq_true rfl⟩) rfl hl.1 rfl (Nat.le_of_ble_eq_true rfl) dX11_jump_22 ⟨(Nat.le_of_ble_eq_true rfl), (Nat.le_of_ble_eq_true rfl)⟩ (fun H locs h => ?_)
      refine lv_iconst (v := Int32.ofInt 1) C.1 C.2.1 dX11_jump_25 (by decide) ?_
      cases hm
      exact c_iretP C h hr hlk dX11_jump_26 rfl
    · have hm := ite_f c3 hm
      refine lv_iconst (v := Int32.ofInt 0) C.1 C.2.1 dX11_jump_10 (by decide) ?_
      cases hm
      exact c_iretP C h hr hlk dX11_jump_11 rfl
end Z_Cs_jump
section Z_Cs_mute
variable {p : Program} {l : Launch} {e : Env} {s : State} {m : MethodId} {args : Array Value} {below : List Frame} {meth : Method} {c : Code} {D : va_G} {A : Nat → Prop} {k : Nat → ClassId} {N : Nat} {cd : Cond} {z mi : Nat} {aK aV : Nat → Nat} {g : Nat → Nat} {π : Sh}
set_option maxHeartbeats 8000000 in
set_option maxRecDepth 100000 in
theorem kc_Cs_mute (l : Launch) (D : va_G) (k : Nat → ClassId) (z mi : Nat) (aK aV : Nat → Nat) (g : Nat → Nat) (N : Nat)    {π : Sh} {σ : St} {x1 : Int} {x2 : Int} {r : St × Int} (hS : SHs π) (hm : Cs_mute N π σ x1 x2 = some r) : Mi l yX11_mute (.code yX11_mute cX11_mute 4 (some .boolean) :: cWd) { frames := 1, cells := 0, slots := 0, locals := 20 } [rfv g 0, .int (Int32.ofInt x1), .int (Int32.ofInt x2)] D (TYs k) (cW k z g π σ) (XV z mi aK aV (cW k z g π σ)) Unit (fun v _ => v = Int32.ofInt r.2) (fun _ => cW k z g π r.1) 0 0 := by
  intro sz
  refine v_met (cc := cX11_mute) (maxL := 4) (ret := (some .boolean)) (lv := [(0, rfv g 0), (1, .int (Int32.ofInt x1)), (2, .int (Int32.ofInt x2))]) (by decide) rfl (by simp [lg_sl, rfv_cat, cat_i, cat_l]) (by simp [lv_args, rfv_cat, cat_i, cat_l]) ?_
  intro p e s m below meth c ls C hE hr hlk hmn hl h
  rw [Cs_mute] at hm
  refine lv_iload_n C.1 C.2.1 dX11_mute_0 rfl (lv_at hl 1 rfl) ?_
  obtain ⟨r1, e2, hm⟩ := obd_s hm
  refine v_callSi C h (kc_Cs_isTrack l D k N x1 r1 e2) (v_cwS 1 C.2.2.1 (gC_X11_isTrack _) rfl rfl rfl (C.2.2.1 _ (List.mem_cons_of_mem _ wt_X11)) (C.2.2.1 _ (List.mem_cons_of_mem _ wm_X11_135)) (C.2.2.1 _ (List.mem_cons_of_mem _ ws_X11_isTrack)) hdS_X11_isTrack ⟨Nat.le_of_ble_eq_true rfl, Nat.le_of_ble_eq_true rfl⟩) rfl hl.1 rfl (Nat.le_of_ble_eq_true rfl) dX11_mute_1 ⟨(Nat.le_of_ble_eq_true rfl), (Nat.le_of_ble_eq_true rfl)⟩ (fun H locs h => ?_)
  obtain ⟨g3, hm⟩ := grd_s hm
  refine z_if_ne (tgt := 9) C dX11_mute_4 (by decide) g3 (fun c4 => ?_) (fun c4 => ?_)
  · have hm := ite_f c4 hm
    refine z_aload_n C dX11_mute_9 rfl (lv_at hl 0 rfl) ?_
    refine cg_12_11 C h (sh_0 hS) cU_X11 (List.mem_cons_of_mem _ wl_X11_72) dX11_mute_10 ?_
    refine lv_iload_n C.1 C.2.1 dX11_mute_13 rfl (lv_at hl 1 rfl) ?_
    obtain ⟨g5, hm⟩ := grd_s hm
    refine c_zald C h (sh_54 hS) (ina_inb (n := 8) (sl_54 hS) (Nat.le_of_ble_eq_true rfl) g5) dX11_mute_14 ?_
    obtain ⟨v6, e7, hm⟩ := bnd_s hm
    rw [e7]
    refine lv_istore_n (lv' := [(3, .int (Int32.ofInt v6)), (0, rfv g 0), (1, .int (Int32.ofInt x1)), (2, .int (Int32.ofInt x2))]) C.1 C.2.1 dX11_mute_15 rfl hl (by decide) rfl (fun ls hl => ?_)
    refine z_aload_n C dX11_mute_16 rfl (lv_at hl 1 rfl) ?_
    refine cg_12_11 C h (sh_0 hS) cU_X11 (List.mem_cons_of_mem _ wl_X11_72) dX11_mute_17 ?_
    refine lv_iload_n C.1 C.2.1 dX11_mute_20 rfl (lv_at hl 2 rfl) ?_
    refine lv_iload_n C.1 C.2.1 dX11_mute_21 rfl (lv_at hl 3 rfl) ?_
    obtain ⟨g8, hm⟩ := grd_s hm
    refine c_zast C h (sh_54 hS) (ina_inb (n := 8) (sl_54 hS) (Nat.le_of_ble_eq_true rfl) g5) g8 dX11_mute_22 (fun H locs h => ?_)
    refine lv_iload_n C.1 C.2.1 dX11_mute_23 rfl (lv_at hl 0 rfl) ?_
    obtain ⟨g9, hm⟩ := grd_s hm
    cases hm
    exact c_iretP C h hr hlk dX11_mute_24 (isZ_n g9)
  · have hm := ite_t c4 hm
    refine lv_iconst (v := Int32.ofInt 0) C.1 C.2.1 dX11_mute_7 (by decide) ?_
    cases hm
    exact c_iretP C h hr hlk dX11_mute_8 rfl
end Z_Cs_mute
section Z_Cs_solo
variable {p : Program} {l : Launch} {e : Env} {s : State} {m : MethodId} {args : Array Value} {below : List Frame} {meth : Method} {c : Code} {D : va_G} {A : Nat → Prop} {k : Nat → ClassId} {N : Nat} {cd : Cond} {z mi : Nat} {aK aV : Nat → Nat} {g : Nat → Nat} {π : Sh}
set_option maxHeartbeats 8000000 in
set_option maxRecDepth 100000 in
theorem kc_Cs_solo (l : Launch) (D : va_G) (k : Nat → ClassId) (z mi : Nat) (aK aV : Nat → Nat) (g : Nat → Nat) (N : Nat)    {π : Sh} {σ : St} {x1 : Int} {x2 : Int} {r : St × Int} (hS : SHs π) (hm : Cs_solo N π σ x1 x2 = some r) : Mi l yX11_solo (.code yX11_solo cX11_solo 4 (some .boolean) :: cWd) { frames := 1, cells := 0, slots := 0, locals := 20 } [rfv g 0, .int (Int32.ofInt x1), .int (Int32.ofInt x2)] D (TYs k) (cW k z g π σ) (XV z mi aK aV (cW k z g π σ)) Unit (fun v _ => v = Int32.ofInt r.2) (fun _ => cW k z g π r.1) 0 0 := by
  intro sz
  refine v_met (cc := cX11_solo) (maxL := 4) (ret := (some .boolean)) (lv := [(0, rfv g 0), (1, .int (Int32.ofInt x1)), (2, .int (Int32.ofInt x2))]) (by decide) rfl (by simp [lg_sl, rfv_cat, cat_i, cat_l]) (by simp [lv_args, rfv_cat, cat_i, cat_l]) ?_
  intro p e s m below meth c ls C hE hr hlk hmn hl h
  rw [Cs_solo] at hm
  refine lv_iload_n C.1 C.2.1 dX11_solo_0 rfl (lv_at hl 1 rfl) ?_
  obtain ⟨r1, e2, hm⟩ := obd_s hm
  refine v_callSi C h (kc_Cs_isTrack l D k N x1 r1 e2) (v_cwS 1 C.2.2.1 (gC_X11_isTrack _) rfl rfl rfl (C.2.2.1 _ (List.mem_cons_of_mem _ wt_X11)) (C.2.2.1 _ (List.mem_cons_of_mem _ wm_X11_135)) (C.2.2.1 _ (List.mem_cons_of_mem _ ws_X11_isTrack)) hdS_X11_isTrack ⟨Nat.le_of_ble_eq_true rfl, Nat.le_of_ble_eq_true rfl⟩) rfl hl.1 rfl (Nat.le_of_ble_eq_true rfl) dX11_solo_1 ⟨(Nat.le_of_ble_eq_true rfl), (Nat.le_of_ble_eq_true rfl)⟩ (fun H locs h => ?_)
  obtain ⟨g3, hm⟩ := grd_s hm
  refine z_if_ne (tgt := 9) C dX11_solo_4 (by decide) g3 (fun c4 => ?_) (fun c4 => ?_)
  · have hm := ite_f c4 hm
    refine z_aload_n C dX11_solo_9 rfl (lv_at hl 0 rfl) ?_
    refine cg_12_12 C h (sh_0 hS) cU_X11 (List.mem_cons_of_mem _ wl_X11_75) dX11_solo_10 ?_
    refine lv_iload_n C.1 C.2.1 dX11_solo_13 rfl (lv_at hl 1 rfl) ?_
    obtain ⟨g5, hm⟩ := grd_s hm
    refine c_zald C h (sh_55 hS) (ina_inb (n := 8) (sl_55 hS) (Nat.le_of_ble_eq_true rfl) g5) dX11_solo_14 ?_
    obtain ⟨v6, e7, hm⟩ := bnd_s hm
    rw [e7]
    refine lv_istore_n (lv' := [(3, .int (Int32.ofInt v6)), (0, rfv g 0), (1, .int (Int32.ofInt x1)), (2, .int (Int32.ofInt x2))]) C.1 C.2.1 dX11_solo_15 rfl hl (by decide) rfl (fun ls hl => ?_)
    refine z_aload_n C dX11_solo_16 rfl (lv_at hl 1 rfl) ?_
    refine cg_12_12 C h (sh_0 hS) cU_X11 (List.mem_cons_of_mem _ wl_X11_75) dX11_solo_17 ?_
    refine lv_iload_n C.1 C.2.1 dX11_solo_20 rfl (lv_at hl 2 rfl) ?_
    refine lv_iload_n C.1 C.2.1 dX11_solo_21 rfl (lv_at hl 3 rfl) ?_
    obtain ⟨g8, hm⟩ := grd_s hm
    refine c_zast C h (sh_55 hS) (ina_inb (n := 8) (sl_55 hS) (Nat.le_of_ble_eq_true rfl) g5) g8 dX11_solo_22 (fun H locs h => ?_)
    refine lv_iload_n C.1 C.2.1 dX11_solo_23 rfl (lv_at hl 0 rfl) ?_
    obtain ⟨g9, hm⟩ := grd_s hm
    cases hm
    exact c_iretP C h hr hlk dX11_solo_24 (isZ_n g9)
  · have hm := ite_t c4 hm
    refine lv_iconst (v := Int32.ofInt 0) C.1 C.2.1 dX11_solo_7 (by decide) ?_
    cases hm
    exact c_iretP C h hr hlk dX11_solo_8 rfl
end Z_Cs_solo
section Z_Cs_seed
variable {p : Program} {l : Launch} {e : Env} {s : State} {m : MethodId} {args : Array Value} {below : List Frame} {meth : Method} {c : Code} {D : va_G} {A : Nat → Prop} {k : Nat → ClassId} {N : Nat} {cd : Cond} {z mi : Nat} {aK aV : Nat → Nat} {g : Nat → Nat} {π : Sh}
set_option maxHeartbeats 8000000 in
set_option maxRecDepth 100000 in
theorem kc_Cs_seed (l : Launch) (D : va_G) (k : Nat → ClassId) (z mi : Nat) (aK aV : Nat → Nat) (g : Nat → Nat) (N : Nat)    {π : Sh} {σ : St} {x1 : Int} {r : St} (hS : SHs π) (hm : Cs_seed N π σ x1 = some r) : Mv l yX11_seed (.code yX11_seed cX11_seed 2 none :: cWd) { frames := 0, cells := 0, slots := 0, locals := 0 } [rfv g 0, .int (Int32.ofInt x1)] D (TYs k) (cW k z g π σ) (XV z mi aK aV (cW k z g π σ)) Unit (fun _ => True) (fun _ => cW k z g π r) 0 0 := by
  intro sz
  refine v_met (cc := cX11_seed) (maxL := 2) (ret := none) (lv := [(0, rfv g 0), (1, .int (Int32.ofInt x1))]) (by decide) rfl (by simp [lg_sl, rfv_cat, cat_i, cat_l]) (by simp [lv_args, rfv_cat, cat_i, cat_l]) ?_
  intro p e s m below meth c ls C hE hr hlk hmn hl h
  rw [Cs_seed] at hm
  refine z_aload_n C dX11_seed_0 rfl (lv_at hl 0 rfl) ?_
  refine cg_12_2 C h (sh_0 hS) cU_X11 (List.mem_cons_of_mem _ wl_X11_26) dX11_seed_1 ?_
  refine lv_iload_n C.1 C.2.1 dX11_seed_4 rfl (lv_at hl 1 rfl) ?_
  refine cp_8_1 C h (sh_9 hS) cU_X7 (List.mem_cons_of_mem _ wl_X11_223) dX11_seed_5 (fun H locs h => ?_)
  cases hm
  exact c_vretP C h hr hlk dX11_seed_8
end Z_Cs_seed
section Z_Cs_tracksWaiting
variable {p : Program} {l : Launch} {e : Env} {s : State} {m : MethodId} {args : Array Value} {below : List Frame} {meth : Method} {c : Code} {D : va_G} {A : Nat → Prop} {k : Nat → ClassId} {N : Nat} {cd : Cond} {z mi : Nat} {aK aV : Nat → Nat} {g : Nat → Nat} {π : Sh}
set_option maxHeartbeats 8000000 in
set_option maxRecDepth 100000 in
theorem kl_Cs_tracksWaiting_25 {r : St × Int} (C : Cx p s m args c cX11_tracksWaiting RX11 (cd :: cWd) D (TYs k) 3) (hr : meth.sig.returnType = (some .int)) (hlk : meth.locks = false) (hE : Ev z mi aK aV A s s.heap) (hS : SHs π)   {rec4 : St → Int → Int → Option (St × Int)} (hrec4 : ∀ {ls : Array Slot} {H : Heap} {locs : List Loc} {σ : St} {x1 : Int} {x2 : Int}, lv_has ls 3 [(0, rfv g 0), (1, .int (Int32.ofInt x1)), (2, .int (Int32.ofInt x2))] → Hp D A s.heap H locs (cW k z g π σ) → rec4 σ x1 x2 = some r → W p l e { frames := 0, cells := 0, slots := 0, locals := 0 } s m args below meth c H locs 0 0 (MQ below (va_Qi (fun v (_ : Unit) => v = Int32.ofInt r.2) (fun _ t => PostW D (TYs k) A (cW k z g π r.1) t) A) args s 0 0 A) (F0 m 4 ls [])) {ls : Array Slot} {H : Heap} {locs : List Loc} {σ : St} {x2 : Int} {s0 : Int} {s1 : Int}  (hl : lv_has ls 3 [(0, rfv g 0), (2, .int (Int32.ofInt x2))]) (h : Hp D A s.heap H locs (cW k z g π σ)) (hm : Cs_tracksWaiting_25 N π rec4 σ x2 s0 s1 = some r) : W p l e { frames := 0, cells := 0, slots := 0, locals := 0 } s m args below meth c H locs 0 0 (MQ below (va_Qi (fun v (_ : Unit) => v = Int32.ofInt r.2) (fun _ t => PostW D (TYs k) A (cW k z g π r.1) t) A) args s 0 0 A) (F0 m 25 ls [.int (Int32.ofInt s0), .int (Int32.ofInt s1)]) := by
  rw [Cs_tracksWaiting_25] at hm
  refine z_iadd C dX11_tracksWaiting_25 ?_
  obtain ⟨v6, e7, hm⟩ := bnd_s hm
  rw [e7]
  refine lv_istore_n (i := 1) (lv' := [(1, .int (Int32.ofInt v6)), (0, rfv g 0), (2, .int (Int32.ofInt x2))]) C.1 C.2.1 dX11_tracksWaiting_26 rfl hl (by decide) (by simp [rfv_cat, cat_i, cat_l]) (fun ls hl => ?_)
  refine lv_iinc (v := Int32.ofInt (x2 + 1)) (lv' := [(2, .int (Int32.ofInt (x2 + 1))), (1, .int (Int32.ofInt v6)), (0, rfv g 0)]) C.1 C.2.1 dX11_tracksWaiting_27 hl (k := 2) rfl (c32_add _ _) (by decide) rfl (fun ls hl => ?_)
  refine lv_goto (tgt := 4) C.1 C.2.1 dX11_tracksWaiting_30 (by decide) ?_
  exact hrec4 (lv_sub hl [2, 1, 0] rfl) h hm
set_option maxHeartbeats 8000000 in
set_option maxRecDepth 100000 in
theorem kl_Cs_tracksWaiting_4 {r : St × Int} (C : Cx p s m args c cX11_tracksWaiting RX11 (cd :: cWd) D (TYs k) 3) (hr : meth.sig.returnType = (some .int)) (hlk : meth.locks = false) (hE : Ev z mi aK aV A s s.heap) (hS : SHs π)    (n : Nat) : ∀ {ls : Array Slot} {H : Heap} {locs : List Loc} {σ : St} {x1 : Int} {x2 : Int}, lv_has ls 3 [(0, rfv g 0), (1, .int (Int32.ofInt x1)), (2, .int (Int32.ofInt x2))] → Hp D A s.heap H locs (cW k z g π σ) → Cs_tracksWaiting_4 N π n σ x1 x2 = some r → W p l e { frames := 0, cells := 0, slots := 0, locals := 0 } s m args below meth c H locs 0 0 (MQ below (va_Qi (fun v (_ : Unit) => v = Int32.ofInt r.2) (fun _ t => PostW D (TYs k) A (cW k z g π r.1) t) A) args s 0 0 A) (F0 m 4 ls []) := by
  induction n with
  | zero => intro ls H locs σ x1 x2  hl h hm; cases (show none = some r from hm)
  | succ n hrec4 =>
    intro ls H locs σ x1 x2  hl h hm
    rw [Cs_tracksWaiting_4] at hm
    refine lv_iload_n C.1 C.2.1 dX11_tracksWaiting_4 rfl (lv_at hl 2 rfl) ?_
    refine lv_bipush (v := Int32.ofInt 8) C.1 C.2.1 dX11_tracksWaiting_5 (by decide) ?_
    obtain ⟨g1, hm⟩ := grd_s hm
    refine z_icmp_ge (tgt := 33) C dX11_tracksWaiting_7 (by decide) g1 (by decide) (fun c2 => ?_) (fun c2 => ?_)
    · have hm := ite_f c2 hm
      refine lv_iload_n C.1 C.2.1 dX11_tracksWaiting_33 rfl (lv_at hl 1 rfl) ?_
      cases hm
      exact c_iretP C h hr hlk dX11_tracksWaiting_34 rfl
    · have hm := ite_t c2 hm
      refine lv_iload_n C.1 C.2.1 dX11_tracksWaiting_10 rfl (lv_at hl 1 rfl) ?_
      refine z_aload_n C dX11_tracksWaiting_11 rfl (lv_at hl 0 rfl) ?_
      refine cg_12_10 C h (sh_0 hS) cU_X11 (List.mem_cons_of_mem _ wl_X11_68) dX11_tracksWaiting_12 ?_
      refine lv_iload_n C.1 C.2.1 dX11_tracksWaiting_15 rfl (lv_at hl 2 rfl) ?_
      obtain ⟨g3, hm⟩ := grd_s hm
      refine c_zald C h (sh_53 hS) (ina_inb (n := 8) (sl_53 hS) (Nat.le_of_ble_eq_true rfl) g3) dX11_tracksWaiting_16 ?_
      obtain ⟨g4, hm⟩ := grd_s hm
      refine z_if_eq (tgt := 24) C dX11_tracksWaiting_17 (by decide) g4 (fun c5 => ?_) (fun c5 => ?_)
      · have hm := ite_t c5 hm
        refine lv_iconst (v := Int32.ofInt 0) C.1 C.2.1 dX11_tracksWaiting_24 (by decide) ?_
        exact kl_Cs_tracksWaiting_25 (N := N) C hr hlk hE hS hrec4 (lv_sub hl [0, 2] rfl) h hm
      · have hm := ite_f c5 hm
        refine lv_iconst (v := Int32.ofInt 1) C.1 C.2.1 dX11_tracksWaiting_20 (by decide) ?_
        refine lv_goto (tgt := 25) C.1 C.2.1 dX11_tracksWaiting_21 (by decide) ?_
        exact kl_Cs_tracksWaiting_25 (N := N) C hr hlk hE hS hrec4 (lv_sub hl [0, 2] rfl) h hm
set_option maxHeartbeats 8000000 in
set_option maxRecDepth 100000 in
theorem kc_Cs_tracksWaiting (l : Launch) (D : va_G) (k : Nat → ClassId) (z mi : Nat) (aK aV : Nat → Nat) (g : Nat → Nat) (N : Nat)    {π : Sh} {σ : St}  {r : St × Int} (hS : SHs π) (hm : Cs_tracksWaiting N π σ  = some r) : Mi l yX11_tracksWaiting (.code yX11_tracksWaiting cX11_tracksWaiting 3 (some .int) :: cWd) { frames := 0, cells := 0, slots := 0, locals := 0 } [rfv g 0] D (TYs k) (cW k z g π σ) (XV z mi aK aV (cW k z g π σ)) Unit (fun v _ => v = Int32.ofInt r.2) (fun _ => cW k z g π r.1) 0 0 := by
  intro sz
  refine v_met (cc := cX11_tracksWaiting) (maxL := 3) (ret := (some .int)) (lv := [(0, rfv g 0)]) (by decide) rfl (by simp [lg_sl, rfv_cat, cat_i, cat_l]) (by simp [lv_args, rfv_cat, cat_i, cat_l]) ?_
  intro p e s m below meth c ls C hE hr hlk hmn hl h
  rw [Cs_tracksWaiting] at hm
  refine lv_iconst (v := Int32.ofInt 0) C.1 C.2.1 dX11_tracksWaiting_0 (by decide) ?_
  refine lv_istore_n (i := 1) (lv' := [(1, .int (Int32.ofInt 0)), (0, rfv g 0)]) C.1 C.2.1 dX11_tracksWaiting_1 rfl hl (by decide) (by simp [rfv_cat, cat_i, cat_l]) (fun ls hl => ?_)
  refine lv_iconst (v := Int32.ofInt 0) C.1 C.2.1 dX11_tracksWaiting_2 (by decide) ?_
  refine lv_istore_n (lv' := [(2, .int (Int32.ofInt 0)), (1, .int (Int32.ofInt 0)), (0, rfv g 0)]) C.1 C.2.1 dX11_tracksWaiting_3 rfl hl (by decide) rfl (fun ls hl => ?_)
  exact kl_Cs_tracksWaiting_4 (N := N) C hr hlk hE hS N (lv_sub hl [2, 1, 0] rfl) h hm
end Z_Cs_tracksWaiting
section Z_Cs_tracksWithPattern
variable {p : Program} {l : Launch} {e : Env} {s : State} {m : MethodId} {args : Array Value} {below : List Frame} {meth : Method} {c : Code} {D : va_G} {A : Nat → Prop} {k : Nat → ClassId} {N : Nat} {cd : Cond} {z mi : Nat} {aK aV : Nat → Nat} {g : Nat → Nat} {π : Sh}
set_option maxHeartbeats 8000000 in
set_option maxRecDepth 100000 in
theorem kl_Cs_tracksWithPattern_25 {r : St × Int} (C : Cx p s m args c cX11_tracksWithPattern RX11 (cd :: cWd) D (TYs k) 3) (hr : meth.sig.returnType = (some .int)) (hlk : meth.locks = false) (hE : Ev z mi aK aV A s s.heap) (hS : SHs π)   {rec4 : St → Int → Int → Option (St × Int)} (hrec4 : ∀ {ls : Array Slot} {H : Heap} {locs : List Loc} {σ : St} {x1 : Int} {x2 : Int}, lv_has ls 3 [(0, rfv g 0), (1, .int (Int32.ofInt x1)), (2, .int (Int32.ofInt x2))] → Hp D A s.heap H locs (cW k z g π σ) → rec4 σ x1 x2 = some r → W p l e { frames := 0, cells := 0, slots := 0, locals := 0 } s m args below meth c H locs 0 0 (MQ below (va_Qi (fun v (_ : Unit) => v = Int32.ofInt r.2) (fun _ t => PostW D (TYs k) A (cW k z g π r.1) t) A) args s 0 0 A) (F0 m 4 ls [])) {ls : Array Slot} {H : Heap} {locs : List Loc} {σ : St} {x2 : Int} {s0 : Int} {s1 : Int}  (hl : lv_has ls 3 [(0, rfv g 0), (2, .int (Int32.ofInt x2))]) (h : Hp D A s.heap H locs (cW k z g π σ)) (hm : Cs_tracksWithPattern_25 N π rec4 σ x2 s0 s1 = some r) : W p l e { frames := 0, cells := 0, slots := 0, locals := 0 } s m args below meth c H locs 0 0 (MQ below (va_Qi (fun v (_ : Unit) => v = Int32.ofInt r.2) (fun _ t => PostW D (TYs k) A (cW k z g π r.1) t) A) args s 0 0 A) (F0 m 25 ls [.int (Int32.ofInt s0), .int (Int32.ofInt s1)]) := by
  rw [Cs_tracksWithPattern_25] at hm
  refine z_iadd C dX11_tracksWithPattern_25 ?_
  obtain ⟨v5, e6, hm⟩ := bnd_s hm
  rw [e6]
  refine lv_istore_n (i := 1) (lv' := [(1, .int (Int32.ofInt v5)), (0, rfv g 0), (2, .int (Int32.ofInt x2))]) C.1 C.2.1 dX11_tracksWithPattern_26 rfl hl (by decide) (by simp [rfv_cat, cat_i, cat_l]) (fun ls hl => ?_)
  refine lv_iinc (v := Int32.ofInt (x2 + 1)) (lv' := [(2, .int (Int32.ofInt (x2 + 1))), (1, .int (Int32.ofInt v5)), (0, rfv g 0)]) C.1 C.2.1 dX11_tracksWithPattern_27 hl (k := 2) rfl (c32_add _ _) (by decide) rfl (fun ls hl => ?_)
  refine lv_goto (tgt := 4) C.1 C.2.1 dX11_tracksWithPattern_30 (by decide) ?_
  exact hrec4 (lv_sub hl [2, 1, 0] rfl) h hm
set_option maxHeartbeats 8000000 in
set_option maxRecDepth 100000 in
theorem kl_Cs_tracksWithPattern_4 {r : St × Int} (C : Cx p s m args c cX11_tracksWithPattern RX11 (cd :: cWd) D (TYs k) 3) (hr : meth.sig.returnType = (some .int)) (hlk : meth.locks = false) (hE : Ev z mi aK aV A s s.heap) (hS : SHs π)    (n : Nat) : ∀ {ls : Array Slot} {H : Heap} {locs : List Loc} {σ : St} {x1 : Int} {x2 : Int}, lv_has ls 3 [(0, rfv g 0), (1, .int (Int32.ofInt x1)), (2, .int (Int32.ofInt x2))] → Hp D A s.heap H locs (cW k z g π σ) → Cs_tracksWithPattern_4 N π n σ x1 x2 = some r → W p l e { frames := 0, cells := 0, slots := 0, locals := 0 } s m args below meth c H locs 0 0 (MQ below (va_Qi (fun v (_ : Unit) => v = Int32.ofInt r.2) (fun _ t => PostW D (TYs k) A (cW k z g π r.1) t) A) args s 0 0 A) (F0 m 4 ls []) := by
  induction n with
  | zero => intro ls H locs σ x1 x2  hl h hm; cases (show none = some r from hm)
  | succ n hrec4 =>
    intro ls H locs σ x1 x2  hl h hm
    rw [Cs_tracksWithPattern_4] at hm
    refine lv_iload_n C.1 C.2.1 dX11_tracksWithPattern_4 rfl (lv_at hl 2 rfl) ?_
    refine lv_bipush (v := Int32.ofInt 8) C.1 C.2.1 dX11_tracksWithPattern_5 (by decide) ?_
    obtain ⟨g1, hm⟩ := grd_s hm
    refine z_icmp_ge (tgt := 33) C dX11_tracksWithPattern_7 (by decide) g1 (by decide) (fun c2 => ?_) (fun c2 => ?_)
    · have hm := ite_f c2 hm
      refine lv_iload_n C.1 C.2.1 dX11_tracksWithPattern_33 rfl (lv_at hl 1 rfl) ?_
      cases hm
      exact c_iretP C h hr hlk dX11_tracksWithPattern_34 rfl
    · have hm := ite_t c2 hm
      refine lv_iload_n C.1 C.2.1 dX11_tracksWithPattern_10 rfl (lv_at hl 1 rfl) ?_
      refine z_aload_n C dX11_tracksWithPattern_11 rfl (lv_at hl 0 rfl) ?_
      refine cg_12_8 C h (sh_0 hS) cU_X11 (List.mem_cons_of_mem _ wl_X11_61) dX11_tracksWithPattern_12 ?_
      refine lv_iload_n C.1 C.2.1 dX11_tracksWithPattern_15 rfl (lv_at hl 2 rfl) ?_
      obtain ⟨g3, hm⟩ := grd_s hm
      refine c_qald C h (t := 6) (by decide) rfl (sh_51 hS) (ina_inb (n := 8) (sl_51 hS) (Nat.le_of_ble_eq_true rfl) g3) dX11_tracksWithPattern_16 ?_
      refine z_ifnull (tgt := 24) C dX11_tracksWithPattern_17 (by decide) (fun c4 => ?_) (fun c4 => ?_)
      · have hm := ite_t c4 hm
        refine lv_iconst (v := Int32.ofInt 0) C.1 C.2.1 dX11_tracksWithPattern_24 (by decide) ?_
        exact kl_Cs_tracksWithPattern_25 (N := N) C hr hlk hE hS hrec4 (lv_sub hl [0, 2] rfl) h hm
      · have hm := ite_f c4 hm
        refine lv_iconst (v := Int32.ofInt 1) C.1 C.2.1 dX11_tracksWithPattern_20 (by decide) ?_
        refine lv_goto (tgt := 25) C.1 C.2.1 dX11_tracksWithPattern_21 (by decide) ?_
        exact kl_Cs_tracksWithPattern_25 (N := N) C hr hlk hE hS hrec4 (lv_sub hl [0, 2] rfl) h hm
set_option maxHeartbeats 8000000 in
set_option maxRecDepth 100000 in
theorem kc_Cs_tracksWithPattern (l : Launch) (D : va_G) (k : Nat → ClassId) (z mi : Nat) (aK aV : Nat → Nat) (g : Nat → Nat) (N : Nat)    {π : Sh} {σ : St}  {r : St × Int} (hS : SHs π) (hm : Cs_tracksWithPattern N π σ  = some r) : Mi l yX11_tracksWithPattern (.code yX11_tracksWithPattern cX11_tracksWithPattern 3 (some .int) :: cWd) { frames := 0, cells := 0, slots := 0, locals := 0 } [rfv g 0] D (TYs k) (cW k z g π σ) (XV z mi aK aV (cW k z g π σ)) Unit (fun v _ => v = Int32.ofInt r.2) (fun _ => cW k z g π r.1) 0 0 := by
  intro sz
  refine v_met (cc := cX11_tracksWithPattern) (maxL := 3) (ret := (some .int)) (lv := [(0, rfv g 0)]) (by decide) rfl (by simp [lg_sl, rfv_cat, cat_i, cat_l]) (by simp [lv_args, rfv_cat, cat_i, cat_l]) ?_
  intro p e s m below meth c ls C hE hr hlk hmn hl h
  rw [Cs_tracksWithPattern] at hm
  refine lv_iconst (v := Int32.ofInt 0) C.1 C.2.1 dX11_tracksWithPattern_0 (by decide) ?_
  refine lv_istore_n (i := 1) (lv' := [(1, .int (Int32.ofInt 0)), (0, rfv g 0)]) C.1 C.2.1 dX11_tracksWithPattern_1 rfl hl (by decide) (by simp [rfv_cat, cat_i, cat_l]) (fun ls hl => ?_)
  refine lv_iconst (v := Int32.ofInt 0) C.1 C.2.1 dX11_tracksWithPattern_2 (by decide) ?_
  refine lv_istore_n (lv' := [(2, .int (Int32.ofInt 0)), (1, .int (Int32.ofInt 0)), (0, rfv g 0)]) C.1 C.2.1 dX11_tracksWithPattern_3 rfl hl (by decide) rfl (fun ls hl => ?_)
  exact kl_Cs_tracksWithPattern_4 (N := N) C hr hlk hE hS N (lv_sub hl [2, 1, 0] rfl) h hm
end Z_Cs_tracksWithPattern
section Z_Cs_about
variable {p : Program} {l : Launch} {e : Env} {s : State} {m : MethodId} {args : Array Value} {below : List Frame} {meth : Method} {c : Code} {D : va_G} {A : Nat → Prop} {k : Nat → ClassId} {N : Nat} {cd : Cond} {z mi : Nat} {aK aV : Nat → Nat} {g : Nat → Nat} {π : Sh}
set_option maxHeartbeats 8000000 in
set_option maxRecDepth 100000 in
theorem kc_Cs_about (l : Launch) (D : va_G) (k : Nat → ClassId) (z mi : Nat) (aK aV : Nat → Nat) (g : Nat → Nat) (N : Nat)    {π : Sh} {σ : St} {x1 : Int} {r : St × Int} (hS : SHs π) (hm : Cs_about N π σ x1 = some r) : Mi l yX11_about (.code yX11_about cX11_about 2 (some .int) :: cWd) { frames := 1, cells := 0, slots := 0, locals := 22 } [rfv g 0, .int (Int32.ofInt x1)] D (TYs k) (cW k z g π σ) (XV z mi aK aV (cW k z g π σ)) Unit (fun v _ => v = Int32.ofInt r.2) (fun _ => cW k z g π r.1) 0 0 := by
  intro sz
  refine v_met (cc := cX11_about) (maxL := 2) (ret := (some .int)) (lv := [(0, rfv g 0), (1, .int (Int32.ofInt x1))]) (by decide) rfl (by simp [lg_sl, rfv_cat, cat_i, cat_l]) (by simp [lv_args, rfv_cat, cat_i, cat_l]) ?_
  intro p e s m below meth c ls C hE hr hlk hmn hl h
  rw [Cs_about] at hm
  refine lv_iload_n C.1 C.2.1 dX11_about_0 rfl (lv_at hl 1 rfl) ?_
  obtain ⟨g1, hm⟩ := grd_s hm
  by_cases c2 : x1 = 0
  · refine x_topi (congrArg Int32.ofInt c2) ?_
    have hm := ite_t c2 hm
    refine lv_tableIn (tgt := 44) C.1 C.2.1 dX11_about_1 (by decide) (by decide) rfl (by decide) ?_
    refine z_aload_n C dX11_about_44 rfl (lv_at hl 0 rfl) ?_
    refine cg_12_13 C h (sh_0 hS) cU_X11 (List.mem_cons_of_mem _ wl_X11_78) dX11_about_45 ?_
    refine lv_sipush (v := Int32.ofInt 960) C.1 C.2.1 dX11_about_48 (by decide) ?_
    obtain ⟨g3, hm⟩ := grd_s hm
    refine z_idiv C dX11_about_51 g3 (by decide) (by decide) ?_
    cases hm
    exact c_iretP C h hr hlk dX11_about_52 rfl
  have hm := ite_f c2 hm
  by_cases c4 : x1 = 1
  · refine x_topi (congrArg Int32.ofInt c4) ?_
    have hm := ite_t c4 hm
    refine lv_tableIn (tgt := 53) C.1 C.2.1 dX11_about_1 (by decide) (by decide) rfl (by decide) ?_
    refine z_aload_n C dX11_about_53 rfl (lv_at hl 0 rfl) ?_
    refine cg_12_13 C h (sh_0 hS) cU_X11 (List.mem_cons_of_mem _ wl_X11_78) dX11_about_54 ?_
    refine lv_sipush (v := Int32.ofInt 960) C.1 C.2.1 dX11_about_57 (by decide) ?_
    obtain ⟨g5, hm⟩ := grd_s hm
    refine z_irem C dX11_about_60 g5 (by decide) (by decide) ?_
    cases hm
    exact c_iretP C h hr hlk dX11_about_61 rfl
  have hm := ite_f c4 hm
  by_cases c6 : x1 = 2
  · refine x_topi (congrArg Int32.ofInt c6) ?_
    have hm := ite_t c6 hm
    refine lv_tableIn (tgt := 62) C.1 C.2.1 dX11_about_1 (by decide) (by decide) rfl (by decide) ?_
    refine z_aload_n C dX11_about_62 rfl (lv_at hl 0 rfl) ?_
    refine cg_12_5 C h (sh_0 hS) cU_X11 (List.mem_cons_of_mem _ wl_X11_43) dX11_about_63 ?_
    obtain ⟨r7, e8, hm⟩ := obd_s hm
    refine c_callViP C hE h (sh_42 hS) rfl (by decide) (kc_L_size l D k z mi aK aV g hS e8) (cwV 0 C.2.2.1 (gS_X11_124 _) rfl rfl rfl hd_Jx4a65c_size_8abf5 ⟨Nat.le_of_ble_eq_true rfl, Nat.le_of_ble_eq_true rfl⟩) rfl hl.1 rfl (Nat.le_of_ble_eq_true rfl) dX11_about_66 ⟨(Nat.le_of_ble_eq_true rfl), (Nat.le_of_ble_eq_true rfl)⟩ (fun H locs h => ?_)
    cases hm
    exact c_iretP C h hr hlk dX11_about_69 rfl
  have hm := ite_f c6 hm
  by_cases c11 : x1 = 3
  · refine x_topi (congrArg Int32.ofInt c11) ?_
    have hm := ite_t c11 hm
    refine lv_tableIn (tgt := 70) C.1 C.2.1 dX11_about_1 (by decide) (by decide) rfl (by decide) ?_
    refine z_aload_n C dX11_about_70 rfl (lv_at hl 0 rfl) ?_
    obtain ⟨r12, e13, hm⟩ := obd_s hm
    refine c_callViP C hE h (sh_0 hS) rfl (by decide) (kc_Cs_tracksWithPattern l D k z mi aK aV g N hS e13) (cwV 0 C.2.2.1 (gS_X11_226 _) rfl rfl rfl hd_X11_tracksWithPattern ⟨Nat.le_of_ble_eq_true rfl, Nat.le_of_ble_eq_true rfl⟩) rfl hl.1 rfl (Nat.le_of_ble_eq_true rfl) dX11_about_71 ⟨(Nat.le_of_ble_eq_true rfl), (Nat.le_of_ble_eq_true rfl)⟩ (fun H locs h => ?_)
    cases hm
    exact c_iretP C h hr hlk dX11_about_74 rfl
  have hm := ite_f c11 hm
  by_cases c16 : x1 = 4
  · refine x_topi (congrArg Int32.ofInt c16) ?_
    have hm := ite_t c16 hm
    refine lv_tableIn (tgt := 75) C.1 C.2.1 dX11_about_1 (by decide) (by decide) rfl (by decide) ?_
    refine z_aload_n C dX11_about_75 rfl (lv_at hl 0 rfl) ?_
    obtain ⟨r17, e18, hm⟩ := obd_s hm
    refine c_callViP C hE h (sh_0 hS) rfl (by decide) (kc_Cs_tracksWaiting l D k z mi aK aV g N hS e18) (cwV 0 C.2.2.1 (gS_X11_229 _) rfl rfl rfl hd_X11_tracksWaiting ⟨Nat.le_of_ble_eq_true rfl, Nat.le_of_ble_eq_true rfl⟩) rfl hl.1 rfl (Nat.le_of_ble_eq_true rfl) dX11_about_76 ⟨(Nat.le_of_ble_eq_true rfl), (Nat.le_of_ble_eq_true rfl)⟩ (fun H locs h => ?_)
    cases hm
    exact c_iretP C h hr hlk dX11_about_79 rfl
  have hm := ite_f c16 hm
  by_cases c21 : x1 = 5
  · refine x_topi (congrArg Int32.ofInt c21) ?_
    have hm := ite_t c21 hm
    refine lv_tableIn (tgt := 80) C.1 C.2.1 dX11_about_1 (by decide) (by decide) rfl (by decide) ?_
    refine z_aload_n C dX11_about_80 rfl (lv_at hl 0 rfl) ?_
    refine cg_12_14 C h (sh_0 hS) cU_X11 (List.mem_cons_of_mem _ wl_X11_82) dX11_about_81 ?_
    cases hm
    exact c_iretP C h hr hlk dX11_about_84 rfl
  have hm := ite_f c21 hm
  by_cases c22 : x1 = 6
  · refine x_topi (congrArg Int32.ofInt c22) ?_
    have hm := ite_t c22 hm
    refine lv_tableIn (tgt := 85) C.1 C.2.1 dX11_about_1 (by decide) (by decide) rfl (by decide) ?_
    refine z_aload_n C dX11_about_85 rfl (lv_at hl 0 rfl) ?_
    refine cg_12_0 C h (sh_0 hS) cU_X11 (List.mem_cons_of_mem _ wl_X11_10) dX11_about_86 ?_
    refine cg_9_1 C h (sh_1 hS) cU_X8 (List.mem_cons_of_mem _ wl_X11_98) dX11_about_89 ?_
    cases hm
    exact c_iretP C h hr hlk dX11_about_92 rfl
  have hm := ite_f c22 hm
  refine lv_tableOut (tgt := 93) C.1 C.2.1 dX11_about_1 (by rw [c32_ti g1]; omega) (by decide) ?_
  refine lv_iconst (v := Int32.ofInt (-1)) C.1 C.2.1 dX11_about_93 (by decide) ?_
  cases hm
  exact c_iretP C h hr hlk dX11_about_94 rfl
end Z_Cs_about
