section Z_Rw_squeeze
variable {p : Program} {l : Launch} {e : Env} {s : State} {m : MethodId} {args : Array Value} {below : List Frame} {meth : Method} {c : Code} {D : va_G} {A : Nat → Prop} {k : Nat → ClassId} {N : Nat} {cd : Cond} {z mi : Nat} {aK aV : Nat → Nat} {g : Nat → Nat} {π : Sh} {φ ψ : Nat}
set_option maxHeartbeats 8000000 in
set_option maxRecDepth 100000 in
theorem kc_Rw_squeeze (l : Launch) (D : va_G) (k : Nat → ClassId) (z mi : Nat) (aK aV : Nat → Nat) (g : Nat → Nat) (N : Nat) {φ ψ : Nat} {rRow : Sh → St → Int → Int → Option St} (hφ : 12 ≤ φ) (hψ : 400 ≤ ψ) (hmrRow : ∀ {π : Sh} {σ : St} {y1 : Int} {y2 : Int} {r : St}, Cl π σ → y1 < nn π → rRow π σ y1 y2 = some r → Cl π r) (hcrRow : ∀ {g : Nat → Nat} {π : Sh} {σ : St} {y1 : Int} {y2 : Int} {r : St}, SHs π → rRow π σ y1 y2 = some r → Mv l yX7_row (.code yX7_row cX7_row 5 none :: cWd) { frames := φ, cells := 0, slots := 0, locals := ψ } [rfv g 9, rfv g y1, .long (Int64.ofInt y2)] D (TYs k) (cW k z g π σ) (XV z mi aK aV (cW k z g π σ)) Unit (fun _ => True) (fun _ => cW k z g π r) 0 0) {π : Sh} {σ : St} {x1 : Int} {x2 : Int} {r : St} (hS : SHs π) (hm : Rw_squeeze N rRow π σ x1 x2 = some r) : Mv l yX7_squeeze (.code yX7_squeeze cX7_squeeze 8 none :: cWd) { frames := φ + 1, cells := 0, slots := 0, locals := ψ + 24 } [rfv g 9, rfv g x1, .long (Int64.ofInt x2)] D (TYs k) (cW k z g π σ) (XV z mi aK aV (cW k z g π σ)) Unit (fun _ => True) (fun _ => cW k z g π r) 0 0 := by
  intro sz
  refine v_met (cc := cX7_squeeze) (maxL := 8) (ret := none) (lv := [(0, rfv g 9), (1, rfv g x1), (2, .long (Int64.ofInt x2))]) (by decide) rfl (by simp [lg_sl, rfv_cat, cat_i, cat_l]) (by simp [lv_args, rfv_cat, cat_i, cat_l]) ?_
  intro p e s m below meth c ls C hE hr hlk hmn hl h
  rw [Rw_squeeze] at hm
  refine z_aload_n C dX7_squeeze_0 rfl (lv_at hl 1 rfl) ?_
  obtain ⟨g1, hm⟩ := grd_s hm
  refine cg_5_0 C h g1 cU_X4 (List.mem_cons_of_mem _ wl_X7_41) dX7_squeeze_1 ?_
  refine z_astore (lv' := [(4, rfv g (fl σ 100 x1)), (0, rfv g 9), (1, rfv g x1), (2, .long (Int64.ofInt x2))]) C dX7_squeeze_4 hl (by decide) rfl (fun ls hl => ?_)
  refine z_aload_n C dX7_squeeze_6 rfl (lv_at hl 1 rfl) ?_
  refine cg_8_0 C h (sh_9 hS) cU_X7 (List.mem_cons_of_mem _ wl_X7_12) dX7_squeeze_7 ?_
  refine cg_2_6 C h (sh_10 hS) cU_X1 (List.mem_cons_of_mem _ wl_X7_28) dX7_squeeze_10 ?_
  refine lv_istore (lv' := [(5, .int (Int32.ofInt (fl σ 46 10))), (4, rfv g (fl σ 100 x1)), (0, rfv g 9), (1, rfv g x1), (2, .long (Int64.ofInt x2))]) C.1 C.2.1 dX7_squeeze_13 hl (by decide) (by simp [rfv_cat, cat_i, cat_l]) (fun ls hl => ?_)
  refine z_aload_n C dX7_squeeze_15 rfl (lv_at hl 2 rfl) ?_
  refine z_aload_n C dX7_squeeze_16 rfl (lv_at hl 3 rfl) ?_
  refine cg_5_1 C h g1 cU_X4 (List.mem_cons_of_mem _ wl_X7_125) dX7_squeeze_17 ?_
  refine lv_iconst (v := Int32.ofInt 0) C.1 C.2.1 dX7_squeeze_20 (by decide) ?_
  obtain ⟨g2, hm⟩ := grd_s hm
  obtain ⟨g3, hm⟩ := grd_s hm
  refine c_qald C h (t := 6) (by decide) rfl g2 g3 dX7_squeeze_21 ?_
  refine lv_lload_n C.1 C.2.1 dX7_squeeze_22 rfl (lv_at hl 4 rfl) ?_
  obtain ⟨r4, e5, hm⟩ := obd_s hm
  refine c_callVvP C hE h (sh_9 hS) rfl (by decide) (hcrRow hS e5) (cwV 2 C.2.2.1 (gS_X7_31 _) rfl rfl rfl hd_X7_row ⟨(by show φ + 1 ≤ φ + 1; omega), (by show 8 + (5 + 11) + ψ ≤ ψ + 24; omega)⟩) rfl hl.1 rfl (Nat.le_of_ble_eq_true rfl) dX7_squeeze_23 ⟨(Nat.le_of_ble_eq_true rfl), (Nat.le_of_ble_eq_true rfl)⟩ (fun H locs h => ?_)
  refine z_aload_n C dX7_squeeze_26 rfl (lv_at hl 3 rfl) ?_
  obtain ⟨r8, e9, hm⟩ := obd_s hm
  refine c_callVlP C hE h g1 rfl (by decide) (kc_Pt_spanUpper l D k z mi aK aV g N hS e9) (cwV 0 C.2.2.1 (gS_X7_203 _) rfl rfl rfl hd_X4_spanUpper ⟨(by show 1 + 1 ≤ φ + 1; omega), (by show 8 + (3 + 11) + 30 ≤ ψ + 24; omega)⟩) rfl hl.1 rfl (Nat.le_of_ble_eq_true rfl) dX7_squeeze_27 ⟨(Nat.le_of_ble_eq_true rfl), (Nat.le_of_ble_eq_true rfl)⟩ (fun H locs h => ?_)
  refine z_aload_n C dX7_squeeze_30 rfl (lv_at hl 3 rfl) ?_
  refine cg_5_2 C h g1 cU_X4 (List.mem_cons_of_mem _ wl_X7_101) dX7_squeeze_31 ?_
  refine z_aload_n C dX7_squeeze_34 rfl (lv_at hl 3 rfl) ?_
  obtain ⟨r12, e13, hm⟩ := obd_s hm
  refine c_callVlP C hE h g1 rfl (by decide) (kc_Pt_spanLower l D k z mi aK aV g N hS e13) (cwV 0 C.2.2.1 (gS_X7_207 _) rfl rfl rfl hd_X4_spanLower ⟨(by show 1 + 1 ≤ φ + 1; omega), (by show 8 + (5 + 11) + 30 ≤ ψ + 24; omega)⟩) rfl hl.1 rfl (Nat.le_of_ble_eq_true rfl) dX7_squeeze_35 ⟨(Nat.le_of_ble_eq_true rfl), (Nat.le_of_ble_eq_true rfl)⟩ (fun H locs h => ?_)
  refine z_aload_n C dX7_squeeze_38 rfl (lv_at hl 3 rfl) ?_
  refine cg_5_1 C h g1 cU_X4 (List.mem_cons_of_mem _ wl_X7_125) dX7_squeeze_39 ?_
  refine lv_iconst (v := Int32.ofInt 0) C.1 C.2.1 dX7_squeeze_42 (by decide) ?_
  obtain ⟨g16, hm⟩ := grd_s hm
  obtain ⟨g17, hm⟩ := grd_s hm
  refine c_qald C h (t := 6) (by decide) rfl g16 g17 dX7_squeeze_43 ?_
  obtain ⟨g18, hm⟩ := grd_s hm
  refine cg_5_2 C h g18 cU_X4 (List.mem_cons_of_mem _ wl_X7_101) dX7_squeeze_44 ?_
  refine z_lmul C dX7_squeeze_47 ?_
  obtain ⟨g19, hm⟩ := grd_s hm
  obtain ⟨g20, hm⟩ := grd_s hm
  obtain ⟨g21, hm⟩ := grd_s hm
  refine z_ldiv C dX7_squeeze_48 g19 g20 g21 ?_
  refine z_lmul C dX7_squeeze_49 ?_
  obtain ⟨v22, e23, hm⟩ := bnd_s hm
  rw [e23]
  refine lv_lstore (lv' := [(6, .long (Int64.ofInt v22)), (5, .int (Int32.ofInt (fl σ 46 10))), (4, rfv g (fl σ 100 x1)), (0, rfv g 9), (1, rfv g x1), (2, .long (Int64.ofInt x2))]) C.1 C.2.1 dX7_squeeze_50 hl (by decide) rfl (fun ls hl => ?_)
  refine z_aload_n C dX7_squeeze_52 rfl (lv_at hl 3 rfl) ?_
  refine cg_8_0 C h (sh_9 hS) cU_X7 (List.mem_cons_of_mem _ wl_X7_12) dX7_squeeze_53 ?_
  refine lv_iload C.1 C.2.1 dX7_squeeze_56 (lv_at hl 1 rfl) ?_
  refine lv_lload C.1 C.2.1 dX7_squeeze_58 (lv_at hl 0 rfl) ?_
  refine z_aload C dX7_squeeze_60 (lv_at hl 2 rfl) ?_
  obtain ⟨g24, hm⟩ := grd_s hm
  refine cg_10_2 C h g24 cU_X9 (List.mem_cons_of_mem _ wl_X7_57) dX7_squeeze_62 ?_
  obtain ⟨g25, hm⟩ := grd_s hm
  refine z_i2l C dX7_squeeze_65 g25 ?_
  refine z_aload_n C dX7_squeeze_66 rfl (lv_at hl 4 rfl) ?_
  refine cg_5_2 C h g1 cU_X4 (List.mem_cons_of_mem _ wl_X7_101) dX7_squeeze_67 ?_
  refine lv_iconst (v := Int32.ofInt 1) C.1 C.2.1 dX7_squeeze_70 (by decide) ?_
  refine z_aload C dX7_squeeze_71 (lv_at hl 2 rfl) ?_
  refine cg_10_3 C h g24 cU_X9 (List.mem_cons_of_mem _ wl_X7_78) dX7_squeeze_73 ?_
  obtain ⟨g26, hm⟩ := grd_s hm
  refine v_max C hl.1 dX7_squeeze_76 (by decide) g26 (List.mem_cons_of_mem _ wx_X7_133) (List.mem_cons_of_mem _ wxs_max) (List.mem_cons_of_mem _ wxc_max) (List.mem_cons_of_mem _ wt_Math) (by show 1 ≤ φ + 1; omega) (by simp [rfv_cat, cat_i, cat_l] <;> omega) (Nat.le_of_ble_eq_true rfl) (Nat.le_of_ble_eq_true rfl) ?_
  obtain ⟨g27, hm⟩ := grd_s hm
  refine z_i2l C dX7_squeeze_79 g27 ?_
  obtain ⟨g28, hm⟩ := grd_s hm
  obtain ⟨g29, hm⟩ := grd_s hm
  obtain ⟨g30, hm⟩ := grd_s hm
  refine z_ldiv C dX7_squeeze_80 g28 g29 g30 ?_
  refine z_lmul C dX7_squeeze_81 ?_
  obtain ⟨r31, e32, hm⟩ := obd_s hm
  refine c_callVvP C hE h (sh_10 hS) rfl (by decide) (kc_Es_scale l D k z mi aK aV g N hS e32) (cwV 3 C.2.2.1 (gS_X7_162 _) rfl rfl rfl hd_X1_scale ⟨(by show 0 + 1 ≤ φ + 1; omega), (by show 8 + (7 + 11) + 0 ≤ ψ + 24; omega)⟩) rfl hl.1 rfl (Nat.le_of_ble_eq_true rfl) dX7_squeeze_82 ⟨(Nat.le_of_ble_eq_true rfl), (Nat.le_of_ble_eq_true rfl)⟩ (fun H locs h => ?_)
  cases hm
  exact c_vretP C h hr hlk dX7_squeeze_85
end Z_Rw_squeeze
section Z_Rw_turn
variable {p : Program} {l : Launch} {e : Env} {s : State} {m : MethodId} {args : Array Value} {below : List Frame} {meth : Method} {c : Code} {D : va_G} {A : Nat → Prop} {k : Nat → ClassId} {N : Nat} {cd : Cond} {z mi : Nat} {aK aV : Nat → Nat} {g : Nat → Nat} {π : Sh} {φ ψ : Nat}
set_option maxHeartbeats 8000000 in
set_option maxRecDepth 100000 in
theorem kc_Rw_turn (l : Launch) (D : va_G) (k : Nat → ClassId) (z mi : Nat) (aK aV : Nat → Nat) (g : Nat → Nat) (N : Nat) {φ ψ : Nat} {rRow : Sh → St → Int → Int → Option St} (hφ : 12 ≤ φ) (hψ : 400 ≤ ψ) (hmrRow : ∀ {π : Sh} {σ : St} {y1 : Int} {y2 : Int} {r : St}, Cl π σ → y1 < nn π → rRow π σ y1 y2 = some r → Cl π r) (hcrRow : ∀ {g : Nat → Nat} {π : Sh} {σ : St} {y1 : Int} {y2 : Int} {r : St}, SHs π → rRow π σ y1 y2 = some r → Mv l yX7_row (.code yX7_row cX7_row 5 none :: cWd) { frames := φ, cells := 0, slots := 0, locals := ψ } [rfv g 9, rfv g y1, .long (Int64.ofInt y2)] D (TYs k) (cW k z g π σ) (XV z mi aK aV (cW k z g π σ)) Unit (fun _ => True) (fun _ => cW k z g π r) 0 0) {π : Sh} {σ : St} {x1 : Int} {x2 : Int} {r : St} (hS : SHs π) (hm : Rw_turn N rRow π σ x1 x2 = some r) : Mv l yX7_turn (.code yX7_turn cX7_turn 8 none :: cWd) { frames := φ + 1, cells := 0, slots := 0, locals := ψ + 24 } [rfv g 9, rfv g x1, .long (Int64.ofInt x2)] D (TYs k) (cW k z g π σ) (XV z mi aK aV (cW k z g π σ)) Unit (fun _ => True) (fun _ => cW k z g π r) 0 0 := by
  intro sz
  refine v_met (cc := cX7_turn) (maxL := 8) (ret := none) (lv := [(0, rfv g 9), (1, rfv g x1), (2, .long (Int64.ofInt x2))]) (by decide) rfl (by simp [lg_sl, rfv_cat, cat_i, cat_l]) (by simp [lv_args, rfv_cat, cat_i, cat_l]) ?_
  intro p e s m below meth c ls C hE hr hlk hmn hl h
  rw [Rw_turn] at hm
  refine lv_iconst (v := Int32.ofInt 1) C.1 C.2.1 dX7_turn_0 (by decide) ?_
  refine z_aload_n C dX7_turn_1 rfl (lv_at hl 1 rfl) ?_
  obtain ⟨g1, hm⟩ := grd_s hm
  refine cg_5_0 C h g1 cU_X4 (List.mem_cons_of_mem _ wl_X7_41) dX7_turn_2 ?_
  obtain ⟨g2, hm⟩ := grd_s hm
  refine cg_10_2 C h g2 cU_X9 (List.mem_cons_of_mem _ wl_X7_57) dX7_turn_5 ?_
  obtain ⟨g3, hm⟩ := grd_s hm
  refine v_max C hl.1 dX7_turn_8 (by decide) g3 (List.mem_cons_of_mem _ wx_X7_133) (List.mem_cons_of_mem _ wxs_max) (List.mem_cons_of_mem _ wxc_max) (List.mem_cons_of_mem _ wt_Math) (by show 1 ≤ φ + 1; omega) (by simp [rfv_cat, cat_i, cat_l] <;> omega) (Nat.le_of_ble_eq_true rfl) (Nat.le_of_ble_eq_true rfl) ?_
  obtain ⟨g4, hm⟩ := grd_s hm
  refine z_i2l C dX7_turn_11 g4 ?_
  obtain ⟨v5, e6, hm⟩ := bnd_s hm
  rw [e6]
  refine lv_lstore (lv' := [(4, .long (Int64.ofInt v5)), (0, rfv g 9), (1, rfv g x1), (2, .long (Int64.ofInt x2))]) C.1 C.2.1 dX7_turn_12 hl (by decide) rfl (fun ls hl => ?_)
  refine z_aload_n C dX7_turn_14 rfl (lv_at hl 2 rfl) ?_
  refine lv_lload_n C.1 C.2.1 dX7_turn_15 rfl (lv_at hl 3 rfl) ?_
  refine lv_lload C.1 C.2.1 dX7_turn_16 (lv_at hl 0 rfl) ?_
  obtain ⟨r7, e8, hm⟩ := obd_s hm
  refine v_callSl C h (kc_M_floorMod l D k N x2 v5 r7 e8) (v_cwS 2 C.2.2.1 (gC_J9_floorMod_f86c9 _) rfl rfl rfl (C.2.2.1 _ (List.mem_cons_of_mem _ wt_J9)) (C.2.2.1 _ (List.mem_cons_of_mem _ wm_X7_88)) (C.2.2.1 _ (List.mem_cons_of_mem _ ws_J9_floorMod_f86c9)) hdS_J9_floorMod_f86c9 ⟨(by show 0 + 1 ≤ φ + 1; omega), (by show 8 + (6 + 11) + 0 ≤ ψ + 24; omega)⟩) rfl hl.1 rfl (by simp [rfv_cat, cat_i, cat_l]) dX7_turn_18 ⟨(Nat.le_of_ble_eq_true rfl), (Nat.le_of_ble_eq_true rfl)⟩ (fun H locs h => ?_)
  obtain ⟨r9, e10, hm⟩ := obd_s hm
  refine c_callSqP C hE h (kc_Rw_partAt l D k z mi aK aV g N hS e10) (v_cwS 2 C.2.2.1 (gC_X7_partAt _) rfl rfl rfl (C.2.2.1 _ (List.mem_cons_of_mem _ wt_X7)) (C.2.2.1 _ (List.mem_cons_of_mem _ wm_X7_158)) (C.2.2.1 _ (List.mem_cons_of_mem _ ws_X7_partAt)) hdS_X7_partAt ⟨(by show 0 + 1 ≤ φ + 1; omega), (by show 8 + (6 + 11) + 0 ≤ ψ + 24; omega)⟩) rfl hl.1 rfl (Nat.le_of_ble_eq_true rfl) dX7_turn_21 ⟨(Nat.le_of_ble_eq_true rfl), (Nat.le_of_ble_eq_true rfl)⟩ (fun H locs h => ?_)
  refine z_astore (lv' := [(6, rfv g r9.2), (4, .long (Int64.ofInt v5)), (0, rfv g 9), (1, rfv g x1), (2, .long (Int64.ofInt x2))]) C dX7_turn_24 hl (by decide) rfl (fun ls hl => ?_)
  refine z_aload_n C dX7_turn_26 rfl (lv_at hl 2 rfl) ?_
  refine cg_8_0 C h (sh_9 hS) cU_X7 (List.mem_cons_of_mem _ wl_X7_12) dX7_turn_27 ?_
  refine cg_2_6 C h (sh_10 hS) cU_X1 (List.mem_cons_of_mem _ wl_X7_28) dX7_turn_30 ?_
  refine lv_istore (lv' := [(7, .int (Int32.ofInt (fl r9.1 46 10))), (6, rfv g r9.2), (4, .long (Int64.ofInt v5)), (0, rfv g 9), (1, rfv g x1), (2, .long (Int64.ofInt x2))]) C.1 C.2.1 dX7_turn_33 hl (by decide) (by simp [rfv_cat, cat_i, cat_l]) (fun ls hl => ?_)
  refine z_aload_n C dX7_turn_35 rfl (lv_at hl 3 rfl) ?_
  refine z_aload C dX7_turn_36 (lv_at hl 1 rfl) ?_
  refine lv_lload_n C.1 C.2.1 dX7_turn_38 rfl (lv_at hl 5 rfl) ?_
  refine lv_lload C.1 C.2.1 dX7_turn_39 (lv_at hl 2 rfl) ?_
  obtain ⟨r13, e14, hm⟩ := obd_s hm
  refine v_callSl C h (kc_M_floorDiv l D k N x2 v5 r13 e14) (v_cwS 2 C.2.2.1 (gC_J9_floorDiv_f86c9 _) rfl rfl rfl (C.2.2.1 _ (List.mem_cons_of_mem _ wt_J9)) (C.2.2.1 _ (List.mem_cons_of_mem _ wm_X7_22)) (C.2.2.1 _ (List.mem_cons_of_mem _ ws_J9_floorDiv_f86c9)) hdS_J9_floorDiv_f86c9 ⟨(by show 0 + 1 ≤ φ + 1; omega), (by show 8 + (6 + 11) + 0 ≤ ψ + 24; omega)⟩) rfl hl.1 rfl (by simp [rfv_cat, cat_i, cat_l]) dX7_turn_41 ⟨(Nat.le_of_ble_eq_true rfl), (Nat.le_of_ble_eq_true rfl)⟩ (fun H locs h => ?_)
  obtain ⟨r15, e16, hm⟩ := obd_s hm
  refine c_callVvP C hE h (sh_9 hS) rfl (by decide) (hcrRow hS e16) (cwV 2 C.2.2.1 (gS_X7_31 _) rfl rfl rfl hd_X7_row ⟨(by show φ + 1 ≤ φ + 1; omega), (by show 8 + (5 + 11) + ψ ≤ ψ + 24; omega)⟩) rfl hl.1 rfl (Nat.le_of_ble_eq_true rfl) dX7_turn_44 ⟨(Nat.le_of_ble_eq_true rfl), (Nat.le_of_ble_eq_true rfl)⟩ (fun H locs h => ?_)
  refine z_aload_n C dX7_turn_47 rfl (lv_at hl 3 rfl) ?_
  refine cg_8_0 C h (sh_9 hS) cU_X7 (List.mem_cons_of_mem _ wl_X7_12) dX7_turn_48 ?_
  refine lv_iload C.1 C.2.1 dX7_turn_51 (lv_at hl 0 rfl) ?_
  refine z_aload_n C dX7_turn_53 rfl (lv_at hl 4 rfl) ?_
  refine cg_5_2 C h g1 cU_X4 (List.mem_cons_of_mem _ wl_X7_101) dX7_turn_54 ?_
  refine z_aload C dX7_turn_57 (lv_at hl 1 rfl) ?_
  obtain ⟨g19, hm⟩ := grd_s hm
  refine cg_5_2 C h g19 cU_X4 (List.mem_cons_of_mem _ wl_X7_101) dX7_turn_59 ?_
  obtain ⟨g20, hm⟩ := grd_s hm
  obtain ⟨g21, hm⟩ := grd_s hm
  obtain ⟨g22, hm⟩ := grd_s hm
  refine z_ldiv C dX7_turn_62 g20 g21 g22 ?_
  refine lv_lconst (v := Int64.ofInt 0) C.1 C.2.1 dX7_turn_63 (by decide) ?_
  obtain ⟨r23, e24, hm⟩ := obd_s hm
  refine c_callVvP C hE h (sh_10 hS) rfl (by decide) (kc_Es_scale l D k z mi aK aV g N hS e24) (cwV 3 C.2.2.1 (gS_X7_162 _) rfl rfl rfl hd_X1_scale ⟨(by show 0 + 1 ≤ φ + 1; omega), (by show 8 + (7 + 11) + 0 ≤ ψ + 24; omega)⟩) rfl hl.1 rfl (Nat.le_of_ble_eq_true rfl) dX7_turn_64 ⟨(Nat.le_of_ble_eq_true rfl), (Nat.le_of_ble_eq_true rfl)⟩ (fun H locs h => ?_)
  cases hm
  exact c_vretP C h hr hlk dX7_turn_67
end Z_Rw_turn
section Z_Rw_row
variable {p : Program} {l : Launch} {e : Env} {s : State} {m : MethodId} {args : Array Value} {below : List Frame} {meth : Method} {c : Code} {D : va_G} {A : Nat → Prop} {k : Nat → ClassId} {N : Nat} {cd : Cond} {z mi : Nat} {aK aV : Nat → Nat} {g : Nat → Nat} {π : Sh} {φ ψ : Nat}
set_option maxHeartbeats 8000000 in
set_option maxRecDepth 100000 in
theorem kl_Rw_row_280 {r : St} (C : Cx p s m args c cX7_row RX7 (cd :: cWd) D (TYs k) 5) (hr : meth.sig.returnType = none) (hlk : meth.locks = false) (hE : Ev z mi aK aV A s s.heap) (hS : SHs π) {rRow : Sh → St → Int → Int → Option St} (hφ : 12 ≤ φ) (hψ : 400 ≤ ψ) (hmrRow : ∀ {π : Sh} {σ : St} {y1 : Int} {y2 : Int} {r : St}, Cl π σ → y1 < nn π → rRow π σ y1 y2 = some r → Cl π r) (hcrRow : ∀ {g : Nat → Nat} {π : Sh} {σ : St} {y1 : Int} {y2 : Int} {r : St}, SHs π → rRow π σ y1 y2 = some r → Mv l yX7_row (.code yX7_row cX7_row 5 none :: cWd) { frames := φ, cells := 0, slots := 0, locals := ψ } [rfv g 9, rfv g y1, .long (Int64.ofInt y2)] D (TYs k) (cW k z g π σ) (XV z mi aK aV (cW k z g π σ)) Unit (fun _ => True) (fun _ => cW k z g π r) 0 0)  {ls : Array Slot} {H : Heap} {locs : List Loc} {σ : St} {s0 : Int} {s1 : Int} {s2 : Int}  (hl : lv_has ls 5 []) (h : Hp D A s.heap H locs (cW k z g π σ)) (hm : Rw_row_280 N rRow π σ s0 s1 s2 = some r) : W p l e { frames := φ + 6, cells := 0, slots := 0, locals := ψ + 300 } s m args below meth c H locs 0 0 (MQ below (va_Qv (fun (_ : Unit) => True) (fun _ t => PostW D (TYs k) A (cW k z g π r) t) A) args s 0 0 A) (F0 m 280 ls [.int (Int32.ofInt s0), .long (Int64.ofInt s1), rfv g s2, rfv g 9]) := by
  rw [Rw_row_280] at hm
  obtain ⟨r148, e149, hm⟩ := obd_s hm
  refine c_callVvP C hE h (sh_9 hS) rfl (by decide) (kc_Rw_either l D k z mi aK aV g N hφ hψ hmrRow hcrRow hS e149) (cwV 3 C.2.2.1 (gS_X7_91 _) rfl rfl rfl hd_X7_either ⟨(by show φ + 1 + 1 ≤ φ + 6; omega), (by show 8 + (7 + 11) + (ψ + 24) ≤ ψ + 300; omega)⟩) rfl hl.1 rfl (Nat.le_of_ble_eq_true rfl) dX7_row_280 ⟨(Nat.le_of_ble_eq_true rfl), (Nat.le_of_ble_eq_true rfl)⟩ (fun H locs h => ?_)
  refine lv_goto (tgt := 481) C.1 C.2.1 dX7_row_283 (by decide) ?_
  cases hm
  exact c_vretP C h hr hlk dX7_row_481
set_option maxHeartbeats 8000000 in
set_option maxRecDepth 100000 in
theorem kl_Rw_row_314 {r : St} (C : Cx p s m args c cX7_row RX7 (cd :: cWd) D (TYs k) 5) (hr : meth.sig.returnType = none) (hlk : meth.locks = false) (hE : Ev z mi aK aV A s s.heap) (hS : SHs π) {rRow : Sh → St → Int → Int → Option St} (hφ : 12 ≤ φ) (hψ : 400 ≤ ψ) (hmrRow : ∀ {π : Sh} {σ : St} {y1 : Int} {y2 : Int} {r : St}, Cl π σ → y1 < nn π → rRow π σ y1 y2 = some r → Cl π r) (hcrRow : ∀ {g : Nat → Nat} {π : Sh} {σ : St} {y1 : Int} {y2 : Int} {r : St}, SHs π → rRow π σ y1 y2 = some r → Mv l yX7_row (.code yX7_row cX7_row 5 none :: cWd) { frames := φ, cells := 0, slots := 0, locals := ψ } [rfv g 9, rfv g y1, .long (Int64.ofInt y2)] D (TYs k) (cW k z g π σ) (XV z mi aK aV (cW k z g π σ)) Unit (fun _ => True) (fun _ => cW k z g π r) 0 0)  {ls : Array Slot} {H : Heap} {locs : List Loc} {σ : St} {s0 : Int} {s1 : Int} {s2 : Int}  (hl : lv_has ls 5 []) (h : Hp D A s.heap H locs (cW k z g π σ)) (hm : Rw_row_314 N rRow π σ s0 s1 s2 = some r) : W p l e { frames := φ + 6, cells := 0, slots := 0, locals := ψ + 300 } s m args below meth c H locs 0 0 (MQ below (va_Qv (fun (_ : Unit) => True) (fun _ t => PostW D (TYs k) A (cW k z g π r) t) A) args s 0 0 A) (F0 m 314 ls [.int (Int32.ofInt s0), .long (Int64.ofInt s1), rfv g s2, rfv g 9]) := by
  rw [Rw_row_314] at hm
  obtain ⟨r152, e153, hm⟩ := obd_s hm
  refine c_callVvP C hE h (sh_9 hS) rfl (by decide) (kc_Rw_either l D k z mi aK aV g N hφ hψ hmrRow hcrRow hS e153) (cwV 3 C.2.2.1 (gS_X7_91 _) rfl rfl rfl hd_X7_either ⟨(by show φ + 1 + 1 ≤ φ + 6; omega), (by show 8 + (7 + 11) + (ψ + 24) ≤ ψ + 300; omega)⟩) rfl hl.1 rfl (Nat.le_of_ble_eq_true rfl) dX7_row_314 ⟨(Nat.le_of_ble_eq_true rfl), (Nat.le_of_ble_eq_true rfl)⟩ (fun H locs h => ?_)
  refine lv_goto (tgt := 481) C.1 C.2.1 dX7_row_317 (by decide) ?_
  cases hm
  exact c_vretP C h hr hlk dX7_row_481
set_option maxHeartbeats 8000000 in
set_option maxRecDepth 100000 in
theorem kc_Rw_row (l : Launch) (D : va_G) (k : Nat → ClassId) (z mi : Nat) (aK aV : Nat → Nat) (g : Nat → Nat) (N : Nat) {φ ψ : Nat} {rRow : Sh → St → Int → Int → Option St} (hφ : 12 ≤ φ) (hψ : 400 ≤ ψ) (hmrRow : ∀ {π : Sh} {σ : St} {y1 : Int} {y2 : Int} {r : St}, Cl π σ → y1 < nn π → rRow π σ y1 y2 = some r → Cl π r) (hcrRow : ∀ {g : Nat → Nat} {π : Sh} {σ : St} {y1 : Int} {y2 : Int} {r : St}, SHs π → rRow π σ y1 y2 = some r → Mv l yX7_row (.code yX7_row cX7_row 5 none :: cWd) { frames := φ, cells := 0, slots := 0, locals := ψ } [rfv g 9, rfv g y1, .long (Int64.ofInt y2)] D (TYs k) (cW k z g π σ) (XV z mi aK aV (cW k z g π σ)) Unit (fun _ => True) (fun _ => cW k z g π r) 0 0) {π : Sh} {σ : St} {x1 : Int} {x2 : Int} {r : St} (hS : SHs π) (hm : Rw_row N rRow π σ x1 x2 = some r) : Mv l yX7_row (.code yX7_row cX7_row 5 none :: cWd) { frames := φ + 6, cells := 0, slots := 0, locals := ψ + 300 } [rfv g 9, rfv g x1, .long (Int64.ofInt x2)] D (TYs k) (cW k z g π σ) (XV z mi aK aV (cW k z g π σ)) Unit (fun _ => True) (fun _ => cW k z g π r) 0 0 := by
  intro sz
  refine v_met (cc := cX7_row) (maxL := 5) (ret := none) (lv := [(0, rfv g 9), (1, rfv g x1), (2, .long (Int64.ofInt x2))]) (by decide) rfl (by simp [lg_sl, rfv_cat, cat_i, cat_l]) (by simp [lv_args, rfv_cat, cat_i, cat_l]) ?_
  intro p e s m below meth c ls C hE hr hlk hmn hl h
  rw [Rw_row] at hm
  refine z_aload_n C dX7_row_0 rfl (lv_at hl 1 rfl) ?_
  obtain ⟨g1, hm⟩ := grd_s hm
  refine cg_5_3 C h g1 cU_X4 (List.mem_cons_of_mem _ wl_X7_35) dX7_row_1 ?_
  refine lv_lconst (v := Int64.ofInt 0) C.1 C.2.1 dX7_row_4 (by decide) ?_
  obtain ⟨g2, hm⟩ := grd_s hm
  refine W.lcmp C.1 C.2.1 dX7_row_5 ?_
  refine z_lcmp_ne (tgt := 10) C dX7_row_6 (by decide) g2 (by decide) (fun c3 => ?_) (fun c3 => ?_)
  · have hm := ite_f c3 hm
    refine z_aload_n C dX7_row_10 rfl (lv_at hl 1 rfl) ?_
    refine cg_5_0 C h g1 cU_X4 (List.mem_cons_of_mem _ wl_X7_41) dX7_row_11 ?_
    refine z_astore (lv' := [(4, rfv g (fl σ 100 x1)), (0, rfv g 9), (1, rfv g x1), (2, .long (Int64.ofInt x2))]) C dX7_row_14 hl (by decide) rfl (fun ls hl => ?_)
    refine z_aload C dX7_row_16 (lv_at hl 0 rfl) ?_
    obtain ⟨g4, hm⟩ := grd_s hm
    refine cg_10_0 C h g4 cU_X9 (List.mem_cons_of_mem _ wl_X7_45) dX7_row_18 ?_
    obtain ⟨g5, hm⟩ := grd_s hm
    by_cases c6 : (fl σ 200 (fl σ 100 x1)) = 1
    · refine x_topi (congrArg Int32.ofInt c6) ?_
      have hm := ite_t c6 hm
      refine lv_tableIn (tgt := 132) C.1 C.2.1 dX7_row_21 (by decide) (by decide) rfl (by decide) ?_
      refine z_aload_n C dX7_row_132 rfl (lv_at hl 1 rfl) ?_
      refine cg_8_0 C h (sh_9 hS) cU_X7 (List.mem_cons_of_mem _ wl_X7_12) dX7_row_133 ?_
      refine lv_lconst (v := Int64.ofInt 0) C.1 C.2.1 dX7_row_136 (by decide) ?_
      refine lv_lconst (v := Int64.ofInt 1) C.1 C.2.1 dX7_row_137 (by decide) ?_
      refine z_aload C dX7_row_138 (lv_at hl 0 rfl) ?_
      refine cg_10_7 C h g4 cU_X9 (List.mem_cons_of_mem _ wl_X7_50) dX7_row_140 ?_
      refine lv_iconst (v := Int32.ofInt 0) C.1 C.2.1 dX7_row_143 (by decide) ?_
      refine lv_iconst (v := Int32.ofInt 0) C.1 C.2.1 dX7_row_144 (by decide) ?_
      obtain ⟨r7, e8, hm⟩ := obd_s hm
      refine c_callVvP C hE h (sh_10 hS) rfl (by decide) (kc_Es_push l D k z mi aK aV g N hS e8) (cwV 5 C.2.2.1 (gS_X7_53 _) rfl rfl rfl hd_X1_push ⟨(by show 0 + 1 ≤ φ + 6; omega), (by show 8 + (9 + 11) + 0 ≤ ψ + 300; omega)⟩) rfl hl.1 rfl (Nat.le_of_ble_eq_true rfl) dX7_row_145 ⟨(Nat.le_of_ble_eq_true rfl), (Nat.le_of_ble_eq_true rfl)⟩ (fun H locs h => ?_)
      refine lv_goto (tgt := 481) C.1 C.2.1 dX7_row_148 (by decide) ?_
      cases hm
      exact c_vretP C h hr hlk dX7_row_481
    have hm := ite_f c6 hm
    by_cases c11 : (fl σ 200 (fl σ 100 x1)) = 2
    · refine x_topi (congrArg Int32.ofInt c11) ?_
      have hm := ite_t c11 hm
      refine lv_tableIn (tgt := 151) C.1 C.2.1 dX7_row_21 (by decide) (by decide) rfl (by decide) ?_
      refine z_aload_n C dX7_row_151 rfl (lv_at hl 1 rfl) ?_
      refine cg_8_0 C h (sh_9 hS) cU_X7 (List.mem_cons_of_mem _ wl_X7_12) dX7_row_152 ?_
      refine lv_lconst (v := Int64.ofInt 0) C.1 C.2.1 dX7_row_155 (by decide) ?_
      refine lv_lconst (v := Int64.ofInt 1) C.1 C.2.1 dX7_row_156 (by decide) ?_
      refine lv_lconst (v := Int64.ofInt 0) C.1 C.2.1 dX7_row_157 (by decide) ?_
      refine z_aload C dX7_row_158 (lv_at hl 0 rfl) ?_
      refine cg_10_2 C h g4 cU_X9 (List.mem_cons_of_mem _ wl_X7_57) dX7_row_160 ?_
      refine lv_iconst (v := Int32.ofInt 1) C.1 C.2.1 dX7_row_163 (by decide) ?_
      obtain ⟨r12, e13, hm⟩ := obd_s hm
      refine c_callVvP C hE h (sh_10 hS) rfl (by decide) (kc_Es_push l D k z mi aK aV g N hS e13) (cwV 5 C.2.2.1 (gS_X7_53 _) rfl rfl rfl hd_X1_push ⟨(by show 0 + 1 ≤ φ + 6; omega), (by show 8 + (9 + 11) + 0 ≤ ψ + 300; omega)⟩) rfl hl.1 rfl (Nat.le_of_ble_eq_true rfl) dX7_row_164 ⟨(Nat.le_of_ble_eq_true rfl), (Nat.le_of_ble_eq_true rfl)⟩ (fun H locs h => ?_)
      refine lv_goto (tgt := 481) C.1 C.2.1 dX7_row_167 (by decide) ?_
      cases hm
      exact c_vretP C h hr hlk dX7_row_481
    have hm := ite_f c11 hm
    by_cases c16 : (fl σ 200 (fl σ 100 x1)) = 3
    · refine x_topi (congrArg Int32.ofInt c16) ?_
      have hm := ite_t c16 hm
      refine lv_tableIn (tgt := 170) C.1 C.2.1 dX7_row_21 (by decide) (by decide) rfl (by decide) ?_
      refine lv_goto (tgt := 481) C.1 C.2.1 dX7_row_170 (by decide) ?_
      cases hm
      exact c_vretP C h hr hlk dX7_row_481
    have hm := ite_f c16 hm
    by_cases c17 : (fl σ 200 (fl σ 100 x1)) = 4
    · refine x_topi (congrArg Int32.ofInt c17) ?_
      have hm := ite_t c17 hm
      refine lv_tableIn (tgt := 173) C.1 C.2.1 dX7_row_21 (by decide) (by decide) rfl (by decide) ?_
      refine z_aload_n C dX7_row_173 rfl (lv_at hl 1 rfl) ?_
      refine z_aload_n C dX7_row_174 rfl (lv_at hl 2 rfl) ?_
      refine lv_lload_n C.1 C.2.1 dX7_row_175 rfl (lv_at hl 3 rfl) ?_
      obtain ⟨r18, e19, hm⟩ := obd_s hm
      refine c_callVvP C hE h (sh_9 hS) rfl (by decide) (kc_Rw_sequence l D k z mi aK aV g N hφ hψ hmrRow hcrRow hS e19) (cwV 2 C.2.2.1 (gS_X7_60 _) rfl rfl rfl hd_X7_sequence ⟨(by show φ + 1 + 1 ≤ φ + 6; omega), (by show 8 + (18 + 11) + (ψ + 24) ≤ ψ + 300; omega)⟩) rfl hl.1 rfl (Nat.le_of_ble_eq_true rfl) dX7_row_176 ⟨(Nat.le_of_ble_eq_true rfl), (Nat.le_of_ble_eq_true rfl)⟩ (fun H locs h => ?_)
      refine lv_goto (tgt := 481) C.1 C.2.1 dX7_row_179 (by decide) ?_
      cases hm
      exact c_vretP C h hr hlk dX7_row_481
    have hm := ite_f c17 hm
    by_cases c22 : (fl σ 200 (fl σ 100 x1)) = 5
    · refine x_topi (congrArg Int32.ofInt c22) ?_
      have hm := ite_t c22 hm
      refine lv_tableIn (tgt := 182) C.1 C.2.1 dX7_row_21 (by decide) (by decide) rfl (by decide) ?_
      refine z_aload_n C dX7_row_182 rfl (lv_at hl 1 rfl) ?_
      refine z_aload_n C dX7_row_183 rfl (lv_at hl 2 rfl) ?_
      refine lv_lload_n C.1 C.2.1 dX7_row_184 rfl (lv_at hl 3 rfl) ?_
      obtain ⟨r23, e24, hm⟩ := obd_s hm
      refine c_callVvP C hE h (sh_9 hS) rfl (by decide) (kc_Rw_turn l D k z mi aK aV g N hφ hψ hmrRow hcrRow hS e24) (cwV 2 C.2.2.1 (gS_X7_63 _) rfl rfl rfl hd_X7_turn ⟨(by show φ + 1 + 1 ≤ φ + 6; omega), (by show 8 + (8 + 11) + (ψ + 24) ≤ ψ + 300; omega)⟩) rfl hl.1 rfl (Nat.le_of_ble_eq_true rfl) dX7_row_185 ⟨(Nat.le_of_ble_eq_true rfl), (Nat.le_of_ble_eq_true rfl)⟩ (fun H locs h => ?_)
      refine lv_goto (tgt := 481) C.1 C.2.1 dX7_row_188 (by decide) ?_
      cases hm
      exact c_vretP C h hr hlk dX7_row_481
    have hm := ite_f c22 hm
    by_cases c27 : (fl σ 200 (fl σ 100 x1)) = 6
    · refine x_topi (congrArg Int32.ofInt c27) ?_
      have hm := ite_t c27 hm
      refine lv_tableIn (tgt := 191) C.1 C.2.1 dX7_row_21 (by decide) (by decide) rfl (by decide) ?_
      refine z_aload_n C dX7_row_191 rfl (lv_at hl 1 rfl) ?_
      refine z_aload_n C dX7_row_192 rfl (lv_at hl 2 rfl) ?_
      refine lv_lload_n C.1 C.2.1 dX7_row_193 rfl (lv_at hl 3 rfl) ?_
      obtain ⟨r28, e29, hm⟩ := obd_s hm
      refine c_callVvP C hE h (sh_9 hS) rfl (by decide) (kc_Rw_poly l D k z mi aK aV g N hφ hψ hmrRow hcrRow hS e29) (cwV 2 C.2.2.1 (gS_X7_66 _) rfl rfl rfl hd_X7_poly ⟨(by show φ + 1 + 1 ≤ φ + 6; omega), (by show 8 + (16 + 11) + (ψ + 24) ≤ ψ + 300; omega)⟩) rfl hl.1 rfl (Nat.le_of_ble_eq_true rfl) dX7_row_194 ⟨(Nat.le_of_ble_eq_true rfl), (Nat.le_of_ble_eq_true rfl)⟩ (fun H locs h => ?_)
      refine lv_goto (tgt := 481) C.1 C.2.1 dX7_row_197 (by decide) ?_
      cases hm
      exact c_vretP C h hr hlk dX7_row_481
    have hm := ite_f c27 hm
    by_cases c32 : (fl σ 200 (fl σ 100 x1)) = 7
    · refine x_topi (congrArg Int32.ofInt c32) ?_
      have hm := ite_t c32 hm
      refine lv_tableIn (tgt := 200) C.1 C.2.1 dX7_row_21 (by decide) (by decide) rfl (by decide) ?_
      refine z_aload_n C dX7_row_200 rfl (lv_at hl 1 rfl) ?_
      refine z_aload_n C dX7_row_201 rfl (lv_at hl 2 rfl) ?_
      refine lv_lload_n C.1 C.2.1 dX7_row_202 rfl (lv_at hl 3 rfl) ?_
      obtain ⟨r33, e34, hm⟩ := obd_s hm
      refine c_callVvP C hE h (sh_9 hS) rfl (by decide) (kc_Rw_euclid l D k z mi aK aV g N hφ hψ hmrRow hcrRow hS e34) (cwV 2 C.2.2.1 (gS_X7_69 _) rfl rfl rfl hd_X7_euclid ⟨(by show φ + 1 + 1 ≤ φ + 6; omega), (by show 8 + (12 + 11) + (ψ + 24) ≤ ψ + 300; omega)⟩) rfl hl.1 rfl (Nat.le_of_ble_eq_true rfl) dX7_row_203 ⟨(Nat.le_of_ble_eq_true rfl), (Nat.le_of_ble_eq_true rfl)⟩ (fun H locs h => ?_)
      refine lv_goto (tgt := 481) C.1 C.2.1 dX7_row_206 (by decide) ?_
      cases hm
      exact c_vretP C h hr hlk dX7_row_481
    have hm := ite_f c32 hm
    by_cases c37 : (fl σ 200 (fl σ 100 x1)) = 8
    · refine x_topi (congrArg Int32.ofInt c37) ?_
      have hm := ite_t c37 hm
      refine lv_tableIn (tgt := 209) C.1 C.2.1 dX7_row_21 (by decide) (by decide) rfl (by decide) ?_
      refine z_aload_n C dX7_row_209 rfl (lv_at hl 1 rfl) ?_
      refine z_aload_n C dX7_row_210 rfl (lv_at hl 2 rfl) ?_
      refine lv_lload_n C.1 C.2.1 dX7_row_211 rfl (lv_at hl 3 rfl) ?_
      obtain ⟨r38, e39, hm⟩ := obd_s hm
      refine c_callVvP C hE h (sh_9 hS) rfl (by decide) (kc_Rw_layer l D k z mi aK aV g N hφ hψ hmrRow hcrRow hS e39) (cwV 2 C.2.2.1 (gS_X7_72 _) rfl rfl rfl hd_X7_layer ⟨(by show φ + 1 + 1 ≤ φ + 6; omega), (by show 8 + (7 + 11) + (ψ + 24) ≤ ψ + 300; omega)⟩) rfl hl.1 rfl (Nat.le_of_ble_eq_true rfl) dX7_row_212 ⟨(Nat.le_of_ble_eq_true rfl), (Nat.le_of_ble_eq_true rfl)⟩ (fun H locs h => ?_)
      refine lv_goto (tgt := 481) C.1 C.2.1 dX7_row_215 (by decide) ?_
      cases hm
      exact c_vretP C h hr hlk dX7_row_481
    have hm := ite_f c37 hm
    by_cases c42 : (fl σ 200 (fl σ 100 x1)) = 9
    · refine x_topi (congrArg Int32.ofInt c42) ?_
      have hm := ite_t c42 hm
      refine lv_tableIn (tgt := 218) C.1 C.2.1 dX7_row_21 (by decide) (by decide) rfl (by decide) ?_
      refine z_aload_n C dX7_row_218 rfl (lv_at hl 1 rfl) ?_
      refine z_aload_n C dX7_row_219 rfl (lv_at hl 2 rfl) ?_
      refine lv_lload_n C.1 C.2.1 dX7_row_220 rfl (lv_at hl 3 rfl) ?_
      obtain ⟨r43, e44, hm⟩ := obd_s hm
      refine c_callVvP C hE h (sh_9 hS) rfl (by decide) (kc_Rw_fast l D k z mi aK aV g N hφ hψ hmrRow hcrRow hS e44) (cwV 2 C.2.2.1 (gS_X7_75 _) rfl rfl rfl hd_X7_fast ⟨(by show φ + 1 + 1 ≤ φ + 6; omega), (by show 8 + (14 + 11) + (ψ + 24) ≤ ψ + 300; omega)⟩) rfl hl.1 rfl (Nat.le_of_ble_eq_true rfl) dX7_row_221 ⟨(Nat.le_of_ble_eq_true rfl), (Nat.le_of_ble_eq_true rfl)⟩ (fun H locs h => ?_)
      refine lv_goto (tgt := 481) C.1 C.2.1 dX7_row_224 (by decide) ?_
      cases hm
      exact c_vretP C h hr hlk dX7_row_481
    have hm := ite_f c42 hm
    by_cases c47 : (fl σ 200 (fl σ 100 x1)) = 10
    · refine x_topi (congrArg Int32.ofInt c47) ?_
      have hm := ite_t c47 hm
      refine lv_tableIn (tgt := 227) C.1 C.2.1 dX7_row_21 (by decide) (by decide) rfl (by decide) ?_
      refine z_aload_n C dX7_row_227 rfl (lv_at hl 1 rfl) ?_
      refine z_aload_n C dX7_row_228 rfl (lv_at hl 2 rfl) ?_
      refine lv_lload_n C.1 C.2.1 dX7_row_229 rfl (lv_at hl 3 rfl) ?_
      refine z_aload C dX7_row_230 (lv_at hl 0 rfl) ?_
      refine cg_10_2 C h g4 cU_X9 (List.mem_cons_of_mem _ wl_X7_57) dX7_row_232 ?_
      obtain ⟨g48, hm⟩ := grd_s hm
      refine z_i2l C dX7_row_235 g48 ?_
      refine z_aload C dX7_row_236 (lv_at hl 0 rfl) ?_
      refine cg_10_3 C h g4 cU_X9 (List.mem_cons_of_mem _ wl_X7_78) dX7_row_238 ?_
      obtain ⟨g49, hm⟩ := grd_s hm
      refine z_i2l C dX7_row_241 g49 ?_
      obtain ⟨r50, e51, hm⟩ := obd_s hm
      refine c_callVvP C hE h (sh_9 hS) rfl (by decide) (kc_Rw_shift l D k z mi aK aV g N hφ hψ hmrRow hcrRow hS e51) (cwV 4 C.2.2.1 (gS_X7_81 _) rfl rfl rfl hd_X7_shift ⟨(by show φ + 1 + 1 ≤ φ + 6; omega), (by show 8 + (18 + 11) + (ψ + 24) ≤ ψ + 300; omega)⟩) rfl hl.1 rfl (Nat.le_of_ble_eq_true rfl) dX7_row_242 ⟨(Nat.le_of_ble_eq_true rfl), (Nat.le_of_ble_eq_true rfl)⟩ (fun H locs h => ?_)
      refine lv_goto (tgt := 481) C.1 C.2.1 dX7_row_245 (by decide) ?_
      cases hm
      exact c_vretP C h hr hlk dX7_row_481
    have hm := ite_f c47 hm
    by_cases c54 : (fl σ 200 (fl σ 100 x1)) = 11
    · refine x_topi (congrArg Int32.ofInt c54) ?_
      have hm := ite_t c54 hm
      refine lv_tableIn (tgt := 248) C.1 C.2.1 dX7_row_21 (by decide) (by decide) rfl (by decide) ?_
      refine z_aload_n C dX7_row_248 rfl (lv_at hl 1 rfl) ?_
      refine z_aload_n C dX7_row_249 rfl (lv_at hl 2 rfl) ?_
      refine lv_lload_n C.1 C.2.1 dX7_row_250 rfl (lv_at hl 3 rfl) ?_
      obtain ⟨r55, e56, hm⟩ := obd_s hm
      refine c_callVvP C hE h (sh_9 hS) rfl (by decide) (kc_Rw_reverse l D k z mi aK aV g N hφ hψ hmrRow hcrRow hS e56) (cwV 2 C.2.2.1 (gS_X7_85 _) rfl rfl rfl hd_X7_reverse ⟨(by show φ + 1 + 1 ≤ φ + 6; omega), (by show 8 + (10 + 11) + (ψ + 24) ≤ ψ + 300; omega)⟩) rfl hl.1 rfl (Nat.le_of_ble_eq_true rfl) dX7_row_251 ⟨(Nat.le_of_ble_eq_true rfl), (Nat.le_of_ble_eq_true rfl)⟩ (fun H locs h => ?_)
      refine lv_goto (tgt := 481) C.1 C.2.1 dX7_row_254 (by decide) ?_
      cases hm
      exact c_vretP C h hr hlk dX7_row_481
    have hm := ite_f c54 hm
    by_cases c59 : (fl σ 200 (fl σ 100 x1)) = 12
    · refine x_topi (congrArg Int32.ofInt c59) ?_
      have hm := ite_t c59 hm
      refine lv_tableIn (tgt := 257) C.1 C.2.1 dX7_row_21 (by decide) (by decide) rfl (by decide) ?_
      refine z_aload_n C dX7_row_257 rfl (lv_at hl 1 rfl) ?_
      refine z_aload_n C dX7_row_258 rfl (lv_at hl 2 rfl) ?_
      refine lv_lload_n C.1 C.2.1 dX7_row_259 rfl (lv_at hl 3 rfl) ?_
      refine lv_lload_n C.1 C.2.1 dX7_row_260 rfl (lv_at hl 3 rfl) ?_
      refine z_aload C dX7_row_261 (lv_at hl 0 rfl) ?_
      refine cg_10_2 C h g4 cU_X9 (List.mem_cons_of_mem _ wl_X7_57) dX7_row_263 ?_
      obtain ⟨g60, hm⟩ := grd_s hm
      refine z_i2l C dX7_row_266 g60 ?_
      obtain ⟨r61, e62, hm⟩ := obd_s hm
      refine v_callSl C h (kc_M_floorMod l D k N x2 (fl σ 202 (fl σ 100 x1)) r61 e62) (v_cwS 2 C.2.2.1 (gC_J9_floorMod_f86c9 _) rfl rfl rfl (C.2.2.1 _ (List.mem_cons_of_mem _ wt_J9)) (C.2.2.1 _ (List.mem_cons_of_mem _ wm_X7_88)) (C.2.2.1 _ (List.mem_cons_of_mem _ ws_J9_floorMod_f86c9)) hdS_J9_floorMod_f86c9 ⟨(by show 0 + 1 ≤ φ + 6; omega), (by show 8 + (6 + 11) + 0 ≤ ψ + 300; omega)⟩) rfl hl.1 rfl (by simp [rfv_cat, cat_i, cat_l]) dX7_row_267 ⟨(Nat.le_of_ble_eq_true rfl), (Nat.le_of_ble_eq_true rfl)⟩ (fun H locs h => ?_)
      refine lv_lconst (v := Int64.ofInt 0) C.1 C.2.1 dX7_row_270 (by decide) ?_
      obtain ⟨g63, hm⟩ := grd_s hm
      refine W.lcmp C.1 C.2.1 dX7_row_271 ?_
      refine z_lcmp_ne (tgt := 279) C dX7_row_272 (by decide) g63 (by decide) (fun c64 => ?_) (fun c64 => ?_)
      · have hm := ite_f c64 hm
        refine lv_iconst (v := Int32.ofInt 0) C.1 C.2.1 dX7_row_279 (by decide) ?_
        exact kl_Rw_row_280 (N := N) C hr hlk hE hS hφ hψ hmrRow hcrRow (lv_sub hl [] rfl) h hm
      · have hm := ite_t c64 hm
        refine lv_iconst (v := Int32.ofInt 1) C.1 C.2.1 dX7_row_275 (by decide) ?_
        refine lv_goto (tgt := 280) C.1 C.2.1 dX7_row_276 (by decide) ?_
        exact kl_Rw_row_280 (N := N) C hr hlk hE hS hφ hψ hmrRow hcrRow (lv_sub hl [] rfl) h hm
    have hm := ite_f c59 hm
    by_cases c65 : (fl σ 200 (fl σ 100 x1)) = 13
    · refine x_topi (congrArg Int32.ofInt c65) ?_
      have hm := ite_t c65 hm
      refine lv_tableIn (tgt := 286) C.1 C.2.1 dX7_row_21 (by decide) (by decide) rfl (by decide) ?_
      refine z_aload_n C dX7_row_286 rfl (lv_at hl 1 rfl) ?_
      refine z_aload_n C dX7_row_287 rfl (lv_at hl 2 rfl) ?_
      refine lv_lload_n C.1 C.2.1 dX7_row_288 rfl (lv_at hl 3 rfl) ?_
      refine lv_lload_n C.1 C.2.1 dX7_row_289 rfl (lv_at hl 3 rfl) ?_
      refine z_aload C dX7_row_290 (lv_at hl 0 rfl) ?_
      refine cg_10_2 C h g4 cU_X9 (List.mem_cons_of_mem _ wl_X7_57) dX7_row_292 ?_
      obtain ⟨g66, hm⟩ := grd_s hm
      refine z_i2l C dX7_row_295 g66 ?_
      obtain ⟨r67, e68, hm⟩ := obd_s hm
      refine v_callSl C h (kc_M_floorMod l D k N x2 (fl σ 202 (fl σ 100 x1)) r67 e68) (v_cwS 2 C.2.2.1 (gC_J9_floorMod_f86c9 _) rfl rfl rfl (C.2.2.1 _ (List.mem_cons_of_mem _ wt_J9)) (C.2.2.1 _ (List.mem_cons_of_mem _ wm_X7_88)) (C.2.2.1 _ (List.mem_cons_of_mem _ ws_J9_floorMod_f86c9)) hdS_J9_floorMod_f86c9 ⟨(by show 0 + 1 ≤ φ + 6; omega), (by show 8 + (6 + 11) + 0 ≤ ψ + 300; omega)⟩) rfl hl.1 rfl (by simp [rfv_cat, cat_i, cat_l]) dX7_row_296 ⟨(Nat.le_of_ble_eq_true rfl), (Nat.le_of_ble_eq_true rfl)⟩ (fun H locs h => ?_)
      refine z_aload C dX7_row_299 (lv_at hl 0 rfl) ?_
      refine cg_10_3 C h g4 cU_X9 (List.mem_cons_of_mem _ wl_X7_78) dX7_row_301 ?_
      obtain ⟨g69, hm⟩ := grd_s hm
      refine z_i2l C dX7_row_304 g69 ?_
      obtain ⟨g70, hm⟩ := grd_s hm
      obtain ⟨g71, hm⟩ := grd_s hm
      refine W.lcmp C.1 C.2.1 dX7_row_305 ?_
      refine z_lcmp_lt (tgt := 313) C dX7_row_306 (by decide) g70 g71 (fun c72 => ?_) (fun c72 => ?_)
      · have hm := ite_t c72 hm
        refine lv_iconst (v := Int32.ofInt 0) C.1 C.2.1 dX7_row_313 (by decide) ?_
        exact kl_Rw_row_314 (N := N) C hr hlk hE hS hφ hψ hmrRow hcrRow (lv_sub hl [] rfl) h hm
      · have hm := ite_f c72 hm
        refine lv_iconst (v := Int32.ofInt 1) C.1 C.2.1 dX7_row_309 (by decide) ?_
        refine lv_goto (tgt := 314) C.1 C.2.1 dX7_row_310 (by decide) ?_
        exact kl_Rw_row_314 (N := N) C hr hlk hE hS hφ hψ hmrRow hcrRow (lv_sub hl [] rfl) h hm
    have hm := ite_f c65 hm
    by_cases c73 : (fl σ 200 (fl σ 100 x1)) = 14
    · refine x_topi (congrArg Int32.ofInt c73) ?_
      have hm := ite_t c73 hm
      refine lv_tableIn (tgt := 320) C.1 C.2.1 dX7_row_21 (by decide) (by decide) rfl (by decide) ?_
      refine z_aload_n C dX7_row_320 rfl (lv_at hl 1 rfl) ?_
      refine z_aload_n C dX7_row_321 rfl (lv_at hl 2 rfl) ?_
      refine lv_lload_n C.1 C.2.1 dX7_row_322 rfl (lv_at hl 3 rfl) ?_
      refine lv_lload_n C.1 C.2.1 dX7_row_323 rfl (lv_at hl 3 rfl) ?_
      refine z_aload C dX7_row_324 (lv_at hl 0 rfl) ?_
      refine cg_10_2 C h g4 cU_X9 (List.mem_cons_of_mem _ wl_X7_57) dX7_row_326 ?_
      obtain ⟨g74, hm⟩ := grd_s hm
      refine z_i2l C dX7_row_329 g74 ?_
      obtain ⟨r75, e76, hm⟩ := obd_s hm
      refine v_callSl C h (kc_M_floorMod l D k N x2 (fl σ 202 (fl σ 100 x1)) r75 e76) (v_cwS 2 C.2.2.1 (gC_J9_floorMod_f86c9 _) rfl rfl rfl (C.2.2.1 _ (List.mem_cons_of_mem _ wt_J9)) (C.2.2.1 _ (List.mem_cons_of_mem _ wm_X7_88)) (C.2.2.1 _ (List.mem_cons_of_mem _ ws_J9_floorMod_f86c9)) hdS_J9_floorMod_f86c9 ⟨(by show 0 + 1 ≤ φ + 6; omega), (by show 8 + (6 + 11) + 0 ≤ ψ + 300; omega)⟩) rfl hl.1 rfl (by simp [rfv_cat, cat_i, cat_l]) dX7_row_330 ⟨(Nat.le_of_ble_eq_true rfl), (Nat.le_of_ble_eq_true rfl)⟩ (fun H locs h => ?_)
      refine z_aload C dX7_row_333 (lv_at hl 0 rfl) ?_
      refine cg_10_2 C h g4 cU_X9 (List.mem_cons_of_mem _ wl_X7_57) dX7_row_335 ?_
      refine z_i2l C dX7_row_338 g74 ?_
      obtain ⟨r77, e78, hm⟩ := obd_s hm
      refine c_callVvP C hE h (sh_9 hS) rfl (by decide) (kc_Rw_shift l D k z mi aK aV g N hφ hψ hmrRow hcrRow hS e78) (cwV 4 C.2.2.1 (gS_X7_81 _) rfl rfl rfl hd_X7_shift ⟨(by show φ + 1 + 1 ≤ φ + 6; omega), (by show 8 + (18 + 11) + (ψ + 24) ≤ ψ + 300; omega)⟩) rfl hl.1 rfl (Nat.le_of_ble_eq_true rfl) dX7_row_339 ⟨(Nat.le_of_ble_eq_true rfl), (Nat.le_of_ble_eq_true rfl)⟩ (fun H locs h => ?_)
      refine lv_goto (tgt := 481) C.1 C.2.1 dX7_row_342 (by decide) ?_
      cases hm
      exact c_vretP C h hr hlk dX7_row_481
    have hm := ite_f c73 hm
    by_cases c81 : (fl σ 200 (fl σ 100 x1)) = 15
    · refine x_topi (congrArg Int32.ofInt c81) ?_
      have hm := ite_t c81 hm
      refine lv_tableIn (tgt := 345) C.1 C.2.1 dX7_row_21 (by decide) (by decide) rfl (by decide) ?_
      refine z_aload_n C dX7_row_345 rfl (lv_at hl 1 rfl) ?_
      refine z_aload_n C dX7_row_346 rfl (lv_at hl 2 rfl) ?_
      refine lv_lload_n C.1 C.2.1 dX7_row_347 rfl (lv_at hl 3 rfl) ?_
      obtain ⟨r82, e83, hm⟩ := obd_s hm
      refine c_callVvP C hE h (sh_9 hS) rfl (by decide) (kc_Rw_ply l D k z mi aK aV g N hφ hψ hmrRow hcrRow hS e83) (cwV 2 C.2.2.1 (gS_X7_95 _) rfl rfl rfl hd_X7_ply ⟨(by show φ + 1 + 1 ≤ φ + 6; omega), (by show 8 + (12 + 11) + (ψ + 24) ≤ ψ + 300; omega)⟩) rfl hl.1 rfl (Nat.le_of_ble_eq_true rfl) dX7_row_348 ⟨(Nat.le_of_ble_eq_true rfl), (Nat.le_of_ble_eq_true rfl)⟩ (fun H locs h => ?_)
      refine lv_goto (tgt := 481) C.1 C.2.1 dX7_row_351 (by decide) ?_
      cases hm
      exact c_vretP C h hr hlk dX7_row_481
    have hm := ite_f c81 hm
    by_cases c86 : (fl σ 200 (fl σ 100 x1)) = 16
    · refine x_topi (congrArg Int32.ofInt c86) ?_
      have hm := ite_t c86 hm
      refine lv_tableIn (tgt := 354) C.1 C.2.1 dX7_row_21 (by decide) (by decide) rfl (by decide) ?_
      refine z_aload_n C dX7_row_354 rfl (lv_at hl 1 rfl) ?_
      refine z_aload_n C dX7_row_355 rfl (lv_at hl 2 rfl) ?_
      refine lv_lload_n C.1 C.2.1 dX7_row_356 rfl (lv_at hl 3 rfl) ?_
      obtain ⟨r87, e88, hm⟩ := obd_s hm
      refine c_callVvP C hE h (sh_9 hS) rfl (by decide) (kc_Rw_chunk l D k z mi aK aV g N hφ hψ hmrRow hcrRow hS e88) (cwV 2 C.2.2.1 (gS_X7_98 _) rfl rfl rfl hd_X7_chunk ⟨(by show φ + 2 + 1 ≤ φ + 6; omega), (by show 8 + (8 + 11) + (ψ + 53) ≤ ψ + 300; omega)⟩) rfl hl.1 rfl (Nat.le_of_ble_eq_true rfl) dX7_row_357 ⟨(Nat.le_of_ble_eq_true rfl), (Nat.le_of_ble_eq_true rfl)⟩ (fun H locs h => ?_)
      refine lv_goto (tgt := 481) C.1 C.2.1 dX7_row_360 (by decide) ?_
      cases hm
      exact c_vretP C h hr hlk dX7_row_481
    have hm := ite_f c86 hm
    by_cases c91 : (fl σ 200 (fl σ 100 x1)) = 17
    · refine x_topi (congrArg Int32.ofInt c91) ?_
      have hm := ite_t c91 hm
      refine lv_tableIn (tgt := 363) C.1 C.2.1 dX7_row_21 (by decide) (by decide) rfl (by decide) ?_
      refine z_aload_n C dX7_row_363 rfl (lv_at hl 1 rfl) ?_
      refine z_aload_n C dX7_row_364 rfl (lv_at hl 2 rfl) ?_
      refine lv_lload_n C.1 C.2.1 dX7_row_365 rfl (lv_at hl 3 rfl) ?_
      refine z_aload C dX7_row_366 (lv_at hl 0 rfl) ?_
      refine cg_10_2 C h g4 cU_X9 (List.mem_cons_of_mem _ wl_X7_57) dX7_row_368 ?_
      obtain ⟨g92, hm⟩ := grd_s hm
      refine z_i2l C dX7_row_371 g92 ?_
      refine z_aload_n C dX7_row_372 rfl (lv_at hl 2 rfl) ?_
      refine cg_5_2 C h g1 cU_X4 (List.mem_cons_of_mem _ wl_X7_101) dX7_row_373 ?_
      refine z_lmul C dX7_row_376 ?_
      refine z_aload C dX7_row_377 (lv_at hl 0 rfl) ?_
      refine cg_10_3 C h g4 cU_X9 (List.mem_cons_of_mem _ wl_X7_78) dX7_row_379 ?_
      obtain ⟨g93, hm⟩ := grd_s hm
      refine z_i2l C dX7_row_382 g93 ?_
      obtain ⟨r94, e95, hm⟩ := obd_s hm
      refine v_callSl C h (kc_Rw_ceiling l D k N ((fl σ 202 (fl σ 100 x1)) * (fl σ 102 x1)) (fl σ 203 (fl σ 100 x1)) r94 e95) (v_cwS 2 C.2.2.1 (gC_X7_ceiling _) rfl rfl rfl (C.2.2.1 _ (List.mem_cons_of_mem _ wt_X7)) (C.2.2.1 _ (List.mem_cons_of_mem _ wm_X7_104)) (C.2.2.1 _ (List.mem_cons_of_mem _ ws_X7_ceiling)) hdS_X7_ceiling ⟨(by show 1 + 1 ≤ φ + 6; omega), (by show 8 + (4 + 11) + 25 ≤ ψ + 300; omega)⟩) rfl hl.1 rfl (by simp [rfv_cat, cat_i, cat_l]) dX7_row_383 ⟨(Nat.le_of_ble_eq_true rfl), (Nat.le_of_ble_eq_true rfl)⟩ (fun H locs h => ?_)
      refine z_aload C dX7_row_386 (lv_at hl 0 rfl) ?_
      refine cg_10_4 C h g4 cU_X9 (List.mem_cons_of_mem _ wl_X7_107) dX7_row_388 ?_
      obtain ⟨g96, hm⟩ := grd_s hm
      refine z_i2l C dX7_row_391 g96 ?_
      refine z_aload_n C dX7_row_392 rfl (lv_at hl 2 rfl) ?_
      refine cg_5_2 C h g1 cU_X4 (List.mem_cons_of_mem _ wl_X7_101) dX7_row_393 ?_
      refine z_lmul C dX7_row_396 ?_
      refine z_aload C dX7_row_397 (lv_at hl 0 rfl) ?_
      refine cg_10_5 C h g4 cU_X9 (List.mem_cons_of_mem _ wl_X7_110) dX7_row_399 ?_
      obtain ⟨g97, hm⟩ := grd_s hm
      refine z_i2l C dX7_row_402 g97 ?_
      obtain ⟨r98, e99, hm⟩ := obd_s hm
      refine v_callSl C h (kc_Rw_ceiling l D k N ((fl σ 204 (fl σ 100 x1)) * (fl σ 102 x1)) (fl σ 205 (fl σ 100 x1)) r98 e99) (v_cwS 2 C.2.2.1 (gC_X7_ceiling _) rfl rfl rfl (C.2.2.1 _ (List.mem_cons_of_mem _ wt_X7)) (C.2.2.1 _ (List.mem_cons_of_mem _ wm_X7_104)) (C.2.2.1 _ (List.mem_cons_of_mem _ ws_X7_ceiling)) hdS_X7_ceiling ⟨(by show 1 + 1 ≤ φ + 6; omega), (by show 8 + (4 + 11) + 25 ≤ ψ + 300; omega)⟩) rfl hl.1 rfl (by simp [rfv_cat, cat_i, cat_l]) dX7_row_403 ⟨(Nat.le_of_ble_eq_true rfl), (Nat.le_of_ble_eq_true rfl)⟩ (fun H locs h => ?_)
      obtain ⟨r100, e101, hm⟩ := obd_s hm
      refine c_callVvP C hE h (sh_9 hS) rfl (by decide) (kc_Rw_within l D k z mi aK aV g N hφ hψ hmrRow hcrRow hS e101) (cwV 4 C.2.2.1 (gS_X7_113 _) rfl rfl rfl hd_X7_within ⟨(by show φ + 1 + 1 ≤ φ + 6; omega), (by show 8 + (10 + 11) + (ψ + 24) ≤ ψ + 300; omega)⟩) rfl hl.1 rfl (Nat.le_of_ble_eq_true rfl) dX7_row_406 ⟨(Nat.le_of_ble_eq_true rfl), (Nat.le_of_ble_eq_true rfl)⟩ (fun H locs h => ?_)
      refine lv_goto (tgt := 481) C.1 C.2.1 dX7_row_409 (by decide) ?_
      cases hm
      exact c_vretP C h hr hlk dX7_row_481
    have hm := ite_f c91 hm
    by_cases c104 : (fl σ 200 (fl σ 100 x1)) = 18
    · refine x_topi (congrArg Int32.ofInt c104) ?_
      have hm := ite_t c104 hm
      refine lv_tableIn (tgt := 412) C.1 C.2.1 dX7_row_21 (by decide) (by decide) rfl (by decide) ?_
      refine z_aload_n C dX7_row_412 rfl (lv_at hl 1 rfl) ?_
      refine z_aload_n C dX7_row_413 rfl (lv_at hl 2 rfl) ?_
      refine lv_lload_n C.1 C.2.1 dX7_row_414 rfl (lv_at hl 3 rfl) ?_
      obtain ⟨r105, e106, hm⟩ := obd_s hm
      refine c_callVvP C hE h (sh_9 hS) rfl (by decide) (kc_Rw_rotate l D k z mi aK aV g N hφ hψ hmrRow hcrRow hS e106) (cwV 2 C.2.2.1 (gS_X7_116 _) rfl rfl rfl hd_X7_rotate ⟨(by show φ + 1 + 1 ≤ φ + 6; omega), (by show 8 + (5 + 11) + (ψ + 24) ≤ ψ + 300; omega)⟩) rfl hl.1 rfl (Nat.le_of_ble_eq_true rfl) dX7_row_415 ⟨(Nat.le_of_ble_eq_true rfl), (Nat.le_of_ble_eq_true rfl)⟩ (fun H locs h => ?_)
      refine lv_goto (tgt := 481) C.1 C.2.1 dX7_row_418 (by decide) ?_
      cases hm
      exact c_vretP C h hr hlk dX7_row_481
    have hm := ite_f c104 hm
    by_cases c109 : (fl σ 200 (fl σ 100 x1)) = 19
    · refine x_topi (congrArg Int32.ofInt c109) ?_
      have hm := ite_t c109 hm
      refine lv_tableIn (tgt := 439) C.1 C.2.1 dX7_row_21 (by decide) (by decide) rfl (by decide) ?_
      refine z_aload_n C dX7_row_439 rfl (lv_at hl 1 rfl) ?_
      refine z_aload_n C dX7_row_440 rfl (lv_at hl 2 rfl) ?_
      refine lv_lload_n C.1 C.2.1 dX7_row_441 rfl (lv_at hl 3 rfl) ?_
      refine z_aload_n C dX7_row_442 rfl (lv_at hl 2 rfl) ?_
      refine cg_5_1 C h g1 cU_X4 (List.mem_cons_of_mem _ wl_X7_125) dX7_row_443 ?_
      refine lv_iconst (v := Int32.ofInt 0) C.1 C.2.1 dX7_row_446 (by decide) ?_
      obtain ⟨g110, hm⟩ := grd_s hm
      obtain ⟨g111, hm⟩ := grd_s hm
      refine c_qald C h (t := 6) (by decide) rfl g110 g111 dX7_row_447 ?_
      refine z_aload_n C dX7_row_448 rfl (lv_at hl 2 rfl) ?_
      refine cg_5_1 C h g1 cU_X4 (List.mem_cons_of_mem _ wl_X7_125) dX7_row_449 ?_
      refine lv_iconst (v := Int32.ofInt 1) C.1 C.2.1 dX7_row_452 (by decide) ?_
      obtain ⟨g112, hm⟩ := grd_s hm
      refine c_qald C h (t := 6) (by decide) rfl g110 g112 dX7_row_453 ?_
      obtain ⟨r113, e114, hm⟩ := obd_s hm
      refine c_callVvP C hE h (sh_9 hS) rfl (by decide) (kc_Rw_meet l D k z mi aK aV g N hφ hψ hmrRow hcrRow hS e114) (cwV 4 C.2.2.1 (gS_X7_129 _) rfl rfl rfl hd_X7_meet ⟨(by show φ + 1 + 1 ≤ φ + 6; omega), (by show 8 + (12 + 11) + (ψ + 24) ≤ ψ + 300; omega)⟩) rfl hl.1 rfl (Nat.le_of_ble_eq_true rfl) dX7_row_454 ⟨(Nat.le_of_ble_eq_true rfl), (Nat.le_of_ble_eq_true rfl)⟩ (fun H locs h => ?_)
      refine lv_goto (tgt := 481) C.1 C.2.1 dX7_row_457 (by decide) ?_
      cases hm
      exact c_vretP C h hr hlk dX7_row_481
    have hm := ite_f c109 hm
    by_cases c117 : (fl σ 200 (fl σ 100 x1)) = 20
    · refine x_topi (congrArg Int32.ofInt c117) ?_
      have hm := ite_t c117 hm
      refine lv_tableIn (tgt := 460) C.1 C.2.1 dX7_row_21 (by decide) (by decide) rfl (by decide) ?_
      refine z_aload_n C dX7_row_460 rfl (lv_at hl 1 rfl) ?_
      refine z_aload_n C dX7_row_461 rfl (lv_at hl 2 rfl) ?_
      refine lv_lload_n C.1 C.2.1 dX7_row_462 rfl (lv_at hl 3 rfl) ?_
      refine z_aload_n C dX7_row_463 rfl (lv_at hl 2 rfl) ?_
      refine cg_5_1 C h g1 cU_X4 (List.mem_cons_of_mem _ wl_X7_125) dX7_row_464 ?_
      refine lv_iconst (v := Int32.ofInt 1) C.1 C.2.1 dX7_row_467 (by decide) ?_
      obtain ⟨g118, hm⟩ := grd_s hm
      obtain ⟨g119, hm⟩ := grd_s hm
      refine c_qald C h (t := 6) (by decide) rfl g118 g119 dX7_row_468 ?_
      refine z_aload_n C dX7_row_469 rfl (lv_at hl 2 rfl) ?_
      refine cg_5_1 C h g1 cU_X4 (List.mem_cons_of_mem _ wl_X7_125) dX7_row_470 ?_
      refine lv_iconst (v := Int32.ofInt 0) C.1 C.2.1 dX7_row_473 (by decide) ?_
      obtain ⟨g120, hm⟩ := grd_s hm
      refine c_qald C h (t := 6) (by decide) rfl g118 g120 dX7_row_474 ?_
      obtain ⟨r121, e122, hm⟩ := obd_s hm
      refine c_callVvP C hE h (sh_9 hS) rfl (by decide) (kc_Rw_meet l D k z mi aK aV g N hφ hψ hmrRow hcrRow hS e122) (cwV 4 C.2.2.1 (gS_X7_129 _) rfl rfl rfl hd_X7_meet ⟨(by show φ + 1 + 1 ≤ φ + 6; omega), (by show 8 + (12 + 11) + (ψ + 24) ≤ ψ + 300; omega)⟩) rfl hl.1 rfl (Nat.le_of_ble_eq_true rfl) dX7_row_475 ⟨(Nat.le_of_ble_eq_true rfl), (Nat.le_of_ble_eq_true rfl)⟩ (fun H locs h => ?_)
      refine lv_goto (tgt := 481) C.1 C.2.1 dX7_row_478 (by decide) ?_
      cases hm
      exact c_vretP C h hr hlk dX7_row_481
    have hm := ite_f c117 hm
    by_cases c125 : (fl σ 200 (fl σ 100 x1)) = 21
    · refine x_topi (congrArg Int32.ofInt c125) ?_
      have hm := ite_t c125 hm
      refine lv_tableIn (tgt := 439) C.1 C.2.1 dX7_row_21 (by decide) (by decide) rfl (by decide) ?_
      refine z_aload_n C dX7_row_439 rfl (lv_at hl 1 rfl) ?_
      refine z_aload_n C dX7_row_440 rfl (lv_at hl 2 rfl) ?_
      refine lv_lload_n C.1 C.2.1 dX7_row_441 rfl (lv_at hl 3 rfl) ?_
      refine z_aload_n C dX7_row_442 rfl (lv_at hl 2 rfl) ?_
      refine cg_5_1 C h g1 cU_X4 (List.mem_cons_of_mem _ wl_X7_125) dX7_row_443 ?_
      refine lv_iconst (v := Int32.ofInt 0) C.1 C.2.1 dX7_row_446 (by decide) ?_
      obtain ⟨g126, hm⟩ := grd_s hm
      obtain ⟨g127, hm⟩ := grd_s hm
      refine c_qald C h (t := 6) (by decide) rfl g126 g127 dX7_row_447 ?_
      refine z_aload_n C dX7_row_448 rfl (lv_at hl 2 rfl) ?_
      refine cg_5_1 C h g1 cU_X4 (List.mem_cons_of_mem _ wl_X7_125) dX7_row_449 ?_
      refine lv_iconst (v := Int32.ofInt 1) C.1 C.2.1 dX7_row_452 (by decide) ?_
      obtain ⟨g128, hm⟩ := grd_s hm
      refine c_qald C h (t := 6) (by decide) rfl g126 g128 dX7_row_453 ?_
      obtain ⟨r129, e130, hm⟩ := obd_s hm
      refine c_callVvP C hE h (sh_9 hS) rfl (by decide) (kc_Rw_meet l D k z mi aK aV g N hφ hψ hmrRow hcrRow hS e130) (cwV 4 C.2.2.1 (gS_X7_129 _) rfl rfl rfl hd_X7_meet ⟨(by show φ + 1 + 1 ≤ φ + 6; omega), (by show 8 + (12 + 11) + (ψ + 24) ≤ ψ + 300; omega)⟩) rfl hl.1 rfl (Nat.le_of_ble_eq_true rfl) dX7_row_454 ⟨(Nat.le_of_ble_eq_true rfl), (Nat.le_of_ble_eq_true rfl)⟩ (fun H locs h => ?_)
      refine lv_goto (tgt := 481) C.1 C.2.1 dX7_row_457 (by decide) ?_
      cases hm
      exact c_vretP C h hr hlk dX7_row_481
    have hm := ite_f c125 hm
    by_cases c133 : (fl σ 200 (fl σ 100 x1)) = 22
    · refine x_topi (congrArg Int32.ofInt c133) ?_
      have hm := ite_t c133 hm
      refine lv_tableIn (tgt := 421) C.1 C.2.1 dX7_row_21 (by decide) (by decide) rfl (by decide) ?_
      refine z_aload_n C dX7_row_421 rfl (lv_at hl 1 rfl) ?_
      refine z_aload_n C dX7_row_422 rfl (lv_at hl 2 rfl) ?_
      refine lv_lload_n C.1 C.2.1 dX7_row_423 rfl (lv_at hl 3 rfl) ?_
      obtain ⟨r134, e135, hm⟩ := obd_s hm
      refine c_callVvP C hE h (sh_9 hS) rfl (by decide) (kc_Rw_draws l D k z mi aK aV g N hφ hψ hmrRow hcrRow hS e135) (cwV 2 C.2.2.1 (gS_X7_119 _) rfl rfl rfl hd_X7_draws ⟨(by show φ + 1 + 1 ≤ φ + 6; omega), (by show 8 + (8 + 11) + (ψ + 24) ≤ ψ + 300; omega)⟩) rfl hl.1 rfl (Nat.le_of_ble_eq_true rfl) dX7_row_424 ⟨(Nat.le_of_ble_eq_true rfl), (Nat.le_of_ble_eq_true rfl)⟩ (fun H locs h => ?_)
      refine lv_goto (tgt := 481) C.1 C.2.1 dX7_row_427 (by decide) ?_
      cases hm
      exact c_vretP C h hr hlk dX7_row_481
    have hm := ite_f c133 hm
    by_cases c138 : (fl σ 200 (fl σ 100 x1)) = 23
    · refine x_topi (congrArg Int32.ofInt c138) ?_
      have hm := ite_t c138 hm
      refine lv_tableIn (tgt := 421) C.1 C.2.1 dX7_row_21 (by decide) (by decide) rfl (by decide) ?_
      refine z_aload_n C dX7_row_421 rfl (lv_at hl 1 rfl) ?_
      refine z_aload_n C dX7_row_422 rfl (lv_at hl 2 rfl) ?_
      refine lv_lload_n C.1 C.2.1 dX7_row_423 rfl (lv_at hl 3 rfl) ?_
      obtain ⟨r139, e140, hm⟩ := obd_s hm
      refine c_callVvP C hE h (sh_9 hS) rfl (by decide) (kc_Rw_draws l D k z mi aK aV g N hφ hψ hmrRow hcrRow hS e140) (cwV 2 C.2.2.1 (gS_X7_119 _) rfl rfl rfl hd_X7_draws ⟨(by show φ + 1 + 1 ≤ φ + 6; omega), (by show 8 + (8 + 11) + (ψ + 24) ≤ ψ + 300; omega)⟩) rfl hl.1 rfl (Nat.le_of_ble_eq_true rfl) dX7_row_424 ⟨(Nat.le_of_ble_eq_true rfl), (Nat.le_of_ble_eq_true rfl)⟩ (fun H locs h => ?_)
      refine lv_goto (tgt := 481) C.1 C.2.1 dX7_row_427 (by decide) ?_
      cases hm
      exact c_vretP C h hr hlk dX7_row_481
    have hm := ite_f c138 hm
    by_cases c143 : (fl σ 200 (fl σ 100 x1)) = 24
    · refine x_topi (congrArg Int32.ofInt c143) ?_
      have hm := ite_t c143 hm
      refine lv_tableIn (tgt := 430) C.1 C.2.1 dX7_row_21 (by decide) (by decide) rfl (by decide) ?_
      refine z_aload_n C dX7_row_430 rfl (lv_at hl 1 rfl) ?_
      refine z_aload_n C dX7_row_431 rfl (lv_at hl 2 rfl) ?_
      refine lv_lload_n C.1 C.2.1 dX7_row_432 rfl (lv_at hl 3 rfl) ?_
      obtain ⟨r144, e145, hm⟩ := obd_s hm
      refine c_callVvP C hE h (sh_9 hS) rfl (by decide) (kc_Rw_squeeze l D k z mi aK aV g N hφ hψ hmrRow hcrRow hS e145) (cwV 2 C.2.2.1 (gS_X7_122 _) rfl rfl rfl hd_X7_squeeze ⟨(by show φ + 1 + 1 ≤ φ + 6; omega), (by show 8 + (8 + 11) + (ψ + 24) ≤ ψ + 300; omega)⟩) rfl hl.1 rfl (Nat.le_of_ble_eq_true rfl) dX7_row_433 ⟨(Nat.le_of_ble_eq_true rfl), (Nat.le_of_ble_eq_true rfl)⟩ (fun H locs h => ?_)
      refine lv_goto (tgt := 481) C.1 C.2.1 dX7_row_436 (by decide) ?_
      cases hm
      exact c_vretP C h hr hlk dX7_row_481
    have hm := ite_f c143 hm
    refine lv_tableOut (tgt := 481) C.1 C.2.1 dX7_row_21 (by rw [c32_ti g5]; omega) (by decide) ?_
    cases hm
    exact c_vretP C h hr hlk dX7_row_481
  · have hm := ite_t c3 hm
    cases hm
    exact c_vretP C h hr hlk dX7_row_9
end Z_Rw_row
set_option maxHeartbeats 8000000 in
set_option maxRecDepth 100000 in
theorem kc_Rw_rowC (l : Launch) (D : va_G) (k : Nat → ClassId) (z mi : Nat) (aK aV : Nat → Nat) (N d : Nat) : ∀ {g : Nat → Nat} {π : Sh} {σ : St} {y1 : Int} {y2 : Int} {r : St}, SHs π → Rw_rowC N d π σ y1 y2 = some r → Mv l yX7_row (.code yX7_row cX7_row 5 none :: cWd) { frames := 12 + 6 * d, cells := 0, slots := 0, locals := 400 + 300 * d } [rfv g 9, rfv g y1, .long (Int64.ofInt y2)] D (TYs k) (cW k z g π σ) (XV z mi aK aV (cW k z g π σ)) Unit (fun _ => True) (fun _ => cW k z g π r) 0 0 := by
  induction d with
  | zero => intro g π σ y1 y2 r hS hm; cases (show none = some r from hm)
  | succ d ih =>
    intro g π σ y1 y2 r hS hm
    have e1 : 12 + 6 * (d + 1) = 12 + 6 * d + 6 := by omega
    have e2 : 400 + 300 * (d + 1) = 400 + 300 * d + 300 := by omega
    rw [e1, e2]
    exact kc_Rw_row l D k z mi aK aV g N (by omega) (by omega) km_Rw_rowC ih hS hm
section Z_Rw_workOut
variable {p : Program} {l : Launch} {e : Env} {s : State} {m : MethodId} {args : Array Value} {below : List Frame} {meth : Method} {c : Code} {D : va_G} {A : Nat → Prop} {k : Nat → ClassId} {N : Nat} {cd : Cond} {z mi : Nat} {aK aV : Nat → Nat} {g : Nat → Nat} {π : Sh}
set_option maxHeartbeats 8000000 in
set_option maxRecDepth 100000 in
theorem kc_Rw_workOut (l : Launch) (D : va_G) (k : Nat → ClassId) (z mi : Nat) (aK aV : Nat → Nat) (g : Nat → Nat) (N : Nat)    {π : Sh} {σ : St} {x1 : Int} {x2 : Int} {r : St} (hS : SHs π) (hm : Rw_workOut N π σ x1 x2 = some r) : Mv l yX7_workOut (.code yX7_workOut cX7_workOut 4 none :: cWd) { frames := 397, cells := 0, slots := 0, locals := 19624 } [rfv g 9, rfv g x1, .long (Int64.ofInt x2)] D (TYs k) (cW k z g π σ) (XV z mi aK aV (cW k z g π σ)) Unit (fun _ => True) (fun _ => cW k z g π r) 0 0 := by
  intro sz
  refine v_met (cc := cX7_workOut) (maxL := 4) (ret := none) (lv := [(0, rfv g 9), (1, rfv g x1), (2, .long (Int64.ofInt x2))]) (by decide) rfl (by simp [lg_sl, rfv_cat, cat_i, cat_l]) (by simp [lv_args, rfv_cat, cat_i, cat_l]) ?_
  intro p e s m below meth c ls C hE hr hlk hmn hl h
  rw [Rw_workOut] at hm
  refine z_aload_n C dX7_workOut_0 rfl (lv_at hl 0 rfl) ?_
  refine cg_8_0 C h (sh_9 hS) cU_X7 (List.mem_cons_of_mem _ wl_X7_12) dX7_workOut_1 ?_
  refine lv_iconst (v := Int32.ofInt 0) C.1 C.2.1 dX7_workOut_4 (by decide) ?_
  refine cp_2_6 C h (sh_10 hS) cU_X1 (List.mem_cons_of_mem _ wl_X7_28) dX7_workOut_5 (fun H locs h => ?_)
  refine z_aload_n C dX7_workOut_8 rfl (lv_at hl 0 rfl) ?_
  refine z_aload_n C dX7_workOut_9 rfl (lv_at hl 1 rfl) ?_
  refine lv_lload_n C.1 C.2.1 dX7_workOut_10 rfl (lv_at hl 2 rfl) ?_
  obtain ⟨σ1, e2, hm⟩ := bnd_s hm
  rw [e2] at h
  obtain ⟨r4, e5, hm⟩ := obd_s hm
  refine c_callVvP C hE h (sh_9 hS) rfl (by decide) (kc_Rw_rowC l D k z mi aK aV N 64 hS e5) (cwV 2 C.2.2.1 (gS_X7_31 _) rfl rfl rfl hd_X7_row ⟨Nat.le_of_ble_eq_true rfl, Nat.le_of_ble_eq_true rfl⟩) rfl hl.1 rfl (Nat.le_of_ble_eq_true rfl) dX7_workOut_11 ⟨(Nat.le_of_ble_eq_true rfl), (Nat.le_of_ble_eq_true rfl)⟩ (fun H locs h => ?_)
  cases hm
  exact c_vretP C h hr hlk dX7_workOut_14
end Z_Rw_workOut
section Z_Sc_append
variable {p : Program} {l : Launch} {e : Env} {s : State} {m : MethodId} {args : Array Value} {below : List Frame} {meth : Method} {c : Code} {D : va_G} {A : Nat → Prop} {k : Nat → ClassId} {N : Nat} {cd : Cond} {z mi : Nat} {aK aV : Nat → Nat} {g : Nat → Nat} {π : Sh}
set_option maxHeartbeats 8000000 in
set_option maxRecDepth 100000 in
theorem kl_Sc_append_3 {r : St} (C : Cx p s m args c cX8_append RX8 (cd :: cWd) D (TYs k) 3) (hr : meth.sig.returnType = none) (hlk : meth.locks = false) (hE : Ev z mi aK aV A s s.heap) (hS : SHs π)    (n : Nat) : ∀ {ls : Array Slot} {H : Heap} {locs : List Loc} {σ : St} {x1 : Int} {x2 : Int}, lv_has ls 3 [(0, rfv g 1), (1, .int (Int32.ofInt x1)), (2, .int (Int32.ofInt x2))] → Hp D A s.heap H locs (cW k z g π σ) → Sc_append_3 N π n σ x1 x2 = some r → W p l e { frames := 0, cells := 0, slots := 0, locals := 0 } s m args below meth c H locs 0 0 (MQ below (va_Qv (fun (_ : Unit) => True) (fun _ t => PostW D (TYs k) A (cW k z g π r) t) A) args s 0 0 A) (F0 m 3 ls []) := by
  induction n with
  | zero => intro ls H locs σ x1 x2  hl h hm; cases (show none = some r from hm)
  | succ n hrec3 =>
    intro ls H locs σ x1 x2  hl h hm
    rw [Sc_append_3] at hm
    refine lv_iload_n C.1 C.2.1 dX8_append_3 rfl (lv_at hl 2 rfl) ?_
    obtain ⟨g1, hm⟩ := grd_s hm
    refine z_if_lt (tgt := 46) C dX8_append_4 (by decide) g1 (fun c2 => ?_) (fun c2 => ?_)
    · have hm := ite_t c2 hm
      cases hm
      exact c_vretP C h hr hlk dX8_append_46
    · have hm := ite_f c2 hm
      refine z_aload_n C dX8_append_7 rfl (lv_at hl 0 rfl) ?_
      refine cg_9_1 C h (sh_1 hS) cU_X8 (List.mem_cons_of_mem _ wl_X8_15) dX8_append_8 ?_
      refine lv_sipush (v := Int32.ofInt 2000) C.1 C.2.1 dX8_append_11 (by decide) ?_
      obtain ⟨g3, hm⟩ := grd_s hm
      refine z_icmp_ge (tgt := 46) C dX8_append_14 (by decide) g3 (by decide) (fun c4 => ?_) (fun c4 => ?_)
      · have hm := ite_f c4 hm
        cases hm
        exact c_vretP C h hr hlk dX8_append_46
      · have hm := ite_t c4 hm
        refine z_aload_n C dX8_append_17 rfl (lv_at hl 0 rfl) ?_
        refine cg_9_0 C h (sh_1 hS) cU_X8 (List.mem_cons_of_mem _ wl_X8_9) dX8_append_18 ?_
        refine z_aload_n C dX8_append_21 rfl (lv_at hl 0 rfl) ?_
        refine cg_9_1 C h (sh_1 hS) cU_X8 (List.mem_cons_of_mem _ wl_X8_15) dX8_append_22 ?_
        refine lv_iload_n C.1 C.2.1 dX8_append_25 rfl (lv_at hl 1 rfl) ?_
        refine lv_iload_n C.1 C.2.1 dX8_append_26 rfl (lv_at hl 2 rfl) ?_
        refine z_iushr C dX8_append_27 ?_
        refine z_i2b C dX8_append_28 ?_
        obtain ⟨g5, hm⟩ := grd_s hm
        refine c_bast C h (sh_2 hS) (ina_inb (n := 2000) (sl_2 hS) (Nat.le_of_ble_eq_true rfl) g5) dX8_append_29 (fun H locs h => ?_)
        refine z_aload_n C dX8_append_30 rfl (lv_at hl 0 rfl) ?_
        refine lv_dup C.1 C.2.1 dX8_append_31 (rfv_cat _ _) ?_
        refine cg_9_1 C h (sh_1 hS) cU_X8 (List.mem_cons_of_mem _ wl_X8_15) dX8_append_32 ?_
        refine x_topi (y := Int32.ofInt (fl σ 181 1)) rfl ?_
        refine lv_iconst (v := Int32.ofInt 1) C.1 C.2.1 dX8_append_35 (by decide) ?_
        refine z_iadd C dX8_append_36 ?_
        refine cp_9_1 C h (sh_1 hS) cU_X8 (List.mem_cons_of_mem _ wl_X8_15) dX8_append_37 (fun H locs h => ?_)
        refine lv_iinc (v := Int32.ofInt (x2 + (-8))) (lv' := [(2, .int (Int32.ofInt (x2 + (-8)))), (0, rfv g 1), (1, .int (Int32.ofInt x1))]) C.1 C.2.1 dX8_append_40 hl (k := 2) rfl (c32_add _ _) (by decide) rfl (fun ls hl => ?_)
        refine lv_goto (tgt := 3) C.1 C.2.1 dX8_append_43 (by decide) ?_
        exact hrec3 (lv_sub hl [1, 2, 0] rfl) h hm
set_option maxHeartbeats 8000000 in
set_option maxRecDepth 100000 in
theorem kc_Sc_append (l : Launch) (D : va_G) (k : Nat → ClassId) (z mi : Nat) (aK aV : Nat → Nat) (g : Nat → Nat) (N : Nat)    {π : Sh} {σ : St} {x1 : Int} {r : St} (hS : SHs π) (hm : Sc_append N π σ x1 = some r) : Mv l yX8_append (.code yX8_append cX8_append 3 none :: cWd) { frames := 0, cells := 0, slots := 0, locals := 0 } [rfv g 1, .int (Int32.ofInt x1)] D (TYs k) (cW k z g π σ) (XV z mi aK aV (cW k z g π σ)) Unit (fun _ => True) (fun _ => cW k z g π r) 0 0 := by
  intro sz
  refine v_met (cc := cX8_append) (maxL := 3) (ret := none) (lv := [(0, rfv g 1), (1, .int (Int32.ofInt x1))]) (by decide) rfl (by simp [lg_sl, rfv_cat, cat_i, cat_l]) (by simp [lv_args, rfv_cat, cat_i, cat_l]) ?_
  intro p e s m below meth c ls C hE hr hlk hmn hl h
  rw [Sc_append] at hm
  refine lv_bipush (v := Int32.ofInt 24) C.1 C.2.1 dX8_append_0 (by decide) ?_
  refine lv_istore_n (lv' := [(2, .int (Int32.ofInt 24)), (0, rfv g 1), (1, .int (Int32.ofInt x1))]) C.1 C.2.1 dX8_append_2 rfl hl (by decide) rfl (fun ls hl => ?_)
  exact kl_Sc_append_3 (N := N) C hr hlk hE hS N (lv_sub hl [1, 2, 0] rfl) h hm
end Z_Sc_append
section Z_Sc_restart
variable {p : Program} {l : Launch} {e : Env} {s : State} {m : MethodId} {args : Array Value} {below : List Frame} {meth : Method} {c : Code} {D : va_G} {A : Nat → Prop} {k : Nat → ClassId} {N : Nat} {cd : Cond} {z mi : Nat} {aK aV : Nat → Nat} {g : Nat → Nat} {π : Sh}
set_option maxHeartbeats 8000000 in
set_option maxRecDepth 100000 in
theorem kc_Sc_restart (l : Launch) (D : va_G) (k : Nat → ClassId) (z mi : Nat) (aK aV : Nat → Nat) (g : Nat → Nat) (N : Nat)    {π : Sh} {σ : St}  {r : St} (hS : SHs π) (hm : Sc_restart N π σ  = some r) : Mv l yX8_restart (.code yX8_restart cX8_restart 1 none :: cWd) { frames := 4, cells := 0, slots := 0, locals := 88 } [rfv g 1] D (TYs k) (cW k z g π σ) (XV z mi aK aV (cW k z g π σ)) Unit (fun _ => True) (fun _ => cW k z g π r) 0 0 := by
  intro sz
  refine v_met (cc := cX8_restart) (maxL := 1) (ret := none) (lv := [(0, rfv g 1)]) (by decide) rfl (by simp [lg_sl, rfv_cat, cat_i, cat_l]) (by simp [lv_args, rfv_cat, cat_i, cat_l]) ?_
  intro p e s m below meth c ls C hE hr hlk hmn hl h
  rw [Sc_restart] at hm
  refine z_aload_n C dX8_restart_0 rfl (lv_at hl 0 rfl) ?_
  refine lv_iconst (v := Int32.ofInt 0) C.1 C.2.1 dX8_restart_1 (by decide) ?_
  refine cp_9_2 C h (sh_1 hS) cU_X8 (List.mem_cons_of_mem _ wl_X8_19) dX8_restart_2 (fun H locs h => ?_)
  refine z_aload_n C dX8_restart_5 rfl (lv_at hl 0 rfl) ?_
  refine lv_iconst (v := Int32.ofInt 0) C.1 C.2.1 dX8_restart_6 (by decide) ?_
  refine cp_9_3 C h (sh_1 hS) cU_X8 (List.mem_cons_of_mem _ wl_X8_22) dX8_restart_7 (fun H locs h => ?_)
  refine z_aload_n C dX8_restart_10 rfl (lv_at hl 0 rfl) ?_
  refine lv_iconst (v := Int32.ofInt 0) C.1 C.2.1 dX8_restart_11 (by decide) ?_
  refine cp_9_4 C h (sh_1 hS) cU_X8 (List.mem_cons_of_mem _ wl_X8_25) dX8_restart_12 (fun H locs h => ?_)
  refine z_aload_n C dX8_restart_15 rfl (lv_at hl 0 rfl) ?_
  refine lv_iconst (v := Int32.ofInt 0) C.1 C.2.1 dX8_restart_16 (by decide) ?_
  refine cp_9_7 C h (sh_1 hS) cU_X8 (List.mem_cons_of_mem _ wl_X8_34) dX8_restart_17 (fun H locs h => ?_)
  refine z_aload_n C dX8_restart_20 rfl (lv_at hl 0 rfl) ?_
  obtain ⟨σ1, e2, hm⟩ := bnd_s hm
  rw [e2] at h
  obtain ⟨r4, e5, hm⟩ := obd_s hm
  refine c_callVvP C hE h (sh_1 hS) rfl (by decide) (kc_Sc_advance l D k z mi aK aV g N hS e5) (cwV 0 C.2.2.1 (gS_X8_47 _) rfl rfl rfl hd_X8_advance ⟨Nat.le_of_ble_eq_true rfl, Nat.le_of_ble_eq_true rfl⟩) rfl hl.1 rfl (Nat.le_of_ble_eq_true rfl) dX8_restart_21 ⟨(Nat.le_of_ble_eq_true rfl), (Nat.le_of_ble_eq_true rfl)⟩ (fun H locs h => ?_)
  cases hm
  exact c_vretP C h hr hlk dX8_restart_24
end Z_Sc_restart
section Z_Cs_feed
variable {p : Program} {l : Launch} {e : Env} {s : State} {m : MethodId} {args : Array Value} {below : List Frame} {meth : Method} {c : Code} {D : va_G} {A : Nat → Prop} {k : Nat → ClassId} {N : Nat} {cd : Cond} {z mi : Nat} {aK aV : Nat → Nat} {g : Nat → Nat} {π : Sh}
set_option maxHeartbeats 8000000 in
set_option maxRecDepth 100000 in
theorem kc_Cs_feed (l : Launch) (D : va_G) (k : Nat → ClassId) (z mi : Nat) (aK aV : Nat → Nat) (g : Nat → Nat) (N : Nat)    {π : Sh} {σ : St} {x1 : Int} {x2 : Int} {x3 : Int} {x4 : Int} {x5 : Int} {r : St × Int} (hS : SHs π) (hm : Cs_feed N π σ x1 x2 x3 x4 x5 = some r) : Mi l yX11_feed (.code yX11_feed cX11_feed 6 (some .boolean) :: cWd) { frames := 1, cells := 0, slots := 0, locals := 22 } [rfv g 0, .int (Int32.ofInt x1), .int (Int32.ofInt x2), .int (Int32.ofInt x3), .int (Int32.ofInt x4), .int (Int32.ofInt x5)] D (TYs k) (cW k z g π σ) (XV z mi aK aV (cW k z g π σ)) Unit (fun v _ => v = Int32.ofInt r.2) (fun _ => cW k z g π r.1) 0 0 := by
  intro sz
  refine v_met (cc := cX11_feed) (maxL := 6) (ret := (some .boolean)) (lv := [(0, rfv g 0), (1, .int (Int32.ofInt x1)), (2, .int (Int32.ofInt x2)), (3, .int (Int32.ofInt x3)), (4, .int (Int32.ofInt x4)), (5, .int (Int32.ofInt x5))]) (by decide) rfl (by simp [lg_sl, rfv_cat, cat_i, cat_l]) (by simp [lv_args, rfv_cat, cat_i, cat_l]) ?_
  intro p e s m below meth c ls C hE hr hlk hmn hl h
  rw [Cs_feed] at hm
  refine z_aload_n C dX11_feed_0 rfl (lv_at hl 0 rfl) ?_
  refine cg_12_0 C h (sh_0 hS) cU_X11 (List.mem_cons_of_mem _ wl_X11_10) dX11_feed_1 ?_
  refine cg_9_1 C h (sh_1 hS) cU_X8 (List.mem_cons_of_mem _ wl_X11_98) dX11_feed_4 ?_
  refine lv_bipush (v := Int32.ofInt 20) C.1 C.2.1 dX11_feed_7 (by decide) ?_
  refine z_iadd C dX11_feed_9 ?_
  refine lv_sipush (v := Int32.ofInt 2000) C.1 C.2.1 dX11_feed_10 (by decide) ?_
  obtain ⟨g1, hm⟩ := grd_s hm
  refine z_icmp_le (tgt := 18) C dX11_feed_13 (by decide) g1 (by decide) (fun c2 => ?_) (fun c2 => ?_)
  · have hm := ite_f c2 hm
    refine z_aload_n C dX11_feed_18 rfl (lv_at hl 0 rfl) ?_
    refine cg_12_0 C h (sh_0 hS) cU_X11 (List.mem_cons_of_mem _ wl_X11_10) dX11_feed_19 ?_
    refine lv_iload_n C.1 C.2.1 dX11_feed_22 rfl (lv_at hl 1 rfl) ?_
    obtain ⟨r3, e4, hm⟩ := obd_s hm
    refine c_callVvP C hE h (sh_1 hS) rfl (by decide) (kc_Sc_append l D k z mi aK aV g N hS e4) (cwV 1 C.2.2.1 (gS_X11_101 _) rfl rfl rfl hd_X8_append ⟨Nat.le_of_ble_eq_true rfl, Nat.le_of_ble_eq_true rfl⟩) rfl hl.1 rfl (Nat.le_of_ble_eq_true rfl) dX11_feed_23 ⟨(Nat.le_of_ble_eq_true rfl), (Nat.le_of_ble_eq_true rfl)⟩ (fun H locs h => ?_)
    refine z_aload_n C dX11_feed_26 rfl (lv_at hl 0 rfl) ?_
    refine cg_12_0 C h (sh_0 hS) cU_X11 (List.mem_cons_of_mem _ wl_X11_10) dX11_feed_27 ?_
    refine lv_iload_n C.1 C.2.1 dX11_feed_30 rfl (lv_at hl 2 rfl) ?_
    obtain ⟨r7, e8, hm⟩ := obd_s hm
    refine c_callVvP C hE h (sh_1 hS) rfl (by decide) (kc_Sc_append l D k z mi aK aV g N hS e8) (cwV 1 C.2.2.1 (gS_X11_101 _) rfl rfl rfl hd_X8_append ⟨Nat.le_of_ble_eq_true rfl, Nat.le_of_ble_eq_true rfl⟩) rfl hl.1 rfl (Nat.le_of_ble_eq_true rfl) dX11_feed_31 ⟨(Nat.le_of_ble_eq_true rfl), (Nat.le_of_ble_eq_true rfl)⟩ (fun H locs h => ?_)
    refine z_aload_n C dX11_feed_34 rfl (lv_at hl 0 rfl) ?_
    refine cg_12_0 C h (sh_0 hS) cU_X11 (List.mem_cons_of_mem _ wl_X11_10) dX11_feed_35 ?_
    refine lv_iload_n C.1 C.2.1 dX11_feed_38 rfl (lv_at hl 3 rfl) ?_
    obtain ⟨r11, e12, hm⟩ := obd_s hm
    refine c_callVvP C hE h (sh_1 hS) rfl (by decide) (kc_Sc_append l D k z mi aK aV g N hS e12) (cwV 1 C.2.2.1 (gS_X11_101 _) rfl rfl rfl hd_X8_append ⟨Nat.le_of_ble_eq_true rfl, Nat.le_of_ble_eq_true rfl⟩) rfl hl.1 rfl (Nat.le_of_ble_eq_true rfl) dX11_feed_39 ⟨(Nat.le_of_ble_eq_true rfl), (Nat.le_of_ble_eq_true rfl)⟩ (fun H locs h => ?_)
    refine z_aload_n C dX11_feed_42 rfl (lv_at hl 0 rfl) ?_
    refine cg_12_0 C h (sh_0 hS) cU_X11 (List.mem_cons_of_mem _ wl_X11_10) dX11_feed_43 ?_
    refine lv_iload C.1 C.2.1 dX11_feed_46 (lv_at hl 4 rfl) ?_
    obtain ⟨r15, e16, hm⟩ := obd_s hm
    refine c_callVvP C hE h (sh_1 hS) rfl (by decide) (kc_Sc_append l D k z mi aK aV g N hS e16) (cwV 1 C.2.2.1 (gS_X11_101 _) rfl rfl rfl hd_X8_append ⟨Nat.le_of_ble_eq_true rfl, Nat.le_of_ble_eq_true rfl⟩) rfl hl.1 rfl (Nat.le_of_ble_eq_true rfl) dX11_feed_48 ⟨(Nat.le_of_ble_eq_true rfl), (Nat.le_of_ble_eq_true rfl)⟩ (fun H locs h => ?_)
    refine z_aload_n C dX11_feed_51 rfl (lv_at hl 0 rfl) ?_
    refine cg_12_0 C h (sh_0 hS) cU_X11 (List.mem_cons_of_mem _ wl_X11_10) dX11_feed_52 ?_
    refine lv_iload C.1 C.2.1 dX11_feed_55 (lv_at hl 5 rfl) ?_
    obtain ⟨r19, e20, hm⟩ := obd_s hm
    refine c_callVvP C hE h (sh_1 hS) rfl (by decide) (kc_Sc_append l D k z mi aK aV g N hS e20) (cwV 1 C.2.2.1 (gS_X11_101 _) rfl rfl rfl hd_X8_append ⟨Nat.le_of_ble_eq_true rfl, Nat.le_of_ble_eq_true rfl⟩) rfl hl.1 rfl (Nat.le_of_ble_eq_true rfl) dX11_feed_57 ⟨(Nat.le_of_ble_eq_true rfl), (Nat.le_of_ble_eq_true rfl)⟩ (fun H locs h => ?_)
    refine lv_iconst (v := Int32.ofInt 1) C.1 C.2.1 dX11_feed_60 (by decide) ?_
    cases hm
    exact c_iretP C h hr hlk dX11_feed_61 rfl
  · have hm := ite_t c2 hm
    refine lv_iconst (v := Int32.ofInt 0) C.1 C.2.1 dX11_feed_16 (by decide) ?_
    cases hm
    exact c_iretP C h hr hlk dX11_feed_17 rfl
end Z_Cs_feed
section Z_Cs_end
variable {p : Program} {l : Launch} {e : Env} {s : State} {m : MethodId} {args : Array Value} {below : List Frame} {meth : Method} {c : Code} {D : va_G} {A : Nat → Prop} {k : Nat → ClassId} {N : Nat} {cd : Cond} {z mi : Nat} {aK aV : Nat → Nat} {g : Nat → Nat} {π : Sh}
set_option maxHeartbeats 8000000 in
set_option maxRecDepth 100000 in
theorem kc_Cs_end (l : Launch) (D : va_G) (k : Nat → ClassId) (z mi : Nat) (aK aV : Nat → Nat) (g : Nat → Nat) (N : Nat)    {π : Sh} {σ : St} {x1 : Int} {r : St × Int} (hS : SHs π) (hm : Cs_end N π σ x1 = some r) : Mi l yX11_end (.code yX11_end cX11_end 2 (some .boolean) :: cWd) { frames := 0, cells := 0, slots := 0, locals := 0 } [rfv g 0, .int (Int32.ofInt x1)] D (TYs k) (cW k z g π σ) (XV z mi aK aV (cW k z g π σ)) Unit (fun v _ => v = Int32.ofInt r.2) (fun _ => cW k z g π r.1) 0 0 := by
  intro sz
  refine v_met (cc := cX11_end) (maxL := 2) (ret := (some .boolean)) (lv := [(0, rfv g 0), (1, .int (Int32.ofInt x1))]) (by decide) rfl (by simp [lg_sl, rfv_cat, cat_i, cat_l]) (by simp [lv_args, rfv_cat, cat_i, cat_l]) ?_
  intro p e s m below meth c ls C hE hr hlk hmn hl h
  rw [Cs_end] at hm
  refine lv_iload_n C.1 C.2.1 dX11_end_0 rfl (lv_at hl 1 rfl) ?_
  obtain ⟨g1, hm⟩ := grd_s hm
  refine z_if_lt (tgt := 15) C dX11_end_1 (by decide) g1 (fun c2 => ?_) (fun c2 => ?_)
  · have hm := ite_t c2 hm
    refine lv_iconst (v := Int32.ofInt 0) C.1 C.2.1 dX11_end_15 (by decide) ?_
    cases hm
    exact c_iretP C h hr hlk dX11_end_16 rfl
  · have hm := ite_f c2 hm
    refine lv_iload_n C.1 C.2.1 dX11_end_4 rfl (lv_at hl 1 rfl) ?_
    refine z_aload_n C dX11_end_5 rfl (lv_at hl 0 rfl) ?_
    refine cg_12_0 C h (sh_0 hS) cU_X11 (List.mem_cons_of_mem _ wl_X11_10) dX11_end_6 ?_
    refine cg_9_1 C h (sh_1 hS) cU_X8 (List.mem_cons_of_mem _ wl_X11_98) dX11_end_9 ?_
    obtain ⟨g3, hm⟩ := grd_s hm
    refine z_icmp_le (tgt := 17) C dX11_end_12 (by decide) g1 g3 (fun c4 => ?_) (fun c4 => ?_)
    · have hm := ite_f c4 hm
      refine z_aload_n C dX11_end_17 rfl (lv_at hl 0 rfl) ?_
      refine cg_12_0 C h (sh_0 hS) cU_X11 (List.mem_cons_of_mem _ wl_X11_10) dX11_end_18 ?_
      refine lv_iload_n C.1 C.2.1 dX11_end_21 rfl (lv_at hl 1 rfl) ?_
      refine cp_9_1 C h (sh_1 hS) cU_X8 (List.mem_cons_of_mem _ wl_X11_98) dX11_end_22 (fun H locs h => ?_)
      refine lv_iconst (v := Int32.ofInt 1) C.1 C.2.1 dX11_end_25 (by decide) ?_
      cases hm
      exact c_iretP C h hr hlk dX11_end_26 rfl
    · have hm := ite_t c4 hm
      refine lv_iconst (v := Int32.ofInt 0) C.1 C.2.1 dX11_end_15 (by decide) ?_
      cases hm
      exact c_iretP C h hr hlk dX11_end_16 rfl
end Z_Cs_end
section Z_Cs_copyDefinitions
variable {p : Program} {l : Launch} {e : Env} {s : State} {m : MethodId} {args : Array Value} {below : List Frame} {meth : Method} {c : Code} {D : va_G} {A : Nat → Prop} {k : Nat → ClassId} {N : Nat} {cd : Cond} {z mi : Nat} {aK aV : Nat → Nat} {g0 : Nat → Nat} {π0 : Sh}
set_option maxHeartbeats 8000000 in
set_option maxRecDepth 100000 in
theorem kl_Cs_copyDefinitions_26 {r : Sh × St} (C : Cx p s m args c cX11_copyDefinitions RX11 (cd :: cWd) D (TYs k) 3) (hr : meth.sig.returnType = none) (hlk : meth.locks = false) (hE : Ev z mi aK aV A s s.heap)   {rec6 : Sh → St → Int → Int → Int → Option (Sh × St)} (krec6 : ∀ {π : Sh} {σ : St} {x0 : Int} {x1 : Int} {x2 : Int}, Cl π σ → x0 < nn π → x1 < nn π → rec6 π σ x0 x1 x2 = some r → ext π r.1 ∧ Cl r.1 r.2) (hrec6 : ∀ {ls : Array Slot} {H : Heap} {locs : List Loc} {g : Nat → Nat} {π : Sh} {σ : St} {x0 : Int} {x1 : Int} {x2 : Int}, Cl π σ → gx (nn π0) g0 g → ext π0 π → x0 < nn π → x1 < nn π → lv_has ls 3 [(0, rfv g x0), (1, rfv g x1), (2, .int (Int32.ofInt x2))] → Hp D A s.heap H locs (cW k z g π σ) → rec6 π σ x0 x1 x2 = some r → W p l e { frames := 7, cells := nn r.1 - nn π0, slots := sw r.1 - sw π0, locals := 241 } s m args below meth c H locs (nn π - nn π0) (sw π - sw π0) (MQ below (va_Qv (fun u => gx (nn π0) g0 u) (fun u t => PostW D (TYs k) A (cW k z u r.1 r.2) t) A) args s (nn r.1 - nn π0) (sw r.1 - sw π0) A) (F0 m 6 ls [])) {ls : Array Slot} {H : Heap} {locs : List Loc} {g : Nat → Nat} {π : Sh} {σ : St} {x0 : Int} {x1 : Int} {x2 : Int} {s0 : Int} (hC : Cl π σ) (hG : gx (nn π0) g0 g) (hX : ext π0 π) (hv_x0 : x0 < nn π) (hv_x1 : x1 < nn π) (hl : lv_has ls 3 [(0, rfv g x0), (1, rfv g x1), (2, .int (Int32.ofInt x2))]) (h : Hp D A s.heap H locs (cW k z g π σ)) (hm : Cs_copyDefinitions_26 N rec6 π σ x0 x1 x2 s0 = some r) : W p l e { frames := 7, cells := nn r.1 - nn π0, slots := sw r.1 - sw π0, locals := 241 } s m args below meth c H locs (nn π - nn π0) (sw π - sw π0) (MQ below (va_Qv (fun u => gx (nn π0) g0 u) (fun u t => PostW D (TYs k) A (cW k z u r.1 r.2) t) A) args s (nn r.1 - nn π0) (sw r.1 - sw π0) A) (F0 m 26 ls [.int (Int32.ofInt s0)]) := by
  have hS := hC.1
  have hq := km_Cs_copyDefinitions_26  krec6  hC hv_x0 hv_x1 hm
  rw [Cs_copyDefinitions_26] at hm
  refine lv_pop C.1 C.2.1 dX11_copyDefinitions_26 rfl ?_
  refine lv_iinc (v := Int32.ofInt (x2 + 1)) (lv' := [(2, .int (Int32.ofInt (x2 + 1))), (0, rfv g x0), (1, rfv g x1)]) C.1 C.2.1 dX11_copyDefinitions_27 hl (k := 2) rfl (c32_add _ _) (by decide) (by simp [rfv_cat, cat_i, cat_l]) (fun ls hl => ?_)
  refine lv_goto (tgt := 6) C.1 C.2.1 dX11_copyDefinitions_30 (by decide) ?_
  exact hrec6 hC hG hX hv_x0 hv_x1 (lv_sub hl [1, 2, 0] rfl) h hm
set_option maxHeartbeats 8000000 in
set_option maxRecDepth 100000 in
theorem kl_Cs_copyDefinitions_6 {r : Sh × St} (C : Cx p s m args c cX11_copyDefinitions RX11 (cd :: cWd) D (TYs k) 3) (hr : meth.sig.returnType = none) (hlk : meth.locks = false) (hE : Ev z mi aK aV A s s.heap)    (n : Nat) : ∀ {ls : Array Slot} {H : Heap} {locs : List Loc} {g : Nat → Nat} {π : Sh} {σ : St} {x0 : Int} {x1 : Int} {x2 : Int}, Cl π σ → gx (nn π0) g0 g → ext π0 π → x0 < nn π → x1 < nn π → lv_has ls 3 [(0, rfv g x0), (1, rfv g x1), (2, .int (Int32.ofInt x2))] → Hp D A s.heap H locs (cW k z g π σ) → Cs_copyDefinitions_6 N n π σ x0 x1 x2 = some r → W p l e { frames := 7, cells := nn r.1 - nn π0, slots := sw r.1 - sw π0, locals := 241 } s m args below meth c H locs (nn π - nn π0) (sw π - sw π0) (MQ below (va_Qv (fun u => gx (nn π0) g0 u) (fun u t => PostW D (TYs k) A (cW k z u r.1 r.2) t) A) args s (nn r.1 - nn π0) (sw r.1 - sw π0) A) (F0 m 6 ls []) := by
  induction n with
  | zero => intro ls H locs g π σ x0 x1 x2 hC hG hX hv_x0 hv_x1 hl h hm; cases (show none = some r from hm)
  | succ n hrec6 =>
    intro ls H locs g π σ x0 x1 x2 hC hG hX hv_x0 hv_x1 hl h hm
    have hS := hC.1
    have hq := km_Cs_copyDefinitions_6   (n + 1) hC hv_x0 hv_x1 hm
    have krec6 : ∀ {π : Sh} {σ : St} {x0 : Int} {x1 : Int} {x2 : Int}, Cl π σ → x0 < nn π → x1 < nn π → Cs_copyDefinitions_6 N n π σ x0 x1 x2 = some r → ext π r.1 ∧ Cl r.1 r.2 := fun {_ _} {_} {_} {_} => km_Cs_copyDefinitions_6   n
    rw [Cs_copyDefinitions_6] at hm
    refine lv_iload_n C.1 C.2.1 dX11_copyDefinitions_6 rfl (lv_at hl 2 rfl) ?_
    refine z_aload_n C dX11_copyDefinitions_7 rfl (lv_at hl 0 rfl) ?_
    obtain ⟨r6, e7, hm⟩ := obd_s hm
    have q8 := (km_L_size hC hv_x0 e7)
    obtain ⟨g9, hm⟩ := grd_s hm
    refine c_callViP C hE h g9 rfl (by decide) (kc_L_size l D k z mi aK aV g hS e7) (cwV 0 C.2.2.1 (gS_X11_124 _) rfl rfl rfl hd_Jx4a65c_size_8abf5 ⟨Nat.le_of_ble_eq_true rfl, Nat.le_of_ble_eq_true rfl⟩) rfl hl.1 rfl (Nat.le_of_ble_eq_true rfl) dX11_copyDefinitions_8 ⟨(czz hX hq.1), (szz hX hq.1)⟩ (fun H locs h => ?_)
    have hC10 : Cl π r6.1 := q8
    obtain ⟨g11, hm⟩ := grd_s hm
    obtain ⟨g12, hm⟩ := grd_s hm
    refine z_icmp_ge (tgt := 33) C dX11_copyDefinitions_11 (by decide) g11 g12 (fun c13 => ?_) (fun c13 => ?_)
    · have hm := ite_f c13 hm
      cases hm
      exact c_vretA C hG h hr hlk dX11_copyDefinitions_33
    · have hm := ite_t c13 hm
      refine z_aload_n C dX11_copyDefinitions_14 rfl (lv_at hl 1 rfl) ?_
      refine z_aload_n C dX11_copyDefinitions_15 rfl (lv_at hl 0 rfl) ?_
      refine lv_iload_n C.1 C.2.1 dX11_copyDefinitions_16 rfl (lv_at hl 2 rfl) ?_
      obtain ⟨r14, e15, hm⟩ := obd_s hm
      have q16 := (km_L_get hC10 hv_x0 e15)
      refine c_callVqP C hE h g9 rfl (by decide) (kc_L_get l D k z mi aK aV g hS e15) (cwV 1 C.2.2.1 (gS_X11_252 _) rfl rfl rfl hd_Jx4a65c_get_915e3 ⟨Nat.le_of_ble_eq_true rfl, Nat.le_of_ble_eq_true rfl⟩) rfl hl.1 rfl (by simp [rfv_cat, cat_i, cat_l]) dX11_copyDefinitions_17 ⟨(czz hX hq.1), (szz hX hq.1)⟩ (fun H locs h => ?_)
      have hC17 : Cl π r14.1 := q16.1
      obtain ⟨g18, hm⟩ := grd_s hm
      refine v_cast C h g18 rfl (by decide) hE.2.1 (List.mem_cons_of_mem _ wc_X11_244) dX11_copyDefinitions_20 ?_
      obtain ⟨r19, e20, hm⟩ := obd_s hm
      have q21 := (km_L_add hC17 hv_x1 q16.2 e20)
      obtain ⟨g22, hm⟩ := grd_s hm
      have q := km_Cs_copyDefinitions_26  krec6 q21.2 (lt_ext hv_x0 q21.1) (lt_ext hv_x1 q21.1) hm
      refine c_callViA C hE h g22 rfl (by decide) (kc_L_add l D k z mi aK aV g hC17 hv_x1 q16.2 e20) (cwV 1 C.2.2.1 (gS_X11_263 _) rfl rfl rfl hd_Jx4a65c_add_9ea2d ⟨Nat.le_of_ble_eq_true rfl, Nat.le_of_ble_eq_true rfl⟩) rfl hl.1 rfl (Nat.le_of_ble_eq_true rfl) dX11_copyDefinitions_23 ⟨rcC hX q21.1 q.1, rsC hX q21.1 q.1⟩ (fun u H locs hg h => ?_)
      simp only [← gx_rfv hg hv_x0, ← gx_rfv hg hv_x1] at hl
      try simp only [← gx_rfv hg hv_x0, ← gx_rfv hg hv_x1]
      refine W_cast (wcC hX q21.1).symm (wsC hX q21.1).symm ?_
      exact kl_Cs_copyDefinitions_26 (N := N) C hr hlk hE  krec6 hrec6 q21.2 (hG.tr hg hX.1) (hX.tr q21.1) (lt_ext hv_x0 q21.1) (lt_ext hv_x1 q21.1) (lv_sub hl [0, 1, 2] rfl) h hm
set_option maxHeartbeats 8000000 in
set_option maxRecDepth 100000 in
theorem kc_Cs_copyDefinitions (l : Launch) (D : va_G) (k : Nat → ClassId) (z mi : Nat) (aK aV : Nat → Nat) (g : Nat → Nat) (N : Nat)    {π : Sh} {σ : St} {x0 : Int} {x1 : Int} {r : Sh × St} (hC : Cl π σ) (hv_x0 : x0 < nn π) (hv_x1 : x1 < nn π) (hm : Cs_copyDefinitions N π σ x0 x1 = some r) : Mv l yX11_copyDefinitions (.code yX11_copyDefinitions cX11_copyDefinitions 3 none :: cWd) { frames := 7, cells := nn r.1 - nn π, slots := sw r.1 - sw π, locals := 241 } [rfv g x0, rfv g x1] D (TYs k) (cW k z g π σ) (XV z mi aK aV (cW k z g π σ)) (Nat → Nat) (fun u => gx (nn π) g u) (fun u => cW k z u r.1 r.2) (nn r.1 - nn π) (sw r.1 - sw π) := by
  have hS := hC.1
  have hq := km_Cs_copyDefinitions  hC hv_x0 hv_x1 hm
  intro sz
  refine v_met (cc := cX11_copyDefinitions) (maxL := 3) (ret := none) (lv := [(0, rfv g x0), (1, rfv g x1)]) (by decide) rfl (by simp [lg_sl, rfv_cat, cat_i, cat_l]) (by simp [lv_args, rfv_cat, cat_i, cat_l]) ?_
  intro p e s m below meth c ls C hE hr hlk hmn hl h
  generalize ([rfv g x0, rfv g x1] : List Value).toArray = args at C ⊢
  have hG := gx.rf (nn π) g
  have hX := ext.rf π
  refine W_cast (Nat.sub_self (nn π)) (Nat.sub_self (sw π)) ?_
  rw [Cs_copyDefinitions] at hm
  refine z_aload_n C dX11_copyDefinitions_0 rfl (lv_at hl 1 rfl) ?_
  obtain ⟨r1, e2, hm⟩ := obd_s hm
  have q3 := (km_L_clear hC hv_x1 e2)
  obtain ⟨g4, hm⟩ := grd_s hm
  refine c_callVvP C hE h g4 rfl (by decide) (kc_L_clear l D k z mi aK aV g hS e2) (cwV 0 C.2.2.1 (gS_X11_267 _) rfl rfl rfl hd_Jx4a65c_clear_da8c8 ⟨Nat.le_of_ble_eq_true rfl, Nat.le_of_ble_eq_true rfl⟩) rfl hl.1 rfl (Nat.le_of_ble_eq_true rfl) dX11_copyDefinitions_1 ⟨(czz hX hq.1), (szz hX hq.1)⟩ (fun H locs h => ?_)
  have hC5 : Cl π r1 := q3
  refine lv_iconst (v := Int32.ofInt 0) C.1 C.2.1 dX11_copyDefinitions_4 (by decide) ?_
  refine lv_istore_n (i := 2) (lv' := [(2, .int (Int32.ofInt 0)), (0, rfv g x0), (1, rfv g x1)]) C.1 C.2.1 dX11_copyDefinitions_5 rfl hl (by decide) (by simp [rfv_cat, cat_i, cat_l]) (fun ls hl => ?_)
  exact kl_Cs_copyDefinitions_6 (N := N) C hr hlk hE N hC5 hG hX hv_x0 hv_x1 (lv_sub hl [1, 2, 0] rfl) h hm
end Z_Cs_copyDefinitions
section Z_Cs_finishReading
variable {p : Program} {l : Launch} {e : Env} {s : State} {m : MethodId} {args : Array Value} {below : List Frame} {meth : Method} {c : Code} {D : va_G} {A : Nat → Prop} {k : Nat → ClassId} {N : Nat} {cd : Cond} {z mi : Nat} {aK aV : Nat → Nat} {g : Nat → Nat} {π : Sh}
set_option maxHeartbeats 8000000 in
set_option maxRecDepth 100000 in
theorem kl_Cs_finishReading_60 {r : St × Int} (C : Cx p s m args c cX11_finishReading RX11 (cd :: cWd) D (TYs k) 2) (hr : meth.sig.returnType = (some .int)) (hlk : meth.locks = false) (hE : Ev z mi aK aV A s s.heap) (hS : SHs π)    {ls : Array Slot} {H : Heap} {locs : List Loc} {σ : St} {x1 : Int}  (hl : lv_has ls 2 [(0, rfv g 0), (1, .int (Int32.ofInt x1))]) (h : Hp D A s.heap H locs (cW k z g π σ)) (hm : Cs_finishReading_60 N π σ x1 = some r) : W p l e { frames := 0, cells := 0, slots := 0, locals := 0 } s m args below meth c H locs 0 0 (MQ below (va_Qi (fun v (_ : Unit) => v = Int32.ofInt r.2) (fun _ t => PostW D (TYs k) A (cW k z g π r.1) t) A) args s 0 0 A) (F0 m 60 ls []) := by
  rw [Cs_finishReading_60] at hm
  refine z_aload_n C dX11_finishReading_60 rfl (lv_at hl 0 rfl) ?_
  refine z_aload_n C dX11_finishReading_61 rfl (lv_at hl 0 rfl) ?_
  refine cg_12_1 C h (sh_0 hS) cU_X11 (List.mem_cons_of_mem _ wl_X11_19) dX11_finishReading_62 ?_
  refine cg_4_7 C h (sh_3 hS) cU_X3 (List.mem_cons_of_mem _ wl_X11_240) dX11_finishReading_65 ?_
  refine cp_12_18 C h (sh_0 hS) cU_X11 (List.mem_cons_of_mem _ wl_X11_95) dX11_finishReading_68 (fun H locs h => ?_)
  refine z_aload_n C dX11_finishReading_71 rfl (lv_at hl 0 rfl) ?_
  refine cg_12_0 C h (sh_0 hS) cU_X11 (List.mem_cons_of_mem _ wl_X11_10) dX11_finishReading_72 ?_
  refine lv_iconst (v := Int32.ofInt 0) C.1 C.2.1 dX11_finishReading_75 (by decide) ?_
  refine cp_9_1 C h (sh_1 hS) cU_X8 (List.mem_cons_of_mem _ wl_X11_98) dX11_finishReading_76 (fun H locs h => ?_)
  refine lv_iload_n C.1 C.2.1 dX11_finishReading_79 rfl (lv_at hl 1 rfl) ?_
  cases hm
  exact c_iretP C h hr hlk dX11_finishReading_80 rfl
set_option maxHeartbeats 8000000 in
set_option maxRecDepth 100000 in
theorem kc_Cs_finishReading (l : Launch) (D : va_G) (k : Nat → ClassId) (z mi : Nat) (aK aV : Nat → Nat) (g : Nat → Nat) (N : Nat)    {π : Sh} {σ : St} {x1 : Int} {r : St × Int} (hS : SHs π) (hm : Cs_finishReading N π σ x1 = some r) : Mi l yX11_finishReading (.code yX11_finishReading cX11_finishReading 2 (some .int) :: cWd) { frames := 0, cells := 0, slots := 0, locals := 0 } [rfv g 0, .int (Int32.ofInt x1)] D (TYs k) (cW k z g π σ) (XV z mi aK aV (cW k z g π σ)) Unit (fun v _ => v = Int32.ofInt r.2) (fun _ => cW k z g π r.1) 0 0 := by
  intro sz
  refine v_met (cc := cX11_finishReading) (maxL := 2) (ret := (some .int)) (lv := [(0, rfv g 0), (1, .int (Int32.ofInt x1))]) (by decide) rfl (by simp [lg_sl, rfv_cat, cat_i, cat_l]) (by simp [lv_args, rfv_cat, cat_i, cat_l]) ?_
  intro p e s m below meth c ls C hE hr hlk hmn hl h
  rw [Cs_finishReading] at hm
  refine z_aload_n C dX11_finishReading_0 rfl (lv_at hl 0 rfl) ?_
  refine lv_iconst (v := Int32.ofInt 1) C.1 C.2.1 dX11_finishReading_1 (by decide) ?_
  refine cp_12_15 C h (sh_0 hS) (by decide) cU_X11 (List.mem_cons_of_mem _ wl_X11_85) dX11_finishReading_2 (fun H locs h => ?_)
  refine z_aload_n C dX11_finishReading_5 rfl (lv_at hl 0 rfl) ?_
  refine lv_iload_n C.1 C.2.1 dX11_finishReading_6 rfl (lv_at hl 1 rfl) ?_
  refine cp_12_16 C h (sh_0 hS) cU_X11 (List.mem_cons_of_mem _ wl_X11_89) dX11_finishReading_7 (fun H locs h => ?_)
  refine z_aload_n C dX11_finishReading_10 rfl (lv_at hl 0 rfl) ?_
  refine lv_iconst (v := Int32.ofInt (-1)) C.1 C.2.1 dX11_finishReading_11 (by decide) ?_
  refine cp_12_17 C h (sh_0 hS) cU_X11 (List.mem_cons_of_mem _ wl_X11_92) dX11_finishReading_12 (fun H locs h => ?_)
  refine z_aload_n C dX11_finishReading_15 rfl (lv_at hl 0 rfl) ?_
  refine cg_12_0 C h (sh_0 hS) cU_X11 (List.mem_cons_of_mem _ wl_X11_10) dX11_finishReading_16 ?_
  refine cg_9_2 C h (sh_1 hS) cU_X8 (List.mem_cons_of_mem _ wl_X11_120) dX11_finishReading_19 ?_
  refine x_topi (y := Int32.ofInt (fl σ 182 1)) rfl ?_
  obtain ⟨g1, hm⟩ := grd_s hm
  refine z_if_eq (tgt := 39) C dX11_finishReading_22 (by decide) g1 (fun c2 => ?_) (fun c2 => ?_)
  · have hm := ite_t c2 hm
    refine z_aload_n C dX11_finishReading_39 rfl (lv_at hl 0 rfl) ?_
    refine cg_12_1 C h (sh_0 hS) cU_X11 (List.mem_cons_of_mem _ wl_X11_19) dX11_finishReading_40 ?_
    refine cg_4_8 C h (sh_3 hS) cU_X3 (List.mem_cons_of_mem _ wl_X11_123) dX11_finishReading_43 ?_
    refine x_topi (y := Int32.ofInt (fl σ 88 3)) rfl ?_
    obtain ⟨g3, hm⟩ := grd_s hm
    refine z_if_eq (tgt := 60) C dX11_finishReading_46 (by decide) g3 (fun c4 => ?_) (fun c4 => ?_)
    · have hm := ite_t c4 hm
      exact kl_Cs_finishReading_60 (N := N) C hr hlk hE hS (lv_sub hl [0, 1] rfl) h hm
    · have hm := ite_f c4 hm
      refine z_aload_n C dX11_finishReading_49 rfl (lv_at hl 0 rfl) ?_
      refine z_aload_n C dX11_finishReading_50 rfl (lv_at hl 0 rfl) ?_
      refine cg_12_1 C h (sh_0 hS) cU_X11 (List.mem_cons_of_mem _ wl_X11_19) dX11_finishReading_51 ?_
      refine cg_4_9 C h (sh_3 hS) cU_X3 (List.mem_cons_of_mem _ wl_X11_239) dX11_finishReading_54 ?_
      refine x_topi (y := Int32.ofInt (fl σ 89 3)) rfl ?_
      refine cp_12_17 C h (sh_0 hS) cU_X11 (List.mem_cons_of_mem _ wl_X11_92) dX11_finishReading_57 (fun H locs h => ?_)
      exact kl_Cs_finishReading_60 (N := N) C hr hlk hE hS (lv_sub hl [0, 1] rfl) h hm
  · have hm := ite_f c2 hm
    refine z_aload_n C dX11_finishReading_25 rfl (lv_at hl 0 rfl) ?_
    refine z_aload_n C dX11_finishReading_26 rfl (lv_at hl 0 rfl) ?_
    refine cg_12_0 C h (sh_0 hS) cU_X11 (List.mem_cons_of_mem _ wl_X11_10) dX11_finishReading_27 ?_
    refine cg_9_3 C h (sh_1 hS) cU_X8 (List.mem_cons_of_mem _ wl_X11_236) dX11_finishReading_30 ?_
    refine x_topi (y := Int32.ofInt (fl σ 183 1)) rfl ?_
    refine cp_12_17 C h (sh_0 hS) cU_X11 (List.mem_cons_of_mem _ wl_X11_92) dX11_finishReading_33 (fun H locs h => ?_)
    refine lv_goto (tgt := 60) C.1 C.2.1 dX11_finishReading_36 (by decide) ?_
    exact kl_Cs_finishReading_60 (N := N) C hr hlk hE hS (lv_sub hl [0, 1] rfl) h hm
end Z_Cs_finishReading
section Z_Cs_startReading
variable {p : Program} {l : Launch} {e : Env} {s : State} {m : MethodId} {args : Array Value} {below : List Frame} {meth : Method} {c : Code} {D : va_G} {A : Nat → Prop} {k : Nat → ClassId} {N : Nat} {cd : Cond} {z mi : Nat} {aK aV : Nat → Nat} {g0 : Nat → Nat} {π0 : Sh}
set_option maxHeartbeats 8000000 in
set_option maxRecDepth 100000 in
theorem kl_Cs_startReading_11 {r : Sh × St} (C : Cx p s m args c cX11_startReading RX11 (cd :: cWd) D (TYs k) 1) (hr : meth.sig.returnType = none) (hlk : meth.locks = false) (hE : Ev z mi aK aV A s s.heap)    {ls : Array Slot} {H : Heap} {locs : List Loc} {g : Nat → Nat} {π : Sh} {σ : St}  (hC : Cl π σ) (hG : gx (nn π0) g0 g) (hX : ext π0 π)  (hl : lv_has ls 1 [(0, rfv g 0)]) (h : Hp D A s.heap H locs (cW k z g π σ)) (hm : Cs_startReading_11 N π σ  = some r) : W p l e { frames := 8, cells := nn r.1 - nn π0, slots := sw r.1 - sw π0, locals := 263 } s m args below meth c H locs (nn π - nn π0) (sw π - sw π0) (MQ below (va_Qv (fun u => gx (nn π0) g0 u) (fun u t => PostW D (TYs k) A (cW k z u r.1 r.2) t) A) args s (nn r.1 - nn π0) (sw r.1 - sw π0) A) (F0 m 11 ls []) := by
  have hS := hC.1
  have hq := km_Cs_startReading_11    hC  hm
  rw [Cs_startReading_11] at hm
  refine z_aload_n C dX11_startReading_11 rfl (lv_at hl 0 rfl) ?_
  refine cg_12_0 C h (sh_0 hS) cU_X11 (List.mem_cons_of_mem _ wl_X11_10) dX11_startReading_12 ?_
  obtain ⟨r4, e5, hm⟩ := obd_s hm
  have q6 := (km_Sc_restart hC e5)
  refine c_callVvP C hE h (sh_1 hS) rfl (by decide) (kc_Sc_restart l D k z mi aK aV g N hS e5) (cwV 0 C.2.2.1 (gS_X11_232 _) rfl rfl rfl hd_X8_restart ⟨Nat.le_of_ble_eq_true rfl, Nat.le_of_ble_eq_true rfl⟩) rfl hl.1 rfl (Nat.le_of_ble_eq_true rfl) dX11_startReading_15 ⟨(czz hX hq.1), (szz hX hq.1)⟩ (fun H locs h => ?_)
  have hC7 : Cl π r4 := q6
  refine z_aload_n C dX11_startReading_18 rfl (lv_at hl 0 rfl) ?_
  refine cg_12_1 C h (sh_0 hS) cU_X11 (List.mem_cons_of_mem _ wl_X11_19) dX11_startReading_19 ?_
  obtain ⟨r8, e9, hm⟩ := obd_s hm
  have q10 := (km_Mk_restart hC7 e9)
  refine c_callVvP C hE h (sh_3 hS) rfl (by decide) (kc_Mk_restart l D k z mi aK aV g N hS e9) (cwV 0 C.2.2.1 (gS_X11_235 _) rfl rfl rfl hd_X3_restart ⟨Nat.le_of_ble_eq_true rfl, Nat.le_of_ble_eq_true rfl⟩) rfl hl.1 rfl (Nat.le_of_ble_eq_true rfl) dX11_startReading_22 ⟨(czz hX hq.1), (szz hX hq.1)⟩ (fun H locs h => ?_)
  have hC11 : Cl π r8 := q10
  cases hm
  exact c_vretA C hG h hr hlk dX11_startReading_25
set_option maxHeartbeats 8000000 in
set_option maxRecDepth 100000 in
theorem kc_Cs_startReading (l : Launch) (D : va_G) (k : Nat → ClassId) (z mi : Nat) (aK aV : Nat → Nat) (g : Nat → Nat) (N : Nat)    {π : Sh} {σ : St}  {r : Sh × St} (hC : Cl π σ)  (hm : Cs_startReading N π σ  = some r) : Mv l yX11_startReading (.code yX11_startReading cX11_startReading 1 none :: cWd) { frames := 8, cells := nn r.1 - nn π, slots := sw r.1 - sw π, locals := 263 } [rfv g 0] D (TYs k) (cW k z g π σ) (XV z mi aK aV (cW k z g π σ)) (Nat → Nat) (fun u => gx (nn π) g u) (fun u => cW k z u r.1 r.2) (nn r.1 - nn π) (sw r.1 - sw π) := by
  have hS := hC.1
  have hq := km_Cs_startReading  hC  hm
  intro sz
  refine v_met (cc := cX11_startReading) (maxL := 1) (ret := none) (lv := [(0, rfv g 0)]) (by decide) rfl (by simp [lg_sl, rfv_cat, cat_i, cat_l]) (by simp [lv_args, rfv_cat, cat_i, cat_l]) ?_
  intro p e s m below meth c ls C hE hr hlk hmn hl h
  generalize ([rfv g 0] : List Value).toArray = args at C ⊢
  have hG := gx.rf (nn π) g
  have hX := ext.rf π
  refine W_cast (Nat.sub_self (nn π)) (Nat.sub_self (sw π)) ?_
  rw [Cs_startReading] at hm
  refine z_aload_n C dX11_startReading_0 rfl (lv_at hl 0 rfl) ?_
  refine cg_12_5 C h (sh_0 hS) cU_X11 (List.mem_cons_of_mem _ wl_X11_43) dX11_startReading_1 ?_
  refine z_aload_n C dX11_startReading_4 rfl (lv_at hl 0 rfl) ?_
  refine cg_12_6 C h (sh_0 hS) cU_X11 (List.mem_cons_of_mem _ wl_X11_47) dX11_startReading_5 ?_
  obtain ⟨r1, e2, hm⟩ := obd_s hm
  have q3 := (km_Cs_copyDefinitions hC (sh_42 hS).2.1 (sh_43 hS).2.1 e2)
  have q := km_Cs_startReading_11   q3.2  hm
  refine c_callSvA C hE h (kc_Cs_copyDefinitions l D k z mi aK aV g N hC (sh_42 hS).2.1 (sh_43 hS).2.1 e2) (v_cwS 2 C.2.2.1 (gC_X11_copyDefinitions _) rfl rfl rfl (C.2.2.1 _ (List.mem_cons_of_mem _ wt_X11)) (C.2.2.1 _ (List.mem_cons_of_mem _ wm_X11_127)) (C.2.2.1 _ (List.mem_cons_of_mem _ ws_X11_copyDefinitions)) hdS_X11_copyDefinitions ⟨Nat.le_of_ble_eq_true rfl, Nat.le_of_ble_eq_true rfl⟩) rfl hl.1 rfl (Nat.le_of_ble_eq_true rfl) dX11_startReading_8 ⟨rcC hX q3.1 q.1, rsC hX q3.1 q.1⟩ (fun u H locs hg h => ?_)
  simp only [← gx_rfv hg (sh_0 hS).2.1] at hl
  try simp only [← gx_rfv hg (sh_0 hS).2.1]
  refine W_cast (wcC hX q3.1).symm (wsC hX q3.1).symm ?_
  exact kl_Cs_startReading_11 (N := N) C hr hlk hE   q3.2 (hG.tr hg hX.1) (hX.tr q3.1)  (lv_sub hl [0] rfl) h hm
end Z_Cs_startReading
section Z_Cs_takeLine
variable {p : Program} {l : Launch} {e : Env} {s : State} {m : MethodId} {args : Array Value} {below : List Frame} {meth : Method} {c : Code} {D : va_G} {A : Nat → Prop} {k : Nat → ClassId} {N : Nat} {cd : Cond} {z mi : Nat} {aK aV : Nat → Nat} {g0 : Nat → Nat} {π0 : Sh}
set_option maxHeartbeats 8000000 in
set_option maxRecDepth 100000 in
theorem kl_Cs_takeLine_112 {r : Sh × St × Int} (C : Cx p s m args c cX11_takeLine RX11 (cd :: cWd) D (TYs k) 3) (hr : meth.sig.returnType = (some .boolean)) (hlk : meth.locks = false) (hE : Ev z mi aK aV A s s.heap)    {ls : Array Slot} {H : Heap} {locs : List Loc} {g : Nat → Nat} {π : Sh} {σ : St} {s0 : Int} (hC : Cl π σ) (hG : gx (nn π0) g0 g) (hX : ext π0 π)  (hl : lv_has ls 3 []) (h : Hp D A s.heap H locs (cW k z g π σ)) (hm : Cs_takeLine_112 N π σ s0 = some r) : W p l e { frames := 7, cells := nn r.1 - nn π0, slots := sw r.1 - sw π0, locals := 241 } s m args below meth c H locs (nn π - nn π0) (sw π - sw π0) (MQ below (va_Qi (fun v u => gx (nn π0) g0 u ∧ v = Int32.ofInt r.2.2) (fun u t => PostW D (TYs k) A (cW k z u r.1 r.2.1) t) A) args s (nn r.1 - nn π0) (sw r.1 - sw π0) A) (F0 m 112 ls [.int (Int32.ofInt s0)]) := by
  have hS := hC.1
  have hq := km_Cs_takeLine_112    hC  hm
  rw [Cs_takeLine_112] at hm
  refine lv_pop C.1 C.2.1 dX11_takeLine_112 rfl ?_
  refine lv_iconst (v := Int32.ofInt 1) C.1 C.2.1 dX11_takeLine_113 (by decide) ?_
  cases hm
  exact c_iretA C hG h hr hlk dX11_takeLine_114 rfl
set_option maxHeartbeats 8000000 in
set_option maxRecDepth 100000 in
theorem kl_Cs_takeLine_53 {r : Sh × St × Int} (C : Cx p s m args c cX11_takeLine RX11 (cd :: cWd) D (TYs k) 3) (hr : meth.sig.returnType = (some .boolean)) (hlk : meth.locks = false) (hE : Ev z mi aK aV A s s.heap)    (n : Nat) : ∀ {ls : Array Slot} {H : Heap} {locs : List Loc} {g : Nat → Nat} {π : Sh} {σ : St} {x1 : Int} {x2 : Int}, Cl π σ → gx (nn π0) g0 g → ext π0 π → x1 < nn π → lv_has ls 3 [(0, rfv g 0), (1, rfv g x1), (2, .int (Int32.ofInt x2))] → Hp D A s.heap H locs (cW k z g π σ) → Cs_takeLine_53 N n π σ x1 x2 = some r → W p l e { frames := 7, cells := nn r.1 - nn π0, slots := sw r.1 - sw π0, locals := 241 } s m args below meth c H locs (nn π - nn π0) (sw π - sw π0) (MQ below (va_Qi (fun v u => gx (nn π0) g0 u ∧ v = Int32.ofInt r.2.2) (fun u t => PostW D (TYs k) A (cW k z u r.1 r.2.1) t) A) args s (nn r.1 - nn π0) (sw r.1 - sw π0) A) (F0 m 53 ls []) := by
  induction n with
  | zero => intro ls H locs g π σ x1 x2 hC hG hX hv_x1 hl h hm; cases (show none = some r from hm)
  | succ n hrec53 =>
    intro ls H locs g π σ x1 x2 hC hG hX hv_x1 hl h hm
    have hS := hC.1
    have hq := km_Cs_takeLine_53   (n + 1) hC hv_x1 hm
    have krec53 : ∀ {π : Sh} {σ : St} {x1 : Int} {x2 : Int}, Cl π σ → x1 < nn π → Cs_takeLine_53 N n π σ x1 x2 = some r → ext π r.1 ∧ Cl r.1 r.2.1 := fun {_ _} {_} {_} => km_Cs_takeLine_53   n
    rw [Cs_takeLine_53] at hm
    refine lv_iload_n C.1 C.2.1 dX11_takeLine_53 rfl (lv_at hl 2 rfl) ?_
    refine z_aload_n C dX11_takeLine_54 rfl (lv_at hl 0 rfl) ?_
    refine cg_12_6 C h (sh_0 hS) cU_X11 (List.mem_cons_of_mem _ wl_X11_47) dX11_takeLine_55 ?_
    obtain ⟨r13, e14, hm⟩ := obd_s hm
    have q15 := (km_L_size hC (sh_43 hS).2.1 e14)
    refine c_callViP C hE h (sh_43 hS) rfl (by decide) (kc_L_size l D k z mi aK aV g hS e14) (cwV 0 C.2.2.1 (gS_X11_124 _) rfl rfl rfl hd_Jx4a65c_size_8abf5 ⟨Nat.le_of_ble_eq_true rfl, Nat.le_of_ble_eq_true rfl⟩) rfl hl.1 rfl (Nat.le_of_ble_eq_true rfl) dX11_takeLine_58 ⟨(czz hX hq.1), (szz hX hq.1)⟩ (fun H locs h => ?_)
    have hC16 : Cl π r13.1 := q15
    obtain ⟨g17, hm⟩ := grd_s hm
    obtain ⟨g18, hm⟩ := grd_s hm
    refine z_icmp_ge (tgt := 104) C dX11_takeLine_61 (by decide) g17 g18 (fun c19 => ?_) (fun c19 => ?_)
    · have hm := ite_f c19 hm
      refine z_aload_n C dX11_takeLine_104 rfl (lv_at hl 0 rfl) ?_
      refine cg_12_6 C h (sh_0 hS) cU_X11 (List.mem_cons_of_mem _ wl_X11_47) dX11_takeLine_105 ?_
      refine z_aload_n C dX11_takeLine_108 rfl (lv_at hl 1 rfl) ?_
      obtain ⟨r20, e21, hm⟩ := obd_s hm
      have q22 := (km_L_add hC16 (sh_43 hS).2.1 hv_x1 e21)
      have q := km_Cs_takeLine_112   q22.2  hm
      refine c_callViA C hE h (sh_43 hS) rfl (by decide) (kc_L_add l D k z mi aK aV g hC16 (sh_43 hS).2.1 hv_x1 e21) (cwV 1 C.2.2.1 (gS_X11_263 _) rfl rfl rfl hd_Jx4a65c_add_9ea2d ⟨Nat.le_of_ble_eq_true rfl, Nat.le_of_ble_eq_true rfl⟩) rfl hl.1 rfl (Nat.le_of_ble_eq_true rfl) dX11_takeLine_109 ⟨rcC hX q22.1 q.1, rsC hX q22.1 q.1⟩ (fun u H locs hg h => ?_)
      simp only [← gx_rfv hg (sh_0 hS).2.1, ← gx_rfv hg hv_x1] at hl
      try simp only [← gx_rfv hg (sh_0 hS).2.1, ← gx_rfv hg hv_x1]
      refine W_cast (wcC hX q22.1).symm (wsC hX q22.1).symm ?_
      exact kl_Cs_takeLine_112 (N := N) C hr hlk hE   q22.2 (hG.tr hg hX.1) (hX.tr q22.1)  (lv_sub hl [] rfl) h hm
    · have hm := ite_t c19 hm
      refine z_aload_n C dX11_takeLine_64 rfl (lv_at hl 0 rfl) ?_
      refine cg_12_6 C h (sh_0 hS) cU_X11 (List.mem_cons_of_mem _ wl_X11_47) dX11_takeLine_65 ?_
      refine lv_iload_n C.1 C.2.1 dX11_takeLine_68 rfl (lv_at hl 2 rfl) ?_
      obtain ⟨r23, e24, hm⟩ := obd_s hm
      have q25 := (km_L_get hC16 (sh_43 hS).2.1 e24)
      refine c_callVqP C hE h (sh_43 hS) rfl (by decide) (kc_L_get l D k z mi aK aV g hS e24) (cwV 1 C.2.2.1 (gS_X11_252 _) rfl rfl rfl hd_Jx4a65c_get_915e3 ⟨Nat.le_of_ble_eq_true rfl, Nat.le_of_ble_eq_true rfl⟩) rfl hl.1 rfl (Nat.le_of_ble_eq_true rfl) dX11_takeLine_69 ⟨(czz hX hq.1), (szz hX hq.1)⟩ (fun H locs h => ?_)
      have hC26 : Cl π r23.1 := q25.1
      obtain ⟨g27, hm⟩ := grd_s hm
      refine v_cast C h g27 rfl (by decide) hE.2.1 (List.mem_cons_of_mem _ wc_X11_244) dX11_takeLine_72 ?_
      refine cg_1_0 C h g27 cU_X0 (List.mem_cons_of_mem _ wl_X11_256) dX11_takeLine_75 ?_
      refine z_aload_n C dX11_takeLine_78 rfl (lv_at hl 1 rfl) ?_
      obtain ⟨g28, hm⟩ := grd_s hm
      refine cg_1_0 C h g28 cU_X0 (List.mem_cons_of_mem _ wl_X11_256) dX11_takeLine_79 ?_
      obtain ⟨g29, hm⟩ := grd_s hm
      obtain ⟨g30, hm⟩ := grd_s hm
      refine W.lcmp C.1 C.2.1 dX11_takeLine_82 ?_
      refine z_lcmp_ne (tgt := 98) C dX11_takeLine_83 (by decide) g29 g30 (fun c31 => ?_) (fun c31 => ?_)
      · have hm := ite_f c31 hm
        refine lv_iinc (v := Int32.ofInt (x2 + 1)) (lv' := [(2, .int (Int32.ofInt (x2 + 1))), (0, rfv g 0), (1, rfv g x1)]) C.1 C.2.1 dX11_takeLine_98 hl (k := 2) rfl (c32_add _ _) (by decide) (by simp [rfv_cat, cat_i, cat_l]) (fun ls hl => ?_)
        refine lv_goto (tgt := 53) C.1 C.2.1 dX11_takeLine_101 (by decide) ?_
        exact hrec53 hC26 hG hX hv_x1 (lv_sub hl [1, 2, 0] rfl) h hm
      · have hm := ite_t c31 hm
        refine z_aload_n C dX11_takeLine_86 rfl (lv_at hl 0 rfl) ?_
        refine cg_12_6 C h (sh_0 hS) cU_X11 (List.mem_cons_of_mem _ wl_X11_47) dX11_takeLine_87 ?_
        refine lv_iload_n C.1 C.2.1 dX11_takeLine_90 rfl (lv_at hl 2 rfl) ?_
        refine z_aload_n C dX11_takeLine_91 rfl (lv_at hl 1 rfl) ?_
        obtain ⟨r32, e33, hm⟩ := obd_s hm
        have q34 := (km_L_set hC26 (sh_43 hS).2.1 hv_x1 e33)
        refine c_callVqP C hE h (sh_43 hS) rfl (by decide) (kc_L_set l D k z mi aK aV g hS e33) (cwV 2 C.2.2.1 (gS_X11_259 _) rfl rfl rfl hd_Jx4a65c_set_bcc79 ⟨Nat.le_of_ble_eq_true rfl, Nat.le_of_ble_eq_true rfl⟩) rfl hl.1 rfl (Nat.le_of_ble_eq_true rfl) dX11_takeLine_92 ⟨(czz hX hq.1), (szz hX hq.1)⟩ (fun H locs h => ?_)
        have hC35 : Cl π r32.1 := q34.1
        refine lv_pop C.1 C.2.1 dX11_takeLine_95 (rfv_cat _ _) ?_
        refine lv_iconst (v := Int32.ofInt 1) C.1 C.2.1 dX11_takeLine_96 (by decide) ?_
        cases hm
        exact c_iretA C hG h hr hlk dX11_takeLine_97 rfl
set_option maxHeartbeats 8000000 in
set_option maxRecDepth 100000 in
theorem kl_Cs_takeLine_39 {r : Sh × St × Int} (C : Cx p s m args c cX11_takeLine RX11 (cd :: cWd) D (TYs k) 3) (hr : meth.sig.returnType = (some .boolean)) (hlk : meth.locks = false) (hE : Ev z mi aK aV A s s.heap)    {ls : Array Slot} {H : Heap} {locs : List Loc} {g : Nat → Nat} {π : Sh} {σ : St} {x1 : Int} (hC : Cl π σ) (hG : gx (nn π0) g0 g) (hX : ext π0 π) (hv_x1 : x1 < nn π) (hl : lv_has ls 3 [(0, rfv g 0), (1, rfv g x1)]) (h : Hp D A s.heap H locs (cW k z g π σ)) (hm : Cs_takeLine_39 N π σ x1 = some r) : W p l e { frames := 7, cells := nn r.1 - nn π0, slots := sw r.1 - sw π0, locals := 241 } s m args below meth c H locs (nn π - nn π0) (sw π - sw π0) (MQ below (va_Qi (fun v u => gx (nn π0) g0 u ∧ v = Int32.ofInt r.2.2) (fun u t => PostW D (TYs k) A (cW k z u r.1 r.2.1) t) A) args s (nn r.1 - nn π0) (sw r.1 - sw π0) A) (F0 m 39 ls []) := by
  have hS := hC.1
  have hq := km_Cs_takeLine_39    hC hv_x1 hm
  rw [Cs_takeLine_39] at hm
  refine z_aload_n C dX11_takeLine_39 rfl (lv_at hl 0 rfl) ?_
  refine cg_12_1 C h (sh_0 hS) cU_X11 (List.mem_cons_of_mem _ wl_X11_19) dX11_takeLine_40 ?_
  refine cg_4_8 C h (sh_3 hS) cU_X3 (List.mem_cons_of_mem _ wl_X11_123) dX11_takeLine_43 ?_
  obtain ⟨g10, hm⟩ := grd_s hm
  refine z_if_eq (tgt := 51) C dX11_takeLine_46 (by decide) g10 (fun c11 => ?_) (fun c11 => ?_)
  · have hm := ite_t c11 hm
    refine lv_iconst (v := Int32.ofInt 0) C.1 C.2.1 dX11_takeLine_51 (by decide) ?_
    refine lv_istore_n (i := 2) (lv' := [(2, .int (Int32.ofInt 0)), (0, rfv g 0), (1, rfv g x1)]) C.1 C.2.1 dX11_takeLine_52 rfl hl (by decide) (by simp [rfv_cat, cat_i, cat_l]) (fun ls hl => ?_)
    exact kl_Cs_takeLine_53 (N := N) C hr hlk hE N hC hG hX hv_x1 (lv_sub hl [1, 2, 0] rfl) h hm
  · have hm := ite_f c11 hm
    refine lv_iconst (v := Int32.ofInt 0) C.1 C.2.1 dX11_takeLine_49 (by decide) ?_
    cases hm
    exact c_iretA C hG h hr hlk dX11_takeLine_50 rfl
set_option maxHeartbeats 8000000 in
set_option maxRecDepth 100000 in
theorem kl_Cs_takeLine_36 {r : Sh × St × Int} (C : Cx p s m args c cX11_takeLine RX11 (cd :: cWd) D (TYs k) 3) (hr : meth.sig.returnType = (some .boolean)) (hlk : meth.locks = false) (hE : Ev z mi aK aV A s s.heap)    {ls : Array Slot} {H : Heap} {locs : List Loc} {g : Nat → Nat} {π : Sh} {σ : St} {x1 : Int} {s0 : Int} {s1 : Int} (hC : Cl π σ) (hG : gx (nn π0) g0 g) (hX : ext π0 π) (hv_x1 : x1 < nn π) (hv_s0 : s0 < nn π) (hv_s1 : s1 < nn π) (hl : lv_has ls 3 [(0, rfv g 0), (1, rfv g x1)]) (h : Hp D A s.heap H locs (cW k z g π σ)) (hm : Cs_takeLine_36 N π σ x1 s0 s1 = some r) : W p l e { frames := 7, cells := nn r.1 - nn π0, slots := sw r.1 - sw π0, locals := 241 } s m args below meth c H locs (nn π - nn π0) (sw π - sw π0) (MQ below (va_Qi (fun v u => gx (nn π0) g0 u ∧ v = Int32.ofInt r.2.2) (fun u t => PostW D (TYs k) A (cW k z u r.1 r.2.1) t) A) args s (nn r.1 - nn π0) (sw r.1 - sw π0) A) (F0 m 36 ls [rfv g s0, rfv g s1]) := by
  have hS := hC.1
  have hq := km_Cs_takeLine_36    hC hv_x1 hv_s0 hv_s1 hm
  rw [Cs_takeLine_36] at hm
  obtain ⟨g12, hm⟩ := grd_s hm
  refine cp_1_6 C h g12 cU_X0 (List.mem_cons_of_mem _ wl_X11_248) dX11_takeLine_36 (fun H locs h => ?_)
  exact kl_Cs_takeLine_39 (N := N) C hr hlk hE (cl_sfR hC _ _ hv_s0) hG hX hv_x1 (lv_sub hl [0, 1] rfl) h hm
set_option maxHeartbeats 8000000 in
set_option maxRecDepth 100000 in
theorem kc_Cs_takeLine (l : Launch) (D : va_G) (k : Nat → ClassId) (z mi : Nat) (aK aV : Nat → Nat) (g : Nat → Nat) (N : Nat)    {π : Sh} {σ : St} {x1 : Int} {r : Sh × St × Int} (hC : Cl π σ) (hv_x1 : x1 < nn π) (hm : Cs_takeLine N π σ x1 = some r) : Mi l yX11_takeLine (.code yX11_takeLine cX11_takeLine 3 (some .boolean) :: cWd) { frames := 7, cells := nn r.1 - nn π, slots := sw r.1 - sw π, locals := 241 } [rfv g 0, rfv g x1] D (TYs k) (cW k z g π σ) (XV z mi aK aV (cW k z g π σ)) (Nat → Nat) (fun v u => gx (nn π) g u ∧ v = Int32.ofInt r.2.2) (fun u => cW k z u r.1 r.2.1) (nn r.1 - nn π) (sw r.1 - sw π) := by
  have hS := hC.1
  have hq := km_Cs_takeLine  hC hv_x1 hm
  intro sz
  refine v_met (cc := cX11_takeLine) (maxL := 3) (ret := (some .boolean)) (lv := [(0, rfv g 0), (1, rfv g x1)]) (by decide) rfl (by simp [lg_sl, rfv_cat, cat_i, cat_l]) (by simp [lv_args, rfv_cat, cat_i, cat_l]) ?_
  intro p e s m below meth c ls C hE hr hlk hmn hl h
  generalize ([rfv g 0, rfv g x1] : List Value).toArray = args at C ⊢
  have hG := gx.rf (nn π) g
  have hX := ext.rf π
  refine W_cast (Nat.sub_self (nn π)) (Nat.sub_self (sw π)) ?_
  rw [Cs_takeLine] at hm
  refine z_aload_n C dX11_takeLine_0 rfl (lv_at hl 1 rfl) ?_
  refine z_ifnonnull (tgt := 20) C dX11_takeLine_1 (by decide) (fun c1 => ?_) (fun c1 => ?_)
  · have hm := ite_f c1 hm
    refine z_aload_n C dX11_takeLine_20 rfl (lv_at hl 1 rfl) ?_
    obtain ⟨g2, hm⟩ := grd_s hm
    refine cg_1_2 C h g2 cU_X0 (List.mem_cons_of_mem _ wl_X11_243) dX11_takeLine_21 ?_
    obtain ⟨g3, hm⟩ := grd_s hm
    refine z_if_ne (tgt := 39) C dX11_takeLine_24 (by decide) g3 (fun c4 => ?_) (fun c4 => ?_)
    · have hm := ite_f c4 hm
      exact kl_Cs_takeLine_39 (N := N) C hr hlk hE hC hG hX hv_x1 (lv_sub hl [0, 1] rfl) h hm
    · have hm := ite_t c4 hm
      refine z_aload_n C dX11_takeLine_27 rfl (lv_at hl 1 rfl) ?_
      refine z_aload_n C dX11_takeLine_28 rfl (lv_at hl 0 rfl) ?_
      refine cg_12_1 C h (sh_0 hS) cU_X11 (List.mem_cons_of_mem _ wl_X11_19) dX11_takeLine_29 ?_
      refine z_aload_n C dX11_takeLine_32 rfl (lv_at hl 1 rfl) ?_
      obtain ⟨r5, e6, hm⟩ := obd_s hm
      have q7 := (km_Mk_make hC hv_x1 e6)
      have q := km_Cs_takeLine_36   q7.2.1 (lt_ext hv_x1 q7.1) q7.2.2 (lt_ext hv_x1 q7.1) hm
      refine c_callVqA C hE h (sh_3 hS) rfl (by decide) (kc_Mk_make l D k z mi aK aV g N hC hv_x1 e6) (cwV 1 C.2.2.1 (gS_X11_142 _) rfl rfl rfl hd_X3_make ⟨Nat.le_of_ble_eq_true rfl, Nat.le_of_ble_eq_true rfl⟩) rfl hl.1 rfl (by simp [rfv_cat, cat_i, cat_l]) dX11_takeLine_33 ⟨rcC hX q7.1 q.1, rsC hX q7.1 q.1⟩ (fun u H locs hg h => ?_)
      simp only [← gx_rfv hg (sh_0 hS).2.1, ← gx_rfv hg hv_x1] at hl
      try simp only [← gx_rfv hg (sh_0 hS).2.1, ← gx_rfv hg hv_x1]
      refine W_cast (wcC hX q7.1).symm (wsC hX q7.1).symm ?_
      exact kl_Cs_takeLine_36 (N := N) C hr hlk hE   q7.2.1 (hG.tr hg hX.1) (hX.tr q7.1) (lt_ext hv_x1 q7.1) q7.2.2 (lt_ext hv_x1 q7.1) (lv_sub hl [0, 1] rfl) h hm
  · have hm := ite_t c1 hm
    refine z_aload_n C dX11_takeLine_4 rfl (lv_at hl 0 rfl) ?_
    refine cg_12_0 C h (sh_0 hS) cU_X11 (List.mem_cons_of_mem _ wl_X11_10) dX11_takeLine_5 ?_
    refine cg_9_2 C h (sh_1 hS) cU_X8 (List.mem_cons_of_mem _ wl_X11_120) dX11_takeLine_8 ?_
    obtain ⟨g8, hm⟩ := grd_s hm
    refine z_if_ne (tgt := 18) C dX11_takeLine_11 (by decide) g8 (fun c9 => ?_) (fun c9 => ?_)
    · have hm := ite_f c9 hm
      refine lv_iconst (v := Int32.ofInt 0) C.1 C.2.1 dX11_takeLine_18 (by decide) ?_
      cases hm
      exact c_iretA C hG h hr hlk dX11_takeLine_19 rfl
    · have hm := ite_t c9 hm
      refine lv_iconst (v := Int32.ofInt 1) C.1 C.2.1 dX11_takeLine_14 (by decide) ?_
      refine lv_goto (tgt := 19) C.1 C.2.1 dX11_takeLine_15 (by decide) ?_
      cases hm
      exact c_iretA C hG h hr hlk dX11_takeLine_19 rfl
end Z_Cs_takeLine
section Z_Cs_read
variable {p : Program} {l : Launch} {e : Env} {s : State} {m : MethodId} {args : Array Value} {below : List Frame} {meth : Method} {c : Code} {D : va_G} {A : Nat → Prop} {k : Nat → ClassId} {N : Nat} {cd : Cond} {z mi : Nat} {aK aV : Nat → Nat} {g0 : Nat → Nat} {π0 : Sh}
set_option maxHeartbeats 8000000 in
set_option maxRecDepth 100000 in
theorem kl_Cs_read_54 {r : Sh × St × Int} (C : Cx p s m args c cX11_read RX11 (cd :: cWd) D (TYs k) 3) (hr : meth.sig.returnType = (some .int)) (hlk : meth.locks = false) (hE : Ev z mi aK aV A s s.heap)   {rec14 : Sh → St → Int → Int → Option (Sh × St × Int)} (krec14 : ∀ {π : Sh} {σ : St} {x1 : Int} {x2 : Int}, Cl π σ → rec14 π σ x1 x2 = some r → ext π r.1 ∧ Cl r.1 r.2.1) (hrec14 : ∀ {ls : Array Slot} {H : Heap} {locs : List Loc} {g : Nat → Nat} {π : Sh} {σ : St} {x1 : Int} {x2 : Int}, Cl π σ → gx (nn π0) g0 g → ext π0 π → lv_has ls 3 [(0, rfv g 0), (1, .int (Int32.ofInt x1)), (2, .int (Int32.ofInt x2))] → Hp D A s.heap H locs (cW k z g π σ) → rec14 π σ x1 x2 = some r → W p l e { frames := 556, cells := nn r.1 - nn π0, slots := sw r.1 - sw π0, locals := 28984 } s m args below meth c H locs (nn π - nn π0) (sw π - sw π0) (MQ below (va_Qi (fun v u => gx (nn π0) g0 u ∧ v = Int32.ofInt r.2.2) (fun u t => PostW D (TYs k) A (cW k z u r.1 r.2.1) t) A) args s (nn r.1 - nn π0) (sw r.1 - sw π0) A) (F0 m 14 ls [])) {ls : Array Slot} {H : Heap} {locs : List Loc} {g : Nat → Nat} {π : Sh} {σ : St} {x2 : Int} {s0 : Int} (hC : Cl π σ) (hG : gx (nn π0) g0 g) (hX : ext π0 π)  (hl : lv_has ls 3 [(0, rfv g 0), (2, .int (Int32.ofInt x2))]) (h : Hp D A s.heap H locs (cW k z g π σ)) (hm : Cs_read_54 N rec14 π σ x2 s0 = some r) : W p l e { frames := 556, cells := nn r.1 - nn π0, slots := sw r.1 - sw π0, locals := 28984 } s m args below meth c H locs (nn π - nn π0) (sw π - sw π0) (MQ below (va_Qi (fun v u => gx (nn π0) g0 u ∧ v = Int32.ofInt r.2.2) (fun u t => PostW D (TYs k) A (cW k z u r.1 r.2.1) t) A) args s (nn r.1 - nn π0) (sw r.1 - sw π0) A) (F0 m 54 ls [.int (Int32.ofInt s0)]) := by
  have hS := hC.1
  have hq := km_Cs_read_54  krec14  hC  hm
  rw [Cs_read_54] at hm
  refine lv_istore_n (i := 1) (lv' := [(1, .int (Int32.ofInt s0)), (0, rfv g 0), (2, .int (Int32.ofInt x2))]) C.1 C.2.1 dX11_read_54 rfl hl (by decide) (by simp [rfv_cat, cat_i, cat_l]) (fun ls hl => ?_)
  refine lv_iinc (v := Int32.ofInt (x2 + 1)) (lv' := [(2, .int (Int32.ofInt (x2 + 1))), (1, .int (Int32.ofInt s0)), (0, rfv g 0)]) C.1 C.2.1 dX11_read_55 hl (k := 2) rfl (c32_add _ _) (by decide) rfl (fun ls hl => ?_)
  refine lv_goto (tgt := 14) C.1 C.2.1 dX11_read_58 (by decide) ?_
  exact hrec14 hC hG hX (lv_sub hl [2, 1, 0] rfl) h hm
set_option maxHeartbeats 8000000 in
set_option maxRecDepth 100000 in
theorem kl_Cs_read_53 {r : Sh × St × Int} (C : Cx p s m args c cX11_read RX11 (cd :: cWd) D (TYs k) 3) (hr : meth.sig.returnType = (some .int)) (hlk : meth.locks = false) (hE : Ev z mi aK aV A s s.heap)   {rec14 : Sh → St → Int → Int → Option (Sh × St × Int)} (krec14 : ∀ {π : Sh} {σ : St} {x1 : Int} {x2 : Int}, Cl π σ → rec14 π σ x1 x2 = some r → ext π r.1 ∧ Cl r.1 r.2.1) (hrec14 : ∀ {ls : Array Slot} {H : Heap} {locs : List Loc} {g : Nat → Nat} {π : Sh} {σ : St} {x1 : Int} {x2 : Int}, Cl π σ → gx (nn π0) g0 g → ext π0 π → lv_has ls 3 [(0, rfv g 0), (1, .int (Int32.ofInt x1)), (2, .int (Int32.ofInt x2))] → Hp D A s.heap H locs (cW k z g π σ) → rec14 π σ x1 x2 = some r → W p l e { frames := 556, cells := nn r.1 - nn π0, slots := sw r.1 - sw π0, locals := 28984 } s m args below meth c H locs (nn π - nn π0) (sw π - sw π0) (MQ below (va_Qi (fun v u => gx (nn π0) g0 u ∧ v = Int32.ofInt r.2.2) (fun u t => PostW D (TYs k) A (cW k z u r.1 r.2.1) t) A) args s (nn r.1 - nn π0) (sw r.1 - sw π0) A) (F0 m 14 ls [])) {ls : Array Slot} {H : Heap} {locs : List Loc} {g : Nat → Nat} {π : Sh} {σ : St} {x2 : Int} (hC : Cl π σ) (hG : gx (nn π0) g0 g) (hX : ext π0 π)  (hl : lv_has ls 3 [(0, rfv g 0), (2, .int (Int32.ofInt x2))]) (h : Hp D A s.heap H locs (cW k z g π σ)) (hm : Cs_read_53 N rec14 π σ x2 = some r) : W p l e { frames := 556, cells := nn r.1 - nn π0, slots := sw r.1 - sw π0, locals := 28984 } s m args below meth c H locs (nn π - nn π0) (sw π - sw π0) (MQ below (va_Qi (fun v u => gx (nn π0) g0 u ∧ v = Int32.ofInt r.2.2) (fun u t => PostW D (TYs k) A (cW k z u r.1 r.2.1) t) A) args s (nn r.1 - nn π0) (sw r.1 - sw π0) A) (F0 m 53 ls []) := by
  have hS := hC.1
  have hq := km_Cs_read_53  krec14  hC  hm
  rw [Cs_read_53] at hm
  refine lv_iconst (v := Int32.ofInt 0) C.1 C.2.1 dX11_read_53 (by decide) ?_
  exact kl_Cs_read_54 (N := N) C hr hlk hE krec14 hrec14 hC hG hX (lv_sub hl [0, 1] rfl) h hm
set_option maxHeartbeats 8000000 in
set_option maxRecDepth 100000 in
theorem kl_Cs_read_36 {r : Sh × St × Int} (C : Cx p s m args c cX11_read RX11 (cd :: cWd) D (TYs k) 3) (hr : meth.sig.returnType = (some .int)) (hlk : meth.locks = false) (hE : Ev z mi aK aV A s s.heap)   {rec14 : Sh → St → Int → Int → Option (Sh × St × Int)} (krec14 : ∀ {π : Sh} {σ : St} {x1 : Int} {x2 : Int}, Cl π σ → rec14 π σ x1 x2 = some r → ext π r.1 ∧ Cl r.1 r.2.1) (hrec14 : ∀ {ls : Array Slot} {H : Heap} {locs : List Loc} {g : Nat → Nat} {π : Sh} {σ : St} {x1 : Int} {x2 : Int}, Cl π σ → gx (nn π0) g0 g → ext π0 π → lv_has ls 3 [(0, rfv g 0), (1, .int (Int32.ofInt x1)), (2, .int (Int32.ofInt x2))] → Hp D A s.heap H locs (cW k z g π σ) → rec14 π σ x1 x2 = some r → W p l e { frames := 556, cells := nn r.1 - nn π0, slots := sw r.1 - sw π0, locals := 28984 } s m args below meth c H locs (nn π - nn π0) (sw π - sw π0) (MQ below (va_Qi (fun v u => gx (nn π0) g0 u ∧ v = Int32.ofInt r.2.2) (fun u t => PostW D (TYs k) A (cW k z u r.1 r.2.1) t) A) args s (nn r.1 - nn π0) (sw r.1 - sw π0) A) (F0 m 14 ls [])) {ls : Array Slot} {H : Heap} {locs : List Loc} {g : Nat → Nat} {π : Sh} {σ : St} {x2 : Int} {s0 : Int} (hC : Cl π σ) (hG : gx (nn π0) g0 g) (hX : ext π0 π)  (hl : lv_has ls 3 [(0, rfv g 0), (2, .int (Int32.ofInt x2))]) (h : Hp D A s.heap H locs (cW k z g π σ)) (hm : Cs_read_36 N rec14 π σ x2 s0 = some r) : W p l e { frames := 556, cells := nn r.1 - nn π0, slots := sw r.1 - sw π0, locals := 28984 } s m args below meth c H locs (nn π - nn π0) (sw π - sw π0) (MQ below (va_Qi (fun v u => gx (nn π0) g0 u ∧ v = Int32.ofInt r.2.2) (fun u t => PostW D (TYs k) A (cW k z u r.1 r.2.1) t) A) args s (nn r.1 - nn π0) (sw r.1 - sw π0) A) (F0 m 36 ls [.int (Int32.ofInt s0)]) := by
  have hS := hC.1
  have hq := km_Cs_read_36  krec14  hC  hm
  rw [Cs_read_36] at hm
  obtain ⟨g28, hm⟩ := grd_s hm
  refine z_if_eq (tgt := 53) C dX11_read_36 (by decide) g28 (fun c29 => ?_) (fun c29 => ?_)
  · have hm := ite_t c29 hm
    exact kl_Cs_read_53 (N := N) C hr hlk hE krec14 hrec14 hC hG hX (lv_sub hl [0, 1] rfl) h hm
  · have hm := ite_f c29 hm
    refine z_aload_n C dX11_read_39 rfl (lv_at hl 0 rfl) ?_
    refine cg_12_7 C h (sh_0 hS) cU_X11 (List.mem_cons_of_mem _ wl_X11_55) dX11_read_40 ?_
    obtain ⟨r30, e31, hm⟩ := obd_s hm
    have q32 := (km_Rd_hasMore hC e31)
    refine c_callViP C hE h (sh_44 hS) rfl (by decide) (kc_Rd_hasMore l D k z mi aK aV g N hS e31) (cwV 0 C.2.2.1 (gS_X11_108 _) rfl rfl rfl hd_X6_hasMore ⟨Nat.le_of_ble_eq_true rfl, Nat.le_of_ble_eq_true rfl⟩) rfl hl.1 rfl (Nat.le_of_ble_eq_true rfl) dX11_read_43 ⟨(czz hX hq.1), (szz hX hq.1)⟩ (fun H locs h => ?_)
    have hC33 : Cl π r30.1 := q32
    obtain ⟨g34, hm⟩ := grd_s hm
    refine z_if_eq (tgt := 53) C dX11_read_46 (by decide) g34 (fun c35 => ?_) (fun c35 => ?_)
    · have hm := ite_t c35 hm
      exact kl_Cs_read_53 (N := N) C hr hlk hE krec14 hrec14 hC33 hG hX (lv_sub hl [0, 1] rfl) h hm
    · have hm := ite_f c35 hm
      refine lv_iconst (v := Int32.ofInt 1) C.1 C.2.1 dX11_read_49 (by decide) ?_
      refine lv_goto (tgt := 54) C.1 C.2.1 dX11_read_50 (by decide) ?_
      exact kl_Cs_read_54 (N := N) C hr hlk hE krec14 hrec14 hC33 hG hX (lv_sub hl [0, 1] rfl) h hm
set_option maxHeartbeats 8000000 in
set_option maxRecDepth 100000 in
theorem kl_Cs_read_33 {r : Sh × St × Int} (C : Cx p s m args c cX11_read RX11 (cd :: cWd) D (TYs k) 3) (hr : meth.sig.returnType = (some .int)) (hlk : meth.locks = false) (hE : Ev z mi aK aV A s s.heap)   {rec14 : Sh → St → Int → Int → Option (Sh × St × Int)} (krec14 : ∀ {π : Sh} {σ : St} {x1 : Int} {x2 : Int}, Cl π σ → rec14 π σ x1 x2 = some r → ext π r.1 ∧ Cl r.1 r.2.1) (hrec14 : ∀ {ls : Array Slot} {H : Heap} {locs : List Loc} {g : Nat → Nat} {π : Sh} {σ : St} {x1 : Int} {x2 : Int}, Cl π σ → gx (nn π0) g0 g → ext π0 π → lv_has ls 3 [(0, rfv g 0), (1, .int (Int32.ofInt x1)), (2, .int (Int32.ofInt x2))] → Hp D A s.heap H locs (cW k z g π σ) → rec14 π σ x1 x2 = some r → W p l e { frames := 556, cells := nn r.1 - nn π0, slots := sw r.1 - sw π0, locals := 28984 } s m args below meth c H locs (nn π - nn π0) (sw π - sw π0) (MQ below (va_Qi (fun v u => gx (nn π0) g0 u ∧ v = Int32.ofInt r.2.2) (fun u t => PostW D (TYs k) A (cW k z u r.1 r.2.1) t) A) args s (nn r.1 - nn π0) (sw r.1 - sw π0) A) (F0 m 14 ls [])) {ls : Array Slot} {H : Heap} {locs : List Loc} {g : Nat → Nat} {π : Sh} {σ : St} {x2 : Int} {s0 : Int} (hC : Cl π σ) (hG : gx (nn π0) g0 g) (hX : ext π0 π) (hv_s0 : s0 < nn π) (hl : lv_has ls 3 [(0, rfv g 0), (2, .int (Int32.ofInt x2))]) (h : Hp D A s.heap H locs (cW k z g π σ)) (hm : Cs_read_33 N rec14 π σ x2 s0 = some r) : W p l e { frames := 556, cells := nn r.1 - nn π0, slots := sw r.1 - sw π0, locals := 28984 } s m args below meth c H locs (nn π - nn π0) (sw π - sw π0) (MQ below (va_Qi (fun v u => gx (nn π0) g0 u ∧ v = Int32.ofInt r.2.2) (fun u t => PostW D (TYs k) A (cW k z u r.1 r.2.1) t) A) args s (nn r.1 - nn π0) (sw r.1 - sw π0) A) (F0 m 33 ls [rfv g s0, rfv g 0]) := by
  have hS := hC.1
  have hq := km_Cs_read_33  krec14  hC hv_s0 hm
  rw [Cs_read_33] at hm
  obtain ⟨r17, e18, hm⟩ := obd_s hm
  have q19 := (km_Cs_takeLine hC hv_s0 e18)
  have q := km_Cs_read_36  krec14 q19.2  hm
  refine c_callViA C hE h (sh_0 hS) rfl (by decide) (kc_Cs_takeLine l D k z mi aK aV g N hC hv_s0 e18) (cwV 1 C.2.2.1 (gS_X11_116 _) rfl rfl rfl hd_X11_takeLine ⟨Nat.le_of_ble_eq_true rfl, Nat.le_of_ble_eq_true rfl⟩) rfl hl.1 rfl (Nat.le_of_ble_eq_true rfl) dX11_read_33 ⟨rcC hX q19.1 q.1, rsC hX q19.1 q.1⟩ (fun u H locs hg h => ?_)
  simp only [← gx_rfv hg (sh_0 hS).2.1] at hl
  try simp only [← gx_rfv hg (sh_0 hS).2.1]
  refine W_cast (wcC hX q19.1).symm (wsC hX q19.1).symm ?_
  exact kl_Cs_read_36 (N := N) C hr hlk hE  krec14 hrec14 q19.2 (hG.tr hg hX.1) (hX.tr q19.1)  (lv_sub hl [0, 1] rfl) h hm
set_option maxHeartbeats 8000000 in
set_option maxRecDepth 100000 in
theorem kl_Cs_read_123 {r : Sh × St × Int} (C : Cx p s m args c cX11_read RX11 (cd :: cWd) D (TYs k) 3) (hr : meth.sig.returnType = (some .int)) (hlk : meth.locks = false) (hE : Ev z mi aK aV A s s.heap)    {ls : Array Slot} {H : Heap} {locs : List Loc} {g : Nat → Nat} {π : Sh} {σ : St} {x2 : Int} (hC : Cl π σ) (hG : gx (nn π0) g0 g) (hX : ext π0 π)  (hl : lv_has ls 3 [(0, rfv g 0), (2, .int (Int32.ofInt x2))]) (h : Hp D A s.heap H locs (cW k z g π σ)) (hm : Cs_read_123 N π σ x2 = some r) : W p l e { frames := 556, cells := nn r.1 - nn π0, slots := sw r.1 - sw π0, locals := 28984 } s m args below meth c H locs (nn π - nn π0) (sw π - sw π0) (MQ below (va_Qi (fun v u => gx (nn π0) g0 u ∧ v = Int32.ofInt r.2.2) (fun u t => PostW D (TYs k) A (cW k z u r.1 r.2.1) t) A) args s (nn r.1 - nn π0) (sw r.1 - sw π0) A) (F0 m 123 ls []) := by
  have hS := hC.1
  have hq := km_Cs_read_123    hC  hm
  rw [Cs_read_123] at hm
  refine z_aload_n C dX11_read_123 rfl (lv_at hl 0 rfl) ?_
  refine lv_iload_n C.1 C.2.1 dX11_read_124 rfl (lv_at hl 1 rfl) ?_
  obtain ⟨r41, e42, hm⟩ := obd_s hm
  have q43 := (km_Cs_finishReading hC e42)
  refine c_callViP C hE h (sh_0 hS) rfl (by decide) (kc_Cs_finishReading l D k z mi aK aV g N hS e42) (cwV 1 C.2.2.1 (gS_X11_131 _) rfl rfl rfl hd_X11_finishReading ⟨Nat.le_of_ble_eq_true rfl, Nat.le_of_ble_eq_true rfl⟩) rfl hl.1 rfl (Nat.le_of_ble_eq_true rfl) dX11_read_125 ⟨(czz hX hq.1), (szz hX hq.1)⟩ (fun H locs h => ?_)
  have hC44 : Cl π r41.1 := q43
  cases hm
  exact c_iretA C hG h hr hlk dX11_read_128 rfl
set_option maxHeartbeats 8000000 in
set_option maxRecDepth 100000 in
theorem kl_Cs_read_108 {r : Sh × St × Int} (C : Cx p s m args c cX11_read RX11 (cd :: cWd) D (TYs k) 3) (hr : meth.sig.returnType = (some .int)) (hlk : meth.locks = false) (hE : Ev z mi aK aV A s s.heap)    {ls : Array Slot} {H : Heap} {locs : List Loc} {g : Nat → Nat} {π : Sh} {σ : St} {x2 : Int} (hC : Cl π σ) (hG : gx (nn π0) g0 g) (hX : ext π0 π)  (hl : lv_has ls 3 [(0, rfv g 0), (2, .int (Int32.ofInt x2))]) (h : Hp D A s.heap H locs (cW k z g π σ)) (hm : Cs_read_108 N π σ x2 = some r) : W p l e { frames := 556, cells := nn r.1 - nn π0, slots := sw r.1 - sw π0, locals := 28984 } s m args below meth c H locs (nn π - nn π0) (sw π - sw π0) (MQ below (va_Qi (fun v u => gx (nn π0) g0 u ∧ v = Int32.ofInt r.2.2) (fun u t => PostW D (TYs k) A (cW k z u r.1 r.2.1) t) A) args s (nn r.1 - nn π0) (sw r.1 - sw π0) A) (F0 m 108 ls []) := by
  have hS := hC.1
  have hq := km_Cs_read_108    hC  hm
  rw [Cs_read_108] at hm
  refine lv_iload_n C.1 C.2.1 dX11_read_108 rfl (lv_at hl 1 rfl) ?_
  obtain ⟨g36, hm⟩ := grd_s hm
  refine z_if_ne (tgt := 123) C dX11_read_109 (by decide) g36 (fun c37 => ?_) (fun c37 => ?_)
  · have hm := ite_f c37 hm
    exact kl_Cs_read_123 (N := N) C hr hlk hE hC hG hX (lv_sub hl [0, 1] rfl) h hm
  · have hm := ite_t c37 hm
    refine z_aload_n C dX11_read_112 rfl (lv_at hl 0 rfl) ?_
    refine cg_12_6 C h (sh_0 hS) cU_X11 (List.mem_cons_of_mem _ wl_X11_47) dX11_read_113 ?_
    refine z_aload_n C dX11_read_116 rfl (lv_at hl 0 rfl) ?_
    refine cg_12_5 C h (sh_0 hS) cU_X11 (List.mem_cons_of_mem _ wl_X11_43) dX11_read_117 ?_
    obtain ⟨r38, e39, hm⟩ := obd_s hm
    have q40 := (km_Cs_copyDefinitions hC (sh_43 hS).2.1 (sh_42 hS).2.1 e39)
    have q := km_Cs_read_123   q40.2  hm
    refine c_callSvA C hE h (kc_Cs_copyDefinitions l D k z mi aK aV g N hC (sh_43 hS).2.1 (sh_42 hS).2.1 e39) (v_cwS 2 C.2.2.1 (gC_X11_copyDefinitions _) rfl rfl rfl (C.2.2.1 _ (List.mem_cons_of_mem _ wt_X11)) (C.2.2.1 _ (List.mem_cons_of_mem _ wm_X11_127)) (C.2.2.1 _ (List.mem_cons_of_mem _ ws_X11_copyDefinitions)) hdS_X11_copyDefinitions ⟨Nat.le_of_ble_eq_true rfl, Nat.le_of_ble_eq_true rfl⟩) rfl hl.1 rfl (Nat.le_of_ble_eq_true rfl) dX11_read_120 ⟨rcC hX q40.1 q.1, rsC hX q40.1 q.1⟩ (fun u H locs hg h => ?_)
    simp only [← gx_rfv hg (sh_0 hS).2.1] at hl
    try simp only [← gx_rfv hg (sh_0 hS).2.1]
    refine W_cast (wcC hX q40.1).symm (wsC hX q40.1).symm ?_
    exact kl_Cs_read_123 (N := N) C hr hlk hE   q40.2 (hG.tr hg hX.1) (hX.tr q40.1)  (lv_sub hl [0, 1] rfl) h hm
set_option maxHeartbeats 8000000 in
set_option maxRecDepth 100000 in
theorem kl_Cs_read_88 {r : Sh × St × Int} (C : Cx p s m args c cX11_read RX11 (cd :: cWd) D (TYs k) 3) (hr : meth.sig.returnType = (some .int)) (hlk : meth.locks = false) (hE : Ev z mi aK aV A s s.heap)    {ls : Array Slot} {H : Heap} {locs : List Loc} {g : Nat → Nat} {π : Sh} {σ : St} {s0 : Int} (hC : Cl π σ) (hG : gx (nn π0) g0 g) (hX : ext π0 π)  (hl : lv_has ls 3 [(0, rfv g 0)]) (h : Hp D A s.heap H locs (cW k z g π σ)) (hm : Cs_read_88 N π σ s0 = some r) : W p l e { frames := 556, cells := nn r.1 - nn π0, slots := sw r.1 - sw π0, locals := 28984 } s m args below meth c H locs (nn π - nn π0) (sw π - sw π0) (MQ below (va_Qi (fun v u => gx (nn π0) g0 u ∧ v = Int32.ofInt r.2.2) (fun u t => PostW D (TYs k) A (cW k z u r.1 r.2.1) t) A) args s (nn r.1 - nn π0) (sw r.1 - sw π0) A) (F0 m 88 ls [.int (Int32.ofInt s0)]) := by
  have hS := hC.1
  have hq := km_Cs_read_88    hC  hm
  rw [Cs_read_88] at hm
  refine lv_istore_n (lv' := [(2, .int (Int32.ofInt s0)), (0, rfv g 0)]) C.1 C.2.1 dX11_read_88 rfl hl (by decide) rfl (fun ls hl => ?_)
  refine lv_iload_n C.1 C.2.1 dX11_read_89 rfl (lv_at hl 0 rfl) ?_
  obtain ⟨g20, hm⟩ := grd_s hm
  refine z_if_ne (tgt := 108) C dX11_read_90 (by decide) g20 (fun c21 => ?_) (fun c21 => ?_)
  · have hm := ite_f c21 hm
    exact kl_Cs_read_108 (N := N) C hr hlk hE hC hG hX (lv_sub hl [1, 0] rfl) h hm
  · have hm := ite_t c21 hm
    refine z_aload_n C dX11_read_93 rfl (lv_at hl 1 rfl) ?_
    refine cg_12_6 C h (sh_0 hS) cU_X11 (List.mem_cons_of_mem _ wl_X11_47) dX11_read_94 ?_
    obtain ⟨r22, e23, hm⟩ := obd_s hm
    have q24 := (km_L_size hC (sh_43 hS).2.1 e23)
    refine c_callViP C hE h (sh_43 hS) rfl (by decide) (kc_L_size l D k z mi aK aV g hS e23) (cwV 0 C.2.2.1 (gS_X11_124 _) rfl rfl rfl hd_Jx4a65c_size_8abf5 ⟨Nat.le_of_ble_eq_true rfl, Nat.le_of_ble_eq_true rfl⟩) rfl hl.1 rfl (Nat.le_of_ble_eq_true rfl) dX11_read_97 ⟨(czz hX hq.1), (szz hX hq.1)⟩ (fun H locs h => ?_)
    have hC25 : Cl π r22.1 := q24
    refine lv_bipush (v := Int32.ofInt 40) C.1 C.2.1 dX11_read_100 (by decide) ?_
    obtain ⟨g26, hm⟩ := grd_s hm
    refine z_icmp_le (tgt := 108) C dX11_read_102 (by decide) g26 (by decide) (fun c27 => ?_) (fun c27 => ?_)
    · have hm := ite_f c27 hm
      exact kl_Cs_read_108 (N := N) C hr hlk hE hC25 hG hX (lv_sub hl [1, 0] rfl) h hm
    · have hm := ite_t c27 hm
      refine lv_bipush (v := Int32.ofInt 11) C.1 C.2.1 dX11_read_105 (by decide) ?_
      refine lv_istore_n (lv' := [(2, .int (Int32.ofInt 11)), (0, rfv g 0)]) C.1 C.2.1 dX11_read_107 rfl hl (by decide) rfl (fun ls hl => ?_)
      exact kl_Cs_read_108 (N := N) C hr hlk hE hC25 hG hX (lv_sub hl [1, 0] rfl) h hm
set_option maxHeartbeats 8000000 in
set_option maxRecDepth 100000 in
theorem kl_Cs_read_61 {r : Sh × St × Int} (C : Cx p s m args c cX11_read RX11 (cd :: cWd) D (TYs k) 3) (hr : meth.sig.returnType = (some .int)) (hlk : meth.locks = false) (hE : Ev z mi aK aV A s s.heap)    {ls : Array Slot} {H : Heap} {locs : List Loc} {g : Nat → Nat} {π : Sh} {σ : St}  (hC : Cl π σ) (hG : gx (nn π0) g0 g) (hX : ext π0 π)  (hl : lv_has ls 3 [(0, rfv g 0)]) (h : Hp D A s.heap H locs (cW k z g π σ)) (hm : Cs_read_61 N π σ  = some r) : W p l e { frames := 556, cells := nn r.1 - nn π0, slots := sw r.1 - sw π0, locals := 28984 } s m args below meth c H locs (nn π - nn π0) (sw π - sw π0) (MQ below (va_Qi (fun v u => gx (nn π0) g0 u ∧ v = Int32.ofInt r.2.2) (fun u t => PostW D (TYs k) A (cW k z u r.1 r.2.1) t) A) args s (nn r.1 - nn π0) (sw r.1 - sw π0) A) (F0 m 61 ls []) := by
  have hS := hC.1
  have hq := km_Cs_read_61    hC  hm
  rw [Cs_read_61] at hm
  refine z_aload_n C dX11_read_61 rfl (lv_at hl 0 rfl) ?_
  refine cg_12_0 C h (sh_0 hS) cU_X11 (List.mem_cons_of_mem _ wl_X11_10) dX11_read_62 ?_
  refine cg_9_2 C h (sh_1 hS) cU_X8 (List.mem_cons_of_mem _ wl_X11_120) dX11_read_65 ?_
  obtain ⟨g15, hm⟩ := grd_s hm
  refine z_if_eq (tgt := 81) C dX11_read_68 (by decide) g15 (fun c16 => ?_) (fun c16 => ?_)
  · have hm := ite_t c16 hm
    refine z_aload_n C dX11_read_81 rfl (lv_at hl 0 rfl) ?_
    refine cg_12_1 C h (sh_0 hS) cU_X11 (List.mem_cons_of_mem _ wl_X11_19) dX11_read_82 ?_
    refine cg_4_8 C h (sh_3 hS) cU_X3 (List.mem_cons_of_mem _ wl_X11_123) dX11_read_85 ?_
    exact kl_Cs_read_88 (N := N) C hr hlk hE hC hG hX (lv_sub hl [0] rfl) h hm
  · have hm := ite_f c16 hm
    refine z_aload_n C dX11_read_71 rfl (lv_at hl 0 rfl) ?_
    refine cg_12_0 C h (sh_0 hS) cU_X11 (List.mem_cons_of_mem _ wl_X11_10) dX11_read_72 ?_
    refine cg_9_2 C h (sh_1 hS) cU_X8 (List.mem_cons_of_mem _ wl_X11_120) dX11_read_75 ?_
    refine lv_goto (tgt := 88) C.1 C.2.1 dX11_read_78 (by decide) ?_
    exact kl_Cs_read_88 (N := N) C hr hlk hE hC hG hX (lv_sub hl [0] rfl) h hm
set_option maxHeartbeats 8000000 in
set_option maxRecDepth 100000 in
theorem kl_Cs_read_14 {r : Sh × St × Int} (C : Cx p s m args c cX11_read RX11 (cd :: cWd) D (TYs k) 3) (hr : meth.sig.returnType = (some .int)) (hlk : meth.locks = false) (hE : Ev z mi aK aV A s s.heap)    (n : Nat) : ∀ {ls : Array Slot} {H : Heap} {locs : List Loc} {g : Nat → Nat} {π : Sh} {σ : St} {x1 : Int} {x2 : Int}, Cl π σ → gx (nn π0) g0 g → ext π0 π → lv_has ls 3 [(0, rfv g 0), (1, .int (Int32.ofInt x1)), (2, .int (Int32.ofInt x2))] → Hp D A s.heap H locs (cW k z g π σ) → Cs_read_14 N n π σ x1 x2 = some r → W p l e { frames := 556, cells := nn r.1 - nn π0, slots := sw r.1 - sw π0, locals := 28984 } s m args below meth c H locs (nn π - nn π0) (sw π - sw π0) (MQ below (va_Qi (fun v u => gx (nn π0) g0 u ∧ v = Int32.ofInt r.2.2) (fun u t => PostW D (TYs k) A (cW k z u r.1 r.2.1) t) A) args s (nn r.1 - nn π0) (sw r.1 - sw π0) A) (F0 m 14 ls []) := by
  induction n with
  | zero => intro ls H locs g π σ x1 x2 hC hG hX  hl h hm; cases (show none = some r from hm)
  | succ n hrec14 =>
    intro ls H locs g π σ x1 x2 hC hG hX  hl h hm
    have hS := hC.1
    have hq := km_Cs_read_14   (n + 1) hC  hm
    have krec14 : ∀ {π : Sh} {σ : St} {x1 : Int} {x2 : Int}, Cl π σ → Cs_read_14 N n π σ x1 x2 = some r → ext π r.1 ∧ Cl r.1 r.2.1 := fun {_ _} {_} {_} => km_Cs_read_14   n
    rw [Cs_read_14] at hm
    refine lv_iload_n C.1 C.2.1 dX11_read_14 rfl (lv_at hl 2 rfl) ?_
    refine lv_sipush (v := Int32.ofInt 2000) C.1 C.2.1 dX11_read_15 (by decide) ?_
    obtain ⟨g8, hm⟩ := grd_s hm
    refine z_icmp_gt (tgt := 61) C dX11_read_18 (by decide) g8 (by decide) (fun c9 => ?_) (fun c9 => ?_)
    · have hm := ite_t c9 hm
      exact kl_Cs_read_61 (N := N) C hr hlk hE hC hG hX (lv_sub hl [0] rfl) h hm
    · have hm := ite_f c9 hm
      refine lv_iload_n C.1 C.2.1 dX11_read_21 rfl (lv_at hl 1 rfl) ?_
      obtain ⟨g10, hm⟩ := grd_s hm
      refine z_if_eq (tgt := 61) C dX11_read_22 (by decide) g10 (fun c11 => ?_) (fun c11 => ?_)
      · have hm := ite_t c11 hm
        exact kl_Cs_read_61 (N := N) C hr hlk hE hC hG hX (lv_sub hl [0] rfl) h hm
      · have hm := ite_f c11 hm
        refine z_aload_n C dX11_read_25 rfl (lv_at hl 0 rfl) ?_
        refine z_aload_n C dX11_read_26 rfl (lv_at hl 0 rfl) ?_
        refine cg_12_7 C h (sh_0 hS) cU_X11 (List.mem_cons_of_mem _ wl_X11_55) dX11_read_27 ?_
        obtain ⟨r12, e13, hm⟩ := obd_s hm
        have q14 := (km_Rd_line hC e13)
        have q := km_Cs_read_33  krec14 q14.2.1 q14.2.2 hm
        refine c_callVqA C hE h (sh_44 hS) rfl (by decide) (kc_Rd_line l D k z mi aK aV g N hC e13) (cwV 0 C.2.2.1 (gS_X11_112 _) rfl rfl rfl hd_X6_line ⟨Nat.le_of_ble_eq_true rfl, Nat.le_of_ble_eq_true rfl⟩) rfl hl.1 rfl (by simp [rfv_cat, cat_i, cat_l]) dX11_read_30 ⟨rcC hX q14.1 q.1, rsC hX q14.1 q.1⟩ (fun u H locs hg h => ?_)
        simp only [← gx_rfv hg (sh_0 hS).2.1] at hl
        try simp only [← gx_rfv hg (sh_0 hS).2.1]
        refine W_cast (wcC hX q14.1).symm (wsC hX q14.1).symm ?_
        exact kl_Cs_read_33 (N := N) C hr hlk hE  krec14 hrec14 q14.2.1 (hG.tr hg hX.1) (hX.tr q14.1) q14.2.2 (lv_sub hl [0, 2] rfl) h hm
set_option maxHeartbeats 8000000 in
set_option maxRecDepth 100000 in
theorem kl_Cs_read_4 {r : Sh × St × Int} (C : Cx p s m args c cX11_read RX11 (cd :: cWd) D (TYs k) 3) (hr : meth.sig.returnType = (some .int)) (hlk : meth.locks = false) (hE : Ev z mi aK aV A s s.heap)    {ls : Array Slot} {H : Heap} {locs : List Loc} {g : Nat → Nat} {π : Sh} {σ : St}  (hC : Cl π σ) (hG : gx (nn π0) g0 g) (hX : ext π0 π)  (hl : lv_has ls 3 [(0, rfv g 0)]) (h : Hp D A s.heap H locs (cW k z g π σ)) (hm : Cs_read_4 N π σ  = some r) : W p l e { frames := 556, cells := nn r.1 - nn π0, slots := sw r.1 - sw π0, locals := 28984 } s m args below meth c H locs (nn π - nn π0) (sw π - sw π0) (MQ below (va_Qi (fun v u => gx (nn π0) g0 u ∧ v = Int32.ofInt r.2.2) (fun u t => PostW D (TYs k) A (cW k z u r.1 r.2.1) t) A) args s (nn r.1 - nn π0) (sw r.1 - sw π0) A) (F0 m 4 ls []) := by
  have hS := hC.1
  have hq := km_Cs_read_4    hC  hm
  rw [Cs_read_4] at hm
  refine z_aload_n C dX11_read_4 rfl (lv_at hl 0 rfl) ?_
  refine cg_12_7 C h (sh_0 hS) cU_X11 (List.mem_cons_of_mem _ wl_X11_55) dX11_read_5 ?_
  obtain ⟨r4, e5, hm⟩ := obd_s hm
  have q6 := (km_Rd_hasMore hC e5)
  refine c_callViP C hE h (sh_44 hS) rfl (by decide) (kc_Rd_hasMore l D k z mi aK aV g N hS e5) (cwV 0 C.2.2.1 (gS_X11_108 _) rfl rfl rfl hd_X6_hasMore ⟨Nat.le_of_ble_eq_true rfl, Nat.le_of_ble_eq_true rfl⟩) rfl hl.1 rfl (Nat.le_of_ble_eq_true rfl) dX11_read_8 ⟨(czz hX hq.1), (szz hX hq.1)⟩ (fun H locs h => ?_)
  have hC7 : Cl π r4.1 := q6
  refine lv_istore_n (i := 1) (lv' := [(1, .int (Int32.ofInt r4.2)), (0, rfv g 0)]) C.1 C.2.1 dX11_read_11 rfl hl (by decide) (by simp [rfv_cat, cat_i, cat_l]) (fun ls hl => ?_)
  refine lv_iconst (v := Int32.ofInt 0) C.1 C.2.1 dX11_read_12 (by decide) ?_
  refine lv_istore_n (lv' := [(2, .int (Int32.ofInt 0)), (1, .int (Int32.ofInt r4.2)), (0, rfv g 0)]) C.1 C.2.1 dX11_read_13 rfl hl (by decide) rfl (fun ls hl => ?_)
  exact kl_Cs_read_14 (N := N) C hr hlk hE N hC7 hG hX (lv_sub hl [2, 1, 0] rfl) h hm
set_option maxHeartbeats 8000000 in
set_option maxRecDepth 100000 in
theorem kc_Cs_read (l : Launch) (D : va_G) (k : Nat → ClassId) (z mi : Nat) (aK aV : Nat → Nat) (g : Nat → Nat) (N : Nat)    {π : Sh} {σ : St}  {r : Sh × St × Int} (hC : Cl π σ)  (hm : Cs_read N π σ  = some r) : Mi l yX11_read (.code yX11_read cX11_read 3 (some .int) :: cWd) { frames := 556, cells := nn r.1 - nn π, slots := sw r.1 - sw π, locals := 28984 } [rfv g 0] D (TYs k) (cW k z g π σ) (XV z mi aK aV (cW k z g π σ)) (Nat → Nat) (fun v u => gx (nn π) g u ∧ v = Int32.ofInt r.2.2) (fun u => cW k z u r.1 r.2.1) (nn r.1 - nn π) (sw r.1 - sw π) := by
  have hS := hC.1
  have hq := km_Cs_read  hC  hm
  intro sz
  refine v_met (cc := cX11_read) (maxL := 3) (ret := (some .int)) (lv := [(0, rfv g 0)]) (by decide) rfl (by simp [lg_sl, rfv_cat, cat_i, cat_l]) (by simp [lv_args, rfv_cat, cat_i, cat_l]) ?_
  intro p e s m below meth c ls C hE hr hlk hmn hl h
  generalize ([rfv g 0] : List Value).toArray = args at C ⊢
  have hG := gx.rf (nn π) g
  have hX := ext.rf π
  refine W_cast (Nat.sub_self (nn π)) (Nat.sub_self (sw π)) ?_
  rw [Cs_read] at hm
  refine z_aload_n C dX11_read_0 rfl (lv_at hl 0 rfl) ?_
  obtain ⟨r1, e2, hm⟩ := obd_s hm
  have q3 := (km_Cs_startReading hC e2)
  have q := km_Cs_read_4   q3.2  hm
  refine c_callVvA C hE h (sh_0 hS) rfl (by decide) (kc_Cs_startReading l D k z mi aK aV g N hC e2) (cwV 0 C.2.2.1 (gS_X11_105 _) rfl rfl rfl hd_X11_startReading ⟨Nat.le_of_ble_eq_true rfl, Nat.le_of_ble_eq_true rfl⟩) rfl hl.1 rfl (Nat.le_of_ble_eq_true rfl) dX11_read_1 ⟨rcC hX q3.1 q.1, rsC hX q3.1 q.1⟩ (fun u H locs hg h => ?_)
  simp only [← gx_rfv hg (sh_0 hS).2.1] at hl
  try simp only [← gx_rfv hg (sh_0 hS).2.1]
  refine W_cast (wcC hX q3.1).symm (wsC hX q3.1).symm ?_
  exact kl_Cs_read_4 (N := N) C hr hlk hE   q3.2 (hG.tr hg hX.1) (hX.tr q3.1)  (lv_sub hl [0] rfl) h hm
end Z_Cs_read
section Z_Cs_settle
variable {p : Program} {l : Launch} {e : Env} {s : State} {m : MethodId} {args : Array Value} {below : List Frame} {meth : Method} {c : Code} {D : va_G} {A : Nat → Prop} {k : Nat → ClassId} {N : Nat} {cd : Cond} {z mi : Nat} {aK aV : Nat → Nat} {g : Nat → Nat} {π : Sh}
set_option maxHeartbeats 8000000 in
set_option maxRecDepth 100000 in
theorem kl_Cs_settle_55 {r : St} (C : Cx p s m args c cX11_settle RX11 (cd :: cWd) D (TYs k) 2) (hr : meth.sig.returnType = none) (hlk : meth.locks = false) (hE : Ev z mi aK aV A s s.heap) (hS : SHs π)   {rec14 : St → Int → Option St} (hrec14 : ∀ {ls : Array Slot} {H : Heap} {locs : List Loc} {σ : St} {x1 : Int}, lv_has ls 2 [(0, rfv g 0), (1, .int (Int32.ofInt x1))] → Hp D A s.heap H locs (cW k z g π σ) → rec14 σ x1 = some r → W p l e { frames := 0, cells := 0, slots := 0, locals := 0 } s m args below meth c H locs 0 0 (MQ below (va_Qv (fun (_ : Unit) => True) (fun _ t => PostW D (TYs k) A (cW k z g π r) t) A) args s 0 0 A) (F0 m 14 ls [])) {ls : Array Slot} {H : Heap} {locs : List Loc} {σ : St} {x1 : Int}  (hl : lv_has ls 2 [(0, rfv g 0), (1, .int (Int32.ofInt x1))]) (h : Hp D A s.heap H locs (cW k z g π σ)) (hm : Cs_settle_55 N π rec14 σ x1 = some r) : W p l e { frames := 0, cells := 0, slots := 0, locals := 0 } s m args below meth c H locs 0 0 (MQ below (va_Qv (fun (_ : Unit) => True) (fun _ t => PostW D (TYs k) A (cW k z g π r) t) A) args s 0 0 A) (F0 m 55 ls []) := by
  rw [Cs_settle_55] at hm
  refine lv_iinc (v := Int32.ofInt (x1 + 1)) (lv' := [(1, .int (Int32.ofInt (x1 + 1))), (0, rfv g 0)]) C.1 C.2.1 dX11_settle_55 hl (k := 1) rfl (c32_add _ _) (by decide) (by simp [rfv_cat, cat_i, cat_l]) (fun ls hl => ?_)
  refine lv_goto (tgt := 14) C.1 C.2.1 dX11_settle_58 (by decide) ?_
  exact hrec14 (lv_sub hl [1, 0] rfl) h hm
set_option maxHeartbeats 8000000 in
set_option maxRecDepth 100000 in
theorem kl_Cs_settle_14 {r : St} (C : Cx p s m args c cX11_settle RX11 (cd :: cWd) D (TYs k) 2) (hr : meth.sig.returnType = none) (hlk : meth.locks = false) (hE : Ev z mi aK aV A s s.heap) (hS : SHs π)    (n : Nat) : ∀ {ls : Array Slot} {H : Heap} {locs : List Loc} {σ : St} {x1 : Int}, lv_has ls 2 [(0, rfv g 0), (1, .int (Int32.ofInt x1))] → Hp D A s.heap H locs (cW k z g π σ) → Cs_settle_14 N π n σ x1 = some r → W p l e { frames := 0, cells := 0, slots := 0, locals := 0 } s m args below meth c H locs 0 0 (MQ below (va_Qv (fun (_ : Unit) => True) (fun _ t => PostW D (TYs k) A (cW k z g π r) t) A) args s 0 0 A) (F0 m 14 ls []) := by
  induction n with
  | zero => intro ls H locs σ x1  hl h hm; cases (show none = some r from hm)
  | succ n hrec14 =>
    intro ls H locs σ x1  hl h hm
    rw [Cs_settle_14] at hm
    refine lv_iload_n C.1 C.2.1 dX11_settle_14 rfl (lv_at hl 1 rfl) ?_
    refine lv_bipush (v := Int32.ofInt 8) C.1 C.2.1 dX11_settle_15 (by decide) ?_
    obtain ⟨g4, hm⟩ := grd_s hm
    refine z_icmp_ge (tgt := 61) C dX11_settle_17 (by decide) g4 (by decide) (fun c5 => ?_) (fun c5 => ?_)
    · have hm := ite_f c5 hm
      cases hm
      exact c_vretP C h hr hlk dX11_settle_61
    · have hm := ite_t c5 hm
      refine z_aload_n C dX11_settle_20 rfl (lv_at hl 0 rfl) ?_
      refine cg_12_10 C h (sh_0 hS) cU_X11 (List.mem_cons_of_mem _ wl_X11_68) dX11_settle_21 ?_
      refine lv_iload_n C.1 C.2.1 dX11_settle_24 rfl (lv_at hl 1 rfl) ?_
      obtain ⟨g6, hm⟩ := grd_s hm
      refine c_zald C h (sh_53 hS) (ina_inb (n := 8) (sl_53 hS) (Nat.le_of_ble_eq_true rfl) g6) dX11_settle_25 ?_
      obtain ⟨g7, hm⟩ := grd_s hm
      refine z_if_eq (tgt := 55) C dX11_settle_26 (by decide) g7 (fun c8 => ?_) (fun c8 => ?_)
      · have hm := ite_t c8 hm
        exact kl_Cs_settle_55 (N := N) C hr hlk hE hS hrec14 (lv_sub hl [0, 1] rfl) h hm
      · have hm := ite_f c8 hm
        refine z_aload_n C dX11_settle_29 rfl (lv_at hl 0 rfl) ?_
        refine cg_12_8 C h (sh_0 hS) cU_X11 (List.mem_cons_of_mem _ wl_X11_61) dX11_settle_30 ?_
        refine lv_iload_n C.1 C.2.1 dX11_settle_33 rfl (lv_at hl 1 rfl) ?_
        refine z_aload_n C dX11_settle_34 rfl (lv_at hl 0 rfl) ?_
        refine cg_12_9 C h (sh_0 hS) cU_X11 (List.mem_cons_of_mem _ wl_X11_65) dX11_settle_35 ?_
        refine lv_iload_n C.1 C.2.1 dX11_settle_38 rfl (lv_at hl 1 rfl) ?_
        refine c_qald C h (t := 6) (by decide) rfl (sh_52 hS) (ina_inb (n := 8) (sl_52 hS) (Nat.le_of_ble_eq_true rfl) g6) dX11_settle_39 ?_
        obtain ⟨g9, hm⟩ := grd_s hm
        refine c_qast C h (t := 6) (c0 := 5) (by decide) rfl (by decide) rfl (sh_51 hS) (ina_inb (n := 8) (sl_51 hS) (Nat.le_of_ble_eq_true rfl) g6) g9 dX11_settle_40 (fun H locs h => ?_)
        refine z_aload_n C dX11_settle_41 rfl (lv_at hl 0 rfl) ?_
        refine cg_12_9 C h (sh_0 hS) cU_X11 (List.mem_cons_of_mem _ wl_X11_65) dX11_settle_42 ?_
        refine lv_iload_n C.1 C.2.1 dX11_settle_45 rfl (lv_at hl 1 rfl) ?_
        refine z_null (g := g) C dX11_settle_46 ?_
        refine c_qast C h (t := 6) (c0 := 5) (by decide) rfl (by decide) rfl (sh_52 hS) (ina_inb (n := 8) (sl_52 hS) (Nat.le_of_ble_eq_true rfl) g6) (Or.inl (by decide)) dX11_settle_47 (fun H locs h => ?_)
        refine z_aload_n C dX11_settle_48 rfl (lv_at hl 0 rfl) ?_
        refine cg_12_10 C h (sh_0 hS) cU_X11 (List.mem_cons_of_mem _ wl_X11_68) dX11_settle_49 ?_
        refine lv_iload_n C.1 C.2.1 dX11_settle_52 rfl (lv_at hl 1 rfl) ?_
        refine lv_iconst (v := Int32.ofInt 0) C.1 C.2.1 dX11_settle_53 (by decide) ?_
        refine c_zast C h (sh_53 hS) (ina_inb (n := 8) (sl_53 hS) (Nat.le_of_ble_eq_true rfl) g6) (by decide) dX11_settle_54 (fun H locs h => ?_)
        exact kl_Cs_settle_55 (N := N) C hr hlk hE hS hrec14 (lv_sub hl [0, 1] rfl) h hm
set_option maxHeartbeats 8000000 in
set_option maxRecDepth 100000 in
theorem kc_Cs_settle (l : Launch) (D : va_G) (k : Nat → ClassId) (z mi : Nat) (aK aV : Nat → Nat) (g : Nat → Nat) (N : Nat)    {π : Sh} {σ : St}  {r : St} (hS : SHs π) (hm : Cs_settle N π σ  = some r) : Mv l yX11_settle (.code yX11_settle cX11_settle 2 none :: cWd) { frames := 0, cells := 0, slots := 0, locals := 0 } [rfv g 0] D (TYs k) (cW k z g π σ) (XV z mi aK aV (cW k z g π σ)) Unit (fun _ => True) (fun _ => cW k z g π r) 0 0 := by
  intro sz
  refine v_met (cc := cX11_settle) (maxL := 2) (ret := none) (lv := [(0, rfv g 0)]) (by decide) rfl (by simp [lg_sl, rfv_cat, cat_i, cat_l]) (by simp [lv_args, rfv_cat, cat_i, cat_l]) ?_
  intro p e s m below meth c ls C hE hr hlk hmn hl h
  rw [Cs_settle] at hm
  refine z_aload_n C dX11_settle_0 rfl (lv_at hl 0 rfl) ?_
  refine cg_12_13 C h (sh_0 hS) cU_X11 (List.mem_cons_of_mem _ wl_X11_78) dX11_settle_1 ?_
  refine lv_sipush (v := Int32.ofInt 960) C.1 C.2.1 dX11_settle_4 (by decide) ?_
  obtain ⟨g1, hm⟩ := grd_s hm
  refine z_irem C dX11_settle_7 g1 (by decide) (by decide) ?_
  obtain ⟨g2, hm⟩ := grd_s hm
  refine z_if_eq (tgt := 12) C dX11_settle_8 (by decide) g2 (fun c3 => ?_) (fun c3 => ?_)
  · have hm := ite_t c3 hm
    refine lv_iconst (v := Int32.ofInt 0) C.1 C.2.1 dX11_settle_12 (by decide) ?_
    refine lv_istore_n (i := 1) (lv' := [(1, .int (Int32.ofInt 0)), (0, rfv g 0)]) C.1 C.2.1 dX11_settle_13 rfl hl (by decide) (by simp [rfv_cat, cat_i, cat_l]) (fun ls hl => ?_)
    exact kl_Cs_settle_14 (N := N) C hr hlk hE hS N (lv_sub hl [1, 0] rfl) h hm
  · have hm := ite_f c3 hm
    cases hm
    exact c_vretP C h hr hlk dX11_settle_11
end Z_Cs_settle
section Z_Cs_assign
variable {p : Program} {l : Launch} {e : Env} {s : State} {m : MethodId} {args : Array Value} {below : List Frame} {meth : Method} {c : Code} {D : va_G} {A : Nat → Prop} {k : Nat → ClassId} {N : Nat} {cd : Cond} {z mi : Nat} {aK aV : Nat → Nat} {g : Nat → Nat} {π : Sh}
set_option maxHeartbeats 8000000 in
set_option maxRecDepth 100000 in
theorem kc_Cs_assign (l : Launch) (D : va_G) (k : Nat → ClassId) (z mi : Nat) (aK aV : Nat → Nat) (g : Nat → Nat) (N : Nat)    {π : Sh} {σ : St} {x1 : Int} {x2 : Int} {r : St} (hS : SHs π) (hm : Cs_assign N π σ x1 x2 = some r) : Mv l yX11_assign (.code yX11_assign cX11_assign 3 none :: cWd) { frames := 1, cells := 0, slots := 0, locals := 21 } [rfv g 0, .int (Int32.ofInt x1), rfv g x2] D (TYs k) (cW k z g π σ) (XV z mi aK aV (cW k z g π σ)) Unit (fun _ => True) (fun _ => cW k z g π r) 0 0 := by
  intro sz
  refine v_met (cc := cX11_assign) (maxL := 3) (ret := none) (lv := [(0, rfv g 0), (1, .int (Int32.ofInt x1)), (2, rfv g x2)]) (by decide) rfl (by simp [lg_sl, rfv_cat, cat_i, cat_l]) (by simp [lv_args, rfv_cat, cat_i, cat_l]) ?_
  intro p e s m below meth c ls C hE hr hlk hmn hl h
  rw [Cs_assign] at hm
  refine z_aload_n C dX11_assign_0 rfl (lv_at hl 0 rfl) ?_
  refine cg_12_9 C h (sh_0 hS) cU_X11 (List.mem_cons_of_mem _ wl_X11_65) dX11_assign_1 ?_
  refine lv_iload_n C.1 C.2.1 dX11_assign_4 rfl (lv_at hl 1 rfl) ?_
  refine z_aload_n C dX11_assign_5 rfl (lv_at hl 2 rfl) ?_
  obtain ⟨g1, hm⟩ := grd_s hm
  obtain ⟨g2, hm⟩ := grd_s hm
  refine c_qast C h (t := 6) (c0 := 5) (by decide) rfl (by decide) rfl (sh_52 hS) (ina_inb (n := 8) (sl_52 hS) (Nat.le_of_ble_eq_true rfl) g1) g2 dX11_assign_6 (fun H locs h => ?_)
  refine z_aload_n C dX11_assign_7 rfl (lv_at hl 0 rfl) ?_
  refine cg_12_10 C h (sh_0 hS) cU_X11 (List.mem_cons_of_mem _ wl_X11_68) dX11_assign_8 ?_
  refine lv_iload_n C.1 C.2.1 dX11_assign_11 rfl (lv_at hl 1 rfl) ?_
  refine lv_iconst (v := Int32.ofInt 1) C.1 C.2.1 dX11_assign_12 (by decide) ?_
  refine c_zast C h (sh_53 hS) (ina_inb (n := 8) (sl_53 hS) (Nat.le_of_ble_eq_true rfl) g1) (by decide) dX11_assign_13 (fun H locs h => ?_)
  refine z_aload_n C dX11_assign_14 rfl (lv_at hl 0 rfl) ?_
  obtain ⟨σ3, e4, hm⟩ := bnd_s hm
  rw [e4] at h
  obtain ⟨r6, e7, hm⟩ := obd_s hm
  refine c_callVvP C hE h (sh_0 hS) rfl (by decide) (kc_Cs_settle l D k z mi aK aV g N hS e7) (cwV 0 C.2.2.1 (gS_X11_214 _) rfl rfl rfl hd_X11_settle ⟨Nat.le_of_ble_eq_true rfl, Nat.le_of_ble_eq_true rfl⟩) rfl hl.1 rfl (Nat.le_of_ble_eq_true rfl) dX11_assign_15 ⟨(Nat.le_of_ble_eq_true rfl), (Nat.le_of_ble_eq_true rfl)⟩ (fun H locs h => ?_)
  cases hm
  exact c_vretP C h hr hlk dX11_assign_18
end Z_Cs_assign
section Z_Cs_isTrack
variable {p : Program} {l : Launch} {e : Env} {s : State} {m : MethodId} {args : Array Value} {below : List Frame} {meth : Method} {c : Code} {D : va_G} {A : Nat → Prop} {k : Nat → ClassId} {N : Nat} {cd : Cond}
set_option maxHeartbeats 8000000 in
set_option maxRecDepth 100000 in
theorem kc_Cs_isTrack (l : Launch) (D : va_G) (k : Nat → ClassId) (N : Nat) (x0 : Int) (r : Int) (hm : Cs_isTrack N x0 = some r) : Mi l yX11_isTrack (.code yX11_isTrack cX11_isTrack 1 (some .boolean) :: cWd) { frames := 0, cells := 0, slots := 0, locals := 0 } [.int (Int32.ofInt x0)] D (TYs k) [] (fun _ => True) Unit (fun v _ => v = Int32.ofInt r) (fun _ => []) 0 0 := by
  intro sz
  refine x_met (cc := cX11_isTrack) (maxL := 1) (ret := (some .boolean)) (by decide) rfl (Nat.le_of_ble_eq_true rfl) ?_
  intro p e s m below meth c ls C hX hsz hr hlk hmn hl h
  have hl : lv_has ls 1 [(0, .int (Int32.ofInt x0))] := hl
  rw [Cs_isTrack] at hm
  refine lv_iload_n C.1 C.2.1 dX11_isTrack_0 rfl (lv_at hl 0 rfl) ?_
  obtain ⟨g1, hm⟩ := grd_s hm
  refine z_if_lt (tgt := 14) C dX11_isTrack_1 (by decide) g1 (fun c2 => ?_) (fun c2 => ?_)
  · have hm := ite_t c2 hm
    refine lv_iconst (v := Int32.ofInt 0) C.1 C.2.1 dX11_isTrack_14 (by decide) ?_
    cases hm
    exact v_iretS C h hr hlk dX11_isTrack_15 rfl
  · have hm := ite_f c2 hm
    refine lv_iload_n C.1 C.2.1 dX11_isTrack_4 rfl (lv_at hl 0 rfl) ?_
    refine lv_bipush (v := Int32.ofInt 8) C.1 C.2.1 dX11_isTrack_5 (by decide) ?_
    refine z_icmp_ge (tgt := 14) C dX11_isTrack_7 (by decide) g1 (by decide) (fun c3 => ?_) (fun c3 => ?_)
    · have hm := ite_f c3 hm
      refine lv_iconst (v := Int32.ofInt 0) C.1 C.2.1 dX11_isTrack_14 (by decide) ?_
      cases hm
      exact v_iretS C h hr hlk dX11_isTrack_15 rfl
    · have hm := ite_t c3 hm
      refine lv_iconst (v := Int32.ofInt 1) C.1 C.2.1 dX11_isTrack_10 (by decide) ?_
      refine lv_goto (tgt := 15) C.1 C.2.1 dX11_isTrack_11 (by decide) ?_
      cases hm
      exact v_iretS C h hr hlk dX11_isTrack_15 rfl
end Z_Cs_isTrack
section Z_Cs_hang
variable {p : Program} {l : Launch} {e : Env} {s : State} {m : MethodId} {args : Array Value} {below : List Frame} {meth : Method} {c : Code} {D : va_G} {A : Nat → Prop} {k : Nat → ClassId} {N : Nat} {cd : Cond} {z mi : Nat} {aK aV : Nat → Nat} {g0 : Nat → Nat} {π0 : Sh}
set_option maxHeartbeats 8000000 in
set_option maxRecDepth 100000 in
theorem kl_Cs_hang_84 {r : Sh × St × Int} (C : Cx p s m args c cX11_hang RX11 (cd :: cWd) D (TYs k) 5) (hr : meth.sig.returnType = (some .int)) (hlk : meth.locks = false) (hE : Ev z mi aK aV A s s.heap)    {ls : Array Slot} {H : Heap} {locs : List Loc} {g : Nat → Nat} {π : Sh} {σ : St} {x4 : Int} (hC : Cl π σ) (hG : gx (nn π0) g0 g) (hX : ext π0 π)  (hl : lv_has ls 5 [(0, rfv g 0), (4, .int (Int32.ofInt x4))]) (h : Hp D A s.heap H locs (cW k z g π σ)) (hm : Cs_hang_84 N π σ x4 = some r) : W p l e { frames := 556, cells := nn r.1 - nn π0, slots := sw r.1 - sw π0, locals := 28985 } s m args below meth c H locs (nn π - nn π0) (sw π - sw π0) (MQ below (va_Qi (fun v u => gx (nn π0) g0 u ∧ v = Int32.ofInt r.2.2) (fun u t => PostW D (TYs k) A (cW k z u r.1 r.2.1) t) A) args s (nn r.1 - nn π0) (sw r.1 - sw π0) A) (F0 m 84 ls []) := by
  have hS := hC.1
  have hq := km_Cs_hang_84    hC  hm
  rw [Cs_hang_84] at hm
  refine z_aload_n C dX11_hang_84 rfl (lv_at hl 0 rfl) ?_
  refine lv_iload C.1 C.2.1 dX11_hang_85 (lv_at hl 1 rfl) ?_
  obtain ⟨r24, e25, hm⟩ := obd_s hm
  have q26 := (km_Cs_finishReading hC e25)
  refine c_callViP C hE h (sh_0 hS) rfl (by decide) (kc_Cs_finishReading l D k z mi aK aV g N hS e25) (cwV 1 C.2.2.1 (gS_X11_131 _) rfl rfl rfl hd_X11_finishReading ⟨Nat.le_of_ble_eq_true rfl, Nat.le_of_ble_eq_true rfl⟩) rfl hl.1 rfl (Nat.le_of_ble_eq_true rfl) dX11_hang_87 ⟨(czz hX hq.1), (szz hX hq.1)⟩ (fun H locs h => ?_)
  have hC27 : Cl π r24.1 := q26
  cases hm
  exact c_iretA C hG h hr hlk dX11_hang_90 rfl
set_option maxHeartbeats 8000000 in
set_option maxRecDepth 100000 in
theorem kl_Cs_hang_71 {r : Sh × St × Int} (C : Cx p s m args c cX11_hang RX11 (cd :: cWd) D (TYs k) 5) (hr : meth.sig.returnType = (some .int)) (hlk : meth.locks = false) (hE : Ev z mi aK aV A s s.heap)    {ls : Array Slot} {H : Heap} {locs : List Loc} {g : Nat → Nat} {π : Sh} {σ : St} {x1 : Int} {x3 : Int} {s0 : Int} (hC : Cl π σ) (hG : gx (nn π0) g0 g) (hX : ext π0 π) (hv_x3 : x3 < nn π) (hl : lv_has ls 5 [(0, rfv g 0), (1, .int (Int32.ofInt x1)), (3, rfv g x3)]) (h : Hp D A s.heap H locs (cW k z g π σ)) (hm : Cs_hang_71 N π σ x1 x3 s0 = some r) : W p l e { frames := 556, cells := nn r.1 - nn π0, slots := sw r.1 - sw π0, locals := 28985 } s m args below meth c H locs (nn π - nn π0) (sw π - sw π0) (MQ below (va_Qi (fun v u => gx (nn π0) g0 u ∧ v = Int32.ofInt r.2.2) (fun u t => PostW D (TYs k) A (cW k z u r.1 r.2.1) t) A) args s (nn r.1 - nn π0) (sw r.1 - sw π0) A) (F0 m 71 ls [.int (Int32.ofInt s0)]) := by
  have hS := hC.1
  have hq := km_Cs_hang_71    hC hv_x3 hm
  rw [Cs_hang_71] at hm
  refine lv_istore (lv' := [(4, .int (Int32.ofInt s0)), (0, rfv g 0), (1, .int (Int32.ofInt x1)), (3, rfv g x3)]) C.1 C.2.1 dX11_hang_71 hl (by decide) (by simp [rfv_cat, cat_i, cat_l]) (fun ls hl => ?_)
  refine lv_iload C.1 C.2.1 dX11_hang_73 (lv_at hl 0 rfl) ?_
  obtain ⟨g18, hm⟩ := grd_s hm
  refine z_if_ne (tgt := 84) C dX11_hang_75 (by decide) g18 (fun c19 => ?_) (fun c19 => ?_)
  · have hm := ite_f c19 hm
    exact kl_Cs_hang_84 (N := N) C hr hlk hE hC hG hX (lv_sub hl [1, 0] rfl) h hm
  · have hm := ite_t c19 hm
    refine z_aload_n C dX11_hang_78 rfl (lv_at hl 1 rfl) ?_
    refine lv_iload_n C.1 C.2.1 dX11_hang_79 rfl (lv_at hl 2 rfl) ?_
    refine z_aload_n C dX11_hang_80 rfl (lv_at hl 3 rfl) ?_
    obtain ⟨r20, e21, hm⟩ := obd_s hm
    have q22 := (km_Cs_assign hC hv_x3 e21)
    refine c_callVvP C hE h (sh_0 hS) rfl (by decide) (kc_Cs_assign l D k z mi aK aV g N hS e21) (cwV 2 C.2.2.1 (gS_X11_146 _) rfl rfl rfl hd_X11_assign ⟨Nat.le_of_ble_eq_true rfl, Nat.le_of_ble_eq_true rfl⟩) rfl hl.1 rfl (Nat.le_of_ble_eq_true rfl) dX11_hang_81 ⟨(czz hX hq.1), (szz hX hq.1)⟩ (fun H locs h => ?_)
    have hC23 : Cl π r20 := q22
    exact kl_Cs_hang_84 (N := N) C hr hlk hE hC23 hG hX (lv_sub hl [1, 0] rfl) h hm
set_option maxHeartbeats 8000000 in
set_option maxRecDepth 100000 in
theorem kl_Cs_hang_43 {r : Sh × St × Int} (C : Cx p s m args c cX11_hang RX11 (cd :: cWd) D (TYs k) 5) (hr : meth.sig.returnType = (some .int)) (hlk : meth.locks = false) (hE : Ev z mi aK aV A s s.heap)    {ls : Array Slot} {H : Heap} {locs : List Loc} {g : Nat → Nat} {π : Sh} {σ : St} {x1 : Int} {s0 : Int} (hC : Cl π σ) (hG : gx (nn π0) g0 g) (hX : ext π0 π) (hv_s0 : s0 < nn π) (hl : lv_has ls 5 [(0, rfv g 0), (1, .int (Int32.ofInt x1))]) (h : Hp D A s.heap H locs (cW k z g π σ)) (hm : Cs_hang_43 N π σ x1 s0 = some r) : W p l e { frames := 556, cells := nn r.1 - nn π0, slots := sw r.1 - sw π0, locals := 28985 } s m args below meth c H locs (nn π - nn π0) (sw π - sw π0) (MQ below (va_Qi (fun v u => gx (nn π0) g0 u ∧ v = Int32.ofInt r.2.2) (fun u t => PostW D (TYs k) A (cW k z u r.1 r.2.1) t) A) args s (nn r.1 - nn π0) (sw r.1 - sw π0) A) (F0 m 43 ls [rfv g s0]) := by
  have hS := hC.1
  have hq := km_Cs_hang_43    hC hv_s0 hm
  rw [Cs_hang_43] at hm
  refine z_astore_n (lv' := [(3, rfv g s0), (0, rfv g 0), (1, .int (Int32.ofInt x1))]) C dX11_hang_43 rfl hl (by decide) rfl (fun ls hl => ?_)
  refine z_aload_n C dX11_hang_44 rfl (lv_at hl 1 rfl) ?_
  refine cg_12_0 C h (sh_0 hS) cU_X11 (List.mem_cons_of_mem _ wl_X11_10) dX11_hang_45 ?_
  refine cg_9_2 C h (sh_1 hS) cU_X8 (List.mem_cons_of_mem _ wl_X11_120) dX11_hang_48 ?_
  obtain ⟨g16, hm⟩ := grd_s hm
  refine z_if_eq (tgt := 64) C dX11_hang_51 (by decide) g16 (fun c17 => ?_) (fun c17 => ?_)
  · have hm := ite_t c17 hm
    refine z_aload_n C dX11_hang_64 rfl (lv_at hl 1 rfl) ?_
    refine cg_12_1 C h (sh_0 hS) cU_X11 (List.mem_cons_of_mem _ wl_X11_19) dX11_hang_65 ?_
    refine cg_4_8 C h (sh_3 hS) cU_X3 (List.mem_cons_of_mem _ wl_X11_123) dX11_hang_68 ?_
    exact kl_Cs_hang_71 (N := N) C hr hlk hE hC hG hX hv_s0 (lv_sub hl [1, 2, 0] rfl) h hm
  · have hm := ite_f c17 hm
    refine z_aload_n C dX11_hang_54 rfl (lv_at hl 1 rfl) ?_
    refine cg_12_0 C h (sh_0 hS) cU_X11 (List.mem_cons_of_mem _ wl_X11_10) dX11_hang_55 ?_
    refine cg_9_2 C h (sh_1 hS) cU_X8 (List.mem_cons_of_mem _ wl_X11_120) dX11_hang_58 ?_
    refine lv_goto (tgt := 71) C.1 C.2.1 dX11_hang_61 (by decide) ?_
    exact kl_Cs_hang_71 (N := N) C hr hlk hE hC hG hX hv_s0 (lv_sub hl [1, 2, 0] rfl) h hm
set_option maxHeartbeats 8000000 in
set_option maxRecDepth 100000 in
theorem kl_Cs_hang_39 {r : Sh × St × Int} (C : Cx p s m args c cX11_hang RX11 (cd :: cWd) D (TYs k) 5) (hr : meth.sig.returnType = (some .int)) (hlk : meth.locks = false) (hE : Ev z mi aK aV A s s.heap)    {ls : Array Slot} {H : Heap} {locs : List Loc} {g : Nat → Nat} {π : Sh} {σ : St} {x1 : Int} {s0 : Int} (hC : Cl π σ) (hG : gx (nn π0) g0 g) (hX : ext π0 π) (hv_s0 : s0 < nn π) (hl : lv_has ls 5 [(0, rfv g 0), (1, .int (Int32.ofInt x1))]) (h : Hp D A s.heap H locs (cW k z g π σ)) (hm : Cs_hang_39 N π σ x1 s0 = some r) : W p l e { frames := 556, cells := nn r.1 - nn π0, slots := sw r.1 - sw π0, locals := 28985 } s m args below meth c H locs (nn π - nn π0) (sw π - sw π0) (MQ below (va_Qi (fun v u => gx (nn π0) g0 u ∧ v = Int32.ofInt r.2.2) (fun u t => PostW D (TYs k) A (cW k z u r.1 r.2.1) t) A) args s (nn r.1 - nn π0) (sw r.1 - sw π0) A) (F0 m 39 ls [rfv g s0]) := by
  have hS := hC.1
  have hq := km_Cs_hang_39    hC hv_s0 hm
  rw [Cs_hang_39] at hm
  refine lv_goto (tgt := 43) C.1 C.2.1 dX11_hang_39 (by decide) ?_
  exact kl_Cs_hang_43 (N := N) C hr hlk hE hC hG hX hv_s0 (lv_sub hl [0, 1] rfl) h hm
set_option maxHeartbeats 8000000 in
set_option maxRecDepth 100000 in
theorem kl_Cs_hang_20 {r : Sh × St × Int} (C : Cx p s m args c cX11_hang RX11 (cd :: cWd) D (TYs k) 5) (hr : meth.sig.returnType = (some .int)) (hlk : meth.locks = false) (hE : Ev z mi aK aV A s s.heap)    {ls : Array Slot} {H : Heap} {locs : List Loc} {g : Nat → Nat} {π : Sh} {σ : St} {x1 : Int} {s0 : Int} (hC : Cl π σ) (hG : gx (nn π0) g0 g) (hX : ext π0 π) (hv_s0 : s0 < nn π) (hl : lv_has ls 5 [(0, rfv g 0), (1, .int (Int32.ofInt x1))]) (h : Hp D A s.heap H locs (cW k z g π σ)) (hm : Cs_hang_20 N π σ x1 s0 = some r) : W p l e { frames := 556, cells := nn r.1 - nn π0, slots := sw r.1 - sw π0, locals := 28985 } s m args below meth c H locs (nn π - nn π0) (sw π - sw π0) (MQ below (va_Qi (fun v u => gx (nn π0) g0 u ∧ v = Int32.ofInt r.2.2) (fun u t => PostW D (TYs k) A (cW k z u r.1 r.2.1) t) A) args s (nn r.1 - nn π0) (sw r.1 - sw π0) A) (F0 m 20 ls [rfv g s0]) := by
  have hS := hC.1
  have hq := km_Cs_hang_20    hC hv_s0 hm
  rw [Cs_hang_20] at hm
  refine z_astore_n (lv' := [(2, rfv g s0), (0, rfv g 0), (1, .int (Int32.ofInt x1))]) C dX11_hang_20 rfl hl (by decide) rfl (fun ls hl => ?_)
  refine z_aload_n C dX11_hang_21 rfl (lv_at hl 1 rfl) ?_
  refine cg_12_0 C h (sh_0 hS) cU_X11 (List.mem_cons_of_mem _ wl_X11_10) dX11_hang_22 ?_
  refine cg_9_2 C h (sh_1 hS) cU_X8 (List.mem_cons_of_mem _ wl_X11_120) dX11_hang_25 ?_
  obtain ⟨g11, hm⟩ := grd_s hm
  refine z_if_ne (tgt := 42) C dX11_hang_28 (by decide) g11 (fun c12 => ?_) (fun c12 => ?_)
  · have hm := ite_f c12 hm
    refine z_null (g := g) C dX11_hang_42 ?_
    exact kl_Cs_hang_43 (N := N) C hr hlk hE hC hG hX (lt_m1 π) (lv_sub hl [1, 2] rfl) h hm
  · have hm := ite_t c12 hm
    refine z_aload_n C dX11_hang_31 rfl (lv_at hl 1 rfl) ?_
    refine cg_12_1 C h (sh_0 hS) cU_X11 (List.mem_cons_of_mem _ wl_X11_19) dX11_hang_32 ?_
    refine z_aload_n C dX11_hang_35 rfl (lv_at hl 0 rfl) ?_
    obtain ⟨r13, e14, hm⟩ := obd_s hm
    have q15 := (km_Mk_make hC hv_s0 e14)
    have q := km_Cs_hang_39   q15.2.1 q15.2.2 hm
    refine c_callVqA C hE h (sh_3 hS) rfl (by decide) (kc_Mk_make l D k z mi aK aV g N hC hv_s0 e14) (cwV 1 C.2.2.1 (gS_X11_142 _) rfl rfl rfl hd_X3_make ⟨Nat.le_of_ble_eq_true rfl, Nat.le_of_ble_eq_true rfl⟩) rfl hl.1 rfl (Nat.le_of_ble_eq_true rfl) dX11_hang_36 ⟨rcC hX q15.1 q.1, rsC hX q15.1 q.1⟩ (fun u H locs hg h => ?_)
    simp only [← gx_rfv hg hv_s0, ← gx_rfv hg (sh_0 hS).2.1] at hl
    try simp only [← gx_rfv hg hv_s0, ← gx_rfv hg (sh_0 hS).2.1]
    refine W_cast (wcC hX q15.1).symm (wsC hX q15.1).symm ?_
    exact kl_Cs_hang_39 (N := N) C hr hlk hE   q15.2.1 (hG.tr hg hX.1) (hX.tr q15.1) q15.2.2 (lv_sub hl [1, 2] rfl) h hm
set_option maxHeartbeats 8000000 in
set_option maxRecDepth 100000 in
theorem kl_Cs_hang_13 {r : Sh × St × Int} (C : Cx p s m args c cX11_hang RX11 (cd :: cWd) D (TYs k) 5) (hr : meth.sig.returnType = (some .int)) (hlk : meth.locks = false) (hE : Ev z mi aK aV A s s.heap)    {ls : Array Slot} {H : Heap} {locs : List Loc} {g : Nat → Nat} {π : Sh} {σ : St} {x1 : Int} (hC : Cl π σ) (hG : gx (nn π0) g0 g) (hX : ext π0 π)  (hl : lv_has ls 5 [(0, rfv g 0), (1, .int (Int32.ofInt x1))]) (h : Hp D A s.heap H locs (cW k z g π σ)) (hm : Cs_hang_13 N π σ x1 = some r) : W p l e { frames := 556, cells := nn r.1 - nn π0, slots := sw r.1 - sw π0, locals := 28985 } s m args below meth c H locs (nn π - nn π0) (sw π - sw π0) (MQ below (va_Qi (fun v u => gx (nn π0) g0 u ∧ v = Int32.ofInt r.2.2) (fun u t => PostW D (TYs k) A (cW k z u r.1 r.2.1) t) A) args s (nn r.1 - nn π0) (sw r.1 - sw π0) A) (F0 m 13 ls []) := by
  have hS := hC.1
  have hq := km_Cs_hang_13    hC  hm
  rw [Cs_hang_13] at hm
  refine z_aload_n C dX11_hang_13 rfl (lv_at hl 0 rfl) ?_
  refine cg_12_7 C h (sh_0 hS) cU_X11 (List.mem_cons_of_mem _ wl_X11_55) dX11_hang_14 ?_
  obtain ⟨r8, e9, hm⟩ := obd_s hm
  have q10 := (km_Rd_wholeExp hC e9)
  have q := km_Cs_hang_20   q10.2.1 q10.2.2 hm
  refine c_callVqA C hE h (sh_44 hS) rfl (by decide) (kc_Rd_wholeExp l D k z mi aK aV g N hC e9) (cwV 0 C.2.2.1 (gS_X11_139 _) rfl rfl rfl hd_X6_wholeExp ⟨Nat.le_of_ble_eq_true rfl, Nat.le_of_ble_eq_true rfl⟩) rfl hl.1 rfl (Nat.le_of_ble_eq_true rfl) dX11_hang_17 ⟨rcC hX q10.1 q.1, rsC hX q10.1 q.1⟩ (fun u H locs hg h => ?_)
  simp only [← gx_rfv hg (sh_0 hS).2.1] at hl
  try simp only [← gx_rfv hg (sh_0 hS).2.1]
  refine W_cast (wcC hX q10.1).symm (wsC hX q10.1).symm ?_
  exact kl_Cs_hang_20 (N := N) C hr hlk hE   q10.2.1 (hG.tr hg hX.1) (hX.tr q10.1) q10.2.2 (lv_sub hl [0, 1] rfl) h hm
set_option maxHeartbeats 8000000 in
set_option maxRecDepth 100000 in
theorem kc_Cs_hang (l : Launch) (D : va_G) (k : Nat → ClassId) (z mi : Nat) (aK aV : Nat → Nat) (g : Nat → Nat) (N : Nat)    {π : Sh} {σ : St} {x1 : Int} {r : Sh × St × Int} (hC : Cl π σ)  (hm : Cs_hang N π σ x1 = some r) : Mi l yX11_hang (.code yX11_hang cX11_hang 5 (some .int) :: cWd) { frames := 556, cells := nn r.1 - nn π, slots := sw r.1 - sw π, locals := 28985 } [rfv g 0, .int (Int32.ofInt x1)] D (TYs k) (cW k z g π σ) (XV z mi aK aV (cW k z g π σ)) (Nat → Nat) (fun v u => gx (nn π) g u ∧ v = Int32.ofInt r.2.2) (fun u => cW k z u r.1 r.2.1) (nn r.1 - nn π) (sw r.1 - sw π) := by
  have hS := hC.1
  have hq := km_Cs_hang  hC  hm
  intro sz
  refine v_met (cc := cX11_hang) (maxL := 5) (ret := (some .int)) (lv := [(0, rfv g 0), (1, .int (Int32.ofInt x1))]) (by decide) rfl (by simp [lg_sl, rfv_cat, cat_i, cat_l]) (by simp [lv_args, rfv_cat, cat_i, cat_l]) ?_
  intro p e s m below meth c ls C hE hr hlk hmn hl h
  generalize ([rfv g 0, .int (Int32.ofInt x1)] : List Value).toArray = args at C ⊢
  have hG := gx.rf (nn π) g
  have hX := ext.rf π
  refine W_cast (Nat.sub_self (nn π)) (Nat.sub_self (sw π)) ?_
  rw [Cs_hang] at hm
  refine lv_iload_n C.1 C.2.1 dX11_hang_0 rfl (lv_at hl 1 rfl) ?_
  obtain ⟨r1, e2, hm⟩ := obd_s hm
  refine v_callSi C h (kc_Cs_isTrack l D k N x1 r1 e2) (v_cwS 1 C.2.2.1 (gC_X11_isTrack _) rfl rfl rfl (C.2.2.1 _ (List.mem_cons_of_mem _ wt_X11)) (C.2.2.1 _ (List.mem_cons_of_mem _ wm_X11_135)) (C.2.2.1 _ (List.mem_cons_of_mem _ ws_X11_isTrack)) hdS_X11_isTrack ⟨Nat.le_of_ble_eq_true rfl, Nat.le_of_ble_eq_true rfl⟩) rfl hl.1 rfl (Nat.le_of_ble_eq_true rfl) dX11_hang_1 ⟨(czz hX hq.1), (szz hX hq.1)⟩ (fun H locs h => ?_)
  obtain ⟨g3, hm⟩ := grd_s hm
  refine z_if_ne (tgt := 9) C dX11_hang_4 (by decide) g3 (fun c4 => ?_) (fun c4 => ?_)
  · have hm := ite_f c4 hm
    refine z_aload_n C dX11_hang_9 rfl (lv_at hl 0 rfl) ?_
    obtain ⟨r5, e6, hm⟩ := obd_s hm
    have q7 := (km_Cs_startReading hC e6)
    have q := km_Cs_hang_13   q7.2  hm
    refine c_callVvA C hE h (sh_0 hS) rfl (by decide) (kc_Cs_startReading l D k z mi aK aV g N hC e6) (cwV 0 C.2.2.1 (gS_X11_105 _) rfl rfl rfl hd_X11_startReading ⟨Nat.le_of_ble_eq_true rfl, Nat.le_of_ble_eq_true rfl⟩) rfl hl.1 rfl (Nat.le_of_ble_eq_true rfl) dX11_hang_10 ⟨rcC hX q7.1 q.1, rsC hX q7.1 q.1⟩ (fun u H locs hg h => ?_)
    simp only [← gx_rfv hg (sh_0 hS).2.1] at hl
    try simp only [← gx_rfv hg (sh_0 hS).2.1]
    refine W_cast (wcC hX q7.1).symm (wsC hX q7.1).symm ?_
    exact kl_Cs_hang_13 (N := N) C hr hlk hE   q7.2 (hG.tr hg hX.1) (hX.tr q7.1)  (lv_sub hl [0, 1] rfl) h hm
  · have hm := ite_t c4 hm
    refine lv_iconst (v := Int32.ofInt (-1)) C.1 C.2.1 dX11_hang_7 (by decide) ?_
    cases hm
    exact c_iretA C hG h hr hlk dX11_hang_8 rfl
end Z_Cs_hang
section Z_Cs_hush
variable {p : Program} {l : Launch} {e : Env} {s : State} {m : MethodId} {args : Array Value} {below : List Frame} {meth : Method} {c : Code} {D : va_G} {A : Nat → Prop} {k : Nat → ClassId} {N : Nat} {cd : Cond} {z mi : Nat} {aK aV : Nat → Nat} {g : Nat → Nat} {π : Sh}
set_option maxHeartbeats 8000000 in
set_option maxRecDepth 100000 in
theorem kc_Cs_hush (l : Launch) (D : va_G) (k : Nat → ClassId) (z mi : Nat) (aK aV : Nat → Nat) (g : Nat → Nat) (N : Nat)    {π : Sh} {σ : St} {x1 : Int} {r : St × Int} (hS : SHs π) (hm : Cs_hush N π σ x1 = some r) : Mi l yX11_hush (.code yX11_hush cX11_hush 2 (some .boolean) :: cWd) { frames := 2, cells := 0, slots := 0, locals := 43 } [rfv g 0, .int (Int32.ofInt x1)] D (TYs k) (cW k z g π σ) (XV z mi aK aV (cW k z g π σ)) Unit (fun v _ => v = Int32.ofInt r.2) (fun _ => cW k z g π r.1) 0 0 := by
  intro sz
  refine v_met (cc := cX11_hush) (maxL := 2) (ret := (some .boolean)) (lv := [(0, rfv g 0), (1, .int (Int32.ofInt x1))]) (by decide) rfl (by simp [lg_sl, rfv_cat, cat_i, cat_l]) (by simp [lv_args, rfv_cat, cat_i, cat_l]) ?_
  intro p e s m below meth c ls C hE hr hlk hmn hl h
  rw [Cs_hush] at hm
  refine lv_iload_n C.1 C.2.1 dX11_hush_0 rfl (lv_at hl 1 rfl) ?_
  obtain ⟨r1, e2, hm⟩ := obd_s hm
  refine v_callSi C h (kc_Cs_isTrack l D k N x1 r1 e2) (v_cwS 1 C.2.2.1 (gC_X11_isTrack _) rfl rfl rfl (C.2.2.1 _ (List.mem_cons_of_mem _ wt_X11)) (C.2.2.1 _ (List.mem_cons_of_mem _ wm_X11_135)) (C.2.2.1 _ (List.mem_cons_of_mem _ ws_X11_isTrack)) hdS_X11_isTrack ⟨Nat.le_of_ble_eq_true rfl, Nat.le_of_ble_eq_true rfl⟩) rfl hl.1 rfl (Nat.le_of_ble_eq_true rfl) dX11_hush_1 ⟨(Nat.le_of_ble_eq_true rfl), (Nat.le_of_ble_eq_true rfl)⟩ (fun H locs h => ?_)
  obtain ⟨g3, hm⟩ := grd_s hm
  refine z_if_ne (tgt := 9) C dX11_hush_4 (by decide) g3 (fun c4 => ?_) (fun c4 => ?_)
  · have hm := ite_f c4 hm
    refine z_aload_n C dX11_hush_9 rfl (lv_at hl 0 rfl) ?_
    refine lv_iload_n C.1 C.2.1 dX11_hush_10 rfl (lv_at hl 1 rfl) ?_
    refine z_null (g := g) C dX11_hush_11 ?_
    obtain ⟨r5, e6, hm⟩ := obd_s hm
    refine c_callVvP C hE h (sh_0 hS) rfl (by decide) (kc_Cs_assign l D k z mi aK aV g N hS e6) (cwV 2 C.2.2.1 (gS_X11_146 _) rfl rfl rfl hd_X11_assign ⟨Nat.le_of_ble_eq_true rfl, Nat.le_of_ble_eq_true rfl⟩) rfl hl.1 rfl (Nat.le_of_ble_eq_true rfl) dX11_hush_12 ⟨(Nat.le_of_ble_eq_true rfl), (Nat.le_of_ble_eq_true rfl)⟩ (fun H locs h => ?_)
    refine lv_iconst (v := Int32.ofInt 1) C.1 C.2.1 dX11_hush_15 (by decide) ?_
    cases hm
    exact c_iretP C h hr hlk dX11_hush_16 rfl
  · have hm := ite_t c4 hm
    refine lv_iconst (v := Int32.ofInt 0) C.1 C.2.1 dX11_hush_7 (by decide) ?_
    cases hm
    exact c_iretP C h hr hlk dX11_hush_8 rfl
end Z_Cs_hush
section Z_Cs_told
variable {p : Program} {l : Launch} {e : Env} {s : State} {m : MethodId} {args : Array Value} {below : List Frame} {meth : Method} {c : Code} {D : va_G} {A : Nat → Prop} {k : Nat → ClassId} {N : Nat} {cd : Cond} {z mi : Nat} {aK aV : Nat → Nat} {g : Nat → Nat} {π : Sh}
set_option maxHeartbeats 8000000 in
set_option maxRecDepth 100000 in
theorem kc_Cs_told (l : Launch) (D : va_G) (k : Nat → ClassId) (z mi : Nat) (aK aV : Nat → Nat) (g : Nat → Nat) (N : Nat)    {π : Sh} {σ : St} {x1 : Int} {r : St × Int} (hS : SHs π) (hm : Cs_told N π σ x1 = some r) : Mi l yX11_told (.code yX11_told cX11_told 2 (some .int) :: cWd) { frames := 0, cells := 0, slots := 0, locals := 0 } [rfv g 0, .int (Int32.ofInt x1)] D (TYs k) (cW k z g π σ) (XV z mi aK aV (cW k z g π σ)) Unit (fun v _ => v = Int32.ofInt r.2) (fun _ => cW k z g π r.1) 0 0 := by
  intro sz
  refine v_met (cc := cX11_told) (maxL := 2) (ret := (some .int)) (lv := [(0, rfv g 0), (1, .int (Int32.ofInt x1))]) (by decide) rfl (by simp [lg_sl, rfv_cat, cat_i, cat_l]) (by simp [lv_args, rfv_cat, cat_i, cat_l]) ?_
  intro p e s m below meth c ls C hE hr hlk hmn hl h
  rw [Cs_told] at hm
  refine z_aload_n C dX11_told_0 rfl (lv_at hl 0 rfl) ?_
  refine cg_12_15 C h (sh_0 hS) cU_X11 (List.mem_cons_of_mem _ wl_X11_85) dX11_told_1 ?_
  obtain ⟨g1, hm⟩ := grd_s hm
  refine z_if_ne (tgt := 9) C dX11_told_4 (by decide) g1 (fun c2 => ?_) (fun c2 => ?_)
  · have hm := ite_f c2 hm
    refine lv_iload_n C.1 C.2.1 dX11_told_9 rfl (lv_at hl 1 rfl) ?_
    obtain ⟨g3, hm⟩ := grd_s hm
    by_cases c4 : x1 = 0
    · refine x_topi (congrArg Int32.ofInt c4) ?_
      have hm := ite_t c4 hm
      refine lv_tableIn (tgt := 36) C.1 C.2.1 dX11_told_10 (by decide) (by decide) rfl (by decide) ?_
      refine z_aload_n C dX11_told_36 rfl (lv_at hl 0 rfl) ?_
      refine cg_12_16 C h (sh_0 hS) cU_X11 (List.mem_cons_of_mem _ wl_X11_89) dX11_told_37 ?_
      cases hm
      exact c_iretP C h hr hlk dX11_told_40 rfl
    have hm := ite_f c4 hm
    by_cases c5 : x1 = 1
    · refine x_topi (congrArg Int32.ofInt c5) ?_
      have hm := ite_t c5 hm
      refine lv_tableIn (tgt := 41) C.1 C.2.1 dX11_told_10 (by decide) (by decide) rfl (by decide) ?_
      refine z_aload_n C dX11_told_41 rfl (lv_at hl 0 rfl) ?_
      refine cg_12_17 C h (sh_0 hS) cU_X11 (List.mem_cons_of_mem _ wl_X11_92) dX11_told_42 ?_
      cases hm
      exact c_iretP C h hr hlk dX11_told_45 rfl
    have hm := ite_f c5 hm
    by_cases c6 : x1 = 2
    · refine x_topi (congrArg Int32.ofInt c6) ?_
      have hm := ite_t c6 hm
      refine lv_tableIn (tgt := 46) C.1 C.2.1 dX11_told_10 (by decide) (by decide) rfl (by decide) ?_
      refine z_aload_n C dX11_told_46 rfl (lv_at hl 0 rfl) ?_
      refine cg_12_18 C h (sh_0 hS) cU_X11 (List.mem_cons_of_mem _ wl_X11_95) dX11_told_47 ?_
      cases hm
      exact c_iretP C h hr hlk dX11_told_50 rfl
    have hm := ite_f c6 hm
    refine lv_tableOut (tgt := 51) C.1 C.2.1 dX11_told_10 (by rw [c32_ti g3]; omega) (by decide) ?_
    refine lv_iconst (v := Int32.ofInt (-1)) C.1 C.2.1 dX11_told_51 (by decide) ?_
    cases hm
    exact c_iretP C h hr hlk dX11_told_52 rfl
  · have hm := ite_t c2 hm
    refine lv_iconst (v := Int32.ofInt (-1)) C.1 C.2.1 dX11_told_7 (by decide) ?_
    cases hm
    exact c_iretP C h hr hlk dX11_told_8 rfl
end Z_Cs_told
section Z_Cs_bound
variable {p : Program} {l : Launch} {e : Env} {s : State} {m : MethodId} {args : Array Value} {below : List Frame} {meth : Method} {c : Code} {D : va_G} {A : Nat → Prop} {k : Nat → ClassId} {N : Nat} {cd : Cond} {z mi : Nat} {aK aV : Nat → Nat} {g : Nat → Nat} {π : Sh}
set_option maxHeartbeats 8000000 in
set_option maxRecDepth 100000 in
theorem kc_Cs_bound (l : Launch) (D : va_G) (k : Nat → ClassId) (z mi : Nat) (aK aV : Nat → Nat) (g : Nat → Nat) (N : Nat)    {π : Sh} {σ : St} {x1 : Int} {x2 : Int} {r : St × Int} (hS : SHs π) (hm : Cs_bound N π σ x1 x2 = some r) : Mi l yX11_bound (.code yX11_bound cX11_bound 4 (some .int) :: cWd) { frames := 1, cells := 0, slots := 0, locals := 20 } [rfv g 0, .int (Int32.ofInt x1), .int (Int32.ofInt x2)] D (TYs k) (cW k z g π σ) (XV z mi aK aV (cW k z g π σ)) Unit (fun v _ => v = Int32.ofInt r.2) (fun _ => cW k z g π r.1) 0 0 := by
  intro sz
  refine v_met (cc := cX11_bound) (maxL := 4) (ret := (some .int)) (lv := [(0, rfv g 0), (1, .int (Int32.ofInt x1)), (2, .int (Int32.ofInt x2))]) (by decide) rfl (by simp [lg_sl, rfv_cat, cat_i, cat_l]) (by simp [lv_args, rfv_cat, cat_i, cat_l]) ?_
  intro p e s m below meth c ls C hE hr hlk hmn hl h
  rw [Cs_bound] at hm
  refine lv_iload_n C.1 C.2.1 dX11_bound_0 rfl (lv_at hl 1 rfl) ?_
  obtain ⟨r1, e2, hm⟩ := obd_s hm
  refine v_callSi C h (kc_Cs_isTrack l D k N x1 r1 e2) (v_cwS 1 C.2.2.1 (gC_X11_isTrack _) rfl rfl rfl (C.2.2.1 _ (List.mem_cons_of_mem _ wt_X11)) (C.2.2.1 _ (List.mem_cons_of_mem _ wm_X11_135)) (C.2.2.1 _ (List.mem_cons_of_mem _ ws_X11_isTrack)) hdS_X11_isTrack ⟨Nat.le_of_ble_eq_true rfl, Nat.le_of_ble_eq_true rfl⟩) rfl hl.1 rfl (Nat.le_of_ble_eq_true rfl) dX11_bound_1 ⟨(Nat.le_of_ble_eq_true rfl), (Nat.le_of_ble_eq_true rfl)⟩ (fun H locs h => ?_)
  obtain ⟨g3, hm⟩ := grd_s hm
  refine z_if_eq (tgt := 16) C dX11_bound_4 (by decide) g3 (fun c4 => ?_) (fun c4 => ?_)
  · have hm := ite_t c4 hm
    refine lv_iconst (v := Int32.ofInt (-1)) C.1 C.2.1 dX11_bound_16 (by decide) ?_
    cases hm
    exact c_iretP C h hr hlk dX11_bound_17 rfl
  · have hm := ite_f c4 hm
    refine z_aload_n C dX11_bound_7 rfl (lv_at hl 0 rfl) ?_
    refine cg_12_8 C h (sh_0 hS) cU_X11 (List.mem_cons_of_mem _ wl_X11_61) dX11_bound_8 ?_
    refine lv_iload_n C.1 C.2.1 dX11_bound_11 rfl (lv_at hl 1 rfl) ?_
    obtain ⟨g5, hm⟩ := grd_s hm
    refine c_qald C h (t := 6) (by decide) rfl (sh_51 hS) (ina_inb (n := 8) (sl_51 hS) (Nat.le_of_ble_eq_true rfl) g5) dX11_bound_12 ?_
    refine z_ifnonnull (tgt := 18) C dX11_bound_13 (by decide) (fun c6 => ?_) (fun c6 => ?_)
    · have hm := ite_f c6 hm
      refine z_aload_n C dX11_bound_18 rfl (lv_at hl 0 rfl) ?_
      refine cg_12_8 C h (sh_0 hS) cU_X11 (List.mem_cons_of_mem _ wl_X11_61) dX11_bound_19 ?_
      refine lv_iload_n C.1 C.2.1 dX11_bound_22 rfl (lv_at hl 1 rfl) ?_
      refine c_qald C h (t := 6) (by decide) rfl (sh_51 hS) (ina_inb (n := 8) (sl_51 hS) (Nat.le_of_ble_eq_true rfl) g5) dX11_bound_23 ?_
      obtain ⟨v7, e8, hm⟩ := bnd_s hm
      rw [e8]
      refine z_astore_n (lv' := [(3, rfv g v7), (0, rfv g 0), (1, .int (Int32.ofInt x1)), (2, .int (Int32.ofInt x2))]) C dX11_bound_24 rfl hl (by decide) rfl (fun ls hl => ?_)
      refine lv_iload_n C.1 C.2.1 dX11_bound_25 rfl (lv_at hl 3 rfl) ?_
      obtain ⟨g9, hm⟩ := grd_s hm
      by_cases c10 : x2 = 0
      · refine x_topi (congrArg Int32.ofInt c10) ?_
        have hm := ite_t c10 hm
        refine lv_tableIn (tgt := 60) C.1 C.2.1 dX11_bound_26 (by decide) (by decide) rfl (by decide) ?_
        refine z_aload_n C dX11_bound_60 rfl (lv_at hl 0 rfl) ?_
        obtain ⟨g11, hm⟩ := grd_s hm
        refine cg_5_2 C h g11 cU_X4 (List.mem_cons_of_mem _ wl_X11_150) dX11_bound_61 ?_
        refine z_l2i C dX11_bound_64 ?_
        cases hm
        exact c_iretP C h hr hlk dX11_bound_65 rfl
      have hm := ite_f c10 hm
      by_cases c12 : x2 = 1
      · refine x_topi (congrArg Int32.ofInt c12) ?_
        have hm := ite_t c12 hm
        refine lv_tableIn (tgt := 66) C.1 C.2.1 dX11_bound_26 (by decide) (by decide) rfl (by decide) ?_
        refine z_aload_n C dX11_bound_66 rfl (lv_at hl 0 rfl) ?_
        obtain ⟨g13, hm⟩ := grd_s hm
        refine cg_5_3 C h g13 cU_X4 (List.mem_cons_of_mem _ wl_X11_154) dX11_bound_67 ?_
        refine z_l2i C dX11_bound_70 ?_
        cases hm
        exact c_iretP C h hr hlk dX11_bound_71 rfl
      have hm := ite_f c12 hm
      by_cases c14 : x2 = 2
      · refine x_topi (congrArg Int32.ofInt c14) ?_
        have hm := ite_t c14 hm
        refine lv_tableIn (tgt := 72) C.1 C.2.1 dX11_bound_26 (by decide) (by decide) rfl (by decide) ?_
        refine z_aload_n C dX11_bound_72 rfl (lv_at hl 0 rfl) ?_
        obtain ⟨g15, hm⟩ := grd_s hm
        refine cg_5_4 C h g15 cU_X4 (List.mem_cons_of_mem _ wl_X11_157) dX11_bound_73 ?_
        refine z_l2i C dX11_bound_76 ?_
        cases hm
        exact c_iretP C h hr hlk dX11_bound_77 rfl
      have hm := ite_f c14 hm
      by_cases c16 : x2 = 3
      · refine x_topi (congrArg Int32.ofInt c16) ?_
        have hm := ite_t c16 hm
        refine lv_tableIn (tgt := 78) C.1 C.2.1 dX11_bound_26 (by decide) (by decide) rfl (by decide) ?_
        refine z_aload_n C dX11_bound_78 rfl (lv_at hl 0 rfl) ?_
        obtain ⟨g17, hm⟩ := grd_s hm
        refine cg_5_5 C h g17 cU_X4 (List.mem_cons_of_mem _ wl_X11_160) dX11_bound_79 ?_
        refine z_l2i C dX11_bound_82 ?_
        cases hm
        exact c_iretP C h hr hlk dX11_bound_83 rfl
      have hm := ite_f c16 hm
      by_cases c18 : x2 = 4
      · refine x_topi (congrArg Int32.ofInt c18) ?_
        have hm := ite_t c18 hm
        refine lv_tableIn (tgt := 84) C.1 C.2.1 dX11_bound_26 (by decide) (by decide) rfl (by decide) ?_
        refine z_aload_n C dX11_bound_84 rfl (lv_at hl 0 rfl) ?_
        obtain ⟨g19, hm⟩ := grd_s hm
        refine cg_5_6 C h g19 cU_X4 (List.mem_cons_of_mem _ wl_X11_163) dX11_bound_85 ?_
        cases hm
        exact c_iretP C h hr hlk dX11_bound_88 rfl
      have hm := ite_f c18 hm
      refine lv_tableOut (tgt := 89) C.1 C.2.1 dX11_bound_26 (by rw [c32_ti g9]; omega) (by decide) ?_
      refine lv_iconst (v := Int32.ofInt (-1)) C.1 C.2.1 dX11_bound_89 (by decide) ?_
      cases hm
      exact c_iretP C h hr hlk dX11_bound_90 rfl
    · have hm := ite_t c6 hm
      refine lv_iconst (v := Int32.ofInt (-1)) C.1 C.2.1 dX11_bound_16 (by decide) ?_
      cases hm
      exact c_iretP C h hr hlk dX11_bound_17 rfl
end Z_Cs_bound
section Z_Cs_ask
variable {p : Program} {l : Launch} {e : Env} {s : State} {m : MethodId} {args : Array Value} {below : List Frame} {meth : Method} {c : Code} {D : va_G} {A : Nat → Prop} {k : Nat → ClassId} {N : Nat} {cd : Cond} {z mi : Nat} {aK aV : Nat → Nat} {g : Nat → Nat} {π : Sh}
set_option maxHeartbeats 8000000 in
set_option maxRecDepth 100000 in
theorem kc_Cs_ask (l : Launch) (D : va_G) (k : Nat → ClassId) (z mi : Nat) (aK aV : Nat → Nat) (g : Nat → Nat) (N : Nat)    {π : Sh} {σ : St} {x1 : Int} {x2 : Int} {r : St × Int} (hS : SHs π) (hm : Cs_ask N π σ x1 x2 = some r) : Mi l yX11_ask (.code yX11_ask cX11_ask 4 (some .int) :: cWd) { frames := 398, cells := 0, slots := 0, locals := 19647 } [rfv g 0, .int (Int32.ofInt x1), .int (Int32.ofInt x2)] D (TYs k) (cW k z g π σ) (XV z mi aK aV (cW k z g π σ)) Unit (fun v _ => v = Int32.ofInt r.2) (fun _ => cW k z g π r.1) 0 0 := by
  intro sz
  refine v_met (cc := cX11_ask) (maxL := 4) (ret := (some .int)) (lv := [(0, rfv g 0), (1, .int (Int32.ofInt x1)), (2, .int (Int32.ofInt x2))]) (by decide) rfl (by simp [lg_sl, rfv_cat, cat_i, cat_l]) (by simp [lv_args, rfv_cat, cat_i, cat_l]) ?_
  intro p e s m below meth c ls C hE hr hlk hmn hl h
  rw [Cs_ask] at hm
  refine lv_iload_n C.1 C.2.1 dX11_ask_0 rfl (lv_at hl 1 rfl) ?_
  obtain ⟨r1, e2, hm⟩ := obd_s hm
  refine v_callSi C h (kc_Cs_isTrack l D k N x1 r1 e2) (v_cwS 1 C.2.2.1 (gC_X11_isTrack _) rfl rfl rfl (C.2.2.1 _ (List.mem_cons_of_mem _ wt_X11)) (C.2.2.1 _ (List.mem_cons_of_mem _ wm_X11_135)) (C.2.2.1 _ (List.mem_cons_of_mem _ ws_X11_isTrack)) hdS_X11_isTrack ⟨Nat.le_of_ble_eq_true rfl, Nat.le_of_ble_eq_true rfl⟩) rfl hl.1 rfl (Nat.le_of_ble_eq_true rfl) dX11_ask_1 ⟨(Nat.le_of_ble_eq_true rfl), (Nat.le_of_ble_eq_true rfl)⟩ (fun H locs h => ?_)
  obtain ⟨g3, hm⟩ := grd_s hm
  refine z_if_eq (tgt := 29) C dX11_ask_4 (by decide) g3 (fun c4 => ?_) (fun c4 => ?_)
  · have hm := ite_t c4 hm
    refine lv_iconst (v := Int32.ofInt (-1)) C.1 C.2.1 dX11_ask_29 (by decide) ?_
    cases hm
    exact c_iretP C h hr hlk dX11_ask_30 rfl
  · have hm := ite_f c4 hm
    refine z_aload_n C dX11_ask_7 rfl (lv_at hl 0 rfl) ?_
    refine cg_12_8 C h (sh_0 hS) cU_X11 (List.mem_cons_of_mem _ wl_X11_61) dX11_ask_8 ?_
    refine lv_iload_n C.1 C.2.1 dX11_ask_11 rfl (lv_at hl 1 rfl) ?_
    obtain ⟨g5, hm⟩ := grd_s hm
    refine c_qald C h (t := 6) (by decide) rfl (sh_51 hS) (ina_inb (n := 8) (sl_51 hS) (Nat.le_of_ble_eq_true rfl) g5) dX11_ask_12 ?_
    refine z_ifnull (tgt := 29) C dX11_ask_13 (by decide) (fun c6 => ?_) (fun c6 => ?_)
    · have hm := ite_t c6 hm
      refine lv_iconst (v := Int32.ofInt (-1)) C.1 C.2.1 dX11_ask_29 (by decide) ?_
      cases hm
      exact c_iretP C h hr hlk dX11_ask_30 rfl
    · have hm := ite_f c6 hm
      refine lv_iload_n C.1 C.2.1 dX11_ask_16 rfl (lv_at hl 2 rfl) ?_
      refine lv_sipush (v := Int32.ofInt (-1000)) C.1 C.2.1 dX11_ask_17 (by decide) ?_
      obtain ⟨g7, hm⟩ := grd_s hm
      refine z_icmp_lt (tgt := 29) C dX11_ask_20 (by decide) g7 (by decide) (fun c8 => ?_) (fun c8 => ?_)
      · have hm := ite_t c8 hm
        refine lv_iconst (v := Int32.ofInt (-1)) C.1 C.2.1 dX11_ask_29 (by decide) ?_
        cases hm
        exact c_iretP C h hr hlk dX11_ask_30 rfl
      · have hm := ite_f c8 hm
        refine lv_iload_n C.1 C.2.1 dX11_ask_23 rfl (lv_at hl 2 rfl) ?_
        refine lv_ldc (v := 100000) C.1 C.2.1 C.2.2.2.1 (C.2.2.1 _ (List.mem_cons_of_mem _ wk_X11_166)) dX11_ask_24 ?_
        refine x_topi (y := Int32.ofInt 100000) (by decide) ?_
        refine z_icmp_le (tgt := 31) C dX11_ask_26 (by decide) g7 (by decide) (fun c9 => ?_) (fun c9 => ?_)
        · have hm := ite_f c9 hm
          refine z_aload_n C dX11_ask_31 rfl (lv_at hl 0 rfl) ?_
          refine cg_12_8 C h (sh_0 hS) cU_X11 (List.mem_cons_of_mem _ wl_X11_61) dX11_ask_32 ?_
          refine lv_iload_n C.1 C.2.1 dX11_ask_35 rfl (lv_at hl 1 rfl) ?_
          refine c_qald C h (t := 6) (by decide) rfl (sh_51 hS) (ina_inb (n := 8) (sl_51 hS) (Nat.le_of_ble_eq_true rfl) g5) dX11_ask_36 ?_
          obtain ⟨v10, e11, hm⟩ := bnd_s hm
          rw [e11]
          refine z_astore_n (lv' := [(3, rfv g v10), (0, rfv g 0), (1, .int (Int32.ofInt x1)), (2, .int (Int32.ofInt x2))]) C dX11_ask_37 rfl hl (by decide) rfl (fun ls hl => ?_)
          refine z_aload_n C dX11_ask_38 rfl (lv_at hl 1 rfl) ?_
          refine cg_12_2 C h (sh_0 hS) cU_X11 (List.mem_cons_of_mem _ wl_X11_26) dX11_ask_39 ?_
          refine z_aload_n C dX11_ask_42 rfl (lv_at hl 0 rfl) ?_
          refine lv_iload_n C.1 C.2.1 dX11_ask_43 rfl (lv_at hl 3 rfl) ?_
          refine z_i2l C dX11_ask_44 g7 ?_
          obtain ⟨r12, e13, hm⟩ := obd_s hm
          refine c_callVvP C hE h (sh_9 hS) rfl (by decide) (kc_Rw_workOut l D k z mi aK aV g N hS e13) (cwV 2 C.2.2.1 (gS_X11_167 _) rfl rfl rfl hd_X7_workOut ⟨Nat.le_of_ble_eq_true rfl, Nat.le_of_ble_eq_true rfl⟩) rfl hl.1 rfl (Nat.le_of_ble_eq_true rfl) dX11_ask_45 ⟨(Nat.le_of_ble_eq_true rfl), (Nat.le_of_ble_eq_true rfl)⟩ (fun H locs h => ?_)
          refine z_aload_n C dX11_ask_48 rfl (lv_at hl 1 rfl) ?_
          refine cg_12_3 C h (sh_0 hS) cU_X11 (List.mem_cons_of_mem _ wl_X11_33) dX11_ask_49 ?_
          refine lv_iconst (v := Int32.ofInt 0) C.1 C.2.1 dX11_ask_52 (by decide) ?_
          refine cp_3_8 C h (sh_24 hS) cU_X2 (List.mem_cons_of_mem _ wl_X11_171) dX11_ask_53 (fun H locs h => ?_)
          refine z_aload_n C dX11_ask_56 rfl (lv_at hl 1 rfl) ?_
          refine cg_12_3 C h (sh_0 hS) cU_X11 (List.mem_cons_of_mem _ wl_X11_33) dX11_ask_57 ?_
          refine z_aload_n C dX11_ask_60 rfl (lv_at hl 1 rfl) ?_
          refine cg_12_2 C h (sh_0 hS) cU_X11 (List.mem_cons_of_mem _ wl_X11_26) dX11_ask_61 ?_
          refine cg_8_0 C h (sh_9 hS) cU_X7 (List.mem_cons_of_mem _ wl_X11_174) dX11_ask_64 ?_
          refine z_aload_n C dX11_ask_67 rfl (lv_at hl 0 rfl) ?_
          obtain ⟨g16, hm⟩ := grd_s hm
          refine cg_5_2 C h g16 cU_X4 (List.mem_cons_of_mem _ wl_X11_150) dX11_ask_68 ?_
          refine x_topl (y := Int64.ofInt (fl r12 102 v10)) rfl ?_
          refine lv_iload_n C.1 C.2.1 dX11_ask_71 rfl (lv_at hl 2 rfl) ?_
          refine lv_iload_n C.1 C.2.1 dX11_ask_72 rfl (lv_at hl 3 rfl) ?_
          refine lv_iconst (v := Int32.ofInt 0) C.1 C.2.1 dX11_ask_73 (by decide) ?_
          obtain ⟨σ17, e18, hm⟩ := bnd_s hm
          rw [e18] at h
          obtain ⟨r20, e21, hm⟩ := obd_s hm
          refine c_callVvP C hE h (sh_24 hS) rfl (by decide) (kc_Ka_merge l D k z mi aK aV g N hS e21) (cwV 5 C.2.2.1 (gS_X11_178 _) rfl rfl rfl hd_X2_merge ⟨Nat.le_of_ble_eq_true rfl, Nat.le_of_ble_eq_true rfl⟩) rfl hl.1 rfl (Nat.le_of_ble_eq_true rfl) dX11_ask_74 ⟨(Nat.le_of_ble_eq_true rfl), (Nat.le_of_ble_eq_true rfl)⟩ (fun H locs h => ?_)
          refine z_aload_n C dX11_ask_77 rfl (lv_at hl 1 rfl) ?_
          refine cg_12_3 C h (sh_0 hS) cU_X11 (List.mem_cons_of_mem _ wl_X11_33) dX11_ask_78 ?_
          refine cg_3_8 C h (sh_24 hS) cU_X2 (List.mem_cons_of_mem _ wl_X11_171) dX11_ask_81 ?_
          cases hm
          exact c_iretP C h hr hlk dX11_ask_84 rfl
        · have hm := ite_t c9 hm
          refine lv_iconst (v := Int32.ofInt (-1)) C.1 C.2.1 dX11_ask_29 (by decide) ?_
          cases hm
          exact c_iretP C h hr hlk dX11_ask_30 rfl
end Z_Cs_ask
section Z_Cs_event
variable {p : Program} {l : Launch} {e : Env} {s : State} {m : MethodId} {args : Array Value} {below : List Frame} {meth : Method} {c : Code} {D : va_G} {A : Nat → Prop} {k : Nat → ClassId} {N : Nat} {cd : Cond} {z mi : Nat} {aK aV : Nat → Nat} {g : Nat → Nat} {π : Sh}
set_option maxHeartbeats 8000000 in
set_option maxRecDepth 100000 in
theorem kc_Cs_event (l : Launch) (D : va_G) (k : Nat → ClassId) (z mi : Nat) (aK aV : Nat → Nat) (g : Nat → Nat) (N : Nat)    {π : Sh} {σ : St} {x1 : Int} {x2 : Int} {r : St × Int} (hS : SHs π) (hm : Cs_event N π σ x1 x2 = some r) : Mi l yX11_event (.code yX11_event cX11_event 3 (some .int) :: cWd) { frames := 2, cells := 0, slots := 0, locals := 56 } [rfv g 0, .int (Int32.ofInt x1), .int (Int32.ofInt x2)] D (TYs k) (cW k z g π σ) (XV z mi aK aV (cW k z g π σ)) Unit (fun v _ => v = Int32.ofInt r.2) (fun _ => cW k z g π r.1) 0 0 := by
  intro sz
  refine v_met (cc := cX11_event) (maxL := 3) (ret := (some .int)) (lv := [(0, rfv g 0), (1, .int (Int32.ofInt x1)), (2, .int (Int32.ofInt x2))]) (by decide) rfl (by simp [lg_sl, rfv_cat, cat_i, cat_l]) (by simp [lv_args, rfv_cat, cat_i, cat_l]) ?_
  intro p e s m below meth c ls C hE hr hlk hmn hl h
  rw [Cs_event] at hm
  refine lv_iload_n C.1 C.2.1 dX11_event_0 rfl (lv_at hl 1 rfl) ?_
  obtain ⟨g1, hm⟩ := grd_s hm
  refine z_if_lt (tgt := 15) C dX11_event_1 (by decide) g1 (fun c2 => ?_) (fun c2 => ?_)
  · have hm := ite_t c2 hm
    refine lv_iconst (v := Int32.ofInt (-1)) C.1 C.2.1 dX11_event_15 (by decide) ?_
    cases hm
    exact c_iretP C h hr hlk dX11_event_16 rfl
  · have hm := ite_f c2 hm
    refine lv_iload_n C.1 C.2.1 dX11_event_4 rfl (lv_at hl 1 rfl) ?_
    refine z_aload_n C dX11_event_5 rfl (lv_at hl 0 rfl) ?_
    refine cg_12_3 C h (sh_0 hS) cU_X11 (List.mem_cons_of_mem _ wl_X11_33) dX11_event_6 ?_
    refine cg_3_8 C h (sh_24 hS) cU_X2 (List.mem_cons_of_mem _ wl_X11_171) dX11_event_9 ?_
    obtain ⟨g3, hm⟩ := grd_s hm
    refine z_icmp_lt (tgt := 17) C dX11_event_12 (by decide) g1 g3 (fun c4 => ?_) (fun c4 => ?_)
    · have hm := ite_t c4 hm
      refine lv_iload_n C.1 C.2.1 dX11_event_17 rfl (lv_at hl 2 rfl) ?_
      obtain ⟨g5, hm⟩ := grd_s hm
      by_cases c6 : x2 = 0
      · refine x_topi (congrArg Int32.ofInt c6) ?_
        have hm := ite_t c6 hm
        refine lv_tableIn (tgt := 60) C.1 C.2.1 dX11_event_18 (by decide) (by decide) rfl (by decide) ?_
        refine z_aload_n C dX11_event_60 rfl (lv_at hl 0 rfl) ?_
        refine cg_12_3 C h (sh_0 hS) cU_X11 (List.mem_cons_of_mem _ wl_X11_33) dX11_event_61 ?_
        refine lv_iload_n C.1 C.2.1 dX11_event_64 rfl (lv_at hl 1 rfl) ?_
        refine lv_iload_n C.1 C.2.1 dX11_event_65 rfl (lv_at hl 2 rfl) ?_
        obtain ⟨r7, e8, hm⟩ := obd_s hm
        refine c_callViP C hE h (sh_24 hS) rfl (by decide) (kc_Ka_time l D k z mi aK aV g N hS e8) (cwV 2 C.2.2.1 (gS_X11_182 _) rfl rfl rfl hd_X2_time ⟨Nat.le_of_ble_eq_true rfl, Nat.le_of_ble_eq_true rfl⟩) rfl hl.1 rfl (Nat.le_of_ble_eq_true rfl) dX11_event_66 ⟨(Nat.le_of_ble_eq_true rfl), (Nat.le_of_ble_eq_true rfl)⟩ (fun H locs h => ?_)
        cases hm
        exact c_iretP C h hr hlk dX11_event_69 rfl
      have hm := ite_f c6 hm
      by_cases c11 : x2 = 1
      · refine x_topi (congrArg Int32.ofInt c11) ?_
        have hm := ite_t c11 hm
        refine lv_tableIn (tgt := 60) C.1 C.2.1 dX11_event_18 (by decide) (by decide) rfl (by decide) ?_
        refine z_aload_n C dX11_event_60 rfl (lv_at hl 0 rfl) ?_
        refine cg_12_3 C h (sh_0 hS) cU_X11 (List.mem_cons_of_mem _ wl_X11_33) dX11_event_61 ?_
        refine lv_iload_n C.1 C.2.1 dX11_event_64 rfl (lv_at hl 1 rfl) ?_
        refine lv_iload_n C.1 C.2.1 dX11_event_65 rfl (lv_at hl 2 rfl) ?_
        obtain ⟨r12, e13, hm⟩ := obd_s hm
        refine c_callViP C hE h (sh_24 hS) rfl (by decide) (kc_Ka_time l D k z mi aK aV g N hS e13) (cwV 2 C.2.2.1 (gS_X11_182 _) rfl rfl rfl hd_X2_time ⟨Nat.le_of_ble_eq_true rfl, Nat.le_of_ble_eq_true rfl⟩) rfl hl.1 rfl (Nat.le_of_ble_eq_true rfl) dX11_event_66 ⟨(Nat.le_of_ble_eq_true rfl), (Nat.le_of_ble_eq_true rfl)⟩ (fun H locs h => ?_)
        cases hm
        exact c_iretP C h hr hlk dX11_event_69 rfl
      have hm := ite_f c11 hm
      by_cases c16 : x2 = 2
      · refine x_topi (congrArg Int32.ofInt c16) ?_
        have hm := ite_t c16 hm
        refine lv_tableIn (tgt := 60) C.1 C.2.1 dX11_event_18 (by decide) (by decide) rfl (by decide) ?_
        refine z_aload_n C dX11_event_60 rfl (lv_at hl 0 rfl) ?_
        refine cg_12_3 C h (sh_0 hS) cU_X11 (List.mem_cons_of_mem _ wl_X11_33) dX11_event_61 ?_
        refine lv_iload_n C.1 C.2.1 dX11_event_64 rfl (lv_at hl 1 rfl) ?_
        refine lv_iload_n C.1 C.2.1 dX11_event_65 rfl (lv_at hl 2 rfl) ?_
        obtain ⟨r17, e18, hm⟩ := obd_s hm
        refine c_callViP C hE h (sh_24 hS) rfl (by decide) (kc_Ka_time l D k z mi aK aV g N hS e18) (cwV 2 C.2.2.1 (gS_X11_182 _) rfl rfl rfl hd_X2_time ⟨Nat.le_of_ble_eq_true rfl, Nat.le_of_ble_eq_true rfl⟩) rfl hl.1 rfl (Nat.le_of_ble_eq_true rfl) dX11_event_66 ⟨(Nat.le_of_ble_eq_true rfl), (Nat.le_of_ble_eq_true rfl)⟩ (fun H locs h => ?_)
        cases hm
        exact c_iretP C h hr hlk dX11_event_69 rfl
      have hm := ite_f c16 hm
      by_cases c21 : x2 = 3
      · refine x_topi (congrArg Int32.ofInt c21) ?_
        have hm := ite_t c21 hm
        refine lv_tableIn (tgt := 60) C.1 C.2.1 dX11_event_18 (by decide) (by decide) rfl (by decide) ?_
        refine z_aload_n C dX11_event_60 rfl (lv_at hl 0 rfl) ?_
        refine cg_12_3 C h (sh_0 hS) cU_X11 (List.mem_cons_of_mem _ wl_X11_33) dX11_event_61 ?_
        refine lv_iload_n C.1 C.2.1 dX11_event_64 rfl (lv_at hl 1 rfl) ?_
        refine lv_iload_n C.1 C.2.1 dX11_event_65 rfl (lv_at hl 2 rfl) ?_
        obtain ⟨r22, e23, hm⟩ := obd_s hm
        refine c_callViP C hE h (sh_24 hS) rfl (by decide) (kc_Ka_time l D k z mi aK aV g N hS e23) (cwV 2 C.2.2.1 (gS_X11_182 _) rfl rfl rfl hd_X2_time ⟨Nat.le_of_ble_eq_true rfl, Nat.le_of_ble_eq_true rfl⟩) rfl hl.1 rfl (Nat.le_of_ble_eq_true rfl) dX11_event_66 ⟨(Nat.le_of_ble_eq_true rfl), (Nat.le_of_ble_eq_true rfl)⟩ (fun H locs h => ?_)
        cases hm
        exact c_iretP C h hr hlk dX11_event_69 rfl
      have hm := ite_f c21 hm
      by_cases c26 : x2 = 4
      · refine x_topi (congrArg Int32.ofInt c26) ?_
        have hm := ite_t c26 hm
        refine lv_tableIn (tgt := 70) C.1 C.2.1 dX11_event_18 (by decide) (by decide) rfl (by decide) ?_
        refine z_aload_n C dX11_event_70 rfl (lv_at hl 0 rfl) ?_
        refine cg_12_3 C h (sh_0 hS) cU_X11 (List.mem_cons_of_mem _ wl_X11_33) dX11_event_71 ?_
        refine cg_3_6_24 C h (sh_24 hS) cU_X2 (List.mem_cons_of_mem _ wl_X11_186) dX11_event_74 ?_
        refine lv_iload_n C.1 C.2.1 dX11_event_77 rfl (lv_at hl 1 rfl) ?_
        obtain ⟨g27, hm⟩ := grd_s hm
        refine c_iald C h (sh_31 hS) (ina_inb (n := 400) (sl_31 hS) (Nat.le_of_ble_eq_true rfl) g27) dX11_event_78 ?_
        cases hm
        exact c_iretP C h hr hlk dX11_event_79 rfl
      have hm := ite_f c26 hm
      by_cases c28 : x2 = 5
      · refine x_topi (congrArg Int32.ofInt c28) ?_
        have hm := ite_t c28 hm
        refine lv_tableIn (tgt := 80) C.1 C.2.1 dX11_event_18 (by decide) (by decide) rfl (by decide) ?_
        refine z_aload_n C dX11_event_80 rfl (lv_at hl 0 rfl) ?_
        refine cg_12_3 C h (sh_0 hS) cU_X11 (List.mem_cons_of_mem _ wl_X11_33) dX11_event_81 ?_
        refine cg_3_7_24 C h (sh_24 hS) cU_X2 (List.mem_cons_of_mem _ wl_X11_190) dX11_event_84 ?_
        refine lv_iload_n C.1 C.2.1 dX11_event_87 rfl (lv_at hl 1 rfl) ?_
        obtain ⟨g29, hm⟩ := grd_s hm
        refine c_zald C h (sh_32 hS) (ina_inb (n := 400) (sl_32 hS) (Nat.le_of_ble_eq_true rfl) g29) dX11_event_88 ?_
        obtain ⟨g30, hm⟩ := grd_s hm
        refine z_if_eq (tgt := 96) C dX11_event_89 (by decide) g30 (fun c31 => ?_) (fun c31 => ?_)
        · have hm := ite_t c31 hm
          refine lv_iconst (v := Int32.ofInt 0) C.1 C.2.1 dX11_event_96 (by decide) ?_
          cases hm
          exact c_iretP C h hr hlk dX11_event_97 rfl
        · have hm := ite_f c31 hm
          refine lv_iconst (v := Int32.ofInt 1) C.1 C.2.1 dX11_event_92 (by decide) ?_
          refine lv_goto (tgt := 97) C.1 C.2.1 dX11_event_93 (by decide) ?_
          cases hm
          exact c_iretP C h hr hlk dX11_event_97 rfl
      have hm := ite_f c28 hm
      by_cases c32 : x2 = 6
      · refine x_topi (congrArg Int32.ofInt c32) ?_
        have hm := ite_t c32 hm
        refine lv_tableIn (tgt := 98) C.1 C.2.1 dX11_event_18 (by decide) (by decide) rfl (by decide) ?_
        refine z_aload_n C dX11_event_98 rfl (lv_at hl 0 rfl) ?_
        refine cg_12_3 C h (sh_0 hS) cU_X11 (List.mem_cons_of_mem _ wl_X11_33) dX11_event_99 ?_
        refine cg_3_5_24 C h (sh_24 hS) cU_X2 (List.mem_cons_of_mem _ wl_X11_193) dX11_event_102 ?_
        refine lv_iload_n C.1 C.2.1 dX11_event_105 rfl (lv_at hl 1 rfl) ?_
        obtain ⟨g33, hm⟩ := grd_s hm
        refine c_lald C h (sh_30 hS) (ina_inb (n := 400) (sl_30 hS) (Nat.le_of_ble_eq_true rfl) g33) dX11_event_106 ?_
        obtain ⟨r34, e35, hm⟩ := obd_s hm
        refine v_callSi C h (kc_Ks_lettersOf l D k N (el σ 30 x1) r34 e35) (v_cwS 1 C.2.2.1 (gC_X2_lettersOf _) rfl rfl rfl (C.2.2.1 _ (List.mem_cons_of_mem _ wt_X2)) (C.2.2.1 _ (List.mem_cons_of_mem _ wm_X11_197)) (C.2.2.1 _ (List.mem_cons_of_mem _ ws_X2_lettersOf)) hdS_X2_lettersOf ⟨Nat.le_of_ble_eq_true rfl, Nat.le_of_ble_eq_true rfl⟩) rfl hl.1 rfl (Nat.le_of_ble_eq_true rfl) dX11_event_107 ⟨(Nat.le_of_ble_eq_true rfl), (Nat.le_of_ble_eq_true rfl)⟩ (fun H locs h => ?_)
        cases hm
        exact c_iretP C h hr hlk dX11_event_110 rfl
      have hm := ite_f c32 hm
      refine lv_tableOut (tgt := 111) C.1 C.2.1 dX11_event_18 (by rw [c32_ti g5]; omega) (by decide) ?_
      refine lv_iconst (v := Int32.ofInt (-1)) C.1 C.2.1 dX11_event_111 (by decide) ?_
      cases hm
      exact c_iretP C h hr hlk dX11_event_112 rfl
    · have hm := ite_f c4 hm
      refine lv_iconst (v := Int32.ofInt (-1)) C.1 C.2.1 dX11_event_15 (by decide) ?_
      cases hm
      exact c_iretP C h hr hlk dX11_event_16 rfl
end Z_Cs_event
section Z_Cs_letter
variable {p : Program} {l : Launch} {e : Env} {s : State} {m : MethodId} {args : Array Value} {below : List Frame} {meth : Method} {c : Code} {D : va_G} {A : Nat → Prop} {k : Nat → ClassId} {N : Nat} {cd : Cond} {z mi : Nat} {aK aV : Nat → Nat} {g : Nat → Nat} {π : Sh}
set_option maxHeartbeats 8000000 in
set_option maxRecDepth 100000 in
theorem kc_Cs_letter (l : Launch) (D : va_G) (k : Nat → ClassId) (z mi : Nat) (aK aV : Nat → Nat) (g : Nat → Nat) (N : Nat)    {π : Sh} {σ : St} {x1 : Int} {x2 : Int} {r : St × Int} (hS : SHs π) (hm : Cs_letter N π σ x1 x2 = some r) : Mi l yX11_letter (.code yX11_letter cX11_letter 3 (some .int) :: cWd) { frames := 2, cells := 0, slots := 0, locals := 44 } [rfv g 0, .int (Int32.ofInt x1), .int (Int32.ofInt x2)] D (TYs k) (cW k z g π σ) (XV z mi aK aV (cW k z g π σ)) Unit (fun v _ => v = Int32.ofInt r.2) (fun _ => cW k z g π r.1) 0 0 := by
  intro sz
  refine v_met (cc := cX11_letter) (maxL := 3) (ret := (some .int)) (lv := [(0, rfv g 0), (1, .int (Int32.ofInt x1)), (2, .int (Int32.ofInt x2))]) (by decide) rfl (by simp [lg_sl, rfv_cat, cat_i, cat_l]) (by simp [lv_args, rfv_cat, cat_i, cat_l]) ?_
  intro p e s m below meth c ls C hE hr hlk hmn hl h
  rw [Cs_letter] at hm
  refine z_aload_n C dX11_letter_0 rfl (lv_at hl 0 rfl) ?_
  refine cg_12_3 C h (sh_0 hS) cU_X11 (List.mem_cons_of_mem _ wl_X11_33) dX11_letter_1 ?_
  refine lv_iload_n C.1 C.2.1 dX11_letter_4 rfl (lv_at hl 1 rfl) ?_
  refine lv_iload_n C.1 C.2.1 dX11_letter_5 rfl (lv_at hl 2 rfl) ?_
  obtain ⟨r1, e2, hm⟩ := obd_s hm
  refine c_callViP C hE h (sh_24 hS) rfl (by decide) (kc_Ka_letterAt l D k z mi aK aV g N hS e2) (cwV 2 C.2.2.1 (gS_X11_201 _) rfl rfl rfl hd_X2_letterAt ⟨Nat.le_of_ble_eq_true rfl, Nat.le_of_ble_eq_true rfl⟩) rfl hl.1 rfl (Nat.le_of_ble_eq_true rfl) dX11_letter_6 ⟨(Nat.le_of_ble_eq_true rfl), (Nat.le_of_ble_eq_true rfl)⟩ (fun H locs h => ?_)
  cases hm
  exact c_iretP C h hr hlk dX11_letter_9 rfl
end Z_Cs_letter
section Z_Cs_anyAlone
variable {p : Program} {l : Launch} {e : Env} {s : State} {m : MethodId} {args : Array Value} {below : List Frame} {meth : Method} {c : Code} {D : va_G} {A : Nat → Prop} {k : Nat → ClassId} {N : Nat} {cd : Cond} {z mi : Nat} {aK aV : Nat → Nat} {g : Nat → Nat} {π : Sh}
set_option maxHeartbeats 8000000 in
set_option maxRecDepth 100000 in
theorem kl_Cs_anyAlone_2 {r : St × Int} (C : Cx p s m args c cX11_anyAlone RX11 (cd :: cWd) D (TYs k) 2) (hr : meth.sig.returnType = (some .boolean)) (hlk : meth.locks = false) (hE : Ev z mi aK aV A s s.heap) (hS : SHs π)    (n : Nat) : ∀ {ls : Array Slot} {H : Heap} {locs : List Loc} {σ : St} {x1 : Int}, lv_has ls 2 [(0, rfv g 0), (1, .int (Int32.ofInt x1))] → Hp D A s.heap H locs (cW k z g π σ) → Cs_anyAlone_2 N π n σ x1 = some r → W p l e { frames := 0, cells := 0, slots := 0, locals := 0 } s m args below meth c H locs 0 0 (MQ below (va_Qi (fun v (_ : Unit) => v = Int32.ofInt r.2) (fun _ t => PostW D (TYs k) A (cW k z g π r.1) t) A) args s 0 0 A) (F0 m 2 ls []) := by
  induction n with
  | zero => intro ls H locs σ x1  hl h hm; cases (show none = some r from hm)
  | succ n hrec2 =>
    intro ls H locs σ x1  hl h hm
    rw [Cs_anyAlone_2] at hm
    refine lv_iload_n C.1 C.2.1 dX11_anyAlone_2 rfl (lv_at hl 1 rfl) ?_
    refine lv_bipush (v := Int32.ofInt 8) C.1 C.2.1 dX11_anyAlone_3 (by decide) ?_
    obtain ⟨g1, hm⟩ := grd_s hm
    refine z_icmp_ge (tgt := 25) C dX11_anyAlone_5 (by decide) g1 (by decide) (fun c2 => ?_) (fun c2 => ?_)
    · have hm := ite_f c2 hm
      refine lv_iconst (v := Int32.ofInt 0) C.1 C.2.1 dX11_anyAlone_25 (by decide) ?_
      cases hm
      exact c_iretP C h hr hlk dX11_anyAlone_26 rfl
    · have hm := ite_t c2 hm
      refine z_aload_n C dX11_anyAlone_8 rfl (lv_at hl 0 rfl) ?_
      refine cg_12_12 C h (sh_0 hS) cU_X11 (List.mem_cons_of_mem _ wl_X11_75) dX11_anyAlone_9 ?_
      refine lv_iload_n C.1 C.2.1 dX11_anyAlone_12 rfl (lv_at hl 1 rfl) ?_
      obtain ⟨g3, hm⟩ := grd_s hm
      refine c_zald C h (sh_55 hS) (ina_inb (n := 8) (sl_55 hS) (Nat.le_of_ble_eq_true rfl) g3) dX11_anyAlone_13 ?_
      obtain ⟨g4, hm⟩ := grd_s hm
      refine z_if_eq (tgt := 19) C dX11_anyAlone_14 (by decide) g4 (fun c5 => ?_) (fun c5 => ?_)
      · have hm := ite_t c5 hm
        refine lv_iinc (v := Int32.ofInt (x1 + 1)) (lv' := [(1, .int (Int32.ofInt (x1 + 1))), (0, rfv g 0)]) C.1 C.2.1 dX11_anyAlone_19 hl (k := 1) rfl (c32_add _ _) (by decide) (by simp [rfv_cat, cat_i, cat_l]) (fun ls hl => ?_)
        refine lv_goto (tgt := 2) C.1 C.2.1 dX11_anyAlone_22 (by decide) ?_
        exact hrec2 (lv_sub hl [1, 0] rfl) h hm
      · have hm := ite_f c5 hm
        refine lv_iconst (v := Int32.ofInt 1) C.1 C.2.1 dX11_anyAlone_17 (by decide) ?_
        cases hm
        exact c_iretP C h hr hlk dX11_anyAlone_18 rfl
set_option maxHeartbeats 8000000 in
set_option maxRecDepth 100000 in
theorem kc_Cs_anyAlone (l : Launch) (D : va_G) (k : Nat → ClassId) (z mi : Nat) (aK aV : Nat → Nat) (g : Nat → Nat) (N : Nat)    {π : Sh} {σ : St}  {r : St × Int} (hS : SHs π) (hm : Cs_anyAlone N π σ  = some r) : Mi l yX11_anyAlone (.code yX11_anyAlone cX11_anyAlone 2 (some .boolean) :: cWd) { frames := 0, cells := 0, slots := 0, locals := 0 } [rfv g 0] D (TYs k) (cW k z g π σ) (XV z mi aK aV (cW k z g π σ)) Unit (fun v _ => v = Int32.ofInt r.2) (fun _ => cW k z g π r.1) 0 0 := by
  intro sz
  refine v_met (cc := cX11_anyAlone) (maxL := 2) (ret := (some .boolean)) (lv := [(0, rfv g 0)]) (by decide) rfl (by simp [lg_sl, rfv_cat, cat_i, cat_l]) (by simp [lv_args, rfv_cat, cat_i, cat_l]) ?_
  intro p e s m below meth c ls C hE hr hlk hmn hl h
  rw [Cs_anyAlone] at hm
  refine lv_iconst (v := Int32.ofInt 0) C.1 C.2.1 dX11_anyAlone_0 (by decide) ?_
  refine lv_istore_n (i := 1) (lv' := [(1, .int (Int32.ofInt 0)), (0, rfv g 0)]) C.1 C.2.1 dX11_anyAlone_1 rfl hl (by decide) (by simp [rfv_cat, cat_i, cat_l]) (fun ls hl => ?_)
  exact kl_Cs_anyAlone_2 (N := N) C hr hlk hE hS N (lv_sub hl [1, 0] rfl) h hm
end Z_Cs_anyAlone
