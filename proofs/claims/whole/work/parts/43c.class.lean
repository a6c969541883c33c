section Z_Pt_measure
variable {p : Program} {l : Launch} {e : Env} {s : State} {m : MethodId} {args : Array Value} {below : List Frame} {meth : Method} {c : Code} {D : va_G} {A : Nat → Prop} {k : Nat → ClassId} {N : Nat} {cd : Cond} {z mi : Nat} {aK aV : Nat → Nat} {g : Nat → Nat} {π : Sh}
set_option maxHeartbeats 8000000 in
set_option maxRecDepth 100000 in
theorem kl_Pt_measure_2 {r : St} (C : Cx p s m args c cX4_measure RX4 (cd :: cWd) D (TYs k) 2) (hr : meth.sig.returnType = none) (hlk : meth.locks = false) (hE : Ev z mi aK aV A s s.heap) (hS : SHs π)    (n : Nat) : ∀ {ls : Array Slot} {H : Heap} {locs : List Loc} {σ : St} {x0 : Int} {x1 : Int}, lv_has ls 2 [(0, rfv g x0), (1, .int (Int32.ofInt x1))] → Hp D A s.heap H locs (cW k z g π σ) → Pt_measure_2 N π n σ x0 x1 = some r → W p l e { frames := 3, cells := 0, slots := 0, locals := 85 } s m args below meth c H locs 0 0 (MQ below (va_Qv (fun (_ : Unit) => True) (fun _ t => PostW D (TYs k) A (cW k z g π r) t) A) args s 0 0 A) (F0 m 2 ls []) := by
  induction n with
  | zero => intro ls H locs σ x0 x1  hl h hm; cases (show none = some r from hm)
  | succ n hrec2 =>
    intro ls H locs σ x0 x1  hl h hm
    rw [Pt_measure_2] at hm
    refine lv_iload_n C.1 C.2.1 dX4_measure_2 rfl (lv_at hl 1 rfl) ?_
    refine z_aload_n C dX4_measure_3 rfl (lv_at hl 0 rfl) ?_
    obtain ⟨g1, hm⟩ := grd_s hm
    refine cg_5_1 C h g1 cU_X4 (List.mem_cons_of_mem _ wl_X4_30) dX4_measure_4 ?_
    obtain ⟨g2, hm⟩ := grd_s hm
    obtain ⟨g3, hm⟩ := grd_s hm
    refine c_alen C h (t := 6) rfl g2 g3 dX4_measure_7 ?_
    obtain ⟨g4, hm⟩ := grd_s hm
    obtain ⟨g5, hm⟩ := grd_s hm
    refine z_icmp_ge (tgt := 39) C dX4_measure_8 (by decide) g4 g5 (fun c6 => ?_) (fun c6 => ?_)
    · have hm := ite_f c6 hm
      refine z_aload_n C dX4_measure_39 rfl (lv_at hl 0 rfl) ?_
      refine cg_5_0 C h g1 cU_X4 (List.mem_cons_of_mem _ wl_X4_26) dX4_measure_40 ?_
      obtain ⟨g7, hm⟩ := grd_s hm
      refine cg_10_0 C h g7 cU_X9 (List.mem_cons_of_mem _ wl_X4_52) dX4_measure_43 ?_
      obtain ⟨g8, hm⟩ := grd_s hm
      by_cases c9 : (fl σ 200 (fl σ 100 x0)) = 1
      · refine x_topi (congrArg Int32.ofInt c9) ?_
        have hm := ite_t c9 hm
        refine lv_tableIn (tgt := 144) C.1 C.2.1 dX4_measure_46 (by decide) (by decide) rfl (by decide) ?_
        refine z_aload_n C dX4_measure_144 rfl (lv_at hl 0 rfl) ?_
        refine lv_lconst (v := Int64.ofInt 1) C.1 C.2.1 dX4_measure_145 (by decide) ?_
        refine lv_lconst (v := Int64.ofInt 1) C.1 C.2.1 dX4_measure_146 (by decide) ?_
        refine lv_lconst (v := Int64.ofInt 1) C.1 C.2.1 dX4_measure_147 (by decide) ?_
        refine lv_lconst (v := Int64.ofInt 1) C.1 C.2.1 dX4_measure_148 (by decide) ?_
        obtain ⟨r10, e11, hm⟩ := obd_s hm
        refine c_callVvP C hE h g1 rfl (by decide) (kc_Pt_bounds l D k z mi aK aV g N hS e11) (cwV 4 C.2.2.1 (gS_X4_57 _) rfl rfl rfl hd_X4_bounds ⟨Nat.le_of_ble_eq_true rfl, Nat.le_of_ble_eq_true rfl⟩) rfl hl.1 rfl (Nat.le_of_ble_eq_true rfl) dX4_measure_149 ⟨(Nat.le_of_ble_eq_true rfl), (Nat.le_of_ble_eq_true rfl)⟩ (fun H locs h => ?_)
        refine lv_goto (tgt := 350) C.1 C.2.1 dX4_measure_152 (by decide) ?_
        cases hm
        exact c_vretP C h hr hlk dX4_measure_350
      have hm := ite_f c9 hm
      by_cases c14 : (fl σ 200 (fl σ 100 x0)) = 2
      · refine x_topi (congrArg Int32.ofInt c14) ?_
        have hm := ite_t c14 hm
        refine lv_tableIn (tgt := 144) C.1 C.2.1 dX4_measure_46 (by decide) (by decide) rfl (by decide) ?_
        refine z_aload_n C dX4_measure_144 rfl (lv_at hl 0 rfl) ?_
        refine lv_lconst (v := Int64.ofInt 1) C.1 C.2.1 dX4_measure_145 (by decide) ?_
        refine lv_lconst (v := Int64.ofInt 1) C.1 C.2.1 dX4_measure_146 (by decide) ?_
        refine lv_lconst (v := Int64.ofInt 1) C.1 C.2.1 dX4_measure_147 (by decide) ?_
        refine lv_lconst (v := Int64.ofInt 1) C.1 C.2.1 dX4_measure_148 (by decide) ?_
        obtain ⟨r15, e16, hm⟩ := obd_s hm
        refine c_callVvP C hE h g1 rfl (by decide) (kc_Pt_bounds l D k z mi aK aV g N hS e16) (cwV 4 C.2.2.1 (gS_X4_57 _) rfl rfl rfl hd_X4_bounds ⟨Nat.le_of_ble_eq_true rfl, Nat.le_of_ble_eq_true rfl⟩) rfl hl.1 rfl (Nat.le_of_ble_eq_true rfl) dX4_measure_149 ⟨(Nat.le_of_ble_eq_true rfl), (Nat.le_of_ble_eq_true rfl)⟩ (fun H locs h => ?_)
        refine lv_goto (tgt := 350) C.1 C.2.1 dX4_measure_152 (by decide) ?_
        cases hm
        exact c_vretP C h hr hlk dX4_measure_350
      have hm := ite_f c14 hm
      by_cases c19 : (fl σ 200 (fl σ 100 x0)) = 3
      · refine x_topi (congrArg Int32.ofInt c19) ?_
        have hm := ite_t c19 hm
        refine lv_tableIn (tgt := 155) C.1 C.2.1 dX4_measure_46 (by decide) (by decide) rfl (by decide) ?_
        refine z_aload_n C dX4_measure_155 rfl (lv_at hl 0 rfl) ?_
        refine lv_lconst (v := Int64.ofInt 1) C.1 C.2.1 dX4_measure_156 (by decide) ?_
        refine lv_lconst (v := Int64.ofInt 0) C.1 C.2.1 dX4_measure_157 (by decide) ?_
        refine lv_lconst (v := Int64.ofInt 1) C.1 C.2.1 dX4_measure_158 (by decide) ?_
        refine lv_lconst (v := Int64.ofInt 1) C.1 C.2.1 dX4_measure_159 (by decide) ?_
        obtain ⟨r20, e21, hm⟩ := obd_s hm
        refine c_callVvP C hE h g1 rfl (by decide) (kc_Pt_bounds l D k z mi aK aV g N hS e21) (cwV 4 C.2.2.1 (gS_X4_57 _) rfl rfl rfl hd_X4_bounds ⟨Nat.le_of_ble_eq_true rfl, Nat.le_of_ble_eq_true rfl⟩) rfl hl.1 rfl (Nat.le_of_ble_eq_true rfl) dX4_measure_160 ⟨(Nat.le_of_ble_eq_true rfl), (Nat.le_of_ble_eq_true rfl)⟩ (fun H locs h => ?_)
        refine lv_goto (tgt := 350) C.1 C.2.1 dX4_measure_163 (by decide) ?_
        cases hm
        exact c_vretP C h hr hlk dX4_measure_350
      have hm := ite_f c19 hm
      by_cases c24 : (fl σ 200 (fl σ 100 x0)) = 4
      · refine x_topi (congrArg Int32.ofInt c24) ?_
        have hm := ite_t c24 hm
        refine lv_tableIn (tgt := 166) C.1 C.2.1 dX4_measure_46 (by decide) (by decide) rfl (by decide) ?_
        refine z_aload_n C dX4_measure_166 rfl (lv_at hl 0 rfl) ?_
        refine z_aload_n C dX4_measure_167 rfl (lv_at hl 0 rfl) ?_
        refine cg_5_0 C h g1 cU_X4 (List.mem_cons_of_mem _ wl_X4_26) dX4_measure_168 ?_
        refine cg_10_2 C h g7 cU_X9 (List.mem_cons_of_mem _ wl_X4_61) dX4_measure_171 ?_
        obtain ⟨g25, hm⟩ := grd_s hm
        refine z_i2l C dX4_measure_174 g25 ?_
        refine z_aload_n C dX4_measure_175 rfl (lv_at hl 0 rfl) ?_
        obtain ⟨r26, e27, hm⟩ := obd_s hm
        refine c_callVlP C hE h g1 rfl (by decide) (kc_Pt_lcmOfAll l D k z mi aK aV g N hS e27) (cwV 0 C.2.2.1 (gS_X4_64 _) rfl rfl rfl hd_X4_lcmOfAll ⟨Nat.le_of_ble_eq_true rfl, Nat.le_of_ble_eq_true rfl⟩) rfl hl.1 rfl (by simp [rfv_cat, cat_i, cat_l]) dX4_measure_176 ⟨(Nat.le_of_ble_eq_true rfl), (Nat.le_of_ble_eq_true rfl)⟩ (fun H locs h => ?_)
        refine z_lmul C dX4_measure_179 ?_
        refine z_aload_n C dX4_measure_180 rfl (lv_at hl 0 rfl) ?_
        obtain ⟨r30, e31, hm⟩ := obd_s hm
        refine c_callVlP C hE h g1 rfl (by decide) (kc_Pt_crowdOfAll l D k z mi aK aV g N hS e31) (cwV 0 C.2.2.1 (gS_X4_68 _) rfl rfl rfl hd_X4_crowdOfAll ⟨Nat.le_of_ble_eq_true rfl, Nat.le_of_ble_eq_true rfl⟩) rfl hl.1 rfl (by simp [rfv_cat, cat_i, cat_l]) dX4_measure_181 ⟨(Nat.le_of_ble_eq_true rfl), (Nat.le_of_ble_eq_true rfl)⟩ (fun H locs h => ?_)
        refine z_aload_n C dX4_measure_184 rfl (lv_at hl 0 rfl) ?_
        obtain ⟨r34, e35, hm⟩ := obd_s hm
        refine c_callVlP C hE h g1 rfl (by decide) (kc_Pt_mostReach l D k z mi aK aV g N hS e35) (cwV 0 C.2.2.1 (gS_X4_71 _) rfl rfl rfl hd_X4_mostReach ⟨Nat.le_of_ble_eq_true rfl, Nat.le_of_ble_eq_true rfl⟩) rfl hl.1 rfl (by simp [rfv_cat, cat_i, cat_l]) dX4_measure_185 ⟨(Nat.le_of_ble_eq_true rfl), (Nat.le_of_ble_eq_true rfl)⟩ (fun H locs h => ?_)
        refine z_aload_n C dX4_measure_188 rfl (lv_at hl 0 rfl) ?_
        obtain ⟨r38, e39, hm⟩ := obd_s hm
        refine c_callVlP C hE h g1 rfl (by decide) (kc_Pt_workOfAll l D k z mi aK aV g N hS e39) (cwV 0 C.2.2.1 (gS_X4_74 _) rfl rfl rfl hd_X4_workOfAll ⟨Nat.le_of_ble_eq_true rfl, Nat.le_of_ble_eq_true rfl⟩) rfl hl.1 rfl (by simp [rfv_cat, cat_i, cat_l]) dX4_measure_189 ⟨(Nat.le_of_ble_eq_true rfl), (Nat.le_of_ble_eq_true rfl)⟩ (fun H locs h => ?_)
        refine lv_lconst (v := Int64.ofInt 1) C.1 C.2.1 dX4_measure_192 (by decide) ?_
        refine z_ladd C dX4_measure_193 ?_
        obtain ⟨r42, e43, hm⟩ := obd_s hm
        refine c_callVvP C hE h g1 rfl (by decide) (kc_Pt_bounds l D k z mi aK aV g N hS e43) (cwV 4 C.2.2.1 (gS_X4_57 _) rfl rfl rfl hd_X4_bounds ⟨Nat.le_of_ble_eq_true rfl, Nat.le_of_ble_eq_true rfl⟩) rfl hl.1 rfl (Nat.le_of_ble_eq_true rfl) dX4_measure_194 ⟨(Nat.le_of_ble_eq_true rfl), (Nat.le_of_ble_eq_true rfl)⟩ (fun H locs h => ?_)
        refine lv_goto (tgt := 350) C.1 C.2.1 dX4_measure_197 (by decide) ?_
        cases hm
        exact c_vretP C h hr hlk dX4_measure_350
      have hm := ite_f c24 hm
      by_cases c46 : (fl σ 200 (fl σ 100 x0)) = 5
      · refine x_topi (congrArg Int32.ofInt c46) ?_
        have hm := ite_t c46 hm
        refine lv_tableIn (tgt := 225) C.1 C.2.1 dX4_measure_46 (by decide) (by decide) rfl (by decide) ?_
        refine z_aload_n C dX4_measure_225 rfl (lv_at hl 0 rfl) ?_
        refine z_aload_n C dX4_measure_226 rfl (lv_at hl 0 rfl) ?_
        obtain ⟨r47, e48, hm⟩ := obd_s hm
        refine c_callVlP C hE h g1 rfl (by decide) (kc_Pt_lcmOfAll l D k z mi aK aV g N hS e48) (cwV 0 C.2.2.1 (gS_X4_64 _) rfl rfl rfl hd_X4_lcmOfAll ⟨Nat.le_of_ble_eq_true rfl, Nat.le_of_ble_eq_true rfl⟩) rfl hl.1 rfl (by simp [rfv_cat, cat_i, cat_l]) dX4_measure_227 ⟨(Nat.le_of_ble_eq_true rfl), (Nat.le_of_ble_eq_true rfl)⟩ (fun H locs h => ?_)
        refine z_aload_n C dX4_measure_230 rfl (lv_at hl 0 rfl) ?_
        obtain ⟨r51, e52, hm⟩ := obd_s hm
        refine c_callVlP C hE h g1 rfl (by decide) (kc_Pt_mostCrowd l D k z mi aK aV g N hS e52) (cwV 0 C.2.2.1 (gS_X4_77 _) rfl rfl rfl hd_X4_mostCrowd ⟨Nat.le_of_ble_eq_true rfl, Nat.le_of_ble_eq_true rfl⟩) rfl hl.1 rfl (by simp [rfv_cat, cat_i, cat_l]) dX4_measure_231 ⟨(Nat.le_of_ble_eq_true rfl), (Nat.le_of_ble_eq_true rfl)⟩ (fun H locs h => ?_)
        refine z_aload_n C dX4_measure_234 rfl (lv_at hl 0 rfl) ?_
        obtain ⟨r55, e56, hm⟩ := obd_s hm
        refine c_callVlP C hE h g1 rfl (by decide) (kc_Pt_mostReach l D k z mi aK aV g N hS e56) (cwV 0 C.2.2.1 (gS_X4_71 _) rfl rfl rfl hd_X4_mostReach ⟨Nat.le_of_ble_eq_true rfl, Nat.le_of_ble_eq_true rfl⟩) rfl hl.1 rfl (by simp [rfv_cat, cat_i, cat_l]) dX4_measure_235 ⟨(Nat.le_of_ble_eq_true rfl), (Nat.le_of_ble_eq_true rfl)⟩ (fun H locs h => ?_)
        refine z_aload_n C dX4_measure_238 rfl (lv_at hl 0 rfl) ?_
        obtain ⟨r59, e60, hm⟩ := obd_s hm
        refine c_callVlP C hE h g1 rfl (by decide) (kc_Pt_mostWork l D k z mi aK aV g N hS e60) (cwV 0 C.2.2.1 (gS_X4_80 _) rfl rfl rfl hd_X4_mostWork ⟨Nat.le_of_ble_eq_true rfl, Nat.le_of_ble_eq_true rfl⟩) rfl hl.1 rfl (by simp [rfv_cat, cat_i, cat_l]) dX4_measure_239 ⟨(Nat.le_of_ble_eq_true rfl), (Nat.le_of_ble_eq_true rfl)⟩ (fun H locs h => ?_)
        refine lv_lconst (v := Int64.ofInt 1) C.1 C.2.1 dX4_measure_242 (by decide) ?_
        refine z_ladd C dX4_measure_243 ?_
        obtain ⟨r63, e64, hm⟩ := obd_s hm
        refine c_callVvP C hE h g1 rfl (by decide) (kc_Pt_bounds l D k z mi aK aV g N hS e64) (cwV 4 C.2.2.1 (gS_X4_57 _) rfl rfl rfl hd_X4_bounds ⟨Nat.le_of_ble_eq_true rfl, Nat.le_of_ble_eq_true rfl⟩) rfl hl.1 rfl (Nat.le_of_ble_eq_true rfl) dX4_measure_244 ⟨(Nat.le_of_ble_eq_true rfl), (Nat.le_of_ble_eq_true rfl)⟩ (fun H locs h => ?_)
        refine lv_goto (tgt := 350) C.1 C.2.1 dX4_measure_247 (by decide) ?_
        cases hm
        exact c_vretP C h hr hlk dX4_measure_350
      have hm := ite_f c46 hm
      by_cases c67 : (fl σ 200 (fl σ 100 x0)) = 6
      · refine x_topi (congrArg Int32.ofInt c67) ?_
        have hm := ite_t c67 hm
        refine lv_tableIn (tgt := 250) C.1 C.2.1 dX4_measure_46 (by decide) (by decide) rfl (by decide) ?_
        refine z_aload_n C dX4_measure_250 rfl (lv_at hl 0 rfl) ?_
        refine z_aload_n C dX4_measure_251 rfl (lv_at hl 0 rfl) ?_
        refine cg_5_0 C h g1 cU_X4 (List.mem_cons_of_mem _ wl_X4_26) dX4_measure_252 ?_
        refine cg_10_3 C h g7 cU_X9 (List.mem_cons_of_mem _ wl_X4_83) dX4_measure_255 ?_
        obtain ⟨g68, hm⟩ := grd_s hm
        refine z_i2l C dX4_measure_258 g68 ?_
        refine z_aload_n C dX4_measure_259 rfl (lv_at hl 0 rfl) ?_
        obtain ⟨r69, e70, hm⟩ := obd_s hm
        refine c_callVlP C hE h g1 rfl (by decide) (kc_Pt_lcmOfAll l D k z mi aK aV g N hS e70) (cwV 0 C.2.2.1 (gS_X4_64 _) rfl rfl rfl hd_X4_lcmOfAll ⟨Nat.le_of_ble_eq_true rfl, Nat.le_of_ble_eq_true rfl⟩) rfl hl.1 rfl (by simp [rfv_cat, cat_i, cat_l]) dX4_measure_260 ⟨(Nat.le_of_ble_eq_true rfl), (Nat.le_of_ble_eq_true rfl)⟩ (fun H locs h => ?_)
        refine z_lmul C dX4_measure_263 ?_
        refine z_aload_n C dX4_measure_264 rfl (lv_at hl 0 rfl) ?_
        refine cg_5_0 C h g1 cU_X4 (List.mem_cons_of_mem _ wl_X4_26) dX4_measure_265 ?_
        obtain ⟨g73, hm⟩ := grd_s hm
        refine cg_10_3 C h g73 cU_X9 (List.mem_cons_of_mem _ wl_X4_83) dX4_measure_268 ?_
        obtain ⟨g74, hm⟩ := grd_s hm
        refine z_i2l C dX4_measure_271 g74 ?_
        refine z_aload_n C dX4_measure_272 rfl (lv_at hl 0 rfl) ?_
        obtain ⟨r75, e76, hm⟩ := obd_s hm
        refine c_callVlP C hE h g1 rfl (by decide) (kc_Pt_mostCrowd l D k z mi aK aV g N hS e76) (cwV 0 C.2.2.1 (gS_X4_77 _) rfl rfl rfl hd_X4_mostCrowd ⟨Nat.le_of_ble_eq_true rfl, Nat.le_of_ble_eq_true rfl⟩) rfl hl.1 rfl (by simp [rfv_cat, cat_i, cat_l]) dX4_measure_273 ⟨(Nat.le_of_ble_eq_true rfl), (Nat.le_of_ble_eq_true rfl)⟩ (fun H locs h => ?_)
        refine z_lmul C dX4_measure_276 ?_
        refine z_aload_n C dX4_measure_277 rfl (lv_at hl 0 rfl) ?_
        obtain ⟨r79, e80, hm⟩ := obd_s hm
        refine c_callVlP C hE h g1 rfl (by decide) (kc_Pt_mostReach l D k z mi aK aV g N hS e80) (cwV 0 C.2.2.1 (gS_X4_71 _) rfl rfl rfl hd_X4_mostReach ⟨Nat.le_of_ble_eq_true rfl, Nat.le_of_ble_eq_true rfl⟩) rfl hl.1 rfl (by simp [rfv_cat, cat_i, cat_l]) dX4_measure_278 ⟨(Nat.le_of_ble_eq_true rfl), (Nat.le_of_ble_eq_true rfl)⟩ (fun H locs h => ?_)
        refine z_aload_n C dX4_measure_281 rfl (lv_at hl 0 rfl) ?_
        refine cg_5_0 C h g1 cU_X4 (List.mem_cons_of_mem _ wl_X4_26) dX4_measure_282 ?_
        obtain ⟨g83, hm⟩ := grd_s hm
        refine cg_10_3 C h g83 cU_X9 (List.mem_cons_of_mem _ wl_X4_83) dX4_measure_285 ?_
        obtain ⟨g84, hm⟩ := grd_s hm
        refine z_i2l C dX4_measure_288 g84 ?_
        refine z_aload_n C dX4_measure_289 rfl (lv_at hl 0 rfl) ?_
        obtain ⟨r85, e86, hm⟩ := obd_s hm
        refine c_callVlP16 C hE h g1 rfl (by decide) (kc_Pt_mostWork l D k z mi aK aV g N hS e86) (cwV 0 C.2.2.1 (gS_X4_80 _) rfl rfl rfl hd_X4_mostWork ⟨Nat.le_of_ble_eq_true rfl, Nat.le_of_ble_eq_true rfl⟩) rfl hl.1 rfl (by decide) (by simp [rfv_cat, cat_i, cat_l]) dX4_measure_290 ⟨(Nat.le_of_ble_eq_true rfl), (Nat.le_of_ble_eq_true rfl)⟩ (fun H locs h => ?_)
        refine z_lmul C dX4_measure_293 ?_
        refine lv_lconst (v := Int64.ofInt 1) C.1 C.2.1 dX4_measure_294 (by decide) ?_
        refine z_ladd C dX4_measure_295 ?_
        obtain ⟨r89, e90, hm⟩ := obd_s hm
        refine c_callVvP C hE h g1 rfl (by decide) (kc_Pt_bounds l D k z mi aK aV g N hS e90) (cwV 4 C.2.2.1 (gS_X4_57 _) rfl rfl rfl hd_X4_bounds ⟨Nat.le_of_ble_eq_true rfl, Nat.le_of_ble_eq_true rfl⟩) rfl hl.1 rfl (Nat.le_of_ble_eq_true rfl) dX4_measure_296 ⟨(Nat.le_of_ble_eq_true rfl), (Nat.le_of_ble_eq_true rfl)⟩ (fun H locs h => ?_)
        refine lv_goto (tgt := 350) C.1 C.2.1 dX4_measure_299 (by decide) ?_
        cases hm
        exact c_vretP C h hr hlk dX4_measure_350
      have hm := ite_f c67 hm
      by_cases c93 : (fl σ 200 (fl σ 100 x0)) = 7
      · refine x_topi (congrArg Int32.ofInt c93) ?_
        have hm := ite_t c93 hm
        refine lv_tableIn (tgt := 340) C.1 C.2.1 dX4_measure_46 (by decide) (by decide) rfl (by decide) ?_
        refine z_aload_n C dX4_measure_340 rfl (lv_at hl 0 rfl) ?_
        refine z_aload_n C dX4_measure_341 rfl (lv_at hl 0 rfl) ?_
        refine cg_5_1 C h g1 cU_X4 (List.mem_cons_of_mem _ wl_X4_30) dX4_measure_342 ?_
        refine lv_iconst (v := Int32.ofInt 0) C.1 C.2.1 dX4_measure_345 (by decide) ?_
        obtain ⟨g94, hm⟩ := grd_s hm
        refine c_qald C h (t := 6) (by decide) rfl g2 g94 dX4_measure_346 ?_
        obtain ⟨r95, e96, hm⟩ := obd_s hm
        refine c_callVvP C hE h g1 rfl (by decide) (kc_Pt_measureOfOne l D k z mi aK aV g N hS e96) (cwV 1 C.2.2.1 (gS_X4_90 _) rfl rfl rfl hd_X4_measureOfOne ⟨Nat.le_of_ble_eq_true rfl, Nat.le_of_ble_eq_true rfl⟩) rfl hl.1 rfl (Nat.le_of_ble_eq_true rfl) dX4_measure_347 ⟨(Nat.le_of_ble_eq_true rfl), (Nat.le_of_ble_eq_true rfl)⟩ (fun H locs h => ?_)
        cases hm
        exact c_vretP C h hr hlk dX4_measure_350
      have hm := ite_f c93 hm
      by_cases c99 : (fl σ 200 (fl σ 100 x0)) = 8
      · refine x_topi (congrArg Int32.ofInt c99) ?_
        have hm := ite_t c99 hm
        refine lv_tableIn (tgt := 200) C.1 C.2.1 dX4_measure_46 (by decide) (by decide) rfl (by decide) ?_
        refine z_aload_n C dX4_measure_200 rfl (lv_at hl 0 rfl) ?_
        refine z_aload_n C dX4_measure_201 rfl (lv_at hl 0 rfl) ?_
        obtain ⟨r100, e101, hm⟩ := obd_s hm
        refine c_callVlP C hE h g1 rfl (by decide) (kc_Pt_lcmOfAll l D k z mi aK aV g N hS e101) (cwV 0 C.2.2.1 (gS_X4_64 _) rfl rfl rfl hd_X4_lcmOfAll ⟨Nat.le_of_ble_eq_true rfl, Nat.le_of_ble_eq_true rfl⟩) rfl hl.1 rfl (by simp [rfv_cat, cat_i, cat_l]) dX4_measure_202 ⟨(Nat.le_of_ble_eq_true rfl), (Nat.le_of_ble_eq_true rfl)⟩ (fun H locs h => ?_)
        refine z_aload_n C dX4_measure_205 rfl (lv_at hl 0 rfl) ?_
        obtain ⟨r104, e105, hm⟩ := obd_s hm
        refine c_callVlP C hE h g1 rfl (by decide) (kc_Pt_crowdOfAll l D k z mi aK aV g N hS e105) (cwV 0 C.2.2.1 (gS_X4_68 _) rfl rfl rfl hd_X4_crowdOfAll ⟨Nat.le_of_ble_eq_true rfl, Nat.le_of_ble_eq_true rfl⟩) rfl hl.1 rfl (by simp [rfv_cat, cat_i, cat_l]) dX4_measure_206 ⟨(Nat.le_of_ble_eq_true rfl), (Nat.le_of_ble_eq_true rfl)⟩ (fun H locs h => ?_)
        refine z_aload_n C dX4_measure_209 rfl (lv_at hl 0 rfl) ?_
        obtain ⟨r108, e109, hm⟩ := obd_s hm
        refine c_callVlP C hE h g1 rfl (by decide) (kc_Pt_mostReach l D k z mi aK aV g N hS e109) (cwV 0 C.2.2.1 (gS_X4_71 _) rfl rfl rfl hd_X4_mostReach ⟨Nat.le_of_ble_eq_true rfl, Nat.le_of_ble_eq_true rfl⟩) rfl hl.1 rfl (by simp [rfv_cat, cat_i, cat_l]) dX4_measure_210 ⟨(Nat.le_of_ble_eq_true rfl), (Nat.le_of_ble_eq_true rfl)⟩ (fun H locs h => ?_)
        refine z_aload_n C dX4_measure_213 rfl (lv_at hl 0 rfl) ?_
        obtain ⟨r112, e113, hm⟩ := obd_s hm
        refine c_callVlP C hE h g1 rfl (by decide) (kc_Pt_workOfAll l D k z mi aK aV g N hS e113) (cwV 0 C.2.2.1 (gS_X4_74 _) rfl rfl rfl hd_X4_workOfAll ⟨Nat.le_of_ble_eq_true rfl, Nat.le_of_ble_eq_true rfl⟩) rfl hl.1 rfl (by simp [rfv_cat, cat_i, cat_l]) dX4_measure_214 ⟨(Nat.le_of_ble_eq_true rfl), (Nat.le_of_ble_eq_true rfl)⟩ (fun H locs h => ?_)
        refine lv_lconst (v := Int64.ofInt 1) C.1 C.2.1 dX4_measure_217 (by decide) ?_
        refine z_ladd C dX4_measure_218 ?_
        obtain ⟨r116, e117, hm⟩ := obd_s hm
        refine c_callVvP C hE h g1 rfl (by decide) (kc_Pt_bounds l D k z mi aK aV g N hS e117) (cwV 4 C.2.2.1 (gS_X4_57 _) rfl rfl rfl hd_X4_bounds ⟨Nat.le_of_ble_eq_true rfl, Nat.le_of_ble_eq_true rfl⟩) rfl hl.1 rfl (Nat.le_of_ble_eq_true rfl) dX4_measure_219 ⟨(Nat.le_of_ble_eq_true rfl), (Nat.le_of_ble_eq_true rfl)⟩ (fun H locs h => ?_)
        refine lv_goto (tgt := 350) C.1 C.2.1 dX4_measure_222 (by decide) ?_
        cases hm
        exact c_vretP C h hr hlk dX4_measure_350
      have hm := ite_f c99 hm
      by_cases c120 : (fl σ 200 (fl σ 100 x0)) = 9
      · refine x_topi (congrArg Int32.ofInt c120) ?_
        have hm := ite_t c120 hm
        refine lv_tableIn (tgt := 340) C.1 C.2.1 dX4_measure_46 (by decide) (by decide) rfl (by decide) ?_
        refine z_aload_n C dX4_measure_340 rfl (lv_at hl 0 rfl) ?_
        refine z_aload_n C dX4_measure_341 rfl (lv_at hl 0 rfl) ?_
        refine cg_5_1 C h g1 cU_X4 (List.mem_cons_of_mem _ wl_X4_30) dX4_measure_342 ?_
        refine lv_iconst (v := Int32.ofInt 0) C.1 C.2.1 dX4_measure_345 (by decide) ?_
        obtain ⟨g121, hm⟩ := grd_s hm
        refine c_qald C h (t := 6) (by decide) rfl g2 g121 dX4_measure_346 ?_
        obtain ⟨r122, e123, hm⟩ := obd_s hm
        refine c_callVvP C hE h g1 rfl (by decide) (kc_Pt_measureOfOne l D k z mi aK aV g N hS e123) (cwV 1 C.2.2.1 (gS_X4_90 _) rfl rfl rfl hd_X4_measureOfOne ⟨Nat.le_of_ble_eq_true rfl, Nat.le_of_ble_eq_true rfl⟩) rfl hl.1 rfl (Nat.le_of_ble_eq_true rfl) dX4_measure_347 ⟨(Nat.le_of_ble_eq_true rfl), (Nat.le_of_ble_eq_true rfl)⟩ (fun H locs h => ?_)
        cases hm
        exact c_vretP C h hr hlk dX4_measure_350
      have hm := ite_f c120 hm
      by_cases c126 : (fl σ 200 (fl σ 100 x0)) = 10
      · refine x_topi (congrArg Int32.ofInt c126) ?_
        have hm := ite_t c126 hm
        refine lv_tableIn (tgt := 340) C.1 C.2.1 dX4_measure_46 (by decide) (by decide) rfl (by decide) ?_
        refine z_aload_n C dX4_measure_340 rfl (lv_at hl 0 rfl) ?_
        refine z_aload_n C dX4_measure_341 rfl (lv_at hl 0 rfl) ?_
        refine cg_5_1 C h g1 cU_X4 (List.mem_cons_of_mem _ wl_X4_30) dX4_measure_342 ?_
        refine lv_iconst (v := Int32.ofInt 0) C.1 C.2.1 dX4_measure_345 (by decide) ?_
        obtain ⟨g127, hm⟩ := grd_s hm
        refine c_qald C h (t := 6) (by decide) rfl g2 g127 dX4_measure_346 ?_
        obtain ⟨r128, e129, hm⟩ := obd_s hm
        refine c_callVvP C hE h g1 rfl (by decide) (kc_Pt_measureOfOne l D k z mi aK aV g N hS e129) (cwV 1 C.2.2.1 (gS_X4_90 _) rfl rfl rfl hd_X4_measureOfOne ⟨Nat.le_of_ble_eq_true rfl, Nat.le_of_ble_eq_true rfl⟩) rfl hl.1 rfl (Nat.le_of_ble_eq_true rfl) dX4_measure_347 ⟨(Nat.le_of_ble_eq_true rfl), (Nat.le_of_ble_eq_true rfl)⟩ (fun H locs h => ?_)
        cases hm
        exact c_vretP C h hr hlk dX4_measure_350
      have hm := ite_f c126 hm
      by_cases c132 : (fl σ 200 (fl σ 100 x0)) = 11
      · refine x_topi (congrArg Int32.ofInt c132) ?_
        have hm := ite_t c132 hm
        refine lv_tableIn (tgt := 340) C.1 C.2.1 dX4_measure_46 (by decide) (by decide) rfl (by decide) ?_
        refine z_aload_n C dX4_measure_340 rfl (lv_at hl 0 rfl) ?_
        refine z_aload_n C dX4_measure_341 rfl (lv_at hl 0 rfl) ?_
        refine cg_5_1 C h g1 cU_X4 (List.mem_cons_of_mem _ wl_X4_30) dX4_measure_342 ?_
        refine lv_iconst (v := Int32.ofInt 0) C.1 C.2.1 dX4_measure_345 (by decide) ?_
        obtain ⟨g133, hm⟩ := grd_s hm
        refine c_qald C h (t := 6) (by decide) rfl g2 g133 dX4_measure_346 ?_
        obtain ⟨r134, e135, hm⟩ := obd_s hm
        refine c_callVvP C hE h g1 rfl (by decide) (kc_Pt_measureOfOne l D k z mi aK aV g N hS e135) (cwV 1 C.2.2.1 (gS_X4_90 _) rfl rfl rfl hd_X4_measureOfOne ⟨Nat.le_of_ble_eq_true rfl, Nat.le_of_ble_eq_true rfl⟩) rfl hl.1 rfl (Nat.le_of_ble_eq_true rfl) dX4_measure_347 ⟨(Nat.le_of_ble_eq_true rfl), (Nat.le_of_ble_eq_true rfl)⟩ (fun H locs h => ?_)
        cases hm
        exact c_vretP C h hr hlk dX4_measure_350
      have hm := ite_f c132 hm
      by_cases c138 : (fl σ 200 (fl σ 100 x0)) = 12
      · refine x_topi (congrArg Int32.ofInt c138) ?_
        have hm := ite_t c138 hm
        refine lv_tableIn (tgt := 225) C.1 C.2.1 dX4_measure_46 (by decide) (by decide) rfl (by decide) ?_
        refine z_aload_n C dX4_measure_225 rfl (lv_at hl 0 rfl) ?_
        refine z_aload_n C dX4_measure_226 rfl (lv_at hl 0 rfl) ?_
        obtain ⟨r139, e140, hm⟩ := obd_s hm
        refine c_callVlP C hE h g1 rfl (by decide) (kc_Pt_lcmOfAll l D k z mi aK aV g N hS e140) (cwV 0 C.2.2.1 (gS_X4_64 _) rfl rfl rfl hd_X4_lcmOfAll ⟨Nat.le_of_ble_eq_true rfl, Nat.le_of_ble_eq_true rfl⟩) rfl hl.1 rfl (by simp [rfv_cat, cat_i, cat_l]) dX4_measure_227 ⟨(Nat.le_of_ble_eq_true rfl), (Nat.le_of_ble_eq_true rfl)⟩ (fun H locs h => ?_)
        refine z_aload_n C dX4_measure_230 rfl (lv_at hl 0 rfl) ?_
        obtain ⟨r143, e144, hm⟩ := obd_s hm
        refine c_callVlP C hE h g1 rfl (by decide) (kc_Pt_mostCrowd l D k z mi aK aV g N hS e144) (cwV 0 C.2.2.1 (gS_X4_77 _) rfl rfl rfl hd_X4_mostCrowd ⟨Nat.le_of_ble_eq_true rfl, Nat.le_of_ble_eq_true rfl⟩) rfl hl.1 rfl (by simp [rfv_cat, cat_i, cat_l]) dX4_measure_231 ⟨(Nat.le_of_ble_eq_true rfl), (Nat.le_of_ble_eq_true rfl)⟩ (fun H locs h => ?_)
        refine z_aload_n C dX4_measure_234 rfl (lv_at hl 0 rfl) ?_
        obtain ⟨r147, e148, hm⟩ := obd_s hm
        refine c_callVlP C hE h g1 rfl (by decide) (kc_Pt_mostReach l D k z mi aK aV g N hS e148) (cwV 0 C.2.2.1 (gS_X4_71 _) rfl rfl rfl hd_X4_mostReach ⟨Nat.le_of_ble_eq_true rfl, Nat.le_of_ble_eq_true rfl⟩) rfl hl.1 rfl (by simp [rfv_cat, cat_i, cat_l]) dX4_measure_235 ⟨(Nat.le_of_ble_eq_true rfl), (Nat.le_of_ble_eq_true rfl)⟩ (fun H locs h => ?_)
        refine z_aload_n C dX4_measure_238 rfl (lv_at hl 0 rfl) ?_
        obtain ⟨r151, e152, hm⟩ := obd_s hm
        refine c_callVlP C hE h g1 rfl (by decide) (kc_Pt_mostWork l D k z mi aK aV g N hS e152) (cwV 0 C.2.2.1 (gS_X4_80 _) rfl rfl rfl hd_X4_mostWork ⟨Nat.le_of_ble_eq_true rfl, Nat.le_of_ble_eq_true rfl⟩) rfl hl.1 rfl (by simp [rfv_cat, cat_i, cat_l]) dX4_measure_239 ⟨(Nat.le_of_ble_eq_true rfl), (Nat.le_of_ble_eq_true rfl)⟩ (fun H locs h => ?_)
        refine lv_lconst (v := Int64.ofInt 1) C.1 C.2.1 dX4_measure_242 (by decide) ?_
        refine z_ladd C dX4_measure_243 ?_
        obtain ⟨r155, e156, hm⟩ := obd_s hm
        refine c_callVvP C hE h g1 rfl (by decide) (kc_Pt_bounds l D k z mi aK aV g N hS e156) (cwV 4 C.2.2.1 (gS_X4_57 _) rfl rfl rfl hd_X4_bounds ⟨Nat.le_of_ble_eq_true rfl, Nat.le_of_ble_eq_true rfl⟩) rfl hl.1 rfl (Nat.le_of_ble_eq_true rfl) dX4_measure_244 ⟨(Nat.le_of_ble_eq_true rfl), (Nat.le_of_ble_eq_true rfl)⟩ (fun H locs h => ?_)
        refine lv_goto (tgt := 350) C.1 C.2.1 dX4_measure_247 (by decide) ?_
        cases hm
        exact c_vretP C h hr hlk dX4_measure_350
      have hm := ite_f c138 hm
      by_cases c159 : (fl σ 200 (fl σ 100 x0)) = 13
      · refine x_topi (congrArg Int32.ofInt c159) ?_
        have hm := ite_t c159 hm
        refine lv_tableIn (tgt := 225) C.1 C.2.1 dX4_measure_46 (by decide) (by decide) rfl (by decide) ?_
        refine z_aload_n C dX4_measure_225 rfl (lv_at hl 0 rfl) ?_
        refine z_aload_n C dX4_measure_226 rfl (lv_at hl 0 rfl) ?_
        obtain ⟨r160, e161, hm⟩ := obd_s hm
        refine c_callVlP C hE h g1 rfl (by decide) (kc_Pt_lcmOfAll l D k z mi aK aV g N hS e161) (cwV 0 C.2.2.1 (gS_X4_64 _) rfl rfl rfl hd_X4_lcmOfAll ⟨Nat.le_of_ble_eq_true rfl, Nat.le_of_ble_eq_true rfl⟩) rfl hl.1 rfl (by simp [rfv_cat, cat_i, cat_l]) dX4_measure_227 ⟨(Nat.le_of_ble_eq_true rfl), (Nat.le_of_ble_eq_true rfl)⟩ (fun H locs h => ?_)
        refine z_aload_n C dX4_measure_230 rfl (lv_at hl 0 rfl) ?_
        obtain ⟨r164, e165, hm⟩ := obd_s hm
        refine c_callVlP C hE h g1 rfl (by decide) (kc_Pt_mostCrowd l D k z mi aK aV g N hS e165) (cwV 0 C.2.2.1 (gS_X4_77 _) rfl rfl rfl hd_X4_mostCrowd ⟨Nat.le_of_ble_eq_true rfl, Nat.le_of_ble_eq_true rfl⟩) rfl hl.1 rfl (by simp [rfv_cat, cat_i, cat_l]) dX4_measure_231 ⟨(Nat.le_of_ble_eq_true rfl), (Nat.le_of_ble_eq_true rfl)⟩ (fun H locs h => ?_)
        refine z_aload_n C dX4_measure_234 rfl (lv_at hl 0 rfl) ?_
        obtain ⟨r168, e169, hm⟩ := obd_s hm
        refine c_callVlP C hE h g1 rfl (by decide) (kc_Pt_mostReach l D k z mi aK aV g N hS e169) (cwV 0 C.2.2.1 (gS_X4_71 _) rfl rfl rfl hd_X4_mostReach ⟨Nat.le_of_ble_eq_true rfl, Nat.le_of_ble_eq_true rfl⟩) rfl hl.1 rfl (by simp [rfv_cat, cat_i, cat_l]) dX4_measure_235 ⟨(Nat.le_of_ble_eq_true rfl), (Nat.le_of_ble_eq_true rfl)⟩ (fun H locs h => ?_)
        refine z_aload_n C dX4_measure_238 rfl (lv_at hl 0 rfl) ?_
        obtain ⟨r172, e173, hm⟩ := obd_s hm
        refine c_callVlP C hE h g1 rfl (by decide) (kc_Pt_mostWork l D k z mi aK aV g N hS e173) (cwV 0 C.2.2.1 (gS_X4_80 _) rfl rfl rfl hd_X4_mostWork ⟨Nat.le_of_ble_eq_true rfl, Nat.le_of_ble_eq_true rfl⟩) rfl hl.1 rfl (by simp [rfv_cat, cat_i, cat_l]) dX4_measure_239 ⟨(Nat.le_of_ble_eq_true rfl), (Nat.le_of_ble_eq_true rfl)⟩ (fun H locs h => ?_)
        refine lv_lconst (v := Int64.ofInt 1) C.1 C.2.1 dX4_measure_242 (by decide) ?_
        refine z_ladd C dX4_measure_243 ?_
        obtain ⟨r176, e177, hm⟩ := obd_s hm
        refine c_callVvP C hE h g1 rfl (by decide) (kc_Pt_bounds l D k z mi aK aV g N hS e177) (cwV 4 C.2.2.1 (gS_X4_57 _) rfl rfl rfl hd_X4_bounds ⟨Nat.le_of_ble_eq_true rfl, Nat.le_of_ble_eq_true rfl⟩) rfl hl.1 rfl (Nat.le_of_ble_eq_true rfl) dX4_measure_244 ⟨(Nat.le_of_ble_eq_true rfl), (Nat.le_of_ble_eq_true rfl)⟩ (fun H locs h => ?_)
        refine lv_goto (tgt := 350) C.1 C.2.1 dX4_measure_247 (by decide) ?_
        cases hm
        exact c_vretP C h hr hlk dX4_measure_350
      have hm := ite_f c159 hm
      by_cases c180 : (fl σ 200 (fl σ 100 x0)) = 14
      · refine x_topi (congrArg Int32.ofInt c180) ?_
        have hm := ite_t c180 hm
        refine lv_tableIn (tgt := 340) C.1 C.2.1 dX4_measure_46 (by decide) (by decide) rfl (by decide) ?_
        refine z_aload_n C dX4_measure_340 rfl (lv_at hl 0 rfl) ?_
        refine z_aload_n C dX4_measure_341 rfl (lv_at hl 0 rfl) ?_
        refine cg_5_1 C h g1 cU_X4 (List.mem_cons_of_mem _ wl_X4_30) dX4_measure_342 ?_
        refine lv_iconst (v := Int32.ofInt 0) C.1 C.2.1 dX4_measure_345 (by decide) ?_
        obtain ⟨g181, hm⟩ := grd_s hm
        refine c_qald C h (t := 6) (by decide) rfl g2 g181 dX4_measure_346 ?_
        obtain ⟨r182, e183, hm⟩ := obd_s hm
        refine c_callVvP C hE h g1 rfl (by decide) (kc_Pt_measureOfOne l D k z mi aK aV g N hS e183) (cwV 1 C.2.2.1 (gS_X4_90 _) rfl rfl rfl hd_X4_measureOfOne ⟨Nat.le_of_ble_eq_true rfl, Nat.le_of_ble_eq_true rfl⟩) rfl hl.1 rfl (Nat.le_of_ble_eq_true rfl) dX4_measure_347 ⟨(Nat.le_of_ble_eq_true rfl), (Nat.le_of_ble_eq_true rfl)⟩ (fun H locs h => ?_)
        cases hm
        exact c_vretP C h hr hlk dX4_measure_350
      have hm := ite_f c180 hm
      by_cases c186 : (fl σ 200 (fl σ 100 x0)) = 15
      · refine x_topi (congrArg Int32.ofInt c186) ?_
        have hm := ite_t c186 hm
        refine lv_tableIn (tgt := 340) C.1 C.2.1 dX4_measure_46 (by decide) (by decide) rfl (by decide) ?_
        refine z_aload_n C dX4_measure_340 rfl (lv_at hl 0 rfl) ?_
        refine z_aload_n C dX4_measure_341 rfl (lv_at hl 0 rfl) ?_
        refine cg_5_1 C h g1 cU_X4 (List.mem_cons_of_mem _ wl_X4_30) dX4_measure_342 ?_
        refine lv_iconst (v := Int32.ofInt 0) C.1 C.2.1 dX4_measure_345 (by decide) ?_
        obtain ⟨g187, hm⟩ := grd_s hm
        refine c_qald C h (t := 6) (by decide) rfl g2 g187 dX4_measure_346 ?_
        obtain ⟨r188, e189, hm⟩ := obd_s hm
        refine c_callVvP C hE h g1 rfl (by decide) (kc_Pt_measureOfOne l D k z mi aK aV g N hS e189) (cwV 1 C.2.2.1 (gS_X4_90 _) rfl rfl rfl hd_X4_measureOfOne ⟨Nat.le_of_ble_eq_true rfl, Nat.le_of_ble_eq_true rfl⟩) rfl hl.1 rfl (Nat.le_of_ble_eq_true rfl) dX4_measure_347 ⟨(Nat.le_of_ble_eq_true rfl), (Nat.le_of_ble_eq_true rfl)⟩ (fun H locs h => ?_)
        cases hm
        exact c_vretP C h hr hlk dX4_measure_350
      have hm := ite_f c186 hm
      by_cases c192 : (fl σ 200 (fl σ 100 x0)) = 16
      · refine x_topi (congrArg Int32.ofInt c192) ?_
        have hm := ite_t c192 hm
        refine lv_tableIn (tgt := 200) C.1 C.2.1 dX4_measure_46 (by decide) (by decide) rfl (by decide) ?_
        refine z_aload_n C dX4_measure_200 rfl (lv_at hl 0 rfl) ?_
        refine z_aload_n C dX4_measure_201 rfl (lv_at hl 0 rfl) ?_
        obtain ⟨r193, e194, hm⟩ := obd_s hm
        refine c_callVlP C hE h g1 rfl (by decide) (kc_Pt_lcmOfAll l D k z mi aK aV g N hS e194) (cwV 0 C.2.2.1 (gS_X4_64 _) rfl rfl rfl hd_X4_lcmOfAll ⟨Nat.le_of_ble_eq_true rfl, Nat.le_of_ble_eq_true rfl⟩) rfl hl.1 rfl (by simp [rfv_cat, cat_i, cat_l]) dX4_measure_202 ⟨(Nat.le_of_ble_eq_true rfl), (Nat.le_of_ble_eq_true rfl)⟩ (fun H locs h => ?_)
        refine z_aload_n C dX4_measure_205 rfl (lv_at hl 0 rfl) ?_
        obtain ⟨r197, e198, hm⟩ := obd_s hm
        refine c_callVlP C hE h g1 rfl (by decide) (kc_Pt_crowdOfAll l D k z mi aK aV g N hS e198) (cwV 0 C.2.2.1 (gS_X4_68 _) rfl rfl rfl hd_X4_crowdOfAll ⟨Nat.le_of_ble_eq_true rfl, Nat.le_of_ble_eq_true rfl⟩) rfl hl.1 rfl (by simp [rfv_cat, cat_i, cat_l]) dX4_measure_206 ⟨(Nat.le_of_ble_eq_true rfl), (Nat.le_of_ble_eq_true rfl)⟩ (fun H locs h => ?_)
        refine z_aload_n C dX4_measure_209 rfl (lv_at hl 0 rfl) ?_
        obtain ⟨r201, e202, hm⟩ := obd_s hm
        refine c_callVlP C hE h g1 rfl (by decide) (kc_Pt_mostReach l D k z mi aK aV g N hS e202) (cwV 0 C.2.2.1 (gS_X4_71 _) rfl rfl rfl hd_X4_mostReach ⟨Nat.le_of_ble_eq_true rfl, Nat.le_of_ble_eq_true rfl⟩) rfl hl.1 rfl (by simp [rfv_cat, cat_i, cat_l]) dX4_measure_210 ⟨(Nat.le_of_ble_eq_true rfl), (Nat.le_of_ble_eq_true rfl)⟩ (fun H locs h => ?_)
        refine z_aload_n C dX4_measure_213 rfl (lv_at hl 0 rfl) ?_
        obtain ⟨r205, e206, hm⟩ := obd_s hm
        refine c_callVlP C hE h g1 rfl (by decide) (kc_Pt_workOfAll l D k z mi aK aV g N hS e206) (cwV 0 C.2.2.1 (gS_X4_74 _) rfl rfl rfl hd_X4_workOfAll ⟨Nat.le_of_ble_eq_true rfl, Nat.le_of_ble_eq_true rfl⟩) rfl hl.1 rfl (by simp [rfv_cat, cat_i, cat_l]) dX4_measure_214 ⟨(Nat.le_of_ble_eq_true rfl), (Nat.le_of_ble_eq_true rfl)⟩ (fun H locs h => ?_)
        refine lv_lconst (v := Int64.ofInt 1) C.1 C.2.1 dX4_measure_217 (by decide) ?_
        refine z_ladd C dX4_measure_218 ?_
        obtain ⟨r209, e210, hm⟩ := obd_s hm
        refine c_callVvP C hE h g1 rfl (by decide) (kc_Pt_bounds l D k z mi aK aV g N hS e210) (cwV 4 C.2.2.1 (gS_X4_57 _) rfl rfl rfl hd_X4_bounds ⟨Nat.le_of_ble_eq_true rfl, Nat.le_of_ble_eq_true rfl⟩) rfl hl.1 rfl (Nat.le_of_ble_eq_true rfl) dX4_measure_219 ⟨(Nat.le_of_ble_eq_true rfl), (Nat.le_of_ble_eq_true rfl)⟩ (fun H locs h => ?_)
        refine lv_goto (tgt := 350) C.1 C.2.1 dX4_measure_222 (by decide) ?_
        cases hm
        exact c_vretP C h hr hlk dX4_measure_350
      have hm := ite_f c192 hm
      by_cases c213 : (fl σ 200 (fl σ 100 x0)) = 17
      · refine x_topi (congrArg Int32.ofInt c213) ?_
        have hm := ite_t c213 hm
        refine lv_tableIn (tgt := 200) C.1 C.2.1 dX4_measure_46 (by decide) (by decide) rfl (by decide) ?_
        refine z_aload_n C dX4_measure_200 rfl (lv_at hl 0 rfl) ?_
        refine z_aload_n C dX4_measure_201 rfl (lv_at hl 0 rfl) ?_
        obtain ⟨r214, e215, hm⟩ := obd_s hm
        refine c_callVlP C hE h g1 rfl (by decide) (kc_Pt_lcmOfAll l D k z mi aK aV g N hS e215) (cwV 0 C.2.2.1 (gS_X4_64 _) rfl rfl rfl hd_X4_lcmOfAll ⟨Nat.le_of_ble_eq_true rfl, Nat.le_of_ble_eq_true rfl⟩) rfl hl.1 rfl (by simp [rfv_cat, cat_i, cat_l]) dX4_measure_202 ⟨(Nat.le_of_ble_eq_true rfl), (Nat.le_of_ble_eq_true rfl)⟩ (fun H locs h => ?_)
        refine z_aload_n C dX4_measure_205 rfl (lv_at hl 0 rfl) ?_
        obtain ⟨r218, e219, hm⟩ := obd_s hm
        refine c_callVlP C hE h g1 rfl (by decide) (kc_Pt_crowdOfAll l D k z mi aK aV g N hS e219) (cwV 0 C.2.2.1 (gS_X4_68 _) rfl rfl rfl hd_X4_crowdOfAll ⟨Nat.le_of_ble_eq_true rfl, Nat.le_of_ble_eq_true rfl⟩) rfl hl.1 rfl (by simp [rfv_cat, cat_i, cat_l]) dX4_measure_206 ⟨(Nat.le_of_ble_eq_true rfl), (Nat.le_of_ble_eq_true rfl)⟩ (fun H locs h => ?_)
        refine z_aload_n C dX4_measure_209 rfl (lv_at hl 0 rfl) ?_
        obtain ⟨r222, e223, hm⟩ := obd_s hm
        refine c_callVlP C hE h g1 rfl (by decide) (kc_Pt_mostReach l D k z mi aK aV g N hS e223) (cwV 0 C.2.2.1 (gS_X4_71 _) rfl rfl rfl hd_X4_mostReach ⟨Nat.le_of_ble_eq_true rfl, Nat.le_of_ble_eq_true rfl⟩) rfl hl.1 rfl (by simp [rfv_cat, cat_i, cat_l]) dX4_measure_210 ⟨(Nat.le_of_ble_eq_true rfl), (Nat.le_of_ble_eq_true rfl)⟩ (fun H locs h => ?_)
        refine z_aload_n C dX4_measure_213 rfl (lv_at hl 0 rfl) ?_
        obtain ⟨r226, e227, hm⟩ := obd_s hm
        refine c_callVlP C hE h g1 rfl (by decide) (kc_Pt_workOfAll l D k z mi aK aV g N hS e227) (cwV 0 C.2.2.1 (gS_X4_74 _) rfl rfl rfl hd_X4_workOfAll ⟨Nat.le_of_ble_eq_true rfl, Nat.le_of_ble_eq_true rfl⟩) rfl hl.1 rfl (by simp [rfv_cat, cat_i, cat_l]) dX4_measure_214 ⟨(Nat.le_of_ble_eq_true rfl), (Nat.le_of_ble_eq_true rfl)⟩ (fun H locs h => ?_)
        refine lv_lconst (v := Int64.ofInt 1) C.1 C.2.1 dX4_measure_217 (by decide) ?_
        refine z_ladd C dX4_measure_218 ?_
        obtain ⟨r230, e231, hm⟩ := obd_s hm
        refine c_callVvP C hE h g1 rfl (by decide) (kc_Pt_bounds l D k z mi aK aV g N hS e231) (cwV 4 C.2.2.1 (gS_X4_57 _) rfl rfl rfl hd_X4_bounds ⟨Nat.le_of_ble_eq_true rfl, Nat.le_of_ble_eq_true rfl⟩) rfl hl.1 rfl (Nat.le_of_ble_eq_true rfl) dX4_measure_219 ⟨(Nat.le_of_ble_eq_true rfl), (Nat.le_of_ble_eq_true rfl)⟩ (fun H locs h => ?_)
        refine lv_goto (tgt := 350) C.1 C.2.1 dX4_measure_222 (by decide) ?_
        cases hm
        exact c_vretP C h hr hlk dX4_measure_350
      have hm := ite_f c213 hm
      by_cases c234 : (fl σ 200 (fl σ 100 x0)) = 18
      · refine x_topi (congrArg Int32.ofInt c234) ?_
        have hm := ite_t c234 hm
        refine lv_tableIn (tgt := 340) C.1 C.2.1 dX4_measure_46 (by decide) (by decide) rfl (by decide) ?_
        refine z_aload_n C dX4_measure_340 rfl (lv_at hl 0 rfl) ?_
        refine z_aload_n C dX4_measure_341 rfl (lv_at hl 0 rfl) ?_
        refine cg_5_1 C h g1 cU_X4 (List.mem_cons_of_mem _ wl_X4_30) dX4_measure_342 ?_
        refine lv_iconst (v := Int32.ofInt 0) C.1 C.2.1 dX4_measure_345 (by decide) ?_
        obtain ⟨g235, hm⟩ := grd_s hm
        refine c_qald C h (t := 6) (by decide) rfl g2 g235 dX4_measure_346 ?_
        obtain ⟨r236, e237, hm⟩ := obd_s hm
        refine c_callVvP C hE h g1 rfl (by decide) (kc_Pt_measureOfOne l D k z mi aK aV g N hS e237) (cwV 1 C.2.2.1 (gS_X4_90 _) rfl rfl rfl hd_X4_measureOfOne ⟨Nat.le_of_ble_eq_true rfl, Nat.le_of_ble_eq_true rfl⟩) rfl hl.1 rfl (Nat.le_of_ble_eq_true rfl) dX4_measure_347 ⟨(Nat.le_of_ble_eq_true rfl), (Nat.le_of_ble_eq_true rfl)⟩ (fun H locs h => ?_)
        cases hm
        exact c_vretP C h hr hlk dX4_measure_350
      have hm := ite_f c234 hm
      by_cases c240 : (fl σ 200 (fl σ 100 x0)) = 19
      · refine x_topi (congrArg Int32.ofInt c240) ?_
        have hm := ite_t c240 hm
        refine lv_tableIn (tgt := 302) C.1 C.2.1 dX4_measure_46 (by decide) (by decide) rfl (by decide) ?_
        refine z_aload_n C dX4_measure_302 rfl (lv_at hl 0 rfl) ?_
        refine z_aload_n C dX4_measure_303 rfl (lv_at hl 0 rfl) ?_
        refine cg_5_1 C h g1 cU_X4 (List.mem_cons_of_mem _ wl_X4_30) dX4_measure_304 ?_
        refine lv_iconst (v := Int32.ofInt 0) C.1 C.2.1 dX4_measure_307 (by decide) ?_
        obtain ⟨g241, hm⟩ := grd_s hm
        refine c_qald C h (t := 6) (by decide) rfl g2 g241 dX4_measure_308 ?_
        refine z_aload_n C dX4_measure_309 rfl (lv_at hl 0 rfl) ?_
        refine cg_5_1 C h g1 cU_X4 (List.mem_cons_of_mem _ wl_X4_30) dX4_measure_310 ?_
        refine lv_iconst (v := Int32.ofInt 1) C.1 C.2.1 dX4_measure_313 (by decide) ?_
        obtain ⟨g242, hm⟩ := grd_s hm
        refine c_qald C h (t := 6) (by decide) rfl g2 g242 dX4_measure_314 ?_
        obtain ⟨r243, e244, hm⟩ := obd_s hm
        refine c_callVvP C hE h g1 rfl (by decide) (kc_Pt_measureMeeting l D k z mi aK aV g N hS e244) (cwV 2 C.2.2.1 (gS_X4_86 _) rfl rfl rfl hd_X4_measureMeeting ⟨Nat.le_of_ble_eq_true rfl, Nat.le_of_ble_eq_true rfl⟩) rfl hl.1 rfl (Nat.le_of_ble_eq_true rfl) dX4_measure_315 ⟨(Nat.le_of_ble_eq_true rfl), (Nat.le_of_ble_eq_true rfl)⟩ (fun H locs h => ?_)
        refine lv_goto (tgt := 350) C.1 C.2.1 dX4_measure_318 (by decide) ?_
        cases hm
        exact c_vretP C h hr hlk dX4_measure_350
      have hm := ite_f c240 hm
      by_cases c247 : (fl σ 200 (fl σ 100 x0)) = 20
      · refine x_topi (congrArg Int32.ofInt c247) ?_
        have hm := ite_t c247 hm
        refine lv_tableIn (tgt := 321) C.1 C.2.1 dX4_measure_46 (by decide) (by decide) rfl (by decide) ?_
        refine z_aload_n C dX4_measure_321 rfl (lv_at hl 0 rfl) ?_
        refine z_aload_n C dX4_measure_322 rfl (lv_at hl 0 rfl) ?_
        refine cg_5_1 C h g1 cU_X4 (List.mem_cons_of_mem _ wl_X4_30) dX4_measure_323 ?_
        refine lv_iconst (v := Int32.ofInt 1) C.1 C.2.1 dX4_measure_326 (by decide) ?_
        obtain ⟨g248, hm⟩ := grd_s hm
        refine c_qald C h (t := 6) (by decide) rfl g2 g248 dX4_measure_327 ?_
        refine z_aload_n C dX4_measure_328 rfl (lv_at hl 0 rfl) ?_
        refine cg_5_1 C h g1 cU_X4 (List.mem_cons_of_mem _ wl_X4_30) dX4_measure_329 ?_
        refine lv_iconst (v := Int32.ofInt 0) C.1 C.2.1 dX4_measure_332 (by decide) ?_
        obtain ⟨g249, hm⟩ := grd_s hm
        refine c_qald C h (t := 6) (by decide) rfl g2 g249 dX4_measure_333 ?_
        obtain ⟨r250, e251, hm⟩ := obd_s hm
        refine c_callVvP C hE h g1 rfl (by decide) (kc_Pt_measureMeeting l D k z mi aK aV g N hS e251) (cwV 2 C.2.2.1 (gS_X4_86 _) rfl rfl rfl hd_X4_measureMeeting ⟨Nat.le_of_ble_eq_true rfl, Nat.le_of_ble_eq_true rfl⟩) rfl hl.1 rfl (Nat.le_of_ble_eq_true rfl) dX4_measure_334 ⟨(Nat.le_of_ble_eq_true rfl), (Nat.le_of_ble_eq_true rfl)⟩ (fun H locs h => ?_)
        refine lv_goto (tgt := 350) C.1 C.2.1 dX4_measure_337 (by decide) ?_
        cases hm
        exact c_vretP C h hr hlk dX4_measure_350
      have hm := ite_f c247 hm
      by_cases c254 : (fl σ 200 (fl σ 100 x0)) = 21
      · refine x_topi (congrArg Int32.ofInt c254) ?_
        have hm := ite_t c254 hm
        refine lv_tableIn (tgt := 302) C.1 C.2.1 dX4_measure_46 (by decide) (by decide) rfl (by decide) ?_
        refine z_aload_n C dX4_measure_302 rfl (lv_at hl 0 rfl) ?_
        refine z_aload_n C dX4_measure_303 rfl (lv_at hl 0 rfl) ?_
        refine cg_5_1 C h g1 cU_X4 (List.mem_cons_of_mem _ wl_X4_30) dX4_measure_304 ?_
        refine lv_iconst (v := Int32.ofInt 0) C.1 C.2.1 dX4_measure_307 (by decide) ?_
        obtain ⟨g255, hm⟩ := grd_s hm
        refine c_qald C h (t := 6) (by decide) rfl g2 g255 dX4_measure_308 ?_
        refine z_aload_n C dX4_measure_309 rfl (lv_at hl 0 rfl) ?_
        refine cg_5_1 C h g1 cU_X4 (List.mem_cons_of_mem _ wl_X4_30) dX4_measure_310 ?_
        refine lv_iconst (v := Int32.ofInt 1) C.1 C.2.1 dX4_measure_313 (by decide) ?_
        obtain ⟨g256, hm⟩ := grd_s hm
        refine c_qald C h (t := 6) (by decide) rfl g2 g256 dX4_measure_314 ?_
        obtain ⟨r257, e258, hm⟩ := obd_s hm
        refine c_callVvP C hE h g1 rfl (by decide) (kc_Pt_measureMeeting l D k z mi aK aV g N hS e258) (cwV 2 C.2.2.1 (gS_X4_86 _) rfl rfl rfl hd_X4_measureMeeting ⟨Nat.le_of_ble_eq_true rfl, Nat.le_of_ble_eq_true rfl⟩) rfl hl.1 rfl (Nat.le_of_ble_eq_true rfl) dX4_measure_315 ⟨(Nat.le_of_ble_eq_true rfl), (Nat.le_of_ble_eq_true rfl)⟩ (fun H locs h => ?_)
        refine lv_goto (tgt := 350) C.1 C.2.1 dX4_measure_318 (by decide) ?_
        cases hm
        exact c_vretP C h hr hlk dX4_measure_350
      have hm := ite_f c254 hm
      refine lv_tableOut (tgt := 340) C.1 C.2.1 dX4_measure_46 (by rw [c32_ti g8]; omega) (by decide) ?_
      refine z_aload_n C dX4_measure_340 rfl (lv_at hl 0 rfl) ?_
      refine z_aload_n C dX4_measure_341 rfl (lv_at hl 0 rfl) ?_
      refine cg_5_1 C h g1 cU_X4 (List.mem_cons_of_mem _ wl_X4_30) dX4_measure_342 ?_
      refine lv_iconst (v := Int32.ofInt 0) C.1 C.2.1 dX4_measure_345 (by decide) ?_
      obtain ⟨g261, hm⟩ := grd_s hm
      refine c_qald C h (t := 6) (by decide) rfl g2 g261 dX4_measure_346 ?_
      obtain ⟨r262, e263, hm⟩ := obd_s hm
      refine c_callVvP C hE h g1 rfl (by decide) (kc_Pt_measureOfOne l D k z mi aK aV g N hS e263) (cwV 1 C.2.2.1 (gS_X4_90 _) rfl rfl rfl hd_X4_measureOfOne ⟨Nat.le_of_ble_eq_true rfl, Nat.le_of_ble_eq_true rfl⟩) rfl hl.1 rfl (Nat.le_of_ble_eq_true rfl) dX4_measure_347 ⟨(Nat.le_of_ble_eq_true rfl), (Nat.le_of_ble_eq_true rfl)⟩ (fun H locs h => ?_)
      cases hm
      exact c_vretP C h hr hlk dX4_measure_350
    · have hm := ite_t c6 hm
      refine z_aload_n C dX4_measure_11 rfl (lv_at hl 0 rfl) ?_
      refine z_aload_n C dX4_measure_12 rfl (lv_at hl 0 rfl) ?_
      refine cg_5_6 C h g1 cU_X4 (List.mem_cons_of_mem _ wl_X4_22) dX4_measure_13 ?_
      refine z_aload_n C dX4_measure_16 rfl (lv_at hl 0 rfl) ?_
      refine cg_5_1 C h g1 cU_X4 (List.mem_cons_of_mem _ wl_X4_30) dX4_measure_17 ?_
      refine lv_iload_n C.1 C.2.1 dX4_measure_20 rfl (lv_at hl 1 rfl) ?_
      obtain ⟨g266, hm⟩ := grd_s hm
      refine c_qald C h (t := 6) (by decide) rfl g2 g266 dX4_measure_21 ?_
      obtain ⟨g267, hm⟩ := grd_s hm
      refine cg_5_6 C h g267 cU_X4 (List.mem_cons_of_mem _ wl_X4_22) dX4_measure_22 ?_
      refine lv_iconst (v := Int32.ofInt 1) C.1 C.2.1 dX4_measure_25 (by decide) ?_
      refine z_iadd C dX4_measure_26 ?_
      obtain ⟨g268, hm⟩ := grd_s hm
      obtain ⟨g269, hm⟩ := grd_s hm
      refine v_max C hl.1 dX4_measure_27 g268 g269 (List.mem_cons_of_mem _ wx_X4_46) (List.mem_cons_of_mem _ wxs_max) (List.mem_cons_of_mem _ wxc_max) (List.mem_cons_of_mem _ wt_Math) (Nat.le_of_ble_eq_true rfl) (by simp [rfv_cat, cat_i, cat_l]) (Nat.le_of_ble_eq_true rfl) (Nat.le_of_ble_eq_true rfl) ?_
      refine cp_5_6 C h g1 cU_X4 (List.mem_cons_of_mem _ wl_X4_22) dX4_measure_30 (fun H locs h => ?_)
      refine lv_iinc (v := Int32.ofInt (x1 + 1)) (lv' := [(1, .int (Int32.ofInt (x1 + 1))), (0, rfv g x0)]) C.1 C.2.1 dX4_measure_33 hl (k := 1) rfl (c32_add _ _) (by decide) (by simp [rfv_cat, cat_i, cat_l]) (fun ls hl => ?_)
      refine lv_goto (tgt := 2) C.1 C.2.1 dX4_measure_36 (by decide) ?_
      exact hrec2 (lv_sub hl [1, 0] rfl) h hm
set_option maxHeartbeats 8000000 in
set_option maxRecDepth 100000 in
theorem kc_Pt_measure (l : Launch) (D : va_G) (k : Nat → ClassId) (z mi : Nat) (aK aV : Nat → Nat) (g : Nat → Nat) (N : Nat)    {π : Sh} {σ : St} {x0 : Int} {r : St} (hS : SHs π) (hm : Pt_measure N π σ x0 = some r) : Mv l yX4_measure (.code yX4_measure cX4_measure 2 none :: cWd) { frames := 3, cells := 0, slots := 0, locals := 85 } [rfv g x0] D (TYs k) (cW k z g π σ) (XV z mi aK aV (cW k z g π σ)) Unit (fun _ => True) (fun _ => cW k z g π r) 0 0 := by
  intro sz
  refine v_met (cc := cX4_measure) (maxL := 2) (ret := none) (lv := [(0, rfv g x0)]) (by decide) rfl (by simp [lg_sl, rfv_cat, cat_i, cat_l]) (by simp [lv_args, rfv_cat, cat_i, cat_l]) ?_
  intro p e s m below meth c ls C hE hr hlk hmn hl h
  rw [Pt_measure] at hm
  refine lv_iconst (v := Int32.ofInt 0) C.1 C.2.1 dX4_measure_0 (by decide) ?_
  refine lv_istore_n (i := 1) (lv' := [(1, .int (Int32.ofInt 0)), (0, rfv g x0)]) C.1 C.2.1 dX4_measure_1 rfl hl (by decide) (by simp [rfv_cat, cat_i, cat_l]) (fun ls hl => ?_)
  exact kl_Pt_measure_2 (N := N) C hr hlk hE hS N (lv_sub hl [1, 0] rfl) h hm
end Z_Pt_measure
section Z_Sp_besides
variable {p : Program} {l : Launch} {e : Env} {s : State} {m : MethodId} {args : Array Value} {below : List Frame} {meth : Method} {c : Code} {D : va_G} {A : Nat → Prop} {k : Nat → ClassId} {N : Nat} {cd : Cond} {z mi : Nat} {aK aV : Nat → Nat} {g : Nat → Nat} {π : Sh}
set_option maxHeartbeats 8000000 in
set_option maxRecDepth 100000 in
theorem kc_Sp_besides (l : Launch) (D : va_G) (k : Nat → ClassId) (z mi : Nat) (aK aV : Nat → Nat) (g : Nat → Nat) (N : Nat)    {π : Sh} {σ : St} {x0 : Int} {r : St × Int} (hS : SHs π) (hm : Sp_besides N π σ x0 = some r) : Mi l yX9_besides (.code yX9_besides cX9_besides 1 (some .int) :: cWd) { frames := 1, cells := 0, slots := 0, locals := 40 } [rfv g x0] D (TYs k) (cW k z g π σ) (XV z mi aK aV (cW k z g π σ)) Unit (fun v _ => v = Int32.ofInt r.2) (fun _ => cW k z g π r.1) 0 0 := by
  intro sz
  refine v_met (cc := cX9_besides) (maxL := 1) (ret := (some .int)) (lv := [(0, rfv g x0)]) (by decide) rfl (by simp [lg_sl, rfv_cat, cat_i, cat_l]) (by simp [lv_args, rfv_cat, cat_i, cat_l]) ?_
  intro p e s m below meth c ls C hE hr hlk hmn hl h
  rw [Sp_besides] at hm
  refine z_aload_n C dX9_besides_0 rfl (lv_at hl 0 rfl) ?_
  obtain ⟨g1, hm⟩ := grd_s hm
  refine cg_10_6 C h g1 cU_X9 (List.mem_cons_of_mem _ wl_X9_22) dX9_besides_1 ?_
  obtain ⟨g2, hm⟩ := grd_s hm
  refine z_if_eq (tgt := 20) C dX9_besides_4 (by decide) g2 (fun c3 => ?_) (fun c3 => ?_)
  · have hm := ite_t c3 hm
    refine lv_iconst (v := Int32.ofInt 0) C.1 C.2.1 dX9_besides_20 (by decide) ?_
    cases hm
    exact c_iretP C h hr hlk dX9_besides_21 rfl
  · have hm := ite_f c3 hm
    refine lv_iconst (v := Int32.ofInt 0) C.1 C.2.1 dX9_besides_7 (by decide) ?_
    refine z_aload_n C dX9_besides_8 rfl (lv_at hl 0 rfl) ?_
    refine cg_10_9 C h g1 cU_X9 (List.mem_cons_of_mem _ wl_X9_34) dX9_besides_9 ?_
    refine lv_iconst (v := Int32.ofInt 2) C.1 C.2.1 dX9_besides_12 (by decide) ?_
    refine z_isub C dX9_besides_13 ?_
    obtain ⟨g4, hm⟩ := grd_s hm
    refine v_max C hl.1 dX9_besides_14 (by decide) g4 (List.mem_cons_of_mem _ wx_X9_66) (List.mem_cons_of_mem _ wxs_max) (List.mem_cons_of_mem _ wxc_max) (List.mem_cons_of_mem _ wt_Math) (Nat.le_of_ble_eq_true rfl) (by simp [rfv_cat, cat_i, cat_l]) (Nat.le_of_ble_eq_true rfl) (Nat.le_of_ble_eq_true rfl) ?_
    refine lv_goto (tgt := 21) C.1 C.2.1 dX9_besides_17 (by decide) ?_
    cases hm
    exact c_iretP C h hr hlk dX9_besides_21 rfl
end Z_Sp_besides
section Z_Mk_build
variable {p : Program} {l : Launch} {e : Env} {s : State} {m : MethodId} {args : Array Value} {below : List Frame} {meth : Method} {c : Code} {D : va_G} {A : Nat → Prop} {k : Nat → ClassId} {N : Nat} {cd : Cond} {z mi : Nat} {aK aV : Nat → Nat} {g0 : Nat → Nat} {π0 : Sh}
set_option maxHeartbeats 8000000 in
set_option maxRecDepth 100000 in
theorem kl_Mk_build_97 {r : Sh × St × Int} (C : Cx p s m args c cX3_build RX3 (cd :: cWd) D (TYs k) 6) (hr : meth.sig.returnType = (some (.object "CycleStudio$Pattern"))) (hlk : meth.locks = false) (hE : Ev z mi aK aV A s s.heap)    {ls : Array Slot} {H : Heap} {locs : List Loc} {g : Nat → Nat} {π : Sh} {σ : St} {x1 : Int} {x2 : Int} {x4 : Int} {s0 : Int} (hC : Cl π σ) (hG : gx (nn π0) g0 g) (hX : ext π0 π) (hv_x1 : x1 < nn π) (hv_x4 : x4 < nn π) (hv_s0 : s0 < nn π) (hl : lv_has ls 6 [(0, rfv g 3), (1, rfv g x1), (2, .int (Int32.ofInt x2)), (4, rfv g x4)]) (h : Hp D A s.heap H locs (cW k z g π σ)) (hm : Mk_build_97 N π σ x1 x2 x4 s0 = some r) : W p l e { frames := 4, cells := nn r.1 - nn π0, slots := sw r.1 - sw π0, locals := 106 } s m args below meth c H locs (nn π - nn π0) (sw π - sw π0) (MQ below (va_Qq (fun v u => gx (nn π0) g0 u ∧ v = rfo u r.2.2) (fun u t => PostW D (TYs k) A (cW k z u r.1 r.2.1) t) A) args s (nn r.1 - nn π0) (sw r.1 - sw π0) A) (F0 m 97 ls [rfv g s0]) := by
  have hS := hC.1
  have hq := km_Mk_build_97    hC hv_x1 hv_x4 hv_s0 hm
  rw [Mk_build_97] at hm
  refine lv_dup C.1 C.2.1 dX3_build_97 (rfv_cat _ _) ?_
  refine z_aload_n C dX3_build_98 rfl (lv_at hl 1 rfl) ?_
  refine z_aload C dX3_build_99 (lv_at hl 3 rfl) ?_
  obtain ⟨r39, e40, hm⟩ := obd_s hm
  have q41 := (km_Pt_init hC hv_s0 hv_x1 hv_x4 e40)
  obtain ⟨g42, hm⟩ := grd_s hm
  refine c_callIvP C hE h g42 (kc_Pt_init l D k z mi aK aV g N hS e40) (cwI 2 C.2.2.1 (gC_X4_init _) rfl rfl rfl (C.2.2.1 _ (List.mem_cons_of_mem _ wt_X4)) (C.2.2.1 _ (List.mem_cons_of_mem _ wm_X3_110)) (C.2.2.1 _ (List.mem_cons_of_mem _ wj_X4_init)) rfl hdS_X4_init ⟨Nat.le_of_ble_eq_true rfl, Nat.le_of_ble_eq_true rfl⟩) rfl hl.1 rfl (by simp [rfv_cat, cat_i, cat_l]) dX3_build_101 ⟨(czz hX hq.1), (szz hX hq.1)⟩ (fun H locs h => ?_)
  have hC43 : Cl π r39 := q41
  refine z_astore (lv' := [(5, rfv g s0), (0, rfv g 3), (1, rfv g x1), (2, .int (Int32.ofInt x2)), (4, rfv g x4)]) C dX3_build_104 hl (by decide) (by simp [rfv_cat, cat_i, cat_l]) (fun ls hl => ?_)
  refine z_aload C dX3_build_106 (lv_at hl 0 rfl) ?_
  obtain ⟨r44, e45, hm⟩ := obd_s hm
  have q46 := (km_Pt_measure hC43 hv_s0 e45)
  refine c_callVvP C hE h g42 rfl (by decide) (kc_Pt_measure l D k z mi aK aV g N hS e45) (cwV 0 C.2.2.1 (gS_X3_113 _) rfl rfl rfl hd_X4_measure ⟨Nat.le_of_ble_eq_true rfl, Nat.le_of_ble_eq_true rfl⟩) rfl hl.1 rfl (Nat.le_of_ble_eq_true rfl) dX3_build_108 ⟨(czz hX hq.1), (szz hX hq.1)⟩ (fun H locs h => ?_)
  have hC47 : Cl π r44 := q46
  refine z_aload C dX3_build_111 (lv_at hl 0 rfl) ?_
  obtain ⟨r48, e49, hm⟩ := obd_s hm
  have q50 := (km_Pt_excess hC47 hv_s0 e49)
  refine c_callViP C hE h g42 rfl (by decide) (kc_Pt_excess l D k z mi aK aV g N hS e49) (cwV 0 C.2.2.1 (gS_X3_116 _) rfl rfl rfl hd_X4_excess ⟨Nat.le_of_ble_eq_true rfl, Nat.le_of_ble_eq_true rfl⟩) rfl hl.1 rfl (Nat.le_of_ble_eq_true rfl) dX3_build_113 ⟨(czz hX hq.1), (szz hX hq.1)⟩ (fun H locs h => ?_)
  have hC51 : Cl π r48.1 := q50
  obtain ⟨g52, hm⟩ := grd_s hm
  refine z_if_eq (tgt := 131) C dX3_build_116 (by decide) g52 (fun c53 => ?_) (fun c53 => ?_)
  · have hm := ite_t c53 hm
    refine z_aload_n C dX3_build_131 rfl (lv_at hl 1 rfl) ?_
    refine lv_dup C.1 C.2.1 dX3_build_132 (rfv_cat _ _) ?_
    refine cg_4_7 C h (sh_3 hS) cU_X3 (List.mem_cons_of_mem _ wl_X3_38) dX3_build_133 ?_
    refine lv_iconst (v := Int32.ofInt 1) C.1 C.2.1 dX3_build_136 (by decide) ?_
    refine z_iadd C dX3_build_137 ?_
    refine cp_4_7 C h (sh_3 hS) cU_X3 (List.mem_cons_of_mem _ wl_X3_38) dX3_build_138 (fun H locs h => ?_)
    refine z_aload C dX3_build_141 (lv_at hl 0 rfl) ?_
    cases hm
    exact c_aretA C hG h hr hlk (Or.inl ⟨_, rfl⟩) dX3_build_143
  · have hm := ite_f c53 hm
    refine z_aload_n C dX3_build_119 rfl (lv_at hl 1 rfl) ?_
    refine z_aload C dX3_build_120 (lv_at hl 0 rfl) ?_
    obtain ⟨r54, e55, hm⟩ := obd_s hm
    have q56 := (km_Pt_excess hC51 hv_s0 e55)
    refine c_callViP C hE h g42 rfl (by decide) (kc_Pt_excess l D k z mi aK aV g N hS e55) (cwV 0 C.2.2.1 (gS_X3_116 _) rfl rfl rfl hd_X4_excess ⟨Nat.le_of_ble_eq_true rfl, Nat.le_of_ble_eq_true rfl⟩) rfl hl.1 rfl (by simp [rfv_cat, cat_i, cat_l]) dX3_build_122 ⟨(czz hX hq.1), (szz hX hq.1)⟩ (fun H locs h => ?_)
    have hC57 : Cl π r54.1 := q56
    refine lv_iload_n C.1 C.2.1 dX3_build_125 rfl (lv_at hl 3 rfl) ?_
    obtain ⟨r58, e59, hm⟩ := obd_s hm
    have q60 := (km_Mk_fail hC57 e59)
    refine c_callVvP C hE h (sh_3 hS) rfl (by decide) (kc_Mk_fail l D k z mi aK aV g N hS e59) (cwV 2 C.2.2.1 (gS_X3_93 _) rfl rfl rfl hd_X3_fail ⟨Nat.le_of_ble_eq_true rfl, Nat.le_of_ble_eq_true rfl⟩) rfl hl.1 rfl (Nat.le_of_ble_eq_true rfl) dX3_build_126 ⟨(czz hX hq.1), (szz hX hq.1)⟩ (fun H locs h => ?_)
    have hC61 : Cl π r58 := q60
    refine z_null (g := g) C dX3_build_129 ?_
    cases hm
    exact c_aretA C hG h hr hlk (Or.inl ⟨_, rfl⟩) dX3_build_130
set_option maxHeartbeats 8000000 in
set_option maxRecDepth 100000 in
theorem kl_Mk_build_63 {r : Sh × St × Int} (C : Cx p s m args c cX3_build RX3 (cd :: cWd) D (TYs k) 6) (hr : meth.sig.returnType = (some (.object "CycleStudio$Pattern"))) (hlk : meth.locks = false) (hE : Ev z mi aK aV A s s.heap)    (n : Nat) : ∀ {ls : Array Slot} {H : Heap} {locs : List Loc} {g : Nat → Nat} {π : Sh} {σ : St} {x1 : Int} {x2 : Int} {x4 : Int} {x5 : Int}, Cl π σ → gx (nn π0) g0 g → ext π0 π → x1 < nn π → x4 < nn π → lv_has ls 6 [(0, rfv g 3), (1, rfv g x1), (2, .int (Int32.ofInt x2)), (4, rfv g x4), (5, .int (Int32.ofInt x5))] → Hp D A s.heap H locs (cW k z g π σ) → Mk_build_63 N n π σ x1 x2 x4 x5 = some r → W p l e { frames := 4, cells := nn r.1 - nn π0, slots := sw r.1 - sw π0, locals := 106 } s m args below meth c H locs (nn π - nn π0) (sw π - sw π0) (MQ below (va_Qq (fun v u => gx (nn π0) g0 u ∧ v = rfo u r.2.2) (fun u t => PostW D (TYs k) A (cW k z u r.1 r.2.1) t) A) args s (nn r.1 - nn π0) (sw r.1 - sw π0) A) (F0 m 63 ls []) := by
  induction n with
  | zero => intro ls H locs g π σ x1 x2 x4 x5 hC hG hX hv_x1 hv_x4 hl h hm; cases (show none = some r from hm)
  | succ n hrec63 =>
    intro ls H locs g π σ x1 x2 x4 x5 hC hG hX hv_x1 hv_x4 hl h hm
    have hS := hC.1
    have hq := km_Mk_build_63   (n + 1) hC hv_x1 hv_x4 hm
    have krec63 : ∀ {π : Sh} {σ : St} {x1 : Int} {x2 : Int} {x4 : Int} {x5 : Int}, Cl π σ → x1 < nn π → x4 < nn π → Mk_build_63 N n π σ x1 x2 x4 x5 = some r → ext π r.1 ∧ Cl r.1 r.2.1 ∧ r.2.2 < nn r.1 := fun {_ _} {_} {_} {_} {_} => km_Mk_build_63   n
    rw [Mk_build_63] at hm
    refine lv_iload C.1 C.2.1 dX3_build_63 (lv_at hl 4 rfl) ?_
    refine z_aload_n C dX3_build_65 rfl (lv_at hl 1 rfl) ?_
    obtain ⟨g25, hm⟩ := grd_s hm
    refine cg_10_9 C h g25 cU_X9 (List.mem_cons_of_mem _ wl_X3_97) dX3_build_66 ?_
    obtain ⟨g26, hm⟩ := grd_s hm
    obtain ⟨g27, hm⟩ := grd_s hm
    refine z_icmp_ge (tgt := 94) C dX3_build_69 (by decide) g26 g27 (fun c28 => ?_) (fun c28 => ?_)
    · have hm := ite_f c28 hm
      have q := km_Mk_build_97   ((cl_nO hC (by decide) (by decide) _)) (lt_ext hv_x1 (ext_nO π 5 7)) (lt_ext hv_x4 (ext_nO π 5 7)) lt_nO hm
      refine c_new C h hC (by decide) dX3_build_94 rfl cU_X4 tyX4_ok (List.mem_cons_of_mem _ wn_X3_7) (List.mem_cons_of_mem _ wi_X4) (List.mem_cons_of_mem _ wt_X4) (df_X4) (dn_X4 z) (rc1 hX q.1) (rs1 hX q.1) (fun u H hg h => ?_)
      simp only [← gx_rfv hg (sh_3 hS).2.1, ← gx_rfv hg hv_x1, ← gx_rfv hg hv_x4] at hl
      try simp only [← gx_rfv hg (sh_3 hS).2.1, ← gx_rfv hg hv_x1, ← gx_rfv hg hv_x4]
      refine W_cast (wcO (c := 5) (w := 7) hX).symm (wsO (c := 5) (w := 7) hX).symm ?_
      exact kl_Mk_build_97 (N := N) C hr hlk hE   ((cl_nO hC (by decide) (by decide) _)) (hG.tr hg hX.1) (hX.tr (ext_nO π 5 7)) (lt_ext hv_x1 (ext_nO π 5 7)) (lt_ext hv_x4 (ext_nO π 5 7)) lt_nO (lv_sub hl [0, 1, 2, 3] rfl) h hm
    · have hm := ite_t c28 hm
      refine z_aload C dX3_build_72 (lv_at hl 3 rfl) ?_
      refine lv_iload C.1 C.2.1 dX3_build_74 (lv_at hl 4 rfl) ?_
      refine z_aload_n C dX3_build_76 rfl (lv_at hl 0 rfl) ?_
      refine z_aload_n C dX3_build_77 rfl (lv_at hl 1 rfl) ?_
      refine cg_10_10 C h g25 cU_X9 (List.mem_cons_of_mem _ wl_X3_100) dX3_build_78 ?_
      refine lv_iload C.1 C.2.1 dX3_build_81 (lv_at hl 4 rfl) ?_
      obtain ⟨g30, hm⟩ := grd_s hm
      obtain ⟨g31, hm⟩ := grd_s hm
      refine c_iald C h g30 g31 dX3_build_83 ?_
      obtain ⟨r32, e33, hm⟩ := obd_s hm
      have q34 := (km_Mk_operand hC e33)
      refine c_callVqP C hE h (sh_3 hS) rfl (by decide) (kc_Mk_operand l D k z mi aK aV g N hS e33) (cwV 1 C.2.2.1 (gS_X3_74 _) rfl rfl rfl hd_X3_operand ⟨Nat.le_of_ble_eq_true rfl, Nat.le_of_ble_eq_true rfl⟩) rfl hl.1 rfl (by simp [rfv_cat, cat_i, cat_l]) dX3_build_84 ⟨(czz hX hq.1), (szz hX hq.1)⟩ (fun H locs h => ?_)
      have hC35 : Cl π r32.1 := q34.1
      obtain ⟨g36, hm⟩ := grd_s hm
      obtain ⟨g37, hm⟩ := grd_s hm
      obtain ⟨g38, hm⟩ := grd_s hm
      refine c_qast C h (t := 6) (c0 := 5) (by decide) rfl (by decide) rfl g36 g37 g38 dX3_build_87 (fun H locs h => ?_)
      refine lv_iinc (v := Int32.ofInt (x5 + 1)) (lv' := [(5, .int (Int32.ofInt (x5 + 1))), (0, rfv g 3), (1, rfv g x1), (2, .int (Int32.ofInt x2)), (4, rfv g x4)]) C.1 C.2.1 dX3_build_88 hl (k := 4) rfl (c32_add _ _) (by decide) (by simp [rfv_cat, cat_i, cat_l]) (fun ls hl => ?_)
      refine lv_goto (tgt := 63) C.1 C.2.1 dX3_build_91 (by decide) ?_
      exact hrec63 (cl_seR hC35 _ _ q34.2) hG hX hv_x1 hv_x4 (lv_sub hl [1, 2, 3, 4, 0] rfl) h hm
set_option maxHeartbeats 8000000 in
set_option maxRecDepth 100000 in
theorem kl_Mk_build_58 {r : Sh × St × Int} (C : Cx p s m args c cX3_build RX3 (cd :: cWd) D (TYs k) 6) (hr : meth.sig.returnType = (some (.object "CycleStudio$Pattern"))) (hlk : meth.locks = false) (hE : Ev z mi aK aV A s s.heap)    {ls : Array Slot} {H : Heap} {locs : List Loc} {g : Nat → Nat} {π : Sh} {σ : St} {x1 : Int} {x2 : Int} {s0 : Int} (hC : Cl π σ) (hG : gx (nn π0) g0 g) (hX : ext π0 π) (hv_x1 : x1 < nn π) (hv_s0 : s0 < nn π) (hl : lv_has ls 6 [(0, rfv g 3), (1, rfv g x1), (2, .int (Int32.ofInt x2))]) (h : Hp D A s.heap H locs (cW k z g π σ)) (hm : Mk_build_58 N π σ x1 x2 s0 = some r) : W p l e { frames := 4, cells := nn r.1 - nn π0, slots := sw r.1 - sw π0, locals := 106 } s m args below meth c H locs (nn π - nn π0) (sw π - sw π0) (MQ below (va_Qq (fun v u => gx (nn π0) g0 u ∧ v = rfo u r.2.2) (fun u t => PostW D (TYs k) A (cW k z u r.1 r.2.1) t) A) args s (nn r.1 - nn π0) (sw r.1 - sw π0) A) (F0 m 58 ls [rfv g s0]) := by
  have hS := hC.1
  have hq := km_Mk_build_58    hC hv_x1 hv_s0 hm
  rw [Mk_build_58] at hm
  refine z_astore (lv' := [(4, rfv g s0), (0, rfv g 3), (1, rfv g x1), (2, .int (Int32.ofInt x2))]) C dX3_build_58 hl (by decide) rfl (fun ls hl => ?_)
  refine lv_iconst (v := Int32.ofInt 0) C.1 C.2.1 dX3_build_60 (by decide) ?_
  refine lv_istore (lv' := [(5, .int (Int32.ofInt 0)), (4, rfv g s0), (0, rfv g 3), (1, rfv g x1), (2, .int (Int32.ofInt x2))]) C.1 C.2.1 dX3_build_61 hl (by decide) (by simp [rfv_cat, cat_i, cat_l]) (fun ls hl => ?_)
  exact kl_Mk_build_63 (N := N) C hr hlk hE N hC hG hX hv_x1 hv_s0 (lv_sub hl [2, 3, 4, 1, 0] rfl) h hm
set_option maxHeartbeats 8000000 in
set_option maxRecDepth 100000 in
theorem kc_Mk_build (l : Launch) (D : va_G) (k : Nat → ClassId) (z mi : Nat) (aK aV : Nat → Nat) (g : Nat → Nat) (N : Nat)    {π : Sh} {σ : St} {x1 : Int} {x2 : Int} {r : Sh × St × Int} (hC : Cl π σ) (hv_x1 : x1 < nn π) (hm : Mk_build N π σ x1 x2 = some r) : Mq l yX3_build (.code yX3_build cX3_build 6 (some (.object "CycleStudio$Pattern")) :: cWd) { frames := 4, cells := nn r.1 - nn π, slots := sw r.1 - sw π, locals := 106 } [rfv g 3, rfv g x1, .int (Int32.ofInt x2)] D (TYs k) (cW k z g π σ) (XV z mi aK aV (cW k z g π σ)) (Nat → Nat) (fun v u => gx (nn π) g u ∧ v = rfo u r.2.2) (fun u => cW k z u r.1 r.2.1) (nn r.1 - nn π) (sw r.1 - sw π) := by
  have hS := hC.1
  have hq := km_Mk_build  hC hv_x1 hm
  intro sz
  refine v_met (cc := cX3_build) (maxL := 6) (ret := (some (.object "CycleStudio$Pattern"))) (lv := [(0, rfv g 3), (1, rfv g x1), (2, .int (Int32.ofInt x2))]) (by decide) rfl (by simp [lg_sl, rfv_cat, cat_i, cat_l]) (by simp [lv_args, rfv_cat, cat_i, cat_l]) ?_
  intro p e s m below meth c ls C hE hr hlk hmn hl h
  generalize ([rfv g 3, rfv g x1, .int (Int32.ofInt x2)] : List Value).toArray = args at C ⊢
  have hG := gx.rf (nn π) g
  have hX := ext.rf π
  refine W_cast (Nat.sub_self (nn π)) (Nat.sub_self (sw π)) ?_
  rw [Mk_build] at hm
  refine z_aload_n C dX3_build_0 rfl (lv_at hl 0 rfl) ?_
  refine cg_4_7 C h (sh_3 hS) cU_X3 (List.mem_cons_of_mem _ wl_X3_38) dX3_build_1 ?_
  refine z_aload_n C dX3_build_4 rfl (lv_at hl 1 rfl) ?_
  obtain ⟨r1, e2, hm⟩ := obd_s hm
  have q3 := (km_Sp_besides hC hv_x1 e2)
  obtain ⟨g4, hm⟩ := grd_s hm
  refine c_callViP C hE h g4 rfl (by decide) (kc_Sp_besides l D k z mi aK aV g N hS e2) (cwV 0 C.2.2.1 (gS_X3_107 _) rfl rfl rfl hd_X9_besides ⟨Nat.le_of_ble_eq_true rfl, Nat.le_of_ble_eq_true rfl⟩) rfl hl.1 rfl (Nat.le_of_ble_eq_true rfl) dX3_build_5 ⟨(czz hX hq.1), (szz hX hq.1)⟩ (fun H locs h => ?_)
  have hC5 : Cl π r1.1 := q3
  refine z_iadd C dX3_build_8 ?_
  obtain ⟨v6, e7, hm⟩ := bnd_s hm
  rw [e7]
  refine lv_istore_n (lv' := [(3, .int (Int32.ofInt v6)), (0, rfv g 3), (1, rfv g x1), (2, .int (Int32.ofInt x2))]) C.1 C.2.1 dX3_build_9 rfl hl (by decide) rfl (fun ls hl => ?_)
  refine lv_iload_n C.1 C.2.1 dX3_build_10 rfl (lv_at hl 0 rfl) ?_
  refine lv_sipush (v := Int32.ofInt 200) C.1 C.2.1 dX3_build_11 (by decide) ?_
  obtain ⟨g8, hm⟩ := grd_s hm
  refine z_icmp_lt (tgt := 32) C dX3_build_14 (by decide) g8 (by decide) (fun c9 => ?_) (fun c9 => ?_)
  · have hm := ite_t c9 hm
    refine z_aload_n C dX3_build_32 rfl (lv_at hl 1 rfl) ?_
    refine lv_iload_n C.1 C.2.1 dX3_build_33 rfl (lv_at hl 0 rfl) ?_
    refine cp_4_7 C h (sh_3 hS) cU_X3 (List.mem_cons_of_mem _ wl_X3_38) dX3_build_34 (fun H locs h => ?_)
    refine z_aload_n C dX3_build_37 rfl (lv_at hl 2 rfl) ?_
    refine cg_10_9 C h g4 cU_X9 (List.mem_cons_of_mem _ wl_X3_97) dX3_build_38 ?_
    refine x_topi (y := Int32.ofInt (fl r1.1 209 x1)) rfl ?_
    obtain ⟨g10, hm⟩ := grd_s hm
    refine z_if_ne (tgt := 51) C dX3_build_41 (by decide) g10 (fun c11 => ?_) (fun c11 => ?_)
    · have hm := ite_f c11 hm
      refine z_aload_n C dX3_build_51 rfl (lv_at hl 2 rfl) ?_
      refine cg_10_9 C h g4 cU_X9 (List.mem_cons_of_mem _ wl_X3_97) dX3_build_52 ?_
      refine x_topi (y := Int32.ofInt (fl r1.1 209 x1)) rfl ?_
      obtain ⟨σ12, e13, hm⟩ := bnd_s hm
      rw [e13] at h
      have hC14 : Cl π σ12 := e13 ▸ (cl_sfI hC5 (f := 87) rfl _ _)
      obtain ⟨g16, hm⟩ := grd_s hm
      obtain ⟨g17, hm⟩ := grd_s hm
      have q := km_Mk_build_58   ((cl_nR hC14 _ _)) (lt_ext hv_x1 (ext_nA π 6 (fl r1.1 209 x1))) lt_nA hm
      refine c_newq C h hC14 (t := 6) (by decide) rfl hE.1.2.2.2.2.2.1 (List.mem_cons_of_mem _ wn_X3_7) dX3_build_55 g16 g17 (rc1A hX q.1) (rs1A hX q.1) (fun u H hg h => ?_)
      simp only [← gx_rfv hg (sh_3 hS).2.1, ← gx_rfv hg hv_x1] at hl
      try simp only [← gx_rfv hg (sh_3 hS).2.1, ← gx_rfv hg hv_x1]
      refine W_cast (wcA (t := 6) (n := (fl r1.1 209 x1)) hX).symm (wsA (t := 6) (n := (fl r1.1 209 x1)) hX).symm ?_
      exact kl_Mk_build_58 (N := N) C hr hlk hE   ((cl_nR hC14 _ _)) (hG.tr hg hX.1) (hX.tr (ext_nA π 6 (fl r1.1 209 x1))) (lt_ext hv_x1 (ext_nA π 6 (fl r1.1 209 x1))) lt_nA (lv_sub hl [1, 2, 3] rfl) h hm
    · have hm := ite_t c11 hm
      refine z_aload_n C dX3_build_44 rfl (lv_at hl 1 rfl) ?_
      refine cg_4_0 C h (sh_3 hS) cU_X3 (List.mem_cons_of_mem _ wl_X3_9) dX3_build_45 ?_
      refine lv_goto (tgt := 58) C.1 C.2.1 dX3_build_48 (by decide) ?_
      exact kl_Mk_build_58 (N := N) C hr hlk hE (cl_sfI hC5 (f := 87) rfl _ _) hG hX hv_x1 (sh_4 hS).2.1 (lv_sub hl [1, 2, 3] rfl) h hm
  · have hm := ite_f c9 hm
    refine z_aload_n C dX3_build_17 rfl (lv_at hl 1 rfl) ?_
    refine lv_sipush (v := Int32.ofInt 200) C.1 C.2.1 dX3_build_18 (by decide) ?_
    refine cp_4_7 C h (sh_3 hS) cU_X3 (List.mem_cons_of_mem _ wl_X3_38) dX3_build_21 (fun H locs h => ?_)
    refine z_aload_n C dX3_build_24 rfl (lv_at hl 1 rfl) ?_
    refine lv_iconst (v := Int32.ofInt 5) C.1 C.2.1 dX3_build_25 (by decide) ?_
    refine lv_iload_n C.1 C.2.1 dX3_build_26 rfl (lv_at hl 3 rfl) ?_
    obtain ⟨σ18, e19, hm⟩ := bnd_s hm
    rw [e19] at h
    have hC20 : Cl π σ18 := e19 ▸ (cl_sfI hC5 (f := 87) rfl _ _)
    obtain ⟨r21, e22, hm⟩ := obd_s hm
    have q23 := (km_Mk_fail hC20 e22)
    refine c_callVvP C hE h (sh_3 hS) rfl (by decide) (kc_Mk_fail l D k z mi aK aV g N hS e22) (cwV 2 C.2.2.1 (gS_X3_93 _) rfl rfl rfl hd_X3_fail ⟨Nat.le_of_ble_eq_true rfl, Nat.le_of_ble_eq_true rfl⟩) rfl hl.1 rfl (Nat.le_of_ble_eq_true rfl) dX3_build_27 ⟨(czz hX hq.1), (szz hX hq.1)⟩ (fun H locs h => ?_)
    have hC24 : Cl π r21 := q23
    refine z_null (g := g) C dX3_build_30 ?_
    cases hm
    exact c_aretA C hG h hr hlk (Or.inl ⟨_, rfl⟩) dX3_build_31
end Z_Mk_build
section Z_Mk_carryOut
variable {p : Program} {l : Launch} {e : Env} {s : State} {m : MethodId} {args : Array Value} {below : List Frame} {meth : Method} {c : Code} {D : va_G} {A : Nat → Prop} {k : Nat → ClassId} {N : Nat} {cd : Cond} {z mi : Nat} {aK aV : Nat → Nat} {g0 : Nat → Nat} {π0 : Sh}
set_option maxHeartbeats 8000000 in
set_option maxRecDepth 100000 in
theorem kl_Mk_carryOut_56 {r : Sh × St} (C : Cx p s m args c cX3_carryOut RX3 (cd :: cWd) D (TYs k) 4) (hr : meth.sig.returnType = none) (hlk : meth.locks = false) (hE : Ev z mi aK aV A s s.heap)    {ls : Array Slot} {H : Heap} {locs : List Loc} {g : Nat → Nat} {π : Sh} {σ : St} {s0 : Int} {s1 : Int} (hC : Cl π σ) (hG : gx (nn π0) g0 g) (hX : ext π0 π) (hv_s0 : s0 < nn π) (hl : lv_has ls 4 []) (h : Hp D A s.heap H locs (cW k z g π σ)) (hm : Mk_carryOut_56 N π σ s0 s1 = some r) : W p l e { frames := 5, cells := nn r.1 - nn π0, slots := sw r.1 - sw π0, locals := 131 } s m args below meth c H locs (nn π - nn π0) (sw π - sw π0) (MQ below (va_Qv (fun u => gx (nn π0) g0 u) (fun u t => PostW D (TYs k) A (cW k z u r.1 r.2) t) A) args s (nn r.1 - nn π0) (sw r.1 - sw π0) A) (F0 m 56 ls [rfv g s0, .int (Int32.ofInt s1), rfv g 5]) := by
  have hS := hC.1
  have hq := km_Mk_carryOut_56    hC hv_s0 hm
  rw [Mk_carryOut_56] at hm
  obtain ⟨g16, hm⟩ := grd_s hm
  obtain ⟨g17, hm⟩ := grd_s hm
  refine c_qast C h (t := 6) (c0 := 5) (by decide) rfl (by decide) rfl (sh_5 hS) (ina_inb (n := 512) (sl_5 hS) (Nat.le_of_ble_eq_true rfl) g16) g17 dX3_carryOut_56 (fun H locs h => ?_)
  cases hm
  exact c_vretA C hG h hr hlk dX3_carryOut_57
set_option maxHeartbeats 8000000 in
set_option maxRecDepth 100000 in
theorem kl_Mk_carryOut_18 {r : Sh × St} (C : Cx p s m args c cX3_carryOut RX3 (cd :: cWd) D (TYs k) 4) (hr : meth.sig.returnType = none) (hlk : meth.locks = false) (hE : Ev z mi aK aV A s s.heap)    {ls : Array Slot} {H : Heap} {locs : List Loc} {g : Nat → Nat} {π : Sh} {σ : St} {x1 : Int} {x2 : Int} {s0 : Int} (hC : Cl π σ) (hG : gx (nn π0) g0 g) (hX : ext π0 π) (hv_x1 : x1 < nn π) (hl : lv_has ls 4 [(0, rfv g 3), (1, rfv g x1), (2, .int (Int32.ofInt x2))]) (h : Hp D A s.heap H locs (cW k z g π σ)) (hm : Mk_carryOut_18 N π σ x1 x2 s0 = some r) : W p l e { frames := 5, cells := nn r.1 - nn π0, slots := sw r.1 - sw π0, locals := 131 } s m args below meth c H locs (nn π - nn π0) (sw π - sw π0) (MQ below (va_Qv (fun u => gx (nn π0) g0 u) (fun u t => PostW D (TYs k) A (cW k z u r.1 r.2) t) A) args s (nn r.1 - nn π0) (sw r.1 - sw π0) A) (F0 m 18 ls [.int (Int32.ofInt s0)]) := by
  have hS := hC.1
  have hq := km_Mk_carryOut_18    hC hv_x1 hm
  rw [Mk_carryOut_18] at hm
  refine lv_istore_n (lv' := [(3, .int (Int32.ofInt s0)), (0, rfv g 3), (1, rfv g x1), (2, .int (Int32.ofInt x2))]) C.1 C.2.1 dX3_carryOut_18 rfl hl (by decide) rfl (fun ls hl => ?_)
  refine z_aload_n C dX3_carryOut_19 rfl (lv_at hl 2 rfl) ?_
  obtain ⟨g4, hm⟩ := grd_s hm
  refine cg_10_0 C h g4 cU_X9 (List.mem_cons_of_mem _ wl_X3_79) dX3_carryOut_20 ?_
  refine lv_bipush (v := Int32.ofInt 25) C.1 C.2.1 dX3_carryOut_23 (by decide) ?_
  obtain ⟨g5, hm⟩ := grd_s hm
  refine z_icmp_ne (tgt := 38) C dX3_carryOut_25 (by decide) g5 (by decide) (fun c6 => ?_) (fun c6 => ?_)
  · have hm := ite_f c6 hm
    refine lv_iload_n C.1 C.2.1 dX3_carryOut_38 rfl (lv_at hl 3 rfl) ?_
    refine lv_sipush (v := Int32.ofInt 512) C.1 C.2.1 dX3_carryOut_39 (by decide) ?_
    obtain ⟨g7, hm⟩ := grd_s hm
    refine z_icmp_ge (tgt := 57) C dX3_carryOut_42 (by decide) g7 (by decide) (fun c8 => ?_) (fun c8 => ?_)
    · have hm := ite_f c8 hm
      cases hm
      exact c_vretA C hG h hr hlk dX3_carryOut_57
    · have hm := ite_t c8 hm
      refine z_aload_n C dX3_carryOut_45 rfl (lv_at hl 1 rfl) ?_
      refine cg_4_1 C h (sh_3 hS) cU_X3 (List.mem_cons_of_mem _ wl_X3_15) dX3_carryOut_46 ?_
      refine lv_iload_n C.1 C.2.1 dX3_carryOut_49 rfl (lv_at hl 3 rfl) ?_
      refine z_aload_n C dX3_carryOut_50 rfl (lv_at hl 1 rfl) ?_
      refine z_aload_n C dX3_carryOut_51 rfl (lv_at hl 2 rfl) ?_
      refine lv_iload_n C.1 C.2.1 dX3_carryOut_52 rfl (lv_at hl 0 rfl) ?_
      obtain ⟨r9, e10, hm⟩ := obd_s hm
      have q11 := (km_Mk_build hC hv_x1 e10)
      have q := km_Mk_carryOut_56   q11.2.1 q11.2.2 hm
      refine c_callVqA C hE h (sh_3 hS) rfl (by decide) (kc_Mk_build l D k z mi aK aV g N hC hv_x1 e10) (cwV 2 C.2.2.1 (gS_X3_86 _) rfl rfl rfl hd_X3_build ⟨Nat.le_of_ble_eq_true rfl, Nat.le_of_ble_eq_true rfl⟩) rfl hl.1 rfl (by simp [rfv_cat, cat_i, cat_l]) dX3_carryOut_53 ⟨rcC hX q11.1 q.1, rsC hX q11.1 q.1⟩ (fun u H locs hg h => ?_)
      simp only [← gx_rfv hg (sh_3 hS).2.1, ← gx_rfv hg hv_x1, ← gx_rfv hg (sh_5 hS).2.1] at hl
      try simp only [← gx_rfv hg (sh_3 hS).2.1, ← gx_rfv hg hv_x1, ← gx_rfv hg (sh_5 hS).2.1]
      refine W_cast (wcC hX q11.1).symm (wsC hX q11.1).symm ?_
      exact kl_Mk_carryOut_56 (N := N) C hr hlk hE   q11.2.1 (hG.tr hg hX.1) (hX.tr q11.1) q11.2.2 (lv_sub hl [] rfl) h hm
  · have hm := ite_t c6 hm
    refine z_aload_n C dX3_carryOut_28 rfl (lv_at hl 1 rfl) ?_
    refine z_aload_n C dX3_carryOut_29 rfl (lv_at hl 2 rfl) ?_
    refine lv_iload_n C.1 C.2.1 dX3_carryOut_30 rfl (lv_at hl 3 rfl) ?_
    refine lv_iload_n C.1 C.2.1 dX3_carryOut_31 rfl (lv_at hl 0 rfl) ?_
    obtain ⟨r12, e13, hm⟩ := obd_s hm
    have q14 := (km_Mk_begin hC hv_x1 e13)
    refine c_callVvP C hE h (sh_3 hS) rfl (by decide) (kc_Mk_begin l D k z mi aK aV g N hS e13) (cwV 3 C.2.2.1 (gS_X3_82 _) rfl rfl rfl hd_X3_begin ⟨Nat.le_of_ble_eq_true rfl, Nat.le_of_ble_eq_true rfl⟩) rfl hl.1 rfl (Nat.le_of_ble_eq_true rfl) dX3_carryOut_32 ⟨(czz hX hq.1), (szz hX hq.1)⟩ (fun H locs h => ?_)
    have hC15 : Cl π r12 := q14
    refine lv_goto (tgt := 57) C.1 C.2.1 dX3_carryOut_35 (by decide) ?_
    cases hm
    exact c_vretA C hG h hr hlk dX3_carryOut_57
set_option maxHeartbeats 8000000 in
set_option maxRecDepth 100000 in
theorem kc_Mk_carryOut (l : Launch) (D : va_G) (k : Nat → ClassId) (z mi : Nat) (aK aV : Nat → Nat) (g : Nat → Nat) (N : Nat)    {π : Sh} {σ : St} {x1 : Int} {x2 : Int} {r : Sh × St} (hC : Cl π σ) (hv_x1 : x1 < nn π) (hm : Mk_carryOut N π σ x1 x2 = some r) : Mv l yX3_carryOut (.code yX3_carryOut cX3_carryOut 4 none :: cWd) { frames := 5, cells := nn r.1 - nn π, slots := sw r.1 - sw π, locals := 131 } [rfv g 3, rfv g x1, .int (Int32.ofInt x2)] D (TYs k) (cW k z g π σ) (XV z mi aK aV (cW k z g π σ)) (Nat → Nat) (fun u => gx (nn π) g u) (fun u => cW k z u r.1 r.2) (nn r.1 - nn π) (sw r.1 - sw π) := by
  have hS := hC.1
  have hq := km_Mk_carryOut  hC hv_x1 hm
  intro sz
  refine v_met (cc := cX3_carryOut) (maxL := 4) (ret := none) (lv := [(0, rfv g 3), (1, rfv g x1), (2, .int (Int32.ofInt x2))]) (by decide) rfl (by simp [lg_sl, rfv_cat, cat_i, cat_l]) (by simp [lv_args, rfv_cat, cat_i, cat_l]) ?_
  intro p e s m below meth c ls C hE hr hlk hmn hl h
  generalize ([rfv g 3, rfv g x1, .int (Int32.ofInt x2)] : List Value).toArray = args at C ⊢
  have hG := gx.rf (nn π) g
  have hX := ext.rf π
  refine W_cast (Nat.sub_self (nn π)) (Nat.sub_self (sw π)) ?_
  rw [Mk_carryOut] at hm
  refine z_aload_n C dX3_carryOut_0 rfl (lv_at hl 0 rfl) ?_
  refine cg_4_5 C h (sh_3 hS) cU_X3 (List.mem_cons_of_mem _ wl_X3_31) dX3_carryOut_1 ?_
  obtain ⟨g1, hm⟩ := grd_s hm
  refine z_if_ne (tgt := 14) C dX3_carryOut_4 (by decide) g1 (fun c2 => ?_) (fun c2 => ?_)
  · have hm := ite_f c2 hm
    refine z_aload_n C dX3_carryOut_14 rfl (lv_at hl 0 rfl) ?_
    refine cg_4_6 C h (sh_3 hS) cU_X3 (List.mem_cons_of_mem _ wl_X3_35) dX3_carryOut_15 ?_
    exact kl_Mk_carryOut_18 (N := N) C hr hlk hE hC hG hX hv_x1 (lv_sub hl [0, 1, 2] rfl) h hm
  · have hm := ite_t c2 hm
    refine z_aload_n C dX3_carryOut_7 rfl (lv_at hl 1 rfl) ?_
    obtain ⟨g3, hm⟩ := grd_s hm
    refine cg_10_1 C h g3 cU_X9 (List.mem_cons_of_mem _ wl_X3_78) dX3_carryOut_8 ?_
    refine lv_goto (tgt := 18) C.1 C.2.1 dX3_carryOut_11 (by decide) ?_
    exact kl_Mk_carryOut_18 (N := N) C hr hlk hE hC hG hX hv_x1 (lv_sub hl [0, 1, 2] rfl) h hm
end Z_Mk_carryOut
section Z_Mk_make
variable {p : Program} {l : Launch} {e : Env} {s : State} {m : MethodId} {args : Array Value} {below : List Frame} {meth : Method} {c : Code} {D : va_G} {A : Nat → Prop} {k : Nat → ClassId} {N : Nat} {cd : Cond} {z mi : Nat} {aK aV : Nat → Nat} {g0 : Nat → Nat} {π0 : Sh}
set_option maxHeartbeats 8000000 in
set_option maxRecDepth 100000 in
theorem kl_Mk_make_169 {r : Sh × St × Int} (C : Cx p s m args c cX3_make RX3 (cd :: cWd) D (TYs k) 6) (hr : meth.sig.returnType = (some (.object "CycleStudio$Pattern"))) (hlk : meth.locks = false) (hE : Ev z mi aK aV A s s.heap)   {rec28 : Sh → St → Int → Option (Sh × St × Int)} (krec28 : ∀ {π : Sh} {σ : St} {x2 : Int}, Cl π σ → rec28 π σ x2 = some r → ext π r.1 ∧ Cl r.1 r.2.1 ∧ r.2.2 < nn r.1) (hrec28 : ∀ {ls : Array Slot} {H : Heap} {locs : List Loc} {g : Nat → Nat} {π : Sh} {σ : St} {x2 : Int}, Cl π σ → gx (nn π0) g0 g → ext π0 π → lv_has ls 6 [(0, rfv g 3), (2, .int (Int32.ofInt x2))] → Hp D A s.heap H locs (cW k z g π σ) → rec28 π σ x2 = some r → W p l e { frames := 6, cells := nn r.1 - nn π0, slots := sw r.1 - sw π0, locals := 154 } s m args below meth c H locs (nn π - nn π0) (sw π - sw π0) (MQ below (va_Qq (fun v u => gx (nn π0) g0 u ∧ v = rfo u r.2.2) (fun u t => PostW D (TYs k) A (cW k z u r.1 r.2.1) t) A) args s (nn r.1 - nn π0) (sw r.1 - sw π0) A) (F0 m 28 ls [])) {ls : Array Slot} {H : Heap} {locs : List Loc} {g : Nat → Nat} {π : Sh} {σ : St} {x2 : Int} (hC : Cl π σ) (hG : gx (nn π0) g0 g) (hX : ext π0 π)  (hl : lv_has ls 6 [(0, rfv g 3), (2, .int (Int32.ofInt x2))]) (h : Hp D A s.heap H locs (cW k z g π σ)) (hm : Mk_make_169 N rec28 π σ x2 = some r) : W p l e { frames := 6, cells := nn r.1 - nn π0, slots := sw r.1 - sw π0, locals := 154 } s m args below meth c H locs (nn π - nn π0) (sw π - sw π0) (MQ below (va_Qq (fun v u => gx (nn π0) g0 u ∧ v = rfo u r.2.2) (fun u t => PostW D (TYs k) A (cW k z u r.1 r.2.1) t) A) args s (nn r.1 - nn π0) (sw r.1 - sw π0) A) (F0 m 169 ls []) := by
  have hS := hC.1
  have hq := km_Mk_make_169  krec28  hC  hm
  rw [Mk_make_169] at hm
  refine lv_iinc (v := Int32.ofInt (x2 + 1)) (lv' := [(2, .int (Int32.ofInt (x2 + 1))), (0, rfv g 3)]) C.1 C.2.1 dX3_make_169 hl (k := 1) rfl (c32_add _ _) (by decide) rfl (fun ls hl => ?_)
  refine lv_goto (tgt := 28) C.1 C.2.1 dX3_make_172 (by decide) ?_
  exact hrec28 hC hG hX (lv_sub hl [1, 0] rfl) h hm
set_option maxHeartbeats 8000000 in
set_option maxRecDepth 100000 in
theorem kl_Mk_make_120 {r : Sh × St × Int} (C : Cx p s m args c cX3_make RX3 (cd :: cWd) D (TYs k) 6) (hr : meth.sig.returnType = (some (.object "CycleStudio$Pattern"))) (hlk : meth.locks = false) (hE : Ev z mi aK aV A s s.heap)   {rec28 : Sh → St → Int → Option (Sh × St × Int)} (krec28 : ∀ {π : Sh} {σ : St} {x2 : Int}, Cl π σ → rec28 π σ x2 = some r → ext π r.1 ∧ Cl r.1 r.2.1 ∧ r.2.2 < nn r.1) (hrec28 : ∀ {ls : Array Slot} {H : Heap} {locs : List Loc} {g : Nat → Nat} {π : Sh} {σ : St} {x2 : Int}, Cl π σ → gx (nn π0) g0 g → ext π0 π → lv_has ls 6 [(0, rfv g 3), (2, .int (Int32.ofInt x2))] → Hp D A s.heap H locs (cW k z g π σ) → rec28 π σ x2 = some r → W p l e { frames := 6, cells := nn r.1 - nn π0, slots := sw r.1 - sw π0, locals := 154 } s m args below meth c H locs (nn π - nn π0) (sw π - sw π0) (MQ below (va_Qq (fun v u => gx (nn π0) g0 u ∧ v = rfo u r.2.2) (fun u t => PostW D (TYs k) A (cW k z u r.1 r.2.1) t) A) args s (nn r.1 - nn π0) (sw r.1 - sw π0) A) (F0 m 28 ls [])) {ls : Array Slot} {H : Heap} {locs : List Loc} {g : Nat → Nat} {π : Sh} {σ : St} {x2 : Int} (hC : Cl π σ) (hG : gx (nn π0) g0 g) (hX : ext π0 π)  (hl : lv_has ls 6 [(0, rfv g 3), (2, .int (Int32.ofInt x2))]) (h : Hp D A s.heap H locs (cW k z g π σ)) (hm : Mk_make_120 N rec28 π σ x2 = some r) : W p l e { frames := 6, cells := nn r.1 - nn π0, slots := sw r.1 - sw π0, locals := 154 } s m args below meth c H locs (nn π - nn π0) (sw π - sw π0) (MQ below (va_Qq (fun v u => gx (nn π0) g0 u ∧ v = rfo u r.2.2) (fun u t => PostW D (TYs k) A (cW k z u r.1 r.2.1) t) A) args s (nn r.1 - nn π0) (sw r.1 - sw π0) A) (F0 m 120 ls []) := by
  have hS := hC.1
  have hq := km_Mk_make_120  krec28  hC  hm
  rw [Mk_make_120] at hm
  refine lv_goto (tgt := 169) C.1 C.2.1 dX3_make_120 (by decide) ?_
  exact kl_Mk_make_169 (N := N) C hr hlk hE krec28 hrec28 hC hG hX (lv_sub hl [0, 1] rfl) h hm
set_option maxHeartbeats 8000000 in
set_option maxRecDepth 100000 in
theorem kl_Mk_make_175 {r : Sh × St × Int} (C : Cx p s m args c cX3_make RX3 (cd :: cWd) D (TYs k) 6) (hr : meth.sig.returnType = (some (.object "CycleStudio$Pattern"))) (hlk : meth.locks = false) (hE : Ev z mi aK aV A s s.heap)    {ls : Array Slot} {H : Heap} {locs : List Loc} {g : Nat → Nat} {π : Sh} {σ : St}  (hC : Cl π σ) (hG : gx (nn π0) g0 g) (hX : ext π0 π)  (hl : lv_has ls 6 []) (h : Hp D A s.heap H locs (cW k z g π σ)) (hm : Mk_make_175 N π σ  = some r) : W p l e { frames := 6, cells := nn r.1 - nn π0, slots := sw r.1 - sw π0, locals := 154 } s m args below meth c H locs (nn π - nn π0) (sw π - sw π0) (MQ below (va_Qq (fun v u => gx (nn π0) g0 u ∧ v = rfo u r.2.2) (fun u t => PostW D (TYs k) A (cW k z u r.1 r.2.1) t) A) args s (nn r.1 - nn π0) (sw r.1 - sw π0) A) (F0 m 175 ls []) := by
  have hS := hC.1
  have hq := km_Mk_make_175    hC  hm
  rw [Mk_make_175] at hm
  refine z_null (g := g) C dX3_make_175 ?_
  cases hm
  exact c_aretA C hG h hr hlk (Or.inl ⟨_, rfl⟩) dX3_make_176
set_option maxHeartbeats 8000000 in
set_option maxRecDepth 100000 in
theorem kl_Mk_make_28 {r : Sh × St × Int} (C : Cx p s m args c cX3_make RX3 (cd :: cWd) D (TYs k) 6) (hr : meth.sig.returnType = (some (.object "CycleStudio$Pattern"))) (hlk : meth.locks = false) (hE : Ev z mi aK aV A s s.heap)    (n : Nat) : ∀ {ls : Array Slot} {H : Heap} {locs : List Loc} {g : Nat → Nat} {π : Sh} {σ : St} {x2 : Int}, Cl π σ → gx (nn π0) g0 g → ext π0 π → lv_has ls 6 [(0, rfv g 3), (2, .int (Int32.ofInt x2))] → Hp D A s.heap H locs (cW k z g π σ) → Mk_make_28 N n π σ x2 = some r → W p l e { frames := 6, cells := nn r.1 - nn π0, slots := sw r.1 - sw π0, locals := 154 } s m args below meth c H locs (nn π - nn π0) (sw π - sw π0) (MQ below (va_Qq (fun v u => gx (nn π0) g0 u ∧ v = rfo u r.2.2) (fun u t => PostW D (TYs k) A (cW k z u r.1 r.2.1) t) A) args s (nn r.1 - nn π0) (sw r.1 - sw π0) A) (F0 m 28 ls []) := by
  induction n with
  | zero => intro ls H locs g π σ x2 hC hG hX  hl h hm; cases (show none = some r from hm)
  | succ n hrec28 =>
    intro ls H locs g π σ x2 hC hG hX  hl h hm
    have hS := hC.1
    have hq := km_Mk_make_28   (n + 1) hC  hm
    have krec28 : ∀ {π : Sh} {σ : St} {x2 : Int}, Cl π σ → Mk_make_28 N n π σ x2 = some r → ext π r.1 ∧ Cl r.1 r.2.1 ∧ r.2.2 < nn r.1 := fun {_ _} {_} => km_Mk_make_28   n
    rw [Mk_make_28] at hm
    refine lv_iload_n C.1 C.2.1 dX3_make_28 rfl (lv_at hl 1 rfl) ?_
    refine lv_ldc (v := 1000000) C.1 C.2.1 C.2.2.2.1 (C.2.2.1 _ (List.mem_cons_of_mem _ wk_X3_47)) dX3_make_29 ?_
    refine x_topi (y := Int32.ofInt 1000000) (by decide) ?_
    obtain ⟨g3, hm⟩ := grd_s hm
    refine z_icmp_ge (tgt := 175) C dX3_make_31 (by decide) g3 (by decide) (fun c4 => ?_) (fun c4 => ?_)
    · have hm := ite_f c4 hm
      exact kl_Mk_make_175 (N := N) C hr hlk hE hC hG hX (lv_sub hl [] rfl) h hm
    · have hm := ite_t c4 hm
      refine z_aload_n C dX3_make_34 rfl (lv_at hl 0 rfl) ?_
      refine cg_4_8 C h (sh_3 hS) cU_X3 (List.mem_cons_of_mem _ wl_X3_41) dX3_make_35 ?_
      obtain ⟨g5, hm⟩ := grd_s hm
      refine z_if_ne (tgt := 175) C dX3_make_38 (by decide) g5 (fun c6 => ?_) (fun c6 => ?_)
      · have hm := ite_f c6 hm
        exact kl_Mk_make_175 (N := N) C hr hlk hE hC hG hX (lv_sub hl [] rfl) h hm
      · have hm := ite_t c6 hm
        refine z_aload_n C dX3_make_41 rfl (lv_at hl 0 rfl) ?_
        refine cg_4_2 C h (sh_3 hS) cU_X3 (List.mem_cons_of_mem _ wl_X3_20) dX3_make_42 ?_
        refine z_aload_n C dX3_make_45 rfl (lv_at hl 0 rfl) ?_
        refine cg_4_5 C h (sh_3 hS) cU_X3 (List.mem_cons_of_mem _ wl_X3_31) dX3_make_46 ?_
        obtain ⟨g7, hm⟩ := grd_s hm
        refine c_qald C h (t := 5) (by decide) rfl (sh_6 hS) (ina_inb (n := 13) (sl_6 hS) (Nat.le_of_ble_eq_true rfl) g7) dX3_make_49 ?_
        obtain ⟨v8, e9, hm⟩ := bnd_s hm
        rw [e9]
        refine z_astore_n (lv' := [(3, rfv g v8), (0, rfv g 3), (2, .int (Int32.ofInt x2))]) C dX3_make_50 rfl hl (by decide) rfl (fun ls hl => ?_)
        refine z_aload_n C dX3_make_51 rfl (lv_at hl 1 rfl) ?_
        refine cg_4_4 C h (sh_3 hS) cU_X3 (List.mem_cons_of_mem _ wl_X3_28) dX3_make_52 ?_
        refine z_aload_n C dX3_make_55 rfl (lv_at hl 1 rfl) ?_
        refine cg_4_5 C h (sh_3 hS) cU_X3 (List.mem_cons_of_mem _ wl_X3_31) dX3_make_56 ?_
        refine c_iald C h (sh_8 hS) (ina_inb (n := 13) (sl_8 hS) (Nat.le_of_ble_eq_true rfl) g7) dX3_make_59 ?_
        obtain ⟨v10, e11, hm⟩ := bnd_s hm
        rw [e11]
        refine lv_istore (lv' := [(4, .int (Int32.ofInt v10)), (3, rfv g v8), (0, rfv g 3), (2, .int (Int32.ofInt x2))]) C.1 C.2.1 dX3_make_60 hl (by decide) (by simp [rfv_cat, cat_i, cat_l]) (fun ls hl => ?_)
        refine lv_iload C.1 C.2.1 dX3_make_62 (lv_at hl 0 rfl) ?_
        refine z_aload_n C dX3_make_64 rfl (lv_at hl 1 rfl) ?_
        obtain ⟨g12, hm⟩ := grd_s hm
        refine cg_1_3 C h g12 cU_X0 (List.mem_cons_of_mem _ wl_X3_48) dX3_make_65 ?_
        obtain ⟨r13, e14, hm⟩ := obd_s hm
        have q15 := (km_L_size hC (cl_fl hC (f := 23) rfl v8) e14)
        obtain ⟨g16, hm⟩ := grd_s hm
        refine c_callViP C hE h g16 rfl (by decide) (kc_L_size l D k z mi aK aV g hS e14) (cwV 0 C.2.2.1 (gS_X3_52 _) rfl rfl rfl hd_Jx4a65c_size_8abf5 ⟨Nat.le_of_ble_eq_true rfl, Nat.le_of_ble_eq_true rfl⟩) rfl hl.1 rfl (Nat.le_of_ble_eq_true rfl) dX3_make_68 ⟨(czz hX hq.1), (szz hX hq.1)⟩ (fun H locs h => ?_)
        have hC17 : Cl π r13.1 := q15
        obtain ⟨g18, hm⟩ := grd_s hm
        obtain ⟨g19, hm⟩ := grd_s hm
        refine z_icmp_ge (tgt := 123) C dX3_make_71 (by decide) g18 g19 (fun c20 => ?_) (fun c20 => ?_)
        · have hm := ite_f c20 hm
          refine z_aload_n C dX3_make_123 rfl (lv_at hl 2 rfl) ?_
          refine z_aload_n C dX3_make_124 rfl (lv_at hl 1 rfl) ?_
          refine cg_1_5 C h g12 cU_X0 (List.mem_cons_of_mem _ wl_X3_71) dX3_make_125 ?_
          obtain ⟨r21, e22, hm⟩ := obd_s hm
          have q23 := (km_Mk_operand hC17 e22)
          refine c_callVqP C hE h (sh_3 hS) rfl (by decide) (kc_Mk_operand l D k z mi aK aV g N hS e22) (cwV 1 C.2.2.1 (gS_X3_74 _) rfl rfl rfl hd_X3_operand ⟨Nat.le_of_ble_eq_true rfl, Nat.le_of_ble_eq_true rfl⟩) rfl hl.1 rfl (Nat.le_of_ble_eq_true rfl) dX3_make_128 ⟨(czz hX hq.1), (szz hX hq.1)⟩ (fun H locs h => ?_)
          have hC24 : Cl π r21.1 := q23.1
          refine z_astore (lv' := [(5, rfv g r21.2), (4, .int (Int32.ofInt v10)), (3, rfv g v8), (0, rfv g 3), (2, .int (Int32.ofInt x2))]) C dX3_make_131 hl (by decide) rfl (fun ls hl => ?_)
          refine z_aload_n C dX3_make_133 rfl (lv_at hl 3 rfl) ?_
          refine cg_4_5 C h (sh_3 hS) cU_X3 (List.mem_cons_of_mem _ wl_X3_31) dX3_make_134 ?_
          obtain ⟨g25, hm⟩ := grd_s hm
          refine z_if_ne (tgt := 143) C dX3_make_137 (by decide) g25 (fun c26 => ?_) (fun c26 => ?_)
          · have hm := ite_f c26 hm
            refine z_aload_n C dX3_make_143 rfl (lv_at hl 3 rfl) ?_
            refine cg_4_1 C h (sh_3 hS) cU_X3 (List.mem_cons_of_mem _ wl_X3_15) dX3_make_144 ?_
            refine z_aload_n C dX3_make_147 rfl (lv_at hl 3 rfl) ?_
            refine cg_4_3 C h (sh_3 hS) cU_X3 (List.mem_cons_of_mem _ wl_X3_24) dX3_make_148 ?_
            refine z_aload_n C dX3_make_151 rfl (lv_at hl 3 rfl) ?_
            refine cg_4_5 C h (sh_3 hS) cU_X3 (List.mem_cons_of_mem _ wl_X3_31) dX3_make_152 ?_
            obtain ⟨g27, hm⟩ := grd_s hm
            refine c_iald C h (sh_7 hS) (ina_inb (n := 13) (sl_7 hS) (Nat.le_of_ble_eq_true rfl) g27) dX3_make_155 ?_
            refine z_aload C dX3_make_156 (lv_at hl 0 rfl) ?_
            obtain ⟨g28, hm⟩ := grd_s hm
            obtain ⟨g29, hm⟩ := grd_s hm
            refine c_qast C h (t := 6) (c0 := 5) (by decide) rfl (by decide) rfl (sh_5 hS) (ina_inb (n := 512) (sl_5 hS) (Nat.le_of_ble_eq_true rfl) g28) g29 dX3_make_158 (fun H locs h => ?_)
            refine z_aload_n C dX3_make_159 rfl (lv_at hl 3 rfl) ?_
            refine lv_dup C.1 C.2.1 dX3_make_160 (rfv_cat _ _) ?_
            refine cg_4_5 C h (sh_3 hS) cU_X3 (List.mem_cons_of_mem _ wl_X3_31) dX3_make_161 ?_
            refine x_topi (y := Int32.ofInt (fl r21.1 85 3)) rfl ?_
            refine lv_iconst (v := Int32.ofInt 1) C.1 C.2.1 dX3_make_164 (by decide) ?_
            refine z_isub C dX3_make_165 ?_
            refine cp_4_5 C h (sh_3 hS) cU_X3 (List.mem_cons_of_mem _ wl_X3_31) dX3_make_166 (fun H locs h => ?_)
            exact kl_Mk_make_169 (N := N) C hr hlk hE krec28 hrec28 (cl_sfI (cl_seR hC24 _ _ q23.2) (f := 85) rfl _ _) hG hX (lv_sub hl [3, 4] rfl) h hm
          · have hm := ite_t c26 hm
            refine z_aload C dX3_make_140 (lv_at hl 0 rfl) ?_
            cases hm
            exact c_aretA C hG h hr hlk (Or.inl ⟨_, rfl⟩) dX3_make_142
        · have hm := ite_t c20 hm
          refine z_aload_n C dX3_make_74 rfl (lv_at hl 2 rfl) ?_
          refine cg_4_4 C h (sh_3 hS) cU_X3 (List.mem_cons_of_mem _ wl_X3_28) dX3_make_75 ?_
          refine z_aload_n C dX3_make_78 rfl (lv_at hl 2 rfl) ?_
          refine cg_4_5 C h (sh_3 hS) cU_X3 (List.mem_cons_of_mem _ wl_X3_31) dX3_make_79 ?_
          refine lv_iload C.1 C.2.1 dX3_make_82 (lv_at hl 0 rfl) ?_
          refine lv_iconst (v := Int32.ofInt 1) C.1 C.2.1 dX3_make_84 (by decide) ?_
          refine z_iadd C dX3_make_85 ?_
          obtain ⟨g30, hm⟩ := grd_s hm
          refine c_iast C h (sh_8 hS) (ina_inb (n := 13) (sl_8 hS) (Nat.le_of_ble_eq_true rfl) g30) dX3_make_86 (fun H locs h => ?_)
          refine z_aload_n C dX3_make_87 rfl (lv_at hl 2 rfl) ?_
          refine z_aload_n C dX3_make_88 rfl (lv_at hl 1 rfl) ?_
          refine cg_1_3 C h g12 cU_X0 (List.mem_cons_of_mem _ wl_X3_48) dX3_make_89 ?_
          refine x_topv (b := rfv g (fl r13.1 23 v8)) rfl ?_
          refine lv_iload C.1 C.2.1 dX3_make_92 (lv_at hl 0 rfl) ?_
          obtain ⟨σ31, e32, hm⟩ := bnd_s hm
          rw [e32] at h
          have hC33 : Cl π σ31 := e32 ▸ (cl_seI hC17 (sh_8 hS) (by decide) _ _)
          obtain ⟨r34, e35, hm⟩ := obd_s hm
          have q36 := (km_L_get hC33 (cl_fl hC17 (f := 23) rfl v8) e35)
          obtain ⟨g37, hm⟩ := grd_s hm
          refine c_callVqP C hE h g37 rfl (by decide) (kc_L_get l D k z mi aK aV g hS e35) (cwV 1 C.2.2.1 (gS_X3_58 _) rfl rfl rfl hd_Jx4a65c_get_915e3 ⟨Nat.le_of_ble_eq_true rfl, Nat.le_of_ble_eq_true rfl⟩) rfl hl.1 rfl (by simp [rfv_cat, cat_i, cat_l]) dX3_make_94 ⟨(czz hX hq.1), (szz hX hq.1)⟩ (fun H locs h => ?_)
          have hC38 : Cl π r34.1 := q36.1
          obtain ⟨g39, hm⟩ := grd_s hm
          refine v_cast C h g39 rfl (by decide) hE.2.2.1 (List.mem_cons_of_mem _ wc_X3_62) dX3_make_97 ?_
          refine z_aload_n C dX3_make_100 rfl (lv_at hl 2 rfl) ?_
          refine cg_4_3 C h (sh_3 hS) cU_X3 (List.mem_cons_of_mem _ wl_X3_24) dX3_make_101 ?_
          refine z_aload_n C dX3_make_104 rfl (lv_at hl 2 rfl) ?_
          refine cg_4_5 C h (sh_3 hS) cU_X3 (List.mem_cons_of_mem _ wl_X3_31) dX3_make_105 ?_
          obtain ⟨g40, hm⟩ := grd_s hm
          refine c_iald C h (sh_7 hS) (ina_inb (n := 13) (sl_7 hS) (Nat.le_of_ble_eq_true rfl) g40) dX3_make_108 ?_
          refine z_aload_n C dX3_make_109 rfl (lv_at hl 1 rfl) ?_
          refine cg_1_2 C h g12 cU_X0 (List.mem_cons_of_mem _ wl_X3_64) dX3_make_110 ?_
          refine z_iadd C dX3_make_113 ?_
          refine lv_iload C.1 C.2.1 dX3_make_114 (lv_at hl 0 rfl) ?_
          refine z_iadd C dX3_make_116 ?_
          obtain ⟨r41, e42, hm⟩ := obd_s hm
          have q43 := (km_Mk_carryOut hC38 q36.2 e42)
          have q := km_Mk_make_120  krec28 q43.2  hm
          refine c_callVvA C hE h (sh_3 hS) rfl (by decide) (kc_Mk_carryOut l D k z mi aK aV g N hC38 q36.2 e42) (cwV 2 C.2.2.1 (gS_X3_67 _) rfl rfl rfl hd_X3_carryOut ⟨Nat.le_of_ble_eq_true rfl, Nat.le_of_ble_eq_true rfl⟩) rfl hl.1 rfl (Nat.le_of_ble_eq_true rfl) dX3_make_117 ⟨rcC hX q43.1 q.1, rsC hX q43.1 q.1⟩ (fun u H locs hg h => ?_)
          simp only [← gx_rfv hg (e9 ▸ (cl_el hC (sh_6 hS) (by decide) (fl σ 85 3))), ← gx_rfv hg (sh_3 hS).2.1] at hl
          try simp only [← gx_rfv hg (e9 ▸ (cl_el hC (sh_6 hS) (by decide) (fl σ 85 3))), ← gx_rfv hg (sh_3 hS).2.1]
          refine W_cast (wcC hX q43.1).symm (wsC hX q43.1).symm ?_
          exact kl_Mk_make_120 (N := N) C hr hlk hE  krec28 hrec28 q43.2 (hG.tr hg hX.1) (hX.tr q43.1)  (lv_sub hl [2, 3] rfl) h hm
set_option maxHeartbeats 8000000 in
set_option maxRecDepth 100000 in
theorem kc_Mk_make (l : Launch) (D : va_G) (k : Nat → ClassId) (z mi : Nat) (aK aV : Nat → Nat) (g : Nat → Nat) (N : Nat)    {π : Sh} {σ : St} {x1 : Int} {r : Sh × St × Int} (hC : Cl π σ) (hv_x1 : x1 < nn π) (hm : Mk_make N π σ x1 = some r) : Mq l yX3_make (.code yX3_make cX3_make 6 (some (.object "CycleStudio$Pattern")) :: cWd) { frames := 6, cells := nn r.1 - nn π, slots := sw r.1 - sw π, locals := 154 } [rfv g 3, rfv g x1] D (TYs k) (cW k z g π σ) (XV z mi aK aV (cW k z g π σ)) (Nat → Nat) (fun v u => gx (nn π) g u ∧ v = rfo u r.2.2) (fun u => cW k z u r.1 r.2.1) (nn r.1 - nn π) (sw r.1 - sw π) := by
  have hS := hC.1
  have hq := km_Mk_make  hC hv_x1 hm
  intro sz
  refine v_met (cc := cX3_make) (maxL := 6) (ret := (some (.object "CycleStudio$Pattern"))) (lv := [(0, rfv g 3), (1, rfv g x1)]) (by decide) rfl (by simp [lg_sl, rfv_cat, cat_i, cat_l]) (by simp [lv_args, rfv_cat, cat_i, cat_l]) ?_
  intro p e s m below meth c ls C hE hr hlk hmn hl h
  generalize ([rfv g 3, rfv g x1] : List Value).toArray = args at C ⊢
  have hG := gx.rf (nn π) g
  have hX := ext.rf π
  refine W_cast (Nat.sub_self (nn π)) (Nat.sub_self (sw π)) ?_
  rw [Mk_make] at hm
  refine z_aload_n C dX3_make_0 rfl (lv_at hl 0 rfl) ?_
  refine lv_iconst (v := Int32.ofInt 0) C.1 C.2.1 dX3_make_1 (by decide) ?_
  refine cp_4_5 C h (sh_3 hS) cU_X3 (List.mem_cons_of_mem _ wl_X3_31) dX3_make_2 (fun H locs h => ?_)
  refine z_aload_n C dX3_make_5 rfl (lv_at hl 0 rfl) ?_
  refine cg_4_2 C h (sh_3 hS) cU_X3 (List.mem_cons_of_mem _ wl_X3_20) dX3_make_6 ?_
  refine lv_iconst (v := Int32.ofInt 0) C.1 C.2.1 dX3_make_9 (by decide) ?_
  refine z_aload_n C dX3_make_10 rfl (lv_at hl 1 rfl) ?_
  obtain ⟨g1, hm⟩ := grd_s hm
  obtain ⟨g2, hm⟩ := grd_s hm
  refine c_qast C h (t := 5) (c0 := 1) (by decide) rfl (by decide) rfl (sh_6 hS) (ina_inb (n := 13) (sl_6 hS) (Nat.le_of_ble_eq_true rfl) g1) g2 dX3_make_11 (fun H locs h => ?_)
  refine z_aload_n C dX3_make_12 rfl (lv_at hl 0 rfl) ?_
  refine cg_4_3 C h (sh_3 hS) cU_X3 (List.mem_cons_of_mem _ wl_X3_24) dX3_make_13 ?_
  refine lv_iconst (v := Int32.ofInt 0) C.1 C.2.1 dX3_make_16 (by decide) ?_
  refine lv_iconst (v := Int32.ofInt 0) C.1 C.2.1 dX3_make_17 (by decide) ?_
  refine c_iast C h (sh_7 hS) (ina_inb (n := 13) (sl_7 hS) (Nat.le_of_ble_eq_true rfl) g1) dX3_make_18 (fun H locs h => ?_)
  refine z_aload_n C dX3_make_19 rfl (lv_at hl 0 rfl) ?_
  refine cg_4_4 C h (sh_3 hS) cU_X3 (List.mem_cons_of_mem _ wl_X3_28) dX3_make_20 ?_
  refine lv_iconst (v := Int32.ofInt 0) C.1 C.2.1 dX3_make_23 (by decide) ?_
  refine lv_iconst (v := Int32.ofInt 0) C.1 C.2.1 dX3_make_24 (by decide) ?_
  refine c_iast C h (sh_8 hS) (ina_inb (n := 13) (sl_8 hS) (Nat.le_of_ble_eq_true rfl) g1) dX3_make_25 (fun H locs h => ?_)
  refine lv_iconst (v := Int32.ofInt 0) C.1 C.2.1 dX3_make_26 (by decide) ?_
  refine lv_istore_n (i := 2) (lv' := [(2, .int (Int32.ofInt 0)), (0, rfv g 3), (1, rfv g x1)]) C.1 C.2.1 dX3_make_27 rfl hl (by decide) (by simp [rfv_cat, cat_i, cat_l]) (fun ls hl => ?_)
  exact kl_Mk_make_28 (N := N) C hr hlk hE N (cl_seI (cl_seI (cl_seR (cl_sfI hC (f := 85) rfl _ _) _ _ hv_x1) (sh_7 hS) (by decide) _ _) (sh_8 hS) (by decide) _ _) hG hX (lv_sub hl [1, 0] rfl) h hm
end Z_Mk_make
section Z_Pt_spanUpper
variable {p : Program} {l : Launch} {e : Env} {s : State} {m : MethodId} {args : Array Value} {below : List Frame} {meth : Method} {c : Code} {D : va_G} {A : Nat → Prop} {k : Nat → ClassId} {N : Nat} {cd : Cond} {z mi : Nat} {aK aV : Nat → Nat} {g : Nat → Nat} {π : Sh}
set_option maxHeartbeats 8000000 in
set_option maxRecDepth 100000 in
theorem kc_Pt_spanUpper (l : Launch) (D : va_G) (k : Nat → ClassId) (z mi : Nat) (aK aV : Nat → Nat) (g : Nat → Nat) (N : Nat)    {π : Sh} {σ : St} {x0 : Int} {r : St × Int} (hS : SHs π) (hm : Pt_spanUpper N π σ x0 = some r) : Ml l yX4_spanUpper (.code yX4_spanUpper cX4_spanUpper 3 (some .long) :: cWd) { frames := 1, cells := 0, slots := 0, locals := 30 } [rfv g x0] D (TYs k) (cW k z g π σ) (XV z mi aK aV (cW k z g π σ)) Unit (fun v _ => v = Int64.ofInt r.2) (fun _ => cW k z g π r.1) 0 0 := by
  intro sz
  refine v_met (cc := cX4_spanUpper) (maxL := 3) (ret := (some .long)) (lv := [(0, rfv g x0)]) (by decide) rfl (by simp [lg_sl, rfv_cat, cat_i, cat_l]) (by simp [lv_args, rfv_cat, cat_i, cat_l]) ?_
  intro p e s m below meth c ls C hE hr hlk hmn hl h
  rw [Pt_spanUpper] at hm
  refine z_aload_n C dX4_spanUpper_0 rfl (lv_at hl 0 rfl) ?_
  obtain ⟨g1, hm⟩ := grd_s hm
  refine cg_5_0 C h g1 cU_X4 (List.mem_cons_of_mem _ wl_X4_26) dX4_spanUpper_1 ?_
  obtain ⟨g2, hm⟩ := grd_s hm
  refine cg_10_4 C h g2 cU_X9 (List.mem_cons_of_mem _ wl_X4_107) dX4_spanUpper_4 ?_
  obtain ⟨g3, hm⟩ := grd_s hm
  refine z_i2l C dX4_spanUpper_7 g3 ?_
  refine z_aload_n C dX4_spanUpper_8 rfl (lv_at hl 0 rfl) ?_
  refine cg_5_0 C h g1 cU_X4 (List.mem_cons_of_mem _ wl_X4_26) dX4_spanUpper_9 ?_
  refine cg_10_3 C h g2 cU_X9 (List.mem_cons_of_mem _ wl_X4_83) dX4_spanUpper_12 ?_
  obtain ⟨g4, hm⟩ := grd_s hm
  refine z_i2l C dX4_spanUpper_15 g4 ?_
  refine z_lmul C dX4_spanUpper_16 ?_
  refine z_aload_n C dX4_spanUpper_17 rfl (lv_at hl 0 rfl) ?_
  refine cg_5_0 C h g1 cU_X4 (List.mem_cons_of_mem _ wl_X4_26) dX4_spanUpper_18 ?_
  refine cg_10_2 C h g2 cU_X9 (List.mem_cons_of_mem _ wl_X4_61) dX4_spanUpper_21 ?_
  obtain ⟨g5, hm⟩ := grd_s hm
  refine z_i2l C dX4_spanUpper_24 g5 ?_
  refine z_aload_n C dX4_spanUpper_25 rfl (lv_at hl 0 rfl) ?_
  refine cg_5_0 C h g1 cU_X4 (List.mem_cons_of_mem _ wl_X4_26) dX4_spanUpper_26 ?_
  refine cg_10_5 C h g2 cU_X9 (List.mem_cons_of_mem _ wl_X4_110) dX4_spanUpper_29 ?_
  obtain ⟨g6, hm⟩ := grd_s hm
  refine z_i2l C dX4_spanUpper_32 g6 ?_
  refine z_lmul C dX4_spanUpper_33 ?_
  refine z_lsub C dX4_spanUpper_34 ?_
  obtain ⟨v7, e8, hm⟩ := bnd_s hm
  rw [e8]
  refine lv_lstore_n (i := 1) (lv' := [(1, .long (Int64.ofInt v7)), (0, rfv g x0)]) C.1 C.2.1 dX4_spanUpper_35 rfl hl (by decide) (by simp [rfv_cat, cat_i, cat_l]) (fun ls hl => ?_)
  refine lv_lload_n C.1 C.2.1 dX4_spanUpper_36 rfl (lv_at hl 0 rfl) ?_
  refine lv_lload_n C.1 C.2.1 dX4_spanUpper_37 rfl (lv_at hl 0 rfl) ?_
  refine z_aload_n C dX4_spanUpper_38 rfl (lv_at hl 1 rfl) ?_
  refine cg_5_0 C h g1 cU_X4 (List.mem_cons_of_mem _ wl_X4_26) dX4_spanUpper_39 ?_
  refine cg_10_3 C h g2 cU_X9 (List.mem_cons_of_mem _ wl_X4_83) dX4_spanUpper_42 ?_
  refine z_i2l C dX4_spanUpper_45 g4 ?_
  refine z_aload_n C dX4_spanUpper_46 rfl (lv_at hl 1 rfl) ?_
  refine cg_5_0 C h g1 cU_X4 (List.mem_cons_of_mem _ wl_X4_26) dX4_spanUpper_47 ?_
  refine cg_10_5 C h g2 cU_X9 (List.mem_cons_of_mem _ wl_X4_110) dX4_spanUpper_50 ?_
  refine z_i2l C dX4_spanUpper_53 g6 ?_
  refine z_lmul C dX4_spanUpper_54 ?_
  obtain ⟨r9, e10, hm⟩ := obd_s hm
  refine v_callSl C h (kc_Pt_gcd l D k N v7 ((fl σ 203 (fl σ 100 x0)) * (fl σ 205 (fl σ 100 x0))) r9 e10) (v_cwS 2 C.2.2.1 (gC_X4_gcd _) rfl rfl rfl (C.2.2.1 _ (List.mem_cons_of_mem _ wt_X4)) (C.2.2.1 _ (List.mem_cons_of_mem _ wm_X4_34)) (C.2.2.1 _ (List.mem_cons_of_mem _ ws_X4_gcd)) hdS_X4_gcd ⟨Nat.le_of_ble_eq_true rfl, Nat.le_of_ble_eq_true rfl⟩) rfl hl.1 rfl (Nat.le_of_ble_eq_true rfl) dX4_spanUpper_55 ⟨(Nat.le_of_ble_eq_true rfl), (Nat.le_of_ble_eq_true rfl)⟩ (fun H locs h => ?_)
  obtain ⟨g11, hm⟩ := grd_s hm
  obtain ⟨g12, hm⟩ := grd_s hm
  obtain ⟨g13, hm⟩ := grd_s hm
  refine z_ldiv C dX4_spanUpper_58 g11 g12 g13 ?_
  cases hm
  exact c_lretP C h hr hlk dX4_spanUpper_59
end Z_Pt_spanUpper
section Z_Pc_init
variable {p : Program} {l : Launch} {e : Env} {s : State} {m : MethodId} {args : Array Value} {below : List Frame} {meth : Method} {c : Code} {D : va_G} {A : Nat → Prop} {k : Nat → ClassId} {N : Nat} {cd : Cond} {z mi : Nat} {aK aV : Nat → Nat} {g0 : Nat → Nat} {π0 : Sh}
set_option maxHeartbeats 8000000 in
set_option maxRecDepth 100000 in
theorem kl_Pc_init_43 {r : Sh × St} (C : Cx p s m args c cX5_init RX5 (cd :: cWd) D (TYs k) 3) (hr : meth.sig.returnType = none) (hlk : meth.locks = false) (hmn : meth.name = "<init>") (hE : Ev z mi aK aV A s s.heap)    {ls : Array Slot} {H : Heap} {locs : List Loc} {g : Nat → Nat} {π : Sh} {σ : St} {x0 : Int} {x1 : Int} {x2 : Int} {s0 : Int} {s1 : Int} (hC : Cl π σ) (hG : gx (nn π0) g0 g) (hX : ext π0 π) (hv_x0 : x0 < nn π) (hv_s0 : s0 < nn π) (hv_s1 : s1 < nn π) (hl : lv_has ls 3 [(0, rfv g x0), (1, .int (Int32.ofInt x1)), (2, .int (Int32.ofInt x2))]) (h : Hp D A s.heap H locs (cW k z g π σ)) (hm : Pc_init_43 N π σ x0 x1 x2 s0 s1 = some r) : W p l e { frames := 1, cells := nn r.1 - nn π0, slots := sw r.1 - sw π0, locals := 30 } s m args below meth c H locs (nn π - nn π0) (sw π - sw π0) (MQ below (va_Qv (fun u => gx (nn π0) g0 u) (fun u t => PostW D (TYs k) A (cW k z u r.1 r.2) t) A) args s (nn r.1 - nn π0) (sw r.1 - sw π0) A) (F0 m 43 ls [rfv g s0, rfv g s1]) := by
  have hS := hC.1
  have hq := km_Pc_init_43    hC hv_x0 hv_s0 hv_s1 hm
  rw [Pc_init_43] at hm
  obtain ⟨g6, hm⟩ := grd_s hm
  refine cpF_6_9 C hmn h g6 cU_X5 (List.mem_cons_of_mem _ wl_X5_33) rfl dX5_init_43 (fun H locs h => ?_)
  refine z_aload_n C dX5_init_46 rfl (lv_at hl 0 rfl) ?_
  refine lv_iconst (v := Int32.ofInt 0) C.1 C.2.1 dX5_init_47 (by decide) ?_
  obtain ⟨g7, hm⟩ := grd_s hm
  refine cp_6_10 C h g7 cU_X5 (List.mem_cons_of_mem _ wl_X5_37) dX5_init_48 (fun H locs h => ?_)
  refine z_aload_n C dX5_init_51 rfl (lv_at hl 0 rfl) ?_
  refine lv_iload_n C.1 C.2.1 dX5_init_52 rfl (lv_at hl 1 rfl) ?_
  refine cpF_6_0 C hmn h g7 cU_X5 (List.mem_cons_of_mem _ wl_X5_40) rfl dX5_init_53 (fun H locs h => ?_)
  refine z_aload_n C dX5_init_56 rfl (lv_at hl 0 rfl) ?_
  refine lv_iload_n C.1 C.2.1 dX5_init_57 rfl (lv_at hl 2 rfl) ?_
  refine cpF_6_1 C hmn h g7 cU_X5 (List.mem_cons_of_mem _ wl_X5_43) rfl dX5_init_58 (fun H locs h => ?_)
  cases hm
  exact c_vretA C hG h hr hlk dX5_init_61
set_option maxHeartbeats 8000000 in
set_option maxRecDepth 100000 in
theorem kc_Pc_init (l : Launch) (D : va_G) (k : Nat → ClassId) (z mi : Nat) (aK aV : Nat → Nat) (g : Nat → Nat) (N : Nat)    {π : Sh} {σ : St} {x0 : Int} {x1 : Int} {x2 : Int} {r : Sh × St} (hC : Cl π σ) (hv_x0 : x0 < nn π) (hm : Pc_init N π σ x0 x1 x2 = some r) : Mv l yX5_init (.code yX5_init cX5_init 3 none :: cWd) { frames := 1, cells := nn r.1 - nn π, slots := sw r.1 - sw π, locals := 30 } [rfv g x0, .int (Int32.ofInt x1), .int (Int32.ofInt x2)] D (TYs k) (cW k z g π σ) (XV z mi aK aV (cW k z g π σ)) (Nat → Nat) (fun u => gx (nn π) g u) (fun u => cW k z u r.1 r.2) (nn r.1 - nn π) (sw r.1 - sw π) := by
  have hS := hC.1
  have hq := km_Pc_init  hC hv_x0 hm
  intro sz
  refine v_met (cc := cX5_init) (maxL := 3) (ret := none) (lv := [(0, rfv g x0), (1, .int (Int32.ofInt x1)), (2, .int (Int32.ofInt x2))]) (by decide) rfl (by simp [lg_sl, rfv_cat, cat_i, cat_l]) (by simp [lv_args, rfv_cat, cat_i, cat_l]) ?_
  intro p e s m below meth c ls C hE hr hlk hmn hl h
  generalize ([rfv g x0, .int (Int32.ofInt x1), .int (Int32.ofInt x2)] : List Value).toArray = args at C ⊢
  have hG := gx.rf (nn π) g
  have hX := ext.rf π
  refine W_cast (Nat.sub_self (nn π)) (Nat.sub_self (sw π)) ?_
  rw [Pc_init] at hm
  refine z_aload_n C dX5_init_0 rfl (lv_at hl 0 rfl) ?_
  obtain ⟨g1, hm⟩ := grd_s hm
  refine v_objInit C hl.1 g1.1 dX5_init_1 (List.mem_cons_of_mem _ wo_X5_1) (List.mem_cons_of_mem _ wo_i) (List.mem_cons_of_mem _ wo_c) (Nat.le_of_ble_eq_true rfl) (by simp [rfv_cat, cat_i, cat_l]) ?_
  refine z_aload_n C dX5_init_4 rfl (lv_at hl 0 rfl) ?_
  refine lv_iconst (v := Int32.ofInt 0) C.1 C.2.1 dX5_init_5 (by decide) ?_
  refine cp_6_2 C h g1 cU_X5 (List.mem_cons_of_mem _ wl_X5_7) dX5_init_6 (fun H locs h => ?_)
  refine z_aload_n C dX5_init_9 rfl (lv_at hl 0 rfl) ?_
  refine lv_iconst (v := Int32.ofInt 0) C.1 C.2.1 dX5_init_10 (by decide) ?_
  refine cp_6_3 C h g1 cU_X5 (List.mem_cons_of_mem _ wl_X5_13) dX5_init_11 (fun H locs h => ?_)
  refine z_aload_n C dX5_init_14 rfl (lv_at hl 0 rfl) ?_
  refine lv_iconst (v := Int32.ofInt 0) C.1 C.2.1 dX5_init_15 (by decide) ?_
  refine cp_6_4 C h g1 cU_X5 (List.mem_cons_of_mem _ wl_X5_16) dX5_init_16 (fun H locs h => ?_)
  refine z_aload_n C dX5_init_19 rfl (lv_at hl 0 rfl) ?_
  refine lv_iconst (v := Int32.ofInt 0) C.1 C.2.1 dX5_init_20 (by decide) ?_
  refine cp_6_5 C h g1 cU_X5 (List.mem_cons_of_mem _ wl_X5_19) dX5_init_21 (fun H locs h => ?_)
  refine z_aload_n C dX5_init_24 rfl (lv_at hl 0 rfl) ?_
  refine z_null (g := g) C dX5_init_25 ?_
  refine cp_6_6 C h g1 cU_X5 (List.mem_cons_of_mem _ wl_X5_22) dX5_init_26 (fun H locs h => ?_)
  refine z_aload_n C dX5_init_29 rfl (lv_at hl 0 rfl) ?_
  refine z_null (g := g) C dX5_init_30 ?_
  refine cp_6_7 C h g1 cU_X5 (List.mem_cons_of_mem _ wl_X5_26) dX5_init_31 (fun H locs h => ?_)
  refine z_aload_n C dX5_init_34 rfl (lv_at hl 0 rfl) ?_
  refine z_null (g := g) C dX5_init_35 ?_
  refine cp_6_8 C h g1 cU_X5 (List.mem_cons_of_mem _ wl_X5_29) dX5_init_36 (fun H locs h => ?_)
  refine z_aload_n C dX5_init_39 rfl (lv_at hl 0 rfl) ?_
  refine lv_iconst (v := Int32.ofInt 3) C.1 C.2.1 dX5_init_40 (by decide) ?_
  obtain ⟨σ2, e3, hm⟩ := bnd_s hm
  rw [e3] at h
  have hC4 : Cl π σ2 := e3 ▸ (cl_sfR (cl_sfR (cl_sfR (cl_sfI (cl_sfI (cl_sfI (cl_sfI hC (f := 122) rfl _ _) (f := 123) rfl _ _) (f := 124) rfl _ _) (f := 125) rfl _ _) _ _ (lt_m1 π)) _ _ (lt_m1 π)) _ _ (lt_m1 π))
  have q := km_Pc_init_43   ((cl_nA hC4 (t := 2) (by decide) _)) (lt_ext hv_x0 (ext_nA π 2 3)) lt_nA (lt_ext hv_x0 (ext_nA π 2 3)) hm
  refine c_newa_int C h hC4 dX5_init_41 (List.mem_cons_of_mem _ wa_int) (by decide) (by decide) (rc1A hX q.1) (rs1A hX q.1) (fun u H hg h => ?_)
  simp only [← gx_rfv hg hv_x0] at hl
  try simp only [← gx_rfv hg hv_x0]
  refine W_cast (wcA (t := 2) (n := 3) hX).symm (wsA (t := 2) (n := 3) hX).symm ?_
  exact kl_Pc_init_43 (N := N) C hr hlk hmn hE   ((cl_nA hC4 (t := 2) (by decide) _)) (hG.tr hg hX.1) (hX.tr (ext_nA π 2 3)) (lt_ext hv_x0 (ext_nA π 2 3)) lt_nA (lt_ext hv_x0 (ext_nA π 2 3)) (lv_sub hl [0, 1, 2] rfl) h hm
end Z_Pc_init
section Z_Pc_give
variable {p : Program} {l : Launch} {e : Env} {s : State} {m : MethodId} {args : Array Value} {below : List Frame} {meth : Method} {c : Code} {D : va_G} {A : Nat → Prop} {k : Nat → ClassId} {N : Nat} {cd : Cond} {z mi : Nat} {aK aV : Nat → Nat} {g : Nat → Nat} {π : Sh}
set_option maxHeartbeats 8000000 in
set_option maxRecDepth 100000 in
theorem kc_Pc_give (l : Launch) (D : va_G) (k : Nat → ClassId) (z mi : Nat) (aK aV : Nat → Nat) (g : Nat → Nat) (N : Nat)    {π : Sh} {σ : St} {x0 : Int} {x1 : Int} {r : St} (hS : SHs π) (hm : Pc_give N π σ x0 x1 = some r) : Mv l yX5_give (.code yX5_give cX5_give 2 none :: cWd) { frames := 0, cells := 0, slots := 0, locals := 0 } [rfv g x0, .int (Int32.ofInt x1)] D (TYs k) (cW k z g π σ) (XV z mi aK aV (cW k z g π σ)) Unit (fun _ => True) (fun _ => cW k z g π r) 0 0 := by
  intro sz
  refine v_met (cc := cX5_give) (maxL := 2) (ret := none) (lv := [(0, rfv g x0), (1, .int (Int32.ofInt x1))]) (by decide) rfl (by simp [lg_sl, rfv_cat, cat_i, cat_l]) (by simp [lv_args, rfv_cat, cat_i, cat_l]) ?_
  intro p e s m below meth c ls C hE hr hlk hmn hl h
  rw [Pc_give] at hm
  refine z_aload_n C dX5_give_0 rfl (lv_at hl 0 rfl) ?_
  obtain ⟨g1, hm⟩ := grd_s hm
  refine cg_6_10 C h g1 cU_X5 (List.mem_cons_of_mem _ wl_X5_37) dX5_give_1 ?_
  refine lv_iconst (v := Int32.ofInt 3) C.1 C.2.1 dX5_give_4 (by decide) ?_
  obtain ⟨g2, hm⟩ := grd_s hm
  refine z_icmp_ge (tgt := 28) C dX5_give_5 (by decide) g2 (by decide) (fun c3 => ?_) (fun c3 => ?_)
  · have hm := ite_f c3 hm
    cases hm
    exact c_vretP C h hr hlk dX5_give_28
  · have hm := ite_t c3 hm
    refine z_aload_n C dX5_give_8 rfl (lv_at hl 0 rfl) ?_
    refine cg_6_9 C h g1 cU_X5 (List.mem_cons_of_mem _ wl_X5_33) dX5_give_9 ?_
    refine z_aload_n C dX5_give_12 rfl (lv_at hl 0 rfl) ?_
    refine cg_6_10 C h g1 cU_X5 (List.mem_cons_of_mem _ wl_X5_37) dX5_give_13 ?_
    refine lv_iload_n C.1 C.2.1 dX5_give_16 rfl (lv_at hl 1 rfl) ?_
    obtain ⟨g4, hm⟩ := grd_s hm
    obtain ⟨g5, hm⟩ := grd_s hm
    refine c_iast C h g4 g5 dX5_give_17 (fun H locs h => ?_)
    refine z_aload_n C dX5_give_18 rfl (lv_at hl 0 rfl) ?_
    refine lv_dup C.1 C.2.1 dX5_give_19 (rfv_cat _ _) ?_
    refine cg_6_10 C h g1 cU_X5 (List.mem_cons_of_mem _ wl_X5_37) dX5_give_20 ?_
    refine x_topi (y := Int32.ofInt (fl σ 130 x0)) rfl ?_
    refine lv_iconst (v := Int32.ofInt 1) C.1 C.2.1 dX5_give_23 (by decide) ?_
    refine z_iadd C dX5_give_24 ?_
    refine cp_6_10 C h g1 cU_X5 (List.mem_cons_of_mem _ wl_X5_37) dX5_give_25 (fun H locs h => ?_)
    cases hm
    exact c_vretP C h hr hlk dX5_give_28
end Z_Pc_give
section Z_Pc_applyAll
variable {p : Program} {l : Launch} {e : Env} {s : State} {m : MethodId} {args : Array Value} {below : List Frame} {meth : Method} {c : Code} {D : va_G} {A : Nat → Prop} {k : Nat → ClassId} {N : Nat} {cd : Cond} {z mi : Nat} {aK aV : Nat → Nat} {g0 : Nat → Nat} {π0 : Sh} {φ ψ : Nat}
set_option maxHeartbeats 8000000 in
set_option maxRecDepth 100000 in
theorem kl_Pc_applyAll_28 {r : Sh × St × Int} (C : Cx p s m args c cX5_applyAll RX5 (cd :: cWd) D (TYs k) 6) (hr : meth.sig.returnType = (some .int)) (hlk : meth.locks = false) (hE : Ev z mi aK aV A s s.heap) {rApply : Sh → St → Int → Int → Int → Option (Sh × St × Int)} (hφ : 20 ≤ φ) (hψ : 600 ≤ ψ) (hmrApply : ∀ {π : Sh} {σ : St} {y0 : Int} {y1 : Int} {y2 : Int} {r : Sh × St × Int}, Cl π σ → y0 < nn π → y1 < nn π → rApply π σ y0 y1 y2 = some r → ext π r.1 ∧ Cl r.1 r.2.1) (hcrApply : ∀ {g : Nat → Nat} {π : Sh} {σ : St} {y0 : Int} {y1 : Int} {y2 : Int} {r : Sh × St × Int}, Cl π σ → y0 < nn π → y1 < nn π → rApply π σ y0 y1 y2 = some r → Mi l yX5_apply (.code yX5_apply cX5_apply 3 (some .int) :: cWd) { frames := φ, cells := nn r.1 - nn π, slots := sw r.1 - sw π, locals := ψ } [rfv g y0, rfv g y1, .int (Int32.ofInt y2)] D (TYs k) (cW k z g π σ) (XV z mi aK aV (cW k z g π σ)) (Nat → Nat) (fun v u => gx (nn π) g u ∧ v = Int32.ofInt r.2.2) (fun u => cW k z u r.1 r.2.1) (nn r.1 - nn π) (sw r.1 - sw π)) {rec8 : Sh → St → Int → Int → Int → Int → Option (Sh × St × Int)} (krec8 : ∀ {π : Sh} {σ : St} {x1 : Int} {x3 : Int} {x4 : Int} {x5 : Int}, Cl π σ → x1 < nn π → x4 < nn π → rec8 π σ x1 x3 x4 x5 = some r → ext π r.1 ∧ Cl r.1 r.2.1) (hrec8 : ∀ {ls : Array Slot} {H : Heap} {locs : List Loc} {g : Nat → Nat} {π : Sh} {σ : St} {x1 : Int} {x3 : Int} {x4 : Int} {x5 : Int}, Cl π σ → gx (nn π0) g0 g → ext π0 π → x1 < nn π → x4 < nn π → lv_has ls 6 [(1, rfv g x1), (3, .int (Int32.ofInt x3)), (4, rfv g x4), (5, .int (Int32.ofInt x5))] → Hp D A s.heap H locs (cW k z g π σ) → rec8 π σ x1 x3 x4 x5 = some r → W p l e { frames := φ + 1, cells := nn r.1 - nn π0, slots := sw r.1 - sw π0, locals := ψ + 22 } s m args below meth c H locs (nn π - nn π0) (sw π - sw π0) (MQ below (va_Qi (fun v u => gx (nn π0) g0 u ∧ v = Int32.ofInt r.2.2) (fun u t => PostW D (TYs k) A (cW k z u r.1 r.2.1) t) A) args s (nn r.1 - nn π0) (sw r.1 - sw π0) A) (F0 m 8 ls [])) {ls : Array Slot} {H : Heap} {locs : List Loc} {g : Nat → Nat} {π : Sh} {σ : St} {x1 : Int} {x4 : Int} {x5 : Int} {s0 : Int} (hC : Cl π σ) (hG : gx (nn π0) g0 g) (hX : ext π0 π) (hv_x1 : x1 < nn π) (hv_x4 : x4 < nn π) (hl : lv_has ls 6 [(1, rfv g x1), (4, rfv g x4), (5, .int (Int32.ofInt x5))]) (h : Hp D A s.heap H locs (cW k z g π σ)) (hm : Pc_applyAll_28 N rApply rec8 π σ x1 x4 x5 s0 = some r) : W p l e { frames := φ + 1, cells := nn r.1 - nn π0, slots := sw r.1 - sw π0, locals := ψ + 22 } s m args below meth c H locs (nn π - nn π0) (sw π - sw π0) (MQ below (va_Qi (fun v u => gx (nn π0) g0 u ∧ v = Int32.ofInt r.2.2) (fun u t => PostW D (TYs k) A (cW k z u r.1 r.2.1) t) A) args s (nn r.1 - nn π0) (sw r.1 - sw π0) A) (F0 m 28 ls [.int (Int32.ofInt s0)]) := by
  have hS := hC.1
  have hq := km_Pc_applyAll_28 hmrApply krec8  hC hv_x1 hv_x4 hm
  rw [Pc_applyAll_28] at hm
  refine lv_istore_n (lv' := [(3, .int (Int32.ofInt s0)), (1, rfv g x1), (4, rfv g x4), (5, .int (Int32.ofInt x5))]) C.1 C.2.1 dX5_applyAll_28 rfl hl (by decide) rfl (fun ls hl => ?_)
  refine z_aload C dX5_applyAll_29 (lv_at hl 2 rfl) ?_
  obtain ⟨g8, hm⟩ := grd_s hm
  refine cg_6_7 C h g8 cU_X5 (List.mem_cons_of_mem _ wl_X5_26) dX5_applyAll_31 ?_
  refine z_astore (lv' := [(4, rfv g (fl σ 127 x4)), (3, .int (Int32.ofInt s0)), (1, rfv g x1), (5, .int (Int32.ofInt x5))]) C dX5_applyAll_34 hl (by decide) rfl (fun ls hl => ?_)
  refine lv_iinc (v := Int32.ofInt (x5 + 1)) (lv' := [(5, .int (Int32.ofInt (x5 + 1))), (4, rfv g (fl σ 127 x4)), (3, .int (Int32.ofInt s0)), (1, rfv g x1)]) C.1 C.2.1 dX5_applyAll_36 hl (k := 3) rfl (c32_add _ _) (by decide) (by simp [rfv_cat, cat_i, cat_l]) (fun ls hl => ?_)
  refine lv_goto (tgt := 8) C.1 C.2.1 dX5_applyAll_39 (by decide) ?_
  exact hrec8 hC hG hX hv_x1 (cl_fl hC (f := 127) rfl x4) (lv_sub hl [3, 2, 1, 0] rfl) h hm
set_option maxHeartbeats 8000000 in
set_option maxRecDepth 100000 in
theorem kl_Pc_applyAll_8 {r : Sh × St × Int} (C : Cx p s m args c cX5_applyAll RX5 (cd :: cWd) D (TYs k) 6) (hr : meth.sig.returnType = (some .int)) (hlk : meth.locks = false) (hE : Ev z mi aK aV A s s.heap) {rApply : Sh → St → Int → Int → Int → Option (Sh × St × Int)} (hφ : 20 ≤ φ) (hψ : 600 ≤ ψ) (hmrApply : ∀ {π : Sh} {σ : St} {y0 : Int} {y1 : Int} {y2 : Int} {r : Sh × St × Int}, Cl π σ → y0 < nn π → y1 < nn π → rApply π σ y0 y1 y2 = some r → ext π r.1 ∧ Cl r.1 r.2.1) (hcrApply : ∀ {g : Nat → Nat} {π : Sh} {σ : St} {y0 : Int} {y1 : Int} {y2 : Int} {r : Sh × St × Int}, Cl π σ → y0 < nn π → y1 < nn π → rApply π σ y0 y1 y2 = some r → Mi l yX5_apply (.code yX5_apply cX5_apply 3 (some .int) :: cWd) { frames := φ, cells := nn r.1 - nn π, slots := sw r.1 - sw π, locals := ψ } [rfv g y0, rfv g y1, .int (Int32.ofInt y2)] D (TYs k) (cW k z g π σ) (XV z mi aK aV (cW k z g π σ)) (Nat → Nat) (fun v u => gx (nn π) g u ∧ v = Int32.ofInt r.2.2) (fun u => cW k z u r.1 r.2.1) (nn r.1 - nn π) (sw r.1 - sw π))  (n : Nat) : ∀ {ls : Array Slot} {H : Heap} {locs : List Loc} {g : Nat → Nat} {π : Sh} {σ : St} {x1 : Int} {x3 : Int} {x4 : Int} {x5 : Int}, Cl π σ → gx (nn π0) g0 g → ext π0 π → x1 < nn π → x4 < nn π → lv_has ls 6 [(1, rfv g x1), (3, .int (Int32.ofInt x3)), (4, rfv g x4), (5, .int (Int32.ofInt x5))] → Hp D A s.heap H locs (cW k z g π σ) → Pc_applyAll_8 N rApply n π σ x1 x3 x4 x5 = some r → W p l e { frames := φ + 1, cells := nn r.1 - nn π0, slots := sw r.1 - sw π0, locals := ψ + 22 } s m args below meth c H locs (nn π - nn π0) (sw π - sw π0) (MQ below (va_Qi (fun v u => gx (nn π0) g0 u ∧ v = Int32.ofInt r.2.2) (fun u t => PostW D (TYs k) A (cW k z u r.1 r.2.1) t) A) args s (nn r.1 - nn π0) (sw r.1 - sw π0) A) (F0 m 8 ls []) := by
  induction n with
  | zero => intro ls H locs g π σ x1 x3 x4 x5 hC hG hX hv_x1 hv_x4 hl h hm; cases (show none = some r from hm)
  | succ n hrec8 =>
    intro ls H locs g π σ x1 x3 x4 x5 hC hG hX hv_x1 hv_x4 hl h hm
    have hS := hC.1
    have hq := km_Pc_applyAll_8 hmrApply  (n + 1) hC hv_x1 hv_x4 hm
    have krec8 : ∀ {π : Sh} {σ : St} {x1 : Int} {x3 : Int} {x4 : Int} {x5 : Int}, Cl π σ → x1 < nn π → x4 < nn π → Pc_applyAll_8 N rApply n π σ x1 x3 x4 x5 = some r → ext π r.1 ∧ Cl r.1 r.2.1 := fun {_ _} {_} {_} {_} {_} => km_Pc_applyAll_8 hmrApply  n
    rw [Pc_applyAll_8] at hm
    refine lv_iload C.1 C.2.1 dX5_applyAll_8 (lv_at hl 3 rfl) ?_
    refine lv_sipush (v := Int32.ofInt 2000) C.1 C.2.1 dX5_applyAll_10 (by decide) ?_
    obtain ⟨g1, hm⟩ := grd_s hm
    refine z_icmp_ge (tgt := 42) C dX5_applyAll_13 (by decide) g1 (by decide) (fun c2 => ?_) (fun c2 => ?_)
    · have hm := ite_f c2 hm
      refine lv_iload_n C.1 C.2.1 dX5_applyAll_42 rfl (lv_at hl 1 rfl) ?_
      cases hm
      exact c_iretA C hG h hr hlk dX5_applyAll_43 rfl
    · have hm := ite_t c2 hm
      refine z_aload C dX5_applyAll_16 (lv_at hl 2 rfl) ?_
      refine z_ifnull (tgt := 42) C dX5_applyAll_18 (by decide) (fun c3 => ?_) (fun c3 => ?_)
      · have hm := ite_t c3 hm
        refine lv_iload_n C.1 C.2.1 dX5_applyAll_42 rfl (lv_at hl 1 rfl) ?_
        cases hm
        exact c_iretA C hG h hr hlk dX5_applyAll_43 rfl
      · have hm := ite_f c3 hm
        refine z_aload C dX5_applyAll_21 (lv_at hl 2 rfl) ?_
        refine z_aload_n C dX5_applyAll_23 rfl (lv_at hl 0 rfl) ?_
        refine lv_iload_n C.1 C.2.1 dX5_applyAll_24 rfl (lv_at hl 1 rfl) ?_
        obtain ⟨r4, e5, hm⟩ := obd_s hm
        have q6 := (hmrApply hC hv_x4 hv_x1 e5)
        obtain ⟨g7, hm⟩ := grd_s hm
        have q := km_Pc_applyAll_28 hmrApply krec8 q6.2 (lt_ext hv_x1 q6.1) (lt_ext hv_x4 q6.1) hm
        refine c_callViA C hE h g7 rfl (by decide) (hcrApply hC hv_x4 hv_x1 e5) (cwV 2 C.2.2.1 (gS_X5_46 _) rfl rfl rfl hd_X5_apply ⟨(by show φ + 1 ≤ φ + 1; omega), (by show 8 + (3 + 11) + ψ ≤ ψ + 22; omega)⟩) rfl hl.1 rfl (Nat.le_of_ble_eq_true rfl) dX5_applyAll_25 ⟨rcC hX q6.1 q.1, rsC hX q6.1 q.1⟩ (fun u H locs hg h => ?_)
        simp only [← gx_rfv hg hv_x1, ← gx_rfv hg hv_x4] at hl
        try simp only [← gx_rfv hg hv_x1, ← gx_rfv hg hv_x4]
        refine W_cast (wcC hX q6.1).symm (wsC hX q6.1).symm ?_
        exact kl_Pc_applyAll_28 (N := N) C hr hlk hE hφ hψ hmrApply hcrApply krec8 hrec8 q6.2 (hG.tr hg hX.1) (hX.tr q6.1) (lt_ext hv_x1 q6.1) (lt_ext hv_x4 q6.1) (lv_sub hl [0, 2, 3] rfl) h hm
set_option maxHeartbeats 8000000 in
set_option maxRecDepth 100000 in
theorem kc_Pc_applyAll (l : Launch) (D : va_G) (k : Nat → ClassId) (z mi : Nat) (aK aV : Nat → Nat) (g : Nat → Nat) (N : Nat) {φ ψ : Nat} {rApply : Sh → St → Int → Int → Int → Option (Sh × St × Int)} (hφ : 20 ≤ φ) (hψ : 600 ≤ ψ) (hmrApply : ∀ {π : Sh} {σ : St} {y0 : Int} {y1 : Int} {y2 : Int} {r : Sh × St × Int}, Cl π σ → y0 < nn π → y1 < nn π → rApply π σ y0 y1 y2 = some r → ext π r.1 ∧ Cl r.1 r.2.1) (hcrApply : ∀ {g : Nat → Nat} {π : Sh} {σ : St} {y0 : Int} {y1 : Int} {y2 : Int} {r : Sh × St × Int}, Cl π σ → y0 < nn π → y1 < nn π → rApply π σ y0 y1 y2 = some r → Mi l yX5_apply (.code yX5_apply cX5_apply 3 (some .int) :: cWd) { frames := φ, cells := nn r.1 - nn π, slots := sw r.1 - sw π, locals := ψ } [rfv g y0, rfv g y1, .int (Int32.ofInt y2)] D (TYs k) (cW k z g π σ) (XV z mi aK aV (cW k z g π σ)) (Nat → Nat) (fun v u => gx (nn π) g u ∧ v = Int32.ofInt r.2.2) (fun u => cW k z u r.1 r.2.1) (nn r.1 - nn π) (sw r.1 - sw π)) {π : Sh} {σ : St} {x0 : Int} {x1 : Int} {x2 : Int} {r : Sh × St × Int} (hC : Cl π σ) (hv_x0 : x0 < nn π) (hv_x1 : x1 < nn π) (hm : Pc_applyAll N rApply π σ x0 x1 x2 = some r) : Mi l yX5_applyAll (.code yX5_applyAll cX5_applyAll 6 (some .int) :: cWd) { frames := φ + 1, cells := nn r.1 - nn π, slots := sw r.1 - sw π, locals := ψ + 22 } [rfv g x0, rfv g x1, .int (Int32.ofInt x2)] D (TYs k) (cW k z g π σ) (XV z mi aK aV (cW k z g π σ)) (Nat → Nat) (fun v u => gx (nn π) g u ∧ v = Int32.ofInt r.2.2) (fun u => cW k z u r.1 r.2.1) (nn r.1 - nn π) (sw r.1 - sw π) := by
  have hS := hC.1
  have hq := km_Pc_applyAll hmrApply hC hv_x0 hv_x1 hm
  intro sz
  refine v_met (cc := cX5_applyAll) (maxL := 6) (ret := (some .int)) (lv := [(0, rfv g x0), (1, rfv g x1), (2, .int (Int32.ofInt x2))]) (by decide) rfl (by simp [lg_sl, rfv_cat, cat_i, cat_l]) (by simp [lv_args, rfv_cat, cat_i, cat_l]) ?_
  intro p e s m below meth c ls C hE hr hlk hmn hl h
  generalize ([rfv g x0, rfv g x1, .int (Int32.ofInt x2)] : List Value).toArray = args at C ⊢
  have hG := gx.rf (nn π) g
  have hX := ext.rf π
  refine W_cast (Nat.sub_self (nn π)) (Nat.sub_self (sw π)) ?_
  rw [Pc_applyAll] at hm
  refine lv_iload_n C.1 C.2.1 dX5_applyAll_0 rfl (lv_at hl 2 rfl) ?_
  refine lv_istore_n (lv' := [(3, .int (Int32.ofInt x2)), (0, rfv g x0), (1, rfv g x1), (2, .int (Int32.ofInt x2))]) C.1 C.2.1 dX5_applyAll_1 rfl hl (by decide) rfl (fun ls hl => ?_)
  refine z_aload_n C dX5_applyAll_2 rfl (lv_at hl 1 rfl) ?_
  refine z_astore (lv' := [(4, rfv g x0), (3, .int (Int32.ofInt x2)), (0, rfv g x0), (1, rfv g x1), (2, .int (Int32.ofInt x2))]) C dX5_applyAll_3 hl (by decide) rfl (fun ls hl => ?_)
  refine lv_iconst (v := Int32.ofInt 0) C.1 C.2.1 dX5_applyAll_5 (by decide) ?_
  refine lv_istore (lv' := [(5, .int (Int32.ofInt 0)), (4, rfv g x0), (3, .int (Int32.ofInt x2)), (0, rfv g x0), (1, rfv g x1), (2, .int (Int32.ofInt x2))]) C.1 C.2.1 dX5_applyAll_6 hl (by decide) (by simp [rfv_cat, cat_i, cat_l]) (fun ls hl => ?_)
  exact kl_Pc_applyAll_8 (N := N) C hr hlk hE hφ hψ hmrApply hcrApply N hC hG hX hv_x1 hv_x0 (lv_sub hl [4, 2, 1, 0] rfl) h hm
end Z_Pc_applyAll
section Z_Sp_initB
variable {p : Program} {l : Launch} {e : Env} {s : State} {m : MethodId} {args : Array Value} {below : List Frame} {meth : Method} {c : Code} {D : va_G} {A : Nat → Prop} {k : Nat → ClassId} {N : Nat} {cd : Cond} {z mi : Nat} {aK aV : Nat → Nat} {g0 : Nat → Nat} {π0 : Sh}
set_option maxHeartbeats 8000000 in
set_option maxRecDepth 100000 in
theorem kl_Sp_initB_48 {r : Sh × St} (C : Cx p s m args c cX9_init_ RX9 (cd :: cWd) D (TYs k) 5) (hr : meth.sig.returnType = none) (hlk : meth.locks = false) (hmn : meth.name = "<init>") (hE : Ev z mi aK aV A s s.heap)    {ls : Array Slot} {H : Heap} {locs : List Loc} {g : Nat → Nat} {π : Sh} {σ : St} {x0 : Int} {x1 : Int} {x2 : Int} {x3 : Int} {x4 : Int} {s0 : Int} {s1 : Int} (hC : Cl π σ) (hG : gx (nn π0) g0 g) (hX : ext π0 π) (hv_x0 : x0 < nn π) (hv_s0 : s0 < nn π) (hv_s1 : s1 < nn π) (hl : lv_has ls 5 [(0, rfv g x0), (1, .int (Int32.ofInt x1)), (2, .int (Int32.ofInt x2)), (3, .int (Int32.ofInt x3)), (4, .int (Int32.ofInt x4))]) (h : Hp D A s.heap H locs (cW k z g π σ)) (hm : Sp_initB_48 N π σ x0 x1 x2 x3 x4 s0 s1 = some r) : W p l e { frames := 1, cells := nn r.1 - nn π0, slots := sw r.1 - sw π0, locals := 30 } s m args below meth c H locs (nn π - nn π0) (sw π - sw π0) (MQ below (va_Qv (fun u => gx (nn π0) g0 u) (fun u t => PostW D (TYs k) A (cW k z u r.1 r.2) t) A) args s (nn r.1 - nn π0) (sw r.1 - sw π0) A) (F0 m 48 ls [rfv g s0, rfv g s1]) := by
  have hS := hC.1
  have hq := km_Sp_initB_48    hC hv_x0 hv_s0 hv_s1 hm
  rw [Sp_initB_48] at hm
  obtain ⟨g6, hm⟩ := grd_s hm
  refine cp_10_10 C h g6 cU_X9 (List.mem_cons_of_mem _ wl_X9_37) dX9_init__48 (fun H locs h => ?_)
  refine z_aload_n C dX9_init__51 rfl (lv_at hl 0 rfl) ?_
  refine z_null (g := g) C dX9_init__52 ?_
  obtain ⟨g7, hm⟩ := grd_s hm
  refine cp_10_11 C h g7 cU_X9 (List.mem_cons_of_mem _ wl_X9_41) dX9_init__53 (fun H locs h => ?_)
  refine z_aload_n C dX9_init__56 rfl (lv_at hl 0 rfl) ?_
  refine z_null (g := g) C dX9_init__57 ?_
  refine cp_10_12 C h g7 cU_X9 (List.mem_cons_of_mem _ wl_X9_44) dX9_init__58 (fun H locs h => ?_)
  refine z_aload_n C dX9_init__61 rfl (lv_at hl 0 rfl) ?_
  refine z_null (g := g) C dX9_init__62 ?_
  refine cp_10_13 C h g7 cU_X9 (List.mem_cons_of_mem _ wl_X9_47) dX9_init__63 (fun H locs h => ?_)
  refine z_aload_n C dX9_init__66 rfl (lv_at hl 0 rfl) ?_
  refine lv_iload_n C.1 C.2.1 dX9_init__67 rfl (lv_at hl 1 rfl) ?_
  refine cpF_10_0 C hmn h g7 cU_X9 (List.mem_cons_of_mem _ wl_X9_50) rfl dX9_init__68 (fun H locs h => ?_)
  refine z_aload_n C dX9_init__71 rfl (lv_at hl 0 rfl) ?_
  refine lv_iload_n C.1 C.2.1 dX9_init__72 rfl (lv_at hl 2 rfl) ?_
  refine cpF_10_1 C hmn h g7 cU_X9 (List.mem_cons_of_mem _ wl_X9_53) rfl dX9_init__73 (fun H locs h => ?_)
  refine z_aload_n C dX9_init__76 rfl (lv_at hl 0 rfl) ?_
  refine lv_iload_n C.1 C.2.1 dX9_init__77 rfl (lv_at hl 3 rfl) ?_
  refine cp_10_2 C h g7 cU_X9 (List.mem_cons_of_mem _ wl_X9_7) dX9_init__78 (fun H locs h => ?_)
  refine z_aload_n C dX9_init__81 rfl (lv_at hl 0 rfl) ?_
  refine lv_iload C.1 C.2.1 dX9_init__82 (lv_at hl 4 rfl) ?_
  refine cp_10_3 C h g7 cU_X9 (List.mem_cons_of_mem _ wl_X9_13) dX9_init__84 (fun H locs h => ?_)
  cases hm
  exact c_vretA C hG h hr hlk dX9_init__87
set_option maxHeartbeats 8000000 in
set_option maxRecDepth 100000 in
theorem kc_Sp_initB (l : Launch) (D : va_G) (k : Nat → ClassId) (z mi : Nat) (aK aV : Nat → Nat) (g : Nat → Nat) (N : Nat)    {π : Sh} {σ : St} {x0 : Int} {x1 : Int} {x2 : Int} {x3 : Int} {x4 : Int} {r : Sh × St} (hC : Cl π σ) (hv_x0 : x0 < nn π) (hm : Sp_initB N π σ x0 x1 x2 x3 x4 = some r) : Mv l yX9_init_ (.code yX9_init_ cX9_init_ 5 none :: cWd) { frames := 1, cells := nn r.1 - nn π, slots := sw r.1 - sw π, locals := 30 } [rfv g x0, .int (Int32.ofInt x1), .int (Int32.ofInt x2), .int (Int32.ofInt x3), .int (Int32.ofInt x4)] D (TYs k) (cW k z g π σ) (XV z mi aK aV (cW k z g π σ)) (Nat → Nat) (fun u => gx (nn π) g u) (fun u => cW k z u r.1 r.2) (nn r.1 - nn π) (sw r.1 - sw π) := by
  have hS := hC.1
  have hq := km_Sp_initB  hC hv_x0 hm
  intro sz
  refine v_met (cc := cX9_init_) (maxL := 5) (ret := none) (lv := [(0, rfv g x0), (1, .int (Int32.ofInt x1)), (2, .int (Int32.ofInt x2)), (3, .int (Int32.ofInt x3)), (4, .int (Int32.ofInt x4))]) (by decide) rfl (by simp [lg_sl, rfv_cat, cat_i, cat_l]) (by simp [lv_args, rfv_cat, cat_i, cat_l]) ?_
  intro p e s m below meth c ls C hE hr hlk hmn hl h
  generalize ([rfv g x0, .int (Int32.ofInt x1), .int (Int32.ofInt x2), .int (Int32.ofInt x3), .int (Int32.ofInt x4)] : List Value).toArray = args at C ⊢
  have hG := gx.rf (nn π) g
  have hX := ext.rf π
  refine W_cast (Nat.sub_self (nn π)) (Nat.sub_self (sw π)) ?_
  rw [Sp_initB] at hm
  refine z_aload_n C dX9_init__0 rfl (lv_at hl 0 rfl) ?_
  obtain ⟨g1, hm⟩ := grd_s hm
  refine v_objInit C hl.1 g1.1 dX9_init__1 (List.mem_cons_of_mem _ wo_X9_1) (List.mem_cons_of_mem _ wo_i) (List.mem_cons_of_mem _ wo_c) (Nat.le_of_ble_eq_true rfl) (by simp [rfv_cat, cat_i, cat_l]) ?_
  refine z_aload_n C dX9_init__4 rfl (lv_at hl 0 rfl) ?_
  refine lv_iconst (v := Int32.ofInt 0) C.1 C.2.1 dX9_init__5 (by decide) ?_
  refine cp_10_2 C h g1 cU_X9 (List.mem_cons_of_mem _ wl_X9_7) dX9_init__6 (fun H locs h => ?_)
  refine z_aload_n C dX9_init__9 rfl (lv_at hl 0 rfl) ?_
  refine lv_iconst (v := Int32.ofInt 0) C.1 C.2.1 dX9_init__10 (by decide) ?_
  refine cp_10_3 C h g1 cU_X9 (List.mem_cons_of_mem _ wl_X9_13) dX9_init__11 (fun H locs h => ?_)
  refine z_aload_n C dX9_init__14 rfl (lv_at hl 0 rfl) ?_
  refine lv_iconst (v := Int32.ofInt 0) C.1 C.2.1 dX9_init__15 (by decide) ?_
  refine cp_10_4 C h g1 cU_X9 (List.mem_cons_of_mem _ wl_X9_16) dX9_init__16 (fun H locs h => ?_)
  refine z_aload_n C dX9_init__19 rfl (lv_at hl 0 rfl) ?_
  refine lv_iconst (v := Int32.ofInt 0) C.1 C.2.1 dX9_init__20 (by decide) ?_
  refine cp_10_5 C h g1 cU_X9 (List.mem_cons_of_mem _ wl_X9_19) dX9_init__21 (fun H locs h => ?_)
  refine z_aload_n C dX9_init__24 rfl (lv_at hl 0 rfl) ?_
  refine lv_iconst (v := Int32.ofInt 0) C.1 C.2.1 dX9_init__25 (by decide) ?_
  refine cp_10_6 C h g1 (by decide) cU_X9 (List.mem_cons_of_mem _ wl_X9_22) dX9_init__26 (fun H locs h => ?_)
  refine z_aload_n C dX9_init__29 rfl (lv_at hl 0 rfl) ?_
  refine lv_lconst (v := Int64.ofInt 0) C.1 C.2.1 dX9_init__30 (by decide) ?_
  refine cp_10_7 C h g1 cU_X9 (List.mem_cons_of_mem _ wl_X9_26) dX9_init__31 (fun H locs h => ?_)
  refine z_aload_n C dX9_init__34 rfl (lv_at hl 0 rfl) ?_
  refine z_null (g := g) C dX9_init__35 ?_
  refine cp_10_8 C h g1 cU_X9 (List.mem_cons_of_mem _ wl_X9_30) dX9_init__36 (fun H locs h => ?_)
  refine z_aload_n C dX9_init__39 rfl (lv_at hl 0 rfl) ?_
  refine lv_iconst (v := Int32.ofInt 0) C.1 C.2.1 dX9_init__40 (by decide) ?_
  refine cp_10_9 C h g1 cU_X9 (List.mem_cons_of_mem _ wl_X9_34) dX9_init__41 (fun H locs h => ?_)
  refine z_aload_n C dX9_init__44 rfl (lv_at hl 0 rfl) ?_
  refine lv_iconst (v := Int32.ofInt 2) C.1 C.2.1 dX9_init__45 (by decide) ?_
  obtain ⟨σ2, e3, hm⟩ := bnd_s hm
  rw [e3] at h
  have hC4 : Cl π σ2 := e3 ▸ (cl_sfI (cl_sfR (cl_sfI (cl_sfI (cl_sfI (cl_sfI (cl_sfI (cl_sfI hC (f := 202) rfl _ _) (f := 203) rfl _ _) (f := 204) rfl _ _) (f := 205) rfl _ _) (f := 206) rfl _ _) (f := 207) rfl _ _) _ _ (lt_m1 π)) (f := 209) rfl _ _)
  have q := km_Sp_initB_48   ((cl_nA hC4 (t := 2) (by decide) _)) (lt_ext hv_x0 (ext_nA π 2 2)) lt_nA (lt_ext hv_x0 (ext_nA π 2 2)) hm
  refine c_newa_int C h hC4 dX9_init__46 (List.mem_cons_of_mem _ wa_int) (by decide) (by decide) (rc1A hX q.1) (rs1A hX q.1) (fun u H hg h => ?_)
  simp only [← gx_rfv hg hv_x0] at hl
  try simp only [← gx_rfv hg hv_x0]
  refine W_cast (wcA (t := 2) (n := 2) hX).symm (wsA (t := 2) (n := 2) hX).symm ?_
  exact kl_Sp_initB_48 (N := N) C hr hlk hmn hE   ((cl_nA hC4 (t := 2) (by decide) _)) (hG.tr hg hX.1) (hX.tr (ext_nA π 2 2)) (lt_ext hv_x0 (ext_nA π 2 2)) lt_nA (lt_ext hv_x0 (ext_nA π 2 2)) (lv_sub hl [0, 1, 2, 3, 4] rfl) h hm
end Z_Sp_initB
section Z_Pc_spanStep
variable {p : Program} {l : Launch} {e : Env} {s : State} {m : MethodId} {args : Array Value} {below : List Frame} {meth : Method} {c : Code} {D : va_G} {A : Nat → Prop} {k : Nat → ClassId} {N : Nat} {cd : Cond} {z mi : Nat} {aK aV : Nat → Nat} {g0 : Nat → Nat} {π0 : Sh}
set_option maxHeartbeats 8000000 in
set_option maxRecDepth 100000 in
theorem kl_Pc_spanStep_20 {r : Sh × St × Int} (C : Cx p s m args c cX5_spanStep RX5 (cd :: cWd) D (TYs k) 3) (hr : meth.sig.returnType = (some (.object "CycleStudio$Step"))) (hlk : meth.locks = false) (hE : Ev z mi aK aV A s s.heap)    {ls : Array Slot} {H : Heap} {locs : List Loc} {g : Nat → Nat} {π : Sh} {σ : St} {x0 : Int} {s0 : Int} (hC : Cl π σ) (hG : gx (nn π0) g0 g) (hX : ext π0 π) (hv_x0 : x0 < nn π) (hv_s0 : s0 < nn π) (hl : lv_has ls 3 [(0, rfv g x0)]) (h : Hp D A s.heap H locs (cW k z g π σ)) (hm : Pc_spanStep_20 N π σ x0 s0 = some r) : W p l e { frames := 2, cells := nn r.1 - nn π0, slots := sw r.1 - sw π0, locals := 54 } s m args below meth c H locs (nn π - nn π0) (sw π - sw π0) (MQ below (va_Qq (fun v u => gx (nn π0) g0 u ∧ v = rfo u r.2.2) (fun u t => PostW D (TYs k) A (cW k z u r.1 r.2.1) t) A) args s (nn r.1 - nn π0) (sw r.1 - sw π0) A) (F0 m 20 ls [rfv g s0]) := by
  have hS := hC.1
  have hq := km_Pc_spanStep_20    hC hv_x0 hv_s0 hm
  rw [Pc_spanStep_20] at hm
  refine z_astore_n (lv' := [(2, rfv g s0), (0, rfv g x0)]) C dX5_spanStep_20 rfl hl (by decide) rfl (fun ls hl => ?_)
  refine z_aload_n C dX5_spanStep_21 rfl (lv_at hl 0 rfl) ?_
  refine z_aload_n C dX5_spanStep_22 rfl (lv_at hl 1 rfl) ?_
  obtain ⟨g7, hm⟩ := grd_s hm
  refine cg_6_4 C h g7 cU_X5 (List.mem_cons_of_mem _ wl_X5_16) dX5_spanStep_23 ?_
  obtain ⟨g8, hm⟩ := grd_s hm
  refine cp_10_4 C h g8 cU_X9 (List.mem_cons_of_mem _ wl_X5_82) dX5_spanStep_26 (fun H locs h => ?_)
  refine z_aload_n C dX5_spanStep_29 rfl (lv_at hl 0 rfl) ?_
  refine z_aload_n C dX5_spanStep_30 rfl (lv_at hl 1 rfl) ?_
  refine cg_6_5 C h g7 cU_X5 (List.mem_cons_of_mem _ wl_X5_19) dX5_spanStep_31 ?_
  refine x_topi (y := Int32.ofInt (fl σ 125 x0)) rfl ?_
  refine cp_10_5 C h g8 cU_X9 (List.mem_cons_of_mem _ wl_X5_83) dX5_spanStep_34 (fun H locs h => ?_)
  refine z_aload_n C dX5_spanStep_37 rfl (lv_at hl 0 rfl) ?_
  cases hm
  exact c_aretA C hG h hr hlk (Or.inl ⟨_, rfl⟩) dX5_spanStep_38
set_option maxHeartbeats 8000000 in
set_option maxRecDepth 100000 in
theorem kl_Pc_spanStep_3 {r : Sh × St × Int} (C : Cx p s m args c cX5_spanStep RX5 (cd :: cWd) D (TYs k) 3) (hr : meth.sig.returnType = (some (.object "CycleStudio$Step"))) (hlk : meth.locks = false) (hE : Ev z mi aK aV A s s.heap)    {ls : Array Slot} {H : Heap} {locs : List Loc} {g : Nat → Nat} {π : Sh} {σ : St} {x0 : Int} {x1 : Int} {s0 : Int} (hC : Cl π σ) (hG : gx (nn π0) g0 g) (hX : ext π0 π) (hv_x0 : x0 < nn π) (hv_s0 : s0 < nn π) (hl : lv_has ls 3 [(0, rfv g x0), (1, .int (Int32.ofInt x1))]) (h : Hp D A s.heap H locs (cW k z g π σ)) (hm : Pc_spanStep_3 N π σ x0 x1 s0 = some r) : W p l e { frames := 2, cells := nn r.1 - nn π0, slots := sw r.1 - sw π0, locals := 54 } s m args below meth c H locs (nn π - nn π0) (sw π - sw π0) (MQ below (va_Qq (fun v u => gx (nn π0) g0 u ∧ v = rfo u r.2.2) (fun u t => PostW D (TYs k) A (cW k z u r.1 r.2.1) t) A) args s (nn r.1 - nn π0) (sw r.1 - sw π0) A) (F0 m 3 ls [rfv g s0]) := by
  have hS := hC.1
  have hq := km_Pc_spanStep_3    hC hv_x0 hv_s0 hm
  rw [Pc_spanStep_3] at hm
  refine lv_dup C.1 C.2.1 dX5_spanStep_3 (rfv_cat _ _) ?_
  refine lv_iload_n C.1 C.2.1 dX5_spanStep_4 rfl (lv_at hl 1 rfl) ?_
  refine z_aload_n C dX5_spanStep_5 rfl (lv_at hl 0 rfl) ?_
  obtain ⟨g2, hm⟩ := grd_s hm
  refine cg_6_1 C h g2 cU_X5 (List.mem_cons_of_mem _ wl_X5_43) dX5_spanStep_6 ?_
  refine z_aload_n C dX5_spanStep_9 rfl (lv_at hl 0 rfl) ?_
  refine cg_6_2 C h g2 cU_X5 (List.mem_cons_of_mem _ wl_X5_7) dX5_spanStep_10 ?_
  refine z_aload_n C dX5_spanStep_13 rfl (lv_at hl 0 rfl) ?_
  refine cg_6_3 C h g2 cU_X5 (List.mem_cons_of_mem _ wl_X5_13) dX5_spanStep_14 ?_
  obtain ⟨r3, e4, hm⟩ := obd_s hm
  have q5 := (km_Sp_initB hC hv_s0 e4)
  obtain ⟨g6, hm⟩ := grd_s hm
  have q := km_Pc_spanStep_20   q5.2 (lt_ext hv_x0 q5.1) (lt_ext hv_s0 q5.1) hm
  refine c_callIvA C hE h g6 (kc_Sp_initB l D k z mi aK aV g N hC hv_s0 e4) (cwI 4 C.2.2.1 (gC_X9_init_ _) rfl rfl rfl (C.2.2.1 _ (List.mem_cons_of_mem _ wt_X9)) (C.2.2.1 _ (List.mem_cons_of_mem _ wm_X5_52)) (C.2.2.1 _ (List.mem_cons_of_mem _ wj_X9_init_)) rfl hdS_X9_init_ ⟨Nat.le_of_ble_eq_true rfl, Nat.le_of_ble_eq_true rfl⟩) rfl hl.1 rfl (by simp [rfv_cat, cat_i, cat_l]) dX5_spanStep_17 ⟨rcC hX q5.1 q.1, rsC hX q5.1 q.1⟩ (fun u H locs hg h => ?_)
  simp only [← gx_rfv hg hv_x0, ← gx_rfv hg hv_s0] at hl
  try simp only [← gx_rfv hg hv_x0, ← gx_rfv hg hv_s0]
  refine W_cast (wcC hX q5.1).symm (wsC hX q5.1).symm ?_
  exact kl_Pc_spanStep_20 (N := N) C hr hlk hE   q5.2 (hG.tr hg hX.1) (hX.tr q5.1) (lt_ext hv_x0 q5.1) (lt_ext hv_s0 q5.1) (lv_sub hl [0] rfl) h hm
set_option maxHeartbeats 8000000 in
set_option maxRecDepth 100000 in
theorem kc_Pc_spanStep (l : Launch) (D : va_G) (k : Nat → ClassId) (z mi : Nat) (aK aV : Nat → Nat) (g : Nat → Nat) (N : Nat)    {π : Sh} {σ : St} {x0 : Int} {x1 : Int} {r : Sh × St × Int} (hC : Cl π σ) (hv_x0 : x0 < nn π) (hm : Pc_spanStep N π σ x0 x1 = some r) : Mq l yX5_spanStep (.code yX5_spanStep cX5_spanStep 3 (some (.object "CycleStudio$Step")) :: cWd) { frames := 2, cells := nn r.1 - nn π, slots := sw r.1 - sw π, locals := 54 } [rfv g x0, .int (Int32.ofInt x1)] D (TYs k) (cW k z g π σ) (XV z mi aK aV (cW k z g π σ)) (Nat → Nat) (fun v u => gx (nn π) g u ∧ v = rfo u r.2.2) (fun u => cW k z u r.1 r.2.1) (nn r.1 - nn π) (sw r.1 - sw π) := by
  have hS := hC.1
  have hq := km_Pc_spanStep  hC hv_x0 hm
  intro sz
  refine v_met (cc := cX5_spanStep) (maxL := 3) (ret := (some (.object "CycleStudio$Step"))) (lv := [(0, rfv g x0), (1, .int (Int32.ofInt x1))]) (by decide) rfl (by simp [lg_sl, rfv_cat, cat_i, cat_l]) (by simp [lv_args, rfv_cat, cat_i, cat_l]) ?_
  intro p e s m below meth c ls C hE hr hlk hmn hl h
  generalize ([rfv g x0, .int (Int32.ofInt x1)] : List Value).toArray = args at C ⊢
  have hG := gx.rf (nn π) g
  have hX := ext.rf π
  refine W_cast (Nat.sub_self (nn π)) (Nat.sub_self (sw π)) ?_
  rw [Pc_spanStep] at hm
  have q := km_Pc_spanStep_3   ((cl_nO hC (by decide) (by decide) _)) (lt_ext hv_x0 (ext_nO π 10 14)) lt_nO hm
  refine c_new C h hC (by decide) dX5_spanStep_0 rfl cU_X9 tyX9_ok (List.mem_cons_of_mem _ wn_X5_50) (List.mem_cons_of_mem _ wi_X9) (List.mem_cons_of_mem _ wt_X9) (df_X9) (dn_X9 z) (rc1 hX q.1) (rs1 hX q.1) (fun u H hg h => ?_)
  simp only [← gx_rfv hg hv_x0] at hl
  try simp only [← gx_rfv hg hv_x0]
  refine W_cast (wcO (c := 10) (w := 14) hX).symm (wsO (c := 10) (w := 14) hX).symm ?_
  exact kl_Pc_spanStep_3 (N := N) C hr hlk hE   ((cl_nO hC (by decide) (by decide) _)) (hG.tr hg hX.1) (hX.tr (ext_nO π 10 14)) (lt_ext hv_x0 (ext_nO π 10 14)) lt_nO (lv_sub hl [0, 1] rfl) h hm
end Z_Pc_spanStep
section Z_Sp_give
variable {p : Program} {l : Launch} {e : Env} {s : State} {m : MethodId} {args : Array Value} {below : List Frame} {meth : Method} {c : Code} {D : va_G} {A : Nat → Prop} {k : Nat → ClassId} {N : Nat} {cd : Cond} {z mi : Nat} {aK aV : Nat → Nat} {g0 : Nat → Nat} {π0 : Sh}
set_option maxHeartbeats 8000000 in
set_option maxRecDepth 100000 in
theorem kl_Sp_give_31 {r : Sh × St × Int} (C : Cx p s m args c cX9_give RX9 (cd :: cWd) D (TYs k) 2) (hr : meth.sig.returnType = (some (.object "CycleStudio$Step"))) (hlk : meth.locks = false) (hE : Ev z mi aK aV A s s.heap)    {ls : Array Slot} {H : Heap} {locs : List Loc} {g : Nat → Nat} {π : Sh} {σ : St} {x0 : Int} {x1 : Int} (hC : Cl π σ) (hG : gx (nn π0) g0 g) (hX : ext π0 π) (hv_x0 : x0 < nn π) (hl : lv_has ls 2 [(0, rfv g x0), (1, .int (Int32.ofInt x1))]) (h : Hp D A s.heap H locs (cW k z g π σ)) (hm : Sp_give_31 N π σ x0 x1 = some r) : W p l e { frames := 2, cells := nn r.1 - nn π0, slots := sw r.1 - sw π0, locals := 82 } s m args below meth c H locs (nn π - nn π0) (sw π - sw π0) (MQ below (va_Qq (fun v u => gx (nn π0) g0 u ∧ v = rfo u r.2.2) (fun u t => PostW D (TYs k) A (cW k z u r.1 r.2.1) t) A) args s (nn r.1 - nn π0) (sw r.1 - sw π0) A) (F0 m 31 ls []) := by
  have hS := hC.1
  have hq := km_Sp_give_31    hC hv_x0 hm
  rw [Sp_give_31] at hm
  refine z_aload_n C dX9_give_31 rfl (lv_at hl 0 rfl) ?_
  obtain ⟨g10, hm⟩ := grd_s hm
  refine cg_10_10 C h g10 cU_X9 (List.mem_cons_of_mem _ wl_X9_37) dX9_give_32 ?_
  refine z_aload_n C dX9_give_35 rfl (lv_at hl 0 rfl) ?_
  refine cg_10_9 C h g10 cU_X9 (List.mem_cons_of_mem _ wl_X9_34) dX9_give_36 ?_
  refine lv_iload_n C.1 C.2.1 dX9_give_39 rfl (lv_at hl 1 rfl) ?_
  obtain ⟨g11, hm⟩ := grd_s hm
  obtain ⟨g12, hm⟩ := grd_s hm
  refine c_iast C h g11 g12 dX9_give_40 (fun H locs h => ?_)
  refine z_aload_n C dX9_give_41 rfl (lv_at hl 0 rfl) ?_
  refine lv_dup C.1 C.2.1 dX9_give_42 (rfv_cat _ _) ?_
  refine cg_10_9 C h g10 cU_X9 (List.mem_cons_of_mem _ wl_X9_34) dX9_give_43 ?_
  refine x_topi (y := Int32.ofInt (fl σ 209 x0)) rfl ?_
  refine lv_iconst (v := Int32.ofInt 1) C.1 C.2.1 dX9_give_46 (by decide) ?_
  refine z_iadd C dX9_give_47 ?_
  refine cp_10_9 C h g10 cU_X9 (List.mem_cons_of_mem _ wl_X9_34) dX9_give_48 (fun H locs h => ?_)
  refine z_aload_n C dX9_give_51 rfl (lv_at hl 0 rfl) ?_
  cases hm
  exact c_aretA C hG h hr hlk (Or.inl ⟨_, rfl⟩) dX9_give_52
set_option maxHeartbeats 8000000 in
set_option maxRecDepth 100000 in
theorem kl_Sp_give_28 {r : Sh × St × Int} (C : Cx p s m args c cX9_give RX9 (cd :: cWd) D (TYs k) 2) (hr : meth.sig.returnType = (some (.object "CycleStudio$Step"))) (hlk : meth.locks = false) (hE : Ev z mi aK aV A s s.heap)    {ls : Array Slot} {H : Heap} {locs : List Loc} {g : Nat → Nat} {π : Sh} {σ : St} {x0 : Int} {x1 : Int} {s0 : Int} {s1 : Int} (hC : Cl π σ) (hG : gx (nn π0) g0 g) (hX : ext π0 π) (hv_x0 : x0 < nn π) (hv_s0 : s0 < nn π) (hv_s1 : s1 < nn π) (hl : lv_has ls 2 [(0, rfv g x0), (1, .int (Int32.ofInt x1))]) (h : Hp D A s.heap H locs (cW k z g π σ)) (hm : Sp_give_28 N π σ x0 x1 s0 s1 = some r) : W p l e { frames := 2, cells := nn r.1 - nn π0, slots := sw r.1 - sw π0, locals := 82 } s m args below meth c H locs (nn π - nn π0) (sw π - sw π0) (MQ below (va_Qq (fun v u => gx (nn π0) g0 u ∧ v = rfo u r.2.2) (fun u t => PostW D (TYs k) A (cW k z u r.1 r.2.1) t) A) args s (nn r.1 - nn π0) (sw r.1 - sw π0) A) (F0 m 28 ls [rfv g s0, rfv g s1]) := by
  have hS := hC.1
  have hq := km_Sp_give_28    hC hv_x0 hv_s0 hv_s1 hm
  rw [Sp_give_28] at hm
  obtain ⟨g13, hm⟩ := grd_s hm
  refine cp_10_10 C h g13 cU_X9 (List.mem_cons_of_mem _ wl_X9_37) dX9_give_28 (fun H locs h => ?_)
  exact kl_Sp_give_31 (N := N) C hr hlk hE (cl_sfR hC _ _ hv_s0) hG hX hv_x0 (lv_sub hl [0, 1] rfl) h hm
set_option maxHeartbeats 8000000 in
set_option maxRecDepth 100000 in
theorem kc_Sp_give (l : Launch) (D : va_G) (k : Nat → ClassId) (z mi : Nat) (aK aV : Nat → Nat) (g : Nat → Nat) (N : Nat)    {π : Sh} {σ : St} {x0 : Int} {x1 : Int} {r : Sh × St × Int} (hC : Cl π σ) (hv_x0 : x0 < nn π) (hm : Sp_give N π σ x0 x1 = some r) : Mq l yX9_give (.code yX9_give cX9_give 2 (some (.object "CycleStudio$Step")) :: cWd) { frames := 2, cells := nn r.1 - nn π, slots := sw r.1 - sw π, locals := 82 } [rfv g x0, .int (Int32.ofInt x1)] D (TYs k) (cW k z g π σ) (XV z mi aK aV (cW k z g π σ)) (Nat → Nat) (fun v u => gx (nn π) g u ∧ v = rfo u r.2.2) (fun u => cW k z u r.1 r.2.1) (nn r.1 - nn π) (sw r.1 - sw π) := by
  have hS := hC.1
  have hq := km_Sp_give  hC hv_x0 hm
  intro sz
  refine v_met (cc := cX9_give) (maxL := 2) (ret := (some (.object "CycleStudio$Step"))) (lv := [(0, rfv g x0), (1, .int (Int32.ofInt x1))]) (by decide) rfl (by simp [lg_sl, rfv_cat, cat_i, cat_l]) (by simp [lv_args, rfv_cat, cat_i, cat_l]) ?_
  intro p e s m below meth c ls C hE hr hlk hmn hl h
  generalize ([rfv g x0, .int (Int32.ofInt x1)] : List Value).toArray = args at C ⊢
  have hG := gx.rf (nn π) g
  have hX := ext.rf π
  refine W_cast (Nat.sub_self (nn π)) (Nat.sub_self (sw π)) ?_
  rw [Sp_give] at hm
  refine z_aload_n C dX9_give_0 rfl (lv_at hl 0 rfl) ?_
  obtain ⟨g1, hm⟩ := grd_s hm
  refine cg_10_9 C h g1 cU_X9 (List.mem_cons_of_mem _ wl_X9_34) dX9_give_1 ?_
  refine z_aload_n C dX9_give_4 rfl (lv_at hl 0 rfl) ?_
  refine cg_10_10 C h g1 cU_X9 (List.mem_cons_of_mem _ wl_X9_37) dX9_give_5 ?_
  obtain ⟨g2, hm⟩ := grd_s hm
  obtain ⟨g3, hm⟩ := grd_s hm
  refine c_alen C h (t := 2) rfl g2 g3 dX9_give_8 ?_
  obtain ⟨g4, hm⟩ := grd_s hm
  obtain ⟨g5, hm⟩ := grd_s hm
  refine z_icmp_lt (tgt := 31) C dX9_give_9 (by decide) g4 g5 (fun c6 => ?_) (fun c6 => ?_)
  · have hm := ite_t c6 hm
    exact kl_Sp_give_31 (N := N) C hr hlk hE hC hG hX hv_x0 (lv_sub hl [0, 1] rfl) h hm
  · have hm := ite_f c6 hm
    refine z_aload_n C dX9_give_12 rfl (lv_at hl 0 rfl) ?_
    refine z_aload_n C dX9_give_13 rfl (lv_at hl 0 rfl) ?_
    refine cg_10_10 C h g1 cU_X9 (List.mem_cons_of_mem _ wl_X9_37) dX9_give_14 ?_
    refine lv_iconst (v := Int32.ofInt 2) C.1 C.2.1 dX9_give_17 (by decide) ?_
    refine z_aload_n C dX9_give_18 rfl (lv_at hl 0 rfl) ?_
    refine cg_10_9 C h g1 cU_X9 (List.mem_cons_of_mem _ wl_X9_34) dX9_give_19 ?_
    refine z_imul C dX9_give_22 ?_
    refine lv_iconst (v := Int32.ofInt 1) C.1 C.2.1 dX9_give_23 (by decide) ?_
    refine z_iadd C dX9_give_24 ?_
    obtain ⟨r7, e8, hm⟩ := obd_s hm
    have q9 := (km_A_copy hC (cl_fl hC (f := 210) rfl x0) e8)
    have q := km_Sp_give_28   q9.2.1 (lt_ext hv_x0 q9.1) q9.2.2 (lt_ext hv_x0 q9.1) hm
    refine c_callSqA C hE h (kc_A_copy l D k z mi aK aV g hC (cl_fl hC (f := 210) rfl x0) e8) (v_cwS 2 C.2.2.1 (gC_J7_copyOf_59c91 _) rfl rfl rfl (C.2.2.1 _ (List.mem_cons_of_mem _ wt_J7)) (C.2.2.1 _ (List.mem_cons_of_mem _ wm_X9_56)) (C.2.2.1 _ (List.mem_cons_of_mem _ ws_J7_copyOf_59c91)) hdS_J7_copyOf_59c91 ⟨Nat.le_of_ble_eq_true rfl, Nat.le_of_ble_eq_true rfl⟩) rfl hl.1 rfl (by simp [rfv_cat, cat_i, cat_l]) dX9_give_25 ⟨rcC hX q9.1 q.1, rsC hX q9.1 q.1⟩ (fun u H locs hg h => ?_)
    simp only [← gx_rfv hg hv_x0] at hl
    try simp only [← gx_rfv hg hv_x0]
    refine W_cast (wcC hX q9.1).symm (wsC hX q9.1).symm ?_
    exact kl_Sp_give_28 (N := N) C hr hlk hE   q9.2.1 (hG.tr hg hX.1) (hX.tr q9.1) (lt_ext hv_x0 q9.1) q9.2.2 (lt_ext hv_x0 q9.1) (lv_sub hl [0, 1] rfl) h hm
end Z_Sp_give
section Z_Sp_init
variable {p : Program} {l : Launch} {e : Env} {s : State} {m : MethodId} {args : Array Value} {below : List Frame} {meth : Method} {c : Code} {D : va_G} {A : Nat → Prop} {k : Nat → ClassId} {N : Nat} {cd : Cond} {z mi : Nat} {aK aV : Nat → Nat} {g0 : Nat → Nat} {π0 : Sh}
set_option maxHeartbeats 8000000 in
set_option maxRecDepth 100000 in
theorem kl_Sp_init_48 {r : Sh × St} (C : Cx p s m args c cX9_init RX9 (cd :: cWd) D (TYs k) 3) (hr : meth.sig.returnType = none) (hlk : meth.locks = false) (hmn : meth.name = "<init>") (hE : Ev z mi aK aV A s s.heap)    {ls : Array Slot} {H : Heap} {locs : List Loc} {g : Nat → Nat} {π : Sh} {σ : St} {x0 : Int} {x1 : Int} {x2 : Int} {s0 : Int} {s1 : Int} (hC : Cl π σ) (hG : gx (nn π0) g0 g) (hX : ext π0 π) (hv_x0 : x0 < nn π) (hv_s0 : s0 < nn π) (hv_s1 : s1 < nn π) (hl : lv_has ls 3 [(0, rfv g x0), (1, .int (Int32.ofInt x1)), (2, .int (Int32.ofInt x2))]) (h : Hp D A s.heap H locs (cW k z g π σ)) (hm : Sp_init_48 N π σ x0 x1 x2 s0 s1 = some r) : W p l e { frames := 1, cells := nn r.1 - nn π0, slots := sw r.1 - sw π0, locals := 30 } s m args below meth c H locs (nn π - nn π0) (sw π - sw π0) (MQ below (va_Qv (fun u => gx (nn π0) g0 u) (fun u t => PostW D (TYs k) A (cW k z u r.1 r.2) t) A) args s (nn r.1 - nn π0) (sw r.1 - sw π0) A) (F0 m 48 ls [rfv g s0, rfv g s1]) := by
  have hS := hC.1
  have hq := km_Sp_init_48    hC hv_x0 hv_s0 hv_s1 hm
  rw [Sp_init_48] at hm
  obtain ⟨g6, hm⟩ := grd_s hm
  refine cp_10_10 C h g6 cU_X9 (List.mem_cons_of_mem _ wl_X9_37) dX9_init_48 (fun H locs h => ?_)
  refine z_aload_n C dX9_init_51 rfl (lv_at hl 0 rfl) ?_
  refine z_null (g := g) C dX9_init_52 ?_
  obtain ⟨g7, hm⟩ := grd_s hm
  refine cp_10_11 C h g7 cU_X9 (List.mem_cons_of_mem _ wl_X9_41) dX9_init_53 (fun H locs h => ?_)
  refine z_aload_n C dX9_init_56 rfl (lv_at hl 0 rfl) ?_
  refine z_null (g := g) C dX9_init_57 ?_
  refine cp_10_12 C h g7 cU_X9 (List.mem_cons_of_mem _ wl_X9_44) dX9_init_58 (fun H locs h => ?_)
  refine z_aload_n C dX9_init_61 rfl (lv_at hl 0 rfl) ?_
  refine z_null (g := g) C dX9_init_62 ?_
  refine cp_10_13 C h g7 cU_X9 (List.mem_cons_of_mem _ wl_X9_47) dX9_init_63 (fun H locs h => ?_)
  refine z_aload_n C dX9_init_66 rfl (lv_at hl 0 rfl) ?_
  refine lv_iload_n C.1 C.2.1 dX9_init_67 rfl (lv_at hl 1 rfl) ?_
  refine cpF_10_0 C hmn h g7 cU_X9 (List.mem_cons_of_mem _ wl_X9_50) rfl dX9_init_68 (fun H locs h => ?_)
  refine z_aload_n C dX9_init_71 rfl (lv_at hl 0 rfl) ?_
  refine lv_iload_n C.1 C.2.1 dX9_init_72 rfl (lv_at hl 2 rfl) ?_
  refine cpF_10_1 C hmn h g7 cU_X9 (List.mem_cons_of_mem _ wl_X9_53) rfl dX9_init_73 (fun H locs h => ?_)
  cases hm
  exact c_vretA C hG h hr hlk dX9_init_76
set_option maxHeartbeats 8000000 in
set_option maxRecDepth 100000 in
theorem kc_Sp_init (l : Launch) (D : va_G) (k : Nat → ClassId) (z mi : Nat) (aK aV : Nat → Nat) (g : Nat → Nat) (N : Nat)    {π : Sh} {σ : St} {x0 : Int} {x1 : Int} {x2 : Int} {r : Sh × St} (hC : Cl π σ) (hv_x0 : x0 < nn π) (hm : Sp_init N π σ x0 x1 x2 = some r) : Mv l yX9_init (.code yX9_init cX9_init 3 none :: cWd) { frames := 1, cells := nn r.1 - nn π, slots := sw r.1 - sw π, locals := 30 } [rfv g x0, .int (Int32.ofInt x1), .int (Int32.ofInt x2)] D (TYs k) (cW k z g π σ) (XV z mi aK aV (cW k z g π σ)) (Nat → Nat) (fun u => gx (nn π) g u) (fun u => cW k z u r.1 r.2) (nn r.1 - nn π) (sw r.1 - sw π) := by
  have hS := hC.1
  have hq := km_Sp_init  hC hv_x0 hm
  intro sz
  refine v_met (cc := cX9_init) (maxL := 3) (ret := none) (lv := [(0, rfv g x0), (1, .int (Int32.ofInt x1)), (2, .int (Int32.ofInt x2))]) (by decide) rfl (by simp [lg_sl, rfv_cat, cat_i, cat_l]) (by simp [lv_args, rfv_cat, cat_i, cat_l]) ?_
  intro p e s m below meth c ls C hE hr hlk hmn hl h
  generalize ([rfv g x0, .int (Int32.ofInt x1), .int (Int32.ofInt x2)] : List Value).toArray = args at C ⊢
  have hG := gx.rf (nn π) g
  have hX := ext.rf π
  refine W_cast (Nat.sub_self (nn π)) (Nat.sub_self (sw π)) ?_
  rw [Sp_init] at hm
  refine z_aload_n C dX9_init_0 rfl (lv_at hl 0 rfl) ?_
  obtain ⟨g1, hm⟩ := grd_s hm
  refine v_objInit C hl.1 g1.1 dX9_init_1 (List.mem_cons_of_mem _ wo_X9_1) (List.mem_cons_of_mem _ wo_i) (List.mem_cons_of_mem _ wo_c) (Nat.le_of_ble_eq_true rfl) (by simp [rfv_cat, cat_i, cat_l]) ?_
  refine z_aload_n C dX9_init_4 rfl (lv_at hl 0 rfl) ?_
  refine lv_iconst (v := Int32.ofInt 0) C.1 C.2.1 dX9_init_5 (by decide) ?_
  refine cp_10_2 C h g1 cU_X9 (List.mem_cons_of_mem _ wl_X9_7) dX9_init_6 (fun H locs h => ?_)
  refine z_aload_n C dX9_init_9 rfl (lv_at hl 0 rfl) ?_
  refine lv_iconst (v := Int32.ofInt 0) C.1 C.2.1 dX9_init_10 (by decide) ?_
  refine cp_10_3 C h g1 cU_X9 (List.mem_cons_of_mem _ wl_X9_13) dX9_init_11 (fun H locs h => ?_)
  refine z_aload_n C dX9_init_14 rfl (lv_at hl 0 rfl) ?_
  refine lv_iconst (v := Int32.ofInt 0) C.1 C.2.1 dX9_init_15 (by decide) ?_
  refine cp_10_4 C h g1 cU_X9 (List.mem_cons_of_mem _ wl_X9_16) dX9_init_16 (fun H locs h => ?_)
  refine z_aload_n C dX9_init_19 rfl (lv_at hl 0 rfl) ?_
  refine lv_iconst (v := Int32.ofInt 0) C.1 C.2.1 dX9_init_20 (by decide) ?_
  refine cp_10_5 C h g1 cU_X9 (List.mem_cons_of_mem _ wl_X9_19) dX9_init_21 (fun H locs h => ?_)
  refine z_aload_n C dX9_init_24 rfl (lv_at hl 0 rfl) ?_
  refine lv_iconst (v := Int32.ofInt 0) C.1 C.2.1 dX9_init_25 (by decide) ?_
  refine cp_10_6 C h g1 (by decide) cU_X9 (List.mem_cons_of_mem _ wl_X9_22) dX9_init_26 (fun H locs h => ?_)
  refine z_aload_n C dX9_init_29 rfl (lv_at hl 0 rfl) ?_
  refine lv_lconst (v := Int64.ofInt 0) C.1 C.2.1 dX9_init_30 (by decide) ?_
  refine cp_10_7 C h g1 cU_X9 (List.mem_cons_of_mem _ wl_X9_26) dX9_init_31 (fun H locs h => ?_)
  refine z_aload_n C dX9_init_34 rfl (lv_at hl 0 rfl) ?_
  refine z_null (g := g) C dX9_init_35 ?_
  refine cp_10_8 C h g1 cU_X9 (List.mem_cons_of_mem _ wl_X9_30) dX9_init_36 (fun H locs h => ?_)
  refine z_aload_n C dX9_init_39 rfl (lv_at hl 0 rfl) ?_
  refine lv_iconst (v := Int32.ofInt 0) C.1 C.2.1 dX9_init_40 (by decide) ?_
  refine cp_10_9 C h g1 cU_X9 (List.mem_cons_of_mem _ wl_X9_34) dX9_init_41 (fun H locs h => ?_)
  refine z_aload_n C dX9_init_44 rfl (lv_at hl 0 rfl) ?_
  refine lv_iconst (v := Int32.ofInt 2) C.1 C.2.1 dX9_init_45 (by decide) ?_
  obtain ⟨σ2, e3, hm⟩ := bnd_s hm
  rw [e3] at h
  have hC4 : Cl π σ2 := e3 ▸ (cl_sfI (cl_sfR (cl_sfI (cl_sfI (cl_sfI (cl_sfI (cl_sfI (cl_sfI hC (f := 202) rfl _ _) (f := 203) rfl _ _) (f := 204) rfl _ _) (f := 205) rfl _ _) (f := 206) rfl _ _) (f := 207) rfl _ _) _ _ (lt_m1 π)) (f := 209) rfl _ _)
  have q := km_Sp_init_48   ((cl_nA hC4 (t := 2) (by decide) _)) (lt_ext hv_x0 (ext_nA π 2 2)) lt_nA (lt_ext hv_x0 (ext_nA π 2 2)) hm
  refine c_newa_int C h hC4 dX9_init_46 (List.mem_cons_of_mem _ wa_int) (by decide) (by decide) (rc1A hX q.1) (rs1A hX q.1) (fun u H hg h => ?_)
  simp only [← gx_rfv hg hv_x0] at hl
  try simp only [← gx_rfv hg hv_x0]
  refine W_cast (wcA (t := 2) (n := 2) hX).symm (wsA (t := 2) (n := 2) hX).symm ?_
  exact kl_Sp_init_48 (N := N) C hr hlk hmn hE   ((cl_nA hC4 (t := 2) (by decide) _)) (hG.tr hg hX.1) (hX.tr (ext_nA π 2 2)) (lt_ext hv_x0 (ext_nA π 2 2)) lt_nA (lt_ext hv_x0 (ext_nA π 2 2)) (lv_sub hl [0, 1, 2] rfl) h hm
end Z_Sp_init
