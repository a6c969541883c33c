section Z_Df_init
variable {p : Program} {l : Launch} {e : Env} {s : State} {m : MethodId} {args : Array Value} {below : List Frame} {meth : Method} {c : Code} {D : va_G} {A : Nat → Prop} {k : Nat → ClassId} {N : Nat} {cd : Cond} {z mi : Nat} {aK aV : Nat → Nat} {g0 : Nat → Nat} {π0 : Sh}
set_option maxHeartbeats 8000000 in
set_option maxRecDepth 100000 in
theorem kl_Df_init_35 {r : Sh × St} (C : Cx p s m args c cX0_init RX0 (cd :: cWd) D (TYs k) 3) (hr : meth.sig.returnType = none) (hlk : meth.locks = false) (hmn : meth.name = "<init>") (hE : Ev z mi aK aV A s s.heap)    {ls : Array Slot} {H : Heap} {locs : List Loc} {g : Nat → Nat} {π : Sh} {σ : St} {x0 : Int} {x1 : Int} {s0 : Int} {s1 : Int} (hC : Cl π σ) (hG : gx (nn π0) g0 g) (hX : ext π0 π) (hv_x0 : x0 < nn π) (hv_s0 : s0 < nn π) (hv_s1 : s1 < nn π) (hl : lv_has ls 3 [(0, rfv g x0), (1, .long (Int64.ofInt x1))]) (h : Hp D A s.heap H locs (cW k z g π σ)) (hm : Df_init_35 N π σ x0 x1 s0 s1 = some r) : W p l e { frames := 6, cells := nn r.1 - nn π0, slots := sw r.1 - sw π0, locals := 120 } s m args below meth c H locs (nn π - nn π0) (sw π - sw π0) (MQ below (va_Qv (fun u => gx (nn π0) g0 u) (fun u t => PostW D (TYs k) A (cW k z u r.1 r.2) t) A) args s (nn r.1 - nn π0) (sw r.1 - sw π0) A) (F0 m 35 ls [rfv g s0, rfv g s1]) := by
  have hS := hC.1
  have hq := km_Df_init_35    hC hv_x0 hv_s0 hv_s1 hm
  rw [Df_init_35] at hm
  obtain ⟨g14, hm⟩ := grd_s hm
  refine cpF_1_4 C hmn h g14 cU_X0 (List.mem_cons_of_mem _ wl_X0_24) rfl dX0_init_35 (fun H locs h => ?_)
  refine z_aload_n C dX0_init_38 rfl (lv_at hl 0 rfl) ?_
  refine lv_iconst (v := Int32.ofInt 0) C.1 C.2.1 dX0_init_39 (by decide) ?_
  obtain ⟨g15, hm⟩ := grd_s hm
  refine cp_1_5 C h g15 cU_X0 (List.mem_cons_of_mem _ wl_X0_27) dX0_init_40 (fun H locs h => ?_)
  refine z_aload_n C dX0_init_43 rfl (lv_at hl 0 rfl) ?_
  refine z_null (g := g) C dX0_init_44 ?_
  refine cp_1_6 C h g15 cU_X0 (List.mem_cons_of_mem _ wl_X0_30) dX0_init_45 (fun H locs h => ?_)
  refine z_aload_n C dX0_init_48 rfl (lv_at hl 0 rfl) ?_
  refine lv_lload_n C.1 C.2.1 dX0_init_49 rfl (lv_at hl 1 rfl) ?_
  refine cpF_1_0 C hmn h g15 cU_X0 (List.mem_cons_of_mem _ wl_X0_34) rfl dX0_init_50 (fun H locs h => ?_)
  cases hm
  exact c_vretA C hG h hr hlk dX0_init_53
set_option maxHeartbeats 8000000 in
set_option maxRecDepth 100000 in
theorem kl_Df_init_24 {r : Sh × St} (C : Cx p s m args c cX0_init RX0 (cd :: cWd) D (TYs k) 3) (hr : meth.sig.returnType = none) (hlk : meth.locks = false) (hmn : meth.name = "<init>") (hE : Ev z mi aK aV A s s.heap)    {ls : Array Slot} {H : Heap} {locs : List Loc} {g : Nat → Nat} {π : Sh} {σ : St} {x0 : Int} {x1 : Int} {s0 : Int} {s1 : Int} (hC : Cl π σ) (hG : gx (nn π0) g0 g) (hX : ext π0 π) (hv_x0 : x0 < nn π) (hv_s0 : s0 < nn π) (hv_s1 : s1 < nn π) (hl : lv_has ls 3 [(0, rfv g x0), (1, .long (Int64.ofInt x1))]) (h : Hp D A s.heap H locs (cW k z g π σ)) (hm : Df_init_24 N π σ x0 x1 s0 s1 = some r) : W p l e { frames := 6, cells := nn r.1 - nn π0, slots := sw r.1 - sw π0, locals := 120 } s m args below meth c H locs (nn π - nn π0) (sw π - sw π0) (MQ below (va_Qv (fun u => gx (nn π0) g0 u) (fun u t => PostW D (TYs k) A (cW k z u r.1 r.2) t) A) args s (nn r.1 - nn π0) (sw r.1 - sw π0) A) (F0 m 24 ls [rfv g s0, rfv g s1]) := by
  have hS := hC.1
  have hq := km_Df_init_24    hC hv_x0 hv_s0 hv_s1 hm
  rw [Df_init_24] at hm
  obtain ⟨g9, hm⟩ := grd_s hm
  refine cpF_1_3 C hmn h g9 cU_X0 (List.mem_cons_of_mem _ wl_X0_20) rfl dX0_init_24 (fun H locs h => ?_)
  refine z_aload_n C dX0_init_27 rfl (lv_at hl 0 rfl) ?_
  obtain ⟨σ10, e11, hm⟩ := bnd_s hm
  rw [e11] at h
  have hC12 : Cl π σ10 := e11 ▸ (cl_sfR hC _ _ hv_s0)
  have q := km_Df_init_35   ((cl_nO hC12 (by decide) (by decide) _)) (lt_ext hv_x0 (ext_nO π 0 3)) lt_nO (lt_ext hv_x0 (ext_nO π 0 3)) hm
  refine c_newL C hE h hC12 dX0_init_28 dX0_init_31 dX0_init_32 (List.mem_cons_of_mem _ wn_X0_17) (List.mem_cons_of_mem _ wi_Jx4a65c) (List.mem_cons_of_mem _ wt_Jx4a65c) cU_Jx4a65c (cwI 0 C.2.2.1 (gC_Linit _) rfl rfl rfl (C.2.2.1 _ (List.mem_cons_of_mem _ wt_Jx4a65c)) (C.2.2.1 _ (List.mem_cons_of_mem _ wm_X0_19)) (C.2.2.1 _ (List.mem_cons_of_mem _ wj_Linit)) rfl hdS_Linit ⟨Nat.le_of_ble_eq_true rfl, Nat.le_of_ble_eq_true rfl⟩) hl.1 (by simp [rfv_cat, cat_i, cat_l]) (rc1 hX q.1) (rs1 hX q.1) (fun u H locs hg h => ?_)
  simp only [← gx_rfv hg hv_x0] at hl
  try simp only [← gx_rfv hg hv_x0]
  refine W_cast (wcO (c := 0) (w := 3) hX).symm (wsO (c := 0) (w := 3) hX).symm ?_
  exact kl_Df_init_35 (N := N) C hr hlk hmn hE   ((cl_nO hC12 (by decide) (by decide) _)) (hG.tr hg hX.1) (hX.tr (ext_nO π 0 3)) (lt_ext hv_x0 (ext_nO π 0 3)) lt_nO (lt_ext hv_x0 (ext_nO π 0 3)) (lv_sub hl [0, 1] rfl) h hm
set_option maxHeartbeats 8000000 in
set_option maxRecDepth 100000 in
theorem kl_Df_init_8 {r : Sh × St} (C : Cx p s m args c cX0_init RX0 (cd :: cWd) D (TYs k) 3) (hr : meth.sig.returnType = none) (hlk : meth.locks = false) (hmn : meth.name = "<init>") (hE : Ev z mi aK aV A s s.heap)    {ls : Array Slot} {H : Heap} {locs : List Loc} {g : Nat → Nat} {π : Sh} {σ : St} {x0 : Int} {x1 : Int} {s0 : Int} {s1 : Int} (hC : Cl π σ) (hG : gx (nn π0) g0 g) (hX : ext π0 π) (hv_x0 : x0 < nn π) (hv_s0 : s0 < nn π) (hv_s1 : s1 < nn π) (hl : lv_has ls 3 [(0, rfv g x0), (1, .long (Int64.ofInt x1))]) (h : Hp D A s.heap H locs (cW k z g π σ)) (hm : Df_init_8 N π σ x0 x1 s0 s1 = some r) : W p l e { frames := 6, cells := nn r.1 - nn π0, slots := sw r.1 - sw π0, locals := 120 } s m args below meth c H locs (nn π - nn π0) (sw π - sw π0) (MQ below (va_Qv (fun u => gx (nn π0) g0 u) (fun u t => PostW D (TYs k) A (cW k z u r.1 r.2) t) A) args s (nn r.1 - nn π0) (sw r.1 - sw π0) A) (F0 m 8 ls [rfv g s0, rfv g s1]) := by
  have hS := hC.1
  have hq := km_Df_init_8    hC hv_x0 hv_s0 hv_s1 hm
  rw [Df_init_8] at hm
  obtain ⟨g3, hm⟩ := grd_s hm
  refine cpF_1_1 C hmn h g3 cU_X0 (List.mem_cons_of_mem _ wl_X0_9) rfl dX0_init_8 (fun H locs h => ?_)
  refine z_aload_n C dX0_init_11 rfl (lv_at hl 0 rfl) ?_
  refine lv_iconst (v := Int32.ofInt 0) C.1 C.2.1 dX0_init_12 (by decide) ?_
  obtain ⟨g4, hm⟩ := grd_s hm
  refine cp_1_2 C h g4 cU_X0 (List.mem_cons_of_mem _ wl_X0_13) dX0_init_13 (fun H locs h => ?_)
  refine z_aload_n C dX0_init_16 rfl (lv_at hl 0 rfl) ?_
  obtain ⟨σ5, e6, hm⟩ := bnd_s hm
  rw [e6] at h
  have hC7 : Cl π σ5 := e6 ▸ (cl_sfI (cl_sfR hC _ _ hv_s0) (f := 22) rfl _ _)
  have q := km_Df_init_24   ((cl_nO hC7 (by decide) (by decide) _)) (lt_ext hv_x0 (ext_nO π 0 3)) lt_nO (lt_ext hv_x0 (ext_nO π 0 3)) hm
  refine c_newL C hE h hC7 dX0_init_17 dX0_init_20 dX0_init_21 (List.mem_cons_of_mem _ wn_X0_17) (List.mem_cons_of_mem _ wi_Jx4a65c) (List.mem_cons_of_mem _ wt_Jx4a65c) cU_Jx4a65c (cwI 0 C.2.2.1 (gC_Linit _) rfl rfl rfl (C.2.2.1 _ (List.mem_cons_of_mem _ wt_Jx4a65c)) (C.2.2.1 _ (List.mem_cons_of_mem _ wm_X0_19)) (C.2.2.1 _ (List.mem_cons_of_mem _ wj_Linit)) rfl hdS_Linit ⟨Nat.le_of_ble_eq_true rfl, Nat.le_of_ble_eq_true rfl⟩) hl.1 (by simp [rfv_cat, cat_i, cat_l]) (rc1 hX q.1) (rs1 hX q.1) (fun u H locs hg h => ?_)
  simp only [← gx_rfv hg hv_x0] at hl
  try simp only [← gx_rfv hg hv_x0]
  refine W_cast (wcO (c := 0) (w := 3) hX).symm (wsO (c := 0) (w := 3) hX).symm ?_
  exact kl_Df_init_24 (N := N) C hr hlk hmn hE   ((cl_nO hC7 (by decide) (by decide) _)) (hG.tr hg hX.1) (hX.tr (ext_nO π 0 3)) (lt_ext hv_x0 (ext_nO π 0 3)) lt_nO (lt_ext hv_x0 (ext_nO π 0 3)) (lv_sub hl [0, 1] rfl) h hm
set_option maxHeartbeats 8000000 in
set_option maxRecDepth 100000 in
theorem kc_Df_init (l : Launch) (D : va_G) (k : Nat → ClassId) (z mi : Nat) (aK aV : Nat → Nat) (g : Nat → Nat) (N : Nat)    {π : Sh} {σ : St} {x0 : Int} {x1 : Int} {r : Sh × St} (hC : Cl π σ) (hv_x0 : x0 < nn π) (hm : Df_init N π σ x0 x1 = some r) : Mv l yX0_init (.code yX0_init cX0_init 3 none :: cWd) { frames := 6, cells := nn r.1 - nn π, slots := sw r.1 - sw π, locals := 120 } [rfv g x0, .long (Int64.ofInt x1)] D (TYs k) (cW k z g π σ) (XV z mi aK aV (cW k z g π σ)) (Nat → Nat) (fun u => gx (nn π) g u) (fun u => cW k z u r.1 r.2) (nn r.1 - nn π) (sw r.1 - sw π) := by
  have hS := hC.1
  have hq := km_Df_init  hC hv_x0 hm
  intro sz
  refine v_met (cc := cX0_init) (maxL := 3) (ret := none) (lv := [(0, rfv g x0), (1, .long (Int64.ofInt x1))]) (by decide) rfl (by simp [lg_sl, rfv_cat, cat_i, cat_l]) (by simp [lv_args, rfv_cat, cat_i, cat_l]) ?_
  intro p e s m below meth c ls C hE hr hlk hmn hl h
  generalize ([rfv g x0, .long (Int64.ofInt x1)] : List Value).toArray = args at C ⊢
  have hG := gx.rf (nn π) g
  have hX := ext.rf π
  refine W_cast (Nat.sub_self (nn π)) (Nat.sub_self (sw π)) ?_
  rw [Df_init] at hm
  refine z_aload_n C dX0_init_0 rfl (lv_at hl 0 rfl) ?_
  obtain ⟨g1, hm⟩ := grd_s hm
  refine v_objInit C hl.1 g1.1 dX0_init_1 (List.mem_cons_of_mem _ wo_X0_1) (List.mem_cons_of_mem _ wo_i) (List.mem_cons_of_mem _ wo_c) (Nat.le_of_ble_eq_true rfl) (by simp [rfv_cat, cat_i, cat_l]) ?_
  refine z_aload_n C dX0_init_4 rfl (lv_at hl 0 rfl) ?_
  refine lv_iconst (v := Int32.ofInt 4) C.1 C.2.1 dX0_init_5 (by decide) ?_
  have q := km_Df_init_8   ((cl_nA hC (t := 3) (by decide) _)) (lt_ext hv_x0 (ext_nA π 3 4)) lt_nA (lt_ext hv_x0 (ext_nA π 3 4)) hm
  refine c_newa_long C h hC dX0_init_6 (List.mem_cons_of_mem _ wa_long) (by decide) (by decide) (rc1A hX q.1) (rs1A hX q.1) (fun u H hg h => ?_)
  simp only [← gx_rfv hg hv_x0] at hl
  try simp only [← gx_rfv hg hv_x0]
  refine W_cast (wcA (t := 3) (n := 4) hX).symm (wsA (t := 3) (n := 4) hX).symm ?_
  exact kl_Df_init_8 (N := N) C hr hlk hmn hE   ((cl_nA hC (t := 3) (by decide) _)) (hG.tr hg hX.1) (hX.tr (ext_nA π 3 4)) (lt_ext hv_x0 (ext_nA π 3 4)) lt_nA (lt_ext hv_x0 (ext_nA π 3 4)) (lv_sub hl [0, 1] rfl) h hm
end Z_Df_init
section Z_Df_add
variable {p : Program} {l : Launch} {e : Env} {s : State} {m : MethodId} {args : Array Value} {below : List Frame} {meth : Method} {c : Code} {D : va_G} {A : Nat → Prop} {k : Nat → ClassId} {N : Nat} {cd : Cond} {z mi : Nat} {aK aV : Nat → Nat} {g0 : Nat → Nat} {π0 : Sh}
set_option maxHeartbeats 8000000 in
set_option maxRecDepth 100000 in
theorem kl_Df_add_8 {r : Sh × St × Int} (C : Cx p s m args c cX0_add RX0 (cd :: cWd) D (TYs k) 2) (hr : meth.sig.returnType = (some .int)) (hlk : meth.locks = false) (hE : Ev z mi aK aV A s s.heap)    {ls : Array Slot} {H : Heap} {locs : List Loc} {g : Nat → Nat} {π : Sh} {σ : St} {x0 : Int} {s0 : Int} (hC : Cl π σ) (hG : gx (nn π0) g0 g) (hX : ext π0 π) (hv_x0 : x0 < nn π) (hl : lv_has ls 2 [(0, rfv g x0)]) (h : Hp D A s.heap H locs (cW k z g π σ)) (hm : Df_add_8 N π σ x0 s0 = some r) : W p l e { frames := 7, cells := nn r.1 - nn π0, slots := sw r.1 - sw π0, locals := 241 } s m args below meth c H locs (nn π - nn π0) (sw π - sw π0) (MQ below (va_Qi (fun v u => gx (nn π0) g0 u ∧ v = Int32.ofInt r.2.2) (fun u t => PostW D (TYs k) A (cW k z u r.1 r.2.1) t) A) args s (nn r.1 - nn π0) (sw r.1 - sw π0) A) (F0 m 8 ls [.int (Int32.ofInt s0)]) := by
  have hS := hC.1
  have hq := km_Df_add_8    hC hv_x0 hm
  rw [Df_add_8] at hm
  refine lv_pop C.1 C.2.1 dX0_add_8 rfl ?_
  refine z_aload_n C dX0_add_9 rfl (lv_at hl 0 rfl) ?_
  obtain ⟨g6, hm⟩ := grd_s hm
  refine cg_1_2 C h g6 cU_X0 (List.mem_cons_of_mem _ wl_X0_13) dX0_add_10 ?_
  refine z_aload_n C dX0_add_13 rfl (lv_at hl 0 rfl) ?_
  refine cg_1_3 C h g6 cU_X0 (List.mem_cons_of_mem _ wl_X0_20) dX0_add_14 ?_
  obtain ⟨r7, e8, hm⟩ := obd_s hm
  have q9 := (km_L_size hC (cl_fl hC (f := 23) rfl x0) e8)
  obtain ⟨g10, hm⟩ := grd_s hm
  refine c_callViP C hE h g10 rfl (by decide) (kc_L_size l D k z mi aK aV g hS e8) (cwV 0 C.2.2.1 (gS_X0_42 _) rfl rfl rfl hd_Jx4a65c_size_8abf5 ⟨Nat.le_of_ble_eq_true rfl, Nat.le_of_ble_eq_true rfl⟩) rfl hl.1 rfl (Nat.le_of_ble_eq_true rfl) dX0_add_17 ⟨(czz hX hq.1), (szz hX hq.1)⟩ (fun H locs h => ?_)
  have hC11 : Cl π r7.1 := q9
  refine z_iadd C dX0_add_20 ?_
  refine lv_iconst (v := Int32.ofInt 1) C.1 C.2.1 dX0_add_21 (by decide) ?_
  refine z_isub C dX0_add_22 ?_
  cases hm
  exact c_iretA C hG h hr hlk dX0_add_23 rfl
set_option maxHeartbeats 8000000 in
set_option maxRecDepth 100000 in
theorem kc_Df_add (l : Launch) (D : va_G) (k : Nat → ClassId) (z mi : Nat) (aK aV : Nat → Nat) (g : Nat → Nat) (N : Nat)    {π : Sh} {σ : St} {x0 : Int} {x1 : Int} {r : Sh × St × Int} (hC : Cl π σ) (hv_x0 : x0 < nn π) (hv_x1 : x1 < nn π) (hm : Df_add N π σ x0 x1 = some r) : Mi l yX0_add (.code yX0_add cX0_add 2 (some .int) :: cWd) { frames := 7, cells := nn r.1 - nn π, slots := sw r.1 - sw π, locals := 241 } [rfv g x0, rfv g x1] D (TYs k) (cW k z g π σ) (XV z mi aK aV (cW k z g π σ)) (Nat → Nat) (fun v u => gx (nn π) g u ∧ v = Int32.ofInt r.2.2) (fun u => cW k z u r.1 r.2.1) (nn r.1 - nn π) (sw r.1 - sw π) := by
  have hS := hC.1
  have hq := km_Df_add  hC hv_x0 hv_x1 hm
  intro sz
  refine v_met (cc := cX0_add) (maxL := 2) (ret := (some .int)) (lv := [(0, rfv g x0), (1, rfv g x1)]) (by decide) rfl (by simp [lg_sl, rfv_cat, cat_i, cat_l]) (by simp [lv_args, rfv_cat, cat_i, cat_l]) ?_
  intro p e s m below meth c ls C hE hr hlk hmn hl h
  generalize ([rfv g x0, rfv g x1] : List Value).toArray = args at C ⊢
  have hG := gx.rf (nn π) g
  have hX := ext.rf π
  refine W_cast (Nat.sub_self (nn π)) (Nat.sub_self (sw π)) ?_
  rw [Df_add] at hm
  refine z_aload_n C dX0_add_0 rfl (lv_at hl 0 rfl) ?_
  obtain ⟨g1, hm⟩ := grd_s hm
  refine cg_1_3 C h g1 cU_X0 (List.mem_cons_of_mem _ wl_X0_20) dX0_add_1 ?_
  refine z_aload_n C dX0_add_4 rfl (lv_at hl 1 rfl) ?_
  obtain ⟨r2, e3, hm⟩ := obd_s hm
  have q4 := (km_L_add hC (cl_fl hC (f := 23) rfl x0) hv_x1 e3)
  obtain ⟨g5, hm⟩ := grd_s hm
  have q := km_Df_add_8   q4.2 (lt_ext hv_x0 q4.1) hm
  refine c_callViA C hE h g5 rfl (by decide) (kc_L_add l D k z mi aK aV g hC (cl_fl hC (f := 23) rfl x0) hv_x1 e3) (cwV 1 C.2.2.1 (gS_X0_38 _) rfl rfl rfl hd_Jx4a65c_add_9ea2d ⟨Nat.le_of_ble_eq_true rfl, Nat.le_of_ble_eq_true rfl⟩) rfl hl.1 rfl (Nat.le_of_ble_eq_true rfl) dX0_add_5 ⟨rcC hX q4.1 q.1, rsC hX q4.1 q.1⟩ (fun u H locs hg h => ?_)
  simp only [← gx_rfv hg hv_x0, ← gx_rfv hg hv_x1] at hl
  try simp only [← gx_rfv hg hv_x0, ← gx_rfv hg hv_x1]
  refine W_cast (wcC hX q4.1).symm (wsC hX q4.1).symm ?_
  exact kl_Df_add_8 (N := N) C hr hlk hE   q4.2 (hG.tr hg hX.1) (hX.tr q4.1) (lt_ext hv_x0 q4.1) (lv_sub hl [0] rfl) h hm
end Z_Df_add
section Z_Df_addKnown
variable {p : Program} {l : Launch} {e : Env} {s : State} {m : MethodId} {args : Array Value} {below : List Frame} {meth : Method} {c : Code} {D : va_G} {A : Nat → Prop} {k : Nat → ClassId} {N : Nat} {cd : Cond} {z mi : Nat} {aK aV : Nat → Nat} {g0 : Nat → Nat} {π0 : Sh}
set_option maxHeartbeats 8000000 in
set_option maxRecDepth 100000 in
theorem kl_Df_addKnown_8 {r : Sh × St × Int} (C : Cx p s m args c cX0_addKnown RX0 (cd :: cWd) D (TYs k) 2) (hr : meth.sig.returnType = (some .int)) (hlk : meth.locks = false) (hE : Ev z mi aK aV A s s.heap)    {ls : Array Slot} {H : Heap} {locs : List Loc} {g : Nat → Nat} {π : Sh} {σ : St} {x0 : Int} {s0 : Int} (hC : Cl π σ) (hG : gx (nn π0) g0 g) (hX : ext π0 π) (hv_x0 : x0 < nn π) (hl : lv_has ls 2 [(0, rfv g x0)]) (h : Hp D A s.heap H locs (cW k z g π σ)) (hm : Df_addKnown_8 N π σ x0 s0 = some r) : W p l e { frames := 7, cells := nn r.1 - nn π0, slots := sw r.1 - sw π0, locals := 241 } s m args below meth c H locs (nn π - nn π0) (sw π - sw π0) (MQ below (va_Qi (fun v u => gx (nn π0) g0 u ∧ v = Int32.ofInt r.2.2) (fun u t => PostW D (TYs k) A (cW k z u r.1 r.2.1) t) A) args s (nn r.1 - nn π0) (sw r.1 - sw π0) A) (F0 m 8 ls [.int (Int32.ofInt s0)]) := by
  have hS := hC.1
  have hq := km_Df_addKnown_8    hC hv_x0 hm
  rw [Df_addKnown_8] at hm
  refine lv_pop C.1 C.2.1 dX0_addKnown_8 rfl ?_
  refine z_aload_n C dX0_addKnown_9 rfl (lv_at hl 0 rfl) ?_
  obtain ⟨g6, hm⟩ := grd_s hm
  refine cg_1_4 C h g6 cU_X0 (List.mem_cons_of_mem _ wl_X0_24) dX0_addKnown_10 ?_
  obtain ⟨r7, e8, hm⟩ := obd_s hm
  have q9 := (km_L_size hC (cl_fl hC (f := 24) rfl x0) e8)
  obtain ⟨g10, hm⟩ := grd_s hm
  refine c_callViP C hE h g10 rfl (by decide) (kc_L_size l D k z mi aK aV g hS e8) (cwV 0 C.2.2.1 (gS_X0_42 _) rfl rfl rfl hd_Jx4a65c_size_8abf5 ⟨Nat.le_of_ble_eq_true rfl, Nat.le_of_ble_eq_true rfl⟩) rfl hl.1 rfl (Nat.le_of_ble_eq_true rfl) dX0_addKnown_13 ⟨(czz hX hq.1), (szz hX hq.1)⟩ (fun H locs h => ?_)
  have hC11 : Cl π r7.1 := q9
  refine z_ineg C dX0_addKnown_16 ?_
  cases hm
  exact c_iretA C hG h hr hlk dX0_addKnown_17 rfl
set_option maxHeartbeats 8000000 in
set_option maxRecDepth 100000 in
theorem kc_Df_addKnown (l : Launch) (D : va_G) (k : Nat → ClassId) (z mi : Nat) (aK aV : Nat → Nat) (g : Nat → Nat) (N : Nat)    {π : Sh} {σ : St} {x0 : Int} {x1 : Int} {r : Sh × St × Int} (hC : Cl π σ) (hv_x0 : x0 < nn π) (hv_x1 : x1 < nn π) (hm : Df_addKnown N π σ x0 x1 = some r) : Mi l yX0_addKnown (.code yX0_addKnown cX0_addKnown 2 (some .int) :: cWd) { frames := 7, cells := nn r.1 - nn π, slots := sw r.1 - sw π, locals := 241 } [rfv g x0, rfv g x1] D (TYs k) (cW k z g π σ) (XV z mi aK aV (cW k z g π σ)) (Nat → Nat) (fun v u => gx (nn π) g u ∧ v = Int32.ofInt r.2.2) (fun u => cW k z u r.1 r.2.1) (nn r.1 - nn π) (sw r.1 - sw π) := by
  have hS := hC.1
  have hq := km_Df_addKnown  hC hv_x0 hv_x1 hm
  intro sz
  refine v_met (cc := cX0_addKnown) (maxL := 2) (ret := (some .int)) (lv := [(0, rfv g x0), (1, rfv g x1)]) (by decide) rfl (by simp [lg_sl, rfv_cat, cat_i, cat_l]) (by simp [lv_args, rfv_cat, cat_i, cat_l]) ?_
  intro p e s m below meth c ls C hE hr hlk hmn hl h
  generalize ([rfv g x0, rfv g x1] : List Value).toArray = args at C ⊢
  have hG := gx.rf (nn π) g
  have hX := ext.rf π
  refine W_cast (Nat.sub_self (nn π)) (Nat.sub_self (sw π)) ?_
  rw [Df_addKnown] at hm
  refine z_aload_n C dX0_addKnown_0 rfl (lv_at hl 0 rfl) ?_
  obtain ⟨g1, hm⟩ := grd_s hm
  refine cg_1_4 C h g1 cU_X0 (List.mem_cons_of_mem _ wl_X0_24) dX0_addKnown_1 ?_
  refine z_aload_n C dX0_addKnown_4 rfl (lv_at hl 1 rfl) ?_
  obtain ⟨r2, e3, hm⟩ := obd_s hm
  have q4 := (km_L_add hC (cl_fl hC (f := 24) rfl x0) hv_x1 e3)
  obtain ⟨g5, hm⟩ := grd_s hm
  have q := km_Df_addKnown_8   q4.2 (lt_ext hv_x0 q4.1) hm
  refine c_callViA C hE h g5 rfl (by decide) (kc_L_add l D k z mi aK aV g hC (cl_fl hC (f := 24) rfl x0) hv_x1 e3) (cwV 1 C.2.2.1 (gS_X0_38 _) rfl rfl rfl hd_Jx4a65c_add_9ea2d ⟨Nat.le_of_ble_eq_true rfl, Nat.le_of_ble_eq_true rfl⟩) rfl hl.1 rfl (Nat.le_of_ble_eq_true rfl) dX0_addKnown_5 ⟨rcC hX q4.1 q.1, rsC hX q4.1 q.1⟩ (fun u H locs hg h => ?_)
  simp only [← gx_rfv hg hv_x0, ← gx_rfv hg hv_x1] at hl
  try simp only [← gx_rfv hg hv_x0, ← gx_rfv hg hv_x1]
  refine W_cast (wcC hX q4.1).symm (wsC hX q4.1).symm ?_
  exact kl_Df_addKnown_8 (N := N) C hr hlk hE   q4.2 (hG.tr hg hX.1) (hX.tr q4.1) (lt_ext hv_x0 q4.1) (lv_sub hl [0] rfl) h hm
end Z_Df_addKnown
section Z_Df_parameterIndex
variable {p : Program} {l : Launch} {e : Env} {s : State} {m : MethodId} {args : Array Value} {below : List Frame} {meth : Method} {c : Code} {D : va_G} {A : Nat → Prop} {k : Nat → ClassId} {N : Nat} {cd : Cond} {z mi : Nat} {aK aV : Nat → Nat} {g : Nat → Nat} {π : Sh}
set_option maxHeartbeats 8000000 in
set_option maxRecDepth 100000 in
theorem kl_Df_parameterIndex_2 {r : St × Int} (C : Cx p s m args c cX0_parameterIndex RX0 (cd :: cWd) D (TYs k) 4) (hr : meth.sig.returnType = (some .int)) (hlk : meth.locks = false) (hE : Ev z mi aK aV A s s.heap) (hS : SHs π)    (n : Nat) : ∀ {ls : Array Slot} {H : Heap} {locs : List Loc} {σ : St} {x0 : Int} {x1 : Int} {x3 : Int}, lv_has ls 4 [(0, rfv g x0), (1, .long (Int64.ofInt x1)), (3, .int (Int32.ofInt x3))] → Hp D A s.heap H locs (cW k z g π σ) → Df_parameterIndex_2 N π n σ x0 x1 x3 = some r → W p l e { frames := 0, cells := 0, slots := 0, locals := 0 } s m args below meth c H locs 0 0 (MQ below (va_Qi (fun v (_ : Unit) => v = Int32.ofInt r.2) (fun _ t => PostW D (TYs k) A (cW k z g π r.1) t) A) args s 0 0 A) (F0 m 2 ls []) := by
  induction n with
  | zero => intro ls H locs σ x0 x1 x3  hl h hm; cases (show none = some r from hm)
  | succ n hrec2 =>
    intro ls H locs σ x0 x1 x3  hl h hm
    rw [Df_parameterIndex_2] at hm
    refine lv_iload_n C.1 C.2.1 dX0_parameterIndex_2 rfl (lv_at hl 2 rfl) ?_
    refine z_aload_n C dX0_parameterIndex_3 rfl (lv_at hl 0 rfl) ?_
    obtain ⟨g1, hm⟩ := grd_s hm
    refine cg_1_2 C h g1 cU_X0 (List.mem_cons_of_mem _ wl_X0_13) dX0_parameterIndex_4 ?_
    obtain ⟨g2, hm⟩ := grd_s hm
    obtain ⟨g3, hm⟩ := grd_s hm
    refine z_icmp_ge (tgt := 29) C dX0_parameterIndex_7 (by decide) g2 g3 (fun c4 => ?_) (fun c4 => ?_)
    · have hm := ite_f c4 hm
      refine lv_iconst (v := Int32.ofInt (-1)) C.1 C.2.1 dX0_parameterIndex_29 (by decide) ?_
      cases hm
      exact c_iretP C h hr hlk dX0_parameterIndex_30 rfl
    · have hm := ite_t c4 hm
      refine z_aload_n C dX0_parameterIndex_10 rfl (lv_at hl 0 rfl) ?_
      refine cg_1_1 C h g1 cU_X0 (List.mem_cons_of_mem _ wl_X0_9) dX0_parameterIndex_11 ?_
      refine lv_iload_n C.1 C.2.1 dX0_parameterIndex_14 rfl (lv_at hl 2 rfl) ?_
      obtain ⟨g5, hm⟩ := grd_s hm
      obtain ⟨g6, hm⟩ := grd_s hm
      refine c_lald C h g5 g6 dX0_parameterIndex_15 ?_
      refine lv_lload_n C.1 C.2.1 dX0_parameterIndex_16 rfl (lv_at hl 1 rfl) ?_
      obtain ⟨g7, hm⟩ := grd_s hm
      obtain ⟨g8, hm⟩ := grd_s hm
      refine W.lcmp C.1 C.2.1 dX0_parameterIndex_17 ?_
      refine z_lcmp_ne (tgt := 23) C dX0_parameterIndex_18 (by decide) g7 g8 (fun c9 => ?_) (fun c9 => ?_)
      · have hm := ite_f c9 hm
        refine lv_iinc (v := Int32.ofInt (x3 + 1)) (lv' := [(3, .int (Int32.ofInt (x3 + 1))), (0, rfv g x0), (1, .long (Int64.ofInt x1))]) C.1 C.2.1 dX0_parameterIndex_23 hl (k := 2) rfl (c32_add _ _) (by decide) rfl (fun ls hl => ?_)
        refine lv_goto (tgt := 2) C.1 C.2.1 dX0_parameterIndex_26 (by decide) ?_
        exact hrec2 (lv_sub hl [1, 2, 0] rfl) h hm
      · have hm := ite_t c9 hm
        refine lv_iload_n C.1 C.2.1 dX0_parameterIndex_21 rfl (lv_at hl 2 rfl) ?_
        cases hm
        exact c_iretP C h hr hlk dX0_parameterIndex_22 rfl
set_option maxHeartbeats 8000000 in
set_option maxRecDepth 100000 in
theorem kc_Df_parameterIndex (l : Launch) (D : va_G) (k : Nat → ClassId) (z mi : Nat) (aK aV : Nat → Nat) (g : Nat → Nat) (N : Nat)    {π : Sh} {σ : St} {x0 : Int} {x1 : Int} {r : St × Int} (hS : SHs π) (hm : Df_parameterIndex N π σ x0 x1 = some r) : Mi l yX0_parameterIndex (.code yX0_parameterIndex cX0_parameterIndex 4 (some .int) :: cWd) { frames := 0, cells := 0, slots := 0, locals := 0 } [rfv g x0, .long (Int64.ofInt x1)] D (TYs k) (cW k z g π σ) (XV z mi aK aV (cW k z g π σ)) Unit (fun v _ => v = Int32.ofInt r.2) (fun _ => cW k z g π r.1) 0 0 := by
  intro sz
  refine v_met (cc := cX0_parameterIndex) (maxL := 4) (ret := (some .int)) (lv := [(0, rfv g x0), (1, .long (Int64.ofInt x1))]) (by decide) rfl (by simp [lg_sl, rfv_cat, cat_i, cat_l]) (by simp [lv_args, rfv_cat, cat_i, cat_l]) ?_
  intro p e s m below meth c ls C hE hr hlk hmn hl h
  rw [Df_parameterIndex] at hm
  refine lv_iconst (v := Int32.ofInt 0) C.1 C.2.1 dX0_parameterIndex_0 (by decide) ?_
  refine lv_istore_n (lv' := [(3, .int (Int32.ofInt 0)), (0, rfv g x0), (1, .long (Int64.ofInt x1))]) C.1 C.2.1 dX0_parameterIndex_1 rfl hl (by decide) rfl (fun ls hl => ?_)
  exact kl_Df_parameterIndex_2 (N := N) C hr hlk hE hS N (lv_sub hl [1, 2, 0] rfl) h hm
end Z_Df_parameterIndex
section Z_Df_hasName
variable {p : Program} {l : Launch} {e : Env} {s : State} {m : MethodId} {args : Array Value} {below : List Frame} {meth : Method} {c : Code} {D : va_G} {A : Nat → Prop} {k : Nat → ClassId} {N : Nat} {cd : Cond} {z mi : Nat} {aK aV : Nat → Nat} {g : Nat → Nat} {π : Sh}
set_option maxHeartbeats 8000000 in
set_option maxRecDepth 100000 in
theorem kl_Df_hasName_17 {r : St × Int} (C : Cx p s m args c cX0_hasName RX0 (cd :: cWd) D (TYs k) 3) (hr : meth.sig.returnType = (some .boolean)) (hlk : meth.locks = false) (hE : Ev z mi aK aV A s s.heap) (hS : SHs π)    {ls : Array Slot} {H : Heap} {locs : List Loc} {σ : St}   (hl : lv_has ls 3 []) (h : Hp D A s.heap H locs (cW k z g π σ)) (hm : Df_hasName_17 N π σ  = some r) : W p l e { frames := 1, cells := 0, slots := 0, locals := 23 } s m args below meth c H locs 0 0 (MQ below (va_Qi (fun v (_ : Unit) => v = Int32.ofInt r.2) (fun _ t => PostW D (TYs k) A (cW k z g π r.1) t) A) args s 0 0 A) (F0 m 17 ls []) := by
  rw [Df_hasName_17] at hm
  refine lv_iconst (v := Int32.ofInt 1) C.1 C.2.1 dX0_hasName_17 (by decide) ?_
  refine lv_goto (tgt := 22) C.1 C.2.1 dX0_hasName_18 (by decide) ?_
  cases hm
  exact c_iretP C h hr hlk dX0_hasName_22 rfl
set_option maxHeartbeats 8000000 in
set_option maxRecDepth 100000 in
theorem kc_Df_hasName (l : Launch) (D : va_G) (k : Nat → ClassId) (z mi : Nat) (aK aV : Nat → Nat) (g : Nat → Nat) (N : Nat)    {π : Sh} {σ : St} {x0 : Int} {x1 : Int} {r : St × Int} (hS : SHs π) (hm : Df_hasName N π σ x0 x1 = some r) : Mi l yX0_hasName (.code yX0_hasName cX0_hasName 3 (some .boolean) :: cWd) { frames := 1, cells := 0, slots := 0, locals := 23 } [rfv g x0, .long (Int64.ofInt x1)] D (TYs k) (cW k z g π σ) (XV z mi aK aV (cW k z g π σ)) Unit (fun v _ => v = Int32.ofInt r.2) (fun _ => cW k z g π r.1) 0 0 := by
  intro sz
  refine v_met (cc := cX0_hasName) (maxL := 3) (ret := (some .boolean)) (lv := [(0, rfv g x0), (1, .long (Int64.ofInt x1))]) (by decide) rfl (by simp [lg_sl, rfv_cat, cat_i, cat_l]) (by simp [lv_args, rfv_cat, cat_i, cat_l]) ?_
  intro p e s m below meth c ls C hE hr hlk hmn hl h
  rw [Df_hasName] at hm
  refine z_aload_n C dX0_hasName_0 rfl (lv_at hl 0 rfl) ?_
  obtain ⟨g1, hm⟩ := grd_s hm
  refine cg_1_0 C h g1 cU_X0 (List.mem_cons_of_mem _ wl_X0_34) dX0_hasName_1 ?_
  refine lv_lload_n C.1 C.2.1 dX0_hasName_4 rfl (lv_at hl 1 rfl) ?_
  obtain ⟨g2, hm⟩ := grd_s hm
  obtain ⟨g3, hm⟩ := grd_s hm
  refine W.lcmp C.1 C.2.1 dX0_hasName_5 ?_
  refine z_lcmp_eq (tgt := 17) C dX0_hasName_6 (by decide) g2 g3 (fun c4 => ?_) (fun c4 => ?_)
  · have hm := ite_t c4 hm
    exact kl_Df_hasName_17 (N := N) C hr hlk hE hS (lv_sub hl [] rfl) h hm
  · have hm := ite_f c4 hm
    refine z_aload_n C dX0_hasName_9 rfl (lv_at hl 0 rfl) ?_
    refine lv_lload_n C.1 C.2.1 dX0_hasName_10 rfl (lv_at hl 1 rfl) ?_
    obtain ⟨r5, e6, hm⟩ := obd_s hm
    refine c_callViP C hE h g1 rfl (by decide) (kc_Df_parameterIndex l D k z mi aK aV g N hS e6) (cwV 1 C.2.2.1 (gS_X0_46 _) rfl rfl rfl hd_X0_parameterIndex ⟨Nat.le_of_ble_eq_true rfl, Nat.le_of_ble_eq_true rfl⟩) rfl hl.1 rfl (Nat.le_of_ble_eq_true rfl) dX0_hasName_11 ⟨(Nat.le_of_ble_eq_true rfl), (Nat.le_of_ble_eq_true rfl)⟩ (fun H locs h => ?_)
    obtain ⟨g9, hm⟩ := grd_s hm
    refine z_if_lt (tgt := 21) C dX0_hasName_14 (by decide) g9 (fun c10 => ?_) (fun c10 => ?_)
    · have hm := ite_t c10 hm
      refine lv_iconst (v := Int32.ofInt 0) C.1 C.2.1 dX0_hasName_21 (by decide) ?_
      cases hm
      exact c_iretP C h hr hlk dX0_hasName_22 rfl
    · have hm := ite_f c10 hm
      exact kl_Df_hasName_17 (N := N) C hr hlk hE hS (lv_sub hl [] rfl) h hm
end Z_Df_hasName
section Z_Es_push
variable {p : Program} {l : Launch} {e : Env} {s : State} {m : MethodId} {args : Array Value} {below : List Frame} {meth : Method} {c : Code} {D : va_G} {A : Nat → Prop} {k : Nat → ClassId} {N : Nat} {cd : Cond} {z mi : Nat} {aK aV : Nat → Nat} {g : Nat → Nat} {π : Sh}
set_option maxHeartbeats 8000000 in
set_option maxRecDepth 100000 in
theorem kc_Es_push (l : Launch) (D : va_G) (k : Nat → ClassId) (z mi : Nat) (aK aV : Nat → Nat) (g : Nat → Nat) (N : Nat)    {π : Sh} {σ : St} {x1 : Int} {x3 : Int} {x5 : Int} {x7 : Int} {x8 : Int} {r : St} (hS : SHs π) (hm : Es_push N π σ x1 x3 x5 x7 x8 = some r) : Mv l yX1_push (.code yX1_push cX1_push 9 none :: cWd) { frames := 0, cells := 0, slots := 0, locals := 0 } [rfv g 10, .long (Int64.ofInt x1), .long (Int64.ofInt x3), .long (Int64.ofInt x5), .int (Int32.ofInt x7), .int (Int32.ofInt x8)] D (TYs k) (cW k z g π σ) (XV z mi aK aV (cW k z g π σ)) Unit (fun _ => True) (fun _ => cW k z g π r) 0 0 := by
  intro sz
  refine v_met (cc := cX1_push) (maxL := 9) (ret := none) (lv := [(0, rfv g 10), (1, .long (Int64.ofInt x1)), (3, .long (Int64.ofInt x3)), (5, .long (Int64.ofInt x5)), (7, .int (Int32.ofInt x7)), (8, .int (Int32.ofInt x8))]) (by decide) rfl (by simp [lg_sl, rfv_cat, cat_i, cat_l]) (by simp [lv_args, rfv_cat, cat_i, cat_l]) ?_
  intro p e s m below meth c ls C hE hr hlk hmn hl h
  rw [Es_push] at hm
  refine z_aload_n C dX1_push_0 rfl (lv_at hl 0 rfl) ?_
  refine cg_2_6 C h (sh_10 hS) cU_X1 (List.mem_cons_of_mem _ wl_X1_30) dX1_push_1 ?_
  refine lv_sipush (v := Int32.ofInt 6000) C.1 C.2.1 dX1_push_4 (by decide) ?_
  obtain ⟨g1, hm⟩ := grd_s hm
  refine z_icmp_lt (tgt := 11) C dX1_push_7 (by decide) g1 (by decide) (fun c2 => ?_) (fun c2 => ?_)
  · have hm := ite_t c2 hm
    refine z_aload_n C dX1_push_11 rfl (lv_at hl 0 rfl) ?_
    refine cg_2_0 C h (sh_10 hS) cU_X1 (List.mem_cons_of_mem _ wl_X1_9) dX1_push_12 ?_
    refine z_aload_n C dX1_push_15 rfl (lv_at hl 0 rfl) ?_
    refine cg_2_6 C h (sh_10 hS) cU_X1 (List.mem_cons_of_mem _ wl_X1_30) dX1_push_16 ?_
    refine lv_lload_n C.1 C.2.1 dX1_push_19 rfl (lv_at hl 1 rfl) ?_
    obtain ⟨g3, hm⟩ := grd_s hm
    refine c_last C h (sh_11 hS) (ina_inb (n := 6000) (sl_11 hS) (Nat.le_of_ble_eq_true rfl) g3) dX1_push_20 (fun H locs h => ?_)
    refine z_aload_n C dX1_push_21 rfl (lv_at hl 0 rfl) ?_
    refine cg_2_1 C h (sh_10 hS) cU_X1 (List.mem_cons_of_mem _ wl_X1_13) dX1_push_22 ?_
    refine z_aload_n C dX1_push_25 rfl (lv_at hl 0 rfl) ?_
    refine cg_2_6 C h (sh_10 hS) cU_X1 (List.mem_cons_of_mem _ wl_X1_30) dX1_push_26 ?_
    refine x_topi (y := Int32.ofInt (fl σ 46 10)) rfl ?_
    refine lv_lload_n C.1 C.2.1 dX1_push_29 rfl (lv_at hl 2 rfl) ?_
    refine c_last C h (sh_12 hS) (ina_inb (n := 6000) (sl_12 hS) (Nat.le_of_ble_eq_true rfl) g3) dX1_push_30 (fun H locs h => ?_)
    refine z_aload_n C dX1_push_31 rfl (lv_at hl 0 rfl) ?_
    refine cg_2_2 C h (sh_10 hS) cU_X1 (List.mem_cons_of_mem _ wl_X1_16) dX1_push_32 ?_
    refine z_aload_n C dX1_push_35 rfl (lv_at hl 0 rfl) ?_
    refine cg_2_6 C h (sh_10 hS) cU_X1 (List.mem_cons_of_mem _ wl_X1_30) dX1_push_36 ?_
    refine x_topi (y := Int32.ofInt (fl σ 46 10)) rfl ?_
    refine lv_lload C.1 C.2.1 dX1_push_39 (lv_at hl 3 rfl) ?_
    refine c_last C h (sh_13 hS) (ina_inb (n := 6000) (sl_13 hS) (Nat.le_of_ble_eq_true rfl) g3) dX1_push_41 (fun H locs h => ?_)
    refine z_aload_n C dX1_push_42 rfl (lv_at hl 0 rfl) ?_
    refine cg_2_3 C h (sh_10 hS) cU_X1 (List.mem_cons_of_mem _ wl_X1_19) dX1_push_43 ?_
    refine z_aload_n C dX1_push_46 rfl (lv_at hl 0 rfl) ?_
    refine cg_2_6 C h (sh_10 hS) cU_X1 (List.mem_cons_of_mem _ wl_X1_30) dX1_push_47 ?_
    refine x_topi (y := Int32.ofInt (fl σ 46 10)) rfl ?_
    refine lv_iload C.1 C.2.1 dX1_push_50 (lv_at hl 4 rfl) ?_
    refine c_iast C h (sh_14 hS) (ina_inb (n := 6000) (sl_14 hS) (Nat.le_of_ble_eq_true rfl) g3) dX1_push_52 (fun H locs h => ?_)
    refine z_aload_n C dX1_push_53 rfl (lv_at hl 0 rfl) ?_
    refine cg_2_4 C h (sh_10 hS) cU_X1 (List.mem_cons_of_mem _ wl_X1_23) dX1_push_54 ?_
    refine z_aload_n C dX1_push_57 rfl (lv_at hl 0 rfl) ?_
    refine cg_2_6 C h (sh_10 hS) cU_X1 (List.mem_cons_of_mem _ wl_X1_30) dX1_push_58 ?_
    refine x_topi (y := Int32.ofInt (fl σ 46 10)) rfl ?_
    refine lv_iload C.1 C.2.1 dX1_push_61 (lv_at hl 5 rfl) ?_
    obtain ⟨g4, hm⟩ := grd_s hm
    refine c_zast C h (sh_15 hS) (ina_inb (n := 6000) (sl_15 hS) (Nat.le_of_ble_eq_true rfl) g3) g4 dX1_push_63 (fun H locs h => ?_)
    refine z_aload_n C dX1_push_64 rfl (lv_at hl 0 rfl) ?_
    refine lv_dup C.1 C.2.1 dX1_push_65 (rfv_cat _ _) ?_
    refine cg_2_6 C h (sh_10 hS) cU_X1 (List.mem_cons_of_mem _ wl_X1_30) dX1_push_66 ?_
    refine x_topi (y := Int32.ofInt (fl σ 46 10)) rfl ?_
    refine lv_iconst (v := Int32.ofInt 1) C.1 C.2.1 dX1_push_69 (by decide) ?_
    refine z_iadd C dX1_push_70 ?_
    refine cp_2_6 C h (sh_10 hS) cU_X1 (List.mem_cons_of_mem _ wl_X1_30) dX1_push_71 (fun H locs h => ?_)
    cases hm
    exact c_vretP C h hr hlk dX1_push_74
  · have hm := ite_f c2 hm
    cases hm
    exact c_vretP C h hr hlk dX1_push_10
end Z_Es_push
section Z_Es_pushAgain
variable {p : Program} {l : Launch} {e : Env} {s : State} {m : MethodId} {args : Array Value} {below : List Frame} {meth : Method} {c : Code} {D : va_G} {A : Nat → Prop} {k : Nat → ClassId} {N : Nat} {cd : Cond} {z mi : Nat} {aK aV : Nat → Nat} {g : Nat → Nat} {π : Sh}
set_option maxHeartbeats 8000000 in
set_option maxRecDepth 100000 in
theorem kl_Es_pushAgain_3 {r : St} (C : Cx p s m args c cX1_pushAgain RX1 (cd :: cWd) D (TYs k) 8) (hr : meth.sig.returnType = none) (hlk : meth.locks = false) (hE : Ev z mi aK aV A s s.heap) (hS : SHs π)    (n : Nat) : ∀ {ls : Array Slot} {H : Heap} {locs : List Loc} {σ : St} {x2 : Int} {x3 : Int} {x5 : Int} {x7 : Int}, lv_has ls 8 [(0, rfv g 10), (2, .int (Int32.ofInt x2)), (3, .long (Int64.ofInt x3)), (5, .long (Int64.ofInt x5)), (7, .int (Int32.ofInt x7))] → Hp D A s.heap H locs (cW k z g π σ) → Es_pushAgain_3 N π n σ x2 x3 x5 x7 = some r → W p l e { frames := 1, cells := 0, slots := 0, locals := 28 } s m args below meth c H locs 0 0 (MQ below (va_Qv (fun (_ : Unit) => True) (fun _ t => PostW D (TYs k) A (cW k z g π r) t) A) args s 0 0 A) (F0 m 3 ls []) := by
  induction n with
  | zero => intro ls H locs σ x2 x3 x5 x7  hl h hm; cases (show none = some r from hm)
  | succ n hrec3 =>
    intro ls H locs σ x2 x3 x5 x7  hl h hm
    rw [Es_pushAgain_3] at hm
    refine lv_iload C.1 C.2.1 dX1_pushAgain_3 (lv_at hl 4 rfl) ?_
    refine lv_iload_n C.1 C.2.1 dX1_pushAgain_5 rfl (lv_at hl 1 rfl) ?_
    obtain ⟨g1, hm⟩ := grd_s hm
    obtain ⟨g2, hm⟩ := grd_s hm
    refine z_icmp_ge (tgt := 61) C dX1_pushAgain_6 (by decide) g1 g2 (fun c3 => ?_) (fun c3 => ?_)
    · have hm := ite_f c3 hm
      cases hm
      exact c_vretP C h hr hlk dX1_pushAgain_61
    · have hm := ite_t c3 hm
      refine z_aload_n C dX1_pushAgain_9 rfl (lv_at hl 0 rfl) ?_
      refine z_aload_n C dX1_pushAgain_10 rfl (lv_at hl 0 rfl) ?_
      refine cg_2_0 C h (sh_10 hS) cU_X1 (List.mem_cons_of_mem _ wl_X1_9) dX1_pushAgain_11 ?_
      refine lv_iload C.1 C.2.1 dX1_pushAgain_14 (lv_at hl 4 rfl) ?_
      obtain ⟨g4, hm⟩ := grd_s hm
      refine c_lald C h (sh_11 hS) (ina_inb (n := 6000) (sl_11 hS) (Nat.le_of_ble_eq_true rfl) g4) dX1_pushAgain_16 ?_
      refine lv_lload_n C.1 C.2.1 dX1_pushAgain_17 rfl (lv_at hl 2 rfl) ?_
      refine z_lmul C dX1_pushAgain_18 ?_
      refine lv_lload C.1 C.2.1 dX1_pushAgain_19 (lv_at hl 3 rfl) ?_
      refine z_ladd C dX1_pushAgain_21 ?_
      refine z_aload_n C dX1_pushAgain_22 rfl (lv_at hl 0 rfl) ?_
      refine cg_2_1 C h (sh_10 hS) cU_X1 (List.mem_cons_of_mem _ wl_X1_13) dX1_pushAgain_23 ?_
      refine lv_iload C.1 C.2.1 dX1_pushAgain_26 (lv_at hl 4 rfl) ?_
      refine c_lald C h (sh_12 hS) (ina_inb (n := 6000) (sl_12 hS) (Nat.le_of_ble_eq_true rfl) g4) dX1_pushAgain_28 ?_
      refine lv_lload_n C.1 C.2.1 dX1_pushAgain_29 rfl (lv_at hl 2 rfl) ?_
      refine z_lmul C dX1_pushAgain_30 ?_
      refine z_aload_n C dX1_pushAgain_31 rfl (lv_at hl 0 rfl) ?_
      refine cg_2_2 C h (sh_10 hS) cU_X1 (List.mem_cons_of_mem _ wl_X1_16) dX1_pushAgain_32 ?_
      refine lv_iload C.1 C.2.1 dX1_pushAgain_35 (lv_at hl 4 rfl) ?_
      refine c_lald C h (sh_13 hS) (ina_inb (n := 6000) (sl_13 hS) (Nat.le_of_ble_eq_true rfl) g4) dX1_pushAgain_37 ?_
      refine z_aload_n C dX1_pushAgain_38 rfl (lv_at hl 0 rfl) ?_
      refine cg_2_3 C h (sh_10 hS) cU_X1 (List.mem_cons_of_mem _ wl_X1_19) dX1_pushAgain_39 ?_
      refine lv_iload C.1 C.2.1 dX1_pushAgain_42 (lv_at hl 4 rfl) ?_
      refine c_iald C h (sh_14 hS) (ina_inb (n := 6000) (sl_14 hS) (Nat.le_of_ble_eq_true rfl) g4) dX1_pushAgain_44 ?_
      refine z_aload_n C dX1_pushAgain_45 rfl (lv_at hl 0 rfl) ?_
      refine cg_2_4 C h (sh_10 hS) cU_X1 (List.mem_cons_of_mem _ wl_X1_23) dX1_pushAgain_46 ?_
      refine lv_iload C.1 C.2.1 dX1_pushAgain_49 (lv_at hl 4 rfl) ?_
      refine c_zald C h (sh_15 hS) (ina_inb (n := 6000) (sl_15 hS) (Nat.le_of_ble_eq_true rfl) g4) dX1_pushAgain_51 ?_
      obtain ⟨r5, e6, hm⟩ := obd_s hm
      refine c_callVvP C hE h (sh_10 hS) rfl (by decide) (kc_Es_push l D k z mi aK aV g N hS e6) (cwV 5 C.2.2.1 (gS_X1_55 _) rfl rfl rfl hd_X1_push ⟨Nat.le_of_ble_eq_true rfl, Nat.le_of_ble_eq_true rfl⟩) rfl hl.1 rfl (Nat.le_of_ble_eq_true rfl) dX1_pushAgain_52 ⟨(Nat.le_of_ble_eq_true rfl), (Nat.le_of_ble_eq_true rfl)⟩ (fun H locs h => ?_)
      refine lv_iinc (v := Int32.ofInt (x7 + 1)) (lv' := [(7, .int (Int32.ofInt (x7 + 1))), (0, rfv g 10), (2, .int (Int32.ofInt x2)), (3, .long (Int64.ofInt x3)), (5, .long (Int64.ofInt x5))]) C.1 C.2.1 dX1_pushAgain_55 hl (k := 4) rfl (c32_add _ _) (by decide) rfl (fun ls hl => ?_)
      refine lv_goto (tgt := 3) C.1 C.2.1 dX1_pushAgain_58 (by decide) ?_
      exact hrec3 (lv_sub hl [1, 2, 3, 4, 0] rfl) h hm
set_option maxHeartbeats 8000000 in
set_option maxRecDepth 100000 in
theorem kc_Es_pushAgain (l : Launch) (D : va_G) (k : Nat → ClassId) (z mi : Nat) (aK aV : Nat → Nat) (g : Nat → Nat) (N : Nat)    {π : Sh} {σ : St} {x1 : Int} {x2 : Int} {x3 : Int} {x5 : Int} {r : St} (hS : SHs π) (hm : Es_pushAgain N π σ x1 x2 x3 x5 = some r) : Mv l yX1_pushAgain (.code yX1_pushAgain cX1_pushAgain 8 none :: cWd) { frames := 1, cells := 0, slots := 0, locals := 28 } [rfv g 10, .int (Int32.ofInt x1), .int (Int32.ofInt x2), .long (Int64.ofInt x3), .long (Int64.ofInt x5)] D (TYs k) (cW k z g π σ) (XV z mi aK aV (cW k z g π σ)) Unit (fun _ => True) (fun _ => cW k z g π r) 0 0 := by
  intro sz
  refine v_met (cc := cX1_pushAgain) (maxL := 8) (ret := none) (lv := [(0, rfv g 10), (1, .int (Int32.ofInt x1)), (2, .int (Int32.ofInt x2)), (3, .long (Int64.ofInt x3)), (5, .long (Int64.ofInt x5))]) (by decide) rfl (by simp [lg_sl, rfv_cat, cat_i, cat_l]) (by simp [lv_args, rfv_cat, cat_i, cat_l]) ?_
  intro p e s m below meth c ls C hE hr hlk hmn hl h
  rw [Es_pushAgain] at hm
  refine lv_iload_n C.1 C.2.1 dX1_pushAgain_0 rfl (lv_at hl 1 rfl) ?_
  refine lv_istore (lv' := [(7, .int (Int32.ofInt x1)), (0, rfv g 10), (1, .int (Int32.ofInt x1)), (2, .int (Int32.ofInt x2)), (3, .long (Int64.ofInt x3)), (5, .long (Int64.ofInt x5))]) C.1 C.2.1 dX1_pushAgain_1 hl (by decide) rfl (fun ls hl => ?_)
  exact kl_Es_pushAgain_3 (N := N) C hr hlk hE hS N (lv_sub hl [1, 3, 4, 5, 0] rfl) h hm
end Z_Es_pushAgain
section Z_Es_scale
variable {p : Program} {l : Launch} {e : Env} {s : State} {m : MethodId} {args : Array Value} {below : List Frame} {meth : Method} {c : Code} {D : va_G} {A : Nat → Prop} {k : Nat → ClassId} {N : Nat} {cd : Cond} {z mi : Nat} {aK aV : Nat → Nat} {g : Nat → Nat} {π : Sh}
set_option maxHeartbeats 8000000 in
set_option maxRecDepth 100000 in
theorem kl_Es_scale_17 {r : St} (C : Cx p s m args c cX1_scale RX1 (cd :: cWd) D (TYs k) 7) (hr : meth.sig.returnType = none) (hlk : meth.locks = false) (hE : Ev z mi aK aV A s s.heap) (hS : SHs π)    (n : Nat) : ∀ {ls : Array Slot} {H : Heap} {locs : List Loc} {σ : St} {x2 : Int} {x4 : Int} {x6 : Int}, lv_has ls 7 [(0, rfv g 10), (2, .long (Int64.ofInt x2)), (4, .long (Int64.ofInt x4)), (6, .int (Int32.ofInt x6))] → Hp D A s.heap H locs (cW k z g π σ) → Es_scale_17 N π n σ x2 x4 x6 = some r → W p l e { frames := 0, cells := 0, slots := 0, locals := 0 } s m args below meth c H locs 0 0 (MQ below (va_Qv (fun (_ : Unit) => True) (fun _ t => PostW D (TYs k) A (cW k z g π r) t) A) args s 0 0 A) (F0 m 17 ls []) := by
  induction n with
  | zero => intro ls H locs σ x2 x4 x6  hl h hm; cases (show none = some r from hm)
  | succ n hrec17 =>
    intro ls H locs σ x2 x4 x6  hl h hm
    rw [Es_scale_17] at hm
    refine lv_iload C.1 C.2.1 dX1_scale_17 (lv_at hl 3 rfl) ?_
    refine z_aload_n C dX1_scale_19 rfl (lv_at hl 0 rfl) ?_
    refine cg_2_6 C h (sh_10 hS) cU_X1 (List.mem_cons_of_mem _ wl_X1_30) dX1_scale_20 ?_
    obtain ⟨g5, hm⟩ := grd_s hm
    obtain ⟨g6, hm⟩ := grd_s hm
    refine z_icmp_ge (tgt := 67) C dX1_scale_23 (by decide) g5 g6 (fun c7 => ?_) (fun c7 => ?_)
    · have hm := ite_f c7 hm
      cases hm
      exact c_vretP C h hr hlk dX1_scale_67
    · have hm := ite_t c7 hm
      refine z_aload_n C dX1_scale_26 rfl (lv_at hl 0 rfl) ?_
      refine cg_2_0 C h (sh_10 hS) cU_X1 (List.mem_cons_of_mem _ wl_X1_9) dX1_scale_27 ?_
      refine lv_iload C.1 C.2.1 dX1_scale_30 (lv_at hl 3 rfl) ?_
      refine z_aload_n C dX1_scale_32 rfl (lv_at hl 0 rfl) ?_
      refine cg_2_0 C h (sh_10 hS) cU_X1 (List.mem_cons_of_mem _ wl_X1_9) dX1_scale_33 ?_
      refine lv_iload C.1 C.2.1 dX1_scale_36 (lv_at hl 3 rfl) ?_
      obtain ⟨g8, hm⟩ := grd_s hm
      refine c_lald C h (sh_11 hS) (ina_inb (n := 6000) (sl_11 hS) (Nat.le_of_ble_eq_true rfl) g8) dX1_scale_38 ?_
      refine lv_lload_n C.1 C.2.1 dX1_scale_39 rfl (lv_at hl 1 rfl) ?_
      refine z_lmul C dX1_scale_40 ?_
      refine lv_lload C.1 C.2.1 dX1_scale_41 (lv_at hl 2 rfl) ?_
      refine z_ladd C dX1_scale_43 ?_
      refine c_last C h (sh_11 hS) (ina_inb (n := 6000) (sl_11 hS) (Nat.le_of_ble_eq_true rfl) g8) dX1_scale_44 (fun H locs h => ?_)
      refine z_aload_n C dX1_scale_45 rfl (lv_at hl 0 rfl) ?_
      refine cg_2_1 C h (sh_10 hS) cU_X1 (List.mem_cons_of_mem _ wl_X1_13) dX1_scale_46 ?_
      refine lv_iload C.1 C.2.1 dX1_scale_49 (lv_at hl 3 rfl) ?_
      refine z_aload_n C dX1_scale_51 rfl (lv_at hl 0 rfl) ?_
      refine cg_2_1 C h (sh_10 hS) cU_X1 (List.mem_cons_of_mem _ wl_X1_13) dX1_scale_52 ?_
      refine lv_iload C.1 C.2.1 dX1_scale_55 (lv_at hl 3 rfl) ?_
      refine c_lald C h (sh_12 hS) (ina_inb (n := 6000) (sl_12 hS) (Nat.le_of_ble_eq_true rfl) g8) dX1_scale_57 ?_
      refine x_topl (y := Int64.ofInt (el σ 12 x6)) (by simp [fl, el, se, sf]) ?_
      refine lv_lload_n C.1 C.2.1 dX1_scale_58 rfl (lv_at hl 1 rfl) ?_
      refine z_lmul C dX1_scale_59 ?_
      refine c_last C h (sh_12 hS) (ina_inb (n := 6000) (sl_12 hS) (Nat.le_of_ble_eq_true rfl) g8) dX1_scale_60 (fun H locs h => ?_)
      refine lv_iinc (v := Int32.ofInt (x6 + 1)) (lv' := [(6, .int (Int32.ofInt (x6 + 1))), (0, rfv g 10), (2, .long (Int64.ofInt x2)), (4, .long (Int64.ofInt x4))]) C.1 C.2.1 dX1_scale_61 hl (k := 3) rfl (c32_add _ _) (by decide) rfl (fun ls hl => ?_)
      refine lv_goto (tgt := 17) C.1 C.2.1 dX1_scale_64 (by decide) ?_
      exact hrec17 (lv_sub hl [1, 2, 3, 0] rfl) h hm
set_option maxHeartbeats 8000000 in
set_option maxRecDepth 100000 in
theorem kl_Es_scale_14 {r : St} (C : Cx p s m args c cX1_scale RX1 (cd :: cWd) D (TYs k) 7) (hr : meth.sig.returnType = none) (hlk : meth.locks = false) (hE : Ev z mi aK aV A s s.heap) (hS : SHs π)    {ls : Array Slot} {H : Heap} {locs : List Loc} {σ : St} {x1 : Int} {x2 : Int} {x4 : Int}  (hl : lv_has ls 7 [(0, rfv g 10), (1, .int (Int32.ofInt x1)), (2, .long (Int64.ofInt x2)), (4, .long (Int64.ofInt x4))]) (h : Hp D A s.heap H locs (cW k z g π σ)) (hm : Es_scale_14 N π σ x1 x2 x4 = some r) : W p l e { frames := 0, cells := 0, slots := 0, locals := 0 } s m args below meth c H locs 0 0 (MQ below (va_Qv (fun (_ : Unit) => True) (fun _ t => PostW D (TYs k) A (cW k z g π r) t) A) args s 0 0 A) (F0 m 14 ls []) := by
  rw [Es_scale_14] at hm
  refine lv_iload_n C.1 C.2.1 dX1_scale_14 rfl (lv_at hl 1 rfl) ?_
  refine lv_istore (lv' := [(6, .int (Int32.ofInt x1)), (0, rfv g 10), (1, .int (Int32.ofInt x1)), (2, .long (Int64.ofInt x2)), (4, .long (Int64.ofInt x4))]) C.1 C.2.1 dX1_scale_15 hl (by decide) rfl (fun ls hl => ?_)
  exact kl_Es_scale_17 (N := N) C hr hlk hE hS N (lv_sub hl [1, 3, 4, 0] rfl) h hm
set_option maxHeartbeats 8000000 in
set_option maxRecDepth 100000 in
theorem kc_Es_scale (l : Launch) (D : va_G) (k : Nat → ClassId) (z mi : Nat) (aK aV : Nat → Nat) (g : Nat → Nat) (N : Nat)    {π : Sh} {σ : St} {x1 : Int} {x2 : Int} {x4 : Int} {r : St} (hS : SHs π) (hm : Es_scale N π σ x1 x2 x4 = some r) : Mv l yX1_scale (.code yX1_scale cX1_scale 7 none :: cWd) { frames := 0, cells := 0, slots := 0, locals := 0 } [rfv g 10, .int (Int32.ofInt x1), .long (Int64.ofInt x2), .long (Int64.ofInt x4)] D (TYs k) (cW k z g π σ) (XV z mi aK aV (cW k z g π σ)) Unit (fun _ => True) (fun _ => cW k z g π r) 0 0 := by
  intro sz
  refine v_met (cc := cX1_scale) (maxL := 7) (ret := none) (lv := [(0, rfv g 10), (1, .int (Int32.ofInt x1)), (2, .long (Int64.ofInt x2)), (4, .long (Int64.ofInt x4))]) (by decide) rfl (by simp [lg_sl, rfv_cat, cat_i, cat_l]) (by simp [lv_args, rfv_cat, cat_i, cat_l]) ?_
  intro p e s m below meth c ls C hE hr hlk hmn hl h
  rw [Es_scale] at hm
  refine lv_lload_n C.1 C.2.1 dX1_scale_0 rfl (lv_at hl 2 rfl) ?_
  refine lv_lconst (v := Int64.ofInt 1) C.1 C.2.1 dX1_scale_1 (by decide) ?_
  obtain ⟨g1, hm⟩ := grd_s hm
  refine W.lcmp C.1 C.2.1 dX1_scale_2 ?_
  refine z_lcmp_ne (tgt := 14) C dX1_scale_3 (by decide) g1 (by decide) (fun c2 => ?_) (fun c2 => ?_)
  · have hm := ite_f c2 hm
    exact kl_Es_scale_14 (N := N) C hr hlk hE hS (lv_sub hl [0, 1, 2, 3] rfl) h hm
  · have hm := ite_t c2 hm
    refine lv_lload C.1 C.2.1 dX1_scale_6 (lv_at hl 3 rfl) ?_
    refine lv_lconst (v := Int64.ofInt 0) C.1 C.2.1 dX1_scale_8 (by decide) ?_
    obtain ⟨g3, hm⟩ := grd_s hm
    refine W.lcmp C.1 C.2.1 dX1_scale_9 ?_
    refine z_lcmp_ne (tgt := 14) C dX1_scale_10 (by decide) g3 (by decide) (fun c4 => ?_) (fun c4 => ?_)
    · have hm := ite_f c4 hm
      exact kl_Es_scale_14 (N := N) C hr hlk hE hS (lv_sub hl [0, 1, 2, 3] rfl) h hm
    · have hm := ite_t c4 hm
      cases hm
      exact c_vretP C h hr hlk dX1_scale_13
end Z_Es_scale
section Z_Es_move
variable {p : Program} {l : Launch} {e : Env} {s : State} {m : MethodId} {args : Array Value} {below : List Frame} {meth : Method} {c : Code} {D : va_G} {A : Nat → Prop} {k : Nat → ClassId} {N : Nat} {cd : Cond} {z mi : Nat} {aK aV : Nat → Nat} {g : Nat → Nat} {π : Sh}
set_option maxHeartbeats 8000000 in
set_option maxRecDepth 100000 in
theorem kc_Es_move (l : Launch) (D : va_G) (k : Nat → ClassId) (z mi : Nat) (aK aV : Nat → Nat) (g : Nat → Nat) (N : Nat)    {π : Sh} {σ : St} {x1 : Int} {x2 : Int} {r : St} (hS : SHs π) (hm : Es_move N π σ x1 x2 = some r) : Mv l yX1_move (.code yX1_move cX1_move 3 none :: cWd) { frames := 0, cells := 0, slots := 0, locals := 0 } [rfv g 10, .int (Int32.ofInt x1), .int (Int32.ofInt x2)] D (TYs k) (cW k z g π σ) (XV z mi aK aV (cW k z g π σ)) Unit (fun _ => True) (fun _ => cW k z g π r) 0 0 := by
  intro sz
  refine v_met (cc := cX1_move) (maxL := 3) (ret := none) (lv := [(0, rfv g 10), (1, .int (Int32.ofInt x1)), (2, .int (Int32.ofInt x2))]) (by decide) rfl (by simp [lg_sl, rfv_cat, cat_i, cat_l]) (by simp [lv_args, rfv_cat, cat_i, cat_l]) ?_
  intro p e s m below meth c ls C hE hr hlk hmn hl h
  rw [Es_move] at hm
  refine lv_iload_n C.1 C.2.1 dX1_move_0 rfl (lv_at hl 1 rfl) ?_
  refine lv_iload_n C.1 C.2.1 dX1_move_1 rfl (lv_at hl 2 rfl) ?_
  obtain ⟨g1, hm⟩ := grd_s hm
  obtain ⟨g2, hm⟩ := grd_s hm
  refine z_icmp_ne (tgt := 6) C dX1_move_2 (by decide) g1 g2 (fun c3 => ?_) (fun c3 => ?_)
  · have hm := ite_f c3 hm
    refine z_aload_n C dX1_move_6 rfl (lv_at hl 0 rfl) ?_
    refine cg_2_0 C h (sh_10 hS) cU_X1 (List.mem_cons_of_mem _ wl_X1_9) dX1_move_7 ?_
    refine lv_iload_n C.1 C.2.1 dX1_move_10 rfl (lv_at hl 2 rfl) ?_
    refine z_aload_n C dX1_move_11 rfl (lv_at hl 0 rfl) ?_
    refine cg_2_0 C h (sh_10 hS) cU_X1 (List.mem_cons_of_mem _ wl_X1_9) dX1_move_12 ?_
    refine lv_iload_n C.1 C.2.1 dX1_move_15 rfl (lv_at hl 1 rfl) ?_
    obtain ⟨g4, hm⟩ := grd_s hm
    refine c_lald C h (sh_11 hS) (ina_inb (n := 6000) (sl_11 hS) (Nat.le_of_ble_eq_true rfl) g4) dX1_move_16 ?_
    obtain ⟨g5, hm⟩ := grd_s hm
    refine c_last C h (sh_11 hS) (ina_inb (n := 6000) (sl_11 hS) (Nat.le_of_ble_eq_true rfl) g5) dX1_move_17 (fun H locs h => ?_)
    refine z_aload_n C dX1_move_18 rfl (lv_at hl 0 rfl) ?_
    refine cg_2_1 C h (sh_10 hS) cU_X1 (List.mem_cons_of_mem _ wl_X1_13) dX1_move_19 ?_
    refine lv_iload_n C.1 C.2.1 dX1_move_22 rfl (lv_at hl 2 rfl) ?_
    refine z_aload_n C dX1_move_23 rfl (lv_at hl 0 rfl) ?_
    refine cg_2_1 C h (sh_10 hS) cU_X1 (List.mem_cons_of_mem _ wl_X1_13) dX1_move_24 ?_
    refine lv_iload_n C.1 C.2.1 dX1_move_27 rfl (lv_at hl 1 rfl) ?_
    refine c_lald C h (sh_12 hS) (ina_inb (n := 6000) (sl_12 hS) (Nat.le_of_ble_eq_true rfl) g4) dX1_move_28 ?_
    refine x_topl (y := Int64.ofInt (el σ 12 x1)) (by simp [fl, el, se, sf]) ?_
    refine c_last C h (sh_12 hS) (ina_inb (n := 6000) (sl_12 hS) (Nat.le_of_ble_eq_true rfl) g5) dX1_move_29 (fun H locs h => ?_)
    refine z_aload_n C dX1_move_30 rfl (lv_at hl 0 rfl) ?_
    refine cg_2_2 C h (sh_10 hS) cU_X1 (List.mem_cons_of_mem _ wl_X1_16) dX1_move_31 ?_
    refine lv_iload_n C.1 C.2.1 dX1_move_34 rfl (lv_at hl 2 rfl) ?_
    refine z_aload_n C dX1_move_35 rfl (lv_at hl 0 rfl) ?_
    refine cg_2_2 C h (sh_10 hS) cU_X1 (List.mem_cons_of_mem _ wl_X1_16) dX1_move_36 ?_
    refine lv_iload_n C.1 C.2.1 dX1_move_39 rfl (lv_at hl 1 rfl) ?_
    refine c_lald C h (sh_13 hS) (ina_inb (n := 6000) (sl_13 hS) (Nat.le_of_ble_eq_true rfl) g4) dX1_move_40 ?_
    refine x_topl (y := Int64.ofInt (el σ 13 x1)) (by simp [fl, el, se, sf]) ?_
    refine c_last C h (sh_13 hS) (ina_inb (n := 6000) (sl_13 hS) (Nat.le_of_ble_eq_true rfl) g5) dX1_move_41 (fun H locs h => ?_)
    refine z_aload_n C dX1_move_42 rfl (lv_at hl 0 rfl) ?_
    refine cg_2_3 C h (sh_10 hS) cU_X1 (List.mem_cons_of_mem _ wl_X1_19) dX1_move_43 ?_
    refine lv_iload_n C.1 C.2.1 dX1_move_46 rfl (lv_at hl 2 rfl) ?_
    refine z_aload_n C dX1_move_47 rfl (lv_at hl 0 rfl) ?_
    refine cg_2_3 C h (sh_10 hS) cU_X1 (List.mem_cons_of_mem _ wl_X1_19) dX1_move_48 ?_
    refine lv_iload_n C.1 C.2.1 dX1_move_51 rfl (lv_at hl 1 rfl) ?_
    refine c_iald C h (sh_14 hS) (ina_inb (n := 6000) (sl_14 hS) (Nat.le_of_ble_eq_true rfl) g4) dX1_move_52 ?_
    refine x_topi (y := Int32.ofInt (el σ 14 x1)) (by simp [fl, el, se, sf]) ?_
    refine c_iast C h (sh_14 hS) (ina_inb (n := 6000) (sl_14 hS) (Nat.le_of_ble_eq_true rfl) g5) dX1_move_53 (fun H locs h => ?_)
    refine z_aload_n C dX1_move_54 rfl (lv_at hl 0 rfl) ?_
    refine cg_2_4 C h (sh_10 hS) cU_X1 (List.mem_cons_of_mem _ wl_X1_23) dX1_move_55 ?_
    refine lv_iload_n C.1 C.2.1 dX1_move_58 rfl (lv_at hl 2 rfl) ?_
    refine z_aload_n C dX1_move_59 rfl (lv_at hl 0 rfl) ?_
    refine cg_2_4 C h (sh_10 hS) cU_X1 (List.mem_cons_of_mem _ wl_X1_23) dX1_move_60 ?_
    refine lv_iload_n C.1 C.2.1 dX1_move_63 rfl (lv_at hl 1 rfl) ?_
    refine c_zald C h (sh_15 hS) (ina_inb (n := 6000) (sl_15 hS) (Nat.le_of_ble_eq_true rfl) g4) dX1_move_64 ?_
    refine x_topi (y := Int32.ofInt (el σ 15 x1)) (by simp [fl, el, se, sf]) ?_
    obtain ⟨g6, hm⟩ := grd_s hm
    refine c_zast C h (sh_15 hS) (ina_inb (n := 6000) (sl_15 hS) (Nat.le_of_ble_eq_true rfl) g5) g6 dX1_move_65 (fun H locs h => ?_)
    refine z_aload_n C dX1_move_66 rfl (lv_at hl 0 rfl) ?_
    refine cg_2_5 C h (sh_10 hS) cU_X1 (List.mem_cons_of_mem _ wl_X1_27) dX1_move_67 ?_
    refine lv_iload_n C.1 C.2.1 dX1_move_70 rfl (lv_at hl 2 rfl) ?_
    refine z_aload_n C dX1_move_71 rfl (lv_at hl 0 rfl) ?_
    refine cg_2_5 C h (sh_10 hS) cU_X1 (List.mem_cons_of_mem _ wl_X1_27) dX1_move_72 ?_
    refine lv_iload_n C.1 C.2.1 dX1_move_75 rfl (lv_at hl 1 rfl) ?_
    refine c_iald C h (sh_16 hS) (ina_inb (n := 6000) (sl_16 hS) (Nat.le_of_ble_eq_true rfl) g4) dX1_move_76 ?_
    refine x_topi (y := Int32.ofInt (el σ 16 x1)) (by simp [fl, el, se, sf]) ?_
    refine c_iast C h (sh_16 hS) (ina_inb (n := 6000) (sl_16 hS) (Nat.le_of_ble_eq_true rfl) g5) dX1_move_77 (fun H locs h => ?_)
    cases hm
    exact c_vretP C h hr hlk dX1_move_78
  · have hm := ite_t c3 hm
    cases hm
    exact c_vretP C h hr hlk dX1_move_5
end Z_Es_move
section Z_Es_choose
variable {p : Program} {l : Launch} {e : Env} {s : State} {m : MethodId} {args : Array Value} {below : List Frame} {meth : Method} {c : Code} {D : va_G} {A : Nat → Prop} {k : Nat → ClassId} {N : Nat} {cd : Cond} {z mi : Nat} {aK aV : Nat → Nat} {g : Nat → Nat} {π : Sh}
set_option maxHeartbeats 8000000 in
set_option maxRecDepth 100000 in
theorem kl_Es_choose_61 {r : St} (C : Cx p s m args c cX1_choose RX1 (cd :: cWd) D (TYs k) 9) (hr : meth.sig.returnType = none) (hlk : meth.locks = false) (hE : Ev z mi aK aV A s s.heap) (hS : SHs π)   {rec6 : St → Int → Int → Int → Int → Int → Option St} (hrec6 : ∀ {ls : Array Slot} {H : Heap} {locs : List Loc} {σ : St} {x2 : Int} {x4 : Int} {x6 : Int} {x7 : Int} {x8 : Int}, lv_has ls 9 [(0, rfv g 10), (2, .long (Int64.ofInt x2)), (4, .long (Int64.ofInt x4)), (6, .int (Int32.ofInt x6)), (7, .int (Int32.ofInt x7)), (8, .int (Int32.ofInt x8))] → Hp D A s.heap H locs (cW k z g π σ) → rec6 σ x2 x4 x6 x7 x8 = some r → W p l e { frames := 1, cells := 0, slots := 0, locals := 22 } s m args below meth c H locs 0 0 (MQ below (va_Qv (fun (_ : Unit) => True) (fun _ t => PostW D (TYs k) A (cW k z g π r) t) A) args s 0 0 A) (F0 m 6 ls [])) {ls : Array Slot} {H : Heap} {locs : List Loc} {σ : St} {x2 : Int} {x4 : Int} {x6 : Int} {x7 : Int} {x8 : Int}  (hl : lv_has ls 9 [(0, rfv g 10), (2, .long (Int64.ofInt x2)), (4, .long (Int64.ofInt x4)), (6, .int (Int32.ofInt x6)), (7, .int (Int32.ofInt x7)), (8, .int (Int32.ofInt x8))]) (h : Hp D A s.heap H locs (cW k z g π σ)) (hm : Es_choose_61 N π rec6 σ x2 x4 x6 x7 x8 = some r) : W p l e { frames := 1, cells := 0, slots := 0, locals := 22 } s m args below meth c H locs 0 0 (MQ below (va_Qv (fun (_ : Unit) => True) (fun _ t => PostW D (TYs k) A (cW k z g π r) t) A) args s 0 0 A) (F0 m 61 ls []) := by
  rw [Es_choose_61] at hm
  refine lv_iinc (v := Int32.ofInt (x8 + 1)) (lv' := [(8, .int (Int32.ofInt (x8 + 1))), (0, rfv g 10), (2, .long (Int64.ofInt x2)), (4, .long (Int64.ofInt x4)), (6, .int (Int32.ofInt x6)), (7, .int (Int32.ofInt x7))]) C.1 C.2.1 dX1_choose_61 hl (k := 5) rfl (c32_add _ _) (by decide) rfl (fun ls hl => ?_)
  refine lv_goto (tgt := 6) C.1 C.2.1 dX1_choose_64 (by decide) ?_
  exact hrec6 (lv_sub hl [1, 2, 3, 4, 5, 0] rfl) h hm
set_option maxHeartbeats 8000000 in
set_option maxRecDepth 100000 in
theorem kl_Es_choose_45 {r : St} (C : Cx p s m args c cX1_choose RX1 (cd :: cWd) D (TYs k) 9) (hr : meth.sig.returnType = none) (hlk : meth.locks = false) (hE : Ev z mi aK aV A s s.heap) (hS : SHs π)   {rec6 : St → Int → Int → Int → Int → Int → Option St} (hrec6 : ∀ {ls : Array Slot} {H : Heap} {locs : List Loc} {σ : St} {x2 : Int} {x4 : Int} {x6 : Int} {x7 : Int} {x8 : Int}, lv_has ls 9 [(0, rfv g 10), (2, .long (Int64.ofInt x2)), (4, .long (Int64.ofInt x4)), (6, .int (Int32.ofInt x6)), (7, .int (Int32.ofInt x7)), (8, .int (Int32.ofInt x8))] → Hp D A s.heap H locs (cW k z g π σ) → rec6 σ x2 x4 x6 x7 x8 = some r → W p l e { frames := 1, cells := 0, slots := 0, locals := 22 } s m args below meth c H locs 0 0 (MQ below (va_Qv (fun (_ : Unit) => True) (fun _ t => PostW D (TYs k) A (cW k z g π r) t) A) args s 0 0 A) (F0 m 6 ls [])) {ls : Array Slot} {H : Heap} {locs : List Loc} {σ : St} {x2 : Int} {x4 : Int} {x6 : Int} {x7 : Int} {x8 : Int} {s0 : Int}  (hl : lv_has ls 9 [(0, rfv g 10), (2, .long (Int64.ofInt x2)), (4, .long (Int64.ofInt x4)), (6, .int (Int32.ofInt x6)), (7, .int (Int32.ofInt x7)), (8, .int (Int32.ofInt x8))]) (h : Hp D A s.heap H locs (cW k z g π σ)) (hm : Es_choose_45 N π rec6 σ x2 x4 x6 x7 x8 s0 = some r) : W p l e { frames := 1, cells := 0, slots := 0, locals := 22 } s m args below meth c H locs 0 0 (MQ below (va_Qv (fun (_ : Unit) => True) (fun _ t => PostW D (TYs k) A (cW k z g π r) t) A) args s 0 0 A) (F0 m 45 ls [.int (Int32.ofInt s0)]) := by
  rw [Es_choose_45] at hm
  refine lv_iload C.1 C.2.1 dX1_choose_45 (lv_at hl 3 rfl) ?_
  obtain ⟨g10, hm⟩ := grd_s hm
  obtain ⟨g11, hm⟩ := grd_s hm
  refine z_icmp_ne (tgt := 61) C dX1_choose_47 (by decide) g10 g11 (fun c12 => ?_) (fun c12 => ?_)
  · have hm := ite_f c12 hm
    exact kl_Es_choose_61 (N := N) C hr hlk hE hS hrec6 (lv_sub hl [0, 1, 2, 3, 4, 5] rfl) h hm
  · have hm := ite_t c12 hm
    refine z_aload_n C dX1_choose_50 rfl (lv_at hl 0 rfl) ?_
    refine lv_iload C.1 C.2.1 dX1_choose_51 (lv_at hl 5 rfl) ?_
    refine lv_iload C.1 C.2.1 dX1_choose_53 (lv_at hl 4 rfl) ?_
    obtain ⟨r13, e14, hm⟩ := obd_s hm
    refine c_callVvP C hE h (sh_10 hS) rfl (by decide) (kc_Es_move l D k z mi aK aV g N hS e14) (cwV 2 C.2.2.1 (gS_X1_59 _) rfl rfl rfl hd_X1_move ⟨Nat.le_of_ble_eq_true rfl, Nat.le_of_ble_eq_true rfl⟩) rfl hl.1 rfl (Nat.le_of_ble_eq_true rfl) dX1_choose_55 ⟨(Nat.le_of_ble_eq_true rfl), (Nat.le_of_ble_eq_true rfl)⟩ (fun H locs h => ?_)
    refine lv_iinc (v := Int32.ofInt (x7 + 1)) (lv' := [(7, .int (Int32.ofInt (x7 + 1))), (0, rfv g 10), (2, .long (Int64.ofInt x2)), (4, .long (Int64.ofInt x4)), (6, .int (Int32.ofInt x6)), (8, .int (Int32.ofInt x8))]) C.1 C.2.1 dX1_choose_58 hl (k := 4) rfl (c32_add _ _) (by decide) rfl (fun ls hl => ?_)
    exact kl_Es_choose_61 (N := N) C hr hlk hE hS hrec6 (lv_sub hl [1, 2, 3, 4, 0, 5] rfl) h hm
set_option maxHeartbeats 8000000 in
set_option maxRecDepth 100000 in
theorem kl_Es_choose_44 {r : St} (C : Cx p s m args c cX1_choose RX1 (cd :: cWd) D (TYs k) 9) (hr : meth.sig.returnType = none) (hlk : meth.locks = false) (hE : Ev z mi aK aV A s s.heap) (hS : SHs π)   {rec6 : St → Int → Int → Int → Int → Int → Option St} (hrec6 : ∀ {ls : Array Slot} {H : Heap} {locs : List Loc} {σ : St} {x2 : Int} {x4 : Int} {x6 : Int} {x7 : Int} {x8 : Int}, lv_has ls 9 [(0, rfv g 10), (2, .long (Int64.ofInt x2)), (4, .long (Int64.ofInt x4)), (6, .int (Int32.ofInt x6)), (7, .int (Int32.ofInt x7)), (8, .int (Int32.ofInt x8))] → Hp D A s.heap H locs (cW k z g π σ) → rec6 σ x2 x4 x6 x7 x8 = some r → W p l e { frames := 1, cells := 0, slots := 0, locals := 22 } s m args below meth c H locs 0 0 (MQ below (va_Qv (fun (_ : Unit) => True) (fun _ t => PostW D (TYs k) A (cW k z g π r) t) A) args s 0 0 A) (F0 m 6 ls [])) {ls : Array Slot} {H : Heap} {locs : List Loc} {σ : St} {x2 : Int} {x4 : Int} {x6 : Int} {x7 : Int} {x8 : Int}  (hl : lv_has ls 9 [(0, rfv g 10), (2, .long (Int64.ofInt x2)), (4, .long (Int64.ofInt x4)), (6, .int (Int32.ofInt x6)), (7, .int (Int32.ofInt x7)), (8, .int (Int32.ofInt x8))]) (h : Hp D A s.heap H locs (cW k z g π σ)) (hm : Es_choose_44 N π rec6 σ x2 x4 x6 x7 x8 = some r) : W p l e { frames := 1, cells := 0, slots := 0, locals := 22 } s m args below meth c H locs 0 0 (MQ below (va_Qv (fun (_ : Unit) => True) (fun _ t => PostW D (TYs k) A (cW k z g π r) t) A) args s 0 0 A) (F0 m 44 ls []) := by
  rw [Es_choose_44] at hm
  refine lv_iconst (v := Int32.ofInt 0) C.1 C.2.1 dX1_choose_44 (by decide) ?_
  exact kl_Es_choose_45 (N := N) C hr hlk hE hS hrec6 (lv_sub hl [0, 1, 2, 3, 4, 5] rfl) h hm
set_option maxHeartbeats 8000000 in
set_option maxRecDepth 100000 in
theorem kl_Es_choose_6 {r : St} (C : Cx p s m args c cX1_choose RX1 (cd :: cWd) D (TYs k) 9) (hr : meth.sig.returnType = none) (hlk : meth.locks = false) (hE : Ev z mi aK aV A s s.heap) (hS : SHs π)    (n : Nat) : ∀ {ls : Array Slot} {H : Heap} {locs : List Loc} {σ : St} {x2 : Int} {x4 : Int} {x6 : Int} {x7 : Int} {x8 : Int}, lv_has ls 9 [(0, rfv g 10), (2, .long (Int64.ofInt x2)), (4, .long (Int64.ofInt x4)), (6, .int (Int32.ofInt x6)), (7, .int (Int32.ofInt x7)), (8, .int (Int32.ofInt x8))] → Hp D A s.heap H locs (cW k z g π σ) → Es_choose_6 N π n σ x2 x4 x6 x7 x8 = some r → W p l e { frames := 1, cells := 0, slots := 0, locals := 22 } s m args below meth c H locs 0 0 (MQ below (va_Qv (fun (_ : Unit) => True) (fun _ t => PostW D (TYs k) A (cW k z g π r) t) A) args s 0 0 A) (F0 m 6 ls []) := by
  induction n with
  | zero => intro ls H locs σ x2 x4 x6 x7 x8  hl h hm; cases (show none = some r from hm)
  | succ n hrec6 =>
    intro ls H locs σ x2 x4 x6 x7 x8  hl h hm
    rw [Es_choose_6] at hm
    refine lv_iload C.1 C.2.1 dX1_choose_6 (lv_at hl 5 rfl) ?_
    refine z_aload_n C dX1_choose_8 rfl (lv_at hl 0 rfl) ?_
    refine cg_2_6 C h (sh_10 hS) cU_X1 (List.mem_cons_of_mem _ wl_X1_30) dX1_choose_9 ?_
    obtain ⟨g1, hm⟩ := grd_s hm
    obtain ⟨g2, hm⟩ := grd_s hm
    refine z_icmp_ge (tgt := 67) C dX1_choose_12 (by decide) g1 g2 (fun c3 => ?_) (fun c3 => ?_)
    · have hm := ite_f c3 hm
      refine z_aload_n C dX1_choose_67 rfl (lv_at hl 0 rfl) ?_
      refine lv_iload C.1 C.2.1 dX1_choose_68 (lv_at hl 4 rfl) ?_
      refine cp_2_6 C h (sh_10 hS) cU_X1 (List.mem_cons_of_mem _ wl_X1_30) dX1_choose_70 (fun H locs h => ?_)
      cases hm
      exact c_vretP C h hr hlk dX1_choose_73
    · have hm := ite_t c3 hm
      refine z_aload_n C dX1_choose_15 rfl (lv_at hl 0 rfl) ?_
      refine cg_2_0 C h (sh_10 hS) cU_X1 (List.mem_cons_of_mem _ wl_X1_9) dX1_choose_16 ?_
      refine lv_iload C.1 C.2.1 dX1_choose_19 (lv_at hl 5 rfl) ?_
      obtain ⟨g4, hm⟩ := grd_s hm
      refine c_lald C h (sh_11 hS) (ina_inb (n := 6000) (sl_11 hS) (Nat.le_of_ble_eq_true rfl) g4) dX1_choose_21 ?_
      refine lv_lload_n C.1 C.2.1 dX1_choose_22 rfl (lv_at hl 1 rfl) ?_
      obtain ⟨g5, hm⟩ := grd_s hm
      obtain ⟨g6, hm⟩ := grd_s hm
      refine W.lcmp C.1 C.2.1 dX1_choose_23 ?_
      refine z_lcmp_lt (tgt := 44) C dX1_choose_24 (by decide) g5 g6 (fun c7 => ?_) (fun c7 => ?_)
      · have hm := ite_t c7 hm
        exact kl_Es_choose_44 (N := N) C hr hlk hE hS hrec6 (lv_sub hl [0, 1, 2, 3, 4, 5] rfl) h hm
      · have hm := ite_f c7 hm
        refine z_aload_n C dX1_choose_27 rfl (lv_at hl 0 rfl) ?_
        refine cg_2_0 C h (sh_10 hS) cU_X1 (List.mem_cons_of_mem _ wl_X1_9) dX1_choose_28 ?_
        refine lv_iload C.1 C.2.1 dX1_choose_31 (lv_at hl 5 rfl) ?_
        refine c_lald C h (sh_11 hS) (ina_inb (n := 6000) (sl_11 hS) (Nat.le_of_ble_eq_true rfl) g4) dX1_choose_33 ?_
        refine lv_lload C.1 C.2.1 dX1_choose_34 (lv_at hl 2 rfl) ?_
        obtain ⟨g8, hm⟩ := grd_s hm
        refine W.lcmp C.1 C.2.1 dX1_choose_36 ?_
        refine z_lcmp_ge (tgt := 44) C dX1_choose_37 (by decide) g5 g8 (fun c9 => ?_) (fun c9 => ?_)
        · have hm := ite_f c9 hm
          exact kl_Es_choose_44 (N := N) C hr hlk hE hS hrec6 (lv_sub hl [0, 1, 2, 3, 4, 5] rfl) h hm
        · have hm := ite_t c9 hm
          refine lv_iconst (v := Int32.ofInt 1) C.1 C.2.1 dX1_choose_40 (by decide) ?_
          refine lv_goto (tgt := 45) C.1 C.2.1 dX1_choose_41 (by decide) ?_
          exact kl_Es_choose_45 (N := N) C hr hlk hE hS hrec6 (lv_sub hl [0, 1, 2, 3, 4, 5] rfl) h hm
set_option maxHeartbeats 8000000 in
set_option maxRecDepth 100000 in
theorem kc_Es_choose (l : Launch) (D : va_G) (k : Nat → ClassId) (z mi : Nat) (aK aV : Nat → Nat) (g : Nat → Nat) (N : Nat)    {π : Sh} {σ : St} {x1 : Int} {x2 : Int} {x4 : Int} {x6 : Int} {r : St} (hS : SHs π) (hm : Es_choose N π σ x1 x2 x4 x6 = some r) : Mv l yX1_choose (.code yX1_choose cX1_choose 9 none :: cWd) { frames := 1, cells := 0, slots := 0, locals := 22 } [rfv g 10, .int (Int32.ofInt x1), .long (Int64.ofInt x2), .long (Int64.ofInt x4), .int (Int32.ofInt x6)] D (TYs k) (cW k z g π σ) (XV z mi aK aV (cW k z g π σ)) Unit (fun _ => True) (fun _ => cW k z g π r) 0 0 := by
  intro sz
  refine v_met (cc := cX1_choose) (maxL := 9) (ret := none) (lv := [(0, rfv g 10), (1, .int (Int32.ofInt x1)), (2, .long (Int64.ofInt x2)), (4, .long (Int64.ofInt x4)), (6, .int (Int32.ofInt x6))]) (by decide) rfl (by simp [lg_sl, rfv_cat, cat_i, cat_l]) (by simp [lv_args, rfv_cat, cat_i, cat_l]) ?_
  intro p e s m below meth c ls C hE hr hlk hmn hl h
  rw [Es_choose] at hm
  refine lv_iload_n C.1 C.2.1 dX1_choose_0 rfl (lv_at hl 1 rfl) ?_
  refine lv_istore (lv' := [(7, .int (Int32.ofInt x1)), (0, rfv g 10), (1, .int (Int32.ofInt x1)), (2, .long (Int64.ofInt x2)), (4, .long (Int64.ofInt x4)), (6, .int (Int32.ofInt x6))]) C.1 C.2.1 dX1_choose_1 hl (by decide) rfl (fun ls hl => ?_)
  refine lv_iload_n C.1 C.2.1 dX1_choose_3 rfl (lv_at hl 2 rfl) ?_
  refine lv_istore (lv' := [(8, .int (Int32.ofInt x1)), (7, .int (Int32.ofInt x1)), (0, rfv g 10), (1, .int (Int32.ofInt x1)), (2, .long (Int64.ofInt x2)), (4, .long (Int64.ofInt x4)), (6, .int (Int32.ofInt x6))]) C.1 C.2.1 dX1_choose_4 hl (by decide) rfl (fun ls hl => ?_)
  exact kl_Es_choose_6 (N := N) C hr hlk hE hS N (lv_sub hl [2, 4, 5, 6, 1, 0] rfl) h hm
end Z_Es_choose
section Z_Es_chooseMarked
variable {p : Program} {l : Launch} {e : Env} {s : State} {m : MethodId} {args : Array Value} {below : List Frame} {meth : Method} {c : Code} {D : va_G} {A : Nat → Prop} {k : Nat → ClassId} {N : Nat} {cd : Cond} {z mi : Nat} {aK aV : Nat → Nat} {g : Nat → Nat} {π : Sh}
set_option maxHeartbeats 8000000 in
set_option maxRecDepth 100000 in
theorem kl_Es_chooseMarked_35 {r : St} (C : Cx p s m args c cX1_chooseMarked RX1 (cd :: cWd) D (TYs k) 5) (hr : meth.sig.returnType = none) (hlk : meth.locks = false) (hE : Ev z mi aK aV A s s.heap) (hS : SHs π)   {rec5 : St → Int → Int → Int → Option St} (hrec5 : ∀ {ls : Array Slot} {H : Heap} {locs : List Loc} {σ : St} {x2 : Int} {x3 : Int} {x4 : Int}, lv_has ls 5 [(0, rfv g 10), (2, .int (Int32.ofInt x2)), (3, .int (Int32.ofInt x3)), (4, .int (Int32.ofInt x4))] → Hp D A s.heap H locs (cW k z g π σ) → rec5 σ x2 x3 x4 = some r → W p l e { frames := 1, cells := 0, slots := 0, locals := 22 } s m args below meth c H locs 0 0 (MQ below (va_Qv (fun (_ : Unit) => True) (fun _ t => PostW D (TYs k) A (cW k z g π r) t) A) args s 0 0 A) (F0 m 5 ls [])) {ls : Array Slot} {H : Heap} {locs : List Loc} {σ : St} {x2 : Int} {x3 : Int} {x4 : Int}  (hl : lv_has ls 5 [(0, rfv g 10), (2, .int (Int32.ofInt x2)), (3, .int (Int32.ofInt x3)), (4, .int (Int32.ofInt x4))]) (h : Hp D A s.heap H locs (cW k z g π σ)) (hm : Es_chooseMarked_35 N π rec5 σ x2 x3 x4 = some r) : W p l e { frames := 1, cells := 0, slots := 0, locals := 22 } s m args below meth c H locs 0 0 (MQ below (va_Qv (fun (_ : Unit) => True) (fun _ t => PostW D (TYs k) A (cW k z g π r) t) A) args s 0 0 A) (F0 m 35 ls []) := by
  rw [Es_chooseMarked_35] at hm
  refine lv_iinc (v := Int32.ofInt (x4 + 1)) (lv' := [(4, .int (Int32.ofInt (x4 + 1))), (0, rfv g 10), (2, .int (Int32.ofInt x2)), (3, .int (Int32.ofInt x3))]) C.1 C.2.1 dX1_chooseMarked_35 hl (k := 3) rfl (c32_add _ _) (by decide) rfl (fun ls hl => ?_)
  refine lv_goto (tgt := 5) C.1 C.2.1 dX1_chooseMarked_38 (by decide) ?_
  exact hrec5 (lv_sub hl [1, 2, 3, 0] rfl) h hm
set_option maxHeartbeats 8000000 in
set_option maxRecDepth 100000 in
theorem kl_Es_chooseMarked_5 {r : St} (C : Cx p s m args c cX1_chooseMarked RX1 (cd :: cWd) D (TYs k) 5) (hr : meth.sig.returnType = none) (hlk : meth.locks = false) (hE : Ev z mi aK aV A s s.heap) (hS : SHs π)    (n : Nat) : ∀ {ls : Array Slot} {H : Heap} {locs : List Loc} {σ : St} {x2 : Int} {x3 : Int} {x4 : Int}, lv_has ls 5 [(0, rfv g 10), (2, .int (Int32.ofInt x2)), (3, .int (Int32.ofInt x3)), (4, .int (Int32.ofInt x4))] → Hp D A s.heap H locs (cW k z g π σ) → Es_chooseMarked_5 N π n σ x2 x3 x4 = some r → W p l e { frames := 1, cells := 0, slots := 0, locals := 22 } s m args below meth c H locs 0 0 (MQ below (va_Qv (fun (_ : Unit) => True) (fun _ t => PostW D (TYs k) A (cW k z g π r) t) A) args s 0 0 A) (F0 m 5 ls []) := by
  induction n with
  | zero => intro ls H locs σ x2 x3 x4  hl h hm; cases (show none = some r from hm)
  | succ n hrec5 =>
    intro ls H locs σ x2 x3 x4  hl h hm
    rw [Es_chooseMarked_5] at hm
    refine lv_iload C.1 C.2.1 dX1_chooseMarked_5 (lv_at hl 3 rfl) ?_
    refine z_aload_n C dX1_chooseMarked_7 rfl (lv_at hl 0 rfl) ?_
    refine cg_2_6 C h (sh_10 hS) cU_X1 (List.mem_cons_of_mem _ wl_X1_30) dX1_chooseMarked_8 ?_
    obtain ⟨g1, hm⟩ := grd_s hm
    obtain ⟨g2, hm⟩ := grd_s hm
    refine z_icmp_ge (tgt := 41) C dX1_chooseMarked_11 (by decide) g1 g2 (fun c3 => ?_) (fun c3 => ?_)
    · have hm := ite_f c3 hm
      refine z_aload_n C dX1_chooseMarked_41 rfl (lv_at hl 0 rfl) ?_
      refine lv_iload_n C.1 C.2.1 dX1_chooseMarked_42 rfl (lv_at hl 2 rfl) ?_
      refine cp_2_6 C h (sh_10 hS) cU_X1 (List.mem_cons_of_mem _ wl_X1_30) dX1_chooseMarked_43 (fun H locs h => ?_)
      cases hm
      exact c_vretP C h hr hlk dX1_chooseMarked_46
    · have hm := ite_t c3 hm
      refine z_aload_n C dX1_chooseMarked_14 rfl (lv_at hl 0 rfl) ?_
      refine cg_2_5 C h (sh_10 hS) cU_X1 (List.mem_cons_of_mem _ wl_X1_27) dX1_chooseMarked_15 ?_
      refine lv_iload C.1 C.2.1 dX1_chooseMarked_18 (lv_at hl 3 rfl) ?_
      obtain ⟨g4, hm⟩ := grd_s hm
      refine c_iald C h (sh_16 hS) (ina_inb (n := 6000) (sl_16 hS) (Nat.le_of_ble_eq_true rfl) g4) dX1_chooseMarked_20 ?_
      refine lv_iload_n C.1 C.2.1 dX1_chooseMarked_21 rfl (lv_at hl 1 rfl) ?_
      obtain ⟨g5, hm⟩ := grd_s hm
      obtain ⟨g6, hm⟩ := grd_s hm
      refine z_icmp_ne (tgt := 35) C dX1_chooseMarked_22 (by decide) g5 g6 (fun c7 => ?_) (fun c7 => ?_)
      · have hm := ite_f c7 hm
        exact kl_Es_chooseMarked_35 (N := N) C hr hlk hE hS hrec5 (lv_sub hl [0, 1, 2, 3] rfl) h hm
      · have hm := ite_t c7 hm
        refine z_aload_n C dX1_chooseMarked_25 rfl (lv_at hl 0 rfl) ?_
        refine lv_iload C.1 C.2.1 dX1_chooseMarked_26 (lv_at hl 3 rfl) ?_
        refine lv_iload_n C.1 C.2.1 dX1_chooseMarked_28 rfl (lv_at hl 2 rfl) ?_
        obtain ⟨r8, e9, hm⟩ := obd_s hm
        refine c_callVvP C hE h (sh_10 hS) rfl (by decide) (kc_Es_move l D k z mi aK aV g N hS e9) (cwV 2 C.2.2.1 (gS_X1_59 _) rfl rfl rfl hd_X1_move ⟨Nat.le_of_ble_eq_true rfl, Nat.le_of_ble_eq_true rfl⟩) rfl hl.1 rfl (Nat.le_of_ble_eq_true rfl) dX1_chooseMarked_29 ⟨(Nat.le_of_ble_eq_true rfl), (Nat.le_of_ble_eq_true rfl)⟩ (fun H locs h => ?_)
        refine lv_iinc (v := Int32.ofInt (x3 + 1)) (lv' := [(3, .int (Int32.ofInt (x3 + 1))), (0, rfv g 10), (2, .int (Int32.ofInt x2)), (4, .int (Int32.ofInt x4))]) C.1 C.2.1 dX1_chooseMarked_32 hl (k := 2) rfl (c32_add _ _) (by decide) rfl (fun ls hl => ?_)
        exact kl_Es_chooseMarked_35 (N := N) C hr hlk hE hS hrec5 (lv_sub hl [1, 2, 0, 3] rfl) h hm
set_option maxHeartbeats 8000000 in
set_option maxRecDepth 100000 in
theorem kc_Es_chooseMarked (l : Launch) (D : va_G) (k : Nat → ClassId) (z mi : Nat) (aK aV : Nat → Nat) (g : Nat → Nat) (N : Nat)    {π : Sh} {σ : St} {x1 : Int} {x2 : Int} {r : St} (hS : SHs π) (hm : Es_chooseMarked N π σ x1 x2 = some r) : Mv l yX1_chooseMarked (.code yX1_chooseMarked cX1_chooseMarked 5 none :: cWd) { frames := 1, cells := 0, slots := 0, locals := 22 } [rfv g 10, .int (Int32.ofInt x1), .int (Int32.ofInt x2)] D (TYs k) (cW k z g π σ) (XV z mi aK aV (cW k z g π σ)) Unit (fun _ => True) (fun _ => cW k z g π r) 0 0 := by
  intro sz
  refine v_met (cc := cX1_chooseMarked) (maxL := 5) (ret := none) (lv := [(0, rfv g 10), (1, .int (Int32.ofInt x1)), (2, .int (Int32.ofInt x2))]) (by decide) rfl (by simp [lg_sl, rfv_cat, cat_i, cat_l]) (by simp [lv_args, rfv_cat, cat_i, cat_l]) ?_
  intro p e s m below meth c ls C hE hr hlk hmn hl h
  rw [Es_chooseMarked] at hm
  refine lv_iload_n C.1 C.2.1 dX1_chooseMarked_0 rfl (lv_at hl 1 rfl) ?_
  refine lv_istore_n (lv' := [(3, .int (Int32.ofInt x1)), (0, rfv g 10), (1, .int (Int32.ofInt x1)), (2, .int (Int32.ofInt x2))]) C.1 C.2.1 dX1_chooseMarked_1 rfl hl (by decide) rfl (fun ls hl => ?_)
  refine lv_iload_n C.1 C.2.1 dX1_chooseMarked_2 rfl (lv_at hl 2 rfl) ?_
  refine lv_istore (lv' := [(4, .int (Int32.ofInt x1)), (3, .int (Int32.ofInt x1)), (0, rfv g 10), (1, .int (Int32.ofInt x1)), (2, .int (Int32.ofInt x2))]) C.1 C.2.1 dX1_chooseMarked_3 hl (by decide) rfl (fun ls hl => ?_)
  exact kl_Es_chooseMarked_5 (N := N) C hr hlk hE hS N (lv_sub hl [2, 4, 1, 0] rfl) h hm
end Z_Es_chooseMarked
section Z_Es_remove
variable {p : Program} {l : Launch} {e : Env} {s : State} {m : MethodId} {args : Array Value} {below : List Frame} {meth : Method} {c : Code} {D : va_G} {A : Nat → Prop} {k : Nat → ClassId} {N : Nat} {cd : Cond} {z mi : Nat} {aK aV : Nat → Nat} {g : Nat → Nat} {π : Sh}
set_option maxHeartbeats 8000000 in
set_option maxRecDepth 100000 in
theorem kl_Es_remove_5 {r : St} (C : Cx p s m args c cX1_remove RX1 (cd :: cWd) D (TYs k) 5) (hr : meth.sig.returnType = none) (hlk : meth.locks = false) (hE : Ev z mi aK aV A s s.heap) (hS : SHs π)    (n : Nat) : ∀ {ls : Array Slot} {H : Heap} {locs : List Loc} {σ : St} {x3 : Int} {x4 : Int}, lv_has ls 5 [(0, rfv g 10), (3, .int (Int32.ofInt x3)), (4, .int (Int32.ofInt x4))] → Hp D A s.heap H locs (cW k z g π σ) → Es_remove_5 N π n σ x3 x4 = some r → W p l e { frames := 1, cells := 0, slots := 0, locals := 22 } s m args below meth c H locs 0 0 (MQ below (va_Qv (fun (_ : Unit) => True) (fun _ t => PostW D (TYs k) A (cW k z g π r) t) A) args s 0 0 A) (F0 m 5 ls []) := by
  induction n with
  | zero => intro ls H locs σ x3 x4  hl h hm; cases (show none = some r from hm)
  | succ n hrec5 =>
    intro ls H locs σ x3 x4  hl h hm
    rw [Es_remove_5] at hm
    refine lv_iload C.1 C.2.1 dX1_remove_5 (lv_at hl 2 rfl) ?_
    refine z_aload_n C dX1_remove_7 rfl (lv_at hl 0 rfl) ?_
    refine cg_2_6 C h (sh_10 hS) cU_X1 (List.mem_cons_of_mem _ wl_X1_30) dX1_remove_8 ?_
    obtain ⟨g1, hm⟩ := grd_s hm
    obtain ⟨g2, hm⟩ := grd_s hm
    refine z_icmp_ge (tgt := 30) C dX1_remove_11 (by decide) g1 g2 (fun c3 => ?_) (fun c3 => ?_)
    · have hm := ite_f c3 hm
      refine z_aload_n C dX1_remove_30 rfl (lv_at hl 0 rfl) ?_
      refine lv_iload_n C.1 C.2.1 dX1_remove_31 rfl (lv_at hl 1 rfl) ?_
      refine cp_2_6 C h (sh_10 hS) cU_X1 (List.mem_cons_of_mem _ wl_X1_30) dX1_remove_32 (fun H locs h => ?_)
      cases hm
      exact c_vretP C h hr hlk dX1_remove_35
    · have hm := ite_t c3 hm
      refine z_aload_n C dX1_remove_14 rfl (lv_at hl 0 rfl) ?_
      refine lv_iload C.1 C.2.1 dX1_remove_15 (lv_at hl 2 rfl) ?_
      refine lv_iload_n C.1 C.2.1 dX1_remove_17 rfl (lv_at hl 1 rfl) ?_
      obtain ⟨r4, e5, hm⟩ := obd_s hm
      refine c_callVvP C hE h (sh_10 hS) rfl (by decide) (kc_Es_move l D k z mi aK aV g N hS e5) (cwV 2 C.2.2.1 (gS_X1_59 _) rfl rfl rfl hd_X1_move ⟨Nat.le_of_ble_eq_true rfl, Nat.le_of_ble_eq_true rfl⟩) rfl hl.1 rfl (Nat.le_of_ble_eq_true rfl) dX1_remove_18 ⟨(Nat.le_of_ble_eq_true rfl), (Nat.le_of_ble_eq_true rfl)⟩ (fun H locs h => ?_)
      refine lv_iinc (v := Int32.ofInt (x3 + 1)) (lv' := [(3, .int (Int32.ofInt (x3 + 1))), (0, rfv g 10), (4, .int (Int32.ofInt x4))]) C.1 C.2.1 dX1_remove_21 hl (k := 1) rfl (c32_add _ _) (by decide) rfl (fun ls hl => ?_)
      refine lv_iinc (v := Int32.ofInt (x4 + 1)) (lv' := [(4, .int (Int32.ofInt (x4 + 1))), (3, .int (Int32.ofInt (x3 + 1))), (0, rfv g 10)]) C.1 C.2.1 dX1_remove_24 hl (k := 2) rfl (c32_add _ _) (by decide) rfl (fun ls hl => ?_)
      refine lv_goto (tgt := 5) C.1 C.2.1 dX1_remove_27 (by decide) ?_
      exact hrec5 (lv_sub hl [2, 1, 0] rfl) h hm
set_option maxHeartbeats 8000000 in
set_option maxRecDepth 100000 in
theorem kc_Es_remove (l : Launch) (D : va_G) (k : Nat → ClassId) (z mi : Nat) (aK aV : Nat → Nat) (g : Nat → Nat) (N : Nat)    {π : Sh} {σ : St} {x1 : Int} {x2 : Int} {r : St} (hS : SHs π) (hm : Es_remove N π σ x1 x2 = some r) : Mv l yX1_remove (.code yX1_remove cX1_remove 5 none :: cWd) { frames := 1, cells := 0, slots := 0, locals := 22 } [rfv g 10, .int (Int32.ofInt x1), .int (Int32.ofInt x2)] D (TYs k) (cW k z g π σ) (XV z mi aK aV (cW k z g π σ)) Unit (fun _ => True) (fun _ => cW k z g π r) 0 0 := by
  intro sz
  refine v_met (cc := cX1_remove) (maxL := 5) (ret := none) (lv := [(0, rfv g 10), (1, .int (Int32.ofInt x1)), (2, .int (Int32.ofInt x2))]) (by decide) rfl (by simp [lg_sl, rfv_cat, cat_i, cat_l]) (by simp [lv_args, rfv_cat, cat_i, cat_l]) ?_
  intro p e s m below meth c ls C hE hr hlk hmn hl h
  rw [Es_remove] at hm
  refine lv_iload_n C.1 C.2.1 dX1_remove_0 rfl (lv_at hl 1 rfl) ?_
  refine lv_istore_n (lv' := [(3, .int (Int32.ofInt x1)), (0, rfv g 10), (1, .int (Int32.ofInt x1)), (2, .int (Int32.ofInt x2))]) C.1 C.2.1 dX1_remove_1 rfl hl (by decide) rfl (fun ls hl => ?_)
  refine lv_iload_n C.1 C.2.1 dX1_remove_2 rfl (lv_at hl 3 rfl) ?_
  refine lv_istore (lv' := [(4, .int (Int32.ofInt x2)), (3, .int (Int32.ofInt x1)), (0, rfv g 10), (1, .int (Int32.ofInt x1)), (2, .int (Int32.ofInt x2))]) C.1 C.2.1 dX1_remove_3 hl (by decide) rfl (fun ls hl => ?_)
  exact kl_Es_remove_5 (N := N) C hr hlk hE hS N (lv_sub hl [2, 1, 0] rfl) h hm
end Z_Es_remove
section Z_Es_isLoud
variable {p : Program} {l : Launch} {e : Env} {s : State} {m : MethodId} {args : Array Value} {below : List Frame} {meth : Method} {c : Code} {D : va_G} {A : Nat → Prop} {k : Nat → ClassId} {N : Nat} {cd : Cond} {z mi : Nat} {aK aV : Nat → Nat} {g : Nat → Nat} {π : Sh}
set_option maxHeartbeats 8000000 in
set_option maxRecDepth 100000 in
theorem kl_Es_isLoud_29 {r : St × Int} (C : Cx p s m args c cX1_isLoud RX1 (cd :: cWd) D (TYs k) 2) (hr : meth.sig.returnType = (some .boolean)) (hlk : meth.locks = false) (hE : Ev z mi aK aV A s s.heap) (hS : SHs π)    {ls : Array Slot} {H : Heap} {locs : List Loc} {σ : St}   (hl : lv_has ls 2 []) (h : Hp D A s.heap H locs (cW k z g π σ)) (hm : Es_isLoud_29 N π σ  = some r) : W p l e { frames := 0, cells := 0, slots := 0, locals := 0 } s m args below meth c H locs 0 0 (MQ below (va_Qi (fun v (_ : Unit) => v = Int32.ofInt r.2) (fun _ t => PostW D (TYs k) A (cW k z g π r.1) t) A) args s 0 0 A) (F0 m 29 ls []) := by
  rw [Es_isLoud_29] at hm
  refine lv_iconst (v := Int32.ofInt 1) C.1 C.2.1 dX1_isLoud_29 (by decide) ?_
  refine lv_goto (tgt := 34) C.1 C.2.1 dX1_isLoud_30 (by decide) ?_
  cases hm
  exact c_iretP C h hr hlk dX1_isLoud_34 rfl
set_option maxHeartbeats 8000000 in
set_option maxRecDepth 100000 in
theorem kc_Es_isLoud (l : Launch) (D : va_G) (k : Nat → ClassId) (z mi : Nat) (aK aV : Nat → Nat) (g : Nat → Nat) (N : Nat)    {π : Sh} {σ : St} {x1 : Int} {r : St × Int} (hS : SHs π) (hm : Es_isLoud N π σ x1 = some r) : Mi l yX1_isLoud (.code yX1_isLoud cX1_isLoud 2 (some .boolean) :: cWd) { frames := 0, cells := 0, slots := 0, locals := 0 } [rfv g 10, .int (Int32.ofInt x1)] D (TYs k) (cW k z g π σ) (XV z mi aK aV (cW k z g π σ)) Unit (fun v _ => v = Int32.ofInt r.2) (fun _ => cW k z g π r.1) 0 0 := by
  intro sz
  refine v_met (cc := cX1_isLoud) (maxL := 2) (ret := (some .boolean)) (lv := [(0, rfv g 10), (1, .int (Int32.ofInt x1))]) (by decide) rfl (by simp [lg_sl, rfv_cat, cat_i, cat_l]) (by simp [lv_args, rfv_cat, cat_i, cat_l]) ?_
  intro p e s m below meth c ls C hE hr hlk hmn hl h
  rw [Es_isLoud] at hm
  refine z_aload_n C dX1_isLoud_0 rfl (lv_at hl 0 rfl) ?_
  refine cg_2_2 C h (sh_10 hS) cU_X1 (List.mem_cons_of_mem _ wl_X1_16) dX1_isLoud_1 ?_
  refine lv_iload_n C.1 C.2.1 dX1_isLoud_4 rfl (lv_at hl 1 rfl) ?_
  obtain ⟨g1, hm⟩ := grd_s hm
  refine c_lald C h (sh_13 hS) (ina_inb (n := 6000) (sl_13 hS) (Nat.le_of_ble_eq_true rfl) g1) dX1_isLoud_5 ?_
  refine lv_lconst (v := Int64.ofInt 0) C.1 C.2.1 dX1_isLoud_6 (by decide) ?_
  obtain ⟨g2, hm⟩ := grd_s hm
  refine W.lcmp C.1 C.2.1 dX1_isLoud_7 ?_
  refine z_lcmp_ne (tgt := 29) C dX1_isLoud_8 (by decide) g2 (by decide) (fun c3 => ?_) (fun c3 => ?_)
  · have hm := ite_f c3 hm
    exact kl_Es_isLoud_29 (N := N) C hr hlk hE hS (lv_sub hl [] rfl) h hm
  · have hm := ite_t c3 hm
    refine z_aload_n C dX1_isLoud_11 rfl (lv_at hl 0 rfl) ?_
    refine cg_2_4 C h (sh_10 hS) cU_X1 (List.mem_cons_of_mem _ wl_X1_23) dX1_isLoud_12 ?_
    refine lv_iload_n C.1 C.2.1 dX1_isLoud_15 rfl (lv_at hl 1 rfl) ?_
    refine c_zald C h (sh_15 hS) (ina_inb (n := 6000) (sl_15 hS) (Nat.le_of_ble_eq_true rfl) g1) dX1_isLoud_16 ?_
    obtain ⟨g4, hm⟩ := grd_s hm
    refine z_if_eq (tgt := 33) C dX1_isLoud_17 (by decide) g4 (fun c5 => ?_) (fun c5 => ?_)
    · have hm := ite_t c5 hm
      refine lv_iconst (v := Int32.ofInt 0) C.1 C.2.1 dX1_isLoud_33 (by decide) ?_
      cases hm
      exact c_iretP C h hr hlk dX1_isLoud_34 rfl
    · have hm := ite_f c5 hm
      refine z_aload_n C dX1_isLoud_20 rfl (lv_at hl 0 rfl) ?_
      refine cg_2_3 C h (sh_10 hS) cU_X1 (List.mem_cons_of_mem _ wl_X1_19) dX1_isLoud_21 ?_
      refine lv_iload_n C.1 C.2.1 dX1_isLoud_24 rfl (lv_at hl 1 rfl) ?_
      refine c_iald C h (sh_14 hS) (ina_inb (n := 6000) (sl_14 hS) (Nat.le_of_ble_eq_true rfl) g1) dX1_isLoud_25 ?_
      obtain ⟨g6, hm⟩ := grd_s hm
      refine z_if_eq (tgt := 33) C dX1_isLoud_26 (by decide) g6 (fun c7 => ?_) (fun c7 => ?_)
      · have hm := ite_t c7 hm
        refine lv_iconst (v := Int32.ofInt 0) C.1 C.2.1 dX1_isLoud_33 (by decide) ?_
        cases hm
        exact c_iretP C h hr hlk dX1_isLoud_34 rfl
      · have hm := ite_f c7 hm
        exact kl_Es_isLoud_29 (N := N) C hr hlk hE hS (lv_sub hl [] rfl) h hm
end Z_Es_isLoud
section Z_Es_copyToSpare
variable {p : Program} {l : Launch} {e : Env} {s : State} {m : MethodId} {args : Array Value} {below : List Frame} {meth : Method} {c : Code} {D : va_G} {A : Nat → Prop} {k : Nat → ClassId} {N : Nat} {cd : Cond} {z mi : Nat} {aK aV : Nat → Nat} {g : Nat → Nat} {π : Sh}
set_option maxHeartbeats 8000000 in
set_option maxRecDepth 100000 in
theorem kl_Es_copyToSpare_2 {r : St} (C : Cx p s m args c cX1_copyToSpare RX1 (cd :: cWd) D (TYs k) 4) (hr : meth.sig.returnType = none) (hlk : meth.locks = false) (hE : Ev z mi aK aV A s s.heap) (hS : SHs π)    (n : Nat) : ∀ {ls : Array Slot} {H : Heap} {locs : List Loc} {σ : St} {x1 : Int} {x2 : Int} {x3 : Int}, lv_has ls 4 [(0, rfv g 10), (1, .int (Int32.ofInt x1)), (2, .int (Int32.ofInt x2)), (3, .int (Int32.ofInt x3))] → Hp D A s.heap H locs (cW k z g π σ) → Es_copyToSpare_2 N π n σ x1 x2 x3 = some r → W p l e { frames := 0, cells := 0, slots := 0, locals := 0 } s m args below meth c H locs 0 0 (MQ below (va_Qv (fun (_ : Unit) => True) (fun _ t => PostW D (TYs k) A (cW k z g π r) t) A) args s 0 0 A) (F0 m 2 ls []) := by
  induction n with
  | zero => intro ls H locs σ x1 x2 x3  hl h hm; cases (show none = some r from hm)
  | succ n hrec2 =>
    intro ls H locs σ x1 x2 x3  hl h hm
    rw [Es_copyToSpare_2] at hm
    refine lv_iload_n C.1 C.2.1 dX1_copyToSpare_2 rfl (lv_at hl 3 rfl) ?_
    refine lv_iload_n C.1 C.2.1 dX1_copyToSpare_3 rfl (lv_at hl 2 rfl) ?_
    obtain ⟨g1, hm⟩ := grd_s hm
    obtain ⟨g2, hm⟩ := grd_s hm
    refine z_icmp_ge (tgt := 83) C dX1_copyToSpare_4 (by decide) g1 g2 (fun c3 => ?_) (fun c3 => ?_)
    · have hm := ite_f c3 hm
      cases hm
      exact c_vretP C h hr hlk dX1_copyToSpare_83
    · have hm := ite_t c3 hm
      refine z_aload_n C dX1_copyToSpare_7 rfl (lv_at hl 0 rfl) ?_
      refine cg_2_10 C h (sh_10 hS) cU_X1 (List.mem_cons_of_mem _ wl_X1_43) dX1_copyToSpare_8 ?_
      refine lv_iload_n C.1 C.2.1 dX1_copyToSpare_11 rfl (lv_at hl 3 rfl) ?_
      refine z_aload_n C dX1_copyToSpare_12 rfl (lv_at hl 0 rfl) ?_
      refine cg_2_0 C h (sh_10 hS) cU_X1 (List.mem_cons_of_mem _ wl_X1_9) dX1_copyToSpare_13 ?_
      refine lv_iload_n C.1 C.2.1 dX1_copyToSpare_16 rfl (lv_at hl 1 rfl) ?_
      refine lv_iload_n C.1 C.2.1 dX1_copyToSpare_17 rfl (lv_at hl 3 rfl) ?_
      refine z_iadd C dX1_copyToSpare_18 ?_
      obtain ⟨g4, hm⟩ := grd_s hm
      refine c_lald C h (sh_11 hS) (ina_inb (n := 6000) (sl_11 hS) (Nat.le_of_ble_eq_true rfl) g4) dX1_copyToSpare_19 ?_
      obtain ⟨g5, hm⟩ := grd_s hm
      refine c_last C h (sh_20 hS) (ina_inb (n := 1024) (sl_20 hS) (Nat.le_of_ble_eq_true rfl) g5) dX1_copyToSpare_20 (fun H locs h => ?_)
      refine z_aload_n C dX1_copyToSpare_21 rfl (lv_at hl 0 rfl) ?_
      refine cg_2_11 C h (sh_10 hS) cU_X1 (List.mem_cons_of_mem _ wl_X1_46) dX1_copyToSpare_22 ?_
      refine lv_iload_n C.1 C.2.1 dX1_copyToSpare_25 rfl (lv_at hl 3 rfl) ?_
      refine z_aload_n C dX1_copyToSpare_26 rfl (lv_at hl 0 rfl) ?_
      refine cg_2_1 C h (sh_10 hS) cU_X1 (List.mem_cons_of_mem _ wl_X1_13) dX1_copyToSpare_27 ?_
      refine lv_iload_n C.1 C.2.1 dX1_copyToSpare_30 rfl (lv_at hl 1 rfl) ?_
      refine lv_iload_n C.1 C.2.1 dX1_copyToSpare_31 rfl (lv_at hl 3 rfl) ?_
      refine z_iadd C dX1_copyToSpare_32 ?_
      refine c_lald C h (sh_12 hS) (ina_inb (n := 6000) (sl_12 hS) (Nat.le_of_ble_eq_true rfl) g4) dX1_copyToSpare_33 ?_
      refine x_topl (y := Int64.ofInt (el σ 12 (x1 + x3))) (by simp [fl, el, se, sf]) ?_
      refine c_last C h (sh_21 hS) (ina_inb (n := 1024) (sl_21 hS) (Nat.le_of_ble_eq_true rfl) g5) dX1_copyToSpare_34 (fun H locs h => ?_)
      refine z_aload_n C dX1_copyToSpare_35 rfl (lv_at hl 0 rfl) ?_
      refine cg_2_9 C h (sh_10 hS) cU_X1 (List.mem_cons_of_mem _ wl_X1_40) dX1_copyToSpare_36 ?_
      refine lv_iload_n C.1 C.2.1 dX1_copyToSpare_39 rfl (lv_at hl 3 rfl) ?_
      refine z_aload_n C dX1_copyToSpare_40 rfl (lv_at hl 0 rfl) ?_
      refine cg_2_2 C h (sh_10 hS) cU_X1 (List.mem_cons_of_mem _ wl_X1_16) dX1_copyToSpare_41 ?_
      refine lv_iload_n C.1 C.2.1 dX1_copyToSpare_44 rfl (lv_at hl 1 rfl) ?_
      refine lv_iload_n C.1 C.2.1 dX1_copyToSpare_45 rfl (lv_at hl 3 rfl) ?_
      refine z_iadd C dX1_copyToSpare_46 ?_
      refine c_lald C h (sh_13 hS) (ina_inb (n := 6000) (sl_13 hS) (Nat.le_of_ble_eq_true rfl) g4) dX1_copyToSpare_47 ?_
      refine x_topl (y := Int64.ofInt (el σ 13 (x1 + x3))) (by simp [fl, el, se, sf]) ?_
      refine c_last C h (sh_19 hS) (ina_inb (n := 1024) (sl_19 hS) (Nat.le_of_ble_eq_true rfl) g5) dX1_copyToSpare_48 (fun H locs h => ?_)
      refine z_aload_n C dX1_copyToSpare_49 rfl (lv_at hl 0 rfl) ?_
      refine cg_2_7 C h (sh_10 hS) cU_X1 (List.mem_cons_of_mem _ wl_X1_34) dX1_copyToSpare_50 ?_
      refine lv_iload_n C.1 C.2.1 dX1_copyToSpare_53 rfl (lv_at hl 3 rfl) ?_
      refine z_aload_n C dX1_copyToSpare_54 rfl (lv_at hl 0 rfl) ?_
      refine cg_2_3 C h (sh_10 hS) cU_X1 (List.mem_cons_of_mem _ wl_X1_19) dX1_copyToSpare_55 ?_
      refine lv_iload_n C.1 C.2.1 dX1_copyToSpare_58 rfl (lv_at hl 1 rfl) ?_
      refine lv_iload_n C.1 C.2.1 dX1_copyToSpare_59 rfl (lv_at hl 3 rfl) ?_
      refine z_iadd C dX1_copyToSpare_60 ?_
      refine c_iald C h (sh_14 hS) (ina_inb (n := 6000) (sl_14 hS) (Nat.le_of_ble_eq_true rfl) g4) dX1_copyToSpare_61 ?_
      refine x_topi (y := Int32.ofInt (el σ 14 (x1 + x3))) (by simp [fl, el, se, sf]) ?_
      refine c_iast C h (sh_17 hS) (ina_inb (n := 1024) (sl_17 hS) (Nat.le_of_ble_eq_true rfl) g5) dX1_copyToSpare_62 (fun H locs h => ?_)
      refine z_aload_n C dX1_copyToSpare_63 rfl (lv_at hl 0 rfl) ?_
      refine cg_2_8 C h (sh_10 hS) cU_X1 (List.mem_cons_of_mem _ wl_X1_37) dX1_copyToSpare_64 ?_
      refine lv_iload_n C.1 C.2.1 dX1_copyToSpare_67 rfl (lv_at hl 3 rfl) ?_
      refine z_aload_n C dX1_copyToSpare_68 rfl (lv_at hl 0 rfl) ?_
      refine cg_2_4 C h (sh_10 hS) cU_X1 (List.mem_cons_of_mem _ wl_X1_23) dX1_copyToSpare_69 ?_
      refine lv_iload_n C.1 C.2.1 dX1_copyToSpare_72 rfl (lv_at hl 1 rfl) ?_
      refine lv_iload_n C.1 C.2.1 dX1_copyToSpare_73 rfl (lv_at hl 3 rfl) ?_
      refine z_iadd C dX1_copyToSpare_74 ?_
      refine c_zald C h (sh_15 hS) (ina_inb (n := 6000) (sl_15 hS) (Nat.le_of_ble_eq_true rfl) g4) dX1_copyToSpare_75 ?_
      refine x_topi (y := Int32.ofInt (el σ 15 (x1 + x3))) (by simp [fl, el, se, sf]) ?_
      obtain ⟨g6, hm⟩ := grd_s hm
      refine c_zast C h (sh_18 hS) (ina_inb (n := 1024) (sl_18 hS) (Nat.le_of_ble_eq_true rfl) g5) g6 dX1_copyToSpare_76 (fun H locs h => ?_)
      refine lv_iinc (v := Int32.ofInt (x3 + 1)) (lv' := [(3, .int (Int32.ofInt (x3 + 1))), (0, rfv g 10), (1, .int (Int32.ofInt x1)), (2, .int (Int32.ofInt x2))]) C.1 C.2.1 dX1_copyToSpare_77 hl (k := 3) rfl (c32_add _ _) (by decide) rfl (fun ls hl => ?_)
      refine lv_goto (tgt := 2) C.1 C.2.1 dX1_copyToSpare_80 (by decide) ?_
      exact hrec2 (lv_sub hl [1, 2, 3, 0] rfl) h hm
set_option maxHeartbeats 8000000 in
set_option maxRecDepth 100000 in
theorem kc_Es_copyToSpare (l : Launch) (D : va_G) (k : Nat → ClassId) (z mi : Nat) (aK aV : Nat → Nat) (g : Nat → Nat) (N : Nat)    {π : Sh} {σ : St} {x1 : Int} {x2 : Int} {r : St} (hS : SHs π) (hm : Es_copyToSpare N π σ x1 x2 = some r) : Mv l yX1_copyToSpare (.code yX1_copyToSpare cX1_copyToSpare 4 none :: cWd) { frames := 0, cells := 0, slots := 0, locals := 0 } [rfv g 10, .int (Int32.ofInt x1), .int (Int32.ofInt x2)] D (TYs k) (cW k z g π σ) (XV z mi aK aV (cW k z g π σ)) Unit (fun _ => True) (fun _ => cW k z g π r) 0 0 := by
  intro sz
  refine v_met (cc := cX1_copyToSpare) (maxL := 4) (ret := none) (lv := [(0, rfv g 10), (1, .int (Int32.ofInt x1)), (2, .int (Int32.ofInt x2))]) (by decide) rfl (by simp [lg_sl, rfv_cat, cat_i, cat_l]) (by simp [lv_args, rfv_cat, cat_i, cat_l]) ?_
  intro p e s m below meth c ls C hE hr hlk hmn hl h
  rw [Es_copyToSpare] at hm
  refine lv_iconst (v := Int32.ofInt 0) C.1 C.2.1 dX1_copyToSpare_0 (by decide) ?_
  refine lv_istore_n (lv' := [(3, .int (Int32.ofInt 0)), (0, rfv g 10), (1, .int (Int32.ofInt x1)), (2, .int (Int32.ofInt x2))]) C.1 C.2.1 dX1_copyToSpare_1 rfl hl (by decide) rfl (fun ls hl => ?_)
  exact kl_Es_copyToSpare_2 (N := N) C hr hlk hE hS N (lv_sub hl [1, 2, 3, 0] rfl) h hm
end Z_Es_copyToSpare
section Z_Es_isSorted
variable {p : Program} {l : Launch} {e : Env} {s : State} {m : MethodId} {args : Array Value} {below : List Frame} {meth : Method} {c : Code} {D : va_G} {A : Nat → Prop} {k : Nat → ClassId} {N : Nat} {cd : Cond} {z mi : Nat} {aK aV : Nat → Nat} {g : Nat → Nat} {π : Sh}
set_option maxHeartbeats 8000000 in
set_option maxRecDepth 100000 in
theorem kl_Es_isSorted_4 {r : St × Int} (C : Cx p s m args c cX1_isSorted RX1 (cd :: cWd) D (TYs k) 3) (hr : meth.sig.returnType = (some .boolean)) (hlk : meth.locks = false) (hE : Ev z mi aK aV A s s.heap) (hS : SHs π)    (n : Nat) : ∀ {ls : Array Slot} {H : Heap} {locs : List Loc} {σ : St} {x2 : Int}, lv_has ls 3 [(0, rfv g 10), (2, .int (Int32.ofInt x2))] → Hp D A s.heap H locs (cW k z g π σ) → Es_isSorted_4 N π n σ x2 = some r → W p l e { frames := 0, cells := 0, slots := 0, locals := 0 } s m args below meth c H locs 0 0 (MQ below (va_Qi (fun v (_ : Unit) => v = Int32.ofInt r.2) (fun _ t => PostW D (TYs k) A (cW k z g π r.1) t) A) args s 0 0 A) (F0 m 4 ls []) := by
  induction n with
  | zero => intro ls H locs σ x2  hl h hm; cases (show none = some r from hm)
  | succ n hrec4 =>
    intro ls H locs σ x2  hl h hm
    rw [Es_isSorted_4] at hm
    refine lv_iload_n C.1 C.2.1 dX1_isSorted_4 rfl (lv_at hl 1 rfl) ?_
    refine z_aload_n C dX1_isSorted_5 rfl (lv_at hl 0 rfl) ?_
    refine cg_2_6 C h (sh_10 hS) cU_X1 (List.mem_cons_of_mem _ wl_X1_30) dX1_isSorted_6 ?_
    obtain ⟨g3, hm⟩ := grd_s hm
    obtain ⟨g4, hm⟩ := grd_s hm
    refine z_icmp_ge (tgt := 38) C dX1_isSorted_9 (by decide) g3 g4 (fun c5 => ?_) (fun c5 => ?_)
    · have hm := ite_f c5 hm
      refine lv_iconst (v := Int32.ofInt 1) C.1 C.2.1 dX1_isSorted_38 (by decide) ?_
      cases hm
      exact c_iretP C h hr hlk dX1_isSorted_39 rfl
    · have hm := ite_t c5 hm
      refine z_aload_n C dX1_isSorted_12 rfl (lv_at hl 0 rfl) ?_
      refine cg_2_0 C h (sh_10 hS) cU_X1 (List.mem_cons_of_mem _ wl_X1_9) dX1_isSorted_13 ?_
      refine lv_iload_n C.1 C.2.1 dX1_isSorted_16 rfl (lv_at hl 1 rfl) ?_
      refine lv_iconst (v := Int32.ofInt 1) C.1 C.2.1 dX1_isSorted_17 (by decide) ?_
      refine z_isub C dX1_isSorted_18 ?_
      obtain ⟨g6, hm⟩ := grd_s hm
      refine c_lald C h (sh_11 hS) (ina_inb (n := 6000) (sl_11 hS) (Nat.le_of_ble_eq_true rfl) g6) dX1_isSorted_19 ?_
      refine z_aload_n C dX1_isSorted_20 rfl (lv_at hl 0 rfl) ?_
      refine cg_2_0 C h (sh_10 hS) cU_X1 (List.mem_cons_of_mem _ wl_X1_9) dX1_isSorted_21 ?_
      refine lv_iload_n C.1 C.2.1 dX1_isSorted_24 rfl (lv_at hl 1 rfl) ?_
      obtain ⟨g7, hm⟩ := grd_s hm
      refine c_lald C h (sh_11 hS) (ina_inb (n := 6000) (sl_11 hS) (Nat.le_of_ble_eq_true rfl) g7) dX1_isSorted_25 ?_
      obtain ⟨g8, hm⟩ := grd_s hm
      obtain ⟨g9, hm⟩ := grd_s hm
      refine W.lcmp C.1 C.2.1 dX1_isSorted_26 ?_
      refine z_lcmp_le (tgt := 32) C dX1_isSorted_27 (by decide) g8 g9 (fun c10 => ?_) (fun c10 => ?_)
      · have hm := ite_f c10 hm
        refine lv_iinc (v := Int32.ofInt (x2 + 1)) (lv' := [(2, .int (Int32.ofInt (x2 + 1))), (0, rfv g 10)]) C.1 C.2.1 dX1_isSorted_32 hl (k := 1) rfl (c32_add _ _) (by decide) rfl (fun ls hl => ?_)
        refine lv_goto (tgt := 4) C.1 C.2.1 dX1_isSorted_35 (by decide) ?_
        exact hrec4 (lv_sub hl [1, 0] rfl) h hm
      · have hm := ite_t c10 hm
        refine lv_iconst (v := Int32.ofInt 0) C.1 C.2.1 dX1_isSorted_30 (by decide) ?_
        cases hm
        exact c_iretP C h hr hlk dX1_isSorted_31 rfl
set_option maxHeartbeats 8000000 in
set_option maxRecDepth 100000 in
theorem kc_Es_isSorted (l : Launch) (D : va_G) (k : Nat → ClassId) (z mi : Nat) (aK aV : Nat → Nat) (g : Nat → Nat) (N : Nat)    {π : Sh} {σ : St} {x1 : Int} {r : St × Int} (hS : SHs π) (hm : Es_isSorted N π σ x1 = some r) : Mi l yX1_isSorted (.code yX1_isSorted cX1_isSorted 3 (some .boolean) :: cWd) { frames := 0, cells := 0, slots := 0, locals := 0 } [rfv g 10, .int (Int32.ofInt x1)] D (TYs k) (cW k z g π σ) (XV z mi aK aV (cW k z g π σ)) Unit (fun v _ => v = Int32.ofInt r.2) (fun _ => cW k z g π r.1) 0 0 := by
  intro sz
  refine v_met (cc := cX1_isSorted) (maxL := 3) (ret := (some .boolean)) (lv := [(0, rfv g 10), (1, .int (Int32.ofInt x1))]) (by decide) rfl (by simp [lg_sl, rfv_cat, cat_i, cat_l]) (by simp [lv_args, rfv_cat, cat_i, cat_l]) ?_
  intro p e s m below meth c ls C hE hr hlk hmn hl h
  rw [Es_isSorted] at hm
  refine lv_iload_n C.1 C.2.1 dX1_isSorted_0 rfl (lv_at hl 1 rfl) ?_
  refine lv_iconst (v := Int32.ofInt 1) C.1 C.2.1 dX1_isSorted_1 (by decide) ?_
  refine z_iadd C dX1_isSorted_2 ?_
  obtain ⟨v1, e2, hm⟩ := bnd_s hm
  rw [e2]
  refine lv_istore_n (lv' := [(2, .int (Int32.ofInt v1)), (0, rfv g 10), (1, .int (Int32.ofInt x1))]) C.1 C.2.1 dX1_isSorted_3 rfl hl (by decide) rfl (fun ls hl => ?_)
  exact kl_Es_isSorted_4 (N := N) C hr hlk hE hS N (lv_sub hl [1, 0] rfl) h hm
end Z_Es_isSorted
section Z_Es_mergeRuns
variable {p : Program} {l : Launch} {e : Env} {s : State} {m : MethodId} {args : Array Value} {below : List Frame} {meth : Method} {c : Code} {D : va_G} {A : Nat → Prop} {k : Nat → ClassId} {N : Nat} {cd : Cond} {z mi : Nat} {aK aV : Nat → Nat} {g : Nat → Nat} {π : Sh}
set_option maxHeartbeats 8000000 in
set_option maxRecDepth 100000 in
theorem kl_Es_mergeRuns_82 {r : St} (C : Cx p s m args c cX1_mergeRuns RX1 (cd :: cWd) D (TYs k) 7) (hr : meth.sig.returnType = none) (hlk : meth.locks = false) (hE : Ev z mi aK aV A s s.heap) (hS : SHs π)   {rec9 : St → Int → Int → Int → Int → Int → Option St} (hrec9 : ∀ {ls : Array Slot} {H : Heap} {locs : List Loc} {σ : St} {x2 : Int} {x3 : Int} {x4 : Int} {x5 : Int} {x6 : Int}, lv_has ls 7 [(0, rfv g 10), (2, .int (Int32.ofInt x2)), (3, .int (Int32.ofInt x3)), (4, .int (Int32.ofInt x4)), (5, .int (Int32.ofInt x5)), (6, .int (Int32.ofInt x6))] → Hp D A s.heap H locs (cW k z g π σ) → rec9 σ x2 x3 x4 x5 x6 = some r → W p l e { frames := 0, cells := 0, slots := 0, locals := 0 } s m args below meth c H locs 0 0 (MQ below (va_Qv (fun (_ : Unit) => True) (fun _ t => PostW D (TYs k) A (cW k z g π r) t) A) args s 0 0 A) (F0 m 9 ls [])) {ls : Array Slot} {H : Heap} {locs : List Loc} {σ : St} {x2 : Int} {x3 : Int} {x4 : Int} {x5 : Int} {x6 : Int}  (hl : lv_has ls 7 [(0, rfv g 10), (2, .int (Int32.ofInt x2)), (3, .int (Int32.ofInt x3)), (4, .int (Int32.ofInt x4)), (5, .int (Int32.ofInt x5)), (6, .int (Int32.ofInt x6))]) (h : Hp D A s.heap H locs (cW k z g π σ)) (hm : Es_mergeRuns_82 N π rec9 σ x2 x3 x4 x5 x6 = some r) : W p l e { frames := 0, cells := 0, slots := 0, locals := 0 } s m args below meth c H locs 0 0 (MQ below (va_Qv (fun (_ : Unit) => True) (fun _ t => PostW D (TYs k) A (cW k z g π r) t) A) args s 0 0 A) (F0 m 82 ls []) := by
  rw [Es_mergeRuns_82] at hm
  refine lv_iinc (v := Int32.ofInt (x6 + 1)) (lv' := [(6, .int (Int32.ofInt (x6 + 1))), (0, rfv g 10), (2, .int (Int32.ofInt x2)), (3, .int (Int32.ofInt x3)), (4, .int (Int32.ofInt x4)), (5, .int (Int32.ofInt x5))]) C.1 C.2.1 dX1_mergeRuns_82 hl (k := 5) rfl (c32_add _ _) (by decide) rfl (fun ls hl => ?_)
  refine lv_goto (tgt := 9) C.1 C.2.1 dX1_mergeRuns_85 (by decide) ?_
  exact hrec9 (lv_sub hl [1, 2, 3, 4, 5, 0] rfl) h hm
set_option maxHeartbeats 8000000 in
set_option maxRecDepth 100000 in
theorem kl_Es_mergeRuns_45 {r : St} (C : Cx p s m args c cX1_mergeRuns RX1 (cd :: cWd) D (TYs k) 7) (hr : meth.sig.returnType = none) (hlk : meth.locks = false) (hE : Ev z mi aK aV A s s.heap) (hS : SHs π)   {rec9 : St → Int → Int → Int → Int → Int → Option St} (hrec9 : ∀ {ls : Array Slot} {H : Heap} {locs : List Loc} {σ : St} {x2 : Int} {x3 : Int} {x4 : Int} {x5 : Int} {x6 : Int}, lv_has ls 7 [(0, rfv g 10), (2, .int (Int32.ofInt x2)), (3, .int (Int32.ofInt x3)), (4, .int (Int32.ofInt x4)), (5, .int (Int32.ofInt x5)), (6, .int (Int32.ofInt x6))] → Hp D A s.heap H locs (cW k z g π σ) → rec9 σ x2 x3 x4 x5 x6 = some r → W p l e { frames := 0, cells := 0, slots := 0, locals := 0 } s m args below meth c H locs 0 0 (MQ below (va_Qv (fun (_ : Unit) => True) (fun _ t => PostW D (TYs k) A (cW k z g π r) t) A) args s 0 0 A) (F0 m 9 ls [])) {ls : Array Slot} {H : Heap} {locs : List Loc} {σ : St} {x2 : Int} {x3 : Int} {x4 : Int} {x5 : Int} {x6 : Int}  (hl : lv_has ls 7 [(0, rfv g 10), (2, .int (Int32.ofInt x2)), (3, .int (Int32.ofInt x3)), (4, .int (Int32.ofInt x4)), (5, .int (Int32.ofInt x5)), (6, .int (Int32.ofInt x6))]) (h : Hp D A s.heap H locs (cW k z g π σ)) (hm : Es_mergeRuns_45 N π rec9 σ x2 x3 x4 x5 x6 = some r) : W p l e { frames := 0, cells := 0, slots := 0, locals := 0 } s m args below meth c H locs 0 0 (MQ below (va_Qv (fun (_ : Unit) => True) (fun _ t => PostW D (TYs k) A (cW k z g π r) t) A) args s 0 0 A) (F0 m 45 ls []) := by
  rw [Es_mergeRuns_45] at hm
  refine z_aload_n C dX1_mergeRuns_45 rfl (lv_at hl 0 rfl) ?_
  refine cg_2_13 C h (sh_10 hS) cU_X1 (List.mem_cons_of_mem _ wl_X1_52) dX1_mergeRuns_46 ?_
  refine lv_iload C.1 C.2.1 dX1_mergeRuns_49 (lv_at hl 5 rfl) ?_
  refine z_aload_n C dX1_mergeRuns_51 rfl (lv_at hl 0 rfl) ?_
  refine cg_2_12 C h (sh_10 hS) cU_X1 (List.mem_cons_of_mem _ wl_X1_49) dX1_mergeRuns_52 ?_
  refine lv_iload C.1 C.2.1 dX1_mergeRuns_55 (lv_at hl 3 rfl) ?_
  obtain ⟨g15, hm⟩ := grd_s hm
  obtain ⟨g16, hm⟩ := grd_s hm
  refine c_lald C h g15 g16 dX1_mergeRuns_57 ?_
  obtain ⟨g17, hm⟩ := grd_s hm
  obtain ⟨g18, hm⟩ := grd_s hm
  refine c_last C h g17 g18 dX1_mergeRuns_58 (fun H locs h => ?_)
  refine lv_iinc (v := Int32.ofInt (x4 + 1)) (lv' := [(4, .int (Int32.ofInt (x4 + 1))), (0, rfv g 10), (2, .int (Int32.ofInt x2)), (3, .int (Int32.ofInt x3)), (5, .int (Int32.ofInt x5)), (6, .int (Int32.ofInt x6))]) C.1 C.2.1 dX1_mergeRuns_59 hl (k := 3) rfl (c32_add _ _) (by decide) rfl (fun ls hl => ?_)
  refine lv_goto (tgt := 82) C.1 C.2.1 dX1_mergeRuns_62 (by decide) ?_
  exact kl_Es_mergeRuns_82 (N := N) C hr hlk hE hS hrec9 (lv_sub hl [1, 2, 3, 0, 4, 5] rfl) h hm
set_option maxHeartbeats 8000000 in
set_option maxRecDepth 100000 in
theorem kl_Es_mergeRuns_65 {r : St} (C : Cx p s m args c cX1_mergeRuns RX1 (cd :: cWd) D (TYs k) 7) (hr : meth.sig.returnType = none) (hlk : meth.locks = false) (hE : Ev z mi aK aV A s s.heap) (hS : SHs π)   {rec9 : St → Int → Int → Int → Int → Int → Option St} (hrec9 : ∀ {ls : Array Slot} {H : Heap} {locs : List Loc} {σ : St} {x2 : Int} {x3 : Int} {x4 : Int} {x5 : Int} {x6 : Int}, lv_has ls 7 [(0, rfv g 10), (2, .int (Int32.ofInt x2)), (3, .int (Int32.ofInt x3)), (4, .int (Int32.ofInt x4)), (5, .int (Int32.ofInt x5)), (6, .int (Int32.ofInt x6))] → Hp D A s.heap H locs (cW k z g π σ) → rec9 σ x2 x3 x4 x5 x6 = some r → W p l e { frames := 0, cells := 0, slots := 0, locals := 0 } s m args below meth c H locs 0 0 (MQ below (va_Qv (fun (_ : Unit) => True) (fun _ t => PostW D (TYs k) A (cW k z g π r) t) A) args s 0 0 A) (F0 m 9 ls [])) {ls : Array Slot} {H : Heap} {locs : List Loc} {σ : St} {x2 : Int} {x3 : Int} {x4 : Int} {x5 : Int} {x6 : Int}  (hl : lv_has ls 7 [(0, rfv g 10), (2, .int (Int32.ofInt x2)), (3, .int (Int32.ofInt x3)), (4, .int (Int32.ofInt x4)), (5, .int (Int32.ofInt x5)), (6, .int (Int32.ofInt x6))]) (h : Hp D A s.heap H locs (cW k z g π σ)) (hm : Es_mergeRuns_65 N π rec9 σ x2 x3 x4 x5 x6 = some r) : W p l e { frames := 0, cells := 0, slots := 0, locals := 0 } s m args below meth c H locs 0 0 (MQ below (va_Qv (fun (_ : Unit) => True) (fun _ t => PostW D (TYs k) A (cW k z g π r) t) A) args s 0 0 A) (F0 m 65 ls []) := by
  rw [Es_mergeRuns_65] at hm
  refine z_aload_n C dX1_mergeRuns_65 rfl (lv_at hl 0 rfl) ?_
  refine cg_2_13 C h (sh_10 hS) cU_X1 (List.mem_cons_of_mem _ wl_X1_52) dX1_mergeRuns_66 ?_
  refine lv_iload C.1 C.2.1 dX1_mergeRuns_69 (lv_at hl 5 rfl) ?_
  refine z_aload_n C dX1_mergeRuns_71 rfl (lv_at hl 0 rfl) ?_
  refine cg_2_12 C h (sh_10 hS) cU_X1 (List.mem_cons_of_mem _ wl_X1_49) dX1_mergeRuns_72 ?_
  refine lv_iload C.1 C.2.1 dX1_mergeRuns_75 (lv_at hl 4 rfl) ?_
  obtain ⟨g19, hm⟩ := grd_s hm
  obtain ⟨g20, hm⟩ := grd_s hm
  refine c_lald C h g19 g20 dX1_mergeRuns_77 ?_
  obtain ⟨g21, hm⟩ := grd_s hm
  obtain ⟨g22, hm⟩ := grd_s hm
  refine c_last C h g21 g22 dX1_mergeRuns_78 (fun H locs h => ?_)
  refine lv_iinc (v := Int32.ofInt (x5 + 1)) (lv' := [(5, .int (Int32.ofInt (x5 + 1))), (0, rfv g 10), (2, .int (Int32.ofInt x2)), (3, .int (Int32.ofInt x3)), (4, .int (Int32.ofInt x4)), (6, .int (Int32.ofInt x6))]) C.1 C.2.1 dX1_mergeRuns_79 hl (k := 4) rfl (c32_add _ _) (by decide) rfl (fun ls hl => ?_)
  exact kl_Es_mergeRuns_82 (N := N) C hr hlk hE hS hrec9 (lv_sub hl [1, 2, 3, 4, 0, 5] rfl) h hm
set_option maxHeartbeats 8000000 in
set_option maxRecDepth 100000 in
theorem kl_Es_mergeRuns_9 {r : St} (C : Cx p s m args c cX1_mergeRuns RX1 (cd :: cWd) D (TYs k) 7) (hr : meth.sig.returnType = none) (hlk : meth.locks = false) (hE : Ev z mi aK aV A s s.heap) (hS : SHs π)    (n : Nat) : ∀ {ls : Array Slot} {H : Heap} {locs : List Loc} {σ : St} {x2 : Int} {x3 : Int} {x4 : Int} {x5 : Int} {x6 : Int}, lv_has ls 7 [(0, rfv g 10), (2, .int (Int32.ofInt x2)), (3, .int (Int32.ofInt x3)), (4, .int (Int32.ofInt x4)), (5, .int (Int32.ofInt x5)), (6, .int (Int32.ofInt x6))] → Hp D A s.heap H locs (cW k z g π σ) → Es_mergeRuns_9 N π n σ x2 x3 x4 x5 x6 = some r → W p l e { frames := 0, cells := 0, slots := 0, locals := 0 } s m args below meth c H locs 0 0 (MQ below (va_Qv (fun (_ : Unit) => True) (fun _ t => PostW D (TYs k) A (cW k z g π r) t) A) args s 0 0 A) (F0 m 9 ls []) := by
  induction n with
  | zero => intro ls H locs σ x2 x3 x4 x5 x6  hl h hm; cases (show none = some r from hm)
  | succ n hrec9 =>
    intro ls H locs σ x2 x3 x4 x5 x6  hl h hm
    rw [Es_mergeRuns_9] at hm
    refine lv_iload C.1 C.2.1 dX1_mergeRuns_9 (lv_at hl 5 rfl) ?_
    refine lv_iload_n C.1 C.2.1 dX1_mergeRuns_11 rfl (lv_at hl 2 rfl) ?_
    obtain ⟨g1, hm⟩ := grd_s hm
    obtain ⟨g2, hm⟩ := grd_s hm
    refine z_icmp_ge (tgt := 88) C dX1_mergeRuns_12 (by decide) g1 g2 (fun c3 => ?_) (fun c3 => ?_)
    · have hm := ite_f c3 hm
      cases hm
      exact c_vretP C h hr hlk dX1_mergeRuns_88
    · have hm := ite_t c3 hm
      refine lv_iload C.1 C.2.1 dX1_mergeRuns_15 (lv_at hl 4 rfl) ?_
      refine lv_iload_n C.1 C.2.1 dX1_mergeRuns_17 rfl (lv_at hl 2 rfl) ?_
      obtain ⟨g4, hm⟩ := grd_s hm
      refine z_icmp_ge (tgt := 45) C dX1_mergeRuns_18 (by decide) g4 g2 (fun c5 => ?_) (fun c5 => ?_)
      · have hm := ite_f c5 hm
        exact kl_Es_mergeRuns_45 (N := N) C hr hlk hE hS hrec9 (lv_sub hl [0, 1, 2, 3, 4, 5] rfl) h hm
      · have hm := ite_t c5 hm
        refine lv_iload C.1 C.2.1 dX1_mergeRuns_21 (lv_at hl 3 rfl) ?_
        refine lv_iload_n C.1 C.2.1 dX1_mergeRuns_23 rfl (lv_at hl 1 rfl) ?_
        obtain ⟨g6, hm⟩ := grd_s hm
        obtain ⟨g7, hm⟩ := grd_s hm
        refine z_icmp_ge (tgt := 65) C dX1_mergeRuns_24 (by decide) g6 g7 (fun c8 => ?_) (fun c8 => ?_)
        · have hm := ite_f c8 hm
          exact kl_Es_mergeRuns_65 (N := N) C hr hlk hE hS hrec9 (lv_sub hl [0, 1, 2, 3, 4, 5] rfl) h hm
        · have hm := ite_t c8 hm
          refine z_aload_n C dX1_mergeRuns_27 rfl (lv_at hl 0 rfl) ?_
          refine cg_2_12 C h (sh_10 hS) cU_X1 (List.mem_cons_of_mem _ wl_X1_49) dX1_mergeRuns_28 ?_
          refine lv_iload C.1 C.2.1 dX1_mergeRuns_31 (lv_at hl 3 rfl) ?_
          obtain ⟨g9, hm⟩ := grd_s hm
          obtain ⟨g10, hm⟩ := grd_s hm
          refine c_lald C h g9 g10 dX1_mergeRuns_33 ?_
          refine z_aload_n C dX1_mergeRuns_34 rfl (lv_at hl 0 rfl) ?_
          refine cg_2_12 C h (sh_10 hS) cU_X1 (List.mem_cons_of_mem _ wl_X1_49) dX1_mergeRuns_35 ?_
          refine lv_iload C.1 C.2.1 dX1_mergeRuns_38 (lv_at hl 4 rfl) ?_
          obtain ⟨g11, hm⟩ := grd_s hm
          refine c_lald C h g9 g11 dX1_mergeRuns_40 ?_
          obtain ⟨g12, hm⟩ := grd_s hm
          obtain ⟨g13, hm⟩ := grd_s hm
          refine W.lcmp C.1 C.2.1 dX1_mergeRuns_41 ?_
          refine z_lcmp_ge (tgt := 65) C dX1_mergeRuns_42 (by decide) g12 g13 (fun c14 => ?_) (fun c14 => ?_)
          · have hm := ite_f c14 hm
            exact kl_Es_mergeRuns_65 (N := N) C hr hlk hE hS hrec9 (lv_sub hl [0, 1, 2, 3, 4, 5] rfl) h hm
          · have hm := ite_t c14 hm
            exact kl_Es_mergeRuns_45 (N := N) C hr hlk hE hS hrec9 (lv_sub hl [0, 1, 2, 3, 4, 5] rfl) h hm
set_option maxHeartbeats 8000000 in
set_option maxRecDepth 100000 in
theorem kc_Es_mergeRuns (l : Launch) (D : va_G) (k : Nat → ClassId) (z mi : Nat) (aK aV : Nat → Nat) (g : Nat → Nat) (N : Nat)    {π : Sh} {σ : St} {x1 : Int} {x2 : Int} {x3 : Int} {r : St} (hS : SHs π) (hm : Es_mergeRuns N π σ x1 x2 x3 = some r) : Mv l yX1_mergeRuns (.code yX1_mergeRuns cX1_mergeRuns 7 none :: cWd) { frames := 0, cells := 0, slots := 0, locals := 0 } [rfv g 10, .int (Int32.ofInt x1), .int (Int32.ofInt x2), .int (Int32.ofInt x3)] D (TYs k) (cW k z g π σ) (XV z mi aK aV (cW k z g π σ)) Unit (fun _ => True) (fun _ => cW k z g π r) 0 0 := by
  intro sz
  refine v_met (cc := cX1_mergeRuns) (maxL := 7) (ret := none) (lv := [(0, rfv g 10), (1, .int (Int32.ofInt x1)), (2, .int (Int32.ofInt x2)), (3, .int (Int32.ofInt x3))]) (by decide) rfl (by simp [lg_sl, rfv_cat, cat_i, cat_l]) (by simp [lv_args, rfv_cat, cat_i, cat_l]) ?_
  intro p e s m below meth c ls C hE hr hlk hmn hl h
  rw [Es_mergeRuns] at hm
  refine lv_iload_n C.1 C.2.1 dX1_mergeRuns_0 rfl (lv_at hl 1 rfl) ?_
  refine lv_istore (lv' := [(4, .int (Int32.ofInt x1)), (0, rfv g 10), (1, .int (Int32.ofInt x1)), (2, .int (Int32.ofInt x2)), (3, .int (Int32.ofInt x3))]) C.1 C.2.1 dX1_mergeRuns_1 hl (by decide) rfl (fun ls hl => ?_)
  refine lv_iload_n C.1 C.2.1 dX1_mergeRuns_3 rfl (lv_at hl 3 rfl) ?_
  refine lv_istore (lv' := [(5, .int (Int32.ofInt x2)), (4, .int (Int32.ofInt x1)), (0, rfv g 10), (1, .int (Int32.ofInt x1)), (2, .int (Int32.ofInt x2)), (3, .int (Int32.ofInt x3))]) C.1 C.2.1 dX1_mergeRuns_4 hl (by decide) rfl (fun ls hl => ?_)
  refine lv_iload_n C.1 C.2.1 dX1_mergeRuns_6 rfl (lv_at hl 3 rfl) ?_
  refine lv_istore (lv' := [(6, .int (Int32.ofInt x1)), (5, .int (Int32.ofInt x2)), (4, .int (Int32.ofInt x1)), (0, rfv g 10), (1, .int (Int32.ofInt x1)), (2, .int (Int32.ofInt x2)), (3, .int (Int32.ofInt x3))]) C.1 C.2.1 dX1_mergeRuns_7 hl (by decide) rfl (fun ls hl => ?_)
  exact kl_Es_mergeRuns_9 (N := N) C hr hlk hE hS N (lv_sub hl [3, 5, 6, 2, 1, 0] rfl) h hm
end Z_Es_mergeRuns
section Z_Es_runEnd
variable {p : Program} {l : Launch} {e : Env} {s : State} {m : MethodId} {args : Array Value} {below : List Frame} {meth : Method} {c : Code} {D : va_G} {A : Nat → Prop} {k : Nat → ClassId} {N : Nat} {cd : Cond} {z mi : Nat} {aK aV : Nat → Nat} {g : Nat → Nat} {π : Sh}
set_option maxHeartbeats 8000000 in
set_option maxRecDepth 100000 in
theorem kl_Es_runEnd_33 {r : St × Int} (C : Cx p s m args c cX1_runEnd RX1 (cd :: cWd) D (TYs k) 4) (hr : meth.sig.returnType = (some .int)) (hlk : meth.locks = false) (hE : Ev z mi aK aV A s s.heap) (hS : SHs π)    {ls : Array Slot} {H : Heap} {locs : List Loc} {σ : St} {x2 : Int} {x3 : Int}  (hl : lv_has ls 4 [(2, .int (Int32.ofInt x2)), (3, .int (Int32.ofInt x3))]) (h : Hp D A s.heap H locs (cW k z g π σ)) (hm : Es_runEnd_33 N π σ x2 x3 = some r) : W p l e { frames := 1, cells := 0, slots := 0, locals := 40 } s m args below meth c H locs 0 0 (MQ below (va_Qi (fun v (_ : Unit) => v = Int32.ofInt r.2) (fun _ t => PostW D (TYs k) A (cW k z g π r.1) t) A) args s 0 0 A) (F0 m 33 ls []) := by
  rw [Es_runEnd_33] at hm
  refine lv_iload_n C.1 C.2.1 dX1_runEnd_33 rfl (lv_at hl 1 rfl) ?_
  refine lv_iload_n C.1 C.2.1 dX1_runEnd_34 rfl (lv_at hl 0 rfl) ?_
  obtain ⟨g12, hm⟩ := grd_s hm
  obtain ⟨g13, hm⟩ := grd_s hm
  refine v_min C hl.1 dX1_runEnd_35 g12 g13 (List.mem_cons_of_mem _ wx_X1_86) (List.mem_cons_of_mem _ wxs_min) (List.mem_cons_of_mem _ wxc_min) (List.mem_cons_of_mem _ wt_Math) (Nat.le_of_ble_eq_true rfl) (by simp [rfv_cat, cat_i, cat_l]) (Nat.le_of_ble_eq_true rfl) (Nat.le_of_ble_eq_true rfl) ?_
  cases hm
  exact c_iretP C h hr hlk dX1_runEnd_38 rfl
set_option maxHeartbeats 8000000 in
set_option maxRecDepth 100000 in
theorem kl_Es_runEnd_4 {r : St × Int} (C : Cx p s m args c cX1_runEnd RX1 (cd :: cWd) D (TYs k) 4) (hr : meth.sig.returnType = (some .int)) (hlk : meth.locks = false) (hE : Ev z mi aK aV A s s.heap) (hS : SHs π)    (n : Nat) : ∀ {ls : Array Slot} {H : Heap} {locs : List Loc} {σ : St} {x2 : Int} {x3 : Int}, lv_has ls 4 [(0, rfv g 10), (2, .int (Int32.ofInt x2)), (3, .int (Int32.ofInt x3))] → Hp D A s.heap H locs (cW k z g π σ) → Es_runEnd_4 N π n σ x2 x3 = some r → W p l e { frames := 1, cells := 0, slots := 0, locals := 40 } s m args below meth c H locs 0 0 (MQ below (va_Qi (fun v (_ : Unit) => v = Int32.ofInt r.2) (fun _ t => PostW D (TYs k) A (cW k z g π r.1) t) A) args s 0 0 A) (F0 m 4 ls []) := by
  induction n with
  | zero => intro ls H locs σ x2 x3  hl h hm; cases (show none = some r from hm)
  | succ n hrec4 =>
    intro ls H locs σ x2 x3  hl h hm
    rw [Es_runEnd_4] at hm
    refine lv_iload_n C.1 C.2.1 dX1_runEnd_4 rfl (lv_at hl 2 rfl) ?_
    refine lv_iload_n C.1 C.2.1 dX1_runEnd_5 rfl (lv_at hl 1 rfl) ?_
    obtain ⟨g3, hm⟩ := grd_s hm
    obtain ⟨g4, hm⟩ := grd_s hm
    refine z_icmp_ge (tgt := 33) C dX1_runEnd_6 (by decide) g3 g4 (fun c5 => ?_) (fun c5 => ?_)
    · have hm := ite_f c5 hm
      exact kl_Es_runEnd_33 (N := N) C hr hlk hE hS (lv_sub hl [1, 2] rfl) h hm
    · have hm := ite_t c5 hm
      refine z_aload_n C dX1_runEnd_9 rfl (lv_at hl 0 rfl) ?_
      refine cg_2_12 C h (sh_10 hS) cU_X1 (List.mem_cons_of_mem _ wl_X1_49) dX1_runEnd_10 ?_
      refine lv_iload_n C.1 C.2.1 dX1_runEnd_13 rfl (lv_at hl 2 rfl) ?_
      refine lv_iconst (v := Int32.ofInt 1) C.1 C.2.1 dX1_runEnd_14 (by decide) ?_
      refine z_isub C dX1_runEnd_15 ?_
      obtain ⟨g6, hm⟩ := grd_s hm
      obtain ⟨g7, hm⟩ := grd_s hm
      refine c_lald C h g6 g7 dX1_runEnd_16 ?_
      refine z_aload_n C dX1_runEnd_17 rfl (lv_at hl 0 rfl) ?_
      refine cg_2_12 C h (sh_10 hS) cU_X1 (List.mem_cons_of_mem _ wl_X1_49) dX1_runEnd_18 ?_
      refine lv_iload_n C.1 C.2.1 dX1_runEnd_21 rfl (lv_at hl 2 rfl) ?_
      obtain ⟨g8, hm⟩ := grd_s hm
      refine c_lald C h g6 g8 dX1_runEnd_22 ?_
      obtain ⟨g9, hm⟩ := grd_s hm
      obtain ⟨g10, hm⟩ := grd_s hm
      refine W.lcmp C.1 C.2.1 dX1_runEnd_23 ?_
      refine z_lcmp_ge (tgt := 33) C dX1_runEnd_24 (by decide) g9 g10 (fun c11 => ?_) (fun c11 => ?_)
      · have hm := ite_f c11 hm
        exact kl_Es_runEnd_33 (N := N) C hr hlk hE hS (lv_sub hl [1, 2] rfl) h hm
      · have hm := ite_t c11 hm
        refine lv_iinc (v := Int32.ofInt (x3 + 1)) (lv' := [(3, .int (Int32.ofInt (x3 + 1))), (0, rfv g 10), (2, .int (Int32.ofInt x2))]) C.1 C.2.1 dX1_runEnd_27 hl (k := 2) rfl (c32_add _ _) (by decide) rfl (fun ls hl => ?_)
        refine lv_goto (tgt := 4) C.1 C.2.1 dX1_runEnd_30 (by decide) ?_
        exact hrec4 (lv_sub hl [1, 2, 0] rfl) h hm
set_option maxHeartbeats 8000000 in
set_option maxRecDepth 100000 in
theorem kc_Es_runEnd (l : Launch) (D : va_G) (k : Nat → ClassId) (z mi : Nat) (aK aV : Nat → Nat) (g : Nat → Nat) (N : Nat)    {π : Sh} {σ : St} {x1 : Int} {x2 : Int} {r : St × Int} (hS : SHs π) (hm : Es_runEnd N π σ x1 x2 = some r) : Mi l yX1_runEnd (.code yX1_runEnd cX1_runEnd 4 (some .int) :: cWd) { frames := 1, cells := 0, slots := 0, locals := 40 } [rfv g 10, .int (Int32.ofInt x1), .int (Int32.ofInt x2)] D (TYs k) (cW k z g π σ) (XV z mi aK aV (cW k z g π σ)) Unit (fun v _ => v = Int32.ofInt r.2) (fun _ => cW k z g π r.1) 0 0 := by
  intro sz
  refine v_met (cc := cX1_runEnd) (maxL := 4) (ret := (some .int)) (lv := [(0, rfv g 10), (1, .int (Int32.ofInt x1)), (2, .int (Int32.ofInt x2))]) (by decide) rfl (by simp [lg_sl, rfv_cat, cat_i, cat_l]) (by simp [lv_args, rfv_cat, cat_i, cat_l]) ?_
  intro p e s m below meth c ls C hE hr hlk hmn hl h
  rw [Es_runEnd] at hm
  refine lv_iload_n C.1 C.2.1 dX1_runEnd_0 rfl (lv_at hl 1 rfl) ?_
  refine lv_iconst (v := Int32.ofInt 1) C.1 C.2.1 dX1_runEnd_1 (by decide) ?_
  refine z_iadd C dX1_runEnd_2 ?_
  obtain ⟨v1, e2, hm⟩ := bnd_s hm
  rw [e2]
  refine lv_istore_n (lv' := [(3, .int (Int32.ofInt v1)), (0, rfv g 10), (1, .int (Int32.ofInt x1)), (2, .int (Int32.ofInt x2))]) C.1 C.2.1 dX1_runEnd_3 rfl hl (by decide) rfl (fun ls hl => ?_)
  exact kl_Es_runEnd_4 (N := N) C hr hlk hE hS N (lv_sub hl [1, 3, 0] rfl) h hm
end Z_Es_runEnd
section Z_Es_mergePass
variable {p : Program} {l : Launch} {e : Env} {s : State} {m : MethodId} {args : Array Value} {below : List Frame} {meth : Method} {c : Code} {D : va_G} {A : Nat → Prop} {k : Nat → ClassId} {N : Nat} {cd : Cond} {z mi : Nat} {aK aV : Nat → Nat} {g : Nat → Nat} {π : Sh}
set_option maxHeartbeats 8000000 in
set_option maxRecDepth 100000 in
theorem kl_Es_mergePass_34 {r : St × Int} (C : Cx p s m args c cX1_mergePass RX1 (cd :: cWd) D (TYs k) 6) (hr : meth.sig.returnType = (some .boolean)) (hlk : meth.locks = false) (hE : Ev z mi aK aV A s s.heap) (hS : SHs π)   {rec4 : St → Int → Int → Int → Option (St × Int)} (hrec4 : ∀ {ls : Array Slot} {H : Heap} {locs : List Loc} {σ : St} {x1 : Int} {x2 : Int} {x3 : Int}, lv_has ls 6 [(0, rfv g 10), (1, .int (Int32.ofInt x1)), (2, .int (Int32.ofInt x2)), (3, .int (Int32.ofInt x3))] → Hp D A s.heap H locs (cW k z g π σ) → rec4 σ x1 x2 x3 = some r → W p l e { frames := 2, cells := 0, slots := 0, locals := 63 } s m args below meth c H locs 0 0 (MQ below (va_Qi (fun v (_ : Unit) => v = Int32.ofInt r.2) (fun _ t => PostW D (TYs k) A (cW k z g π r.1) t) A) args s 0 0 A) (F0 m 4 ls [])) {ls : Array Slot} {H : Heap} {locs : List Loc} {σ : St} {x1 : Int} {x2 : Int} {x3 : Int} {x4 : Int}  (hl : lv_has ls 6 [(0, rfv g 10), (1, .int (Int32.ofInt x1)), (2, .int (Int32.ofInt x2)), (3, .int (Int32.ofInt x3)), (4, .int (Int32.ofInt x4))]) (h : Hp D A s.heap H locs (cW k z g π σ)) (hm : Es_mergePass_34 N π rec4 σ x1 x2 x3 x4 = some r) : W p l e { frames := 2, cells := 0, slots := 0, locals := 63 } s m args below meth c H locs 0 0 (MQ below (va_Qi (fun v (_ : Unit) => v = Int32.ofInt r.2) (fun _ t => PostW D (TYs k) A (cW k z g π r.1) t) A) args s 0 0 A) (F0 m 34 ls []) := by
  rw [Es_mergePass_34] at hm
  refine z_aload_n C dX1_mergePass_34 rfl (lv_at hl 0 rfl) ?_
  refine lv_iload C.1 C.2.1 dX1_mergePass_35 (lv_at hl 4 rfl) ?_
  refine lv_iload_n C.1 C.2.1 dX1_mergePass_37 rfl (lv_at hl 1 rfl) ?_
  obtain ⟨r13, e14, hm⟩ := obd_s hm
  refine c_callViP C hE h (sh_10 hS) rfl (by decide) (kc_Es_runEnd l D k z mi aK aV g N hS e14) (cwV 2 C.2.2.1 (gS_X1_78 _) rfl rfl rfl hd_X1_runEnd ⟨Nat.le_of_ble_eq_true rfl, Nat.le_of_ble_eq_true rfl⟩) rfl hl.1 rfl (Nat.le_of_ble_eq_true rfl) dX1_mergePass_38 ⟨(Nat.le_of_ble_eq_true rfl), (Nat.le_of_ble_eq_true rfl)⟩ (fun H locs h => ?_)
  refine lv_istore (lv' := [(5, .int (Int32.ofInt r13.2)), (0, rfv g 10), (1, .int (Int32.ofInt x1)), (2, .int (Int32.ofInt x2)), (3, .int (Int32.ofInt x3)), (4, .int (Int32.ofInt x4))]) C.1 C.2.1 dX1_mergePass_41 hl (by decide) rfl (fun ls hl => ?_)
  refine z_aload_n C dX1_mergePass_43 rfl (lv_at hl 1 rfl) ?_
  refine lv_iload_n C.1 C.2.1 dX1_mergePass_44 rfl (lv_at hl 3 rfl) ?_
  refine lv_iload C.1 C.2.1 dX1_mergePass_45 (lv_at hl 5 rfl) ?_
  refine lv_iload C.1 C.2.1 dX1_mergePass_47 (lv_at hl 0 rfl) ?_
  obtain ⟨r17, e18, hm⟩ := obd_s hm
  refine c_callVvP C hE h (sh_10 hS) rfl (by decide) (kc_Es_mergeRuns l D k z mi aK aV g N hS e18) (cwV 3 C.2.2.1 (gS_X1_82 _) rfl rfl rfl hd_X1_mergeRuns ⟨Nat.le_of_ble_eq_true rfl, Nat.le_of_ble_eq_true rfl⟩) rfl hl.1 rfl (Nat.le_of_ble_eq_true rfl) dX1_mergePass_49 ⟨(Nat.le_of_ble_eq_true rfl), (Nat.le_of_ble_eq_true rfl)⟩ (fun H locs h => ?_)
  refine lv_iload C.1 C.2.1 dX1_mergePass_52 (lv_at hl 0 rfl) ?_
  refine lv_istore_n (lv' := [(2, .int (Int32.ofInt r13.2)), (5, .int (Int32.ofInt r13.2)), (0, rfv g 10), (1, .int (Int32.ofInt x1)), (3, .int (Int32.ofInt x3)), (4, .int (Int32.ofInt x4))]) C.1 C.2.1 dX1_mergePass_54 rfl hl (by decide) rfl (fun ls hl => ?_)
  refine lv_iinc (v := Int32.ofInt (x3 + 1)) (lv' := [(3, .int (Int32.ofInt (x3 + 1))), (2, .int (Int32.ofInt r13.2)), (5, .int (Int32.ofInt r13.2)), (0, rfv g 10), (1, .int (Int32.ofInt x1)), (4, .int (Int32.ofInt x4))]) C.1 C.2.1 dX1_mergePass_55 hl (k := 4) rfl (c32_add _ _) (by decide) rfl (fun ls hl => ?_)
  refine lv_goto (tgt := 4) C.1 C.2.1 dX1_mergePass_58 (by decide) ?_
  exact hrec4 (lv_sub hl [3, 4, 1, 0] rfl) h hm
set_option maxHeartbeats 8000000 in
set_option maxRecDepth 100000 in
theorem kl_Es_mergePass_61 {r : St × Int} (C : Cx p s m args c cX1_mergePass RX1 (cd :: cWd) D (TYs k) 6) (hr : meth.sig.returnType = (some .boolean)) (hlk : meth.locks = false) (hE : Ev z mi aK aV A s s.heap) (hS : SHs π)    {ls : Array Slot} {H : Heap} {locs : List Loc} {σ : St}   (hl : lv_has ls 6 [(0, rfv g 10)]) (h : Hp D A s.heap H locs (cW k z g π σ)) (hm : Es_mergePass_61 N π σ  = some r) : W p l e { frames := 2, cells := 0, slots := 0, locals := 63 } s m args below meth c H locs 0 0 (MQ below (va_Qi (fun v (_ : Unit) => v = Int32.ofInt r.2) (fun _ t => PostW D (TYs k) A (cW k z g π r.1) t) A) args s 0 0 A) (F0 m 61 ls []) := by
  rw [Es_mergePass_61] at hm
  refine z_aload_n C dX1_mergePass_61 rfl (lv_at hl 0 rfl) ?_
  refine cg_2_13 C h (sh_10 hS) cU_X1 (List.mem_cons_of_mem _ wl_X1_52) dX1_mergePass_62 ?_
  refine z_astore_n (lv' := [(3, rfv g (fl σ 53 10)), (0, rfv g 10)]) C dX1_mergePass_65 rfl hl (by decide) rfl (fun ls hl => ?_)
  refine z_aload_n C dX1_mergePass_66 rfl (lv_at hl 1 rfl) ?_
  refine z_aload_n C dX1_mergePass_67 rfl (lv_at hl 1 rfl) ?_
  refine cg_2_12 C h (sh_10 hS) cU_X1 (List.mem_cons_of_mem _ wl_X1_49) dX1_mergePass_68 ?_
  refine cp_2_13 C h (sh_10 hS) cU_X1 (List.mem_cons_of_mem _ wl_X1_52) dX1_mergePass_71 (fun H locs h => ?_)
  refine z_aload_n C dX1_mergePass_74 rfl (lv_at hl 1 rfl) ?_
  refine z_aload_n C dX1_mergePass_75 rfl (lv_at hl 0 rfl) ?_
  refine cp_2_12 C h (sh_10 hS) cU_X1 (List.mem_cons_of_mem _ wl_X1_49) dX1_mergePass_76 (fun H locs h => ?_)
  refine lv_iconst (v := Int32.ofInt 0) C.1 C.2.1 dX1_mergePass_79 (by decide) ?_
  cases hm
  exact c_iretP C h hr hlk dX1_mergePass_80 rfl
set_option maxHeartbeats 8000000 in
set_option maxRecDepth 100000 in
theorem kl_Es_mergePass_4 {r : St × Int} (C : Cx p s m args c cX1_mergePass RX1 (cd :: cWd) D (TYs k) 6) (hr : meth.sig.returnType = (some .boolean)) (hlk : meth.locks = false) (hE : Ev z mi aK aV A s s.heap) (hS : SHs π)    (n : Nat) : ∀ {ls : Array Slot} {H : Heap} {locs : List Loc} {σ : St} {x1 : Int} {x2 : Int} {x3 : Int}, lv_has ls 6 [(0, rfv g 10), (1, .int (Int32.ofInt x1)), (2, .int (Int32.ofInt x2)), (3, .int (Int32.ofInt x3))] → Hp D A s.heap H locs (cW k z g π σ) → Es_mergePass_4 N π n σ x1 x2 x3 = some r → W p l e { frames := 2, cells := 0, slots := 0, locals := 63 } s m args below meth c H locs 0 0 (MQ below (va_Qi (fun v (_ : Unit) => v = Int32.ofInt r.2) (fun _ t => PostW D (TYs k) A (cW k z g π r.1) t) A) args s 0 0 A) (F0 m 4 ls []) := by
  induction n with
  | zero => intro ls H locs σ x1 x2 x3  hl h hm; cases (show none = some r from hm)
  | succ n hrec4 =>
    intro ls H locs σ x1 x2 x3  hl h hm
    rw [Es_mergePass_4] at hm
    refine lv_iload_n C.1 C.2.1 dX1_mergePass_4 rfl (lv_at hl 3 rfl) ?_
    refine lv_iload_n C.1 C.2.1 dX1_mergePass_5 rfl (lv_at hl 1 rfl) ?_
    obtain ⟨g1, hm⟩ := grd_s hm
    obtain ⟨g2, hm⟩ := grd_s hm
    refine z_icmp_ge (tgt := 61) C dX1_mergePass_6 (by decide) g1 g2 (fun c3 => ?_) (fun c3 => ?_)
    · have hm := ite_f c3 hm
      exact kl_Es_mergePass_61 (N := N) C hr hlk hE hS (lv_sub hl [0] rfl) h hm
    · have hm := ite_t c3 hm
      refine lv_iload_n C.1 C.2.1 dX1_mergePass_9 rfl (lv_at hl 2 rfl) ?_
      refine lv_iload_n C.1 C.2.1 dX1_mergePass_10 rfl (lv_at hl 1 rfl) ?_
      obtain ⟨g4, hm⟩ := grd_s hm
      refine z_icmp_ge (tgt := 61) C dX1_mergePass_11 (by decide) g4 g2 (fun c5 => ?_) (fun c5 => ?_)
      · have hm := ite_f c5 hm
        exact kl_Es_mergePass_61 (N := N) C hr hlk hE hS (lv_sub hl [0] rfl) h hm
      · have hm := ite_t c5 hm
        refine z_aload_n C dX1_mergePass_14 rfl (lv_at hl 0 rfl) ?_
        refine lv_iload_n C.1 C.2.1 dX1_mergePass_15 rfl (lv_at hl 2 rfl) ?_
        refine lv_iload_n C.1 C.2.1 dX1_mergePass_16 rfl (lv_at hl 1 rfl) ?_
        obtain ⟨r6, e7, hm⟩ := obd_s hm
        refine c_callViP C hE h (sh_10 hS) rfl (by decide) (kc_Es_runEnd l D k z mi aK aV g N hS e7) (cwV 2 C.2.2.1 (gS_X1_78 _) rfl rfl rfl hd_X1_runEnd ⟨Nat.le_of_ble_eq_true rfl, Nat.le_of_ble_eq_true rfl⟩) rfl hl.1 rfl (Nat.le_of_ble_eq_true rfl) dX1_mergePass_17 ⟨(Nat.le_of_ble_eq_true rfl), (Nat.le_of_ble_eq_true rfl)⟩ (fun H locs h => ?_)
        refine lv_istore (lv' := [(4, .int (Int32.ofInt r6.2)), (0, rfv g 10), (1, .int (Int32.ofInt x1)), (2, .int (Int32.ofInt x2)), (3, .int (Int32.ofInt x3))]) C.1 C.2.1 dX1_mergePass_20 hl (by decide) rfl (fun ls hl => ?_)
        refine lv_iload_n C.1 C.2.1 dX1_mergePass_22 rfl (lv_at hl 3 rfl) ?_
        refine z_if_ne (tgt := 34) C dX1_mergePass_23 (by decide) g4 (fun c10 => ?_) (fun c10 => ?_)
        · have hm := ite_f c10 hm
          exact kl_Es_mergePass_34 (N := N) C hr hlk hE hS hrec4 (lv_sub hl [1, 2, 3, 4, 0] rfl) h hm
        · have hm := ite_t c10 hm
          refine lv_iload C.1 C.2.1 dX1_mergePass_26 (lv_at hl 0 rfl) ?_
          refine lv_iload_n C.1 C.2.1 dX1_mergePass_28 rfl (lv_at hl 2 rfl) ?_
          obtain ⟨g11, hm⟩ := grd_s hm
          refine z_icmp_ne (tgt := 34) C dX1_mergePass_29 (by decide) g11 g2 (fun c12 => ?_) (fun c12 => ?_)
          · have hm := ite_f c12 hm
            exact kl_Es_mergePass_34 (N := N) C hr hlk hE hS hrec4 (lv_sub hl [1, 2, 3, 4, 0] rfl) h hm
          · have hm := ite_t c12 hm
            refine lv_iconst (v := Int32.ofInt 1) C.1 C.2.1 dX1_mergePass_32 (by decide) ?_
            cases hm
            exact c_iretP C h hr hlk dX1_mergePass_33 rfl
set_option maxHeartbeats 8000000 in
set_option maxRecDepth 100000 in
theorem kc_Es_mergePass (l : Launch) (D : va_G) (k : Nat → ClassId) (z mi : Nat) (aK aV : Nat → Nat) (g : Nat → Nat) (N : Nat)    {π : Sh} {σ : St} {x1 : Int} {r : St × Int} (hS : SHs π) (hm : Es_mergePass N π σ x1 = some r) : Mi l yX1_mergePass (.code yX1_mergePass cX1_mergePass 6 (some .boolean) :: cWd) { frames := 2, cells := 0, slots := 0, locals := 63 } [rfv g 10, .int (Int32.ofInt x1)] D (TYs k) (cW k z g π σ) (XV z mi aK aV (cW k z g π σ)) Unit (fun v _ => v = Int32.ofInt r.2) (fun _ => cW k z g π r.1) 0 0 := by
  intro sz
  refine v_met (cc := cX1_mergePass) (maxL := 6) (ret := (some .boolean)) (lv := [(0, rfv g 10), (1, .int (Int32.ofInt x1))]) (by decide) rfl (by simp [lg_sl, rfv_cat, cat_i, cat_l]) (by simp [lv_args, rfv_cat, cat_i, cat_l]) ?_
  intro p e s m below meth c ls C hE hr hlk hmn hl h
  rw [Es_mergePass] at hm
  refine lv_iconst (v := Int32.ofInt 0) C.1 C.2.1 dX1_mergePass_0 (by decide) ?_
  refine lv_istore_n (lv' := [(2, .int (Int32.ofInt 0)), (0, rfv g 10), (1, .int (Int32.ofInt x1))]) C.1 C.2.1 dX1_mergePass_1 rfl hl (by decide) rfl (fun ls hl => ?_)
  refine lv_iconst (v := Int32.ofInt 0) C.1 C.2.1 dX1_mergePass_2 (by decide) ?_
  refine lv_istore_n (lv' := [(3, .int (Int32.ofInt 0)), (2, .int (Int32.ofInt 0)), (0, rfv g 10), (1, .int (Int32.ofInt x1))]) C.1 C.2.1 dX1_mergePass_3 rfl hl (by decide) rfl (fun ls hl => ?_)
  exact kl_Es_mergePass_4 (N := N) C hr hlk hE hS N (lv_sub hl [2, 3, 1, 0] rfl) h hm
end Z_Es_mergePass
section Z_Es_takeValue
variable {p : Program} {l : Launch} {e : Env} {s : State} {m : MethodId} {args : Array Value} {below : List Frame} {meth : Method} {c : Code} {D : va_G} {A : Nat → Prop} {k : Nat → ClassId} {N : Nat} {cd : Cond} {z mi : Nat} {aK aV : Nat → Nat} {g : Nat → Nat} {π : Sh}
set_option maxHeartbeats 8000000 in
set_option maxRecDepth 100000 in
theorem kc_Es_takeValue (l : Launch) (D : va_G) (k : Nat → ClassId) (z mi : Nat) (aK aV : Nat → Nat) (g : Nat → Nat) (N : Nat)    {π : Sh} {σ : St} {x1 : Int} {x2 : Int} {r : St} (hS : SHs π) (hm : Es_takeValue N π σ x1 x2 = some r) : Mv l yX1_takeValue (.code yX1_takeValue cX1_takeValue 3 none :: cWd) { frames := 0, cells := 0, slots := 0, locals := 0 } [rfv g 10, .int (Int32.ofInt x1), .int (Int32.ofInt x2)] D (TYs k) (cW k z g π σ) (XV z mi aK aV (cW k z g π σ)) Unit (fun _ => True) (fun _ => cW k z g π r) 0 0 := by
  intro sz
  refine v_met (cc := cX1_takeValue) (maxL := 3) (ret := none) (lv := [(0, rfv g 10), (1, .int (Int32.ofInt x1)), (2, .int (Int32.ofInt x2))]) (by decide) rfl (by simp [lg_sl, rfv_cat, cat_i, cat_l]) (by simp [lv_args, rfv_cat, cat_i, cat_l]) ?_
  intro p e s m below meth c ls C hE hr hlk hmn hl h
  rw [Es_takeValue] at hm
  refine z_aload_n C dX1_takeValue_0 rfl (lv_at hl 0 rfl) ?_
  refine cg_2_2 C h (sh_10 hS) cU_X1 (List.mem_cons_of_mem _ wl_X1_16) dX1_takeValue_1 ?_
  refine lv_iload_n C.1 C.2.1 dX1_takeValue_4 rfl (lv_at hl 1 rfl) ?_
  refine z_aload_n C dX1_takeValue_5 rfl (lv_at hl 0 rfl) ?_
  refine cg_2_9 C h (sh_10 hS) cU_X1 (List.mem_cons_of_mem _ wl_X1_40) dX1_takeValue_6 ?_
  refine lv_iload_n C.1 C.2.1 dX1_takeValue_9 rfl (lv_at hl 2 rfl) ?_
  obtain ⟨g1, hm⟩ := grd_s hm
  refine c_lald C h (sh_19 hS) (ina_inb (n := 1024) (sl_19 hS) (Nat.le_of_ble_eq_true rfl) g1) dX1_takeValue_10 ?_
  obtain ⟨g2, hm⟩ := grd_s hm
  refine c_last C h (sh_13 hS) (ina_inb (n := 6000) (sl_13 hS) (Nat.le_of_ble_eq_true rfl) g2) dX1_takeValue_11 (fun H locs h => ?_)
  refine z_aload_n C dX1_takeValue_12 rfl (lv_at hl 0 rfl) ?_
  refine cg_2_3 C h (sh_10 hS) cU_X1 (List.mem_cons_of_mem _ wl_X1_19) dX1_takeValue_13 ?_
  refine lv_iload_n C.1 C.2.1 dX1_takeValue_16 rfl (lv_at hl 1 rfl) ?_
  refine z_aload_n C dX1_takeValue_17 rfl (lv_at hl 0 rfl) ?_
  refine cg_2_7 C h (sh_10 hS) cU_X1 (List.mem_cons_of_mem _ wl_X1_34) dX1_takeValue_18 ?_
  refine lv_iload_n C.1 C.2.1 dX1_takeValue_21 rfl (lv_at hl 2 rfl) ?_
  refine c_iald C h (sh_17 hS) (ina_inb (n := 1024) (sl_17 hS) (Nat.le_of_ble_eq_true rfl) g1) dX1_takeValue_22 ?_
  refine x_topi (y := Int32.ofInt (el σ 17 x2)) (by simp [fl, el, se, sf]) ?_
  refine c_iast C h (sh_14 hS) (ina_inb (n := 6000) (sl_14 hS) (Nat.le_of_ble_eq_true rfl) g2) dX1_takeValue_23 (fun H locs h => ?_)
  refine z_aload_n C dX1_takeValue_24 rfl (lv_at hl 0 rfl) ?_
  refine cg_2_4 C h (sh_10 hS) cU_X1 (List.mem_cons_of_mem _ wl_X1_23) dX1_takeValue_25 ?_
  refine lv_iload_n C.1 C.2.1 dX1_takeValue_28 rfl (lv_at hl 1 rfl) ?_
  refine z_aload_n C dX1_takeValue_29 rfl (lv_at hl 0 rfl) ?_
  refine cg_2_8 C h (sh_10 hS) cU_X1 (List.mem_cons_of_mem _ wl_X1_37) dX1_takeValue_30 ?_
  refine lv_iload_n C.1 C.2.1 dX1_takeValue_33 rfl (lv_at hl 2 rfl) ?_
  refine c_zald C h (sh_18 hS) (ina_inb (n := 1024) (sl_18 hS) (Nat.le_of_ble_eq_true rfl) g1) dX1_takeValue_34 ?_
  refine x_topi (y := Int32.ofInt (el σ 18 x2)) (by simp [fl, el, se, sf]) ?_
  obtain ⟨g3, hm⟩ := grd_s hm
  refine c_zast C h (sh_15 hS) (ina_inb (n := 6000) (sl_15 hS) (Nat.le_of_ble_eq_true rfl) g2) g3 dX1_takeValue_35 (fun H locs h => ?_)
  cases hm
  exact c_vretP C h hr hlk dX1_takeValue_36
end Z_Es_takeValue
section Z_Es_sort
variable {p : Program} {l : Launch} {e : Env} {s : State} {m : MethodId} {args : Array Value} {below : List Frame} {meth : Method} {c : Code} {D : va_G} {A : Nat → Prop} {k : Nat → ClassId} {N : Nat} {cd : Cond} {z mi : Nat} {aK aV : Nat → Nat} {g : Nat → Nat} {π : Sh}
set_option maxHeartbeats 8000000 in
set_option maxRecDepth 100000 in
theorem kl_Es_sort_88 {r : St} (C : Cx p s m args c cX1_sort RX1 (cd :: cWd) D (TYs k) 5) (hr : meth.sig.returnType = none) (hlk : meth.locks = false) (hE : Ev z mi aK aV A s s.heap) (hS : SHs π)    (n : Nat) : ∀ {ls : Array Slot} {H : Heap} {locs : List Loc} {σ : St} {x1 : Int} {x2 : Int} {x3 : Int}, lv_has ls 5 [(0, rfv g 10), (1, .int (Int32.ofInt x1)), (2, .int (Int32.ofInt x2)), (3, .int (Int32.ofInt x3))] → Hp D A s.heap H locs (cW k z g π σ) → Es_sort_88 N π n σ x1 x2 x3 = some r → W p l e { frames := 3, cells := 0, slots := 0, locals := 88 } s m args below meth c H locs 0 0 (MQ below (va_Qv (fun (_ : Unit) => True) (fun _ t => PostW D (TYs k) A (cW k z g π r) t) A) args s 0 0 A) (F0 m 88 ls []) := by
  induction n with
  | zero => intro ls H locs σ x1 x2 x3  hl h hm; cases (show none = some r from hm)
  | succ n hrec88 =>
    intro ls H locs σ x1 x2 x3  hl h hm
    rw [Es_sort_88] at hm
    refine lv_iload_n C.1 C.2.1 dX1_sort_88 rfl (lv_at hl 3 rfl) ?_
    refine lv_iload_n C.1 C.2.1 dX1_sort_89 rfl (lv_at hl 2 rfl) ?_
    obtain ⟨g29, hm⟩ := grd_s hm
    obtain ⟨g30, hm⟩ := grd_s hm
    refine z_icmp_ge (tgt := 151) C dX1_sort_90 (by decide) g29 g30 (fun c31 => ?_) (fun c31 => ?_)
    · have hm := ite_f c31 hm
      cases hm
      exact c_vretP C h hr hlk dX1_sort_151
    · have hm := ite_t c31 hm
      refine z_aload_n C dX1_sort_93 rfl (lv_at hl 0 rfl) ?_
      refine cg_2_12 C h (sh_10 hS) cU_X1 (List.mem_cons_of_mem _ wl_X1_49) dX1_sort_94 ?_
      refine lv_iload_n C.1 C.2.1 dX1_sort_97 rfl (lv_at hl 3 rfl) ?_
      obtain ⟨g32, hm⟩ := grd_s hm
      obtain ⟨g33, hm⟩ := grd_s hm
      refine c_lald C h g32 g33 dX1_sort_98 ?_
      refine lv_ldc2 (v := 1024) C.1 C.2.1 C.2.2.2.1 (C.2.2.1 _ (List.mem_cons_of_mem _ wk_X1_67)) dX1_sort_99 ?_
      refine x_topl (y := Int64.ofInt 1024) (by decide) ?_
      obtain ⟨g34, hm⟩ := grd_s hm
      refine z_lrem C dX1_sort_102 g34 (by decide) (by decide) ?_
      refine z_l2i C dX1_sort_103 ?_
      obtain ⟨v35, e36, hm⟩ := bnd_s hm
      rw [e36]
      refine lv_istore (lv' := [(4, .int (Int32.ofInt v35)), (0, rfv g 10), (1, .int (Int32.ofInt x1)), (2, .int (Int32.ofInt x2)), (3, .int (Int32.ofInt x3))]) C.1 C.2.1 dX1_sort_104 hl (by decide) rfl (fun ls hl => ?_)
      refine z_aload_n C dX1_sort_106 rfl (lv_at hl 1 rfl) ?_
      refine cg_2_0 C h (sh_10 hS) cU_X1 (List.mem_cons_of_mem _ wl_X1_9) dX1_sort_107 ?_
      refine lv_iload_n C.1 C.2.1 dX1_sort_110 rfl (lv_at hl 2 rfl) ?_
      refine lv_iload_n C.1 C.2.1 dX1_sort_111 rfl (lv_at hl 4 rfl) ?_
      refine z_iadd C dX1_sort_112 ?_
      refine z_aload_n C dX1_sort_113 rfl (lv_at hl 1 rfl) ?_
      refine cg_2_10 C h (sh_10 hS) cU_X1 (List.mem_cons_of_mem _ wl_X1_43) dX1_sort_114 ?_
      refine lv_iload C.1 C.2.1 dX1_sort_117 (lv_at hl 0 rfl) ?_
      obtain ⟨g37, hm⟩ := grd_s hm
      refine c_lald C h (sh_20 hS) (ina_inb (n := 1024) (sl_20 hS) (Nat.le_of_ble_eq_true rfl) g37) dX1_sort_119 ?_
      obtain ⟨g38, hm⟩ := grd_s hm
      refine c_last C h (sh_11 hS) (ina_inb (n := 6000) (sl_11 hS) (Nat.le_of_ble_eq_true rfl) g38) dX1_sort_120 (fun H locs h => ?_)
      refine z_aload_n C dX1_sort_121 rfl (lv_at hl 1 rfl) ?_
      refine cg_2_1 C h (sh_10 hS) cU_X1 (List.mem_cons_of_mem _ wl_X1_13) dX1_sort_122 ?_
      refine lv_iload_n C.1 C.2.1 dX1_sort_125 rfl (lv_at hl 2 rfl) ?_
      refine lv_iload_n C.1 C.2.1 dX1_sort_126 rfl (lv_at hl 4 rfl) ?_
      refine z_iadd C dX1_sort_127 ?_
      refine z_aload_n C dX1_sort_128 rfl (lv_at hl 1 rfl) ?_
      refine cg_2_11 C h (sh_10 hS) cU_X1 (List.mem_cons_of_mem _ wl_X1_46) dX1_sort_129 ?_
      refine lv_iload C.1 C.2.1 dX1_sort_132 (lv_at hl 0 rfl) ?_
      refine c_lald C h (sh_21 hS) (ina_inb (n := 1024) (sl_21 hS) (Nat.le_of_ble_eq_true rfl) g37) dX1_sort_134 ?_
      refine x_topl (y := Int64.ofInt (el σ 21 v35)) (by simp [fl, el, se, sf]) ?_
      refine c_last C h (sh_12 hS) (ina_inb (n := 6000) (sl_12 hS) (Nat.le_of_ble_eq_true rfl) g38) dX1_sort_135 (fun H locs h => ?_)
      refine z_aload_n C dX1_sort_136 rfl (lv_at hl 1 rfl) ?_
      refine lv_iload_n C.1 C.2.1 dX1_sort_137 rfl (lv_at hl 2 rfl) ?_
      refine lv_iload_n C.1 C.2.1 dX1_sort_138 rfl (lv_at hl 4 rfl) ?_
      refine z_iadd C dX1_sort_139 ?_
      refine lv_iload C.1 C.2.1 dX1_sort_140 (lv_at hl 0 rfl) ?_
      obtain ⟨σ39, e40, hm⟩ := bnd_s hm
      rw [e40] at h
      obtain ⟨r42, e43, hm⟩ := obd_s hm
      refine c_callVvP C hE h (sh_10 hS) rfl (by decide) (kc_Es_takeValue l D k z mi aK aV g N hS e43) (cwV 2 C.2.2.1 (gS_X1_75 _) rfl rfl rfl hd_X1_takeValue ⟨Nat.le_of_ble_eq_true rfl, Nat.le_of_ble_eq_true rfl⟩) rfl hl.1 rfl (Nat.le_of_ble_eq_true rfl) dX1_sort_142 ⟨(Nat.le_of_ble_eq_true rfl), (Nat.le_of_ble_eq_true rfl)⟩ (fun H locs h => ?_)
      refine lv_iinc (v := Int32.ofInt (x3 + 1)) (lv' := [(3, .int (Int32.ofInt (x3 + 1))), (4, .int (Int32.ofInt v35)), (0, rfv g 10), (1, .int (Int32.ofInt x1)), (2, .int (Int32.ofInt x2))]) C.1 C.2.1 dX1_sort_145 hl (k := 4) rfl (c32_add _ _) (by decide) rfl (fun ls hl => ?_)
      refine lv_goto (tgt := 88) C.1 C.2.1 dX1_sort_148 (by decide) ?_
      exact hrec88 (lv_sub hl [2, 3, 4, 0] rfl) h hm
set_option maxHeartbeats 8000000 in
set_option maxRecDepth 100000 in
theorem kl_Es_sort_80 {r : St} (C : Cx p s m args c cX1_sort RX1 (cd :: cWd) D (TYs k) 5) (hr : meth.sig.returnType = none) (hlk : meth.locks = false) (hE : Ev z mi aK aV A s s.heap) (hS : SHs π)    {ls : Array Slot} {H : Heap} {locs : List Loc} {σ : St} {x1 : Int} {x2 : Int}  (hl : lv_has ls 5 [(0, rfv g 10), (1, .int (Int32.ofInt x1)), (2, .int (Int32.ofInt x2))]) (h : Hp D A s.heap H locs (cW k z g π σ)) (hm : Es_sort_80 N π σ x1 x2 = some r) : W p l e { frames := 3, cells := 0, slots := 0, locals := 88 } s m args below meth c H locs 0 0 (MQ below (va_Qv (fun (_ : Unit) => True) (fun _ t => PostW D (TYs k) A (cW k z g π r) t) A) args s 0 0 A) (F0 m 80 ls []) := by
  rw [Es_sort_80] at hm
  refine z_aload_n C dX1_sort_80 rfl (lv_at hl 0 rfl) ?_
  refine lv_iload_n C.1 C.2.1 dX1_sort_81 rfl (lv_at hl 1 rfl) ?_
  refine lv_iload_n C.1 C.2.1 dX1_sort_82 rfl (lv_at hl 2 rfl) ?_
  obtain ⟨r25, e26, hm⟩ := obd_s hm
  refine c_callVvP C hE h (sh_10 hS) rfl (by decide) (kc_Es_copyToSpare l D k z mi aK aV g N hS e26) (cwV 2 C.2.2.1 (gS_X1_72 _) rfl rfl rfl hd_X1_copyToSpare ⟨Nat.le_of_ble_eq_true rfl, Nat.le_of_ble_eq_true rfl⟩) rfl hl.1 rfl (Nat.le_of_ble_eq_true rfl) dX1_sort_83 ⟨(Nat.le_of_ble_eq_true rfl), (Nat.le_of_ble_eq_true rfl)⟩ (fun H locs h => ?_)
  refine lv_iconst (v := Int32.ofInt 0) C.1 C.2.1 dX1_sort_86 (by decide) ?_
  refine lv_istore_n (lv' := [(3, .int (Int32.ofInt 0)), (0, rfv g 10), (1, .int (Int32.ofInt x1)), (2, .int (Int32.ofInt x2))]) C.1 C.2.1 dX1_sort_87 rfl hl (by decide) rfl (fun ls hl => ?_)
  exact kl_Es_sort_88 (N := N) C hr hlk hE hS N (lv_sub hl [1, 2, 3, 0] rfl) h hm
set_option maxHeartbeats 8000000 in
set_option maxRecDepth 100000 in
theorem kl_Es_sort_59 {r : St} (C : Cx p s m args c cX1_sort RX1 (cd :: cWd) D (TYs k) 5) (hr : meth.sig.returnType = none) (hlk : meth.locks = false) (hE : Ev z mi aK aV A s s.heap) (hS : SHs π)    (n : Nat) : ∀ {ls : Array Slot} {H : Heap} {locs : List Loc} {σ : St} {x1 : Int} {x2 : Int} {x3 : Int}, lv_has ls 5 [(0, rfv g 10), (1, .int (Int32.ofInt x1)), (2, .int (Int32.ofInt x2)), (3, .int (Int32.ofInt x3))] → Hp D A s.heap H locs (cW k z g π σ) → Es_sort_59 N π n σ x1 x2 x3 = some r → W p l e { frames := 3, cells := 0, slots := 0, locals := 88 } s m args below meth c H locs 0 0 (MQ below (va_Qv (fun (_ : Unit) => True) (fun _ t => PostW D (TYs k) A (cW k z g π r) t) A) args s 0 0 A) (F0 m 59 ls []) := by
  induction n with
  | zero => intro ls H locs σ x1 x2 x3  hl h hm; cases (show none = some r from hm)
  | succ n hrec59 =>
    intro ls H locs σ x1 x2 x3  hl h hm
    rw [Es_sort_59] at hm
    refine lv_iload_n C.1 C.2.1 dX1_sort_59 rfl (lv_at hl 3 rfl) ?_
    refine lv_sipush (v := Int32.ofInt 1024) C.1 C.2.1 dX1_sort_60 (by decide) ?_
    obtain ⟨g17, hm⟩ := grd_s hm
    refine z_icmp_ge (tgt := 80) C dX1_sort_63 (by decide) g17 (by decide) (fun c18 => ?_) (fun c18 => ?_)
    · have hm := ite_f c18 hm
      exact kl_Es_sort_80 (N := N) C hr hlk hE hS (lv_sub hl [0, 1, 2] rfl) h hm
    · have hm := ite_t c18 hm
      refine z_aload_n C dX1_sort_66 rfl (lv_at hl 0 rfl) ?_
      refine lv_iload_n C.1 C.2.1 dX1_sort_67 rfl (lv_at hl 2 rfl) ?_
      obtain ⟨r19, e20, hm⟩ := obd_s hm
      refine c_callViP C hE h (sh_10 hS) rfl (by decide) (kc_Es_mergePass l D k z mi aK aV g N hS e20) (cwV 1 C.2.2.1 (gS_X1_69 _) rfl rfl rfl hd_X1_mergePass ⟨Nat.le_of_ble_eq_true rfl, Nat.le_of_ble_eq_true rfl⟩) rfl hl.1 rfl (Nat.le_of_ble_eq_true rfl) dX1_sort_68 ⟨(Nat.le_of_ble_eq_true rfl), (Nat.le_of_ble_eq_true rfl)⟩ (fun H locs h => ?_)
      obtain ⟨g23, hm⟩ := grd_s hm
      refine z_if_ne (tgt := 80) C dX1_sort_71 (by decide) g23 (fun c24 => ?_) (fun c24 => ?_)
      · have hm := ite_f c24 hm
        exact kl_Es_sort_80 (N := N) C hr hlk hE hS (lv_sub hl [0, 1, 2] rfl) h hm
      · have hm := ite_t c24 hm
        refine lv_iinc (v := Int32.ofInt (x3 + 1)) (lv' := [(3, .int (Int32.ofInt (x3 + 1))), (0, rfv g 10), (1, .int (Int32.ofInt x1)), (2, .int (Int32.ofInt x2))]) C.1 C.2.1 dX1_sort_74 hl (k := 3) rfl (c32_add _ _) (by decide) rfl (fun ls hl => ?_)
        refine lv_goto (tgt := 59) C.1 C.2.1 dX1_sort_77 (by decide) ?_
        exact hrec59 (lv_sub hl [1, 2, 3, 0] rfl) h hm
set_option maxHeartbeats 8000000 in
set_option maxRecDepth 100000 in
theorem kl_Es_sort_25 {r : St} (C : Cx p s m args c cX1_sort RX1 (cd :: cWd) D (TYs k) 5) (hr : meth.sig.returnType = none) (hlk : meth.locks = false) (hE : Ev z mi aK aV A s s.heap) (hS : SHs π)    (n : Nat) : ∀ {ls : Array Slot} {H : Heap} {locs : List Loc} {σ : St} {x1 : Int} {x2 : Int} {x3 : Int}, lv_has ls 5 [(0, rfv g 10), (1, .int (Int32.ofInt x1)), (2, .int (Int32.ofInt x2)), (3, .int (Int32.ofInt x3))] → Hp D A s.heap H locs (cW k z g π σ) → Es_sort_25 N π n σ x1 x2 x3 = some r → W p l e { frames := 3, cells := 0, slots := 0, locals := 88 } s m args below meth c H locs 0 0 (MQ below (va_Qv (fun (_ : Unit) => True) (fun _ t => PostW D (TYs k) A (cW k z g π r) t) A) args s 0 0 A) (F0 m 25 ls []) := by
  induction n with
  | zero => intro ls H locs σ x1 x2 x3  hl h hm; cases (show none = some r from hm)
  | succ n hrec25 =>
    intro ls H locs σ x1 x2 x3  hl h hm
    rw [Es_sort_25] at hm
    refine lv_iload_n C.1 C.2.1 dX1_sort_25 rfl (lv_at hl 3 rfl) ?_
    refine lv_iload_n C.1 C.2.1 dX1_sort_26 rfl (lv_at hl 2 rfl) ?_
    obtain ⟨g11, hm⟩ := grd_s hm
    obtain ⟨g12, hm⟩ := grd_s hm
    refine z_icmp_ge (tgt := 57) C dX1_sort_27 (by decide) g11 g12 (fun c13 => ?_) (fun c13 => ?_)
    · have hm := ite_f c13 hm
      refine lv_iconst (v := Int32.ofInt 0) C.1 C.2.1 dX1_sort_57 (by decide) ?_
      refine lv_istore_n (lv' := [(3, .int (Int32.ofInt 0)), (0, rfv g 10), (1, .int (Int32.ofInt x1)), (2, .int (Int32.ofInt x2))]) C.1 C.2.1 dX1_sort_58 rfl hl (by decide) rfl (fun ls hl => ?_)
      exact kl_Es_sort_59 (N := N) C hr hlk hE hS N (lv_sub hl [1, 2, 3, 0] rfl) h hm
    · have hm := ite_t c13 hm
      refine z_aload_n C dX1_sort_30 rfl (lv_at hl 0 rfl) ?_
      refine cg_2_12 C h (sh_10 hS) cU_X1 (List.mem_cons_of_mem _ wl_X1_49) dX1_sort_31 ?_
      refine lv_iload_n C.1 C.2.1 dX1_sort_34 rfl (lv_at hl 3 rfl) ?_
      refine z_aload_n C dX1_sort_35 rfl (lv_at hl 0 rfl) ?_
      refine cg_2_0 C h (sh_10 hS) cU_X1 (List.mem_cons_of_mem _ wl_X1_9) dX1_sort_36 ?_
      refine lv_iload_n C.1 C.2.1 dX1_sort_39 rfl (lv_at hl 1 rfl) ?_
      refine lv_iload_n C.1 C.2.1 dX1_sort_40 rfl (lv_at hl 3 rfl) ?_
      refine z_iadd C dX1_sort_41 ?_
      obtain ⟨g14, hm⟩ := grd_s hm
      refine c_lald C h (sh_11 hS) (ina_inb (n := 6000) (sl_11 hS) (Nat.le_of_ble_eq_true rfl) g14) dX1_sort_42 ?_
      refine lv_ldc2 (v := 1024) C.1 C.2.1 C.2.2.2.1 (C.2.2.1 _ (List.mem_cons_of_mem _ wk_X1_67)) dX1_sort_43 ?_
      refine x_topl (y := Int64.ofInt 1024) (by decide) ?_
      refine z_lmul C dX1_sort_46 ?_
      refine lv_iload_n C.1 C.2.1 dX1_sort_47 rfl (lv_at hl 3 rfl) ?_
      refine z_i2l C dX1_sort_48 g11 ?_
      refine z_ladd C dX1_sort_49 ?_
      obtain ⟨g15, hm⟩ := grd_s hm
      obtain ⟨g16, hm⟩ := grd_s hm
      refine c_last C h g15 g16 dX1_sort_50 (fun H locs h => ?_)
      refine lv_iinc (v := Int32.ofInt (x3 + 1)) (lv' := [(3, .int (Int32.ofInt (x3 + 1))), (0, rfv g 10), (1, .int (Int32.ofInt x1)), (2, .int (Int32.ofInt x2))]) C.1 C.2.1 dX1_sort_51 hl (k := 3) rfl (c32_add _ _) (by decide) rfl (fun ls hl => ?_)
      refine lv_goto (tgt := 25) C.1 C.2.1 dX1_sort_54 (by decide) ?_
      exact hrec25 (lv_sub hl [1, 2, 3, 0] rfl) h hm
set_option maxHeartbeats 8000000 in
set_option maxRecDepth 100000 in
theorem kc_Es_sort (l : Launch) (D : va_G) (k : Nat → ClassId) (z mi : Nat) (aK aV : Nat → Nat) (g : Nat → Nat) (N : Nat)    {π : Sh} {σ : St} {x1 : Int} {r : St} (hS : SHs π) (hm : Es_sort N π σ x1 = some r) : Mv l yX1_sort (.code yX1_sort cX1_sort 5 none :: cWd) { frames := 3, cells := 0, slots := 0, locals := 88 } [rfv g 10, .int (Int32.ofInt x1)] D (TYs k) (cW k z g π σ) (XV z mi aK aV (cW k z g π σ)) Unit (fun _ => True) (fun _ => cW k z g π r) 0 0 := by
  intro sz
  refine v_met (cc := cX1_sort) (maxL := 5) (ret := none) (lv := [(0, rfv g 10), (1, .int (Int32.ofInt x1))]) (by decide) rfl (by simp [lg_sl, rfv_cat, cat_i, cat_l]) (by simp [lv_args, rfv_cat, cat_i, cat_l]) ?_
  intro p e s m below meth c ls C hE hr hlk hmn hl h
  rw [Es_sort] at hm
  refine z_aload_n C dX1_sort_0 rfl (lv_at hl 0 rfl) ?_
  refine cg_2_6 C h (sh_10 hS) cU_X1 (List.mem_cons_of_mem _ wl_X1_30) dX1_sort_1 ?_
  refine lv_iload_n C.1 C.2.1 dX1_sort_4 rfl (lv_at hl 1 rfl) ?_
  refine z_isub C dX1_sort_5 ?_
  obtain ⟨v1, e2, hm⟩ := bnd_s hm
  rw [e2]
  refine lv_istore_n (lv' := [(2, .int (Int32.ofInt v1)), (0, rfv g 10), (1, .int (Int32.ofInt x1))]) C.1 C.2.1 dX1_sort_6 rfl hl (by decide) rfl (fun ls hl => ?_)
  refine lv_iload_n C.1 C.2.1 dX1_sort_7 rfl (lv_at hl 0 rfl) ?_
  refine lv_sipush (v := Int32.ofInt 1024) C.1 C.2.1 dX1_sort_8 (by decide) ?_
  obtain ⟨g3, hm⟩ := grd_s hm
  refine z_icmp_gt (tgt := 22) C dX1_sort_11 (by decide) g3 (by decide) (fun c4 => ?_) (fun c4 => ?_)
  · have hm := ite_t c4 hm
    cases hm
    exact c_vretP C h hr hlk dX1_sort_22
  · have hm := ite_f c4 hm
    refine z_aload_n C dX1_sort_14 rfl (lv_at hl 1 rfl) ?_
    refine lv_iload_n C.1 C.2.1 dX1_sort_15 rfl (lv_at hl 2 rfl) ?_
    obtain ⟨r5, e6, hm⟩ := obd_s hm
    refine c_callViP C hE h (sh_10 hS) rfl (by decide) (kc_Es_isSorted l D k z mi aK aV g N hS e6) (cwV 1 C.2.2.1 (gS_X1_63 _) rfl rfl rfl hd_X1_isSorted ⟨Nat.le_of_ble_eq_true rfl, Nat.le_of_ble_eq_true rfl⟩) rfl hl.1 rfl (Nat.le_of_ble_eq_true rfl) dX1_sort_16 ⟨(Nat.le_of_ble_eq_true rfl), (Nat.le_of_ble_eq_true rfl)⟩ (fun H locs h => ?_)
    obtain ⟨g9, hm⟩ := grd_s hm
    refine z_if_eq (tgt := 23) C dX1_sort_19 (by decide) g9 (fun c10 => ?_) (fun c10 => ?_)
    · have hm := ite_t c10 hm
      refine lv_iconst (v := Int32.ofInt 0) C.1 C.2.1 dX1_sort_23 (by decide) ?_
      refine lv_istore_n (lv' := [(3, .int (Int32.ofInt 0)), (2, .int (Int32.ofInt v1)), (0, rfv g 10), (1, .int (Int32.ofInt x1))]) C.1 C.2.1 dX1_sort_24 rfl hl (by decide) rfl (fun ls hl => ?_)
      exact kl_Es_sort_25 (N := N) C hr hlk hE hS N (lv_sub hl [2, 3, 1, 0] rfl) h hm
    · have hm := ite_f c10 hm
      cases hm
      exact c_vretP C h hr hlk dX1_sort_22
end Z_Es_sort
section Z_Es_rotateValues
variable {p : Program} {l : Launch} {e : Env} {s : State} {m : MethodId} {args : Array Value} {below : List Frame} {meth : Method} {c : Code} {D : va_G} {A : Nat → Prop} {k : Nat → ClassId} {N : Nat} {cd : Cond} {z mi : Nat} {aK aV : Nat → Nat} {g : Nat → Nat} {π : Sh}
set_option maxHeartbeats 8000000 in
set_option maxRecDepth 100000 in
theorem kl_Es_rotateValues_28 {r : St} (C : Cx p s m args c cX1_rotateValues RX1 (cd :: cWd) D (TYs k) 5) (hr : meth.sig.returnType = none) (hlk : meth.locks = false) (hE : Ev z mi aK aV A s s.heap) (hS : SHs π)    (n : Nat) : ∀ {ls : Array Slot} {H : Heap} {locs : List Loc} {σ : St} {x1 : Int} {x2 : Int} {x3 : Int} {x4 : Int}, lv_has ls 5 [(0, rfv g 10), (1, .int (Int32.ofInt x1)), (2, .int (Int32.ofInt x2)), (3, .int (Int32.ofInt x3)), (4, .int (Int32.ofInt x4))] → Hp D A s.heap H locs (cW k z g π σ) → Es_rotateValues_28 N π n σ x1 x2 x3 x4 = some r → W p l e { frames := 1, cells := 0, slots := 0, locals := 23 } s m args below meth c H locs 0 0 (MQ below (va_Qv (fun (_ : Unit) => True) (fun _ t => PostW D (TYs k) A (cW k z g π r) t) A) args s 0 0 A) (F0 m 28 ls []) := by
  induction n with
  | zero => intro ls H locs σ x1 x2 x3 x4  hl h hm; cases (show none = some r from hm)
  | succ n hrec28 =>
    intro ls H locs σ x1 x2 x3 x4  hl h hm
    rw [Es_rotateValues_28] at hm
    refine lv_iload C.1 C.2.1 dX1_rotateValues_28 (lv_at hl 4 rfl) ?_
    refine lv_iload_n C.1 C.2.1 dX1_rotateValues_30 rfl (lv_at hl 3 rfl) ?_
    obtain ⟨g10, hm⟩ := grd_s hm
    obtain ⟨g11, hm⟩ := grd_s hm
    refine z_icmp_ge (tgt := 54) C dX1_rotateValues_31 (by decide) g10 g11 (fun c12 => ?_) (fun c12 => ?_)
    · have hm := ite_f c12 hm
      cases hm
      exact c_vretP C h hr hlk dX1_rotateValues_54
    · have hm := ite_t c12 hm
      refine z_aload_n C dX1_rotateValues_34 rfl (lv_at hl 0 rfl) ?_
      refine lv_iload_n C.1 C.2.1 dX1_rotateValues_35 rfl (lv_at hl 1 rfl) ?_
      refine lv_iload C.1 C.2.1 dX1_rotateValues_36 (lv_at hl 4 rfl) ?_
      refine z_iadd C dX1_rotateValues_38 ?_
      refine lv_iload C.1 C.2.1 dX1_rotateValues_39 (lv_at hl 4 rfl) ?_
      refine lv_iload_n C.1 C.2.1 dX1_rotateValues_41 rfl (lv_at hl 2 rfl) ?_
      refine z_iadd C dX1_rotateValues_42 ?_
      refine lv_iload_n C.1 C.2.1 dX1_rotateValues_43 rfl (lv_at hl 3 rfl) ?_
      obtain ⟨g13, hm⟩ := grd_s hm
      obtain ⟨g14, hm⟩ := grd_s hm
      refine z_irem C dX1_rotateValues_44 g13 g11 g14 ?_
      obtain ⟨r15, e16, hm⟩ := obd_s hm
      refine c_callVvP C hE h (sh_10 hS) rfl (by decide) (kc_Es_takeValue l D k z mi aK aV g N hS e16) (cwV 2 C.2.2.1 (gS_X1_75 _) rfl rfl rfl hd_X1_takeValue ⟨Nat.le_of_ble_eq_true rfl, Nat.le_of_ble_eq_true rfl⟩) rfl hl.1 rfl (Nat.le_of_ble_eq_true rfl) dX1_rotateValues_45 ⟨(Nat.le_of_ble_eq_true rfl), (Nat.le_of_ble_eq_true rfl)⟩ (fun H locs h => ?_)
      refine lv_iinc (v := Int32.ofInt (x4 + 1)) (lv' := [(4, .int (Int32.ofInt (x4 + 1))), (0, rfv g 10), (1, .int (Int32.ofInt x1)), (2, .int (Int32.ofInt x2)), (3, .int (Int32.ofInt x3))]) C.1 C.2.1 dX1_rotateValues_48 hl (k := 4) rfl (c32_add _ _) (by decide) rfl (fun ls hl => ?_)
      refine lv_goto (tgt := 28) C.1 C.2.1 dX1_rotateValues_51 (by decide) ?_
      exact hrec28 (lv_sub hl [1, 2, 3, 4, 0] rfl) h hm
set_option maxHeartbeats 8000000 in
set_option maxRecDepth 100000 in
theorem kc_Es_rotateValues (l : Launch) (D : va_G) (k : Nat → ClassId) (z mi : Nat) (aK aV : Nat → Nat) (g : Nat → Nat) (N : Nat)    {π : Sh} {σ : St} {x1 : Int} {x2 : Int} {r : St} (hS : SHs π) (hm : Es_rotateValues N π σ x1 x2 = some r) : Mv l yX1_rotateValues (.code yX1_rotateValues cX1_rotateValues 5 none :: cWd) { frames := 1, cells := 0, slots := 0, locals := 23 } [rfv g 10, .int (Int32.ofInt x1), .int (Int32.ofInt x2)] D (TYs k) (cW k z g π σ) (XV z mi aK aV (cW k z g π σ)) Unit (fun _ => True) (fun _ => cW k z g π r) 0 0 := by
  intro sz
  refine v_met (cc := cX1_rotateValues) (maxL := 5) (ret := none) (lv := [(0, rfv g 10), (1, .int (Int32.ofInt x1)), (2, .int (Int32.ofInt x2))]) (by decide) rfl (by simp [lg_sl, rfv_cat, cat_i, cat_l]) (by simp [lv_args, rfv_cat, cat_i, cat_l]) ?_
  intro p e s m below meth c ls C hE hr hlk hmn hl h
  rw [Es_rotateValues] at hm
  refine z_aload_n C dX1_rotateValues_0 rfl (lv_at hl 0 rfl) ?_
  refine cg_2_6 C h (sh_10 hS) cU_X1 (List.mem_cons_of_mem _ wl_X1_30) dX1_rotateValues_1 ?_
  refine lv_iload_n C.1 C.2.1 dX1_rotateValues_4 rfl (lv_at hl 1 rfl) ?_
  refine z_isub C dX1_rotateValues_5 ?_
  obtain ⟨v1, e2, hm⟩ := bnd_s hm
  rw [e2]
  refine lv_istore_n (lv' := [(3, .int (Int32.ofInt v1)), (0, rfv g 10), (1, .int (Int32.ofInt x1)), (2, .int (Int32.ofInt x2))]) C.1 C.2.1 dX1_rotateValues_6 rfl hl (by decide) rfl (fun ls hl => ?_)
  refine lv_iload_n C.1 C.2.1 dX1_rotateValues_7 rfl (lv_at hl 0 rfl) ?_
  obtain ⟨g3, hm⟩ := grd_s hm
  refine z_if_eq (tgt := 18) C dX1_rotateValues_8 (by decide) g3 (fun c4 => ?_) (fun c4 => ?_)
  · have hm := ite_t c4 hm
    cases hm
    exact c_vretP C h hr hlk dX1_rotateValues_18
  · have hm := ite_f c4 hm
    refine lv_iload_n C.1 C.2.1 dX1_rotateValues_11 rfl (lv_at hl 0 rfl) ?_
    refine lv_sipush (v := Int32.ofInt 1024) C.1 C.2.1 dX1_rotateValues_12 (by decide) ?_
    refine z_icmp_le (tgt := 19) C dX1_rotateValues_15 (by decide) g3 (by decide) (fun c5 => ?_) (fun c5 => ?_)
    · have hm := ite_f c5 hm
      refine z_aload_n C dX1_rotateValues_19 rfl (lv_at hl 1 rfl) ?_
      refine lv_iload_n C.1 C.2.1 dX1_rotateValues_20 rfl (lv_at hl 2 rfl) ?_
      refine lv_iload_n C.1 C.2.1 dX1_rotateValues_21 rfl (lv_at hl 0 rfl) ?_
      obtain ⟨r6, e7, hm⟩ := obd_s hm
      refine c_callVvP C hE h (sh_10 hS) rfl (by decide) (kc_Es_copyToSpare l D k z mi aK aV g N hS e7) (cwV 2 C.2.2.1 (gS_X1_72 _) rfl rfl rfl hd_X1_copyToSpare ⟨Nat.le_of_ble_eq_true rfl, Nat.le_of_ble_eq_true rfl⟩) rfl hl.1 rfl (Nat.le_of_ble_eq_true rfl) dX1_rotateValues_22 ⟨(Nat.le_of_ble_eq_true rfl), (Nat.le_of_ble_eq_true rfl)⟩ (fun H locs h => ?_)
      refine lv_iconst (v := Int32.ofInt 0) C.1 C.2.1 dX1_rotateValues_25 (by decide) ?_
      refine lv_istore (lv' := [(4, .int (Int32.ofInt 0)), (3, .int (Int32.ofInt v1)), (0, rfv g 10), (1, .int (Int32.ofInt x1)), (2, .int (Int32.ofInt x2))]) C.1 C.2.1 dX1_rotateValues_26 hl (by decide) rfl (fun ls hl => ?_)
      exact kl_Es_rotateValues_28 (N := N) C hr hlk hE hS N (lv_sub hl [2, 3, 4, 1, 0] rfl) h hm
    · have hm := ite_t c5 hm
      cases hm
      exact c_vretP C h hr hlk dX1_rotateValues_18
end Z_Es_rotateValues
section Z_Ka_move
variable {p : Program} {l : Launch} {e : Env} {s : State} {m : MethodId} {args : Array Value} {below : List Frame} {meth : Method} {c : Code} {D : va_G} {A : Nat → Prop} {k : Nat → ClassId} {N : Nat} {cd : Cond} {z mi : Nat} {aK aV : Nat → Nat} {g : Nat → Nat} {π : Sh}
set_option maxHeartbeats 8000000 in
set_option maxRecDepth 100000 in
theorem kc_Ka_move (l : Launch) (D : va_G) (k : Nat → ClassId) (z mi : Nat) (aK aV : Nat → Nat) (g : Nat → Nat) (N : Nat)    {π : Sh} {σ : St} {x1 : Int} {x2 : Int} {r : St} (hS : SHs π) (hm : Ka_move N π σ x1 x2 = some r) : Mv l yX2_move (.code yX2_move cX2_move 3 none :: cWd) { frames := 0, cells := 0, slots := 0, locals := 0 } [rfv g 24, .int (Int32.ofInt x1), .int (Int32.ofInt x2)] D (TYs k) (cW k z g π σ) (XV z mi aK aV (cW k z g π σ)) Unit (fun _ => True) (fun _ => cW k z g π r) 0 0 := by
  intro sz
  refine v_met (cc := cX2_move) (maxL := 3) (ret := none) (lv := [(0, rfv g 24), (1, .int (Int32.ofInt x1)), (2, .int (Int32.ofInt x2))]) (by decide) rfl (by simp [lg_sl, rfv_cat, cat_i, cat_l]) (by simp [lv_args, rfv_cat, cat_i, cat_l]) ?_
  intro p e s m below meth c ls C hE hr hlk hmn hl h
  rw [Ka_move] at hm
  refine lv_iload_n C.1 C.2.1 dX2_move_0 rfl (lv_at hl 2 rfl) ?_
  refine lv_sipush (v := Int32.ofInt 400) C.1 C.2.1 dX2_move_1 (by decide) ?_
  obtain ⟨g1, hm⟩ := grd_s hm
  refine z_icmp_lt (tgt := 8) C dX2_move_4 (by decide) g1 (by decide) (fun c2 => ?_) (fun c2 => ?_)
  · have hm := ite_t c2 hm
    refine z_aload_n C dX2_move_8 rfl (lv_at hl 0 rfl) ?_
    refine cg_3_0_24 C h (sh_24 hS) cU_X2 (List.mem_cons_of_mem _ wl_X2_11) dX2_move_9 ?_
    refine lv_iload_n C.1 C.2.1 dX2_move_12 rfl (lv_at hl 2 rfl) ?_
    refine z_aload_n C dX2_move_13 rfl (lv_at hl 0 rfl) ?_
    refine cg_3_0_24 C h (sh_24 hS) cU_X2 (List.mem_cons_of_mem _ wl_X2_11) dX2_move_14 ?_
    refine lv_iload_n C.1 C.2.1 dX2_move_17 rfl (lv_at hl 1 rfl) ?_
    obtain ⟨g3, hm⟩ := grd_s hm
    refine c_iald C h (sh_25 hS) (ina_inb (n := 400) (sl_25 hS) (Nat.le_of_ble_eq_true rfl) g3) dX2_move_18 ?_
    obtain ⟨g4, hm⟩ := grd_s hm
    refine c_iast C h (sh_25 hS) (ina_inb (n := 400) (sl_25 hS) (Nat.le_of_ble_eq_true rfl) g4) dX2_move_19 (fun H locs h => ?_)
    refine z_aload_n C dX2_move_20 rfl (lv_at hl 0 rfl) ?_
    refine cg_3_1_24 C h (sh_24 hS) cU_X2 (List.mem_cons_of_mem _ wl_X2_15) dX2_move_21 ?_
    refine lv_iload_n C.1 C.2.1 dX2_move_24 rfl (lv_at hl 2 rfl) ?_
    refine z_aload_n C dX2_move_25 rfl (lv_at hl 0 rfl) ?_
    refine cg_3_1_24 C h (sh_24 hS) cU_X2 (List.mem_cons_of_mem _ wl_X2_15) dX2_move_26 ?_
    refine lv_iload_n C.1 C.2.1 dX2_move_29 rfl (lv_at hl 1 rfl) ?_
    refine c_iald C h (sh_26 hS) (ina_inb (n := 400) (sl_26 hS) (Nat.le_of_ble_eq_true rfl) g3) dX2_move_30 ?_
    refine x_topi (y := Int32.ofInt (el σ 26 x1)) (by simp [fl, el, se, sf]) ?_
    refine c_iast C h (sh_26 hS) (ina_inb (n := 400) (sl_26 hS) (Nat.le_of_ble_eq_true rfl) g4) dX2_move_31 (fun H locs h => ?_)
    refine z_aload_n C dX2_move_32 rfl (lv_at hl 0 rfl) ?_
    refine cg_3_2_24 C h (sh_24 hS) cU_X2 (List.mem_cons_of_mem _ wl_X2_18) dX2_move_33 ?_
    refine lv_iload_n C.1 C.2.1 dX2_move_36 rfl (lv_at hl 2 rfl) ?_
    refine z_aload_n C dX2_move_37 rfl (lv_at hl 0 rfl) ?_
    refine cg_3_2_24 C h (sh_24 hS) cU_X2 (List.mem_cons_of_mem _ wl_X2_18) dX2_move_38 ?_
    refine lv_iload_n C.1 C.2.1 dX2_move_41 rfl (lv_at hl 1 rfl) ?_
    refine c_lald C h (sh_27 hS) (ina_inb (n := 400) (sl_27 hS) (Nat.le_of_ble_eq_true rfl) g3) dX2_move_42 ?_
    refine x_topl (y := Int64.ofInt (el σ 27 x1)) (by simp [fl, el, se, sf]) ?_
    refine c_last C h (sh_27 hS) (ina_inb (n := 400) (sl_27 hS) (Nat.le_of_ble_eq_true rfl) g4) dX2_move_43 (fun H locs h => ?_)
    refine z_aload_n C dX2_move_44 rfl (lv_at hl 0 rfl) ?_
    refine cg_3_3_24 C h (sh_24 hS) cU_X2 (List.mem_cons_of_mem _ wl_X2_22) dX2_move_45 ?_
    refine lv_iload_n C.1 C.2.1 dX2_move_48 rfl (lv_at hl 2 rfl) ?_
    refine z_aload_n C dX2_move_49 rfl (lv_at hl 0 rfl) ?_
    refine cg_3_3_24 C h (sh_24 hS) cU_X2 (List.mem_cons_of_mem _ wl_X2_22) dX2_move_50 ?_
    refine lv_iload_n C.1 C.2.1 dX2_move_53 rfl (lv_at hl 1 rfl) ?_
    refine c_lald C h (sh_28 hS) (ina_inb (n := 400) (sl_28 hS) (Nat.le_of_ble_eq_true rfl) g3) dX2_move_54 ?_
    refine x_topl (y := Int64.ofInt (el σ 28 x1)) (by simp [fl, el, se, sf]) ?_
    refine c_last C h (sh_28 hS) (ina_inb (n := 400) (sl_28 hS) (Nat.le_of_ble_eq_true rfl) g4) dX2_move_55 (fun H locs h => ?_)
    refine z_aload_n C dX2_move_56 rfl (lv_at hl 0 rfl) ?_
    refine cg_3_4_24 C h (sh_24 hS) cU_X2 (List.mem_cons_of_mem _ wl_X2_25) dX2_move_57 ?_
    refine lv_iload_n C.1 C.2.1 dX2_move_60 rfl (lv_at hl 2 rfl) ?_
    refine z_aload_n C dX2_move_61 rfl (lv_at hl 0 rfl) ?_
    refine cg_3_4_24 C h (sh_24 hS) cU_X2 (List.mem_cons_of_mem _ wl_X2_25) dX2_move_62 ?_
    refine lv_iload_n C.1 C.2.1 dX2_move_65 rfl (lv_at hl 1 rfl) ?_
    refine c_lald C h (sh_29 hS) (ina_inb (n := 400) (sl_29 hS) (Nat.le_of_ble_eq_true rfl) g3) dX2_move_66 ?_
    refine x_topl (y := Int64.ofInt (el σ 29 x1)) (by simp [fl, el, se, sf]) ?_
    refine c_last C h (sh_29 hS) (ina_inb (n := 400) (sl_29 hS) (Nat.le_of_ble_eq_true rfl) g4) dX2_move_67 (fun H locs h => ?_)
    refine z_aload_n C dX2_move_68 rfl (lv_at hl 0 rfl) ?_
    refine cg_3_5_24 C h (sh_24 hS) cU_X2 (List.mem_cons_of_mem _ wl_X2_28) dX2_move_69 ?_
    refine lv_iload_n C.1 C.2.1 dX2_move_72 rfl (lv_at hl 2 rfl) ?_
    refine z_aload_n C dX2_move_73 rfl (lv_at hl 0 rfl) ?_
    refine cg_3_5_24 C h (sh_24 hS) cU_X2 (List.mem_cons_of_mem _ wl_X2_28) dX2_move_74 ?_
    refine lv_iload_n C.1 C.2.1 dX2_move_77 rfl (lv_at hl 1 rfl) ?_
    refine c_lald C h (sh_30 hS) (ina_inb (n := 400) (sl_30 hS) (Nat.le_of_ble_eq_true rfl) g3) dX2_move_78 ?_
    refine x_topl (y := Int64.ofInt (el σ 30 x1)) (by simp [fl, el, se, sf]) ?_
    refine c_last C h (sh_30 hS) (ina_inb (n := 400) (sl_30 hS) (Nat.le_of_ble_eq_true rfl) g4) dX2_move_79 (fun H locs h => ?_)
    refine z_aload_n C dX2_move_80 rfl (lv_at hl 0 rfl) ?_
    refine cg_3_6_24 C h (sh_24 hS) cU_X2 (List.mem_cons_of_mem _ wl_X2_31) dX2_move_81 ?_
    refine lv_iload_n C.1 C.2.1 dX2_move_84 rfl (lv_at hl 2 rfl) ?_
    refine z_aload_n C dX2_move_85 rfl (lv_at hl 0 rfl) ?_
    refine cg_3_6_24 C h (sh_24 hS) cU_X2 (List.mem_cons_of_mem _ wl_X2_31) dX2_move_86 ?_
    refine lv_iload_n C.1 C.2.1 dX2_move_89 rfl (lv_at hl 1 rfl) ?_
    refine c_iald C h (sh_31 hS) (ina_inb (n := 400) (sl_31 hS) (Nat.le_of_ble_eq_true rfl) g3) dX2_move_90 ?_
    refine x_topi (y := Int32.ofInt (el σ 31 x1)) (by simp [fl, el, se, sf]) ?_
    refine c_iast C h (sh_31 hS) (ina_inb (n := 400) (sl_31 hS) (Nat.le_of_ble_eq_true rfl) g4) dX2_move_91 (fun H locs h => ?_)
    refine z_aload_n C dX2_move_92 rfl (lv_at hl 0 rfl) ?_
    refine cg_3_7_24 C h (sh_24 hS) cU_X2 (List.mem_cons_of_mem _ wl_X2_34) dX2_move_93 ?_
    refine lv_iload_n C.1 C.2.1 dX2_move_96 rfl (lv_at hl 2 rfl) ?_
    refine z_aload_n C dX2_move_97 rfl (lv_at hl 0 rfl) ?_
    refine cg_3_7_24 C h (sh_24 hS) cU_X2 (List.mem_cons_of_mem _ wl_X2_34) dX2_move_98 ?_
    refine lv_iload_n C.1 C.2.1 dX2_move_101 rfl (lv_at hl 1 rfl) ?_
    refine c_zald C h (sh_32 hS) (ina_inb (n := 400) (sl_32 hS) (Nat.le_of_ble_eq_true rfl) g3) dX2_move_102 ?_
    refine x_topi (y := Int32.ofInt (el σ 32 x1)) (by simp [fl, el, se, sf]) ?_
    obtain ⟨g5, hm⟩ := grd_s hm
    refine c_zast C h (sh_32 hS) (ina_inb (n := 400) (sl_32 hS) (Nat.le_of_ble_eq_true rfl) g4) g5 dX2_move_103 (fun H locs h => ?_)
    cases hm
    exact c_vretP C h hr hlk dX2_move_104
  · have hm := ite_f c2 hm
    cases hm
    exact c_vretP C h hr hlk dX2_move_7
end Z_Ka_move
section Z_Kh_move
variable {p : Program} {l : Launch} {e : Env} {s : State} {m : MethodId} {args : Array Value} {below : List Frame} {meth : Method} {c : Code} {D : va_G} {A : Nat → Prop} {k : Nat → ClassId} {N : Nat} {cd : Cond} {z mi : Nat} {aK aV : Nat → Nat} {g : Nat → Nat} {π : Sh}
set_option maxHeartbeats 8000000 in
set_option maxRecDepth 100000 in
theorem kc_Kh_move (l : Launch) (D : va_G) (k : Nat → ClassId) (z mi : Nat) (aK aV : Nat → Nat) (g : Nat → Nat) (N : Nat)    {π : Sh} {σ : St} {x1 : Int} {x2 : Int} {r : St} (hS : SHs π) (hm : Kh_move N π σ x1 x2 = some r) : Mv l yX2_move (.code yX2_move cX2_move 3 none :: cWd) { frames := 0, cells := 0, slots := 0, locals := 0 } [rfv g 33, .int (Int32.ofInt x1), .int (Int32.ofInt x2)] D (TYs k) (cW k z g π σ) (XV z mi aK aV (cW k z g π σ)) Unit (fun _ => True) (fun _ => cW k z g π r) 0 0 := by
  intro sz
  refine v_met (cc := cX2_move) (maxL := 3) (ret := none) (lv := [(0, rfv g 33), (1, .int (Int32.ofInt x1)), (2, .int (Int32.ofInt x2))]) (by decide) rfl (by simp [lg_sl, rfv_cat, cat_i, cat_l]) (by simp [lv_args, rfv_cat, cat_i, cat_l]) ?_
  intro p e s m below meth c ls C hE hr hlk hmn hl h
  rw [Kh_move] at hm
  refine lv_iload_n C.1 C.2.1 dX2_move_0 rfl (lv_at hl 2 rfl) ?_
  refine lv_sipush (v := Int32.ofInt 400) C.1 C.2.1 dX2_move_1 (by decide) ?_
  obtain ⟨g1, hm⟩ := grd_s hm
  refine z_icmp_lt (tgt := 8) C dX2_move_4 (by decide) g1 (by decide) (fun c2 => ?_) (fun c2 => ?_)
  · have hm := ite_t c2 hm
    refine z_aload_n C dX2_move_8 rfl (lv_at hl 0 rfl) ?_
    refine cg_3_0_33 C h (sh_33 hS) cU_X2 (List.mem_cons_of_mem _ wl_X2_11) dX2_move_9 ?_
    refine lv_iload_n C.1 C.2.1 dX2_move_12 rfl (lv_at hl 2 rfl) ?_
    refine z_aload_n C dX2_move_13 rfl (lv_at hl 0 rfl) ?_
    refine cg_3_0_33 C h (sh_33 hS) cU_X2 (List.mem_cons_of_mem _ wl_X2_11) dX2_move_14 ?_
    refine lv_iload_n C.1 C.2.1 dX2_move_17 rfl (lv_at hl 1 rfl) ?_
    obtain ⟨g3, hm⟩ := grd_s hm
    refine c_iald C h (sh_34 hS) (ina_inb (n := 400) (sl_34 hS) (Nat.le_of_ble_eq_true rfl) g3) dX2_move_18 ?_
    obtain ⟨g4, hm⟩ := grd_s hm
    refine c_iast C h (sh_34 hS) (ina_inb (n := 400) (sl_34 hS) (Nat.le_of_ble_eq_true rfl) g4) dX2_move_19 (fun H locs h => ?_)
    refine z_aload_n C dX2_move_20 rfl (lv_at hl 0 rfl) ?_
    refine cg_3_1_33 C h (sh_33 hS) cU_X2 (List.mem_cons_of_mem _ wl_X2_15) dX2_move_21 ?_
    refine lv_iload_n C.1 C.2.1 dX2_move_24 rfl (lv_at hl 2 rfl) ?_
    refine z_aload_n C dX2_move_25 rfl (lv_at hl 0 rfl) ?_
    refine cg_3_1_33 C h (sh_33 hS) cU_X2 (List.mem_cons_of_mem _ wl_X2_15) dX2_move_26 ?_
    refine lv_iload_n C.1 C.2.1 dX2_move_29 rfl (lv_at hl 1 rfl) ?_
    refine c_iald C h (sh_35 hS) (ina_inb (n := 400) (sl_35 hS) (Nat.le_of_ble_eq_true rfl) g3) dX2_move_30 ?_
    refine x_topi (y := Int32.ofInt (el σ 35 x1)) (by simp [fl, el, se, sf]) ?_
    refine c_iast C h (sh_35 hS) (ina_inb (n := 400) (sl_35 hS) (Nat.le_of_ble_eq_true rfl) g4) dX2_move_31 (fun H locs h => ?_)
    refine z_aload_n C dX2_move_32 rfl (lv_at hl 0 rfl) ?_
    refine cg_3_2_33 C h (sh_33 hS) cU_X2 (List.mem_cons_of_mem _ wl_X2_18) dX2_move_33 ?_
    refine lv_iload_n C.1 C.2.1 dX2_move_36 rfl (lv_at hl 2 rfl) ?_
    refine z_aload_n C dX2_move_37 rfl (lv_at hl 0 rfl) ?_
    refine cg_3_2_33 C h (sh_33 hS) cU_X2 (List.mem_cons_of_mem _ wl_X2_18) dX2_move_38 ?_
    refine lv_iload_n C.1 C.2.1 dX2_move_41 rfl (lv_at hl 1 rfl) ?_
    refine c_lald C h (sh_36 hS) (ina_inb (n := 400) (sl_36 hS) (Nat.le_of_ble_eq_true rfl) g3) dX2_move_42 ?_
    refine x_topl (y := Int64.ofInt (el σ 36 x1)) (by simp [fl, el, se, sf]) ?_
    refine c_last C h (sh_36 hS) (ina_inb (n := 400) (sl_36 hS) (Nat.le_of_ble_eq_true rfl) g4) dX2_move_43 (fun H locs h => ?_)
    refine z_aload_n C dX2_move_44 rfl (lv_at hl 0 rfl) ?_
    refine cg_3_3_33 C h (sh_33 hS) cU_X2 (List.mem_cons_of_mem _ wl_X2_22) dX2_move_45 ?_
    refine lv_iload_n C.1 C.2.1 dX2_move_48 rfl (lv_at hl 2 rfl) ?_
    refine z_aload_n C dX2_move_49 rfl (lv_at hl 0 rfl) ?_
    refine cg_3_3_33 C h (sh_33 hS) cU_X2 (List.mem_cons_of_mem _ wl_X2_22) dX2_move_50 ?_
    refine lv_iload_n C.1 C.2.1 dX2_move_53 rfl (lv_at hl 1 rfl) ?_
    refine c_lald C h (sh_37 hS) (ina_inb (n := 400) (sl_37 hS) (Nat.le_of_ble_eq_true rfl) g3) dX2_move_54 ?_
    refine x_topl (y := Int64.ofInt (el σ 37 x1)) (by simp [fl, el, se, sf]) ?_
    refine c_last C h (sh_37 hS) (ina_inb (n := 400) (sl_37 hS) (Nat.le_of_ble_eq_true rfl) g4) dX2_move_55 (fun H locs h => ?_)
    refine z_aload_n C dX2_move_56 rfl (lv_at hl 0 rfl) ?_
    refine cg_3_4_33 C h (sh_33 hS) cU_X2 (List.mem_cons_of_mem _ wl_X2_25) dX2_move_57 ?_
    refine lv_iload_n C.1 C.2.1 dX2_move_60 rfl (lv_at hl 2 rfl) ?_
    refine z_aload_n C dX2_move_61 rfl (lv_at hl 0 rfl) ?_
    refine cg_3_4_33 C h (sh_33 hS) cU_X2 (List.mem_cons_of_mem _ wl_X2_25) dX2_move_62 ?_
    refine lv_iload_n C.1 C.2.1 dX2_move_65 rfl (lv_at hl 1 rfl) ?_
    refine c_lald C h (sh_38 hS) (ina_inb (n := 400) (sl_38 hS) (Nat.le_of_ble_eq_true rfl) g3) dX2_move_66 ?_
    refine x_topl (y := Int64.ofInt (el σ 38 x1)) (by simp [fl, el, se, sf]) ?_
    refine c_last C h (sh_38 hS) (ina_inb (n := 400) (sl_38 hS) (Nat.le_of_ble_eq_true rfl) g4) dX2_move_67 (fun H locs h => ?_)
    refine z_aload_n C dX2_move_68 rfl (lv_at hl 0 rfl) ?_
    refine cg_3_5_33 C h (sh_33 hS) cU_X2 (List.mem_cons_of_mem _ wl_X2_28) dX2_move_69 ?_
    refine lv_iload_n C.1 C.2.1 dX2_move_72 rfl (lv_at hl 2 rfl) ?_
    refine z_aload_n C dX2_move_73 rfl (lv_at hl 0 rfl) ?_
    refine cg_3_5_33 C h (sh_33 hS) cU_X2 (List.mem_cons_of_mem _ wl_X2_28) dX2_move_74 ?_
    refine lv_iload_n C.1 C.2.1 dX2_move_77 rfl (lv_at hl 1 rfl) ?_
    refine c_lald C h (sh_39 hS) (ina_inb (n := 400) (sl_39 hS) (Nat.le_of_ble_eq_true rfl) g3) dX2_move_78 ?_
    refine x_topl (y := Int64.ofInt (el σ 39 x1)) (by simp [fl, el, se, sf]) ?_
    refine c_last C h (sh_39 hS) (ina_inb (n := 400) (sl_39 hS) (Nat.le_of_ble_eq_true rfl) g4) dX2_move_79 (fun H locs h => ?_)
    refine z_aload_n C dX2_move_80 rfl (lv_at hl 0 rfl) ?_
    refine cg_3_6_33 C h (sh_33 hS) cU_X2 (List.mem_cons_of_mem _ wl_X2_31) dX2_move_81 ?_
    refine lv_iload_n C.1 C.2.1 dX2_move_84 rfl (lv_at hl 2 rfl) ?_
    refine z_aload_n C dX2_move_85 rfl (lv_at hl 0 rfl) ?_
    refine cg_3_6_33 C h (sh_33 hS) cU_X2 (List.mem_cons_of_mem _ wl_X2_31) dX2_move_86 ?_
    refine lv_iload_n C.1 C.2.1 dX2_move_89 rfl (lv_at hl 1 rfl) ?_
    refine c_iald C h (sh_40 hS) (ina_inb (n := 400) (sl_40 hS) (Nat.le_of_ble_eq_true rfl) g3) dX2_move_90 ?_
    refine x_topi (y := Int32.ofInt (el σ 40 x1)) (by simp [fl, el, se, sf]) ?_
    refine c_iast C h (sh_40 hS) (ina_inb (n := 400) (sl_40 hS) (Nat.le_of_ble_eq_true rfl) g4) dX2_move_91 (fun H locs h => ?_)
    refine z_aload_n C dX2_move_92 rfl (lv_at hl 0 rfl) ?_
    refine cg_3_7_33 C h (sh_33 hS) cU_X2 (List.mem_cons_of_mem _ wl_X2_34) dX2_move_93 ?_
    refine lv_iload_n C.1 C.2.1 dX2_move_96 rfl (lv_at hl 2 rfl) ?_
    refine z_aload_n C dX2_move_97 rfl (lv_at hl 0 rfl) ?_
    refine cg_3_7_33 C h (sh_33 hS) cU_X2 (List.mem_cons_of_mem _ wl_X2_34) dX2_move_98 ?_
    refine lv_iload_n C.1 C.2.1 dX2_move_101 rfl (lv_at hl 1 rfl) ?_
    refine c_zald C h (sh_41 hS) (ina_inb (n := 400) (sl_41 hS) (Nat.le_of_ble_eq_true rfl) g3) dX2_move_102 ?_
    refine x_topi (y := Int32.ofInt (el σ 41 x1)) (by simp [fl, el, se, sf]) ?_
    obtain ⟨g5, hm⟩ := grd_s hm
    refine c_zast C h (sh_41 hS) (ina_inb (n := 400) (sl_41 hS) (Nat.le_of_ble_eq_true rfl) g4) g5 dX2_move_103 (fun H locs h => ?_)
    cases hm
    exact c_vretP C h hr hlk dX2_move_104
  · have hm := ite_f c2 hm
    cases hm
    exact c_vretP C h hr hlk dX2_move_7
end Z_Kh_move
section Z_Ka_take
variable {p : Program} {l : Launch} {e : Env} {s : State} {m : MethodId} {args : Array Value} {below : List Frame} {meth : Method} {c : Code} {D : va_G} {A : Nat → Prop} {k : Nat → ClassId} {N : Nat} {cd : Cond} {z mi : Nat} {aK aV : Nat → Nat} {g : Nat → Nat} {π : Sh}
set_option maxHeartbeats 8000000 in
set_option maxRecDepth 100000 in
theorem kc_Ka_take (l : Launch) (D : va_G) (k : Nat → ClassId) (z mi : Nat) (aK aV : Nat → Nat) (g : Nat → Nat) (N : Nat)    {π : Sh} {σ : St} {x1 : Int} {x2 : Int} {x3 : Int} {r : St} (hS : SHs π) (hm : Ka_take N π σ x1 x2 x3 = some r) : Mv l yX2_take (.code yX2_take cX2_take 4 none :: cWd) { frames := 0, cells := 0, slots := 0, locals := 0 } [rfv g 24, rfv g x1, .int (Int32.ofInt x2), .int (Int32.ofInt x3)] D (TYs k) (cW k z g π σ) (XV z mi aK aV (cW k z g π σ)) Unit (fun _ => True) (fun _ => cW k z g π r) 0 0 := by
  intro sz
  refine v_met (cc := cX2_take) (maxL := 4) (ret := none) (lv := [(0, rfv g 24), (1, rfv g x1), (2, .int (Int32.ofInt x2)), (3, .int (Int32.ofInt x3))]) (by decide) rfl (by simp [lg_sl, rfv_cat, cat_i, cat_l]) (by simp [lv_args, rfv_cat, cat_i, cat_l]) ?_
  intro p e s m below meth c ls C hE hr hlk hmn hl h
  rw [Ka_take] at hm
  refine lv_iload_n C.1 C.2.1 dX2_take_0 rfl (lv_at hl 3 rfl) ?_
  refine lv_sipush (v := Int32.ofInt 400) C.1 C.2.1 dX2_take_1 (by decide) ?_
  obtain ⟨g1, hm⟩ := grd_s hm
  refine z_icmp_lt (tgt := 8) C dX2_take_4 (by decide) g1 (by decide) (fun c2 => ?_) (fun c2 => ?_)
  · have hm := ite_t c2 hm
    refine z_aload_n C dX2_take_8 rfl (lv_at hl 0 rfl) ?_
    refine cg_3_2_24 C h (sh_24 hS) cU_X2 (List.mem_cons_of_mem _ wl_X2_18) dX2_take_9 ?_
    refine lv_iload_n C.1 C.2.1 dX2_take_12 rfl (lv_at hl 3 rfl) ?_
    refine z_aload_n C dX2_take_13 rfl (lv_at hl 1 rfl) ?_
    obtain ⟨g3, hm⟩ := grd_s hm
    refine cg_2_0 C h g3 cU_X1 (List.mem_cons_of_mem _ wl_X2_47) dX2_take_14 ?_
    refine lv_iload_n C.1 C.2.1 dX2_take_17 rfl (lv_at hl 2 rfl) ?_
    obtain ⟨g4, hm⟩ := grd_s hm
    refine c_lald C h (sh_11 hS) (ina_inb (n := 6000) (sl_11 hS) (Nat.le_of_ble_eq_true rfl) g4) dX2_take_18 ?_
    obtain ⟨g5, hm⟩ := grd_s hm
    refine c_last C h (sh_27 hS) (ina_inb (n := 400) (sl_27 hS) (Nat.le_of_ble_eq_true rfl) g5) dX2_take_19 (fun H locs h => ?_)
    refine z_aload_n C dX2_take_20 rfl (lv_at hl 0 rfl) ?_
    refine cg_3_3_24 C h (sh_24 hS) cU_X2 (List.mem_cons_of_mem _ wl_X2_22) dX2_take_21 ?_
    refine lv_iload_n C.1 C.2.1 dX2_take_24 rfl (lv_at hl 3 rfl) ?_
    refine z_aload_n C dX2_take_25 rfl (lv_at hl 1 rfl) ?_
    refine cg_2_1 C h g3 cU_X1 (List.mem_cons_of_mem _ wl_X2_62) dX2_take_26 ?_
    refine lv_iload_n C.1 C.2.1 dX2_take_29 rfl (lv_at hl 2 rfl) ?_
    refine c_lald C h (sh_12 hS) (ina_inb (n := 6000) (sl_12 hS) (Nat.le_of_ble_eq_true rfl) g4) dX2_take_30 ?_
    refine x_topl (y := Int64.ofInt (el σ 12 x2)) (by simp [fl, el, se, sf]) ?_
    refine c_last C h (sh_28 hS) (ina_inb (n := 400) (sl_28 hS) (Nat.le_of_ble_eq_true rfl) g5) dX2_take_31 (fun H locs h => ?_)
    refine z_aload_n C dX2_take_32 rfl (lv_at hl 0 rfl) ?_
    refine cg_3_5_24 C h (sh_24 hS) cU_X2 (List.mem_cons_of_mem _ wl_X2_28) dX2_take_33 ?_
    refine lv_iload_n C.1 C.2.1 dX2_take_36 rfl (lv_at hl 3 rfl) ?_
    refine z_aload_n C dX2_take_37 rfl (lv_at hl 1 rfl) ?_
    refine cg_2_2 C h g3 cU_X1 (List.mem_cons_of_mem _ wl_X2_63) dX2_take_38 ?_
    refine lv_iload_n C.1 C.2.1 dX2_take_41 rfl (lv_at hl 2 rfl) ?_
    refine c_lald C h (sh_13 hS) (ina_inb (n := 6000) (sl_13 hS) (Nat.le_of_ble_eq_true rfl) g4) dX2_take_42 ?_
    refine x_topl (y := Int64.ofInt (el σ 13 x2)) (by simp [fl, el, se, sf]) ?_
    refine c_last C h (sh_30 hS) (ina_inb (n := 400) (sl_30 hS) (Nat.le_of_ble_eq_true rfl) g5) dX2_take_43 (fun H locs h => ?_)
    refine z_aload_n C dX2_take_44 rfl (lv_at hl 0 rfl) ?_
    refine cg_3_6_24 C h (sh_24 hS) cU_X2 (List.mem_cons_of_mem _ wl_X2_31) dX2_take_45 ?_
    refine lv_iload_n C.1 C.2.1 dX2_take_48 rfl (lv_at hl 3 rfl) ?_
    refine z_aload_n C dX2_take_49 rfl (lv_at hl 1 rfl) ?_
    refine cg_2_3 C h g3 cU_X1 (List.mem_cons_of_mem _ wl_X2_64) dX2_take_50 ?_
    refine lv_iload_n C.1 C.2.1 dX2_take_53 rfl (lv_at hl 2 rfl) ?_
    refine c_iald C h (sh_14 hS) (ina_inb (n := 6000) (sl_14 hS) (Nat.le_of_ble_eq_true rfl) g4) dX2_take_54 ?_
    refine x_topi (y := Int32.ofInt (el σ 14 x2)) (by simp [fl, el, se, sf]) ?_
    refine c_iast C h (sh_31 hS) (ina_inb (n := 400) (sl_31 hS) (Nat.le_of_ble_eq_true rfl) g5) dX2_take_55 (fun H locs h => ?_)
    refine z_aload_n C dX2_take_56 rfl (lv_at hl 0 rfl) ?_
    refine cg_3_7_24 C h (sh_24 hS) cU_X2 (List.mem_cons_of_mem _ wl_X2_34) dX2_take_57 ?_
    refine lv_iload_n C.1 C.2.1 dX2_take_60 rfl (lv_at hl 3 rfl) ?_
    refine z_aload_n C dX2_take_61 rfl (lv_at hl 1 rfl) ?_
    refine cg_2_4 C h g3 cU_X1 (List.mem_cons_of_mem _ wl_X2_65) dX2_take_62 ?_
    refine lv_iload_n C.1 C.2.1 dX2_take_65 rfl (lv_at hl 2 rfl) ?_
    refine c_zald C h (sh_15 hS) (ina_inb (n := 6000) (sl_15 hS) (Nat.le_of_ble_eq_true rfl) g4) dX2_take_66 ?_
    refine x_topi (y := Int32.ofInt (el σ 15 x2)) (by simp [fl, el, se, sf]) ?_
    obtain ⟨g6, hm⟩ := grd_s hm
    refine c_zast C h (sh_32 hS) (ina_inb (n := 400) (sl_32 hS) (Nat.le_of_ble_eq_true rfl) g5) g6 dX2_take_67 (fun H locs h => ?_)
    cases hm
    exact c_vretP C h hr hlk dX2_take_68
  · have hm := ite_f c2 hm
    cases hm
    exact c_vretP C h hr hlk dX2_take_7
end Z_Ka_take
section Z_Kh_take
variable {p : Program} {l : Launch} {e : Env} {s : State} {m : MethodId} {args : Array Value} {below : List Frame} {meth : Method} {c : Code} {D : va_G} {A : Nat → Prop} {k : Nat → ClassId} {N : Nat} {cd : Cond} {z mi : Nat} {aK aV : Nat → Nat} {g : Nat → Nat} {π : Sh}
set_option maxHeartbeats 8000000 in
set_option maxRecDepth 100000 in
theorem kc_Kh_take (l : Launch) (D : va_G) (k : Nat → ClassId) (z mi : Nat) (aK aV : Nat → Nat) (g : Nat → Nat) (N : Nat)    {π : Sh} {σ : St} {x1 : Int} {x2 : Int} {x3 : Int} {r : St} (hS : SHs π) (hm : Kh_take N π σ x1 x2 x3 = some r) : Mv l yX2_take (.code yX2_take cX2_take 4 none :: cWd) { frames := 0, cells := 0, slots := 0, locals := 0 } [rfv g 33, rfv g x1, .int (Int32.ofInt x2), .int (Int32.ofInt x3)] D (TYs k) (cW k z g π σ) (XV z mi aK aV (cW k z g π σ)) Unit (fun _ => True) (fun _ => cW k z g π r) 0 0 := by
  intro sz
  refine v_met (cc := cX2_take) (maxL := 4) (ret := none) (lv := [(0, rfv g 33), (1, rfv g x1), (2, .int (Int32.ofInt x2)), (3, .int (Int32.ofInt x3))]) (by decide) rfl (by simp [lg_sl, rfv_cat, cat_i, cat_l]) (by simp [lv_args, rfv_cat, cat_i, cat_l]) ?_
  intro p e s m below meth c ls C hE hr hlk hmn hl h
  rw [Kh_take] at hm
  refine lv_iload_n C.1 C.2.1 dX2_take_0 rfl (lv_at hl 3 rfl) ?_
  refine lv_sipush (v := Int32.ofInt 400) C.1 C.2.1 dX2_take_1 (by decide) ?_
  obtain ⟨g1, hm⟩ := grd_s hm
  refine z_icmp_lt (tgt := 8) C dX2_take_4 (by decide) g1 (by decide) (fun c2 => ?_) (fun c2 => ?_)
  · have hm := ite_t c2 hm
    refine z_aload_n C dX2_take_8 rfl (lv_at hl 0 rfl) ?_
    refine cg_3_2_33 C h (sh_33 hS) cU_X2 (List.mem_cons_of_mem _ wl_X2_18) dX2_take_9 ?_
    refine lv_iload_n C.1 C.2.1 dX2_take_12 rfl (lv_at hl 3 rfl) ?_
    refine z_aload_n C dX2_take_13 rfl (lv_at hl 1 rfl) ?_
    obtain ⟨g3, hm⟩ := grd_s hm
    refine cg_2_0 C h g3 cU_X1 (List.mem_cons_of_mem _ wl_X2_47) dX2_take_14 ?_
    refine lv_iload_n C.1 C.2.1 dX2_take_17 rfl (lv_at hl 2 rfl) ?_
    obtain ⟨g4, hm⟩ := grd_s hm
    refine c_lald C h (sh_11 hS) (ina_inb (n := 6000) (sl_11 hS) (Nat.le_of_ble_eq_true rfl) g4) dX2_take_18 ?_
    obtain ⟨g5, hm⟩ := grd_s hm
    refine c_last C h (sh_36 hS) (ina_inb (n := 400) (sl_36 hS) (Nat.le_of_ble_eq_true rfl) g5) dX2_take_19 (fun H locs h => ?_)
    refine z_aload_n C dX2_take_20 rfl (lv_at hl 0 rfl) ?_
    refine cg_3_3_33 C h (sh_33 hS) cU_X2 (List.mem_cons_of_mem _ wl_X2_22) dX2_take_21 ?_
    refine lv_iload_n C.1 C.2.1 dX2_take_24 rfl (lv_at hl 3 rfl) ?_
    refine z_aload_n C dX2_take_25 rfl (lv_at hl 1 rfl) ?_
    refine cg_2_1 C h g3 cU_X1 (List.mem_cons_of_mem _ wl_X2_62) dX2_take_26 ?_
    refine lv_iload_n C.1 C.2.1 dX2_take_29 rfl (lv_at hl 2 rfl) ?_
    refine c_lald C h (sh_12 hS) (ina_inb (n := 6000) (sl_12 hS) (Nat.le_of_ble_eq_true rfl) g4) dX2_take_30 ?_
    refine x_topl (y := Int64.ofInt (el σ 12 x2)) (by simp [fl, el, se, sf]) ?_
    refine c_last C h (sh_37 hS) (ina_inb (n := 400) (sl_37 hS) (Nat.le_of_ble_eq_true rfl) g5) dX2_take_31 (fun H locs h => ?_)
    refine z_aload_n C dX2_take_32 rfl (lv_at hl 0 rfl) ?_
    refine cg_3_5_33 C h (sh_33 hS) cU_X2 (List.mem_cons_of_mem _ wl_X2_28) dX2_take_33 ?_
    refine lv_iload_n C.1 C.2.1 dX2_take_36 rfl (lv_at hl 3 rfl) ?_
    refine z_aload_n C dX2_take_37 rfl (lv_at hl 1 rfl) ?_
    refine cg_2_2 C h g3 cU_X1 (List.mem_cons_of_mem _ wl_X2_63) dX2_take_38 ?_
    refine lv_iload_n C.1 C.2.1 dX2_take_41 rfl (lv_at hl 2 rfl) ?_
    refine c_lald C h (sh_13 hS) (ina_inb (n := 6000) (sl_13 hS) (Nat.le_of_ble_eq_true rfl) g4) dX2_take_42 ?_
    refine x_topl (y := Int64.ofInt (el σ 13 x2)) (by simp [fl, el, se, sf]) ?_
    refine c_last C h (sh_39 hS) (ina_inb (n := 400) (sl_39 hS) (Nat.le_of_ble_eq_true rfl) g5) dX2_take_43 (fun H locs h => ?_)
    refine z_aload_n C dX2_take_44 rfl (lv_at hl 0 rfl) ?_
    refine cg_3_6_33 C h (sh_33 hS) cU_X2 (List.mem_cons_of_mem _ wl_X2_31) dX2_take_45 ?_
    refine lv_iload_n C.1 C.2.1 dX2_take_48 rfl (lv_at hl 3 rfl) ?_
    refine z_aload_n C dX2_take_49 rfl (lv_at hl 1 rfl) ?_
    refine cg_2_3 C h g3 cU_X1 (List.mem_cons_of_mem _ wl_X2_64) dX2_take_50 ?_
    refine lv_iload_n C.1 C.2.1 dX2_take_53 rfl (lv_at hl 2 rfl) ?_
    refine c_iald C h (sh_14 hS) (ina_inb (n := 6000) (sl_14 hS) (Nat.le_of_ble_eq_true rfl) g4) dX2_take_54 ?_
    refine x_topi (y := Int32.ofInt (el σ 14 x2)) (by simp [fl, el, se, sf]) ?_
    refine c_iast C h (sh_40 hS) (ina_inb (n := 400) (sl_40 hS) (Nat.le_of_ble_eq_true rfl) g5) dX2_take_55 (fun H locs h => ?_)
    refine z_aload_n C dX2_take_56 rfl (lv_at hl 0 rfl) ?_
    refine cg_3_7_33 C h (sh_33 hS) cU_X2 (List.mem_cons_of_mem _ wl_X2_34) dX2_take_57 ?_
    refine lv_iload_n C.1 C.2.1 dX2_take_60 rfl (lv_at hl 3 rfl) ?_
    refine z_aload_n C dX2_take_61 rfl (lv_at hl 1 rfl) ?_
    refine cg_2_4 C h g3 cU_X1 (List.mem_cons_of_mem _ wl_X2_65) dX2_take_62 ?_
    refine lv_iload_n C.1 C.2.1 dX2_take_65 rfl (lv_at hl 2 rfl) ?_
    refine c_zald C h (sh_15 hS) (ina_inb (n := 6000) (sl_15 hS) (Nat.le_of_ble_eq_true rfl) g4) dX2_take_66 ?_
    refine x_topi (y := Int32.ofInt (el σ 15 x2)) (by simp [fl, el, se, sf]) ?_
    obtain ⟨g6, hm⟩ := grd_s hm
    refine c_zast C h (sh_41 hS) (ina_inb (n := 400) (sl_41 hS) (Nat.le_of_ble_eq_true rfl) g5) g6 dX2_take_67 (fun H locs h => ?_)
    cases hm
    exact c_vretP C h hr hlk dX2_take_68
  · have hm := ite_f c2 hm
    cases hm
    exact c_vretP C h hr hlk dX2_take_7
end Z_Kh_take
section Z_Ka_merge
variable {p : Program} {l : Launch} {e : Env} {s : State} {m : MethodId} {args : Array Value} {below : List Frame} {meth : Method} {c : Code} {D : va_G} {A : Nat → Prop} {k : Nat → ClassId} {N : Nat} {cd : Cond} {z mi : Nat} {aK aV : Nat → Nat} {g : Nat → Nat} {π : Sh}
set_option maxHeartbeats 8000000 in
set_option maxRecDepth 100000 in
theorem kl_Ka_merge_136 {r : St} (C : Cx p s m args c cX2_merge RX2 (cd :: cWd) D (TYs k) 10) (hr : meth.sig.returnType = none) (hlk : meth.locks = false) (hE : Ev z mi aK aV A s s.heap) (hS : SHs π)   {rec29 : St → Int → Int → Int → Int → Int → Int → Int → Int → Option St} (hrec29 : ∀ {ls : Array Slot} {H : Heap} {locs : List Loc} {σ : St} {x1 : Int} {x2 : Int} {x4 : Int} {x5 : Int} {x6 : Int} {x7 : Int} {x8 : Int} {x9 : Int}, lv_has ls 10 [(0, rfv g 24), (1, rfv g x1), (2, .long (Int64.ofInt x2)), (4, .int (Int32.ofInt x4)), (5, .int (Int32.ofInt x5)), (6, .int (Int32.ofInt x6)), (7, .int (Int32.ofInt x7)), (8, .int (Int32.ofInt x8)), (9, .int (Int32.ofInt x9))] → Hp D A s.heap H locs (cW k z g π σ) → rec29 σ x1 x2 x4 x5 x6 x7 x8 x9 = some r → W p l e { frames := 1, cells := 0, slots := 0, locals := 40 } s m args below meth c H locs 0 0 (MQ below (va_Qv (fun (_ : Unit) => True) (fun _ t => PostW D (TYs k) A (cW k z g π r) t) A) args s 0 0 A) (F0 m 29 ls [])) {ls : Array Slot} {H : Heap} {locs : List Loc} {σ : St} {x1 : Int} {x2 : Int} {x4 : Int} {x5 : Int} {x6 : Int} {x7 : Int} {x8 : Int} {x9 : Int}  (hl : lv_has ls 10 [(0, rfv g 24), (1, rfv g x1), (2, .long (Int64.ofInt x2)), (4, .int (Int32.ofInt x4)), (5, .int (Int32.ofInt x5)), (6, .int (Int32.ofInt x6)), (7, .int (Int32.ofInt x7)), (8, .int (Int32.ofInt x8)), (9, .int (Int32.ofInt x9))]) (h : Hp D A s.heap H locs (cW k z g π σ)) (hm : Ka_merge_136 N π rec29 σ x1 x2 x4 x5 x6 x7 x8 x9 = some r) : W p l e { frames := 1, cells := 0, slots := 0, locals := 40 } s m args below meth c H locs 0 0 (MQ below (va_Qv (fun (_ : Unit) => True) (fun _ t => PostW D (TYs k) A (cW k z g π r) t) A) args s 0 0 A) (F0 m 136 ls []) := by
  rw [Ka_merge_136] at hm
  refine lv_iinc (v := Int32.ofInt (x9 + (-1))) (lv' := [(9, .int (Int32.ofInt (x9 + (-1)))), (0, rfv g 24), (1, rfv g x1), (2, .long (Int64.ofInt x2)), (4, .int (Int32.ofInt x4)), (5, .int (Int32.ofInt x5)), (6, .int (Int32.ofInt x6)), (7, .int (Int32.ofInt x7)), (8, .int (Int32.ofInt x8))]) C.1 C.2.1 dX2_merge_136 hl (k := 8) rfl (c32_add _ _) (by decide) rfl (fun ls hl => ?_)
  refine lv_goto (tgt := 29) C.1 C.2.1 dX2_merge_139 (by decide) ?_
  exact hrec29 (lv_sub hl [1, 2, 3, 4, 5, 6, 7, 8, 0] rfl) h hm
set_option maxHeartbeats 8000000 in
set_option maxRecDepth 100000 in
theorem kl_Ka_merge_133 {r : St} (C : Cx p s m args c cX2_merge RX2 (cd :: cWd) D (TYs k) 10) (hr : meth.sig.returnType = none) (hlk : meth.locks = false) (hE : Ev z mi aK aV A s s.heap) (hS : SHs π)   {rec29 : St → Int → Int → Int → Int → Int → Int → Int → Int → Option St} (hrec29 : ∀ {ls : Array Slot} {H : Heap} {locs : List Loc} {σ : St} {x1 : Int} {x2 : Int} {x4 : Int} {x5 : Int} {x6 : Int} {x7 : Int} {x8 : Int} {x9 : Int}, lv_has ls 10 [(0, rfv g 24), (1, rfv g x1), (2, .long (Int64.ofInt x2)), (4, .int (Int32.ofInt x4)), (5, .int (Int32.ofInt x5)), (6, .int (Int32.ofInt x6)), (7, .int (Int32.ofInt x7)), (8, .int (Int32.ofInt x8)), (9, .int (Int32.ofInt x9))] → Hp D A s.heap H locs (cW k z g π σ) → rec29 σ x1 x2 x4 x5 x6 x7 x8 x9 = some r → W p l e { frames := 1, cells := 0, slots := 0, locals := 40 } s m args below meth c H locs 0 0 (MQ below (va_Qv (fun (_ : Unit) => True) (fun _ t => PostW D (TYs k) A (cW k z g π r) t) A) args s 0 0 A) (F0 m 29 ls [])) {ls : Array Slot} {H : Heap} {locs : List Loc} {σ : St} {x1 : Int} {x2 : Int} {x4 : Int} {x5 : Int} {x6 : Int} {x7 : Int} {x8 : Int} {x9 : Int}  (hl : lv_has ls 10 [(0, rfv g 24), (1, rfv g x1), (2, .long (Int64.ofInt x2)), (4, .int (Int32.ofInt x4)), (5, .int (Int32.ofInt x5)), (6, .int (Int32.ofInt x6)), (7, .int (Int32.ofInt x7)), (8, .int (Int32.ofInt x8)), (9, .int (Int32.ofInt x9))]) (h : Hp D A s.heap H locs (cW k z g π σ)) (hm : Ka_merge_133 N π rec29 σ x1 x2 x4 x5 x6 x7 x8 x9 = some r) : W p l e { frames := 1, cells := 0, slots := 0, locals := 40 } s m args below meth c H locs 0 0 (MQ below (va_Qv (fun (_ : Unit) => True) (fun _ t => PostW D (TYs k) A (cW k z g π r) t) A) args s 0 0 A) (F0 m 133 ls []) := by
  rw [Ka_merge_133] at hm
  refine lv_iinc (v := Int32.ofInt (x8 + (-1))) (lv' := [(8, .int (Int32.ofInt (x8 + (-1)))), (0, rfv g 24), (1, rfv g x1), (2, .long (Int64.ofInt x2)), (4, .int (Int32.ofInt x4)), (5, .int (Int32.ofInt x5)), (6, .int (Int32.ofInt x6)), (7, .int (Int32.ofInt x7)), (9, .int (Int32.ofInt x9))]) C.1 C.2.1 dX2_merge_133 hl (k := 7) rfl (c32_add _ _) (by decide) rfl (fun ls hl => ?_)
  exact kl_Ka_merge_136 (N := N) C hr hlk hE hS hrec29 (lv_sub hl [1, 2, 3, 4, 5, 6, 7, 0, 8] rfl) h hm
set_option maxHeartbeats 8000000 in
set_option maxRecDepth 100000 in
theorem kl_Ka_merge_90 {r : St} (C : Cx p s m args c cX2_merge RX2 (cd :: cWd) D (TYs k) 10) (hr : meth.sig.returnType = none) (hlk : meth.locks = false) (hE : Ev z mi aK aV A s s.heap) (hS : SHs π)   {rec29 : St → Int → Int → Int → Int → Int → Int → Int → Int → Option St} (hrec29 : ∀ {ls : Array Slot} {H : Heap} {locs : List Loc} {σ : St} {x1 : Int} {x2 : Int} {x4 : Int} {x5 : Int} {x6 : Int} {x7 : Int} {x8 : Int} {x9 : Int}, lv_has ls 10 [(0, rfv g 24), (1, rfv g x1), (2, .long (Int64.ofInt x2)), (4, .int (Int32.ofInt x4)), (5, .int (Int32.ofInt x5)), (6, .int (Int32.ofInt x6)), (7, .int (Int32.ofInt x7)), (8, .int (Int32.ofInt x8)), (9, .int (Int32.ofInt x9))] → Hp D A s.heap H locs (cW k z g π σ) → rec29 σ x1 x2 x4 x5 x6 x7 x8 x9 = some r → W p l e { frames := 1, cells := 0, slots := 0, locals := 40 } s m args below meth c H locs 0 0 (MQ below (va_Qv (fun (_ : Unit) => True) (fun _ t => PostW D (TYs k) A (cW k z g π r) t) A) args s 0 0 A) (F0 m 29 ls [])) {ls : Array Slot} {H : Heap} {locs : List Loc} {σ : St} {x1 : Int} {x2 : Int} {x4 : Int} {x5 : Int} {x6 : Int} {x7 : Int} {x8 : Int} {x9 : Int}  (hl : lv_has ls 10 [(0, rfv g 24), (1, rfv g x1), (2, .long (Int64.ofInt x2)), (4, .int (Int32.ofInt x4)), (5, .int (Int32.ofInt x5)), (6, .int (Int32.ofInt x6)), (7, .int (Int32.ofInt x7)), (8, .int (Int32.ofInt x8)), (9, .int (Int32.ofInt x9))]) (h : Hp D A s.heap H locs (cW k z g π σ)) (hm : Ka_merge_90 N π rec29 σ x1 x2 x4 x5 x6 x7 x8 x9 = some r) : W p l e { frames := 1, cells := 0, slots := 0, locals := 40 } s m args below meth c H locs 0 0 (MQ below (va_Qv (fun (_ : Unit) => True) (fun _ t => PostW D (TYs k) A (cW k z g π r) t) A) args s 0 0 A) (F0 m 90 ls []) := by
  rw [Ka_merge_90] at hm
  refine z_aload_n C dX2_merge_90 rfl (lv_at hl 0 rfl) ?_
  refine z_aload_n C dX2_merge_91 rfl (lv_at hl 1 rfl) ?_
  refine lv_iload C.1 C.2.1 dX2_merge_92 (lv_at hl 7 rfl) ?_
  refine lv_iload C.1 C.2.1 dX2_merge_94 (lv_at hl 8 rfl) ?_
  obtain ⟨r27, e28, hm⟩ := obd_s hm
  refine c_callVvP C hE h (sh_24 hS) rfl (by decide) (kc_Ka_take l D k z mi aK aV g N hS e28) (cwV 3 C.2.2.1 (gS_X2_52 _) rfl rfl rfl hd_X2_take ⟨Nat.le_of_ble_eq_true rfl, Nat.le_of_ble_eq_true rfl⟩) rfl hl.1 rfl (Nat.le_of_ble_eq_true rfl) dX2_merge_96 ⟨(Nat.le_of_ble_eq_true rfl), (Nat.le_of_ble_eq_true rfl)⟩ (fun H locs h => ?_)
  refine lv_iload C.1 C.2.1 dX2_merge_99 (lv_at hl 8 rfl) ?_
  refine lv_sipush (v := Int32.ofInt 400) C.1 C.2.1 dX2_merge_101 (by decide) ?_
  obtain ⟨g31, hm⟩ := grd_s hm
  refine z_icmp_ge (tgt := 133) C dX2_merge_104 (by decide) g31 (by decide) (fun c32 => ?_) (fun c32 => ?_)
  · have hm := ite_f c32 hm
    exact kl_Ka_merge_133 (N := N) C hr hlk hE hS hrec29 (lv_sub hl [0, 1, 2, 3, 4, 5, 6, 7, 8] rfl) h hm
  · have hm := ite_t c32 hm
    refine z_aload_n C dX2_merge_107 rfl (lv_at hl 0 rfl) ?_
    refine cg_3_4_24 C h (sh_24 hS) cU_X2 (List.mem_cons_of_mem _ wl_X2_25) dX2_merge_108 ?_
    refine lv_iload C.1 C.2.1 dX2_merge_111 (lv_at hl 8 rfl) ?_
    refine lv_lload_n C.1 C.2.1 dX2_merge_113 rfl (lv_at hl 2 rfl) ?_
    obtain ⟨g33, hm⟩ := grd_s hm
    refine c_last C h (sh_29 hS) (ina_inb (n := 400) (sl_29 hS) (Nat.le_of_ble_eq_true rfl) g33) dX2_merge_114 (fun H locs h => ?_)
    refine z_aload_n C dX2_merge_115 rfl (lv_at hl 0 rfl) ?_
    refine cg_3_0_24 C h (sh_24 hS) cU_X2 (List.mem_cons_of_mem _ wl_X2_11) dX2_merge_116 ?_
    refine lv_iload C.1 C.2.1 dX2_merge_119 (lv_at hl 8 rfl) ?_
    refine lv_iload C.1 C.2.1 dX2_merge_121 (lv_at hl 3 rfl) ?_
    refine c_iast C h (sh_25 hS) (ina_inb (n := 400) (sl_25 hS) (Nat.le_of_ble_eq_true rfl) g33) dX2_merge_123 (fun H locs h => ?_)
    refine z_aload_n C dX2_merge_124 rfl (lv_at hl 0 rfl) ?_
    refine cg_3_1_24 C h (sh_24 hS) cU_X2 (List.mem_cons_of_mem _ wl_X2_15) dX2_merge_125 ?_
    refine lv_iload C.1 C.2.1 dX2_merge_128 (lv_at hl 8 rfl) ?_
    refine lv_iload C.1 C.2.1 dX2_merge_130 (lv_at hl 4 rfl) ?_
    refine c_iast C h (sh_26 hS) (ina_inb (n := 400) (sl_26 hS) (Nat.le_of_ble_eq_true rfl) g33) dX2_merge_132 (fun H locs h => ?_)
    exact kl_Ka_merge_133 (N := N) C hr hlk hE hS hrec29 (lv_sub hl [0, 1, 2, 3, 4, 5, 6, 7, 8] rfl) h hm
set_option maxHeartbeats 8000000 in
set_option maxRecDepth 100000 in
theorem kl_Ka_merge_142 {r : St} (C : Cx p s m args c cX2_merge RX2 (cd :: cWd) D (TYs k) 10) (hr : meth.sig.returnType = none) (hlk : meth.locks = false) (hE : Ev z mi aK aV A s s.heap) (hS : SHs π)    {ls : Array Slot} {H : Heap} {locs : List Loc} {σ : St} {x1 : Int}  (hl : lv_has ls 10 [(0, rfv g 24), (1, rfv g x1)]) (h : Hp D A s.heap H locs (cW k z g π σ)) (hm : Ka_merge_142 N π σ x1 = some r) : W p l e { frames := 1, cells := 0, slots := 0, locals := 40 } s m args below meth c H locs 0 0 (MQ below (va_Qv (fun (_ : Unit) => True) (fun _ t => PostW D (TYs k) A (cW k z g π r) t) A) args s 0 0 A) (F0 m 142 ls []) := by
  rw [Ka_merge_142] at hm
  refine z_aload_n C dX2_merge_142 rfl (lv_at hl 0 rfl) ?_
  refine lv_sipush (v := Int32.ofInt 400) C.1 C.2.1 dX2_merge_143 (by decide) ?_
  refine z_aload_n C dX2_merge_146 rfl (lv_at hl 0 rfl) ?_
  refine cg_3_8 C h (sh_24 hS) cU_X2 (List.mem_cons_of_mem _ wl_X2_38) dX2_merge_147 ?_
  refine z_aload_n C dX2_merge_150 rfl (lv_at hl 1 rfl) ?_
  obtain ⟨g25, hm⟩ := grd_s hm
  refine cg_2_6 C h g25 cU_X1 (List.mem_cons_of_mem _ wl_X2_42) dX2_merge_151 ?_
  refine z_iadd C dX2_merge_154 ?_
  obtain ⟨g26, hm⟩ := grd_s hm
  refine v_min C hl.1 dX2_merge_155 (by decide) g26 (List.mem_cons_of_mem _ wx_X2_56) (List.mem_cons_of_mem _ wxs_min) (List.mem_cons_of_mem _ wxc_min) (List.mem_cons_of_mem _ wt_Math) (Nat.le_of_ble_eq_true rfl) (by simp [rfv_cat, cat_i, cat_l]) (Nat.le_of_ble_eq_true rfl) (Nat.le_of_ble_eq_true rfl) ?_
  refine cp_3_8 C h (sh_24 hS) cU_X2 (List.mem_cons_of_mem _ wl_X2_38) dX2_merge_158 (fun H locs h => ?_)
  cases hm
  exact c_vretP C h hr hlk dX2_merge_161
set_option maxHeartbeats 8000000 in
set_option maxRecDepth 100000 in
theorem kl_Ka_merge_29 {r : St} (C : Cx p s m args c cX2_merge RX2 (cd :: cWd) D (TYs k) 10) (hr : meth.sig.returnType = none) (hlk : meth.locks = false) (hE : Ev z mi aK aV A s s.heap) (hS : SHs π)    (n : Nat) : ∀ {ls : Array Slot} {H : Heap} {locs : List Loc} {σ : St} {x1 : Int} {x2 : Int} {x4 : Int} {x5 : Int} {x6 : Int} {x7 : Int} {x8 : Int} {x9 : Int}, lv_has ls 10 [(0, rfv g 24), (1, rfv g x1), (2, .long (Int64.ofInt x2)), (4, .int (Int32.ofInt x4)), (5, .int (Int32.ofInt x5)), (6, .int (Int32.ofInt x6)), (7, .int (Int32.ofInt x7)), (8, .int (Int32.ofInt x8)), (9, .int (Int32.ofInt x9))] → Hp D A s.heap H locs (cW k z g π σ) → Ka_merge_29 N π n σ x1 x2 x4 x5 x6 x7 x8 x9 = some r → W p l e { frames := 1, cells := 0, slots := 0, locals := 40 } s m args below meth c H locs 0 0 (MQ below (va_Qv (fun (_ : Unit) => True) (fun _ t => PostW D (TYs k) A (cW k z g π r) t) A) args s 0 0 A) (F0 m 29 ls []) := by
  induction n with
  | zero => intro ls H locs σ x1 x2 x4 x5 x6 x7 x8 x9  hl h hm; cases (show none = some r from hm)
  | succ n hrec29 =>
    intro ls H locs σ x1 x2 x4 x5 x6 x7 x8 x9  hl h hm
    rw [Ka_merge_29] at hm
    refine lv_iload C.1 C.2.1 dX2_merge_29 (lv_at hl 8 rfl) ?_
    refine lv_iload C.1 C.2.1 dX2_merge_31 (lv_at hl 5 rfl) ?_
    obtain ⟨g8, hm⟩ := grd_s hm
    obtain ⟨g9, hm⟩ := grd_s hm
    refine z_icmp_lt (tgt := 142) C dX2_merge_33 (by decide) g8 g9 (fun c10 => ?_) (fun c10 => ?_)
    · have hm := ite_t c10 hm
      exact kl_Ka_merge_142 (N := N) C hr hlk hE hS (lv_sub hl [0, 1] rfl) h hm
    · have hm := ite_f c10 hm
      refine lv_iload C.1 C.2.1 dX2_merge_36 (lv_at hl 7 rfl) ?_
      obtain ⟨g11, hm⟩ := grd_s hm
      refine z_if_lt (tgt := 142) C dX2_merge_38 (by decide) g11 (fun c12 => ?_) (fun c12 => ?_)
      · have hm := ite_t c12 hm
        exact kl_Ka_merge_142 (N := N) C hr hlk hE hS (lv_sub hl [0, 1] rfl) h hm
      · have hm := ite_f c12 hm
        refine lv_iload C.1 C.2.1 dX2_merge_41 (lv_at hl 6 rfl) ?_
        refine lv_iload C.1 C.2.1 dX2_merge_43 (lv_at hl 5 rfl) ?_
        obtain ⟨g13, hm⟩ := grd_s hm
        refine z_icmp_lt (tgt := 90) C dX2_merge_45 (by decide) g13 g9 (fun c14 => ?_) (fun c14 => ?_)
        · have hm := ite_t c14 hm
          exact kl_Ka_merge_90 (N := N) C hr hlk hE hS hrec29 (lv_sub hl [0, 1, 2, 3, 4, 5, 6, 7, 8] rfl) h hm
        · have hm := ite_f c14 hm
          refine z_aload_n C dX2_merge_48 rfl (lv_at hl 0 rfl) ?_
          refine cg_3_2_24 C h (sh_24 hS) cU_X2 (List.mem_cons_of_mem _ wl_X2_18) dX2_merge_49 ?_
          refine lv_iload C.1 C.2.1 dX2_merge_52 (lv_at hl 6 rfl) ?_
          obtain ⟨g15, hm⟩ := grd_s hm
          refine c_lald C h (sh_27 hS) (ina_inb (n := 400) (sl_27 hS) (Nat.le_of_ble_eq_true rfl) g15) dX2_merge_54 ?_
          refine lv_lload_n C.1 C.2.1 dX2_merge_55 rfl (lv_at hl 2 rfl) ?_
          refine z_lmul C dX2_merge_56 ?_
          refine z_aload_n C dX2_merge_57 rfl (lv_at hl 1 rfl) ?_
          obtain ⟨g16, hm⟩ := grd_s hm
          refine cg_2_0 C h g16 cU_X1 (List.mem_cons_of_mem _ wl_X2_47) dX2_merge_58 ?_
          refine lv_iload C.1 C.2.1 dX2_merge_61 (lv_at hl 7 rfl) ?_
          obtain ⟨g17, hm⟩ := grd_s hm
          refine c_lald C h (sh_11 hS) (ina_inb (n := 6000) (sl_11 hS) (Nat.le_of_ble_eq_true rfl) g17) dX2_merge_63 ?_
          refine z_aload_n C dX2_merge_64 rfl (lv_at hl 0 rfl) ?_
          refine cg_3_4_24 C h (sh_24 hS) cU_X2 (List.mem_cons_of_mem _ wl_X2_25) dX2_merge_65 ?_
          refine lv_iload C.1 C.2.1 dX2_merge_68 (lv_at hl 6 rfl) ?_
          refine c_lald C h (sh_29 hS) (ina_inb (n := 400) (sl_29 hS) (Nat.le_of_ble_eq_true rfl) g15) dX2_merge_70 ?_
          refine z_lmul C dX2_merge_71 ?_
          obtain ⟨g18, hm⟩ := grd_s hm
          obtain ⟨g19, hm⟩ := grd_s hm
          refine W.lcmp C.1 C.2.1 dX2_merge_72 ?_
          refine z_lcmp_le (tgt := 90) C dX2_merge_73 (by decide) g18 g19 (fun c20 => ?_) (fun c20 => ?_)
          · have hm := ite_f c20 hm
            exact kl_Ka_merge_90 (N := N) C hr hlk hE hS hrec29 (lv_sub hl [0, 1, 2, 3, 4, 5, 6, 7, 8] rfl) h hm
          · have hm := ite_t c20 hm
            refine z_aload_n C dX2_merge_76 rfl (lv_at hl 0 rfl) ?_
            refine lv_iload C.1 C.2.1 dX2_merge_77 (lv_at hl 6 rfl) ?_
            refine lv_iload C.1 C.2.1 dX2_merge_79 (lv_at hl 8 rfl) ?_
            obtain ⟨r21, e22, hm⟩ := obd_s hm
            refine c_callVvP C hE h (sh_24 hS) rfl (by decide) (kc_Ka_move l D k z mi aK aV g N hS e22) (cwV 2 C.2.2.1 (gS_X2_48 _) rfl rfl rfl hd_X2_move ⟨Nat.le_of_ble_eq_true rfl, Nat.le_of_ble_eq_true rfl⟩) rfl hl.1 rfl (Nat.le_of_ble_eq_true rfl) dX2_merge_81 ⟨(Nat.le_of_ble_eq_true rfl), (Nat.le_of_ble_eq_true rfl)⟩ (fun H locs h => ?_)
            refine lv_iinc (v := Int32.ofInt (x7 + (-1))) (lv' := [(7, .int (Int32.ofInt (x7 + (-1)))), (0, rfv g 24), (1, rfv g x1), (2, .long (Int64.ofInt x2)), (4, .int (Int32.ofInt x4)), (5, .int (Int32.ofInt x5)), (6, .int (Int32.ofInt x6)), (8, .int (Int32.ofInt x8)), (9, .int (Int32.ofInt x9))]) C.1 C.2.1 dX2_merge_84 hl (k := 6) rfl (c32_add _ _) (by decide) rfl (fun ls hl => ?_)
            refine lv_goto (tgt := 136) C.1 C.2.1 dX2_merge_87 (by decide) ?_
            exact kl_Ka_merge_136 (N := N) C hr hlk hE hS hrec29 (lv_sub hl [1, 2, 3, 4, 5, 6, 0, 7, 8] rfl) h hm
set_option maxHeartbeats 8000000 in
set_option maxRecDepth 100000 in
theorem kc_Ka_merge (l : Launch) (D : va_G) (k : Nat → ClassId) (z mi : Nat) (aK aV : Nat → Nat) (g : Nat → Nat) (N : Nat)    {π : Sh} {σ : St} {x1 : Int} {x2 : Int} {x4 : Int} {x5 : Int} {x6 : Int} {r : St} (hS : SHs π) (hm : Ka_merge N π σ x1 x2 x4 x5 x6 = some r) : Mv l yX2_merge (.code yX2_merge cX2_merge 10 none :: cWd) { frames := 1, cells := 0, slots := 0, locals := 40 } [rfv g 24, rfv g x1, .long (Int64.ofInt x2), .int (Int32.ofInt x4), .int (Int32.ofInt x5), .int (Int32.ofInt x6)] D (TYs k) (cW k z g π σ) (XV z mi aK aV (cW k z g π σ)) Unit (fun _ => True) (fun _ => cW k z g π r) 0 0 := by
  intro sz
  refine v_met (cc := cX2_merge) (maxL := 10) (ret := none) (lv := [(0, rfv g 24), (1, rfv g x1), (2, .long (Int64.ofInt x2)), (4, .int (Int32.ofInt x4)), (5, .int (Int32.ofInt x5)), (6, .int (Int32.ofInt x6))]) (by decide) rfl (by simp [lg_sl, rfv_cat, cat_i, cat_l]) (by simp [lv_args, rfv_cat, cat_i, cat_l]) ?_
  intro p e s m below meth c ls C hE hr hlk hmn hl h
  rw [Ka_merge] at hm
  refine z_aload_n C dX2_merge_0 rfl (lv_at hl 0 rfl) ?_
  refine cg_3_8 C h (sh_24 hS) cU_X2 (List.mem_cons_of_mem _ wl_X2_38) dX2_merge_1 ?_
  refine lv_iconst (v := Int32.ofInt 1) C.1 C.2.1 dX2_merge_4 (by decide) ?_
  refine z_isub C dX2_merge_5 ?_
  obtain ⟨v1, e2, hm⟩ := bnd_s hm
  rw [e2]
  refine lv_istore (lv' := [(7, .int (Int32.ofInt v1)), (0, rfv g 24), (1, rfv g x1), (2, .long (Int64.ofInt x2)), (4, .int (Int32.ofInt x4)), (5, .int (Int32.ofInt x5)), (6, .int (Int32.ofInt x6))]) C.1 C.2.1 dX2_merge_6 hl (by decide) rfl (fun ls hl => ?_)
  refine z_aload_n C dX2_merge_8 rfl (lv_at hl 2 rfl) ?_
  obtain ⟨g3, hm⟩ := grd_s hm
  refine cg_2_6 C h g3 cU_X1 (List.mem_cons_of_mem _ wl_X2_42) dX2_merge_9 ?_
  refine lv_iconst (v := Int32.ofInt 1) C.1 C.2.1 dX2_merge_12 (by decide) ?_
  refine z_isub C dX2_merge_13 ?_
  obtain ⟨v4, e5, hm⟩ := bnd_s hm
  rw [e5]
  refine lv_istore (lv' := [(8, .int (Int32.ofInt v4)), (7, .int (Int32.ofInt v1)), (0, rfv g 24), (1, rfv g x1), (2, .long (Int64.ofInt x2)), (4, .int (Int32.ofInt x4)), (5, .int (Int32.ofInt x5)), (6, .int (Int32.ofInt x6))]) C.1 C.2.1 dX2_merge_14 hl (by decide) rfl (fun ls hl => ?_)
  refine z_aload_n C dX2_merge_16 rfl (lv_at hl 2 rfl) ?_
  refine cg_3_8 C h (sh_24 hS) cU_X2 (List.mem_cons_of_mem _ wl_X2_38) dX2_merge_17 ?_
  refine z_aload_n C dX2_merge_20 rfl (lv_at hl 3 rfl) ?_
  refine cg_2_6 C h g3 cU_X1 (List.mem_cons_of_mem _ wl_X2_42) dX2_merge_21 ?_
  refine z_iadd C dX2_merge_24 ?_
  refine lv_iconst (v := Int32.ofInt 1) C.1 C.2.1 dX2_merge_25 (by decide) ?_
  refine z_isub C dX2_merge_26 ?_
  obtain ⟨v6, e7, hm⟩ := bnd_s hm
  rw [e7]
  refine lv_istore (lv' := [(9, .int (Int32.ofInt v6)), (8, .int (Int32.ofInt v4)), (7, .int (Int32.ofInt v1)), (0, rfv g 24), (1, rfv g x1), (2, .long (Int64.ofInt x2)), (4, .int (Int32.ofInt x4)), (5, .int (Int32.ofInt x5)), (6, .int (Int32.ofInt x6))]) C.1 C.2.1 dX2_merge_27 hl (by decide) rfl (fun ls hl => ?_)
  exact kl_Ka_merge_29 (N := N) C hr hlk hE hS N (lv_sub hl [3, 4, 5, 6, 7, 8, 2, 1, 0] rfl) h hm
end Z_Ka_merge
section Z_Kh_merge
variable {p : Program} {l : Launch} {e : Env} {s : State} {m : MethodId} {args : Array Value} {below : List Frame} {meth : Method} {c : Code} {D : va_G} {A : Nat → Prop} {k : Nat → ClassId} {N : Nat} {cd : Cond} {z mi : Nat} {aK aV : Nat → Nat} {g : Nat → Nat} {π : Sh}
set_option maxHeartbeats 8000000 in
set_option maxRecDepth 100000 in
theorem kl_Kh_merge_136 {r : St} (C : Cx p s m args c cX2_merge RX2 (cd :: cWd) D (TYs k) 10) (hr : meth.sig.returnType = none) (hlk : meth.locks = false) (hE : Ev z mi aK aV A s s.heap) (hS : SHs π)   {rec29 : St → Int → Int → Int → Int → Int → Int → Int → Int → Option St} (hrec29 : ∀ {ls : Array Slot} {H : Heap} {locs : List Loc} {σ : St} {x1 : Int} {x2 : Int} {x4 : Int} {x5 : Int} {x6 : Int} {x7 : Int} {x8 : Int} {x9 : Int}, lv_has ls 10 [(0, rfv g 33), (1, rfv g x1), (2, .long (Int64.ofInt x2)), (4, .int (Int32.ofInt x4)), (5, .int (Int32.ofInt x5)), (6, .int (Int32.ofInt x6)), (7, .int (Int32.ofInt x7)), (8, .int (Int32.ofInt x8)), (9, .int (Int32.ofInt x9))] → Hp D A s.heap H locs (cW k z g π σ) → rec29 σ x1 x2 x4 x5 x6 x7 x8 x9 = some r → W p l e { frames := 1, cells := 0, slots := 0, locals := 40 } s m args below meth c H locs 0 0 (MQ below (va_Qv (fun (_ : Unit) => True) (fun _ t => PostW D (TYs k) A (cW k z g π r) t) A) args s 0 0 A) (F0 m 29 ls [])) {ls : Array Slot} {H : Heap} {locs : List Loc} {σ : St} {x1 : Int} {x2 : Int} {x4 : Int} {x5 : Int} {x6 : Int} {x7 : Int} {x8 : Int} {x9 : Int}  (hl : lv_has ls 10 [(0, rfv g 33), (1, rfv g x1), (2, .long (Int64.ofInt x2)), (4, .int (Int32.ofInt x4)), (5, .int (Int32.ofInt x5)), (6, .int (Int32.ofInt x6)), (7, .int (Int32.ofInt x7)), (8, .int (Int32.ofInt x8)), (9, .int (Int32.ofInt x9))]) (h : Hp D A s.heap H locs (cW k z g π σ)) (hm : Kh_merge_136 N π rec29 σ x1 x2 x4 x5 x6 x7 x8 x9 = some r) : W p l e { frames := 1, cells := 0, slots := 0, locals := 40 } s m args below meth c H locs 0 0 (MQ below (va_Qv (fun (_ : Unit) => True) (fun _ t => PostW D (TYs k) A (cW k z g π r) t) A) args s 0 0 A) (F0 m 136 ls []) := by
  rw [Kh_merge_136] at hm
  refine lv_iinc (v := Int32.ofInt (x9 + (-1))) (lv' := [(9, .int (Int32.ofInt (x9 + (-1)))), (0, rfv g 33), (1, rfv g x1), (2, .long (Int64.ofInt x2)), (4, .int (Int32.ofInt x4)), (5, .int (Int32.ofInt x5)), (6, .int (Int32.ofInt x6)), (7, .int (Int32.ofInt x7)), (8, .int (Int32.ofInt x8))]) C.1 C.2.1 dX2_merge_136 hl (k := 8) rfl (c32_add _ _) (by decide) rfl (fun ls hl => ?_)
  refine lv_goto (tgt := 29) C.1 C.2.1 dX2_merge_139 (by decide) ?_
  exact hrec29 (lv_sub hl [1, 2, 3, 4, 5, 6, 7, 8, 0] rfl) h hm
set_option maxHeartbeats 8000000 in
set_option maxRecDepth 100000 in
theorem kl_Kh_merge_133 {r : St} (C : Cx p s m args c cX2_merge RX2 (cd :: cWd) D (TYs k) 10) (hr : meth.sig.returnType = none) (hlk : meth.locks = false) (hE : Ev z mi aK aV A s s.heap) (hS : SHs π)   {rec29 : St → Int → Int → Int → Int → Int → Int → Int → Int → Option St} (hrec29 : ∀ {ls : Array Slot} {H : Heap} {locs : List Loc} {σ : St} {x1 : Int} {x2 : Int} {x4 : Int} {x5 : Int} {x6 : Int} {x7 : Int} {x8 : Int} {x9 : Int}, lv_has ls 10 [(0, rfv g 33), (1, rfv g x1), (2, .long (Int64.ofInt x2)), (4, .int (Int32.ofInt x4)), (5, .int (Int32.ofInt x5)), (6, .int (Int32.ofInt x6)), (7, .int (Int32.ofInt x7)), (8, .int (Int32.ofInt x8)), (9, .int (Int32.ofInt x9))] → Hp D A s.heap H locs (cW k z g π σ) → rec29 σ x1 x2 x4 x5 x6 x7 x8 x9 = some r → W p l e { frames := 1, cells := 0, slots := 0, locals := 40 } s m args below meth c H locs 0 0 (MQ below (va_Qv (fun (_ : Unit) => True) (fun _ t => PostW D (TYs k) A (cW k z g π r) t) A) args s 0 0 A) (F0 m 29 ls [])) {ls : Array Slot} {H : Heap} {locs : List Loc} {σ : St} {x1 : Int} {x2 : Int} {x4 : Int} {x5 : Int} {x6 : Int} {x7 : Int} {x8 : Int} {x9 : Int}  (hl : lv_has ls 10 [(0, rfv g 33), (1, rfv g x1), (2, .long (Int64.ofInt x2)), (4, .int (Int32.ofInt x4)), (5, .int (Int32.ofInt x5)), (6, .int (Int32.ofInt x6)), (7, .int (Int32.ofInt x7)), (8, .int (Int32.ofInt x8)), (9, .int (Int32.ofInt x9))]) (h : Hp D A s.heap H locs (cW k z g π σ)) (hm : Kh_merge_133 N π rec29 σ x1 x2 x4 x5 x6 x7 x8 x9 = some r) : W p l e { frames := 1, cells := 0, slots := 0, locals := 40 } s m args below meth c H locs 0 0 (MQ below (va_Qv (fun (_ : Unit) => True) (fun _ t => PostW D (TYs k) A (cW k z g π r) t) A) args s 0 0 A) (F0 m 133 ls []) := by
  rw [Kh_merge_133] at hm
  refine lv_iinc (v := Int32.ofInt (x8 + (-1))) (lv' := [(8, .int (Int32.ofInt (x8 + (-1)))), (0, rfv g 33), (1, rfv g x1), (2, .long (Int64.ofInt x2)), (4, .int (Int32.ofInt x4)), (5, .int (Int32.ofInt x5)), (6, .int (Int32.ofInt x6)), (7, .int (Int32.ofInt x7)), (9, .int (Int32.ofInt x9))]) C.1 C.2.1 dX2_merge_133 hl (k := 7) rfl (c32_add _ _) (by decide) rfl (fun ls hl => ?_)
  exact kl_Kh_merge_136 (N := N) C hr hlk hE hS hrec29 (lv_sub hl [1, 2, 3, 4, 5, 6, 7, 0, 8] rfl) h hm
set_option maxHeartbeats 8000000 in
set_option maxRecDepth 100000 in
theorem kl_Kh_merge_90 {r : St} (C : Cx p s m args c cX2_merge RX2 (cd :: cWd) D (TYs k) 10) (hr : meth.sig.returnType = none) (hlk : meth.locks = false) (hE : Ev z mi aK aV A s s.heap) (hS : SHs π)   {rec29 : St → Int → Int → Int → Int → Int → Int → Int → Int → Option St} (hrec29 : ∀ {ls : Array Slot} {H : Heap} {locs : List Loc} {σ : St} {x1 : Int} {x2 : Int} {x4 : Int} {x5 : Int} {x6 : Int} {x7 : Int} {x8 : Int} {x9 : Int}, lv_has ls 10 [(0, rfv g 33), (1, rfv g x1), (2, .long (Int64.ofInt x2)), (4, .int (Int32.ofInt x4)), (5, .int (Int32.ofInt x5)), (6, .int (Int32.ofInt x6)), (7, .int (Int32.ofInt x7)), (8, .int (Int32.ofInt x8)), (9, .int (Int32.ofInt x9))] → Hp D A s.heap H locs (cW k z g π σ) → rec29 σ x1 x2 x4 x5 x6 x7 x8 x9 = some r → W p l e { frames := 1, cells := 0, slots := 0, locals := 40 } s m args below meth c H locs 0 0 (MQ below (va_Qv (fun (_ : Unit) => True) (fun _ t => PostW D (TYs k) A (cW k z g π r) t) A) args s 0 0 A) (F0 m 29 ls [])) {ls : Array Slot} {H : Heap} {locs : List Loc} {σ : St} {x1 : Int} {x2 : Int} {x4 : Int} {x5 : Int} {x6 : Int} {x7 : Int} {x8 : Int} {x9 : Int}  (hl : lv_has ls 10 [(0, rfv g 33), (1, rfv g x1), (2, .long (Int64.ofInt x2)), (4, .int (Int32.ofInt x4)), (5, .int (Int32.ofInt x5)), (6, .int (Int32.ofInt x6)), (7, .int (Int32.ofInt x7)), (8, .int (Int32.ofInt x8)), (9, .int (Int32.ofInt x9))]) (h : Hp D A s.heap H locs (cW k z g π σ)) (hm : Kh_merge_90 N π rec29 σ x1 x2 x4 x5 x6 x7 x8 x9 = some r) : W p l e { frames := 1, cells := 0, slots := 0, locals := 40 } s m args below meth c H locs 0 0 (MQ below (va_Qv (fun (_ : Unit) => True) (fun _ t => PostW D (TYs k) A (cW k z g π r) t) A) args s 0 0 A) (F0 m 90 ls []) := by
  rw [Kh_merge_90] at hm
  refine z_aload_n C dX2_merge_90 rfl (lv_at hl 0 rfl) ?_
  refine z_aload_n C dX2_merge_91 rfl (lv_at hl 1 rfl) ?_
  refine lv_iload C.1 C.2.1 dX2_merge_92 (lv_at hl 7 rfl) ?_
  refine lv_iload C.1 C.2.1 dX2_merge_94 (lv_at hl 8 rfl) ?_
  obtain ⟨r27, e28, hm⟩ := obd_s hm
  refine c_callVvP C hE h (sh_33 hS) rfl (by decide) (kc_Kh_take l D k z mi aK aV g N hS e28) (cwV 3 C.2.2.1 (gS_X2_52 _) rfl rfl rfl hd_X2_take ⟨Nat.le_of_ble_eq_true rfl, Nat.le_of_ble_eq_true rfl⟩) rfl hl.1 rfl (Nat.le_of_ble_eq_true rfl) dX2_merge_96 ⟨(Nat.le_of_ble_eq_true rfl), (Nat.le_of_ble_eq_true rfl)⟩ (fun H locs h => ?_)
  refine lv_iload C.1 C.2.1 dX2_merge_99 (lv_at hl 8 rfl) ?_
  refine lv_sipush (v := Int32.ofInt 400) C.1 C.2.1 dX2_merge_101 (by decide) ?_
  obtain ⟨g31, hm⟩ := grd_s hm
  refine z_icmp_ge (tgt := 133) C dX2_merge_104 (by decide) g31 (by decide) (fun c32 => ?_) (fun c32 => ?_)
  · have hm := ite_f c32 hm
    exact kl_Kh_merge_133 (N := N) C hr hlk hE hS hrec29 (lv_sub hl [0, 1, 2, 3, 4, 5, 6, 7, 8] rfl) h hm
  · have hm := ite_t c32 hm
    refine z_aload_n C dX2_merge_107 rfl (lv_at hl 0 rfl) ?_
    refine cg_3_4_33 C h (sh_33 hS) cU_X2 (List.mem_cons_of_mem _ wl_X2_25) dX2_merge_108 ?_
    refine lv_iload C.1 C.2.1 dX2_merge_111 (lv_at hl 8 rfl) ?_
    refine lv_lload_n C.1 C.2.1 dX2_merge_113 rfl (lv_at hl 2 rfl) ?_
    obtain ⟨g33, hm⟩ := grd_s hm
    refine c_last C h (sh_38 hS) (ina_inb (n := 400) (sl_38 hS) (Nat.le_of_ble_eq_true rfl) g33) dX2_merge_114 (fun H locs h => ?_)
    refine z_aload_n C dX2_merge_115 rfl (lv_at hl 0 rfl) ?_
    refine cg_3_0_33 C h (sh_33 hS) cU_X2 (List.mem_cons_of_mem _ wl_X2_11) dX2_merge_116 ?_
    refine lv_iload C.1 C.2.1 dX2_merge_119 (lv_at hl 8 rfl) ?_
    refine lv_iload C.1 C.2.1 dX2_merge_121 (lv_at hl 3 rfl) ?_
    refine c_iast C h (sh_34 hS) (ina_inb (n := 400) (sl_34 hS) (Nat.le_of_ble_eq_true rfl) g33) dX2_merge_123 (fun H locs h => ?_)
    refine z_aload_n C dX2_merge_124 rfl (lv_at hl 0 rfl) ?_
    refine cg_3_1_33 C h (sh_33 hS) cU_X2 (List.mem_cons_of_mem _ wl_X2_15) dX2_merge_125 ?_
    refine lv_iload C.1 C.2.1 dX2_merge_128 (lv_at hl 8 rfl) ?_
    refine lv_iload C.1 C.2.1 dX2_merge_130 (lv_at hl 4 rfl) ?_
    refine c_iast C h (sh_35 hS) (ina_inb (n := 400) (sl_35 hS) (Nat.le_of_ble_eq_true rfl) g33) dX2_merge_132 (fun H locs h => ?_)
    exact kl_Kh_merge_133 (N := N) C hr hlk hE hS hrec29 (lv_sub hl [0, 1, 2, 3, 4, 5, 6, 7, 8] rfl) h hm
set_option maxHeartbeats 8000000 in
set_option maxRecDepth 100000 in
theorem kl_Kh_merge_142 {r : St} (C : Cx p s m args c cX2_merge RX2 (cd :: cWd) D (TYs k) 10) (hr : meth.sig.returnType = none) (hlk : meth.locks = false) (hE : Ev z mi aK aV A s s.heap) (hS : SHs π)    {ls : Array Slot} {H : Heap} {locs : List Loc} {σ : St} {x1 : Int}  (hl : lv_has ls 10 [(0, rfv g 33), (1, rfv g x1)]) (h : Hp D A s.heap H locs (cW k z g π σ)) (hm : Kh_merge_142 N π σ x1 = some r) : W p l e { frames := 1, cells := 0, slots := 0, locals := 40 } s m args below meth c H locs 0 0 (MQ below (va_Qv (fun (_ : Unit) => True) (fun _ t => PostW D (TYs k) A (cW k z g π r) t) A) args s 0 0 A) (F0 m 142 ls []) := by
  rw [Kh_merge_142] at hm
  refine z_aload_n C dX2_merge_142 rfl (lv_at hl 0 rfl) ?_
  refine lv_sipush (v := Int32.ofInt 400) C.1 C.2.1 dX2_merge_143 (by decide) ?_
  refine z_aload_n C dX2_merge_146 rfl (lv_at hl 0 rfl) ?_
  refine cg_3_8 C h (sh_33 hS) cU_X2 (List.mem_cons_of_mem _ wl_X2_38) dX2_merge_147 ?_
  refine z_aload_n C dX2_merge_150 rfl (lv_at hl 1 rfl) ?_
  obtain ⟨g25, hm⟩ := grd_s hm
  refine cg_2_6 C h g25 cU_X1 (List.mem_cons_of_mem _ wl_X2_42) dX2_merge_151 ?_
  refine z_iadd C dX2_merge_154 ?_
  obtain ⟨g26, hm⟩ := grd_s hm
  refine v_min C hl.1 dX2_merge_155 (by decide) g26 (List.mem_cons_of_mem _ wx_X2_56) (List.mem_cons_of_mem _ wxs_min) (List.mem_cons_of_mem _ wxc_min) (List.mem_cons_of_mem _ wt_Math) (Nat.le_of_ble_eq_true rfl) (by simp [rfv_cat, cat_i, cat_l]) (Nat.le_of_ble_eq_true rfl) (Nat.le_of_ble_eq_true rfl) ?_
  refine cp_3_8 C h (sh_33 hS) cU_X2 (List.mem_cons_of_mem _ wl_X2_38) dX2_merge_158 (fun H locs h => ?_)
  cases hm
  exact c_vretP C h hr hlk dX2_merge_161
set_option maxHeartbeats 8000000 in
set_option maxRecDepth 100000 in
theorem kl_Kh_merge_29 {r : St} (C : Cx p s m args c cX2_merge RX2 (cd :: cWd) D (TYs k) 10) (hr : meth.sig.returnType = none) (hlk : meth.locks = false) (hE : Ev z mi aK aV A s s.heap) (hS : SHs π)    (n : Nat) : ∀ {ls : Array Slot} {H : Heap} {locs : List Loc} {σ : St} {x1 : Int} {x2 : Int} {x4 : Int} {x5 : Int} {x6 : Int} {x7 : Int} {x8 : Int} {x9 : Int}, lv_has ls 10 [(0, rfv g 33), (1, rfv g x1), (2, .long (Int64.ofInt x2)), (4, .int (Int32.ofInt x4)), (5, .int (Int32.ofInt x5)), (6, .int (Int32.ofInt x6)), (7, .int (Int32.ofInt x7)), (8, .int (Int32.ofInt x8)), (9, .int (Int32.ofInt x9))] → Hp D A s.heap H locs (cW k z g π σ) → Kh_merge_29 N π n σ x1 x2 x4 x5 x6 x7 x8 x9 = some r → W p l e { frames := 1, cells := 0, slots := 0, locals := 40 } s m args below meth c H locs 0 0 (MQ below (va_Qv (fun (_ : Unit) => True) (fun _ t => PostW D (TYs k) A (cW k z g π r) t) A) args s 0 0 A) (F0 m 29 ls []) := by
  induction n with
  | zero => intro ls H locs σ x1 x2 x4 x5 x6 x7 x8 x9  hl h hm; cases (show none = some r from hm)
  | succ n hrec29 =>
    intro ls H locs σ x1 x2 x4 x5 x6 x7 x8 x9  hl h hm
    rw [Kh_merge_29] at hm
    refine lv_iload C.1 C.2.1 dX2_merge_29 (lv_at hl 8 rfl) ?_
    refine lv_iload C.1 C.2.1 dX2_merge_31 (lv_at hl 5 rfl) ?_
    obtain ⟨g8, hm⟩ := grd_s hm
    obtain ⟨g9, hm⟩ := grd_s hm
    refine z_icmp_lt (tgt := 142) C dX2_merge_33 (by decide) g8 g9 (fun c10 => ?_) (fun c10 => ?_)
    · have hm := ite_t c10 hm
      exact kl_Kh_merge_142 (N := N) C hr hlk hE hS (lv_sub hl [0, 1] rfl) h hm
    · have hm := ite_f c10 hm
      refine lv_iload C.1 C.2.1 dX2_merge_36 (lv_at hl 7 rfl) ?_
      obtain ⟨g11, hm⟩ := grd_s hm
      refine z_if_lt (tgt := 142) C dX2_merge_38 (by decide) g11 (fun c12 => ?_) (fun c12 => ?_)
      · have hm := ite_t c12 hm
        exact kl_Kh_merge_142 (N := N) C hr hlk hE hS (lv_sub hl [0, 1] rfl) h hm
      · have hm := ite_f c12 hm
        refine lv_iload C.1 C.2.1 dX2_merge_41 (lv_at hl 6 rfl) ?_
        refine lv_iload C.1 C.2.1 dX2_merge_43 (lv_at hl 5 rfl) ?_
        obtain ⟨g13, hm⟩ := grd_s hm
        refine z_icmp_lt (tgt := 90) C dX2_merge_45 (by decide) g13 g9 (fun c14 => ?_) (fun c14 => ?_)
        · have hm := ite_t c14 hm
          exact kl_Kh_merge_90 (N := N) C hr hlk hE hS hrec29 (lv_sub hl [0, 1, 2, 3, 4, 5, 6, 7, 8] rfl) h hm
        · have hm := ite_f c14 hm
          refine z_aload_n C dX2_merge_48 rfl (lv_at hl 0 rfl) ?_
          refine cg_3_2_33 C h (sh_33 hS) cU_X2 (List.mem_cons_of_mem _ wl_X2_18) dX2_merge_49 ?_
          refine lv_iload C.1 C.2.1 dX2_merge_52 (lv_at hl 6 rfl) ?_
          obtain ⟨g15, hm⟩ := grd_s hm
          refine c_lald C h (sh_36 hS) (ina_inb (n := 400) (sl_36 hS) (Nat.le_of_ble_eq_true rfl) g15) dX2_merge_54 ?_
          refine lv_lload_n C.1 C.2.1 dX2_merge_55 rfl (lv_at hl 2 rfl) ?_
          refine z_lmul C dX2_merge_56 ?_
          refine z_aload_n C dX2_merge_57 rfl (lv_at hl 1 rfl) ?_
          obtain ⟨g16, hm⟩ := grd_s hm
          refine cg_2_0 C h g16 cU_X1 (List.mem_cons_of_mem _ wl_X2_47) dX2_merge_58 ?_
          refine lv_iload C.1 C.2.1 dX2_merge_61 (lv_at hl 7 rfl) ?_
          obtain ⟨g17, hm⟩ := grd_s hm
          refine c_lald C h (sh_11 hS) (ina_inb (n := 6000) (sl_11 hS) (Nat.le_of_ble_eq_true rfl) g17) dX2_merge_63 ?_
          refine z_aload_n C dX2_merge_64 rfl (lv_at hl 0 rfl) ?_
          refine cg_3_4_33 C h (sh_33 hS) cU_X2 (List.mem_cons_of_mem _ wl_X2_25) dX2_merge_65 ?_
          refine lv_iload C.1 C.2.1 dX2_merge_68 (lv_at hl 6 rfl) ?_
          refine c_lald C h (sh_38 hS) (ina_inb (n := 400) (sl_38 hS) (Nat.le_of_ble_eq_true rfl) g15) dX2_merge_70 ?_
          refine z_lmul C dX2_merge_71 ?_
          obtain ⟨g18, hm⟩ := grd_s hm
          obtain ⟨g19, hm⟩ := grd_s hm
          refine W.lcmp C.1 C.2.1 dX2_merge_72 ?_
          refine z_lcmp_le (tgt := 90) C dX2_merge_73 (by decide) g18 g19 (fun c20 => ?_) (fun c20 => ?_)
          · have hm := ite_f c20 hm
            exact kl_Kh_merge_90 (N := N) C hr hlk hE hS hrec29 (lv_sub hl [0, 1, 2, 3, 4, 5, 6, 7, 8] rfl) h hm
          · have hm := ite_t c20 hm
            refine z_aload_n C dX2_merge_76 rfl (lv_at hl 0 rfl) ?_
            refine lv_iload C.1 C.2.1 dX2_merge_77 (lv_at hl 6 rfl) ?_
            refine lv_iload C.1 C.2.1 dX2_merge_79 (lv_at hl 8 rfl) ?_
            obtain ⟨r21, e22, hm⟩ := obd_s hm
            refine c_callVvP C hE h (sh_33 hS) rfl (by decide) (kc_Kh_move l D k z mi aK aV g N hS e22) (cwV 2 C.2.2.1 (gS_X2_48 _) rfl rfl rfl hd_X2_move ⟨Nat.le_of_ble_eq_true rfl, Nat.le_of_ble_eq_true rfl⟩) rfl hl.1 rfl (Nat.le_of_ble_eq_true rfl) dX2_merge_81 ⟨(Nat.le_of_ble_eq_true rfl), (Nat.le_of_ble_eq_true rfl)⟩ (fun H locs h => ?_)
            refine lv_iinc (v := Int32.ofInt (x7 + (-1))) (lv' := [(7, .int (Int32.ofInt (x7 + (-1)))), (0, rfv g 33), (1, rfv g x1), (2, .long (Int64.ofInt x2)), (4, .int (Int32.ofInt x4)), (5, .int (Int32.ofInt x5)), (6, .int (Int32.ofInt x6)), (8, .int (Int32.ofInt x8)), (9, .int (Int32.ofInt x9))]) C.1 C.2.1 dX2_merge_84 hl (k := 6) rfl (c32_add _ _) (by decide) rfl (fun ls hl => ?_)
            refine lv_goto (tgt := 136) C.1 C.2.1 dX2_merge_87 (by decide) ?_
            exact kl_Kh_merge_136 (N := N) C hr hlk hE hS hrec29 (lv_sub hl [1, 2, 3, 4, 5, 6, 0, 7, 8] rfl) h hm
set_option maxHeartbeats 8000000 in
set_option maxRecDepth 100000 in
theorem kc_Kh_merge (l : Launch) (D : va_G) (k : Nat → ClassId) (z mi : Nat) (aK aV : Nat → Nat) (g : Nat → Nat) (N : Nat)    {π : Sh} {σ : St} {x1 : Int} {x2 : Int} {x4 : Int} {x5 : Int} {x6 : Int} {r : St} (hS : SHs π) (hm : Kh_merge N π σ x1 x2 x4 x5 x6 = some r) : Mv l yX2_merge (.code yX2_merge cX2_merge 10 none :: cWd) { frames := 1, cells := 0, slots := 0, locals := 40 } [rfv g 33, rfv g x1, .long (Int64.ofInt x2), .int (Int32.ofInt x4), .int (Int32.ofInt x5), .int (Int32.ofInt x6)] D (TYs k) (cW k z g π σ) (XV z mi aK aV (cW k z g π σ)) Unit (fun _ => True) (fun _ => cW k z g π r) 0 0 := by
  intro sz
  refine v_met (cc := cX2_merge) (maxL := 10) (ret := none) (lv := [(0, rfv g 33), (1, rfv g x1), (2, .long (Int64.ofInt x2)), (4, .int (Int32.ofInt x4)), (5, .int (Int32.ofInt x5)), (6, .int (Int32.ofInt x6))]) (by decide) rfl (by simp [lg_sl, rfv_cat, cat_i, cat_l]) (by simp [lv_args, rfv_cat, cat_i, cat_l]) ?_
  intro p e s m below meth c ls C hE hr hlk hmn hl h
  rw [Kh_merge] at hm
  refine z_aload_n C dX2_merge_0 rfl (lv_at hl 0 rfl) ?_
  refine cg_3_8 C h (sh_33 hS) cU_X2 (List.mem_cons_of_mem _ wl_X2_38) dX2_merge_1 ?_
  refine lv_iconst (v := Int32.ofInt 1) C.1 C.2.1 dX2_merge_4 (by decide) ?_
  refine z_isub C dX2_merge_5 ?_
  obtain ⟨v1, e2, hm⟩ := bnd_s hm
  rw [e2]
  refine lv_istore (lv' := [(7, .int (Int32.ofInt v1)), (0, rfv g 33), (1, rfv g x1), (2, .long (Int64.ofInt x2)), (4, .int (Int32.ofInt x4)), (5, .int (Int32.ofInt x5)), (6, .int (Int32.ofInt x6))]) C.1 C.2.1 dX2_merge_6 hl (by decide) rfl (fun ls hl => ?_)
  refine z_aload_n C dX2_merge_8 rfl (lv_at hl 2 rfl) ?_
  obtain ⟨g3, hm⟩ := grd_s hm
  refine cg_2_6 C h g3 cU_X1 (List.mem_cons_of_mem _ wl_X2_42) dX2_merge_9 ?_
  refine lv_iconst (v := Int32.ofInt 1) C.1 C.2.1 dX2_merge_12 (by decide) ?_
  refine z_isub C dX2_merge_13 ?_
  obtain ⟨v4, e5, hm⟩ := bnd_s hm
  rw [e5]
  refine lv_istore (lv' := [(8, .int (Int32.ofInt v4)), (7, .int (Int32.ofInt v1)), (0, rfv g 33), (1, rfv g x1), (2, .long (Int64.ofInt x2)), (4, .int (Int32.ofInt x4)), (5, .int (Int32.ofInt x5)), (6, .int (Int32.ofInt x6))]) C.1 C.2.1 dX2_merge_14 hl (by decide) rfl (fun ls hl => ?_)
  refine z_aload_n C dX2_merge_16 rfl (lv_at hl 2 rfl) ?_
  refine cg_3_8 C h (sh_33 hS) cU_X2 (List.mem_cons_of_mem _ wl_X2_38) dX2_merge_17 ?_
  refine z_aload_n C dX2_merge_20 rfl (lv_at hl 3 rfl) ?_
  refine cg_2_6 C h g3 cU_X1 (List.mem_cons_of_mem _ wl_X2_42) dX2_merge_21 ?_
  refine z_iadd C dX2_merge_24 ?_
  refine lv_iconst (v := Int32.ofInt 1) C.1 C.2.1 dX2_merge_25 (by decide) ?_
  refine z_isub C dX2_merge_26 ?_
  obtain ⟨v6, e7, hm⟩ := bnd_s hm
  rw [e7]
  refine lv_istore (lv' := [(9, .int (Int32.ofInt v6)), (8, .int (Int32.ofInt v4)), (7, .int (Int32.ofInt v1)), (0, rfv g 33), (1, rfv g x1), (2, .long (Int64.ofInt x2)), (4, .int (Int32.ofInt x4)), (5, .int (Int32.ofInt x5)), (6, .int (Int32.ofInt x6))]) C.1 C.2.1 dX2_merge_27 hl (by decide) rfl (fun ls hl => ?_)
  exact kl_Kh_merge_29 (N := N) C hr hlk hE hS N (lv_sub hl [3, 4, 5, 6, 7, 8, 2, 1, 0] rfl) h hm
end Z_Kh_merge
