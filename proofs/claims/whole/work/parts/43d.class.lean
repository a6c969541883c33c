section Z_Pc_applyWithFun
variable {p : Program} {l : Launch} {e : Env} {s : State} {m : MethodId} {args : Array Value} {below : List Frame} {meth : Method} {c : Code} {D : va_G} {A : Nat → Prop} {k : Nat → ClassId} {N : Nat} {cd : Cond} {z mi : Nat} {aK aV : Nat → Nat} {g0 : Nat → Nat} {π0 : Sh} {φ ψ : Nat}
set_option maxHeartbeats 8000000 in
set_option maxRecDepth 100000 in
theorem kl_Pc_applyWithFun_74 {r : Sh × St × Int} (C : Cx p s m args c cX5_applyWithFun RX5 (cd :: cWd) D (TYs k) 6) (hr : meth.sig.returnType = (some .int)) (hlk : meth.locks = false) (hE : Ev z mi aK aV A s s.heap) {rApply : Sh → St → Int → Int → Int → Option (Sh × St × Int)} (hφ : 20 ≤ φ) (hψ : 600 ≤ ψ) (hmrApply : ∀ {π : Sh} {σ : St} {y0 : Int} {y1 : Int} {y2 : Int} {r : Sh × St × Int}, Cl π σ → y0 < nn π → y1 < nn π → rApply π σ y0 y1 y2 = some r → ext π r.1 ∧ Cl r.1 r.2.1) (hcrApply : ∀ {g : Nat → Nat} {π : Sh} {σ : St} {y0 : Int} {y1 : Int} {y2 : Int} {r : Sh × St × Int}, Cl π σ → y0 < nn π → y1 < nn π → rApply π σ y0 y1 y2 = some r → Mi l yX5_apply (.code yX5_apply cX5_apply 3 (some .int) :: cWd) { frames := φ, cells := nn r.1 - nn π, slots := sw r.1 - sw π, locals := ψ } [rfv g y0, rfv g y1, .int (Int32.ofInt y2)] D (TYs k) (cW k z g π σ) (XV z mi aK aV (cW k z g π σ)) (Nat → Nat) (fun v u => gx (nn π) g u ∧ v = Int32.ofInt r.2.2) (fun u => cW k z u r.1 r.2.1) (nn r.1 - nn π) (sw r.1 - sw π))  {ls : Array Slot} {H : Heap} {locs : List Loc} {g : Nat → Nat} {π : Sh} {σ : St} {s0 : Int} (hC : Cl π σ) (hG : gx (nn π0) g0 g) (hX : ext π0 π)  (hl : lv_has ls 6 []) (h : Hp D A s.heap H locs (cW k z g π σ)) (hm : Pc_applyWithFun_74 N rApply π σ s0 = some r) : W p l e { frames := φ + 2, cells := nn r.1 - nn π0, slots := sw r.1 - sw π0, locals := ψ + 47 } s m args below meth c H locs (nn π - nn π0) (sw π - sw π0) (MQ below (va_Qi (fun v u => gx (nn π0) g0 u ∧ v = Int32.ofInt r.2.2) (fun u t => PostW D (TYs k) A (cW k z u r.1 r.2.1) t) A) args s (nn r.1 - nn π0) (sw r.1 - sw π0) A) (F0 m 74 ls [.int (Int32.ofInt s0)]) := by
  have hS := hC.1
  have hq := km_Pc_applyWithFun_74 hmrApply   hC  hm
  rw [Pc_applyWithFun_74] at hm
  cases hm
  exact c_iretA C hG h hr hlk dX5_applyWithFun_74 rfl
set_option maxHeartbeats 8000000 in
set_option maxRecDepth 100000 in
theorem kl_Pc_applyWithFun_71 {r : Sh × St × Int} (C : Cx p s m args c cX5_applyWithFun RX5 (cd :: cWd) D (TYs k) 6) (hr : meth.sig.returnType = (some .int)) (hlk : meth.locks = false) (hE : Ev z mi aK aV A s s.heap) {rApply : Sh → St → Int → Int → Int → Option (Sh × St × Int)} (hφ : 20 ≤ φ) (hψ : 600 ≤ ψ) (hmrApply : ∀ {π : Sh} {σ : St} {y0 : Int} {y1 : Int} {y2 : Int} {r : Sh × St × Int}, Cl π σ → y0 < nn π → y1 < nn π → rApply π σ y0 y1 y2 = some r → ext π r.1 ∧ Cl r.1 r.2.1) (hcrApply : ∀ {g : Nat → Nat} {π : Sh} {σ : St} {y0 : Int} {y1 : Int} {y2 : Int} {r : Sh × St × Int}, Cl π σ → y0 < nn π → y1 < nn π → rApply π σ y0 y1 y2 = some r → Mi l yX5_apply (.code yX5_apply cX5_apply 3 (some .int) :: cWd) { frames := φ, cells := nn r.1 - nn π, slots := sw r.1 - sw π, locals := ψ } [rfv g y0, rfv g y1, .int (Int32.ofInt y2)] D (TYs k) (cW k z g π σ) (XV z mi aK aV (cW k z g π σ)) (Nat → Nat) (fun v u => gx (nn π) g u ∧ v = Int32.ofInt r.2.2) (fun u => cW k z u r.1 r.2.1) (nn r.1 - nn π) (sw r.1 - sw π))  {ls : Array Slot} {H : Heap} {locs : List Loc} {g : Nat → Nat} {π : Sh} {σ : St} {s0 : Int} {s1 : Int} (hC : Cl π σ) (hG : gx (nn π0) g0 g) (hX : ext π0 π) (hv_s0 : s0 < nn π) (hv_s1 : s1 < nn π) (hl : lv_has ls 6 []) (h : Hp D A s.heap H locs (cW k z g π σ)) (hm : Pc_applyWithFun_71 N rApply π σ s0 s1 = some r) : W p l e { frames := φ + 2, cells := nn r.1 - nn π0, slots := sw r.1 - sw π0, locals := ψ + 47 } s m args below meth c H locs (nn π - nn π0) (sw π - sw π0) (MQ below (va_Qi (fun v u => gx (nn π0) g0 u ∧ v = Int32.ofInt r.2.2) (fun u t => PostW D (TYs k) A (cW k z u r.1 r.2.1) t) A) args s (nn r.1 - nn π0) (sw r.1 - sw π0) A) (F0 m 71 ls [rfv g s0, rfv g s1]) := by
  have hS := hC.1
  have hq := km_Pc_applyWithFun_71 hmrApply   hC hv_s0 hv_s1 hm
  rw [Pc_applyWithFun_71] at hm
  obtain ⟨r210, e211, hm⟩ := obd_s hm
  have q212 := (km_Df_add hC hv_s1 hv_s0 e211)
  obtain ⟨g213, hm⟩ := grd_s hm
  have q := km_Pc_applyWithFun_74 hmrApply  q212.2  hm
  refine c_callViA C hE h g213 rfl (by decide) (kc_Df_add l D k z mi aK aV g N hC hv_s1 hv_s0 e211) (cwV 1 C.2.2.1 (gS_X5_59 _) rfl rfl rfl hd_X0_add ⟨(by show 7 + 1 ≤ φ + 2; omega), (by show 8 + (2 + 11) + 241 ≤ ψ + 47; omega)⟩) rfl hl.1 rfl (Nat.le_of_ble_eq_true rfl) dX5_applyWithFun_71 ⟨rcC hX q212.1 q.1, rsC hX q212.1 q.1⟩ (fun u H locs hg h => ?_)
  refine W_cast (wcC hX q212.1).symm (wsC hX q212.1).symm ?_
  exact kl_Pc_applyWithFun_74 (N := N) C hr hlk hE hφ hψ hmrApply hcrApply  q212.2 (hG.tr hg hX.1) (hX.tr q212.1)  (lv_sub hl [] rfl) h hm
set_option maxHeartbeats 8000000 in
set_option maxRecDepth 100000 in
theorem kl_Pc_applyWithFun_66 {r : Sh × St × Int} (C : Cx p s m args c cX5_applyWithFun RX5 (cd :: cWd) D (TYs k) 6) (hr : meth.sig.returnType = (some .int)) (hlk : meth.locks = false) (hE : Ev z mi aK aV A s s.heap) {rApply : Sh → St → Int → Int → Int → Option (Sh × St × Int)} (hφ : 20 ≤ φ) (hψ : 600 ≤ ψ) (hmrApply : ∀ {π : Sh} {σ : St} {y0 : Int} {y1 : Int} {y2 : Int} {r : Sh × St × Int}, Cl π σ → y0 < nn π → y1 < nn π → rApply π σ y0 y1 y2 = some r → ext π r.1 ∧ Cl r.1 r.2.1) (hcrApply : ∀ {g : Nat → Nat} {π : Sh} {σ : St} {y0 : Int} {y1 : Int} {y2 : Int} {r : Sh × St × Int}, Cl π σ → y0 < nn π → y1 < nn π → rApply π σ y0 y1 y2 = some r → Mi l yX5_apply (.code yX5_apply cX5_apply 3 (some .int) :: cWd) { frames := φ, cells := nn r.1 - nn π, slots := sw r.1 - sw π, locals := ψ } [rfv g y0, rfv g y1, .int (Int32.ofInt y2)] D (TYs k) (cW k z g π σ) (XV z mi aK aV (cW k z g π σ)) (Nat → Nat) (fun v u => gx (nn π) g u ∧ v = Int32.ofInt r.2.2) (fun u => cW k z u r.1 r.2.1) (nn r.1 - nn π) (sw r.1 - sw π))  {ls : Array Slot} {H : Heap} {locs : List Loc} {g : Nat → Nat} {π : Sh} {σ : St} {x4 : Int} {s0 : Int} {s1 : Int} (hC : Cl π σ) (hG : gx (nn π0) g0 g) (hX : ext π0 π) (hv_s0 : s0 < nn π) (hv_s1 : s1 < nn π) (hl : lv_has ls 6 [(4, .int (Int32.ofInt x4))]) (h : Hp D A s.heap H locs (cW k z g π σ)) (hm : Pc_applyWithFun_66 N rApply π σ x4 s0 s1 = some r) : W p l e { frames := φ + 2, cells := nn r.1 - nn π0, slots := sw r.1 - sw π0, locals := ψ + 47 } s m args below meth c H locs (nn π - nn π0) (sw π - sw π0) (MQ below (va_Qi (fun v u => gx (nn π0) g0 u ∧ v = Int32.ofInt r.2.2) (fun u t => PostW D (TYs k) A (cW k z u r.1 r.2.1) t) A) args s (nn r.1 - nn π0) (sw r.1 - sw π0) A) (F0 m 66 ls [rfv g s0, rfv g s1]) := by
  have hS := hC.1
  have hq := km_Pc_applyWithFun_66 hmrApply   hC hv_s0 hv_s1 hm
  rw [Pc_applyWithFun_66] at hm
  refine lv_iload C.1 C.2.1 dX5_applyWithFun_66 (lv_at hl 0 rfl) ?_
  obtain ⟨r198, e199, hm⟩ := obd_s hm
  have q200 := (km_Sp_give hC hv_s0 e199)
  obtain ⟨g201, hm⟩ := grd_s hm
  have q := km_Pc_applyWithFun_71 hmrApply  q200.2.1 q200.2.2 (lt_ext hv_s1 q200.1) hm
  refine c_callVqA C hE h g201 rfl (by decide) (kc_Sp_give l D k z mi aK aV g N hC hv_s0 e199) (cwV 1 C.2.2.1 (gS_X5_55 _) rfl rfl rfl hd_X9_give ⟨(by show 2 + 1 ≤ φ + 2; omega), (by show 8 + (2 + 11) + 82 ≤ ψ + 47; omega)⟩) rfl hl.1 rfl (by simp [rfv_cat, cat_i, cat_l]) dX5_applyWithFun_68 ⟨rcC hX q200.1 q.1, rsC hX q200.1 q.1⟩ (fun u H locs hg h => ?_)
  try simp only [← gx_rfv hg hv_s1]
  refine W_cast (wcC hX q200.1).symm (wsC hX q200.1).symm ?_
  exact kl_Pc_applyWithFun_71 (N := N) C hr hlk hE hφ hψ hmrApply hcrApply  q200.2.1 (hG.tr hg hX.1) (hX.tr q200.1) q200.2.2 (lt_ext hv_s1 q200.1) (lv_sub hl [] rfl) h hm
set_option maxHeartbeats 8000000 in
set_option maxRecDepth 100000 in
theorem kl_Pc_applyWithFun_51 {r : Sh × St × Int} (C : Cx p s m args c cX5_applyWithFun RX5 (cd :: cWd) D (TYs k) 6) (hr : meth.sig.returnType = (some .int)) (hlk : meth.locks = false) (hE : Ev z mi aK aV A s s.heap) {rApply : Sh → St → Int → Int → Int → Option (Sh × St × Int)} (hφ : 20 ≤ φ) (hψ : 600 ≤ ψ) (hmrApply : ∀ {π : Sh} {σ : St} {y0 : Int} {y1 : Int} {y2 : Int} {r : Sh × St × Int}, Cl π σ → y0 < nn π → y1 < nn π → rApply π σ y0 y1 y2 = some r → ext π r.1 ∧ Cl r.1 r.2.1) (hcrApply : ∀ {g : Nat → Nat} {π : Sh} {σ : St} {y0 : Int} {y1 : Int} {y2 : Int} {r : Sh × St × Int}, Cl π σ → y0 < nn π → y1 < nn π → rApply π σ y0 y1 y2 = some r → Mi l yX5_apply (.code yX5_apply cX5_apply 3 (some .int) :: cWd) { frames := φ, cells := nn r.1 - nn π, slots := sw r.1 - sw π, locals := ψ } [rfv g y0, rfv g y1, .int (Int32.ofInt y2)] D (TYs k) (cW k z g π σ) (XV z mi aK aV (cW k z g π σ)) (Nat → Nat) (fun v u => gx (nn π) g u ∧ v = Int32.ofInt r.2.2) (fun u => cW k z u r.1 r.2.1) (nn r.1 - nn π) (sw r.1 - sw π))  {ls : Array Slot} {H : Heap} {locs : List Loc} {g : Nat → Nat} {π : Sh} {σ : St} {x0 : Int} {x4 : Int} {s0 : Int} {s1 : Int} (hC : Cl π σ) (hG : gx (nn π0) g0 g) (hX : ext π0 π) (hv_x0 : x0 < nn π) (hv_s0 : s0 < nn π) (hv_s1 : s1 < nn π) (hl : lv_has ls 6 [(0, rfv g x0), (4, .int (Int32.ofInt x4))]) (h : Hp D A s.heap H locs (cW k z g π σ)) (hm : Pc_applyWithFun_51 N rApply π σ x0 x4 s0 s1 = some r) : W p l e { frames := φ + 2, cells := nn r.1 - nn π0, slots := sw r.1 - sw π0, locals := ψ + 47 } s m args below meth c H locs (nn π - nn π0) (sw π - sw π0) (MQ below (va_Qi (fun v u => gx (nn π0) g0 u ∧ v = Int32.ofInt r.2.2) (fun u t => PostW D (TYs k) A (cW k z u r.1 r.2.1) t) A) args s (nn r.1 - nn π0) (sw r.1 - sw π0) A) (F0 m 51 ls [rfv g s0, rfv g s1]) := by
  have hS := hC.1
  have hq := km_Pc_applyWithFun_51 hmrApply   hC hv_x0 hv_s0 hv_s1 hm
  rw [Pc_applyWithFun_51] at hm
  refine lv_dup C.1 C.2.1 dX5_applyWithFun_51 (rfv_cat _ _) ?_
  refine lv_bipush (v := Int32.ofInt 9) C.1 C.2.1 dX5_applyWithFun_52 (by decide) ?_
  refine z_aload_n C dX5_applyWithFun_54 rfl (lv_at hl 0 rfl) ?_
  obtain ⟨g185, hm⟩ := grd_s hm
  refine cg_6_1 C h g185 cU_X5 (List.mem_cons_of_mem _ wl_X5_43) dX5_applyWithFun_55 ?_
  refine z_aload_n C dX5_applyWithFun_58 rfl (lv_at hl 0 rfl) ?_
  refine cg_6_2 C h g185 cU_X5 (List.mem_cons_of_mem _ wl_X5_7) dX5_applyWithFun_59 ?_
  refine lv_iconst (v := Int32.ofInt 1) C.1 C.2.1 dX5_applyWithFun_62 (by decide) ?_
  obtain ⟨r186, e187, hm⟩ := obd_s hm
  have q188 := (km_Sp_initB hC hv_s0 e187)
  obtain ⟨g189, hm⟩ := grd_s hm
  have q := km_Pc_applyWithFun_66 hmrApply  q188.2 (lt_ext hv_s0 q188.1) (lt_ext hv_s1 q188.1) hm
  refine c_callIvA C hE h g189 (kc_Sp_initB l D k z mi aK aV g N hC hv_s0 e187) (cwI 4 C.2.2.1 (gC_X9_init_ _) rfl rfl rfl (C.2.2.1 _ (List.mem_cons_of_mem _ wt_X9)) (C.2.2.1 _ (List.mem_cons_of_mem _ wm_X5_52)) (C.2.2.1 _ (List.mem_cons_of_mem _ wj_X9_init_)) rfl hdS_X9_init_ ⟨(by show 1 + 1 ≤ φ + 2; omega), (by show 8 + (5 + 11) + 30 ≤ ψ + 47; omega)⟩) rfl hl.1 rfl (by simp [rfv_cat, cat_i, cat_l]) dX5_applyWithFun_63 ⟨rcC hX q188.1 q.1, rsC hX q188.1 q.1⟩ (fun u H locs hg h => ?_)
  simp only [← gx_rfv hg hv_x0, ← gx_rfv hg hv_s0, ← gx_rfv hg hv_s1] at hl
  try simp only [← gx_rfv hg hv_x0, ← gx_rfv hg hv_s0, ← gx_rfv hg hv_s1]
  refine W_cast (wcC hX q188.1).symm (wsC hX q188.1).symm ?_
  exact kl_Pc_applyWithFun_66 (N := N) C hr hlk hE hφ hψ hmrApply hcrApply  q188.2 (hG.tr hg hX.1) (hX.tr q188.1) (lt_ext hv_s0 q188.1) (lt_ext hv_s1 q188.1) (lv_sub hl [1] rfl) h hm
set_option maxHeartbeats 8000000 in
set_option maxRecDepth 100000 in
theorem kl_Pc_applyWithFun_45 {r : Sh × St × Int} (C : Cx p s m args c cX5_applyWithFun RX5 (cd :: cWd) D (TYs k) 6) (hr : meth.sig.returnType = (some .int)) (hlk : meth.locks = false) (hE : Ev z mi aK aV A s s.heap) {rApply : Sh → St → Int → Int → Int → Option (Sh × St × Int)} (hφ : 20 ≤ φ) (hψ : 600 ≤ ψ) (hmrApply : ∀ {π : Sh} {σ : St} {y0 : Int} {y1 : Int} {y2 : Int} {r : Sh × St × Int}, Cl π σ → y0 < nn π → y1 < nn π → rApply π σ y0 y1 y2 = some r → ext π r.1 ∧ Cl r.1 r.2.1) (hcrApply : ∀ {g : Nat → Nat} {π : Sh} {σ : St} {y0 : Int} {y1 : Int} {y2 : Int} {r : Sh × St × Int}, Cl π σ → y0 < nn π → y1 < nn π → rApply π σ y0 y1 y2 = some r → Mi l yX5_apply (.code yX5_apply cX5_apply 3 (some .int) :: cWd) { frames := φ, cells := nn r.1 - nn π, slots := sw r.1 - sw π, locals := ψ } [rfv g y0, rfv g y1, .int (Int32.ofInt y2)] D (TYs k) (cW k z g π σ) (XV z mi aK aV (cW k z g π σ)) (Nat → Nat) (fun v u => gx (nn π) g u ∧ v = Int32.ofInt r.2.2) (fun u => cW k z u r.1 r.2.1) (nn r.1 - nn π) (sw r.1 - sw π))  {ls : Array Slot} {H : Heap} {locs : List Loc} {g : Nat → Nat} {π : Sh} {σ : St} {x0 : Int} {x1 : Int} {s0 : Int} (hC : Cl π σ) (hG : gx (nn π0) g0 g) (hX : ext π0 π) (hv_x0 : x0 < nn π) (hv_x1 : x1 < nn π) (hl : lv_has ls 6 [(0, rfv g x0), (1, rfv g x1)]) (h : Hp D A s.heap H locs (cW k z g π σ)) (hm : Pc_applyWithFun_45 N rApply π σ x0 x1 s0 = some r) : W p l e { frames := φ + 2, cells := nn r.1 - nn π0, slots := sw r.1 - sw π0, locals := ψ + 47 } s m args below meth c H locs (nn π - nn π0) (sw π - sw π0) (MQ below (va_Qi (fun v u => gx (nn π0) g0 u ∧ v = Int32.ofInt r.2.2) (fun u t => PostW D (TYs k) A (cW k z u r.1 r.2.1) t) A) args s (nn r.1 - nn π0) (sw r.1 - sw π0) A) (F0 m 45 ls [.int (Int32.ofInt s0)]) := by
  have hS := hC.1
  have hq := km_Pc_applyWithFun_45 hmrApply   hC hv_x0 hv_x1 hm
  rw [Pc_applyWithFun_45] at hm
  refine lv_istore (lv' := [(4, .int (Int32.ofInt s0)), (0, rfv g x0), (1, rfv g x1)]) C.1 C.2.1 dX5_applyWithFun_45 hl (by decide) rfl (fun ls hl => ?_)
  refine z_aload_n C dX5_applyWithFun_47 rfl (lv_at hl 2 rfl) ?_
  have q := km_Pc_applyWithFun_51 hmrApply  ((cl_nO hC (by decide) (by decide) _)) (lt_ext hv_x0 (ext_nO π 10 14)) lt_nO (lt_ext hv_x1 (ext_nO π 10 14)) hm
  refine c_new C h hC (by decide) dX5_applyWithFun_48 rfl cU_X9 tyX9_ok (List.mem_cons_of_mem _ wn_X5_50) (List.mem_cons_of_mem _ wi_X9) (List.mem_cons_of_mem _ wt_X9) (df_X9) (dn_X9 z) (rc1 hX q.1) (rs1 hX q.1) (fun u H hg h => ?_)
  simp only [← gx_rfv hg hv_x0, ← gx_rfv hg hv_x1] at hl
  try simp only [← gx_rfv hg hv_x0, ← gx_rfv hg hv_x1]
  refine W_cast (wcO (c := 10) (w := 14) hX).symm (wsO (c := 10) (w := 14) hX).symm ?_
  exact kl_Pc_applyWithFun_51 (N := N) C hr hlk hE hφ hψ hmrApply hcrApply  ((cl_nO hC (by decide) (by decide) _)) (hG.tr hg hX.1) (hX.tr (ext_nO π 10 14)) (lt_ext hv_x0 (ext_nO π 10 14)) lt_nO (lt_ext hv_x1 (ext_nO π 10 14)) (lv_sub hl [1, 0] rfl) h hm
set_option maxHeartbeats 8000000 in
set_option maxRecDepth 100000 in
theorem kl_Pc_applyWithFun_35 {r : Sh × St × Int} (C : Cx p s m args c cX5_applyWithFun RX5 (cd :: cWd) D (TYs k) 6) (hr : meth.sig.returnType = (some .int)) (hlk : meth.locks = false) (hE : Ev z mi aK aV A s s.heap) {rApply : Sh → St → Int → Int → Int → Option (Sh × St × Int)} (hφ : 20 ≤ φ) (hψ : 600 ≤ ψ) (hmrApply : ∀ {π : Sh} {σ : St} {y0 : Int} {y1 : Int} {y2 : Int} {r : Sh × St × Int}, Cl π σ → y0 < nn π → y1 < nn π → rApply π σ y0 y1 y2 = some r → ext π r.1 ∧ Cl r.1 r.2.1) (hcrApply : ∀ {g : Nat → Nat} {π : Sh} {σ : St} {y0 : Int} {y1 : Int} {y2 : Int} {r : Sh × St × Int}, Cl π σ → y0 < nn π → y1 < nn π → rApply π σ y0 y1 y2 = some r → Mi l yX5_apply (.code yX5_apply cX5_apply 3 (some .int) :: cWd) { frames := φ, cells := nn r.1 - nn π, slots := sw r.1 - sw π, locals := ψ } [rfv g y0, rfv g y1, .int (Int32.ofInt y2)] D (TYs k) (cW k z g π σ) (XV z mi aK aV (cW k z g π σ)) (Nat → Nat) (fun v u => gx (nn π) g u ∧ v = Int32.ofInt r.2.2) (fun u => cW k z u r.1 r.2.1) (nn r.1 - nn π) (sw r.1 - sw π))  {ls : Array Slot} {H : Heap} {locs : List Loc} {g : Nat → Nat} {π : Sh} {σ : St} {x0 : Int} {x1 : Int} {s0 : Int} (hC : Cl π σ) (hG : gx (nn π0) g0 g) (hX : ext π0 π) (hv_x0 : x0 < nn π) (hv_x1 : x1 < nn π) (hl : lv_has ls 6 [(0, rfv g x0), (1, rfv g x1)]) (h : Hp D A s.heap H locs (cW k z g π σ)) (hm : Pc_applyWithFun_35 N rApply π σ x0 x1 s0 = some r) : W p l e { frames := φ + 2, cells := nn r.1 - nn π0, slots := sw r.1 - sw π0, locals := ψ + 47 } s m args below meth c H locs (nn π - nn π0) (sw π - sw π0) (MQ below (va_Qi (fun v u => gx (nn π0) g0 u ∧ v = Int32.ofInt r.2.2) (fun u t => PostW D (TYs k) A (cW k z u r.1 r.2.1) t) A) args s (nn r.1 - nn π0) (sw r.1 - sw π0) A) (F0 m 35 ls [.int (Int32.ofInt s0)]) := by
  have hS := hC.1
  have hq := km_Pc_applyWithFun_35 hmrApply   hC hv_x0 hv_x1 hm
  rw [Pc_applyWithFun_35] at hm
  refine lv_istore_n (lv' := [(3, .int (Int32.ofInt s0)), (0, rfv g x0), (1, rfv g x1)]) C.1 C.2.1 dX5_applyWithFun_35 rfl hl (by decide) rfl (fun ls hl => ?_)
  refine z_aload_n C dX5_applyWithFun_36 rfl (lv_at hl 1 rfl) ?_
  obtain ⟨g149, hm⟩ := grd_s hm
  refine cg_6_6 C h g149 cU_X5 (List.mem_cons_of_mem _ wl_X5_22) dX5_applyWithFun_37 ?_
  refine z_aload_n C dX5_applyWithFun_40 rfl (lv_at hl 2 rfl) ?_
  refine lv_iload_n C.1 C.2.1 dX5_applyWithFun_41 rfl (lv_at hl 0 rfl) ?_
  obtain ⟨r150, e151, hm⟩ := obd_s hm
  have q152 := (km_Pc_applyAll hmrApply hC (cl_fl hC (f := 126) rfl x0) hv_x1 e151)
  have q := km_Pc_applyWithFun_45 hmrApply  q152.2 (lt_ext hv_x0 q152.1) (lt_ext hv_x1 q152.1) hm
  refine c_callSiA C hE h (kc_Pc_applyAll l D k z mi aK aV g N hφ hψ hmrApply hcrApply hC (cl_fl hC (f := 126) rfl x0) hv_x1 e151) (v_cwS 3 C.2.2.1 (gC_X5_applyAll _) rfl rfl rfl (C.2.2.1 _ (List.mem_cons_of_mem _ wt_X5)) (C.2.2.1 _ (List.mem_cons_of_mem _ wm_X5_75)) (C.2.2.1 _ (List.mem_cons_of_mem _ ws_X5_applyAll)) hdS_X5_applyAll ⟨(by show φ + 1 + 1 ≤ φ + 2; omega), (by show 8 + (6 + 11) + (ψ + 22) ≤ ψ + 47; omega)⟩) rfl hl.1 rfl (Nat.le_of_ble_eq_true rfl) dX5_applyWithFun_42 ⟨rcC hX q152.1 q.1, rsC hX q152.1 q.1⟩ (fun u H locs hg h => ?_)
  simp only [← gx_rfv hg hv_x0, ← gx_rfv hg hv_x1] at hl
  try simp only [← gx_rfv hg hv_x0, ← gx_rfv hg hv_x1]
  refine W_cast (wcC hX q152.1).symm (wsC hX q152.1).symm ?_
  exact kl_Pc_applyWithFun_45 (N := N) C hr hlk hE hφ hψ hmrApply hcrApply  q152.2 (hG.tr hg hX.1) (hX.tr q152.1) (lt_ext hv_x0 q152.1) (lt_ext hv_x1 q152.1) (lv_sub hl [1, 2] rfl) h hm
set_option maxHeartbeats 8000000 in
set_option maxRecDepth 100000 in
theorem kl_Pc_applyWithFun_32 {r : Sh × St × Int} (C : Cx p s m args c cX5_applyWithFun RX5 (cd :: cWd) D (TYs k) 6) (hr : meth.sig.returnType = (some .int)) (hlk : meth.locks = false) (hE : Ev z mi aK aV A s s.heap) {rApply : Sh → St → Int → Int → Int → Option (Sh × St × Int)} (hφ : 20 ≤ φ) (hψ : 600 ≤ ψ) (hmrApply : ∀ {π : Sh} {σ : St} {y0 : Int} {y1 : Int} {y2 : Int} {r : Sh × St × Int}, Cl π σ → y0 < nn π → y1 < nn π → rApply π σ y0 y1 y2 = some r → ext π r.1 ∧ Cl r.1 r.2.1) (hcrApply : ∀ {g : Nat → Nat} {π : Sh} {σ : St} {y0 : Int} {y1 : Int} {y2 : Int} {r : Sh × St × Int}, Cl π σ → y0 < nn π → y1 < nn π → rApply π σ y0 y1 y2 = some r → Mi l yX5_apply (.code yX5_apply cX5_apply 3 (some .int) :: cWd) { frames := φ, cells := nn r.1 - nn π, slots := sw r.1 - sw π, locals := ψ } [rfv g y0, rfv g y1, .int (Int32.ofInt y2)] D (TYs k) (cW k z g π σ) (XV z mi aK aV (cW k z g π σ)) (Nat → Nat) (fun v u => gx (nn π) g u ∧ v = Int32.ofInt r.2.2) (fun u => cW k z u r.1 r.2.1) (nn r.1 - nn π) (sw r.1 - sw π))  {ls : Array Slot} {H : Heap} {locs : List Loc} {g : Nat → Nat} {π : Sh} {σ : St} {x0 : Int} {x1 : Int} {s0 : Int} {s1 : Int} (hC : Cl π σ) (hG : gx (nn π0) g0 g) (hX : ext π0 π) (hv_x0 : x0 < nn π) (hv_x1 : x1 < nn π) (hv_s0 : s0 < nn π) (hv_s1 : s1 < nn π) (hl : lv_has ls 6 [(0, rfv g x0), (1, rfv g x1)]) (h : Hp D A s.heap H locs (cW k z g π σ)) (hm : Pc_applyWithFun_32 N rApply π σ x0 x1 s0 s1 = some r) : W p l e { frames := φ + 2, cells := nn r.1 - nn π0, slots := sw r.1 - sw π0, locals := ψ + 47 } s m args below meth c H locs (nn π - nn π0) (sw π - sw π0) (MQ below (va_Qi (fun v u => gx (nn π0) g0 u ∧ v = Int32.ofInt r.2.2) (fun u t => PostW D (TYs k) A (cW k z u r.1 r.2.1) t) A) args s (nn r.1 - nn π0) (sw r.1 - sw π0) A) (F0 m 32 ls [rfv g s0, rfv g s1]) := by
  have hS := hC.1
  have hq := km_Pc_applyWithFun_32 hmrApply   hC hv_x0 hv_x1 hv_s0 hv_s1 hm
  rw [Pc_applyWithFun_32] at hm
  obtain ⟨r120, e121, hm⟩ := obd_s hm
  have q122 := (km_Df_add hC hv_s1 hv_s0 e121)
  obtain ⟨g123, hm⟩ := grd_s hm
  have q := km_Pc_applyWithFun_35 hmrApply  q122.2 (lt_ext hv_x0 q122.1) (lt_ext hv_x1 q122.1) hm
  refine c_callViA C hE h g123 rfl (by decide) (kc_Df_add l D k z mi aK aV g N hC hv_s1 hv_s0 e121) (cwV 1 C.2.2.1 (gS_X5_59 _) rfl rfl rfl hd_X0_add ⟨(by show 7 + 1 ≤ φ + 2; omega), (by show 8 + (2 + 11) + 241 ≤ ψ + 47; omega)⟩) rfl hl.1 rfl (Nat.le_of_ble_eq_true rfl) dX5_applyWithFun_32 ⟨rcC hX q122.1 q.1, rsC hX q122.1 q.1⟩ (fun u H locs hg h => ?_)
  simp only [← gx_rfv hg hv_x0, ← gx_rfv hg hv_x1] at hl
  try simp only [← gx_rfv hg hv_x0, ← gx_rfv hg hv_x1]
  refine W_cast (wcC hX q122.1).symm (wsC hX q122.1).symm ?_
  exact kl_Pc_applyWithFun_35 (N := N) C hr hlk hE hφ hψ hmrApply hcrApply  q122.2 (hG.tr hg hX.1) (hX.tr q122.1) (lt_ext hv_x0 q122.1) (lt_ext hv_x1 q122.1) (lv_sub hl [0, 1] rfl) h hm
set_option maxHeartbeats 8000000 in
set_option maxRecDepth 100000 in
theorem kl_Pc_applyWithFun_28 {r : Sh × St × Int} (C : Cx p s m args c cX5_applyWithFun RX5 (cd :: cWd) D (TYs k) 6) (hr : meth.sig.returnType = (some .int)) (hlk : meth.locks = false) (hE : Ev z mi aK aV A s s.heap) {rApply : Sh → St → Int → Int → Int → Option (Sh × St × Int)} (hφ : 20 ≤ φ) (hψ : 600 ≤ ψ) (hmrApply : ∀ {π : Sh} {σ : St} {y0 : Int} {y1 : Int} {y2 : Int} {r : Sh × St × Int}, Cl π σ → y0 < nn π → y1 < nn π → rApply π σ y0 y1 y2 = some r → ext π r.1 ∧ Cl r.1 r.2.1) (hcrApply : ∀ {g : Nat → Nat} {π : Sh} {σ : St} {y0 : Int} {y1 : Int} {y2 : Int} {r : Sh × St × Int}, Cl π σ → y0 < nn π → y1 < nn π → rApply π σ y0 y1 y2 = some r → Mi l yX5_apply (.code yX5_apply cX5_apply 3 (some .int) :: cWd) { frames := φ, cells := nn r.1 - nn π, slots := sw r.1 - sw π, locals := ψ } [rfv g y0, rfv g y1, .int (Int32.ofInt y2)] D (TYs k) (cW k z g π σ) (XV z mi aK aV (cW k z g π σ)) (Nat → Nat) (fun v u => gx (nn π) g u ∧ v = Int32.ofInt r.2.2) (fun u => cW k z u r.1 r.2.1) (nn r.1 - nn π) (sw r.1 - sw π))  {ls : Array Slot} {H : Heap} {locs : List Loc} {g : Nat → Nat} {π : Sh} {σ : St} {x0 : Int} {x1 : Int} {x2 : Int} {s0 : Int} {s1 : Int} (hC : Cl π σ) (hG : gx (nn π0) g0 g) (hX : ext π0 π) (hv_x0 : x0 < nn π) (hv_x1 : x1 < nn π) (hv_s0 : s0 < nn π) (hv_s1 : s1 < nn π) (hl : lv_has ls 6 [(0, rfv g x0), (1, rfv g x1), (2, .int (Int32.ofInt x2))]) (h : Hp D A s.heap H locs (cW k z g π σ)) (hm : Pc_applyWithFun_28 N rApply π σ x0 x1 x2 s0 s1 = some r) : W p l e { frames := φ + 2, cells := nn r.1 - nn π0, slots := sw r.1 - sw π0, locals := ψ + 47 } s m args below meth c H locs (nn π - nn π0) (sw π - sw π0) (MQ below (va_Qi (fun v u => gx (nn π0) g0 u ∧ v = Int32.ofInt r.2.2) (fun u t => PostW D (TYs k) A (cW k z u r.1 r.2.1) t) A) args s (nn r.1 - nn π0) (sw r.1 - sw π0) A) (F0 m 28 ls [rfv g s0, rfv g s1]) := by
  have hS := hC.1
  have hq := km_Pc_applyWithFun_28 hmrApply   hC hv_x0 hv_x1 hv_s0 hv_s1 hm
  rw [Pc_applyWithFun_28] at hm
  refine lv_iload_n C.1 C.2.1 dX5_applyWithFun_28 rfl (lv_at hl 2 rfl) ?_
  obtain ⟨r88, e89, hm⟩ := obd_s hm
  have q90 := (km_Sp_give hC hv_s0 e89)
  obtain ⟨g91, hm⟩ := grd_s hm
  have q := km_Pc_applyWithFun_32 hmrApply  q90.2.1 (lt_ext hv_x0 q90.1) (lt_ext hv_x1 q90.1) q90.2.2 (lt_ext hv_s1 q90.1) hm
  refine c_callVqA C hE h g91 rfl (by decide) (kc_Sp_give l D k z mi aK aV g N hC hv_s0 e89) (cwV 1 C.2.2.1 (gS_X5_55 _) rfl rfl rfl hd_X9_give ⟨(by show 2 + 1 ≤ φ + 2; omega), (by show 8 + (2 + 11) + 82 ≤ ψ + 47; omega)⟩) rfl hl.1 rfl (by simp [rfv_cat, cat_i, cat_l]) dX5_applyWithFun_29 ⟨rcC hX q90.1 q.1, rsC hX q90.1 q.1⟩ (fun u H locs hg h => ?_)
  simp only [← gx_rfv hg hv_x0, ← gx_rfv hg hv_x1, ← gx_rfv hg hv_s1] at hl
  try simp only [← gx_rfv hg hv_x0, ← gx_rfv hg hv_x1, ← gx_rfv hg hv_s1]
  refine W_cast (wcC hX q90.1).symm (wsC hX q90.1).symm ?_
  exact kl_Pc_applyWithFun_32 (N := N) C hr hlk hE hφ hψ hmrApply hcrApply  q90.2.1 (hG.tr hg hX.1) (hX.tr q90.1) (lt_ext hv_x0 q90.1) (lt_ext hv_x1 q90.1) q90.2.2 (lt_ext hv_s1 q90.1) (lv_sub hl [0, 1] rfl) h hm
set_option maxHeartbeats 8000000 in
set_option maxRecDepth 100000 in
theorem kl_Pc_applyWithFun_13 {r : Sh × St × Int} (C : Cx p s m args c cX5_applyWithFun RX5 (cd :: cWd) D (TYs k) 6) (hr : meth.sig.returnType = (some .int)) (hlk : meth.locks = false) (hE : Ev z mi aK aV A s s.heap) {rApply : Sh → St → Int → Int → Int → Option (Sh × St × Int)} (hφ : 20 ≤ φ) (hψ : 600 ≤ ψ) (hmrApply : ∀ {π : Sh} {σ : St} {y0 : Int} {y1 : Int} {y2 : Int} {r : Sh × St × Int}, Cl π σ → y0 < nn π → y1 < nn π → rApply π σ y0 y1 y2 = some r → ext π r.1 ∧ Cl r.1 r.2.1) (hcrApply : ∀ {g : Nat → Nat} {π : Sh} {σ : St} {y0 : Int} {y1 : Int} {y2 : Int} {r : Sh × St × Int}, Cl π σ → y0 < nn π → y1 < nn π → rApply π σ y0 y1 y2 = some r → Mi l yX5_apply (.code yX5_apply cX5_apply 3 (some .int) :: cWd) { frames := φ, cells := nn r.1 - nn π, slots := sw r.1 - sw π, locals := ψ } [rfv g y0, rfv g y1, .int (Int32.ofInt y2)] D (TYs k) (cW k z g π σ) (XV z mi aK aV (cW k z g π σ)) (Nat → Nat) (fun v u => gx (nn π) g u ∧ v = Int32.ofInt r.2.2) (fun u => cW k z u r.1 r.2.1) (nn r.1 - nn π) (sw r.1 - sw π))  {ls : Array Slot} {H : Heap} {locs : List Loc} {g : Nat → Nat} {π : Sh} {σ : St} {x0 : Int} {x1 : Int} {x2 : Int} {s0 : Int} {s1 : Int} (hC : Cl π σ) (hG : gx (nn π0) g0 g) (hX : ext π0 π) (hv_x0 : x0 < nn π) (hv_x1 : x1 < nn π) (hv_s0 : s0 < nn π) (hv_s1 : s1 < nn π) (hl : lv_has ls 6 [(0, rfv g x0), (1, rfv g x1), (2, .int (Int32.ofInt x2))]) (h : Hp D A s.heap H locs (cW k z g π σ)) (hm : Pc_applyWithFun_13 N rApply π σ x0 x1 x2 s0 s1 = some r) : W p l e { frames := φ + 2, cells := nn r.1 - nn π0, slots := sw r.1 - sw π0, locals := ψ + 47 } s m args below meth c H locs (nn π - nn π0) (sw π - sw π0) (MQ below (va_Qi (fun v u => gx (nn π0) g0 u ∧ v = Int32.ofInt r.2.2) (fun u t => PostW D (TYs k) A (cW k z u r.1 r.2.1) t) A) args s (nn r.1 - nn π0) (sw r.1 - sw π0) A) (F0 m 13 ls [rfv g s0, rfv g s1]) := by
  have hS := hC.1
  have hq := km_Pc_applyWithFun_13 hmrApply   hC hv_x0 hv_x1 hv_s0 hv_s1 hm
  rw [Pc_applyWithFun_13] at hm
  refine lv_dup C.1 C.2.1 dX5_applyWithFun_13 (rfv_cat _ _) ?_
  refine lv_bipush (v := Int32.ofInt 9) C.1 C.2.1 dX5_applyWithFun_14 (by decide) ?_
  refine z_aload_n C dX5_applyWithFun_16 rfl (lv_at hl 0 rfl) ?_
  obtain ⟨g50, hm⟩ := grd_s hm
  refine cg_6_1 C h g50 cU_X5 (List.mem_cons_of_mem _ wl_X5_43) dX5_applyWithFun_17 ?_
  refine lv_iconst (v := Int32.ofInt 1) C.1 C.2.1 dX5_applyWithFun_20 (by decide) ?_
  refine z_aload_n C dX5_applyWithFun_21 rfl (lv_at hl 0 rfl) ?_
  refine cg_6_2 C h g50 cU_X5 (List.mem_cons_of_mem _ wl_X5_7) dX5_applyWithFun_22 ?_
  obtain ⟨r51, e52, hm⟩ := obd_s hm
  have q53 := (km_Sp_initB hC hv_s0 e52)
  obtain ⟨g54, hm⟩ := grd_s hm
  have q := km_Pc_applyWithFun_28 hmrApply  q53.2 (lt_ext hv_x0 q53.1) (lt_ext hv_x1 q53.1) (lt_ext hv_s0 q53.1) (lt_ext hv_s1 q53.1) hm
  refine c_callIvA C hE h g54 (kc_Sp_initB l D k z mi aK aV g N hC hv_s0 e52) (cwI 4 C.2.2.1 (gC_X9_init_ _) rfl rfl rfl (C.2.2.1 _ (List.mem_cons_of_mem _ wt_X9)) (C.2.2.1 _ (List.mem_cons_of_mem _ wm_X5_52)) (C.2.2.1 _ (List.mem_cons_of_mem _ wj_X9_init_)) rfl hdS_X9_init_ ⟨(by show 1 + 1 ≤ φ + 2; omega), (by show 8 + (5 + 11) + 30 ≤ ψ + 47; omega)⟩) rfl hl.1 rfl (by simp [rfv_cat, cat_i, cat_l]) dX5_applyWithFun_25 ⟨rcC hX q53.1 q.1, rsC hX q53.1 q.1⟩ (fun u H locs hg h => ?_)
  simp only [← gx_rfv hg hv_x0, ← gx_rfv hg hv_x1, ← gx_rfv hg hv_s0, ← gx_rfv hg hv_s1] at hl
  try simp only [← gx_rfv hg hv_x0, ← gx_rfv hg hv_x1, ← gx_rfv hg hv_s0, ← gx_rfv hg hv_s1]
  refine W_cast (wcC hX q53.1).symm (wsC hX q53.1).symm ?_
  exact kl_Pc_applyWithFun_28 (N := N) C hr hlk hE hφ hψ hmrApply hcrApply  q53.2 (hG.tr hg hX.1) (hX.tr q53.1) (lt_ext hv_x0 q53.1) (lt_ext hv_x1 q53.1) (lt_ext hv_s0 q53.1) (lt_ext hv_s1 q53.1) (lv_sub hl [0, 1, 2] rfl) h hm
set_option maxHeartbeats 8000000 in
set_option maxRecDepth 100000 in
theorem kl_Pc_applyWithFun_177 {r : Sh × St × Int} (C : Cx p s m args c cX5_applyWithFun RX5 (cd :: cWd) D (TYs k) 6) (hr : meth.sig.returnType = (some .int)) (hlk : meth.locks = false) (hE : Ev z mi aK aV A s s.heap) {rApply : Sh → St → Int → Int → Int → Option (Sh × St × Int)} (hφ : 20 ≤ φ) (hψ : 600 ≤ ψ) (hmrApply : ∀ {π : Sh} {σ : St} {y0 : Int} {y1 : Int} {y2 : Int} {r : Sh × St × Int}, Cl π σ → y0 < nn π → y1 < nn π → rApply π σ y0 y1 y2 = some r → ext π r.1 ∧ Cl r.1 r.2.1) (hcrApply : ∀ {g : Nat → Nat} {π : Sh} {σ : St} {y0 : Int} {y1 : Int} {y2 : Int} {r : Sh × St × Int}, Cl π σ → y0 < nn π → y1 < nn π → rApply π σ y0 y1 y2 = some r → Mi l yX5_apply (.code yX5_apply cX5_apply 3 (some .int) :: cWd) { frames := φ, cells := nn r.1 - nn π, slots := sw r.1 - sw π, locals := ψ } [rfv g y0, rfv g y1, .int (Int32.ofInt y2)] D (TYs k) (cW k z g π σ) (XV z mi aK aV (cW k z g π σ)) (Nat → Nat) (fun v u => gx (nn π) g u ∧ v = Int32.ofInt r.2.2) (fun u => cW k z u r.1 r.2.1) (nn r.1 - nn π) (sw r.1 - sw π))  {ls : Array Slot} {H : Heap} {locs : List Loc} {g : Nat → Nat} {π : Sh} {σ : St} {s0 : Int} (hC : Cl π σ) (hG : gx (nn π0) g0 g) (hX : ext π0 π)  (hl : lv_has ls 6 []) (h : Hp D A s.heap H locs (cW k z g π σ)) (hm : Pc_applyWithFun_177 N rApply π σ s0 = some r) : W p l e { frames := φ + 2, cells := nn r.1 - nn π0, slots := sw r.1 - sw π0, locals := ψ + 47 } s m args below meth c H locs (nn π - nn π0) (sw π - sw π0) (MQ below (va_Qi (fun v u => gx (nn π0) g0 u ∧ v = Int32.ofInt r.2.2) (fun u t => PostW D (TYs k) A (cW k z u r.1 r.2.1) t) A) args s (nn r.1 - nn π0) (sw r.1 - sw π0) A) (F0 m 177 ls [.int (Int32.ofInt s0)]) := by
  have hS := hC.1
  have hq := km_Pc_applyWithFun_177 hmrApply   hC  hm
  rw [Pc_applyWithFun_177] at hm
  cases hm
  exact c_iretA C hG h hr hlk dX5_applyWithFun_177 rfl
set_option maxHeartbeats 8000000 in
set_option maxRecDepth 100000 in
theorem kl_Pc_applyWithFun_174 {r : Sh × St × Int} (C : Cx p s m args c cX5_applyWithFun RX5 (cd :: cWd) D (TYs k) 6) (hr : meth.sig.returnType = (some .int)) (hlk : meth.locks = false) (hE : Ev z mi aK aV A s s.heap) {rApply : Sh → St → Int → Int → Int → Option (Sh × St × Int)} (hφ : 20 ≤ φ) (hψ : 600 ≤ ψ) (hmrApply : ∀ {π : Sh} {σ : St} {y0 : Int} {y1 : Int} {y2 : Int} {r : Sh × St × Int}, Cl π σ → y0 < nn π → y1 < nn π → rApply π σ y0 y1 y2 = some r → ext π r.1 ∧ Cl r.1 r.2.1) (hcrApply : ∀ {g : Nat → Nat} {π : Sh} {σ : St} {y0 : Int} {y1 : Int} {y2 : Int} {r : Sh × St × Int}, Cl π σ → y0 < nn π → y1 < nn π → rApply π σ y0 y1 y2 = some r → Mi l yX5_apply (.code yX5_apply cX5_apply 3 (some .int) :: cWd) { frames := φ, cells := nn r.1 - nn π, slots := sw r.1 - sw π, locals := ψ } [rfv g y0, rfv g y1, .int (Int32.ofInt y2)] D (TYs k) (cW k z g π σ) (XV z mi aK aV (cW k z g π σ)) (Nat → Nat) (fun v u => gx (nn π) g u ∧ v = Int32.ofInt r.2.2) (fun u => cW k z u r.1 r.2.1) (nn r.1 - nn π) (sw r.1 - sw π))  {ls : Array Slot} {H : Heap} {locs : List Loc} {g : Nat → Nat} {π : Sh} {σ : St} {s0 : Int} {s1 : Int} (hC : Cl π σ) (hG : gx (nn π0) g0 g) (hX : ext π0 π) (hv_s0 : s0 < nn π) (hv_s1 : s1 < nn π) (hl : lv_has ls 6 []) (h : Hp D A s.heap H locs (cW k z g π σ)) (hm : Pc_applyWithFun_174 N rApply π σ s0 s1 = some r) : W p l e { frames := φ + 2, cells := nn r.1 - nn π0, slots := sw r.1 - sw π0, locals := ψ + 47 } s m args below meth c H locs (nn π - nn π0) (sw π - sw π0) (MQ below (va_Qi (fun v u => gx (nn π0) g0 u ∧ v = Int32.ofInt r.2.2) (fun u t => PostW D (TYs k) A (cW k z u r.1 r.2.1) t) A) args s (nn r.1 - nn π0) (sw r.1 - sw π0) A) (F0 m 174 ls [rfv g s0, rfv g s1]) := by
  have hS := hC.1
  have hq := km_Pc_applyWithFun_174 hmrApply   hC hv_s0 hv_s1 hm
  rw [Pc_applyWithFun_174] at hm
  obtain ⟨r232, e233, hm⟩ := obd_s hm
  have q234 := (km_Df_add hC hv_s1 hv_s0 e233)
  obtain ⟨g235, hm⟩ := grd_s hm
  have q := km_Pc_applyWithFun_177 hmrApply  q234.2  hm
  refine c_callViA C hE h g235 rfl (by decide) (kc_Df_add l D k z mi aK aV g N hC hv_s1 hv_s0 e233) (cwV 1 C.2.2.1 (gS_X5_59 _) rfl rfl rfl hd_X0_add ⟨(by show 7 + 1 ≤ φ + 2; omega), (by show 8 + (2 + 11) + 241 ≤ ψ + 47; omega)⟩) rfl hl.1 rfl (Nat.le_of_ble_eq_true rfl) dX5_applyWithFun_174 ⟨rcC hX q234.1 q.1, rsC hX q234.1 q.1⟩ (fun u H locs hg h => ?_)
  refine W_cast (wcC hX q234.1).symm (wsC hX q234.1).symm ?_
  exact kl_Pc_applyWithFun_177 (N := N) C hr hlk hE hφ hψ hmrApply hcrApply  q234.2 (hG.tr hg hX.1) (hX.tr q234.1)  (lv_sub hl [] rfl) h hm
set_option maxHeartbeats 8000000 in
set_option maxRecDepth 100000 in
theorem kl_Pc_applyWithFun_169 {r : Sh × St × Int} (C : Cx p s m args c cX5_applyWithFun RX5 (cd :: cWd) D (TYs k) 6) (hr : meth.sig.returnType = (some .int)) (hlk : meth.locks = false) (hE : Ev z mi aK aV A s s.heap) {rApply : Sh → St → Int → Int → Int → Option (Sh × St × Int)} (hφ : 20 ≤ φ) (hψ : 600 ≤ ψ) (hmrApply : ∀ {π : Sh} {σ : St} {y0 : Int} {y1 : Int} {y2 : Int} {r : Sh × St × Int}, Cl π σ → y0 < nn π → y1 < nn π → rApply π σ y0 y1 y2 = some r → ext π r.1 ∧ Cl r.1 r.2.1) (hcrApply : ∀ {g : Nat → Nat} {π : Sh} {σ : St} {y0 : Int} {y1 : Int} {y2 : Int} {r : Sh × St × Int}, Cl π σ → y0 < nn π → y1 < nn π → rApply π σ y0 y1 y2 = some r → Mi l yX5_apply (.code yX5_apply cX5_apply 3 (some .int) :: cWd) { frames := φ, cells := nn r.1 - nn π, slots := sw r.1 - sw π, locals := ψ } [rfv g y0, rfv g y1, .int (Int32.ofInt y2)] D (TYs k) (cW k z g π σ) (XV z mi aK aV (cW k z g π σ)) (Nat → Nat) (fun v u => gx (nn π) g u ∧ v = Int32.ofInt r.2.2) (fun u => cW k z u r.1 r.2.1) (nn r.1 - nn π) (sw r.1 - sw π))  {ls : Array Slot} {H : Heap} {locs : List Loc} {g : Nat → Nat} {π : Sh} {σ : St} {x5 : Int} {s0 : Int} {s1 : Int} (hC : Cl π σ) (hG : gx (nn π0) g0 g) (hX : ext π0 π) (hv_s0 : s0 < nn π) (hv_s1 : s1 < nn π) (hl : lv_has ls 6 [(5, .int (Int32.ofInt x5))]) (h : Hp D A s.heap H locs (cW k z g π σ)) (hm : Pc_applyWithFun_169 N rApply π σ x5 s0 s1 = some r) : W p l e { frames := φ + 2, cells := nn r.1 - nn π0, slots := sw r.1 - sw π0, locals := ψ + 47 } s m args below meth c H locs (nn π - nn π0) (sw π - sw π0) (MQ below (va_Qi (fun v u => gx (nn π0) g0 u ∧ v = Int32.ofInt r.2.2) (fun u t => PostW D (TYs k) A (cW k z u r.1 r.2.1) t) A) args s (nn r.1 - nn π0) (sw r.1 - sw π0) A) (F0 m 169 ls [rfv g s0, rfv g s1]) := by
  have hS := hC.1
  have hq := km_Pc_applyWithFun_169 hmrApply   hC hv_s0 hv_s1 hm
  rw [Pc_applyWithFun_169] at hm
  refine lv_iload C.1 C.2.1 dX5_applyWithFun_169 (lv_at hl 0 rfl) ?_
  obtain ⟨r228, e229, hm⟩ := obd_s hm
  have q230 := (km_Sp_give hC hv_s0 e229)
  obtain ⟨g231, hm⟩ := grd_s hm
  have q := km_Pc_applyWithFun_174 hmrApply  q230.2.1 q230.2.2 (lt_ext hv_s1 q230.1) hm
  refine c_callVqA C hE h g231 rfl (by decide) (kc_Sp_give l D k z mi aK aV g N hC hv_s0 e229) (cwV 1 C.2.2.1 (gS_X5_55 _) rfl rfl rfl hd_X9_give ⟨(by show 2 + 1 ≤ φ + 2; omega), (by show 8 + (2 + 11) + 82 ≤ ψ + 47; omega)⟩) rfl hl.1 rfl (by simp [rfv_cat, cat_i, cat_l]) dX5_applyWithFun_171 ⟨rcC hX q230.1 q.1, rsC hX q230.1 q.1⟩ (fun u H locs hg h => ?_)
  try simp only [← gx_rfv hg hv_s1]
  refine W_cast (wcC hX q230.1).symm (wsC hX q230.1).symm ?_
  exact kl_Pc_applyWithFun_174 (N := N) C hr hlk hE hφ hψ hmrApply hcrApply  q230.2.1 (hG.tr hg hX.1) (hX.tr q230.1) q230.2.2 (lt_ext hv_s1 q230.1) (lv_sub hl [] rfl) h hm
set_option maxHeartbeats 8000000 in
set_option maxRecDepth 100000 in
theorem kl_Pc_applyWithFun_165 {r : Sh × St × Int} (C : Cx p s m args c cX5_applyWithFun RX5 (cd :: cWd) D (TYs k) 6) (hr : meth.sig.returnType = (some .int)) (hlk : meth.locks = false) (hE : Ev z mi aK aV A s s.heap) {rApply : Sh → St → Int → Int → Int → Option (Sh × St × Int)} (hφ : 20 ≤ φ) (hψ : 600 ≤ ψ) (hmrApply : ∀ {π : Sh} {σ : St} {y0 : Int} {y1 : Int} {y2 : Int} {r : Sh × St × Int}, Cl π σ → y0 < nn π → y1 < nn π → rApply π σ y0 y1 y2 = some r → ext π r.1 ∧ Cl r.1 r.2.1) (hcrApply : ∀ {g : Nat → Nat} {π : Sh} {σ : St} {y0 : Int} {y1 : Int} {y2 : Int} {r : Sh × St × Int}, Cl π σ → y0 < nn π → y1 < nn π → rApply π σ y0 y1 y2 = some r → Mi l yX5_apply (.code yX5_apply cX5_apply 3 (some .int) :: cWd) { frames := φ, cells := nn r.1 - nn π, slots := sw r.1 - sw π, locals := ψ } [rfv g y0, rfv g y1, .int (Int32.ofInt y2)] D (TYs k) (cW k z g π σ) (XV z mi aK aV (cW k z g π σ)) (Nat → Nat) (fun v u => gx (nn π) g u ∧ v = Int32.ofInt r.2.2) (fun u => cW k z u r.1 r.2.1) (nn r.1 - nn π) (sw r.1 - sw π))  {ls : Array Slot} {H : Heap} {locs : List Loc} {g : Nat → Nat} {π : Sh} {σ : St} {x3 : Int} {x5 : Int} {s0 : Int} {s1 : Int} (hC : Cl π σ) (hG : gx (nn π0) g0 g) (hX : ext π0 π) (hv_s0 : s0 < nn π) (hv_s1 : s1 < nn π) (hl : lv_has ls 6 [(3, .int (Int32.ofInt x3)), (5, .int (Int32.ofInt x5))]) (h : Hp D A s.heap H locs (cW k z g π σ)) (hm : Pc_applyWithFun_165 N rApply π σ x3 x5 s0 s1 = some r) : W p l e { frames := φ + 2, cells := nn r.1 - nn π0, slots := sw r.1 - sw π0, locals := ψ + 47 } s m args below meth c H locs (nn π - nn π0) (sw π - sw π0) (MQ below (va_Qi (fun v u => gx (nn π0) g0 u ∧ v = Int32.ofInt r.2.2) (fun u t => PostW D (TYs k) A (cW k z u r.1 r.2.1) t) A) args s (nn r.1 - nn π0) (sw r.1 - sw π0) A) (F0 m 165 ls [rfv g s0, rfv g s1]) := by
  have hS := hC.1
  have hq := km_Pc_applyWithFun_165 hmrApply   hC hv_s0 hv_s1 hm
  rw [Pc_applyWithFun_165] at hm
  refine lv_iload_n C.1 C.2.1 dX5_applyWithFun_165 rfl (lv_at hl 0 rfl) ?_
  obtain ⟨r224, e225, hm⟩ := obd_s hm
  have q226 := (km_Sp_give hC hv_s0 e225)
  obtain ⟨g227, hm⟩ := grd_s hm
  have q := km_Pc_applyWithFun_169 hmrApply  q226.2.1 q226.2.2 (lt_ext hv_s1 q226.1) hm
  refine c_callVqA C hE h g227 rfl (by decide) (kc_Sp_give l D k z mi aK aV g N hC hv_s0 e225) (cwV 1 C.2.2.1 (gS_X5_55 _) rfl rfl rfl hd_X9_give ⟨(by show 2 + 1 ≤ φ + 2; omega), (by show 8 + (2 + 11) + 82 ≤ ψ + 47; omega)⟩) rfl hl.1 rfl (by simp [rfv_cat, cat_i, cat_l]) dX5_applyWithFun_166 ⟨rcC hX q226.1 q.1, rsC hX q226.1 q.1⟩ (fun u H locs hg h => ?_)
  try simp only [← gx_rfv hg hv_s1]
  refine W_cast (wcC hX q226.1).symm (wsC hX q226.1).symm ?_
  exact kl_Pc_applyWithFun_169 (N := N) C hr hlk hE hφ hψ hmrApply hcrApply  q226.2.1 (hG.tr hg hX.1) (hX.tr q226.1) q226.2.2 (lt_ext hv_s1 q226.1) (lv_sub hl [1] rfl) h hm
set_option maxHeartbeats 8000000 in
set_option maxRecDepth 100000 in
theorem kl_Pc_applyWithFun_155 {r : Sh × St × Int} (C : Cx p s m args c cX5_applyWithFun RX5 (cd :: cWd) D (TYs k) 6) (hr : meth.sig.returnType = (some .int)) (hlk : meth.locks = false) (hE : Ev z mi aK aV A s s.heap) {rApply : Sh → St → Int → Int → Int → Option (Sh × St × Int)} (hφ : 20 ≤ φ) (hψ : 600 ≤ ψ) (hmrApply : ∀ {π : Sh} {σ : St} {y0 : Int} {y1 : Int} {y2 : Int} {r : Sh × St × Int}, Cl π σ → y0 < nn π → y1 < nn π → rApply π σ y0 y1 y2 = some r → ext π r.1 ∧ Cl r.1 r.2.1) (hcrApply : ∀ {g : Nat → Nat} {π : Sh} {σ : St} {y0 : Int} {y1 : Int} {y2 : Int} {r : Sh × St × Int}, Cl π σ → y0 < nn π → y1 < nn π → rApply π σ y0 y1 y2 = some r → Mi l yX5_apply (.code yX5_apply cX5_apply 3 (some .int) :: cWd) { frames := φ, cells := nn r.1 - nn π, slots := sw r.1 - sw π, locals := ψ } [rfv g y0, rfv g y1, .int (Int32.ofInt y2)] D (TYs k) (cW k z g π σ) (XV z mi aK aV (cW k z g π σ)) (Nat → Nat) (fun v u => gx (nn π) g u ∧ v = Int32.ofInt r.2.2) (fun u => cW k z u r.1 r.2.1) (nn r.1 - nn π) (sw r.1 - sw π))  {ls : Array Slot} {H : Heap} {locs : List Loc} {g : Nat → Nat} {π : Sh} {σ : St} {x0 : Int} {x3 : Int} {x5 : Int} {s0 : Int} {s1 : Int} (hC : Cl π σ) (hG : gx (nn π0) g0 g) (hX : ext π0 π) (hv_x0 : x0 < nn π) (hv_s0 : s0 < nn π) (hv_s1 : s1 < nn π) (hl : lv_has ls 6 [(0, rfv g x0), (3, .int (Int32.ofInt x3)), (5, .int (Int32.ofInt x5))]) (h : Hp D A s.heap H locs (cW k z g π σ)) (hm : Pc_applyWithFun_155 N rApply π σ x0 x3 x5 s0 s1 = some r) : W p l e { frames := φ + 2, cells := nn r.1 - nn π0, slots := sw r.1 - sw π0, locals := ψ + 47 } s m args below meth c H locs (nn π - nn π0) (sw π - sw π0) (MQ below (va_Qi (fun v u => gx (nn π0) g0 u ∧ v = Int32.ofInt r.2.2) (fun u t => PostW D (TYs k) A (cW k z u r.1 r.2.1) t) A) args s (nn r.1 - nn π0) (sw r.1 - sw π0) A) (F0 m 155 ls [rfv g s0, rfv g s1]) := by
  have hS := hC.1
  have hq := km_Pc_applyWithFun_155 hmrApply   hC hv_x0 hv_s0 hv_s1 hm
  rw [Pc_applyWithFun_155] at hm
  refine lv_dup C.1 C.2.1 dX5_applyWithFun_155 (rfv_cat _ _) ?_
  refine lv_bipush (v := Int32.ofInt 8) C.1 C.2.1 dX5_applyWithFun_156 (by decide) ?_
  refine z_aload_n C dX5_applyWithFun_158 rfl (lv_at hl 0 rfl) ?_
  obtain ⟨g219, hm⟩ := grd_s hm
  refine cg_6_1 C h g219 cU_X5 (List.mem_cons_of_mem _ wl_X5_43) dX5_applyWithFun_159 ?_
  obtain ⟨r220, e221, hm⟩ := obd_s hm
  have q222 := (km_Sp_init hC hv_s0 e221)
  obtain ⟨g223, hm⟩ := grd_s hm
  have q := km_Pc_applyWithFun_165 hmrApply  q222.2 (lt_ext hv_s0 q222.1) (lt_ext hv_s1 q222.1) hm
  refine c_callIvA C hE h g223 (kc_Sp_init l D k z mi aK aV g N hC hv_s0 e221) (cwI 2 C.2.2.1 (gC_X9_init _) rfl rfl rfl (C.2.2.1 _ (List.mem_cons_of_mem _ wt_X9)) (C.2.2.1 _ (List.mem_cons_of_mem _ wm_X5_65)) (C.2.2.1 _ (List.mem_cons_of_mem _ wj_X9_init)) rfl hdS_X9_init ⟨(by show 1 + 1 ≤ φ + 2; omega), (by show 8 + (3 + 11) + 30 ≤ ψ + 47; omega)⟩) rfl hl.1 rfl (by simp [rfv_cat, cat_i, cat_l]) dX5_applyWithFun_162 ⟨rcC hX q222.1 q.1, rsC hX q222.1 q.1⟩ (fun u H locs hg h => ?_)
  simp only [← gx_rfv hg hv_x0, ← gx_rfv hg hv_s0, ← gx_rfv hg hv_s1] at hl
  try simp only [← gx_rfv hg hv_x0, ← gx_rfv hg hv_s0, ← gx_rfv hg hv_s1]
  refine W_cast (wcC hX q222.1).symm (wsC hX q222.1).symm ?_
  exact kl_Pc_applyWithFun_165 (N := N) C hr hlk hE hφ hψ hmrApply hcrApply  q222.2 (hG.tr hg hX.1) (hX.tr q222.1) (lt_ext hv_s0 q222.1) (lt_ext hv_s1 q222.1) (lv_sub hl [1, 2] rfl) h hm
set_option maxHeartbeats 8000000 in
set_option maxRecDepth 100000 in
theorem kl_Pc_applyWithFun_149 {r : Sh × St × Int} (C : Cx p s m args c cX5_applyWithFun RX5 (cd :: cWd) D (TYs k) 6) (hr : meth.sig.returnType = (some .int)) (hlk : meth.locks = false) (hE : Ev z mi aK aV A s s.heap) {rApply : Sh → St → Int → Int → Int → Option (Sh × St × Int)} (hφ : 20 ≤ φ) (hψ : 600 ≤ ψ) (hmrApply : ∀ {π : Sh} {σ : St} {y0 : Int} {y1 : Int} {y2 : Int} {r : Sh × St × Int}, Cl π σ → y0 < nn π → y1 < nn π → rApply π σ y0 y1 y2 = some r → ext π r.1 ∧ Cl r.1 r.2.1) (hcrApply : ∀ {g : Nat → Nat} {π : Sh} {σ : St} {y0 : Int} {y1 : Int} {y2 : Int} {r : Sh × St × Int}, Cl π σ → y0 < nn π → y1 < nn π → rApply π σ y0 y1 y2 = some r → Mi l yX5_apply (.code yX5_apply cX5_apply 3 (some .int) :: cWd) { frames := φ, cells := nn r.1 - nn π, slots := sw r.1 - sw π, locals := ψ } [rfv g y0, rfv g y1, .int (Int32.ofInt y2)] D (TYs k) (cW k z g π σ) (XV z mi aK aV (cW k z g π σ)) (Nat → Nat) (fun v u => gx (nn π) g u ∧ v = Int32.ofInt r.2.2) (fun u => cW k z u r.1 r.2.1) (nn r.1 - nn π) (sw r.1 - sw π))  {ls : Array Slot} {H : Heap} {locs : List Loc} {g : Nat → Nat} {π : Sh} {σ : St} {x0 : Int} {x1 : Int} {x3 : Int} {s0 : Int} (hC : Cl π σ) (hG : gx (nn π0) g0 g) (hX : ext π0 π) (hv_x0 : x0 < nn π) (hv_x1 : x1 < nn π) (hl : lv_has ls 6 [(0, rfv g x0), (1, rfv g x1), (3, .int (Int32.ofInt x3))]) (h : Hp D A s.heap H locs (cW k z g π σ)) (hm : Pc_applyWithFun_149 N rApply π σ x0 x1 x3 s0 = some r) : W p l e { frames := φ + 2, cells := nn r.1 - nn π0, slots := sw r.1 - sw π0, locals := ψ + 47 } s m args below meth c H locs (nn π - nn π0) (sw π - sw π0) (MQ below (va_Qi (fun v u => gx (nn π0) g0 u ∧ v = Int32.ofInt r.2.2) (fun u t => PostW D (TYs k) A (cW k z u r.1 r.2.1) t) A) args s (nn r.1 - nn π0) (sw r.1 - sw π0) A) (F0 m 149 ls [.int (Int32.ofInt s0)]) := by
  have hS := hC.1
  have hq := km_Pc_applyWithFun_149 hmrApply   hC hv_x0 hv_x1 hm
  rw [Pc_applyWithFun_149] at hm
  refine lv_istore (lv' := [(5, .int (Int32.ofInt s0)), (0, rfv g x0), (1, rfv g x1), (3, .int (Int32.ofInt x3))]) C.1 C.2.1 dX5_applyWithFun_149 hl (by decide) rfl (fun ls hl => ?_)
  refine z_aload_n C dX5_applyWithFun_151 rfl (lv_at hl 2 rfl) ?_
  have q := km_Pc_applyWithFun_155 hmrApply  ((cl_nO hC (by decide) (by decide) _)) (lt_ext hv_x0 (ext_nO π 10 14)) lt_nO (lt_ext hv_x1 (ext_nO π 10 14)) hm
  refine c_new C h hC (by decide) dX5_applyWithFun_152 rfl cU_X9 tyX9_ok (List.mem_cons_of_mem _ wn_X5_50) (List.mem_cons_of_mem _ wi_X9) (List.mem_cons_of_mem _ wt_X9) (df_X9) (dn_X9 z) (rc1 hX q.1) (rs1 hX q.1) (fun u H hg h => ?_)
  simp only [← gx_rfv hg hv_x0, ← gx_rfv hg hv_x1] at hl
  try simp only [← gx_rfv hg hv_x0, ← gx_rfv hg hv_x1]
  refine W_cast (wcO (c := 10) (w := 14) hX).symm (wsO (c := 10) (w := 14) hX).symm ?_
  exact kl_Pc_applyWithFun_155 (N := N) C hr hlk hE hφ hψ hmrApply hcrApply  ((cl_nO hC (by decide) (by decide) _)) (hG.tr hg hX.1) (hX.tr (ext_nO π 10 14)) (lt_ext hv_x0 (ext_nO π 10 14)) lt_nO (lt_ext hv_x1 (ext_nO π 10 14)) (lv_sub hl [1, 3, 0] rfl) h hm
set_option maxHeartbeats 8000000 in
set_option maxRecDepth 100000 in
theorem kl_Pc_applyWithFun_137 {r : Sh × St × Int} (C : Cx p s m args c cX5_applyWithFun RX5 (cd :: cWd) D (TYs k) 6) (hr : meth.sig.returnType = (some .int)) (hlk : meth.locks = false) (hE : Ev z mi aK aV A s s.heap) {rApply : Sh → St → Int → Int → Int → Option (Sh × St × Int)} (hφ : 20 ≤ φ) (hψ : 600 ≤ ψ) (hmrApply : ∀ {π : Sh} {σ : St} {y0 : Int} {y1 : Int} {y2 : Int} {r : Sh × St × Int}, Cl π σ → y0 < nn π → y1 < nn π → rApply π σ y0 y1 y2 = some r → ext π r.1 ∧ Cl r.1 r.2.1) (hcrApply : ∀ {g : Nat → Nat} {π : Sh} {σ : St} {y0 : Int} {y1 : Int} {y2 : Int} {r : Sh × St × Int}, Cl π σ → y0 < nn π → y1 < nn π → rApply π σ y0 y1 y2 = some r → Mi l yX5_apply (.code yX5_apply cX5_apply 3 (some .int) :: cWd) { frames := φ, cells := nn r.1 - nn π, slots := sw r.1 - sw π, locals := ψ } [rfv g y0, rfv g y1, .int (Int32.ofInt y2)] D (TYs k) (cW k z g π σ) (XV z mi aK aV (cW k z g π σ)) (Nat → Nat) (fun v u => gx (nn π) g u ∧ v = Int32.ofInt r.2.2) (fun u => cW k z u r.1 r.2.1) (nn r.1 - nn π) (sw r.1 - sw π))  {ls : Array Slot} {H : Heap} {locs : List Loc} {g : Nat → Nat} {π : Sh} {σ : St} {x0 : Int} {x1 : Int} {x3 : Int} {s0 : Int} (hC : Cl π σ) (hG : gx (nn π0) g0 g) (hX : ext π0 π) (hv_x0 : x0 < nn π) (hv_x1 : x1 < nn π) (hl : lv_has ls 6 [(0, rfv g x0), (1, rfv g x1), (3, .int (Int32.ofInt x3))]) (h : Hp D A s.heap H locs (cW k z g π σ)) (hm : Pc_applyWithFun_137 N rApply π σ x0 x1 x3 s0 = some r) : W p l e { frames := φ + 2, cells := nn r.1 - nn π0, slots := sw r.1 - sw π0, locals := ψ + 47 } s m args below meth c H locs (nn π - nn π0) (sw π - sw π0) (MQ below (va_Qi (fun v u => gx (nn π0) g0 u ∧ v = Int32.ofInt r.2.2) (fun u t => PostW D (TYs k) A (cW k z u r.1 r.2.1) t) A) args s (nn r.1 - nn π0) (sw r.1 - sw π0) A) (F0 m 137 ls [.int (Int32.ofInt s0)]) := by
  have hS := hC.1
  have hq := km_Pc_applyWithFun_137 hmrApply   hC hv_x0 hv_x1 hm
  rw [Pc_applyWithFun_137] at hm
  refine lv_istore (lv' := [(4, .int (Int32.ofInt s0)), (0, rfv g x0), (1, rfv g x1), (3, .int (Int32.ofInt x3))]) C.1 C.2.1 dX5_applyWithFun_137 hl (by decide) rfl (fun ls hl => ?_)
  refine z_aload_n C dX5_applyWithFun_139 rfl (lv_at hl 1 rfl) ?_
  obtain ⟨g206, hm⟩ := grd_s hm
  refine cg_6_6 C h g206 cU_X5 (List.mem_cons_of_mem _ wl_X5_22) dX5_applyWithFun_140 ?_
  refine z_aload_n C dX5_applyWithFun_143 rfl (lv_at hl 2 rfl) ?_
  refine lv_iload C.1 C.2.1 dX5_applyWithFun_144 (lv_at hl 0 rfl) ?_
  obtain ⟨r207, e208, hm⟩ := obd_s hm
  have q209 := (km_Pc_applyAll hmrApply hC (cl_fl hC (f := 126) rfl x0) hv_x1 e208)
  have q := km_Pc_applyWithFun_149 hmrApply  q209.2 (lt_ext hv_x0 q209.1) (lt_ext hv_x1 q209.1) hm
  refine c_callSiA C hE h (kc_Pc_applyAll l D k z mi aK aV g N hφ hψ hmrApply hcrApply hC (cl_fl hC (f := 126) rfl x0) hv_x1 e208) (v_cwS 3 C.2.2.1 (gC_X5_applyAll _) rfl rfl rfl (C.2.2.1 _ (List.mem_cons_of_mem _ wt_X5)) (C.2.2.1 _ (List.mem_cons_of_mem _ wm_X5_75)) (C.2.2.1 _ (List.mem_cons_of_mem _ ws_X5_applyAll)) hdS_X5_applyAll ⟨(by show φ + 1 + 1 ≤ φ + 2; omega), (by show 8 + (6 + 11) + (ψ + 22) ≤ ψ + 47; omega)⟩) rfl hl.1 rfl (Nat.le_of_ble_eq_true rfl) dX5_applyWithFun_146 ⟨rcC hX q209.1 q.1, rsC hX q209.1 q.1⟩ (fun u H locs hg h => ?_)
  simp only [← gx_rfv hg hv_x0, ← gx_rfv hg hv_x1] at hl
  try simp only [← gx_rfv hg hv_x0, ← gx_rfv hg hv_x1]
  refine W_cast (wcC hX q209.1).symm (wsC hX q209.1).symm ?_
  exact kl_Pc_applyWithFun_149 (N := N) C hr hlk hE hφ hψ hmrApply hcrApply  q209.2 (hG.tr hg hX.1) (hX.tr q209.1) (lt_ext hv_x0 q209.1) (lt_ext hv_x1 q209.1) (lv_sub hl [1, 2, 3] rfl) h hm
set_option maxHeartbeats 8000000 in
set_option maxRecDepth 100000 in
theorem kl_Pc_applyWithFun_134 {r : Sh × St × Int} (C : Cx p s m args c cX5_applyWithFun RX5 (cd :: cWd) D (TYs k) 6) (hr : meth.sig.returnType = (some .int)) (hlk : meth.locks = false) (hE : Ev z mi aK aV A s s.heap) {rApply : Sh → St → Int → Int → Int → Option (Sh × St × Int)} (hφ : 20 ≤ φ) (hψ : 600 ≤ ψ) (hmrApply : ∀ {π : Sh} {σ : St} {y0 : Int} {y1 : Int} {y2 : Int} {r : Sh × St × Int}, Cl π σ → y0 < nn π → y1 < nn π → rApply π σ y0 y1 y2 = some r → ext π r.1 ∧ Cl r.1 r.2.1) (hcrApply : ∀ {g : Nat → Nat} {π : Sh} {σ : St} {y0 : Int} {y1 : Int} {y2 : Int} {r : Sh × St × Int}, Cl π σ → y0 < nn π → y1 < nn π → rApply π σ y0 y1 y2 = some r → Mi l yX5_apply (.code yX5_apply cX5_apply 3 (some .int) :: cWd) { frames := φ, cells := nn r.1 - nn π, slots := sw r.1 - sw π, locals := ψ } [rfv g y0, rfv g y1, .int (Int32.ofInt y2)] D (TYs k) (cW k z g π σ) (XV z mi aK aV (cW k z g π σ)) (Nat → Nat) (fun v u => gx (nn π) g u ∧ v = Int32.ofInt r.2.2) (fun u => cW k z u r.1 r.2.1) (nn r.1 - nn π) (sw r.1 - sw π))  {ls : Array Slot} {H : Heap} {locs : List Loc} {g : Nat → Nat} {π : Sh} {σ : St} {x0 : Int} {x1 : Int} {x3 : Int} {s0 : Int} {s1 : Int} (hC : Cl π σ) (hG : gx (nn π0) g0 g) (hX : ext π0 π) (hv_x0 : x0 < nn π) (hv_x1 : x1 < nn π) (hv_s0 : s0 < nn π) (hv_s1 : s1 < nn π) (hl : lv_has ls 6 [(0, rfv g x0), (1, rfv g x1), (3, .int (Int32.ofInt x3))]) (h : Hp D A s.heap H locs (cW k z g π σ)) (hm : Pc_applyWithFun_134 N rApply π σ x0 x1 x3 s0 s1 = some r) : W p l e { frames := φ + 2, cells := nn r.1 - nn π0, slots := sw r.1 - sw π0, locals := ψ + 47 } s m args below meth c H locs (nn π - nn π0) (sw π - sw π0) (MQ below (va_Qi (fun v u => gx (nn π0) g0 u ∧ v = Int32.ofInt r.2.2) (fun u t => PostW D (TYs k) A (cW k z u r.1 r.2.1) t) A) args s (nn r.1 - nn π0) (sw r.1 - sw π0) A) (F0 m 134 ls [rfv g s0, rfv g s1]) := by
  have hS := hC.1
  have hq := km_Pc_applyWithFun_134 hmrApply   hC hv_x0 hv_x1 hv_s0 hv_s1 hm
  rw [Pc_applyWithFun_134] at hm
  obtain ⟨r194, e195, hm⟩ := obd_s hm
  have q196 := (km_Df_add hC hv_s1 hv_s0 e195)
  obtain ⟨g197, hm⟩ := grd_s hm
  have q := km_Pc_applyWithFun_137 hmrApply  q196.2 (lt_ext hv_x0 q196.1) (lt_ext hv_x1 q196.1) hm
  refine c_callViA C hE h g197 rfl (by decide) (kc_Df_add l D k z mi aK aV g N hC hv_s1 hv_s0 e195) (cwV 1 C.2.2.1 (gS_X5_59 _) rfl rfl rfl hd_X0_add ⟨(by show 7 + 1 ≤ φ + 2; omega), (by show 8 + (2 + 11) + 241 ≤ ψ + 47; omega)⟩) rfl hl.1 rfl (Nat.le_of_ble_eq_true rfl) dX5_applyWithFun_134 ⟨rcC hX q196.1 q.1, rsC hX q196.1 q.1⟩ (fun u H locs hg h => ?_)
  simp only [← gx_rfv hg hv_x0, ← gx_rfv hg hv_x1] at hl
  try simp only [← gx_rfv hg hv_x0, ← gx_rfv hg hv_x1]
  refine W_cast (wcC hX q196.1).symm (wsC hX q196.1).symm ?_
  exact kl_Pc_applyWithFun_137 (N := N) C hr hlk hE hφ hψ hmrApply hcrApply  q196.2 (hG.tr hg hX.1) (hX.tr q196.1) (lt_ext hv_x0 q196.1) (lt_ext hv_x1 q196.1) (lv_sub hl [0, 1, 2] rfl) h hm
set_option maxHeartbeats 8000000 in
set_option maxRecDepth 100000 in
theorem kl_Pc_applyWithFun_130 {r : Sh × St × Int} (C : Cx p s m args c cX5_applyWithFun RX5 (cd :: cWd) D (TYs k) 6) (hr : meth.sig.returnType = (some .int)) (hlk : meth.locks = false) (hE : Ev z mi aK aV A s s.heap) {rApply : Sh → St → Int → Int → Int → Option (Sh × St × Int)} (hφ : 20 ≤ φ) (hψ : 600 ≤ ψ) (hmrApply : ∀ {π : Sh} {σ : St} {y0 : Int} {y1 : Int} {y2 : Int} {r : Sh × St × Int}, Cl π σ → y0 < nn π → y1 < nn π → rApply π σ y0 y1 y2 = some r → ext π r.1 ∧ Cl r.1 r.2.1) (hcrApply : ∀ {g : Nat → Nat} {π : Sh} {σ : St} {y0 : Int} {y1 : Int} {y2 : Int} {r : Sh × St × Int}, Cl π σ → y0 < nn π → y1 < nn π → rApply π σ y0 y1 y2 = some r → Mi l yX5_apply (.code yX5_apply cX5_apply 3 (some .int) :: cWd) { frames := φ, cells := nn r.1 - nn π, slots := sw r.1 - sw π, locals := ψ } [rfv g y0, rfv g y1, .int (Int32.ofInt y2)] D (TYs k) (cW k z g π σ) (XV z mi aK aV (cW k z g π σ)) (Nat → Nat) (fun v u => gx (nn π) g u ∧ v = Int32.ofInt r.2.2) (fun u => cW k z u r.1 r.2.1) (nn r.1 - nn π) (sw r.1 - sw π))  {ls : Array Slot} {H : Heap} {locs : List Loc} {g : Nat → Nat} {π : Sh} {σ : St} {x0 : Int} {x1 : Int} {x2 : Int} {x3 : Int} {s0 : Int} {s1 : Int} (hC : Cl π σ) (hG : gx (nn π0) g0 g) (hX : ext π0 π) (hv_x0 : x0 < nn π) (hv_x1 : x1 < nn π) (hv_s0 : s0 < nn π) (hv_s1 : s1 < nn π) (hl : lv_has ls 6 [(0, rfv g x0), (1, rfv g x1), (2, .int (Int32.ofInt x2)), (3, .int (Int32.ofInt x3))]) (h : Hp D A s.heap H locs (cW k z g π σ)) (hm : Pc_applyWithFun_130 N rApply π σ x0 x1 x2 x3 s0 s1 = some r) : W p l e { frames := φ + 2, cells := nn r.1 - nn π0, slots := sw r.1 - sw π0, locals := ψ + 47 } s m args below meth c H locs (nn π - nn π0) (sw π - sw π0) (MQ below (va_Qi (fun v u => gx (nn π0) g0 u ∧ v = Int32.ofInt r.2.2) (fun u t => PostW D (TYs k) A (cW k z u r.1 r.2.1) t) A) args s (nn r.1 - nn π0) (sw r.1 - sw π0) A) (F0 m 130 ls [rfv g s0, rfv g s1]) := by
  have hS := hC.1
  have hq := km_Pc_applyWithFun_130 hmrApply   hC hv_x0 hv_x1 hv_s0 hv_s1 hm
  rw [Pc_applyWithFun_130] at hm
  refine lv_iload_n C.1 C.2.1 dX5_applyWithFun_130 rfl (lv_at hl 2 rfl) ?_
  obtain ⟨r181, e182, hm⟩ := obd_s hm
  have q183 := (km_Sp_give hC hv_s0 e182)
  obtain ⟨g184, hm⟩ := grd_s hm
  have q := km_Pc_applyWithFun_134 hmrApply  q183.2.1 (lt_ext hv_x0 q183.1) (lt_ext hv_x1 q183.1) q183.2.2 (lt_ext hv_s1 q183.1) hm
  refine c_callVqA C hE h g184 rfl (by decide) (kc_Sp_give l D k z mi aK aV g N hC hv_s0 e182) (cwV 1 C.2.2.1 (gS_X5_55 _) rfl rfl rfl hd_X9_give ⟨(by show 2 + 1 ≤ φ + 2; omega), (by show 8 + (2 + 11) + 82 ≤ ψ + 47; omega)⟩) rfl hl.1 rfl (by simp [rfv_cat, cat_i, cat_l]) dX5_applyWithFun_131 ⟨rcC hX q183.1 q.1, rsC hX q183.1 q.1⟩ (fun u H locs hg h => ?_)
  simp only [← gx_rfv hg hv_x0, ← gx_rfv hg hv_x1, ← gx_rfv hg hv_s1] at hl
  try simp only [← gx_rfv hg hv_x0, ← gx_rfv hg hv_x1, ← gx_rfv hg hv_s1]
  refine W_cast (wcC hX q183.1).symm (wsC hX q183.1).symm ?_
  exact kl_Pc_applyWithFun_134 (N := N) C hr hlk hE hφ hψ hmrApply hcrApply  q183.2.1 (hG.tr hg hX.1) (hX.tr q183.1) (lt_ext hv_x0 q183.1) (lt_ext hv_x1 q183.1) q183.2.2 (lt_ext hv_s1 q183.1) (lv_sub hl [0, 1, 3] rfl) h hm
set_option maxHeartbeats 8000000 in
set_option maxRecDepth 100000 in
theorem kl_Pc_applyWithFun_115 {r : Sh × St × Int} (C : Cx p s m args c cX5_applyWithFun RX5 (cd :: cWd) D (TYs k) 6) (hr : meth.sig.returnType = (some .int)) (hlk : meth.locks = false) (hE : Ev z mi aK aV A s s.heap) {rApply : Sh → St → Int → Int → Int → Option (Sh × St × Int)} (hφ : 20 ≤ φ) (hψ : 600 ≤ ψ) (hmrApply : ∀ {π : Sh} {σ : St} {y0 : Int} {y1 : Int} {y2 : Int} {r : Sh × St × Int}, Cl π σ → y0 < nn π → y1 < nn π → rApply π σ y0 y1 y2 = some r → ext π r.1 ∧ Cl r.1 r.2.1) (hcrApply : ∀ {g : Nat → Nat} {π : Sh} {σ : St} {y0 : Int} {y1 : Int} {y2 : Int} {r : Sh × St × Int}, Cl π σ → y0 < nn π → y1 < nn π → rApply π σ y0 y1 y2 = some r → Mi l yX5_apply (.code yX5_apply cX5_apply 3 (some .int) :: cWd) { frames := φ, cells := nn r.1 - nn π, slots := sw r.1 - sw π, locals := ψ } [rfv g y0, rfv g y1, .int (Int32.ofInt y2)] D (TYs k) (cW k z g π σ) (XV z mi aK aV (cW k z g π σ)) (Nat → Nat) (fun v u => gx (nn π) g u ∧ v = Int32.ofInt r.2.2) (fun u => cW k z u r.1 r.2.1) (nn r.1 - nn π) (sw r.1 - sw π))  {ls : Array Slot} {H : Heap} {locs : List Loc} {g : Nat → Nat} {π : Sh} {σ : St} {x0 : Int} {x1 : Int} {x2 : Int} {x3 : Int} {s0 : Int} {s1 : Int} (hC : Cl π σ) (hG : gx (nn π0) g0 g) (hX : ext π0 π) (hv_x0 : x0 < nn π) (hv_x1 : x1 < nn π) (hv_s0 : s0 < nn π) (hv_s1 : s1 < nn π) (hl : lv_has ls 6 [(0, rfv g x0), (1, rfv g x1), (2, .int (Int32.ofInt x2)), (3, .int (Int32.ofInt x3))]) (h : Hp D A s.heap H locs (cW k z g π σ)) (hm : Pc_applyWithFun_115 N rApply π σ x0 x1 x2 x3 s0 s1 = some r) : W p l e { frames := φ + 2, cells := nn r.1 - nn π0, slots := sw r.1 - sw π0, locals := ψ + 47 } s m args below meth c H locs (nn π - nn π0) (sw π - sw π0) (MQ below (va_Qi (fun v u => gx (nn π0) g0 u ∧ v = Int32.ofInt r.2.2) (fun u t => PostW D (TYs k) A (cW k z u r.1 r.2.1) t) A) args s (nn r.1 - nn π0) (sw r.1 - sw π0) A) (F0 m 115 ls [rfv g s0, rfv g s1]) := by
  have hS := hC.1
  have hq := km_Pc_applyWithFun_115 hmrApply   hC hv_x0 hv_x1 hv_s0 hv_s1 hm
  rw [Pc_applyWithFun_115] at hm
  refine lv_dup C.1 C.2.1 dX5_applyWithFun_115 (rfv_cat _ _) ?_
  refine lv_bipush (v := Int32.ofInt 23) C.1 C.2.1 dX5_applyWithFun_116 (by decide) ?_
  refine z_aload_n C dX5_applyWithFun_118 rfl (lv_at hl 0 rfl) ?_
  obtain ⟨g170, hm⟩ := grd_s hm
  refine cg_6_1 C h g170 cU_X5 (List.mem_cons_of_mem _ wl_X5_43) dX5_applyWithFun_119 ?_
  refine z_aload_n C dX5_applyWithFun_122 rfl (lv_at hl 0 rfl) ?_
  refine cg_6_2 C h g170 cU_X5 (List.mem_cons_of_mem _ wl_X5_7) dX5_applyWithFun_123 ?_
  refine lv_iconst (v := Int32.ofInt 0) C.1 C.2.1 dX5_applyWithFun_126 (by decide) ?_
  obtain ⟨r171, e172, hm⟩ := obd_s hm
  have q173 := (km_Sp_initB hC hv_s0 e172)
  obtain ⟨g174, hm⟩ := grd_s hm
  have q := km_Pc_applyWithFun_130 hmrApply  q173.2 (lt_ext hv_x0 q173.1) (lt_ext hv_x1 q173.1) (lt_ext hv_s0 q173.1) (lt_ext hv_s1 q173.1) hm
  refine c_callIvA C hE h g174 (kc_Sp_initB l D k z mi aK aV g N hC hv_s0 e172) (cwI 4 C.2.2.1 (gC_X9_init_ _) rfl rfl rfl (C.2.2.1 _ (List.mem_cons_of_mem _ wt_X9)) (C.2.2.1 _ (List.mem_cons_of_mem _ wm_X5_52)) (C.2.2.1 _ (List.mem_cons_of_mem _ wj_X9_init_)) rfl hdS_X9_init_ ⟨(by show 1 + 1 ≤ φ + 2; omega), (by show 8 + (5 + 11) + 30 ≤ ψ + 47; omega)⟩) rfl hl.1 rfl (by simp [rfv_cat, cat_i, cat_l]) dX5_applyWithFun_127 ⟨rcC hX q173.1 q.1, rsC hX q173.1 q.1⟩ (fun u H locs hg h => ?_)
  simp only [← gx_rfv hg hv_x0, ← gx_rfv hg hv_x1, ← gx_rfv hg hv_s0, ← gx_rfv hg hv_s1] at hl
  try simp only [← gx_rfv hg hv_x0, ← gx_rfv hg hv_x1, ← gx_rfv hg hv_s0, ← gx_rfv hg hv_s1]
  refine W_cast (wcC hX q173.1).symm (wsC hX q173.1).symm ?_
  exact kl_Pc_applyWithFun_130 (N := N) C hr hlk hE hφ hψ hmrApply hcrApply  q173.2 (hG.tr hg hX.1) (hX.tr q173.1) (lt_ext hv_x0 q173.1) (lt_ext hv_x1 q173.1) (lt_ext hv_s0 q173.1) (lt_ext hv_s1 q173.1) (lv_sub hl [0, 1, 2, 3] rfl) h hm
set_option maxHeartbeats 8000000 in
set_option maxRecDepth 100000 in
theorem kl_Pc_applyWithFun_110 {r : Sh × St × Int} (C : Cx p s m args c cX5_applyWithFun RX5 (cd :: cWd) D (TYs k) 6) (hr : meth.sig.returnType = (some .int)) (hlk : meth.locks = false) (hE : Ev z mi aK aV A s s.heap) {rApply : Sh → St → Int → Int → Int → Option (Sh × St × Int)} (hφ : 20 ≤ φ) (hψ : 600 ≤ ψ) (hmrApply : ∀ {π : Sh} {σ : St} {y0 : Int} {y1 : Int} {y2 : Int} {r : Sh × St × Int}, Cl π σ → y0 < nn π → y1 < nn π → rApply π σ y0 y1 y2 = some r → ext π r.1 ∧ Cl r.1 r.2.1) (hcrApply : ∀ {g : Nat → Nat} {π : Sh} {σ : St} {y0 : Int} {y1 : Int} {y2 : Int} {r : Sh × St × Int}, Cl π σ → y0 < nn π → y1 < nn π → rApply π σ y0 y1 y2 = some r → Mi l yX5_apply (.code yX5_apply cX5_apply 3 (some .int) :: cWd) { frames := φ, cells := nn r.1 - nn π, slots := sw r.1 - sw π, locals := ψ } [rfv g y0, rfv g y1, .int (Int32.ofInt y2)] D (TYs k) (cW k z g π σ) (XV z mi aK aV (cW k z g π σ)) (Nat → Nat) (fun v u => gx (nn π) g u ∧ v = Int32.ofInt r.2.2) (fun u => cW k z u r.1 r.2.1) (nn r.1 - nn π) (sw r.1 - sw π))  {ls : Array Slot} {H : Heap} {locs : List Loc} {g : Nat → Nat} {π : Sh} {σ : St} {x0 : Int} {x1 : Int} {x2 : Int} {s0 : Int} (hC : Cl π σ) (hG : gx (nn π0) g0 g) (hX : ext π0 π) (hv_x0 : x0 < nn π) (hv_x1 : x1 < nn π) (hl : lv_has ls 6 [(0, rfv g x0), (1, rfv g x1), (2, .int (Int32.ofInt x2))]) (h : Hp D A s.heap H locs (cW k z g π σ)) (hm : Pc_applyWithFun_110 N rApply π σ x0 x1 x2 s0 = some r) : W p l e { frames := φ + 2, cells := nn r.1 - nn π0, slots := sw r.1 - sw π0, locals := ψ + 47 } s m args below meth c H locs (nn π - nn π0) (sw π - sw π0) (MQ below (va_Qi (fun v u => gx (nn π0) g0 u ∧ v = Int32.ofInt r.2.2) (fun u t => PostW D (TYs k) A (cW k z u r.1 r.2.1) t) A) args s (nn r.1 - nn π0) (sw r.1 - sw π0) A) (F0 m 110 ls [.int (Int32.ofInt s0)]) := by
  have hS := hC.1
  have hq := km_Pc_applyWithFun_110 hmrApply   hC hv_x0 hv_x1 hm
  rw [Pc_applyWithFun_110] at hm
  refine lv_istore_n (lv' := [(3, .int (Int32.ofInt s0)), (0, rfv g x0), (1, rfv g x1), (2, .int (Int32.ofInt x2))]) C.1 C.2.1 dX5_applyWithFun_110 rfl hl (by decide) rfl (fun ls hl => ?_)
  refine z_aload_n C dX5_applyWithFun_111 rfl (lv_at hl 2 rfl) ?_
  have q := km_Pc_applyWithFun_115 hmrApply  ((cl_nO hC (by decide) (by decide) _)) (lt_ext hv_x0 (ext_nO π 10 14)) (lt_ext hv_x1 (ext_nO π 10 14)) lt_nO (lt_ext hv_x1 (ext_nO π 10 14)) hm
  refine c_new C h hC (by decide) dX5_applyWithFun_112 rfl cU_X9 tyX9_ok (List.mem_cons_of_mem _ wn_X5_50) (List.mem_cons_of_mem _ wi_X9) (List.mem_cons_of_mem _ wt_X9) (df_X9) (dn_X9 z) (rc1 hX q.1) (rs1 hX q.1) (fun u H hg h => ?_)
  simp only [← gx_rfv hg hv_x0, ← gx_rfv hg hv_x1] at hl
  try simp only [← gx_rfv hg hv_x0, ← gx_rfv hg hv_x1]
  refine W_cast (wcO (c := 10) (w := 14) hX).symm (wsO (c := 10) (w := 14) hX).symm ?_
  exact kl_Pc_applyWithFun_115 (N := N) C hr hlk hE hφ hψ hmrApply hcrApply  ((cl_nO hC (by decide) (by decide) _)) (hG.tr hg hX.1) (hX.tr (ext_nO π 10 14)) (lt_ext hv_x0 (ext_nO π 10 14)) (lt_ext hv_x1 (ext_nO π 10 14)) lt_nO (lt_ext hv_x1 (ext_nO π 10 14)) (lv_sub hl [1, 2, 3, 0] rfl) h hm
set_option maxHeartbeats 8000000 in
set_option maxRecDepth 100000 in
theorem kl_Pc_applyWithFun_107 {r : Sh × St × Int} (C : Cx p s m args c cX5_applyWithFun RX5 (cd :: cWd) D (TYs k) 6) (hr : meth.sig.returnType = (some .int)) (hlk : meth.locks = false) (hE : Ev z mi aK aV A s s.heap) {rApply : Sh → St → Int → Int → Int → Option (Sh × St × Int)} (hφ : 20 ≤ φ) (hψ : 600 ≤ ψ) (hmrApply : ∀ {π : Sh} {σ : St} {y0 : Int} {y1 : Int} {y2 : Int} {r : Sh × St × Int}, Cl π σ → y0 < nn π → y1 < nn π → rApply π σ y0 y1 y2 = some r → ext π r.1 ∧ Cl r.1 r.2.1) (hcrApply : ∀ {g : Nat → Nat} {π : Sh} {σ : St} {y0 : Int} {y1 : Int} {y2 : Int} {r : Sh × St × Int}, Cl π σ → y0 < nn π → y1 < nn π → rApply π σ y0 y1 y2 = some r → Mi l yX5_apply (.code yX5_apply cX5_apply 3 (some .int) :: cWd) { frames := φ, cells := nn r.1 - nn π, slots := sw r.1 - sw π, locals := ψ } [rfv g y0, rfv g y1, .int (Int32.ofInt y2)] D (TYs k) (cW k z g π σ) (XV z mi aK aV (cW k z g π σ)) (Nat → Nat) (fun v u => gx (nn π) g u ∧ v = Int32.ofInt r.2.2) (fun u => cW k z u r.1 r.2.1) (nn r.1 - nn π) (sw r.1 - sw π))  {ls : Array Slot} {H : Heap} {locs : List Loc} {g : Nat → Nat} {π : Sh} {σ : St} {x0 : Int} {x1 : Int} {x2 : Int} {s0 : Int} {s1 : Int} (hC : Cl π σ) (hG : gx (nn π0) g0 g) (hX : ext π0 π) (hv_x0 : x0 < nn π) (hv_x1 : x1 < nn π) (hv_s0 : s0 < nn π) (hv_s1 : s1 < nn π) (hl : lv_has ls 6 [(0, rfv g x0), (1, rfv g x1), (2, .int (Int32.ofInt x2))]) (h : Hp D A s.heap H locs (cW k z g π σ)) (hm : Pc_applyWithFun_107 N rApply π σ x0 x1 x2 s0 s1 = some r) : W p l e { frames := φ + 2, cells := nn r.1 - nn π0, slots := sw r.1 - sw π0, locals := ψ + 47 } s m args below meth c H locs (nn π - nn π0) (sw π - sw π0) (MQ below (va_Qi (fun v u => gx (nn π0) g0 u ∧ v = Int32.ofInt r.2.2) (fun u t => PostW D (TYs k) A (cW k z u r.1 r.2.1) t) A) args s (nn r.1 - nn π0) (sw r.1 - sw π0) A) (F0 m 107 ls [rfv g s0, rfv g s1]) := by
  have hS := hC.1
  have hq := km_Pc_applyWithFun_107 hmrApply   hC hv_x0 hv_x1 hv_s0 hv_s1 hm
  rw [Pc_applyWithFun_107] at hm
  obtain ⟨r116, e117, hm⟩ := obd_s hm
  have q118 := (km_Df_add hC hv_s1 hv_s0 e117)
  obtain ⟨g119, hm⟩ := grd_s hm
  have q := km_Pc_applyWithFun_110 hmrApply  q118.2 (lt_ext hv_x0 q118.1) (lt_ext hv_x1 q118.1) hm
  refine c_callViA C hE h g119 rfl (by decide) (kc_Df_add l D k z mi aK aV g N hC hv_s1 hv_s0 e117) (cwV 1 C.2.2.1 (gS_X5_59 _) rfl rfl rfl hd_X0_add ⟨(by show 7 + 1 ≤ φ + 2; omega), (by show 8 + (2 + 11) + 241 ≤ ψ + 47; omega)⟩) rfl hl.1 rfl (Nat.le_of_ble_eq_true rfl) dX5_applyWithFun_107 ⟨rcC hX q118.1 q.1, rsC hX q118.1 q.1⟩ (fun u H locs hg h => ?_)
  simp only [← gx_rfv hg hv_x0, ← gx_rfv hg hv_x1] at hl
  try simp only [← gx_rfv hg hv_x0, ← gx_rfv hg hv_x1]
  refine W_cast (wcC hX q118.1).symm (wsC hX q118.1).symm ?_
  exact kl_Pc_applyWithFun_110 (N := N) C hr hlk hE hφ hψ hmrApply hcrApply  q118.2 (hG.tr hg hX.1) (hX.tr q118.1) (lt_ext hv_x0 q118.1) (lt_ext hv_x1 q118.1) (lv_sub hl [0, 1, 2] rfl) h hm
set_option maxHeartbeats 8000000 in
set_option maxRecDepth 100000 in
theorem kl_Pc_applyWithFun_103 {r : Sh × St × Int} (C : Cx p s m args c cX5_applyWithFun RX5 (cd :: cWd) D (TYs k) 6) (hr : meth.sig.returnType = (some .int)) (hlk : meth.locks = false) (hE : Ev z mi aK aV A s s.heap) {rApply : Sh → St → Int → Int → Int → Option (Sh × St × Int)} (hφ : 20 ≤ φ) (hψ : 600 ≤ ψ) (hmrApply : ∀ {π : Sh} {σ : St} {y0 : Int} {y1 : Int} {y2 : Int} {r : Sh × St × Int}, Cl π σ → y0 < nn π → y1 < nn π → rApply π σ y0 y1 y2 = some r → ext π r.1 ∧ Cl r.1 r.2.1) (hcrApply : ∀ {g : Nat → Nat} {π : Sh} {σ : St} {y0 : Int} {y1 : Int} {y2 : Int} {r : Sh × St × Int}, Cl π σ → y0 < nn π → y1 < nn π → rApply π σ y0 y1 y2 = some r → Mi l yX5_apply (.code yX5_apply cX5_apply 3 (some .int) :: cWd) { frames := φ, cells := nn r.1 - nn π, slots := sw r.1 - sw π, locals := ψ } [rfv g y0, rfv g y1, .int (Int32.ofInt y2)] D (TYs k) (cW k z g π σ) (XV z mi aK aV (cW k z g π σ)) (Nat → Nat) (fun v u => gx (nn π) g u ∧ v = Int32.ofInt r.2.2) (fun u => cW k z u r.1 r.2.1) (nn r.1 - nn π) (sw r.1 - sw π))  {ls : Array Slot} {H : Heap} {locs : List Loc} {g : Nat → Nat} {π : Sh} {σ : St} {x0 : Int} {x1 : Int} {x2 : Int} {s0 : Int} {s1 : Int} (hC : Cl π σ) (hG : gx (nn π0) g0 g) (hX : ext π0 π) (hv_x0 : x0 < nn π) (hv_x1 : x1 < nn π) (hv_s0 : s0 < nn π) (hv_s1 : s1 < nn π) (hl : lv_has ls 6 [(0, rfv g x0), (1, rfv g x1), (2, .int (Int32.ofInt x2))]) (h : Hp D A s.heap H locs (cW k z g π σ)) (hm : Pc_applyWithFun_103 N rApply π σ x0 x1 x2 s0 s1 = some r) : W p l e { frames := φ + 2, cells := nn r.1 - nn π0, slots := sw r.1 - sw π0, locals := ψ + 47 } s m args below meth c H locs (nn π - nn π0) (sw π - sw π0) (MQ below (va_Qi (fun v u => gx (nn π0) g0 u ∧ v = Int32.ofInt r.2.2) (fun u t => PostW D (TYs k) A (cW k z u r.1 r.2.1) t) A) args s (nn r.1 - nn π0) (sw r.1 - sw π0) A) (F0 m 103 ls [rfv g s0, rfv g s1]) := by
  have hS := hC.1
  have hq := km_Pc_applyWithFun_103 hmrApply   hC hv_x0 hv_x1 hv_s0 hv_s1 hm
  rw [Pc_applyWithFun_103] at hm
  refine lv_iload_n C.1 C.2.1 dX5_applyWithFun_103 rfl (lv_at hl 2 rfl) ?_
  obtain ⟨r84, e85, hm⟩ := obd_s hm
  have q86 := (km_Sp_give hC hv_s0 e85)
  obtain ⟨g87, hm⟩ := grd_s hm
  have q := km_Pc_applyWithFun_107 hmrApply  q86.2.1 (lt_ext hv_x0 q86.1) (lt_ext hv_x1 q86.1) q86.2.2 (lt_ext hv_s1 q86.1) hm
  refine c_callVqA C hE h g87 rfl (by decide) (kc_Sp_give l D k z mi aK aV g N hC hv_s0 e85) (cwV 1 C.2.2.1 (gS_X5_55 _) rfl rfl rfl hd_X9_give ⟨(by show 2 + 1 ≤ φ + 2; omega), (by show 8 + (2 + 11) + 82 ≤ ψ + 47; omega)⟩) rfl hl.1 rfl (by simp [rfv_cat, cat_i, cat_l]) dX5_applyWithFun_104 ⟨rcC hX q86.1 q.1, rsC hX q86.1 q.1⟩ (fun u H locs hg h => ?_)
  simp only [← gx_rfv hg hv_x0, ← gx_rfv hg hv_x1, ← gx_rfv hg hv_s1] at hl
  try simp only [← gx_rfv hg hv_x0, ← gx_rfv hg hv_x1, ← gx_rfv hg hv_s1]
  refine W_cast (wcC hX q86.1).symm (wsC hX q86.1).symm ?_
  exact kl_Pc_applyWithFun_107 (N := N) C hr hlk hE hφ hψ hmrApply hcrApply  q86.2.1 (hG.tr hg hX.1) (hX.tr q86.1) (lt_ext hv_x0 q86.1) (lt_ext hv_x1 q86.1) q86.2.2 (lt_ext hv_s1 q86.1) (lv_sub hl [0, 1, 2] rfl) h hm
set_option maxHeartbeats 8000000 in
set_option maxRecDepth 100000 in
theorem kl_Pc_applyWithFun_88 {r : Sh × St × Int} (C : Cx p s m args c cX5_applyWithFun RX5 (cd :: cWd) D (TYs k) 6) (hr : meth.sig.returnType = (some .int)) (hlk : meth.locks = false) (hE : Ev z mi aK aV A s s.heap) {rApply : Sh → St → Int → Int → Int → Option (Sh × St × Int)} (hφ : 20 ≤ φ) (hψ : 600 ≤ ψ) (hmrApply : ∀ {π : Sh} {σ : St} {y0 : Int} {y1 : Int} {y2 : Int} {r : Sh × St × Int}, Cl π σ → y0 < nn π → y1 < nn π → rApply π σ y0 y1 y2 = some r → ext π r.1 ∧ Cl r.1 r.2.1) (hcrApply : ∀ {g : Nat → Nat} {π : Sh} {σ : St} {y0 : Int} {y1 : Int} {y2 : Int} {r : Sh × St × Int}, Cl π σ → y0 < nn π → y1 < nn π → rApply π σ y0 y1 y2 = some r → Mi l yX5_apply (.code yX5_apply cX5_apply 3 (some .int) :: cWd) { frames := φ, cells := nn r.1 - nn π, slots := sw r.1 - sw π, locals := ψ } [rfv g y0, rfv g y1, .int (Int32.ofInt y2)] D (TYs k) (cW k z g π σ) (XV z mi aK aV (cW k z g π σ)) (Nat → Nat) (fun v u => gx (nn π) g u ∧ v = Int32.ofInt r.2.2) (fun u => cW k z u r.1 r.2.1) (nn r.1 - nn π) (sw r.1 - sw π))  {ls : Array Slot} {H : Heap} {locs : List Loc} {g : Nat → Nat} {π : Sh} {σ : St} {x0 : Int} {x1 : Int} {x2 : Int} {s0 : Int} {s1 : Int} (hC : Cl π σ) (hG : gx (nn π0) g0 g) (hX : ext π0 π) (hv_x0 : x0 < nn π) (hv_x1 : x1 < nn π) (hv_s0 : s0 < nn π) (hv_s1 : s1 < nn π) (hl : lv_has ls 6 [(0, rfv g x0), (1, rfv g x1), (2, .int (Int32.ofInt x2))]) (h : Hp D A s.heap H locs (cW k z g π σ)) (hm : Pc_applyWithFun_88 N rApply π σ x0 x1 x2 s0 s1 = some r) : W p l e { frames := φ + 2, cells := nn r.1 - nn π0, slots := sw r.1 - sw π0, locals := ψ + 47 } s m args below meth c H locs (nn π - nn π0) (sw π - sw π0) (MQ below (va_Qi (fun v u => gx (nn π0) g0 u ∧ v = Int32.ofInt r.2.2) (fun u t => PostW D (TYs k) A (cW k z u r.1 r.2.1) t) A) args s (nn r.1 - nn π0) (sw r.1 - sw π0) A) (F0 m 88 ls [rfv g s0, rfv g s1]) := by
  have hS := hC.1
  have hq := km_Pc_applyWithFun_88 hmrApply   hC hv_x0 hv_x1 hv_s0 hv_s1 hm
  rw [Pc_applyWithFun_88] at hm
  refine lv_dup C.1 C.2.1 dX5_applyWithFun_88 (rfv_cat _ _) ?_
  refine lv_bipush (v := Int32.ofInt 22) C.1 C.2.1 dX5_applyWithFun_89 (by decide) ?_
  refine z_aload_n C dX5_applyWithFun_91 rfl (lv_at hl 0 rfl) ?_
  obtain ⟨g45, hm⟩ := grd_s hm
  refine cg_6_1 C h g45 cU_X5 (List.mem_cons_of_mem _ wl_X5_43) dX5_applyWithFun_92 ?_
  refine z_aload_n C dX5_applyWithFun_95 rfl (lv_at hl 0 rfl) ?_
  refine cg_6_2 C h g45 cU_X5 (List.mem_cons_of_mem _ wl_X5_7) dX5_applyWithFun_96 ?_
  refine lv_iconst (v := Int32.ofInt 0) C.1 C.2.1 dX5_applyWithFun_99 (by decide) ?_
  obtain ⟨r46, e47, hm⟩ := obd_s hm
  have q48 := (km_Sp_initB hC hv_s0 e47)
  obtain ⟨g49, hm⟩ := grd_s hm
  have q := km_Pc_applyWithFun_103 hmrApply  q48.2 (lt_ext hv_x0 q48.1) (lt_ext hv_x1 q48.1) (lt_ext hv_s0 q48.1) (lt_ext hv_s1 q48.1) hm
  refine c_callIvA C hE h g49 (kc_Sp_initB l D k z mi aK aV g N hC hv_s0 e47) (cwI 4 C.2.2.1 (gC_X9_init_ _) rfl rfl rfl (C.2.2.1 _ (List.mem_cons_of_mem _ wt_X9)) (C.2.2.1 _ (List.mem_cons_of_mem _ wm_X5_52)) (C.2.2.1 _ (List.mem_cons_of_mem _ wj_X9_init_)) rfl hdS_X9_init_ ⟨(by show 1 + 1 ≤ φ + 2; omega), (by show 8 + (5 + 11) + 30 ≤ ψ + 47; omega)⟩) rfl hl.1 rfl (by simp [rfv_cat, cat_i, cat_l]) dX5_applyWithFun_100 ⟨rcC hX q48.1 q.1, rsC hX q48.1 q.1⟩ (fun u H locs hg h => ?_)
  simp only [← gx_rfv hg hv_x0, ← gx_rfv hg hv_x1, ← gx_rfv hg hv_s0, ← gx_rfv hg hv_s1] at hl
  try simp only [← gx_rfv hg hv_x0, ← gx_rfv hg hv_x1, ← gx_rfv hg hv_s0, ← gx_rfv hg hv_s1]
  refine W_cast (wcC hX q48.1).symm (wsC hX q48.1).symm ?_
  exact kl_Pc_applyWithFun_103 (N := N) C hr hlk hE hφ hψ hmrApply hcrApply  q48.2 (hG.tr hg hX.1) (hX.tr q48.1) (lt_ext hv_x0 q48.1) (lt_ext hv_x1 q48.1) (lt_ext hv_s0 q48.1) (lt_ext hv_s1 q48.1) (lv_sub hl [0, 1, 2] rfl) h hm
set_option maxHeartbeats 8000000 in
set_option maxRecDepth 100000 in
theorem kl_Pc_applyWithFun_467 {r : Sh × St × Int} (C : Cx p s m args c cX5_applyWithFun RX5 (cd :: cWd) D (TYs k) 6) (hr : meth.sig.returnType = (some .int)) (hlk : meth.locks = false) (hE : Ev z mi aK aV A s s.heap) {rApply : Sh → St → Int → Int → Int → Option (Sh × St × Int)} (hφ : 20 ≤ φ) (hψ : 600 ≤ ψ) (hmrApply : ∀ {π : Sh} {σ : St} {y0 : Int} {y1 : Int} {y2 : Int} {r : Sh × St × Int}, Cl π σ → y0 < nn π → y1 < nn π → rApply π σ y0 y1 y2 = some r → ext π r.1 ∧ Cl r.1 r.2.1) (hcrApply : ∀ {g : Nat → Nat} {π : Sh} {σ : St} {y0 : Int} {y1 : Int} {y2 : Int} {r : Sh × St × Int}, Cl π σ → y0 < nn π → y1 < nn π → rApply π σ y0 y1 y2 = some r → Mi l yX5_apply (.code yX5_apply cX5_apply 3 (some .int) :: cWd) { frames := φ, cells := nn r.1 - nn π, slots := sw r.1 - sw π, locals := ψ } [rfv g y0, rfv g y1, .int (Int32.ofInt y2)] D (TYs k) (cW k z g π σ) (XV z mi aK aV (cW k z g π σ)) (Nat → Nat) (fun v u => gx (nn π) g u ∧ v = Int32.ofInt r.2.2) (fun u => cW k z u r.1 r.2.1) (nn r.1 - nn π) (sw r.1 - sw π))  {ls : Array Slot} {H : Heap} {locs : List Loc} {g : Nat → Nat} {π : Sh} {σ : St} {s0 : Int} (hC : Cl π σ) (hG : gx (nn π0) g0 g) (hX : ext π0 π)  (hl : lv_has ls 6 []) (h : Hp D A s.heap H locs (cW k z g π σ)) (hm : Pc_applyWithFun_467 N rApply π σ s0 = some r) : W p l e { frames := φ + 2, cells := nn r.1 - nn π0, slots := sw r.1 - sw π0, locals := ψ + 47 } s m args below meth c H locs (nn π - nn π0) (sw π - sw π0) (MQ below (va_Qi (fun v u => gx (nn π0) g0 u ∧ v = Int32.ofInt r.2.2) (fun u t => PostW D (TYs k) A (cW k z u r.1 r.2.1) t) A) args s (nn r.1 - nn π0) (sw r.1 - sw π0) A) (F0 m 467 ls [.int (Int32.ofInt s0)]) := by
  have hS := hC.1
  have hq := km_Pc_applyWithFun_467 hmrApply   hC  hm
  rw [Pc_applyWithFun_467] at hm
  cases hm
  exact c_iretA C hG h hr hlk dX5_applyWithFun_467 rfl
set_option maxHeartbeats 8000000 in
set_option maxRecDepth 100000 in
theorem kl_Pc_applyWithFun_464 {r : Sh × St × Int} (C : Cx p s m args c cX5_applyWithFun RX5 (cd :: cWd) D (TYs k) 6) (hr : meth.sig.returnType = (some .int)) (hlk : meth.locks = false) (hE : Ev z mi aK aV A s s.heap) {rApply : Sh → St → Int → Int → Int → Option (Sh × St × Int)} (hφ : 20 ≤ φ) (hψ : 600 ≤ ψ) (hmrApply : ∀ {π : Sh} {σ : St} {y0 : Int} {y1 : Int} {y2 : Int} {r : Sh × St × Int}, Cl π σ → y0 < nn π → y1 < nn π → rApply π σ y0 y1 y2 = some r → ext π r.1 ∧ Cl r.1 r.2.1) (hcrApply : ∀ {g : Nat → Nat} {π : Sh} {σ : St} {y0 : Int} {y1 : Int} {y2 : Int} {r : Sh × St × Int}, Cl π σ → y0 < nn π → y1 < nn π → rApply π σ y0 y1 y2 = some r → Mi l yX5_apply (.code yX5_apply cX5_apply 3 (some .int) :: cWd) { frames := φ, cells := nn r.1 - nn π, slots := sw r.1 - sw π, locals := ψ } [rfv g y0, rfv g y1, .int (Int32.ofInt y2)] D (TYs k) (cW k z g π σ) (XV z mi aK aV (cW k z g π σ)) (Nat → Nat) (fun v u => gx (nn π) g u ∧ v = Int32.ofInt r.2.2) (fun u => cW k z u r.1 r.2.1) (nn r.1 - nn π) (sw r.1 - sw π))  {ls : Array Slot} {H : Heap} {locs : List Loc} {g : Nat → Nat} {π : Sh} {σ : St} {s0 : Int} {s1 : Int} (hC : Cl π σ) (hG : gx (nn π0) g0 g) (hX : ext π0 π) (hv_s0 : s0 < nn π) (hv_s1 : s1 < nn π) (hl : lv_has ls 6 []) (h : Hp D A s.heap H locs (cW k z g π σ)) (hm : Pc_applyWithFun_464 N rApply π σ s0 s1 = some r) : W p l e { frames := φ + 2, cells := nn r.1 - nn π0, slots := sw r.1 - sw π0, locals := ψ + 47 } s m args below meth c H locs (nn π - nn π0) (sw π - sw π0) (MQ below (va_Qi (fun v u => gx (nn π0) g0 u ∧ v = Int32.ofInt r.2.2) (fun u t => PostW D (TYs k) A (cW k z u r.1 r.2.1) t) A) args s (nn r.1 - nn π0) (sw r.1 - sw π0) A) (F0 m 464 ls [rfv g s0, rfv g s1]) := by
  have hS := hC.1
  have hq := km_Pc_applyWithFun_464 hmrApply   hC hv_s0 hv_s1 hm
  rw [Pc_applyWithFun_464] at hm
  obtain ⟨r162, e163, hm⟩ := obd_s hm
  have q164 := (km_Df_add hC hv_s1 hv_s0 e163)
  obtain ⟨g165, hm⟩ := grd_s hm
  have q := km_Pc_applyWithFun_467 hmrApply  q164.2  hm
  refine c_callViA C hE h g165 rfl (by decide) (kc_Df_add l D k z mi aK aV g N hC hv_s1 hv_s0 e163) (cwV 1 C.2.2.1 (gS_X5_59 _) rfl rfl rfl hd_X0_add ⟨(by show 7 + 1 ≤ φ + 2; omega), (by show 8 + (2 + 11) + 241 ≤ ψ + 47; omega)⟩) rfl hl.1 rfl (Nat.le_of_ble_eq_true rfl) dX5_applyWithFun_464 ⟨rcC hX q164.1 q.1, rsC hX q164.1 q.1⟩ (fun u H locs hg h => ?_)
  refine W_cast (wcC hX q164.1).symm (wsC hX q164.1).symm ?_
  exact kl_Pc_applyWithFun_467 (N := N) C hr hlk hE hφ hψ hmrApply hcrApply  q164.2 (hG.tr hg hX.1) (hX.tr q164.1)  (lv_sub hl [] rfl) h hm
set_option maxHeartbeats 8000000 in
set_option maxRecDepth 100000 in
theorem kl_Pc_applyWithFun_460 {r : Sh × St × Int} (C : Cx p s m args c cX5_applyWithFun RX5 (cd :: cWd) D (TYs k) 6) (hr : meth.sig.returnType = (some .int)) (hlk : meth.locks = false) (hE : Ev z mi aK aV A s s.heap) {rApply : Sh → St → Int → Int → Int → Option (Sh × St × Int)} (hφ : 20 ≤ φ) (hψ : 600 ≤ ψ) (hmrApply : ∀ {π : Sh} {σ : St} {y0 : Int} {y1 : Int} {y2 : Int} {r : Sh × St × Int}, Cl π σ → y0 < nn π → y1 < nn π → rApply π σ y0 y1 y2 = some r → ext π r.1 ∧ Cl r.1 r.2.1) (hcrApply : ∀ {g : Nat → Nat} {π : Sh} {σ : St} {y0 : Int} {y1 : Int} {y2 : Int} {r : Sh × St × Int}, Cl π σ → y0 < nn π → y1 < nn π → rApply π σ y0 y1 y2 = some r → Mi l yX5_apply (.code yX5_apply cX5_apply 3 (some .int) :: cWd) { frames := φ, cells := nn r.1 - nn π, slots := sw r.1 - sw π, locals := ψ } [rfv g y0, rfv g y1, .int (Int32.ofInt y2)] D (TYs k) (cW k z g π σ) (XV z mi aK aV (cW k z g π σ)) (Nat → Nat) (fun v u => gx (nn π) g u ∧ v = Int32.ofInt r.2.2) (fun u => cW k z u r.1 r.2.1) (nn r.1 - nn π) (sw r.1 - sw π))  {ls : Array Slot} {H : Heap} {locs : List Loc} {g : Nat → Nat} {π : Sh} {σ : St} {x3 : Int} {s0 : Int} {s1 : Int} (hC : Cl π σ) (hG : gx (nn π0) g0 g) (hX : ext π0 π) (hv_s0 : s0 < nn π) (hv_s1 : s1 < nn π) (hl : lv_has ls 6 [(3, .int (Int32.ofInt x3))]) (h : Hp D A s.heap H locs (cW k z g π σ)) (hm : Pc_applyWithFun_460 N rApply π σ x3 s0 s1 = some r) : W p l e { frames := φ + 2, cells := nn r.1 - nn π0, slots := sw r.1 - sw π0, locals := ψ + 47 } s m args below meth c H locs (nn π - nn π0) (sw π - sw π0) (MQ below (va_Qi (fun v u => gx (nn π0) g0 u ∧ v = Int32.ofInt r.2.2) (fun u t => PostW D (TYs k) A (cW k z u r.1 r.2.1) t) A) args s (nn r.1 - nn π0) (sw r.1 - sw π0) A) (F0 m 460 ls [rfv g s0, rfv g s1]) := by
  have hS := hC.1
  have hq := km_Pc_applyWithFun_460 hmrApply   hC hv_s0 hv_s1 hm
  rw [Pc_applyWithFun_460] at hm
  refine lv_iload_n C.1 C.2.1 dX5_applyWithFun_460 rfl (lv_at hl 0 rfl) ?_
  obtain ⟨r136, e137, hm⟩ := obd_s hm
  have q138 := (km_Sp_give hC hv_s0 e137)
  obtain ⟨g139, hm⟩ := grd_s hm
  have q := km_Pc_applyWithFun_464 hmrApply  q138.2.1 q138.2.2 (lt_ext hv_s1 q138.1) hm
  refine c_callVqA C hE h g139 rfl (by decide) (kc_Sp_give l D k z mi aK aV g N hC hv_s0 e137) (cwV 1 C.2.2.1 (gS_X5_55 _) rfl rfl rfl hd_X9_give ⟨(by show 2 + 1 ≤ φ + 2; omega), (by show 8 + (2 + 11) + 82 ≤ ψ + 47; omega)⟩) rfl hl.1 rfl (by simp [rfv_cat, cat_i, cat_l]) dX5_applyWithFun_461 ⟨rcC hX q138.1 q.1, rsC hX q138.1 q.1⟩ (fun u H locs hg h => ?_)
  try simp only [← gx_rfv hg hv_s1]
  refine W_cast (wcC hX q138.1).symm (wsC hX q138.1).symm ?_
  exact kl_Pc_applyWithFun_464 (N := N) C hr hlk hE hφ hψ hmrApply hcrApply  q138.2.1 (hG.tr hg hX.1) (hX.tr q138.1) q138.2.2 (lt_ext hv_s1 q138.1) (lv_sub hl [] rfl) h hm
set_option maxHeartbeats 8000000 in
set_option maxRecDepth 100000 in
theorem kl_Pc_applyWithFun_456 {r : Sh × St × Int} (C : Cx p s m args c cX5_applyWithFun RX5 (cd :: cWd) D (TYs k) 6) (hr : meth.sig.returnType = (some .int)) (hlk : meth.locks = false) (hE : Ev z mi aK aV A s s.heap) {rApply : Sh → St → Int → Int → Int → Option (Sh × St × Int)} (hφ : 20 ≤ φ) (hψ : 600 ≤ ψ) (hmrApply : ∀ {π : Sh} {σ : St} {y0 : Int} {y1 : Int} {y2 : Int} {r : Sh × St × Int}, Cl π σ → y0 < nn π → y1 < nn π → rApply π σ y0 y1 y2 = some r → ext π r.1 ∧ Cl r.1 r.2.1) (hcrApply : ∀ {g : Nat → Nat} {π : Sh} {σ : St} {y0 : Int} {y1 : Int} {y2 : Int} {r : Sh × St × Int}, Cl π σ → y0 < nn π → y1 < nn π → rApply π σ y0 y1 y2 = some r → Mi l yX5_apply (.code yX5_apply cX5_apply 3 (some .int) :: cWd) { frames := φ, cells := nn r.1 - nn π, slots := sw r.1 - sw π, locals := ψ } [rfv g y0, rfv g y1, .int (Int32.ofInt y2)] D (TYs k) (cW k z g π σ) (XV z mi aK aV (cW k z g π σ)) (Nat → Nat) (fun v u => gx (nn π) g u ∧ v = Int32.ofInt r.2.2) (fun u => cW k z u r.1 r.2.1) (nn r.1 - nn π) (sw r.1 - sw π))  {ls : Array Slot} {H : Heap} {locs : List Loc} {g : Nat → Nat} {π : Sh} {σ : St} {x2 : Int} {x3 : Int} {s0 : Int} {s1 : Int} (hC : Cl π σ) (hG : gx (nn π0) g0 g) (hX : ext π0 π) (hv_s0 : s0 < nn π) (hv_s1 : s1 < nn π) (hl : lv_has ls 6 [(2, .int (Int32.ofInt x2)), (3, .int (Int32.ofInt x3))]) (h : Hp D A s.heap H locs (cW k z g π σ)) (hm : Pc_applyWithFun_456 N rApply π σ x2 x3 s0 s1 = some r) : W p l e { frames := φ + 2, cells := nn r.1 - nn π0, slots := sw r.1 - sw π0, locals := ψ + 47 } s m args below meth c H locs (nn π - nn π0) (sw π - sw π0) (MQ below (va_Qi (fun v u => gx (nn π0) g0 u ∧ v = Int32.ofInt r.2.2) (fun u t => PostW D (TYs k) A (cW k z u r.1 r.2.1) t) A) args s (nn r.1 - nn π0) (sw r.1 - sw π0) A) (F0 m 456 ls [rfv g s0, rfv g s1]) := by
  have hS := hC.1
  have hq := km_Pc_applyWithFun_456 hmrApply   hC hv_s0 hv_s1 hm
  rw [Pc_applyWithFun_456] at hm
  refine lv_iload_n C.1 C.2.1 dX5_applyWithFun_456 rfl (lv_at hl 0 rfl) ?_
  obtain ⟨r104, e105, hm⟩ := obd_s hm
  have q106 := (km_Sp_give hC hv_s0 e105)
  obtain ⟨g107, hm⟩ := grd_s hm
  have q := km_Pc_applyWithFun_460 hmrApply  q106.2.1 q106.2.2 (lt_ext hv_s1 q106.1) hm
  refine c_callVqA C hE h g107 rfl (by decide) (kc_Sp_give l D k z mi aK aV g N hC hv_s0 e105) (cwV 1 C.2.2.1 (gS_X5_55 _) rfl rfl rfl hd_X9_give ⟨(by show 2 + 1 ≤ φ + 2; omega), (by show 8 + (2 + 11) + 82 ≤ ψ + 47; omega)⟩) rfl hl.1 rfl (by simp [rfv_cat, cat_i, cat_l]) dX5_applyWithFun_457 ⟨rcC hX q106.1 q.1, rsC hX q106.1 q.1⟩ (fun u H locs hg h => ?_)
  try simp only [← gx_rfv hg hv_s1]
  refine W_cast (wcC hX q106.1).symm (wsC hX q106.1).symm ?_
  exact kl_Pc_applyWithFun_460 (N := N) C hr hlk hE hφ hψ hmrApply hcrApply  q106.2.1 (hG.tr hg hX.1) (hX.tr q106.1) q106.2.2 (lt_ext hv_s1 q106.1) (lv_sub hl [1] rfl) h hm
set_option maxHeartbeats 8000000 in
set_option maxRecDepth 100000 in
theorem kl_Pc_applyWithFun_446 {r : Sh × St × Int} (C : Cx p s m args c cX5_applyWithFun RX5 (cd :: cWd) D (TYs k) 6) (hr : meth.sig.returnType = (some .int)) (hlk : meth.locks = false) (hE : Ev z mi aK aV A s s.heap) {rApply : Sh → St → Int → Int → Int → Option (Sh × St × Int)} (hφ : 20 ≤ φ) (hψ : 600 ≤ ψ) (hmrApply : ∀ {π : Sh} {σ : St} {y0 : Int} {y1 : Int} {y2 : Int} {r : Sh × St × Int}, Cl π σ → y0 < nn π → y1 < nn π → rApply π σ y0 y1 y2 = some r → ext π r.1 ∧ Cl r.1 r.2.1) (hcrApply : ∀ {g : Nat → Nat} {π : Sh} {σ : St} {y0 : Int} {y1 : Int} {y2 : Int} {r : Sh × St × Int}, Cl π σ → y0 < nn π → y1 < nn π → rApply π σ y0 y1 y2 = some r → Mi l yX5_apply (.code yX5_apply cX5_apply 3 (some .int) :: cWd) { frames := φ, cells := nn r.1 - nn π, slots := sw r.1 - sw π, locals := ψ } [rfv g y0, rfv g y1, .int (Int32.ofInt y2)] D (TYs k) (cW k z g π σ) (XV z mi aK aV (cW k z g π σ)) (Nat → Nat) (fun v u => gx (nn π) g u ∧ v = Int32.ofInt r.2.2) (fun u => cW k z u r.1 r.2.1) (nn r.1 - nn π) (sw r.1 - sw π))  {ls : Array Slot} {H : Heap} {locs : List Loc} {g : Nat → Nat} {π : Sh} {σ : St} {x0 : Int} {x2 : Int} {x3 : Int} {s0 : Int} {s1 : Int} (hC : Cl π σ) (hG : gx (nn π0) g0 g) (hX : ext π0 π) (hv_x0 : x0 < nn π) (hv_s0 : s0 < nn π) (hv_s1 : s1 < nn π) (hl : lv_has ls 6 [(0, rfv g x0), (2, .int (Int32.ofInt x2)), (3, .int (Int32.ofInt x3))]) (h : Hp D A s.heap H locs (cW k z g π σ)) (hm : Pc_applyWithFun_446 N rApply π σ x0 x2 x3 s0 s1 = some r) : W p l e { frames := φ + 2, cells := nn r.1 - nn π0, slots := sw r.1 - sw π0, locals := ψ + 47 } s m args below meth c H locs (nn π - nn π0) (sw π - sw π0) (MQ below (va_Qi (fun v u => gx (nn π0) g0 u ∧ v = Int32.ofInt r.2.2) (fun u t => PostW D (TYs k) A (cW k z u r.1 r.2.1) t) A) args s (nn r.1 - nn π0) (sw r.1 - sw π0) A) (F0 m 446 ls [rfv g s0, rfv g s1]) := by
  have hS := hC.1
  have hq := km_Pc_applyWithFun_446 hmrApply   hC hv_x0 hv_s0 hv_s1 hm
  rw [Pc_applyWithFun_446] at hm
  refine lv_dup C.1 C.2.1 dX5_applyWithFun_446 (rfv_cat _ _) ?_
  refine lv_bipush (v := Int32.ofInt 8) C.1 C.2.1 dX5_applyWithFun_447 (by decide) ?_
  refine z_aload_n C dX5_applyWithFun_449 rfl (lv_at hl 0 rfl) ?_
  obtain ⟨g70, hm⟩ := grd_s hm
  refine cg_6_1 C h g70 cU_X5 (List.mem_cons_of_mem _ wl_X5_43) dX5_applyWithFun_450 ?_
  obtain ⟨r71, e72, hm⟩ := obd_s hm
  have q73 := (km_Sp_init hC hv_s0 e72)
  obtain ⟨g74, hm⟩ := grd_s hm
  have q := km_Pc_applyWithFun_456 hmrApply  q73.2 (lt_ext hv_s0 q73.1) (lt_ext hv_s1 q73.1) hm
  refine c_callIvA C hE h g74 (kc_Sp_init l D k z mi aK aV g N hC hv_s0 e72) (cwI 2 C.2.2.1 (gC_X9_init _) rfl rfl rfl (C.2.2.1 _ (List.mem_cons_of_mem _ wt_X9)) (C.2.2.1 _ (List.mem_cons_of_mem _ wm_X5_65)) (C.2.2.1 _ (List.mem_cons_of_mem _ wj_X9_init)) rfl hdS_X9_init ⟨(by show 1 + 1 ≤ φ + 2; omega), (by show 8 + (3 + 11) + 30 ≤ ψ + 47; omega)⟩) rfl hl.1 rfl (by simp [rfv_cat, cat_i, cat_l]) dX5_applyWithFun_453 ⟨rcC hX q73.1 q.1, rsC hX q73.1 q.1⟩ (fun u H locs hg h => ?_)
  simp only [← gx_rfv hg hv_x0, ← gx_rfv hg hv_s0, ← gx_rfv hg hv_s1] at hl
  try simp only [← gx_rfv hg hv_x0, ← gx_rfv hg hv_s0, ← gx_rfv hg hv_s1]
  refine W_cast (wcC hX q73.1).symm (wsC hX q73.1).symm ?_
  exact kl_Pc_applyWithFun_456 (N := N) C hr hlk hE hφ hψ hmrApply hcrApply  q73.2 (hG.tr hg hX.1) (hX.tr q73.1) (lt_ext hv_s0 q73.1) (lt_ext hv_s1 q73.1) (lv_sub hl [1, 2] rfl) h hm
set_option maxHeartbeats 8000000 in
set_option maxRecDepth 100000 in
theorem kl_Pc_applyWithFun_298 {r : Sh × St × Int} (C : Cx p s m args c cX5_applyWithFun RX5 (cd :: cWd) D (TYs k) 6) (hr : meth.sig.returnType = (some .int)) (hlk : meth.locks = false) (hE : Ev z mi aK aV A s s.heap) {rApply : Sh → St → Int → Int → Int → Option (Sh × St × Int)} (hφ : 20 ≤ φ) (hψ : 600 ≤ ψ) (hmrApply : ∀ {π : Sh} {σ : St} {y0 : Int} {y1 : Int} {y2 : Int} {r : Sh × St × Int}, Cl π σ → y0 < nn π → y1 < nn π → rApply π σ y0 y1 y2 = some r → ext π r.1 ∧ Cl r.1 r.2.1) (hcrApply : ∀ {g : Nat → Nat} {π : Sh} {σ : St} {y0 : Int} {y1 : Int} {y2 : Int} {r : Sh × St × Int}, Cl π σ → y0 < nn π → y1 < nn π → rApply π σ y0 y1 y2 = some r → Mi l yX5_apply (.code yX5_apply cX5_apply 3 (some .int) :: cWd) { frames := φ, cells := nn r.1 - nn π, slots := sw r.1 - sw π, locals := ψ } [rfv g y0, rfv g y1, .int (Int32.ofInt y2)] D (TYs k) (cW k z g π σ) (XV z mi aK aV (cW k z g π σ)) (Nat → Nat) (fun v u => gx (nn π) g u ∧ v = Int32.ofInt r.2.2) (fun u => cW k z u r.1 r.2.1) (nn r.1 - nn π) (sw r.1 - sw π))  {ls : Array Slot} {H : Heap} {locs : List Loc} {g : Nat → Nat} {π : Sh} {σ : St} {s0 : Int} (hC : Cl π σ) (hG : gx (nn π0) g0 g) (hX : ext π0 π)  (hl : lv_has ls 6 []) (h : Hp D A s.heap H locs (cW k z g π σ)) (hm : Pc_applyWithFun_298 N rApply π σ s0 = some r) : W p l e { frames := φ + 2, cells := nn r.1 - nn π0, slots := sw r.1 - sw π0, locals := ψ + 47 } s m args below meth c H locs (nn π - nn π0) (sw π - sw π0) (MQ below (va_Qi (fun v u => gx (nn π0) g0 u ∧ v = Int32.ofInt r.2.2) (fun u t => PostW D (TYs k) A (cW k z u r.1 r.2.1) t) A) args s (nn r.1 - nn π0) (sw r.1 - sw π0) A) (F0 m 298 ls [.int (Int32.ofInt s0)]) := by
  have hS := hC.1
  have hq := km_Pc_applyWithFun_298 hmrApply   hC  hm
  rw [Pc_applyWithFun_298] at hm
  cases hm
  exact c_iretA C hG h hr hlk dX5_applyWithFun_298 rfl
set_option maxHeartbeats 8000000 in
set_option maxRecDepth 100000 in
theorem kl_Pc_applyWithFun_295 {r : Sh × St × Int} (C : Cx p s m args c cX5_applyWithFun RX5 (cd :: cWd) D (TYs k) 6) (hr : meth.sig.returnType = (some .int)) (hlk : meth.locks = false) (hE : Ev z mi aK aV A s s.heap) {rApply : Sh → St → Int → Int → Int → Option (Sh × St × Int)} (hφ : 20 ≤ φ) (hψ : 600 ≤ ψ) (hmrApply : ∀ {π : Sh} {σ : St} {y0 : Int} {y1 : Int} {y2 : Int} {r : Sh × St × Int}, Cl π σ → y0 < nn π → y1 < nn π → rApply π σ y0 y1 y2 = some r → ext π r.1 ∧ Cl r.1 r.2.1) (hcrApply : ∀ {g : Nat → Nat} {π : Sh} {σ : St} {y0 : Int} {y1 : Int} {y2 : Int} {r : Sh × St × Int}, Cl π σ → y0 < nn π → y1 < nn π → rApply π σ y0 y1 y2 = some r → Mi l yX5_apply (.code yX5_apply cX5_apply 3 (some .int) :: cWd) { frames := φ, cells := nn r.1 - nn π, slots := sw r.1 - sw π, locals := ψ } [rfv g y0, rfv g y1, .int (Int32.ofInt y2)] D (TYs k) (cW k z g π σ) (XV z mi aK aV (cW k z g π σ)) (Nat → Nat) (fun v u => gx (nn π) g u ∧ v = Int32.ofInt r.2.2) (fun u => cW k z u r.1 r.2.1) (nn r.1 - nn π) (sw r.1 - sw π))  {ls : Array Slot} {H : Heap} {locs : List Loc} {g : Nat → Nat} {π : Sh} {σ : St} {s0 : Int} {s1 : Int} (hC : Cl π σ) (hG : gx (nn π0) g0 g) (hX : ext π0 π) (hv_s0 : s0 < nn π) (hv_s1 : s1 < nn π) (hl : lv_has ls 6 []) (h : Hp D A s.heap H locs (cW k z g π σ)) (hm : Pc_applyWithFun_295 N rApply π σ s0 s1 = some r) : W p l e { frames := φ + 2, cells := nn r.1 - nn π0, slots := sw r.1 - sw π0, locals := ψ + 47 } s m args below meth c H locs (nn π - nn π0) (sw π - sw π0) (MQ below (va_Qi (fun v u => gx (nn π0) g0 u ∧ v = Int32.ofInt r.2.2) (fun u t => PostW D (TYs k) A (cW k z u r.1 r.2.1) t) A) args s (nn r.1 - nn π0) (sw r.1 - sw π0) A) (F0 m 295 ls [rfv g s0, rfv g s1]) := by
  have hS := hC.1
  have hq := km_Pc_applyWithFun_295 hmrApply   hC hv_s0 hv_s1 hm
  rw [Pc_applyWithFun_295] at hm
  obtain ⟨r153, e154, hm⟩ := obd_s hm
  have q155 := (km_Df_add hC hv_s1 hv_s0 e154)
  obtain ⟨g156, hm⟩ := grd_s hm
  have q := km_Pc_applyWithFun_298 hmrApply  q155.2  hm
  refine c_callViA C hE h g156 rfl (by decide) (kc_Df_add l D k z mi aK aV g N hC hv_s1 hv_s0 e154) (cwV 1 C.2.2.1 (gS_X5_59 _) rfl rfl rfl hd_X0_add ⟨(by show 7 + 1 ≤ φ + 2; omega), (by show 8 + (2 + 11) + 241 ≤ ψ + 47; omega)⟩) rfl hl.1 rfl (Nat.le_of_ble_eq_true rfl) dX5_applyWithFun_295 ⟨rcC hX q155.1 q.1, rsC hX q155.1 q.1⟩ (fun u H locs hg h => ?_)
  refine W_cast (wcC hX q155.1).symm (wsC hX q155.1).symm ?_
  exact kl_Pc_applyWithFun_298 (N := N) C hr hlk hE hφ hψ hmrApply hcrApply  q155.2 (hG.tr hg hX.1) (hX.tr q155.1)  (lv_sub hl [] rfl) h hm
set_option maxHeartbeats 8000000 in
set_option maxRecDepth 100000 in
theorem kl_Pc_applyWithFun_291 {r : Sh × St × Int} (C : Cx p s m args c cX5_applyWithFun RX5 (cd :: cWd) D (TYs k) 6) (hr : meth.sig.returnType = (some .int)) (hlk : meth.locks = false) (hE : Ev z mi aK aV A s s.heap) {rApply : Sh → St → Int → Int → Int → Option (Sh × St × Int)} (hφ : 20 ≤ φ) (hψ : 600 ≤ ψ) (hmrApply : ∀ {π : Sh} {σ : St} {y0 : Int} {y1 : Int} {y2 : Int} {r : Sh × St × Int}, Cl π σ → y0 < nn π → y1 < nn π → rApply π σ y0 y1 y2 = some r → ext π r.1 ∧ Cl r.1 r.2.1) (hcrApply : ∀ {g : Nat → Nat} {π : Sh} {σ : St} {y0 : Int} {y1 : Int} {y2 : Int} {r : Sh × St × Int}, Cl π σ → y0 < nn π → y1 < nn π → rApply π σ y0 y1 y2 = some r → Mi l yX5_apply (.code yX5_apply cX5_apply 3 (some .int) :: cWd) { frames := φ, cells := nn r.1 - nn π, slots := sw r.1 - sw π, locals := ψ } [rfv g y0, rfv g y1, .int (Int32.ofInt y2)] D (TYs k) (cW k z g π σ) (XV z mi aK aV (cW k z g π σ)) (Nat → Nat) (fun v u => gx (nn π) g u ∧ v = Int32.ofInt r.2.2) (fun u => cW k z u r.1 r.2.1) (nn r.1 - nn π) (sw r.1 - sw π))  {ls : Array Slot} {H : Heap} {locs : List Loc} {g : Nat → Nat} {π : Sh} {σ : St} {x3 : Int} {s0 : Int} {s1 : Int} (hC : Cl π σ) (hG : gx (nn π0) g0 g) (hX : ext π0 π) (hv_s0 : s0 < nn π) (hv_s1 : s1 < nn π) (hl : lv_has ls 6 [(3, .int (Int32.ofInt x3))]) (h : Hp D A s.heap H locs (cW k z g π σ)) (hm : Pc_applyWithFun_291 N rApply π σ x3 s0 s1 = some r) : W p l e { frames := φ + 2, cells := nn r.1 - nn π0, slots := sw r.1 - sw π0, locals := ψ + 47 } s m args below meth c H locs (nn π - nn π0) (sw π - sw π0) (MQ below (va_Qi (fun v u => gx (nn π0) g0 u ∧ v = Int32.ofInt r.2.2) (fun u t => PostW D (TYs k) A (cW k z u r.1 r.2.1) t) A) args s (nn r.1 - nn π0) (sw r.1 - sw π0) A) (F0 m 291 ls [rfv g s0, rfv g s1]) := by
  have hS := hC.1
  have hq := km_Pc_applyWithFun_291 hmrApply   hC hv_s0 hv_s1 hm
  rw [Pc_applyWithFun_291] at hm
  refine lv_iload_n C.1 C.2.1 dX5_applyWithFun_291 rfl (lv_at hl 0 rfl) ?_
  obtain ⟨r124, e125, hm⟩ := obd_s hm
  have q126 := (km_Sp_give hC hv_s0 e125)
  obtain ⟨g127, hm⟩ := grd_s hm
  have q := km_Pc_applyWithFun_295 hmrApply  q126.2.1 q126.2.2 (lt_ext hv_s1 q126.1) hm
  refine c_callVqA C hE h g127 rfl (by decide) (kc_Sp_give l D k z mi aK aV g N hC hv_s0 e125) (cwV 1 C.2.2.1 (gS_X5_55 _) rfl rfl rfl hd_X9_give ⟨(by show 2 + 1 ≤ φ + 2; omega), (by show 8 + (2 + 11) + 82 ≤ ψ + 47; omega)⟩) rfl hl.1 rfl (by simp [rfv_cat, cat_i, cat_l]) dX5_applyWithFun_292 ⟨rcC hX q126.1 q.1, rsC hX q126.1 q.1⟩ (fun u H locs hg h => ?_)
  try simp only [← gx_rfv hg hv_s1]
  refine W_cast (wcC hX q126.1).symm (wsC hX q126.1).symm ?_
  exact kl_Pc_applyWithFun_295 (N := N) C hr hlk hE hφ hψ hmrApply hcrApply  q126.2.1 (hG.tr hg hX.1) (hX.tr q126.1) q126.2.2 (lt_ext hv_s1 q126.1) (lv_sub hl [] rfl) h hm
set_option maxHeartbeats 8000000 in
set_option maxRecDepth 100000 in
theorem kl_Pc_applyWithFun_287 {r : Sh × St × Int} (C : Cx p s m args c cX5_applyWithFun RX5 (cd :: cWd) D (TYs k) 6) (hr : meth.sig.returnType = (some .int)) (hlk : meth.locks = false) (hE : Ev z mi aK aV A s s.heap) {rApply : Sh → St → Int → Int → Int → Option (Sh × St × Int)} (hφ : 20 ≤ φ) (hψ : 600 ≤ ψ) (hmrApply : ∀ {π : Sh} {σ : St} {y0 : Int} {y1 : Int} {y2 : Int} {r : Sh × St × Int}, Cl π σ → y0 < nn π → y1 < nn π → rApply π σ y0 y1 y2 = some r → ext π r.1 ∧ Cl r.1 r.2.1) (hcrApply : ∀ {g : Nat → Nat} {π : Sh} {σ : St} {y0 : Int} {y1 : Int} {y2 : Int} {r : Sh × St × Int}, Cl π σ → y0 < nn π → y1 < nn π → rApply π σ y0 y1 y2 = some r → Mi l yX5_apply (.code yX5_apply cX5_apply 3 (some .int) :: cWd) { frames := φ, cells := nn r.1 - nn π, slots := sw r.1 - sw π, locals := ψ } [rfv g y0, rfv g y1, .int (Int32.ofInt y2)] D (TYs k) (cW k z g π σ) (XV z mi aK aV (cW k z g π σ)) (Nat → Nat) (fun v u => gx (nn π) g u ∧ v = Int32.ofInt r.2.2) (fun u => cW k z u r.1 r.2.1) (nn r.1 - nn π) (sw r.1 - sw π))  {ls : Array Slot} {H : Heap} {locs : List Loc} {g : Nat → Nat} {π : Sh} {σ : St} {x2 : Int} {x3 : Int} {s0 : Int} {s1 : Int} (hC : Cl π σ) (hG : gx (nn π0) g0 g) (hX : ext π0 π) (hv_s0 : s0 < nn π) (hv_s1 : s1 < nn π) (hl : lv_has ls 6 [(2, .int (Int32.ofInt x2)), (3, .int (Int32.ofInt x3))]) (h : Hp D A s.heap H locs (cW k z g π σ)) (hm : Pc_applyWithFun_287 N rApply π σ x2 x3 s0 s1 = some r) : W p l e { frames := φ + 2, cells := nn r.1 - nn π0, slots := sw r.1 - sw π0, locals := ψ + 47 } s m args below meth c H locs (nn π - nn π0) (sw π - sw π0) (MQ below (va_Qi (fun v u => gx (nn π0) g0 u ∧ v = Int32.ofInt r.2.2) (fun u t => PostW D (TYs k) A (cW k z u r.1 r.2.1) t) A) args s (nn r.1 - nn π0) (sw r.1 - sw π0) A) (F0 m 287 ls [rfv g s0, rfv g s1]) := by
  have hS := hC.1
  have hq := km_Pc_applyWithFun_287 hmrApply   hC hv_s0 hv_s1 hm
  rw [Pc_applyWithFun_287] at hm
  refine lv_iload_n C.1 C.2.1 dX5_applyWithFun_287 rfl (lv_at hl 0 rfl) ?_
  obtain ⟨r92, e93, hm⟩ := obd_s hm
  have q94 := (km_Sp_give hC hv_s0 e93)
  obtain ⟨g95, hm⟩ := grd_s hm
  have q := km_Pc_applyWithFun_291 hmrApply  q94.2.1 q94.2.2 (lt_ext hv_s1 q94.1) hm
  refine c_callVqA C hE h g95 rfl (by decide) (kc_Sp_give l D k z mi aK aV g N hC hv_s0 e93) (cwV 1 C.2.2.1 (gS_X5_55 _) rfl rfl rfl hd_X9_give ⟨(by show 2 + 1 ≤ φ + 2; omega), (by show 8 + (2 + 11) + 82 ≤ ψ + 47; omega)⟩) rfl hl.1 rfl (by simp [rfv_cat, cat_i, cat_l]) dX5_applyWithFun_288 ⟨rcC hX q94.1 q.1, rsC hX q94.1 q.1⟩ (fun u H locs hg h => ?_)
  try simp only [← gx_rfv hg hv_s1]
  refine W_cast (wcC hX q94.1).symm (wsC hX q94.1).symm ?_
  exact kl_Pc_applyWithFun_291 (N := N) C hr hlk hE hφ hψ hmrApply hcrApply  q94.2.1 (hG.tr hg hX.1) (hX.tr q94.1) q94.2.2 (lt_ext hv_s1 q94.1) (lv_sub hl [1] rfl) h hm
set_option maxHeartbeats 8000000 in
set_option maxRecDepth 100000 in
theorem kl_Pc_applyWithFun_272 {r : Sh × St × Int} (C : Cx p s m args c cX5_applyWithFun RX5 (cd :: cWd) D (TYs k) 6) (hr : meth.sig.returnType = (some .int)) (hlk : meth.locks = false) (hE : Ev z mi aK aV A s s.heap) {rApply : Sh → St → Int → Int → Int → Option (Sh × St × Int)} (hφ : 20 ≤ φ) (hψ : 600 ≤ ψ) (hmrApply : ∀ {π : Sh} {σ : St} {y0 : Int} {y1 : Int} {y2 : Int} {r : Sh × St × Int}, Cl π σ → y0 < nn π → y1 < nn π → rApply π σ y0 y1 y2 = some r → ext π r.1 ∧ Cl r.1 r.2.1) (hcrApply : ∀ {g : Nat → Nat} {π : Sh} {σ : St} {y0 : Int} {y1 : Int} {y2 : Int} {r : Sh × St × Int}, Cl π σ → y0 < nn π → y1 < nn π → rApply π σ y0 y1 y2 = some r → Mi l yX5_apply (.code yX5_apply cX5_apply 3 (some .int) :: cWd) { frames := φ, cells := nn r.1 - nn π, slots := sw r.1 - sw π, locals := ψ } [rfv g y0, rfv g y1, .int (Int32.ofInt y2)] D (TYs k) (cW k z g π σ) (XV z mi aK aV (cW k z g π σ)) (Nat → Nat) (fun v u => gx (nn π) g u ∧ v = Int32.ofInt r.2.2) (fun u => cW k z u r.1 r.2.1) (nn r.1 - nn π) (sw r.1 - sw π))  {ls : Array Slot} {H : Heap} {locs : List Loc} {g : Nat → Nat} {π : Sh} {σ : St} {x0 : Int} {x2 : Int} {x3 : Int} {s0 : Int} {s1 : Int} (hC : Cl π σ) (hG : gx (nn π0) g0 g) (hX : ext π0 π) (hv_x0 : x0 < nn π) (hv_s0 : s0 < nn π) (hv_s1 : s1 < nn π) (hl : lv_has ls 6 [(0, rfv g x0), (2, .int (Int32.ofInt x2)), (3, .int (Int32.ofInt x3))]) (h : Hp D A s.heap H locs (cW k z g π σ)) (hm : Pc_applyWithFun_272 N rApply π σ x0 x2 x3 s0 s1 = some r) : W p l e { frames := φ + 2, cells := nn r.1 - nn π0, slots := sw r.1 - sw π0, locals := ψ + 47 } s m args below meth c H locs (nn π - nn π0) (sw π - sw π0) (MQ below (va_Qi (fun v u => gx (nn π0) g0 u ∧ v = Int32.ofInt r.2.2) (fun u t => PostW D (TYs k) A (cW k z u r.1 r.2.1) t) A) args s (nn r.1 - nn π0) (sw r.1 - sw π0) A) (F0 m 272 ls [rfv g s0, rfv g s1]) := by
  have hS := hC.1
  have hq := km_Pc_applyWithFun_272 hmrApply   hC hv_x0 hv_s0 hv_s1 hm
  rw [Pc_applyWithFun_272] at hm
  refine lv_dup C.1 C.2.1 dX5_applyWithFun_272 (rfv_cat _ _) ?_
  refine lv_bipush (v := Int32.ofInt 12) C.1 C.2.1 dX5_applyWithFun_273 (by decide) ?_
  refine z_aload_n C dX5_applyWithFun_275 rfl (lv_at hl 0 rfl) ?_
  obtain ⟨g55, hm⟩ := grd_s hm
  refine cg_6_1 C h g55 cU_X5 (List.mem_cons_of_mem _ wl_X5_43) dX5_applyWithFun_276 ?_
  refine z_aload_n C dX5_applyWithFun_279 rfl (lv_at hl 0 rfl) ?_
  refine cg_6_2 C h g55 cU_X5 (List.mem_cons_of_mem _ wl_X5_7) dX5_applyWithFun_280 ?_
  refine lv_iconst (v := Int32.ofInt 0) C.1 C.2.1 dX5_applyWithFun_283 (by decide) ?_
  obtain ⟨r56, e57, hm⟩ := obd_s hm
  have q58 := (km_Sp_initB hC hv_s0 e57)
  obtain ⟨g59, hm⟩ := grd_s hm
  have q := km_Pc_applyWithFun_287 hmrApply  q58.2 (lt_ext hv_s0 q58.1) (lt_ext hv_s1 q58.1) hm
  refine c_callIvA C hE h g59 (kc_Sp_initB l D k z mi aK aV g N hC hv_s0 e57) (cwI 4 C.2.2.1 (gC_X9_init_ _) rfl rfl rfl (C.2.2.1 _ (List.mem_cons_of_mem _ wt_X9)) (C.2.2.1 _ (List.mem_cons_of_mem _ wm_X5_52)) (C.2.2.1 _ (List.mem_cons_of_mem _ wj_X9_init_)) rfl hdS_X9_init_ ⟨(by show 1 + 1 ≤ φ + 2; omega), (by show 8 + (5 + 11) + 30 ≤ ψ + 47; omega)⟩) rfl hl.1 rfl (by simp [rfv_cat, cat_i, cat_l]) dX5_applyWithFun_284 ⟨rcC hX q58.1 q.1, rsC hX q58.1 q.1⟩ (fun u H locs hg h => ?_)
  simp only [← gx_rfv hg hv_x0, ← gx_rfv hg hv_s0, ← gx_rfv hg hv_s1] at hl
  try simp only [← gx_rfv hg hv_x0, ← gx_rfv hg hv_s0, ← gx_rfv hg hv_s1]
  refine W_cast (wcC hX q58.1).symm (wsC hX q58.1).symm ?_
  exact kl_Pc_applyWithFun_287 (N := N) C hr hlk hE hφ hψ hmrApply hcrApply  q58.2 (hG.tr hg hX.1) (hX.tr q58.1) (lt_ext hv_s0 q58.1) (lt_ext hv_s1 q58.1) (lv_sub hl [1, 2] rfl) h hm
set_option maxHeartbeats 8000000 in
set_option maxRecDepth 100000 in
theorem kl_Pc_applyWithFun_332 {r : Sh × St × Int} (C : Cx p s m args c cX5_applyWithFun RX5 (cd :: cWd) D (TYs k) 6) (hr : meth.sig.returnType = (some .int)) (hlk : meth.locks = false) (hE : Ev z mi aK aV A s s.heap) {rApply : Sh → St → Int → Int → Int → Option (Sh × St × Int)} (hφ : 20 ≤ φ) (hψ : 600 ≤ ψ) (hmrApply : ∀ {π : Sh} {σ : St} {y0 : Int} {y1 : Int} {y2 : Int} {r : Sh × St × Int}, Cl π σ → y0 < nn π → y1 < nn π → rApply π σ y0 y1 y2 = some r → ext π r.1 ∧ Cl r.1 r.2.1) (hcrApply : ∀ {g : Nat → Nat} {π : Sh} {σ : St} {y0 : Int} {y1 : Int} {y2 : Int} {r : Sh × St × Int}, Cl π σ → y0 < nn π → y1 < nn π → rApply π σ y0 y1 y2 = some r → Mi l yX5_apply (.code yX5_apply cX5_apply 3 (some .int) :: cWd) { frames := φ, cells := nn r.1 - nn π, slots := sw r.1 - sw π, locals := ψ } [rfv g y0, rfv g y1, .int (Int32.ofInt y2)] D (TYs k) (cW k z g π σ) (XV z mi aK aV (cW k z g π σ)) (Nat → Nat) (fun v u => gx (nn π) g u ∧ v = Int32.ofInt r.2.2) (fun u => cW k z u r.1 r.2.1) (nn r.1 - nn π) (sw r.1 - sw π))  {ls : Array Slot} {H : Heap} {locs : List Loc} {g : Nat → Nat} {π : Sh} {σ : St} {s0 : Int} (hC : Cl π σ) (hG : gx (nn π0) g0 g) (hX : ext π0 π)  (hl : lv_has ls 6 []) (h : Hp D A s.heap H locs (cW k z g π σ)) (hm : Pc_applyWithFun_332 N rApply π σ s0 = some r) : W p l e { frames := φ + 2, cells := nn r.1 - nn π0, slots := sw r.1 - sw π0, locals := ψ + 47 } s m args below meth c H locs (nn π - nn π0) (sw π - sw π0) (MQ below (va_Qi (fun v u => gx (nn π0) g0 u ∧ v = Int32.ofInt r.2.2) (fun u t => PostW D (TYs k) A (cW k z u r.1 r.2.1) t) A) args s (nn r.1 - nn π0) (sw r.1 - sw π0) A) (F0 m 332 ls [.int (Int32.ofInt s0)]) := by
  have hS := hC.1
  have hq := km_Pc_applyWithFun_332 hmrApply   hC  hm
  rw [Pc_applyWithFun_332] at hm
  cases hm
  exact c_iretA C hG h hr hlk dX5_applyWithFun_332 rfl
set_option maxHeartbeats 8000000 in
set_option maxRecDepth 100000 in
theorem kl_Pc_applyWithFun_329 {r : Sh × St × Int} (C : Cx p s m args c cX5_applyWithFun RX5 (cd :: cWd) D (TYs k) 6) (hr : meth.sig.returnType = (some .int)) (hlk : meth.locks = false) (hE : Ev z mi aK aV A s s.heap) {rApply : Sh → St → Int → Int → Int → Option (Sh × St × Int)} (hφ : 20 ≤ φ) (hψ : 600 ≤ ψ) (hmrApply : ∀ {π : Sh} {σ : St} {y0 : Int} {y1 : Int} {y2 : Int} {r : Sh × St × Int}, Cl π σ → y0 < nn π → y1 < nn π → rApply π σ y0 y1 y2 = some r → ext π r.1 ∧ Cl r.1 r.2.1) (hcrApply : ∀ {g : Nat → Nat} {π : Sh} {σ : St} {y0 : Int} {y1 : Int} {y2 : Int} {r : Sh × St × Int}, Cl π σ → y0 < nn π → y1 < nn π → rApply π σ y0 y1 y2 = some r → Mi l yX5_apply (.code yX5_apply cX5_apply 3 (some .int) :: cWd) { frames := φ, cells := nn r.1 - nn π, slots := sw r.1 - sw π, locals := ψ } [rfv g y0, rfv g y1, .int (Int32.ofInt y2)] D (TYs k) (cW k z g π σ) (XV z mi aK aV (cW k z g π σ)) (Nat → Nat) (fun v u => gx (nn π) g u ∧ v = Int32.ofInt r.2.2) (fun u => cW k z u r.1 r.2.1) (nn r.1 - nn π) (sw r.1 - sw π))  {ls : Array Slot} {H : Heap} {locs : List Loc} {g : Nat → Nat} {π : Sh} {σ : St} {s0 : Int} {s1 : Int} (hC : Cl π σ) (hG : gx (nn π0) g0 g) (hX : ext π0 π) (hv_s0 : s0 < nn π) (hv_s1 : s1 < nn π) (hl : lv_has ls 6 []) (h : Hp D A s.heap H locs (cW k z g π σ)) (hm : Pc_applyWithFun_329 N rApply π σ s0 s1 = some r) : W p l e { frames := φ + 2, cells := nn r.1 - nn π0, slots := sw r.1 - sw π0, locals := ψ + 47 } s m args below meth c H locs (nn π - nn π0) (sw π - sw π0) (MQ below (va_Qi (fun v u => gx (nn π0) g0 u ∧ v = Int32.ofInt r.2.2) (fun u t => PostW D (TYs k) A (cW k z u r.1 r.2.1) t) A) args s (nn r.1 - nn π0) (sw r.1 - sw π0) A) (F0 m 329 ls [rfv g s0, rfv g s1]) := by
  have hS := hC.1
  have hq := km_Pc_applyWithFun_329 hmrApply   hC hv_s0 hv_s1 hm
  rw [Pc_applyWithFun_329] at hm
  obtain ⟨r157, e158, hm⟩ := obd_s hm
  have q159 := (km_Df_add hC hv_s1 hv_s0 e158)
  obtain ⟨g160, hm⟩ := grd_s hm
  have q := km_Pc_applyWithFun_332 hmrApply  q159.2  hm
  refine c_callViA C hE h g160 rfl (by decide) (kc_Df_add l D k z mi aK aV g N hC hv_s1 hv_s0 e158) (cwV 1 C.2.2.1 (gS_X5_59 _) rfl rfl rfl hd_X0_add ⟨(by show 7 + 1 ≤ φ + 2; omega), (by show 8 + (2 + 11) + 241 ≤ ψ + 47; omega)⟩) rfl hl.1 rfl (Nat.le_of_ble_eq_true rfl) dX5_applyWithFun_329 ⟨rcC hX q159.1 q.1, rsC hX q159.1 q.1⟩ (fun u H locs hg h => ?_)
  refine W_cast (wcC hX q159.1).symm (wsC hX q159.1).symm ?_
  exact kl_Pc_applyWithFun_332 (N := N) C hr hlk hE hφ hψ hmrApply hcrApply  q159.2 (hG.tr hg hX.1) (hX.tr q159.1)  (lv_sub hl [] rfl) h hm
set_option maxHeartbeats 8000000 in
set_option maxRecDepth 100000 in
theorem kl_Pc_applyWithFun_325 {r : Sh × St × Int} (C : Cx p s m args c cX5_applyWithFun RX5 (cd :: cWd) D (TYs k) 6) (hr : meth.sig.returnType = (some .int)) (hlk : meth.locks = false) (hE : Ev z mi aK aV A s s.heap) {rApply : Sh → St → Int → Int → Int → Option (Sh × St × Int)} (hφ : 20 ≤ φ) (hψ : 600 ≤ ψ) (hmrApply : ∀ {π : Sh} {σ : St} {y0 : Int} {y1 : Int} {y2 : Int} {r : Sh × St × Int}, Cl π σ → y0 < nn π → y1 < nn π → rApply π σ y0 y1 y2 = some r → ext π r.1 ∧ Cl r.1 r.2.1) (hcrApply : ∀ {g : Nat → Nat} {π : Sh} {σ : St} {y0 : Int} {y1 : Int} {y2 : Int} {r : Sh × St × Int}, Cl π σ → y0 < nn π → y1 < nn π → rApply π σ y0 y1 y2 = some r → Mi l yX5_apply (.code yX5_apply cX5_apply 3 (some .int) :: cWd) { frames := φ, cells := nn r.1 - nn π, slots := sw r.1 - sw π, locals := ψ } [rfv g y0, rfv g y1, .int (Int32.ofInt y2)] D (TYs k) (cW k z g π σ) (XV z mi aK aV (cW k z g π σ)) (Nat → Nat) (fun v u => gx (nn π) g u ∧ v = Int32.ofInt r.2.2) (fun u => cW k z u r.1 r.2.1) (nn r.1 - nn π) (sw r.1 - sw π))  {ls : Array Slot} {H : Heap} {locs : List Loc} {g : Nat → Nat} {π : Sh} {σ : St} {x3 : Int} {s0 : Int} {s1 : Int} (hC : Cl π σ) (hG : gx (nn π0) g0 g) (hX : ext π0 π) (hv_s0 : s0 < nn π) (hv_s1 : s1 < nn π) (hl : lv_has ls 6 [(3, .int (Int32.ofInt x3))]) (h : Hp D A s.heap H locs (cW k z g π σ)) (hm : Pc_applyWithFun_325 N rApply π σ x3 s0 s1 = some r) : W p l e { frames := φ + 2, cells := nn r.1 - nn π0, slots := sw r.1 - sw π0, locals := ψ + 47 } s m args below meth c H locs (nn π - nn π0) (sw π - sw π0) (MQ below (va_Qi (fun v u => gx (nn π0) g0 u ∧ v = Int32.ofInt r.2.2) (fun u t => PostW D (TYs k) A (cW k z u r.1 r.2.1) t) A) args s (nn r.1 - nn π0) (sw r.1 - sw π0) A) (F0 m 325 ls [rfv g s0, rfv g s1]) := by
  have hS := hC.1
  have hq := km_Pc_applyWithFun_325 hmrApply   hC hv_s0 hv_s1 hm
  rw [Pc_applyWithFun_325] at hm
  refine lv_iload_n C.1 C.2.1 dX5_applyWithFun_325 rfl (lv_at hl 0 rfl) ?_
  obtain ⟨r128, e129, hm⟩ := obd_s hm
  have q130 := (km_Sp_give hC hv_s0 e129)
  obtain ⟨g131, hm⟩ := grd_s hm
  have q := km_Pc_applyWithFun_329 hmrApply  q130.2.1 q130.2.2 (lt_ext hv_s1 q130.1) hm
  refine c_callVqA C hE h g131 rfl (by decide) (kc_Sp_give l D k z mi aK aV g N hC hv_s0 e129) (cwV 1 C.2.2.1 (gS_X5_55 _) rfl rfl rfl hd_X9_give ⟨(by show 2 + 1 ≤ φ + 2; omega), (by show 8 + (2 + 11) + 82 ≤ ψ + 47; omega)⟩) rfl hl.1 rfl (by simp [rfv_cat, cat_i, cat_l]) dX5_applyWithFun_326 ⟨rcC hX q130.1 q.1, rsC hX q130.1 q.1⟩ (fun u H locs hg h => ?_)
  try simp only [← gx_rfv hg hv_s1]
  refine W_cast (wcC hX q130.1).symm (wsC hX q130.1).symm ?_
  exact kl_Pc_applyWithFun_329 (N := N) C hr hlk hE hφ hψ hmrApply hcrApply  q130.2.1 (hG.tr hg hX.1) (hX.tr q130.1) q130.2.2 (lt_ext hv_s1 q130.1) (lv_sub hl [] rfl) h hm
set_option maxHeartbeats 8000000 in
set_option maxRecDepth 100000 in
theorem kl_Pc_applyWithFun_321 {r : Sh × St × Int} (C : Cx p s m args c cX5_applyWithFun RX5 (cd :: cWd) D (TYs k) 6) (hr : meth.sig.returnType = (some .int)) (hlk : meth.locks = false) (hE : Ev z mi aK aV A s s.heap) {rApply : Sh → St → Int → Int → Int → Option (Sh × St × Int)} (hφ : 20 ≤ φ) (hψ : 600 ≤ ψ) (hmrApply : ∀ {π : Sh} {σ : St} {y0 : Int} {y1 : Int} {y2 : Int} {r : Sh × St × Int}, Cl π σ → y0 < nn π → y1 < nn π → rApply π σ y0 y1 y2 = some r → ext π r.1 ∧ Cl r.1 r.2.1) (hcrApply : ∀ {g : Nat → Nat} {π : Sh} {σ : St} {y0 : Int} {y1 : Int} {y2 : Int} {r : Sh × St × Int}, Cl π σ → y0 < nn π → y1 < nn π → rApply π σ y0 y1 y2 = some r → Mi l yX5_apply (.code yX5_apply cX5_apply 3 (some .int) :: cWd) { frames := φ, cells := nn r.1 - nn π, slots := sw r.1 - sw π, locals := ψ } [rfv g y0, rfv g y1, .int (Int32.ofInt y2)] D (TYs k) (cW k z g π σ) (XV z mi aK aV (cW k z g π σ)) (Nat → Nat) (fun v u => gx (nn π) g u ∧ v = Int32.ofInt r.2.2) (fun u => cW k z u r.1 r.2.1) (nn r.1 - nn π) (sw r.1 - sw π))  {ls : Array Slot} {H : Heap} {locs : List Loc} {g : Nat → Nat} {π : Sh} {σ : St} {x2 : Int} {x3 : Int} {s0 : Int} {s1 : Int} (hC : Cl π σ) (hG : gx (nn π0) g0 g) (hX : ext π0 π) (hv_s0 : s0 < nn π) (hv_s1 : s1 < nn π) (hl : lv_has ls 6 [(2, .int (Int32.ofInt x2)), (3, .int (Int32.ofInt x3))]) (h : Hp D A s.heap H locs (cW k z g π σ)) (hm : Pc_applyWithFun_321 N rApply π σ x2 x3 s0 s1 = some r) : W p l e { frames := φ + 2, cells := nn r.1 - nn π0, slots := sw r.1 - sw π0, locals := ψ + 47 } s m args below meth c H locs (nn π - nn π0) (sw π - sw π0) (MQ below (va_Qi (fun v u => gx (nn π0) g0 u ∧ v = Int32.ofInt r.2.2) (fun u t => PostW D (TYs k) A (cW k z u r.1 r.2.1) t) A) args s (nn r.1 - nn π0) (sw r.1 - sw π0) A) (F0 m 321 ls [rfv g s0, rfv g s1]) := by
  have hS := hC.1
  have hq := km_Pc_applyWithFun_321 hmrApply   hC hv_s0 hv_s1 hm
  rw [Pc_applyWithFun_321] at hm
  refine lv_iload_n C.1 C.2.1 dX5_applyWithFun_321 rfl (lv_at hl 0 rfl) ?_
  obtain ⟨r96, e97, hm⟩ := obd_s hm
  have q98 := (km_Sp_give hC hv_s0 e97)
  obtain ⟨g99, hm⟩ := grd_s hm
  have q := km_Pc_applyWithFun_325 hmrApply  q98.2.1 q98.2.2 (lt_ext hv_s1 q98.1) hm
  refine c_callVqA C hE h g99 rfl (by decide) (kc_Sp_give l D k z mi aK aV g N hC hv_s0 e97) (cwV 1 C.2.2.1 (gS_X5_55 _) rfl rfl rfl hd_X9_give ⟨(by show 2 + 1 ≤ φ + 2; omega), (by show 8 + (2 + 11) + 82 ≤ ψ + 47; omega)⟩) rfl hl.1 rfl (by simp [rfv_cat, cat_i, cat_l]) dX5_applyWithFun_322 ⟨rcC hX q98.1 q.1, rsC hX q98.1 q.1⟩ (fun u H locs hg h => ?_)
  try simp only [← gx_rfv hg hv_s1]
  refine W_cast (wcC hX q98.1).symm (wsC hX q98.1).symm ?_
  exact kl_Pc_applyWithFun_325 (N := N) C hr hlk hE hφ hψ hmrApply hcrApply  q98.2.1 (hG.tr hg hX.1) (hX.tr q98.1) q98.2.2 (lt_ext hv_s1 q98.1) (lv_sub hl [1] rfl) h hm
set_option maxHeartbeats 8000000 in
set_option maxRecDepth 100000 in
theorem kl_Pc_applyWithFun_303 {r : Sh × St × Int} (C : Cx p s m args c cX5_applyWithFun RX5 (cd :: cWd) D (TYs k) 6) (hr : meth.sig.returnType = (some .int)) (hlk : meth.locks = false) (hE : Ev z mi aK aV A s s.heap) {rApply : Sh → St → Int → Int → Int → Option (Sh × St × Int)} (hφ : 20 ≤ φ) (hψ : 600 ≤ ψ) (hmrApply : ∀ {π : Sh} {σ : St} {y0 : Int} {y1 : Int} {y2 : Int} {r : Sh × St × Int}, Cl π σ → y0 < nn π → y1 < nn π → rApply π σ y0 y1 y2 = some r → ext π r.1 ∧ Cl r.1 r.2.1) (hcrApply : ∀ {g : Nat → Nat} {π : Sh} {σ : St} {y0 : Int} {y1 : Int} {y2 : Int} {r : Sh × St × Int}, Cl π σ → y0 < nn π → y1 < nn π → rApply π σ y0 y1 y2 = some r → Mi l yX5_apply (.code yX5_apply cX5_apply 3 (some .int) :: cWd) { frames := φ, cells := nn r.1 - nn π, slots := sw r.1 - sw π, locals := ψ } [rfv g y0, rfv g y1, .int (Int32.ofInt y2)] D (TYs k) (cW k z g π σ) (XV z mi aK aV (cW k z g π σ)) (Nat → Nat) (fun v u => gx (nn π) g u ∧ v = Int32.ofInt r.2.2) (fun u => cW k z u r.1 r.2.1) (nn r.1 - nn π) (sw r.1 - sw π))  {ls : Array Slot} {H : Heap} {locs : List Loc} {g : Nat → Nat} {π : Sh} {σ : St} {x0 : Int} {x2 : Int} {x3 : Int} {s0 : Int} {s1 : Int} (hC : Cl π σ) (hG : gx (nn π0) g0 g) (hX : ext π0 π) (hv_x0 : x0 < nn π) (hv_s0 : s0 < nn π) (hv_s1 : s1 < nn π) (hl : lv_has ls 6 [(0, rfv g x0), (2, .int (Int32.ofInt x2)), (3, .int (Int32.ofInt x3))]) (h : Hp D A s.heap H locs (cW k z g π σ)) (hm : Pc_applyWithFun_303 N rApply π σ x0 x2 x3 s0 s1 = some r) : W p l e { frames := φ + 2, cells := nn r.1 - nn π0, slots := sw r.1 - sw π0, locals := ψ + 47 } s m args below meth c H locs (nn π - nn π0) (sw π - sw π0) (MQ below (va_Qi (fun v u => gx (nn π0) g0 u ∧ v = Int32.ofInt r.2.2) (fun u t => PostW D (TYs k) A (cW k z u r.1 r.2.1) t) A) args s (nn r.1 - nn π0) (sw r.1 - sw π0) A) (F0 m 303 ls [rfv g s0, rfv g s1]) := by
  have hS := hC.1
  have hq := km_Pc_applyWithFun_303 hmrApply   hC hv_x0 hv_s0 hv_s1 hm
  rw [Pc_applyWithFun_303] at hm
  refine lv_dup C.1 C.2.1 dX5_applyWithFun_303 (rfv_cat _ _) ?_
  refine lv_bipush (v := Int32.ofInt 13) C.1 C.2.1 dX5_applyWithFun_304 (by decide) ?_
  refine z_aload_n C dX5_applyWithFun_306 rfl (lv_at hl 0 rfl) ?_
  obtain ⟨g60, hm⟩ := grd_s hm
  refine cg_6_1 C h g60 cU_X5 (List.mem_cons_of_mem _ wl_X5_43) dX5_applyWithFun_307 ?_
  refine z_aload_n C dX5_applyWithFun_310 rfl (lv_at hl 0 rfl) ?_
  refine cg_6_2 C h g60 cU_X5 (List.mem_cons_of_mem _ wl_X5_7) dX5_applyWithFun_311 ?_
  refine z_aload_n C dX5_applyWithFun_314 rfl (lv_at hl 0 rfl) ?_
  refine cg_6_3 C h g60 cU_X5 (List.mem_cons_of_mem _ wl_X5_13) dX5_applyWithFun_315 ?_
  obtain ⟨r61, e62, hm⟩ := obd_s hm
  have q63 := (km_Sp_initB hC hv_s0 e62)
  obtain ⟨g64, hm⟩ := grd_s hm
  have q := km_Pc_applyWithFun_321 hmrApply  q63.2 (lt_ext hv_s0 q63.1) (lt_ext hv_s1 q63.1) hm
  refine c_callIvA C hE h g64 (kc_Sp_initB l D k z mi aK aV g N hC hv_s0 e62) (cwI 4 C.2.2.1 (gC_X9_init_ _) rfl rfl rfl (C.2.2.1 _ (List.mem_cons_of_mem _ wt_X9)) (C.2.2.1 _ (List.mem_cons_of_mem _ wm_X5_52)) (C.2.2.1 _ (List.mem_cons_of_mem _ wj_X9_init_)) rfl hdS_X9_init_ ⟨(by show 1 + 1 ≤ φ + 2; omega), (by show 8 + (5 + 11) + 30 ≤ ψ + 47; omega)⟩) rfl hl.1 rfl (by simp [rfv_cat, cat_i, cat_l]) dX5_applyWithFun_318 ⟨rcC hX q63.1 q.1, rsC hX q63.1 q.1⟩ (fun u H locs hg h => ?_)
  simp only [← gx_rfv hg hv_x0, ← gx_rfv hg hv_s0, ← gx_rfv hg hv_s1] at hl
  try simp only [← gx_rfv hg hv_x0, ← gx_rfv hg hv_s0, ← gx_rfv hg hv_s1]
  refine W_cast (wcC hX q63.1).symm (wsC hX q63.1).symm ?_
  exact kl_Pc_applyWithFun_321 (N := N) C hr hlk hE hφ hψ hmrApply hcrApply  q63.2 (hG.tr hg hX.1) (hX.tr q63.1) (lt_ext hv_s0 q63.1) (lt_ext hv_s1 q63.1) (lv_sub hl [1, 2] rfl) h hm
set_option maxHeartbeats 8000000 in
set_option maxRecDepth 100000 in
theorem kl_Pc_applyWithFun_441 {r : Sh × St × Int} (C : Cx p s m args c cX5_applyWithFun RX5 (cd :: cWd) D (TYs k) 6) (hr : meth.sig.returnType = (some .int)) (hlk : meth.locks = false) (hE : Ev z mi aK aV A s s.heap) {rApply : Sh → St → Int → Int → Int → Option (Sh × St × Int)} (hφ : 20 ≤ φ) (hψ : 600 ≤ ψ) (hmrApply : ∀ {π : Sh} {σ : St} {y0 : Int} {y1 : Int} {y2 : Int} {r : Sh × St × Int}, Cl π σ → y0 < nn π → y1 < nn π → rApply π σ y0 y1 y2 = some r → ext π r.1 ∧ Cl r.1 r.2.1) (hcrApply : ∀ {g : Nat → Nat} {π : Sh} {σ : St} {y0 : Int} {y1 : Int} {y2 : Int} {r : Sh × St × Int}, Cl π σ → y0 < nn π → y1 < nn π → rApply π σ y0 y1 y2 = some r → Mi l yX5_apply (.code yX5_apply cX5_apply 3 (some .int) :: cWd) { frames := φ, cells := nn r.1 - nn π, slots := sw r.1 - sw π, locals := ψ } [rfv g y0, rfv g y1, .int (Int32.ofInt y2)] D (TYs k) (cW k z g π σ) (XV z mi aK aV (cW k z g π σ)) (Nat → Nat) (fun v u => gx (nn π) g u ∧ v = Int32.ofInt r.2.2) (fun u => cW k z u r.1 r.2.1) (nn r.1 - nn π) (sw r.1 - sw π))  {ls : Array Slot} {H : Heap} {locs : List Loc} {g : Nat → Nat} {π : Sh} {σ : St} {s0 : Int} (hC : Cl π σ) (hG : gx (nn π0) g0 g) (hX : ext π0 π)  (hl : lv_has ls 6 []) (h : Hp D A s.heap H locs (cW k z g π σ)) (hm : Pc_applyWithFun_441 N rApply π σ s0 = some r) : W p l e { frames := φ + 2, cells := nn r.1 - nn π0, slots := sw r.1 - sw π0, locals := ψ + 47 } s m args below meth c H locs (nn π - nn π0) (sw π - sw π0) (MQ below (va_Qi (fun v u => gx (nn π0) g0 u ∧ v = Int32.ofInt r.2.2) (fun u t => PostW D (TYs k) A (cW k z u r.1 r.2.1) t) A) args s (nn r.1 - nn π0) (sw r.1 - sw π0) A) (F0 m 441 ls [.int (Int32.ofInt s0)]) := by
  have hS := hC.1
  have hq := km_Pc_applyWithFun_441 hmrApply   hC  hm
  rw [Pc_applyWithFun_441] at hm
  cases hm
  exact c_iretA C hG h hr hlk dX5_applyWithFun_441 rfl
set_option maxHeartbeats 8000000 in
set_option maxRecDepth 100000 in
theorem kl_Pc_applyWithFun_438 {r : Sh × St × Int} (C : Cx p s m args c cX5_applyWithFun RX5 (cd :: cWd) D (TYs k) 6) (hr : meth.sig.returnType = (some .int)) (hlk : meth.locks = false) (hE : Ev z mi aK aV A s s.heap) {rApply : Sh → St → Int → Int → Int → Option (Sh × St × Int)} (hφ : 20 ≤ φ) (hψ : 600 ≤ ψ) (hmrApply : ∀ {π : Sh} {σ : St} {y0 : Int} {y1 : Int} {y2 : Int} {r : Sh × St × Int}, Cl π σ → y0 < nn π → y1 < nn π → rApply π σ y0 y1 y2 = some r → ext π r.1 ∧ Cl r.1 r.2.1) (hcrApply : ∀ {g : Nat → Nat} {π : Sh} {σ : St} {y0 : Int} {y1 : Int} {y2 : Int} {r : Sh × St × Int}, Cl π σ → y0 < nn π → y1 < nn π → rApply π σ y0 y1 y2 = some r → Mi l yX5_apply (.code yX5_apply cX5_apply 3 (some .int) :: cWd) { frames := φ, cells := nn r.1 - nn π, slots := sw r.1 - sw π, locals := ψ } [rfv g y0, rfv g y1, .int (Int32.ofInt y2)] D (TYs k) (cW k z g π σ) (XV z mi aK aV (cW k z g π σ)) (Nat → Nat) (fun v u => gx (nn π) g u ∧ v = Int32.ofInt r.2.2) (fun u => cW k z u r.1 r.2.1) (nn r.1 - nn π) (sw r.1 - sw π))  {ls : Array Slot} {H : Heap} {locs : List Loc} {g : Nat → Nat} {π : Sh} {σ : St} {s0 : Int} {s1 : Int} (hC : Cl π σ) (hG : gx (nn π0) g0 g) (hX : ext π0 π) (hv_s0 : s0 < nn π) (hv_s1 : s1 < nn π) (hl : lv_has ls 6 []) (h : Hp D A s.heap H locs (cW k z g π σ)) (hm : Pc_applyWithFun_438 N rApply π σ s0 s1 = some r) : W p l e { frames := φ + 2, cells := nn r.1 - nn π0, slots := sw r.1 - sw π0, locals := ψ + 47 } s m args below meth c H locs (nn π - nn π0) (sw π - sw π0) (MQ below (va_Qi (fun v u => gx (nn π0) g0 u ∧ v = Int32.ofInt r.2.2) (fun u t => PostW D (TYs k) A (cW k z u r.1 r.2.1) t) A) args s (nn r.1 - nn π0) (sw r.1 - sw π0) A) (F0 m 438 ls [rfv g s0, rfv g s1]) := by
  have hS := hC.1
  have hq := km_Pc_applyWithFun_438 hmrApply   hC hv_s0 hv_s1 hm
  rw [Pc_applyWithFun_438] at hm
  obtain ⟨r214, e215, hm⟩ := obd_s hm
  have q216 := (km_Df_add hC hv_s1 hv_s0 e215)
  obtain ⟨g217, hm⟩ := grd_s hm
  have q := km_Pc_applyWithFun_441 hmrApply  q216.2  hm
  refine c_callViA C hE h g217 rfl (by decide) (kc_Df_add l D k z mi aK aV g N hC hv_s1 hv_s0 e215) (cwV 1 C.2.2.1 (gS_X5_59 _) rfl rfl rfl hd_X0_add ⟨(by show 7 + 1 ≤ φ + 2; omega), (by show 8 + (2 + 11) + 241 ≤ ψ + 47; omega)⟩) rfl hl.1 rfl (Nat.le_of_ble_eq_true rfl) dX5_applyWithFun_438 ⟨rcC hX q216.1 q.1, rsC hX q216.1 q.1⟩ (fun u H locs hg h => ?_)
  refine W_cast (wcC hX q216.1).symm (wsC hX q216.1).symm ?_
  exact kl_Pc_applyWithFun_441 (N := N) C hr hlk hE hφ hψ hmrApply hcrApply  q216.2 (hG.tr hg hX.1) (hX.tr q216.1)  (lv_sub hl [] rfl) h hm
set_option maxHeartbeats 8000000 in
set_option maxRecDepth 100000 in
theorem kl_Pc_applyWithFun_433 {r : Sh × St × Int} (C : Cx p s m args c cX5_applyWithFun RX5 (cd :: cWd) D (TYs k) 6) (hr : meth.sig.returnType = (some .int)) (hlk : meth.locks = false) (hE : Ev z mi aK aV A s s.heap) {rApply : Sh → St → Int → Int → Int → Option (Sh × St × Int)} (hφ : 20 ≤ φ) (hψ : 600 ≤ ψ) (hmrApply : ∀ {π : Sh} {σ : St} {y0 : Int} {y1 : Int} {y2 : Int} {r : Sh × St × Int}, Cl π σ → y0 < nn π → y1 < nn π → rApply π σ y0 y1 y2 = some r → ext π r.1 ∧ Cl r.1 r.2.1) (hcrApply : ∀ {g : Nat → Nat} {π : Sh} {σ : St} {y0 : Int} {y1 : Int} {y2 : Int} {r : Sh × St × Int}, Cl π σ → y0 < nn π → y1 < nn π → rApply π σ y0 y1 y2 = some r → Mi l yX5_apply (.code yX5_apply cX5_apply 3 (some .int) :: cWd) { frames := φ, cells := nn r.1 - nn π, slots := sw r.1 - sw π, locals := ψ } [rfv g y0, rfv g y1, .int (Int32.ofInt y2)] D (TYs k) (cW k z g π σ) (XV z mi aK aV (cW k z g π σ)) (Nat → Nat) (fun v u => gx (nn π) g u ∧ v = Int32.ofInt r.2.2) (fun u => cW k z u r.1 r.2.1) (nn r.1 - nn π) (sw r.1 - sw π))  {ls : Array Slot} {H : Heap} {locs : List Loc} {g : Nat → Nat} {π : Sh} {σ : St} {x4 : Int} {s0 : Int} {s1 : Int} (hC : Cl π σ) (hG : gx (nn π0) g0 g) (hX : ext π0 π) (hv_s0 : s0 < nn π) (hv_s1 : s1 < nn π) (hl : lv_has ls 6 [(4, .int (Int32.ofInt x4))]) (h : Hp D A s.heap H locs (cW k z g π σ)) (hm : Pc_applyWithFun_433 N rApply π σ x4 s0 s1 = some r) : W p l e { frames := φ + 2, cells := nn r.1 - nn π0, slots := sw r.1 - sw π0, locals := ψ + 47 } s m args below meth c H locs (nn π - nn π0) (sw π - sw π0) (MQ below (va_Qi (fun v u => gx (nn π0) g0 u ∧ v = Int32.ofInt r.2.2) (fun u t => PostW D (TYs k) A (cW k z u r.1 r.2.1) t) A) args s (nn r.1 - nn π0) (sw r.1 - sw π0) A) (F0 m 433 ls [rfv g s0, rfv g s1]) := by
  have hS := hC.1
  have hq := km_Pc_applyWithFun_433 hmrApply   hC hv_s0 hv_s1 hm
  rw [Pc_applyWithFun_433] at hm
  refine lv_iload C.1 C.2.1 dX5_applyWithFun_433 (lv_at hl 0 rfl) ?_
  obtain ⟨r202, e203, hm⟩ := obd_s hm
  have q204 := (km_Sp_give hC hv_s0 e203)
  obtain ⟨g205, hm⟩ := grd_s hm
  have q := km_Pc_applyWithFun_438 hmrApply  q204.2.1 q204.2.2 (lt_ext hv_s1 q204.1) hm
  refine c_callVqA C hE h g205 rfl (by decide) (kc_Sp_give l D k z mi aK aV g N hC hv_s0 e203) (cwV 1 C.2.2.1 (gS_X5_55 _) rfl rfl rfl hd_X9_give ⟨(by show 2 + 1 ≤ φ + 2; omega), (by show 8 + (2 + 11) + 82 ≤ ψ + 47; omega)⟩) rfl hl.1 rfl (by simp [rfv_cat, cat_i, cat_l]) dX5_applyWithFun_435 ⟨rcC hX q204.1 q.1, rsC hX q204.1 q.1⟩ (fun u H locs hg h => ?_)
  try simp only [← gx_rfv hg hv_s1]
  refine W_cast (wcC hX q204.1).symm (wsC hX q204.1).symm ?_
  exact kl_Pc_applyWithFun_438 (N := N) C hr hlk hE hφ hψ hmrApply hcrApply  q204.2.1 (hG.tr hg hX.1) (hX.tr q204.1) q204.2.2 (lt_ext hv_s1 q204.1) (lv_sub hl [] rfl) h hm
set_option maxHeartbeats 8000000 in
set_option maxRecDepth 100000 in
theorem kl_Pc_applyWithFun_429 {r : Sh × St × Int} (C : Cx p s m args c cX5_applyWithFun RX5 (cd :: cWd) D (TYs k) 6) (hr : meth.sig.returnType = (some .int)) (hlk : meth.locks = false) (hE : Ev z mi aK aV A s s.heap) {rApply : Sh → St → Int → Int → Int → Option (Sh × St × Int)} (hφ : 20 ≤ φ) (hψ : 600 ≤ ψ) (hmrApply : ∀ {π : Sh} {σ : St} {y0 : Int} {y1 : Int} {y2 : Int} {r : Sh × St × Int}, Cl π σ → y0 < nn π → y1 < nn π → rApply π σ y0 y1 y2 = some r → ext π r.1 ∧ Cl r.1 r.2.1) (hcrApply : ∀ {g : Nat → Nat} {π : Sh} {σ : St} {y0 : Int} {y1 : Int} {y2 : Int} {r : Sh × St × Int}, Cl π σ → y0 < nn π → y1 < nn π → rApply π σ y0 y1 y2 = some r → Mi l yX5_apply (.code yX5_apply cX5_apply 3 (some .int) :: cWd) { frames := φ, cells := nn r.1 - nn π, slots := sw r.1 - sw π, locals := ψ } [rfv g y0, rfv g y1, .int (Int32.ofInt y2)] D (TYs k) (cW k z g π σ) (XV z mi aK aV (cW k z g π σ)) (Nat → Nat) (fun v u => gx (nn π) g u ∧ v = Int32.ofInt r.2.2) (fun u => cW k z u r.1 r.2.1) (nn r.1 - nn π) (sw r.1 - sw π))  {ls : Array Slot} {H : Heap} {locs : List Loc} {g : Nat → Nat} {π : Sh} {σ : St} {x2 : Int} {x4 : Int} {s0 : Int} {s1 : Int} (hC : Cl π σ) (hG : gx (nn π0) g0 g) (hX : ext π0 π) (hv_s0 : s0 < nn π) (hv_s1 : s1 < nn π) (hl : lv_has ls 6 [(2, .int (Int32.ofInt x2)), (4, .int (Int32.ofInt x4))]) (h : Hp D A s.heap H locs (cW k z g π σ)) (hm : Pc_applyWithFun_429 N rApply π σ x2 x4 s0 s1 = some r) : W p l e { frames := φ + 2, cells := nn r.1 - nn π0, slots := sw r.1 - sw π0, locals := ψ + 47 } s m args below meth c H locs (nn π - nn π0) (sw π - sw π0) (MQ below (va_Qi (fun v u => gx (nn π0) g0 u ∧ v = Int32.ofInt r.2.2) (fun u t => PostW D (TYs k) A (cW k z u r.1 r.2.1) t) A) args s (nn r.1 - nn π0) (sw r.1 - sw π0) A) (F0 m 429 ls [rfv g s0, rfv g s1]) := by
  have hS := hC.1
  have hq := km_Pc_applyWithFun_429 hmrApply   hC hv_s0 hv_s1 hm
  rw [Pc_applyWithFun_429] at hm
  refine lv_iload_n C.1 C.2.1 dX5_applyWithFun_429 rfl (lv_at hl 0 rfl) ?_
  obtain ⟨r190, e191, hm⟩ := obd_s hm
  have q192 := (km_Sp_give hC hv_s0 e191)
  obtain ⟨g193, hm⟩ := grd_s hm
  have q := km_Pc_applyWithFun_433 hmrApply  q192.2.1 q192.2.2 (lt_ext hv_s1 q192.1) hm
  refine c_callVqA C hE h g193 rfl (by decide) (kc_Sp_give l D k z mi aK aV g N hC hv_s0 e191) (cwV 1 C.2.2.1 (gS_X5_55 _) rfl rfl rfl hd_X9_give ⟨(by show 2 + 1 ≤ φ + 2; omega), (by show 8 + (2 + 11) + 82 ≤ ψ + 47; omega)⟩) rfl hl.1 rfl (by simp [rfv_cat, cat_i, cat_l]) dX5_applyWithFun_430 ⟨rcC hX q192.1 q.1, rsC hX q192.1 q.1⟩ (fun u H locs hg h => ?_)
  try simp only [← gx_rfv hg hv_s1]
  refine W_cast (wcC hX q192.1).symm (wsC hX q192.1).symm ?_
  exact kl_Pc_applyWithFun_433 (N := N) C hr hlk hE hφ hψ hmrApply hcrApply  q192.2.1 (hG.tr hg hX.1) (hX.tr q192.1) q192.2.2 (lt_ext hv_s1 q192.1) (lv_sub hl [1] rfl) h hm
set_option maxHeartbeats 8000000 in
set_option maxRecDepth 100000 in
theorem kl_Pc_applyWithFun_419 {r : Sh × St × Int} (C : Cx p s m args c cX5_applyWithFun RX5 (cd :: cWd) D (TYs k) 6) (hr : meth.sig.returnType = (some .int)) (hlk : meth.locks = false) (hE : Ev z mi aK aV A s s.heap) {rApply : Sh → St → Int → Int → Int → Option (Sh × St × Int)} (hφ : 20 ≤ φ) (hψ : 600 ≤ ψ) (hmrApply : ∀ {π : Sh} {σ : St} {y0 : Int} {y1 : Int} {y2 : Int} {r : Sh × St × Int}, Cl π σ → y0 < nn π → y1 < nn π → rApply π σ y0 y1 y2 = some r → ext π r.1 ∧ Cl r.1 r.2.1) (hcrApply : ∀ {g : Nat → Nat} {π : Sh} {σ : St} {y0 : Int} {y1 : Int} {y2 : Int} {r : Sh × St × Int}, Cl π σ → y0 < nn π → y1 < nn π → rApply π σ y0 y1 y2 = some r → Mi l yX5_apply (.code yX5_apply cX5_apply 3 (some .int) :: cWd) { frames := φ, cells := nn r.1 - nn π, slots := sw r.1 - sw π, locals := ψ } [rfv g y0, rfv g y1, .int (Int32.ofInt y2)] D (TYs k) (cW k z g π σ) (XV z mi aK aV (cW k z g π σ)) (Nat → Nat) (fun v u => gx (nn π) g u ∧ v = Int32.ofInt r.2.2) (fun u => cW k z u r.1 r.2.1) (nn r.1 - nn π) (sw r.1 - sw π))  {ls : Array Slot} {H : Heap} {locs : List Loc} {g : Nat → Nat} {π : Sh} {σ : St} {x0 : Int} {x2 : Int} {x4 : Int} {s0 : Int} {s1 : Int} (hC : Cl π σ) (hG : gx (nn π0) g0 g) (hX : ext π0 π) (hv_x0 : x0 < nn π) (hv_s0 : s0 < nn π) (hv_s1 : s1 < nn π) (hl : lv_has ls 6 [(0, rfv g x0), (2, .int (Int32.ofInt x2)), (4, .int (Int32.ofInt x4))]) (h : Hp D A s.heap H locs (cW k z g π σ)) (hm : Pc_applyWithFun_419 N rApply π σ x0 x2 x4 s0 s1 = some r) : W p l e { frames := φ + 2, cells := nn r.1 - nn π0, slots := sw r.1 - sw π0, locals := ψ + 47 } s m args below meth c H locs (nn π - nn π0) (sw π - sw π0) (MQ below (va_Qi (fun v u => gx (nn π0) g0 u ∧ v = Int32.ofInt r.2.2) (fun u t => PostW D (TYs k) A (cW k z u r.1 r.2.1) t) A) args s (nn r.1 - nn π0) (sw r.1 - sw π0) A) (F0 m 419 ls [rfv g s0, rfv g s1]) := by
  have hS := hC.1
  have hq := km_Pc_applyWithFun_419 hmrApply   hC hv_x0 hv_s0 hv_s1 hm
  rw [Pc_applyWithFun_419] at hm
  refine lv_dup C.1 C.2.1 dX5_applyWithFun_419 (rfv_cat _ _) ?_
  refine lv_bipush (v := Int32.ofInt 8) C.1 C.2.1 dX5_applyWithFun_420 (by decide) ?_
  refine z_aload_n C dX5_applyWithFun_422 rfl (lv_at hl 0 rfl) ?_
  obtain ⟨g176, hm⟩ := grd_s hm
  refine cg_6_1 C h g176 cU_X5 (List.mem_cons_of_mem _ wl_X5_43) dX5_applyWithFun_423 ?_
  obtain ⟨r177, e178, hm⟩ := obd_s hm
  have q179 := (km_Sp_init hC hv_s0 e178)
  obtain ⟨g180, hm⟩ := grd_s hm
  have q := km_Pc_applyWithFun_429 hmrApply  q179.2 (lt_ext hv_s0 q179.1) (lt_ext hv_s1 q179.1) hm
  refine c_callIvA C hE h g180 (kc_Sp_init l D k z mi aK aV g N hC hv_s0 e178) (cwI 2 C.2.2.1 (gC_X9_init _) rfl rfl rfl (C.2.2.1 _ (List.mem_cons_of_mem _ wt_X9)) (C.2.2.1 _ (List.mem_cons_of_mem _ wm_X5_65)) (C.2.2.1 _ (List.mem_cons_of_mem _ wj_X9_init)) rfl hdS_X9_init ⟨(by show 1 + 1 ≤ φ + 2; omega), (by show 8 + (3 + 11) + 30 ≤ ψ + 47; omega)⟩) rfl hl.1 rfl (by simp [rfv_cat, cat_i, cat_l]) dX5_applyWithFun_426 ⟨rcC hX q179.1 q.1, rsC hX q179.1 q.1⟩ (fun u H locs hg h => ?_)
  simp only [← gx_rfv hg hv_x0, ← gx_rfv hg hv_s0, ← gx_rfv hg hv_s1] at hl
  try simp only [← gx_rfv hg hv_x0, ← gx_rfv hg hv_s0, ← gx_rfv hg hv_s1]
  refine W_cast (wcC hX q179.1).symm (wsC hX q179.1).symm ?_
  exact kl_Pc_applyWithFun_429 (N := N) C hr hlk hE hφ hψ hmrApply hcrApply  q179.2 (hG.tr hg hX.1) (hX.tr q179.1) (lt_ext hv_s0 q179.1) (lt_ext hv_s1 q179.1) (lv_sub hl [1, 2] rfl) h hm
set_option maxHeartbeats 8000000 in
set_option maxRecDepth 100000 in
theorem kl_Pc_applyWithFun_413 {r : Sh × St × Int} (C : Cx p s m args c cX5_applyWithFun RX5 (cd :: cWd) D (TYs k) 6) (hr : meth.sig.returnType = (some .int)) (hlk : meth.locks = false) (hE : Ev z mi aK aV A s s.heap) {rApply : Sh → St → Int → Int → Int → Option (Sh × St × Int)} (hφ : 20 ≤ φ) (hψ : 600 ≤ ψ) (hmrApply : ∀ {π : Sh} {σ : St} {y0 : Int} {y1 : Int} {y2 : Int} {r : Sh × St × Int}, Cl π σ → y0 < nn π → y1 < nn π → rApply π σ y0 y1 y2 = some r → ext π r.1 ∧ Cl r.1 r.2.1) (hcrApply : ∀ {g : Nat → Nat} {π : Sh} {σ : St} {y0 : Int} {y1 : Int} {y2 : Int} {r : Sh × St × Int}, Cl π σ → y0 < nn π → y1 < nn π → rApply π σ y0 y1 y2 = some r → Mi l yX5_apply (.code yX5_apply cX5_apply 3 (some .int) :: cWd) { frames := φ, cells := nn r.1 - nn π, slots := sw r.1 - sw π, locals := ψ } [rfv g y0, rfv g y1, .int (Int32.ofInt y2)] D (TYs k) (cW k z g π σ) (XV z mi aK aV (cW k z g π σ)) (Nat → Nat) (fun v u => gx (nn π) g u ∧ v = Int32.ofInt r.2.2) (fun u => cW k z u r.1 r.2.1) (nn r.1 - nn π) (sw r.1 - sw π))  {ls : Array Slot} {H : Heap} {locs : List Loc} {g : Nat → Nat} {π : Sh} {σ : St} {x0 : Int} {x1 : Int} {x2 : Int} {s0 : Int} (hC : Cl π σ) (hG : gx (nn π0) g0 g) (hX : ext π0 π) (hv_x0 : x0 < nn π) (hv_x1 : x1 < nn π) (hl : lv_has ls 6 [(0, rfv g x0), (1, rfv g x1), (2, .int (Int32.ofInt x2))]) (h : Hp D A s.heap H locs (cW k z g π σ)) (hm : Pc_applyWithFun_413 N rApply π σ x0 x1 x2 s0 = some r) : W p l e { frames := φ + 2, cells := nn r.1 - nn π0, slots := sw r.1 - sw π0, locals := ψ + 47 } s m args below meth c H locs (nn π - nn π0) (sw π - sw π0) (MQ below (va_Qi (fun v u => gx (nn π0) g0 u ∧ v = Int32.ofInt r.2.2) (fun u t => PostW D (TYs k) A (cW k z u r.1 r.2.1) t) A) args s (nn r.1 - nn π0) (sw r.1 - sw π0) A) (F0 m 413 ls [.int (Int32.ofInt s0)]) := by
  have hS := hC.1
  have hq := km_Pc_applyWithFun_413 hmrApply   hC hv_x0 hv_x1 hm
  rw [Pc_applyWithFun_413] at hm
  refine lv_istore (lv' := [(4, .int (Int32.ofInt s0)), (0, rfv g x0), (1, rfv g x1), (2, .int (Int32.ofInt x2))]) C.1 C.2.1 dX5_applyWithFun_413 hl (by decide) rfl (fun ls hl => ?_)
  refine z_aload_n C dX5_applyWithFun_415 rfl (lv_at hl 2 rfl) ?_
  have q := km_Pc_applyWithFun_419 hmrApply  ((cl_nO hC (by decide) (by decide) _)) (lt_ext hv_x0 (ext_nO π 10 14)) lt_nO (lt_ext hv_x1 (ext_nO π 10 14)) hm
  refine c_new C h hC (by decide) dX5_applyWithFun_416 rfl cU_X9 tyX9_ok (List.mem_cons_of_mem _ wn_X5_50) (List.mem_cons_of_mem _ wi_X9) (List.mem_cons_of_mem _ wt_X9) (df_X9) (dn_X9 z) (rc1 hX q.1) (rs1 hX q.1) (fun u H hg h => ?_)
  simp only [← gx_rfv hg hv_x0, ← gx_rfv hg hv_x1] at hl
  try simp only [← gx_rfv hg hv_x0, ← gx_rfv hg hv_x1]
  refine W_cast (wcO (c := 10) (w := 14) hX).symm (wsO (c := 10) (w := 14) hX).symm ?_
  exact kl_Pc_applyWithFun_419 (N := N) C hr hlk hE hφ hψ hmrApply hcrApply  ((cl_nO hC (by decide) (by decide) _)) (hG.tr hg hX.1) (hX.tr (ext_nO π 10 14)) (lt_ext hv_x0 (ext_nO π 10 14)) lt_nO (lt_ext hv_x1 (ext_nO π 10 14)) (lv_sub hl [1, 3, 0] rfl) h hm
set_option maxHeartbeats 8000000 in
set_option maxRecDepth 100000 in
theorem kl_Pc_applyWithFun_410 {r : Sh × St × Int} (C : Cx p s m args c cX5_applyWithFun RX5 (cd :: cWd) D (TYs k) 6) (hr : meth.sig.returnType = (some .int)) (hlk : meth.locks = false) (hE : Ev z mi aK aV A s s.heap) {rApply : Sh → St → Int → Int → Int → Option (Sh × St × Int)} (hφ : 20 ≤ φ) (hψ : 600 ≤ ψ) (hmrApply : ∀ {π : Sh} {σ : St} {y0 : Int} {y1 : Int} {y2 : Int} {r : Sh × St × Int}, Cl π σ → y0 < nn π → y1 < nn π → rApply π σ y0 y1 y2 = some r → ext π r.1 ∧ Cl r.1 r.2.1) (hcrApply : ∀ {g : Nat → Nat} {π : Sh} {σ : St} {y0 : Int} {y1 : Int} {y2 : Int} {r : Sh × St × Int}, Cl π σ → y0 < nn π → y1 < nn π → rApply π σ y0 y1 y2 = some r → Mi l yX5_apply (.code yX5_apply cX5_apply 3 (some .int) :: cWd) { frames := φ, cells := nn r.1 - nn π, slots := sw r.1 - sw π, locals := ψ } [rfv g y0, rfv g y1, .int (Int32.ofInt y2)] D (TYs k) (cW k z g π σ) (XV z mi aK aV (cW k z g π σ)) (Nat → Nat) (fun v u => gx (nn π) g u ∧ v = Int32.ofInt r.2.2) (fun u => cW k z u r.1 r.2.1) (nn r.1 - nn π) (sw r.1 - sw π))  {ls : Array Slot} {H : Heap} {locs : List Loc} {g : Nat → Nat} {π : Sh} {σ : St} {x0 : Int} {x1 : Int} {x2 : Int} {s0 : Int} {s1 : Int} (hC : Cl π σ) (hG : gx (nn π0) g0 g) (hX : ext π0 π) (hv_x0 : x0 < nn π) (hv_x1 : x1 < nn π) (hv_s0 : s0 < nn π) (hv_s1 : s1 < nn π) (hl : lv_has ls 6 [(0, rfv g x0), (1, rfv g x1), (2, .int (Int32.ofInt x2))]) (h : Hp D A s.heap H locs (cW k z g π σ)) (hm : Pc_applyWithFun_410 N rApply π σ x0 x1 x2 s0 s1 = some r) : W p l e { frames := φ + 2, cells := nn r.1 - nn π0, slots := sw r.1 - sw π0, locals := ψ + 47 } s m args below meth c H locs (nn π - nn π0) (sw π - sw π0) (MQ below (va_Qi (fun v u => gx (nn π0) g0 u ∧ v = Int32.ofInt r.2.2) (fun u t => PostW D (TYs k) A (cW k z u r.1 r.2.1) t) A) args s (nn r.1 - nn π0) (sw r.1 - sw π0) A) (F0 m 410 ls [rfv g s0, rfv g s1]) := by
  have hS := hC.1
  have hq := km_Pc_applyWithFun_410 hmrApply   hC hv_x0 hv_x1 hv_s0 hv_s1 hm
  rw [Pc_applyWithFun_410] at hm
  obtain ⟨r132, e133, hm⟩ := obd_s hm
  have q134 := (km_Df_add hC hv_s1 hv_s0 e133)
  obtain ⟨g135, hm⟩ := grd_s hm
  have q := km_Pc_applyWithFun_413 hmrApply  q134.2 (lt_ext hv_x0 q134.1) (lt_ext hv_x1 q134.1) hm
  refine c_callViA C hE h g135 rfl (by decide) (kc_Df_add l D k z mi aK aV g N hC hv_s1 hv_s0 e133) (cwV 1 C.2.2.1 (gS_X5_59 _) rfl rfl rfl hd_X0_add ⟨(by show 7 + 1 ≤ φ + 2; omega), (by show 8 + (2 + 11) + 241 ≤ ψ + 47; omega)⟩) rfl hl.1 rfl (Nat.le_of_ble_eq_true rfl) dX5_applyWithFun_410 ⟨rcC hX q134.1 q.1, rsC hX q134.1 q.1⟩ (fun u H locs hg h => ?_)
  simp only [← gx_rfv hg hv_x0, ← gx_rfv hg hv_x1] at hl
  try simp only [← gx_rfv hg hv_x0, ← gx_rfv hg hv_x1]
  refine W_cast (wcC hX q134.1).symm (wsC hX q134.1).symm ?_
  exact kl_Pc_applyWithFun_413 (N := N) C hr hlk hE hφ hψ hmrApply hcrApply  q134.2 (hG.tr hg hX.1) (hX.tr q134.1) (lt_ext hv_x0 q134.1) (lt_ext hv_x1 q134.1) (lv_sub hl [0, 1, 2] rfl) h hm
set_option maxHeartbeats 8000000 in
set_option maxRecDepth 100000 in
theorem kl_Pc_applyWithFun_406 {r : Sh × St × Int} (C : Cx p s m args c cX5_applyWithFun RX5 (cd :: cWd) D (TYs k) 6) (hr : meth.sig.returnType = (some .int)) (hlk : meth.locks = false) (hE : Ev z mi aK aV A s s.heap) {rApply : Sh → St → Int → Int → Int → Option (Sh × St × Int)} (hφ : 20 ≤ φ) (hψ : 600 ≤ ψ) (hmrApply : ∀ {π : Sh} {σ : St} {y0 : Int} {y1 : Int} {y2 : Int} {r : Sh × St × Int}, Cl π σ → y0 < nn π → y1 < nn π → rApply π σ y0 y1 y2 = some r → ext π r.1 ∧ Cl r.1 r.2.1) (hcrApply : ∀ {g : Nat → Nat} {π : Sh} {σ : St} {y0 : Int} {y1 : Int} {y2 : Int} {r : Sh × St × Int}, Cl π σ → y0 < nn π → y1 < nn π → rApply π σ y0 y1 y2 = some r → Mi l yX5_apply (.code yX5_apply cX5_apply 3 (some .int) :: cWd) { frames := φ, cells := nn r.1 - nn π, slots := sw r.1 - sw π, locals := ψ } [rfv g y0, rfv g y1, .int (Int32.ofInt y2)] D (TYs k) (cW k z g π σ) (XV z mi aK aV (cW k z g π σ)) (Nat → Nat) (fun v u => gx (nn π) g u ∧ v = Int32.ofInt r.2.2) (fun u => cW k z u r.1 r.2.1) (nn r.1 - nn π) (sw r.1 - sw π))  {ls : Array Slot} {H : Heap} {locs : List Loc} {g : Nat → Nat} {π : Sh} {σ : St} {x0 : Int} {x1 : Int} {x2 : Int} {x3 : Int} {s0 : Int} {s1 : Int} (hC : Cl π σ) (hG : gx (nn π0) g0 g) (hX : ext π0 π) (hv_x0 : x0 < nn π) (hv_x1 : x1 < nn π) (hv_s0 : s0 < nn π) (hv_s1 : s1 < nn π) (hl : lv_has ls 6 [(0, rfv g x0), (1, rfv g x1), (2, .int (Int32.ofInt x2)), (3, .int (Int32.ofInt x3))]) (h : Hp D A s.heap H locs (cW k z g π σ)) (hm : Pc_applyWithFun_406 N rApply π σ x0 x1 x2 x3 s0 s1 = some r) : W p l e { frames := φ + 2, cells := nn r.1 - nn π0, slots := sw r.1 - sw π0, locals := ψ + 47 } s m args below meth c H locs (nn π - nn π0) (sw π - sw π0) (MQ below (va_Qi (fun v u => gx (nn π0) g0 u ∧ v = Int32.ofInt r.2.2) (fun u t => PostW D (TYs k) A (cW k z u r.1 r.2.1) t) A) args s (nn r.1 - nn π0) (sw r.1 - sw π0) A) (F0 m 406 ls [rfv g s0, rfv g s1]) := by
  have hS := hC.1
  have hq := km_Pc_applyWithFun_406 hmrApply   hC hv_x0 hv_x1 hv_s0 hv_s1 hm
  rw [Pc_applyWithFun_406] at hm
  refine lv_iload_n C.1 C.2.1 dX5_applyWithFun_406 rfl (lv_at hl 3 rfl) ?_
  obtain ⟨r100, e101, hm⟩ := obd_s hm
  have q102 := (km_Sp_give hC hv_s0 e101)
  obtain ⟨g103, hm⟩ := grd_s hm
  have q := km_Pc_applyWithFun_410 hmrApply  q102.2.1 (lt_ext hv_x0 q102.1) (lt_ext hv_x1 q102.1) q102.2.2 (lt_ext hv_s1 q102.1) hm
  refine c_callVqA C hE h g103 rfl (by decide) (kc_Sp_give l D k z mi aK aV g N hC hv_s0 e101) (cwV 1 C.2.2.1 (gS_X5_55 _) rfl rfl rfl hd_X9_give ⟨(by show 2 + 1 ≤ φ + 2; omega), (by show 8 + (2 + 11) + 82 ≤ ψ + 47; omega)⟩) rfl hl.1 rfl (by simp [rfv_cat, cat_i, cat_l]) dX5_applyWithFun_407 ⟨rcC hX q102.1 q.1, rsC hX q102.1 q.1⟩ (fun u H locs hg h => ?_)
  simp only [← gx_rfv hg hv_x0, ← gx_rfv hg hv_x1, ← gx_rfv hg hv_s1] at hl
  try simp only [← gx_rfv hg hv_x0, ← gx_rfv hg hv_x1, ← gx_rfv hg hv_s1]
  refine W_cast (wcC hX q102.1).symm (wsC hX q102.1).symm ?_
  exact kl_Pc_applyWithFun_410 (N := N) C hr hlk hE hφ hψ hmrApply hcrApply  q102.2.1 (hG.tr hg hX.1) (hX.tr q102.1) (lt_ext hv_x0 q102.1) (lt_ext hv_x1 q102.1) q102.2.2 (lt_ext hv_s1 q102.1) (lv_sub hl [0, 1, 2] rfl) h hm
set_option maxHeartbeats 8000000 in
set_option maxRecDepth 100000 in
theorem kl_Pc_applyWithFun_387 {r : Sh × St × Int} (C : Cx p s m args c cX5_applyWithFun RX5 (cd :: cWd) D (TYs k) 6) (hr : meth.sig.returnType = (some .int)) (hlk : meth.locks = false) (hE : Ev z mi aK aV A s s.heap) {rApply : Sh → St → Int → Int → Int → Option (Sh × St × Int)} (hφ : 20 ≤ φ) (hψ : 600 ≤ ψ) (hmrApply : ∀ {π : Sh} {σ : St} {y0 : Int} {y1 : Int} {y2 : Int} {r : Sh × St × Int}, Cl π σ → y0 < nn π → y1 < nn π → rApply π σ y0 y1 y2 = some r → ext π r.1 ∧ Cl r.1 r.2.1) (hcrApply : ∀ {g : Nat → Nat} {π : Sh} {σ : St} {y0 : Int} {y1 : Int} {y2 : Int} {r : Sh × St × Int}, Cl π σ → y0 < nn π → y1 < nn π → rApply π σ y0 y1 y2 = some r → Mi l yX5_apply (.code yX5_apply cX5_apply 3 (some .int) :: cWd) { frames := φ, cells := nn r.1 - nn π, slots := sw r.1 - sw π, locals := ψ } [rfv g y0, rfv g y1, .int (Int32.ofInt y2)] D (TYs k) (cW k z g π σ) (XV z mi aK aV (cW k z g π σ)) (Nat → Nat) (fun v u => gx (nn π) g u ∧ v = Int32.ofInt r.2.2) (fun u => cW k z u r.1 r.2.1) (nn r.1 - nn π) (sw r.1 - sw π))  {ls : Array Slot} {H : Heap} {locs : List Loc} {g : Nat → Nat} {π : Sh} {σ : St} {x0 : Int} {x1 : Int} {x2 : Int} {x3 : Int} {s0 : Int} {s1 : Int} (hC : Cl π σ) (hG : gx (nn π0) g0 g) (hX : ext π0 π) (hv_x0 : x0 < nn π) (hv_x1 : x1 < nn π) (hv_s0 : s0 < nn π) (hv_s1 : s1 < nn π) (hl : lv_has ls 6 [(0, rfv g x0), (1, rfv g x1), (2, .int (Int32.ofInt x2)), (3, .int (Int32.ofInt x3))]) (h : Hp D A s.heap H locs (cW k z g π σ)) (hm : Pc_applyWithFun_387 N rApply π σ x0 x1 x2 x3 s0 s1 = some r) : W p l e { frames := φ + 2, cells := nn r.1 - nn π0, slots := sw r.1 - sw π0, locals := ψ + 47 } s m args below meth c H locs (nn π - nn π0) (sw π - sw π0) (MQ below (va_Qi (fun v u => gx (nn π0) g0 u ∧ v = Int32.ofInt r.2.2) (fun u t => PostW D (TYs k) A (cW k z u r.1 r.2.1) t) A) args s (nn r.1 - nn π0) (sw r.1 - sw π0) A) (F0 m 387 ls [rfv g s0, rfv g s1]) := by
  have hS := hC.1
  have hq := km_Pc_applyWithFun_387 hmrApply   hC hv_x0 hv_x1 hv_s0 hv_s1 hm
  rw [Pc_applyWithFun_387] at hm
  refine lv_dup C.1 C.2.1 dX5_applyWithFun_387 (rfv_cat _ _) ?_
  refine lv_bipush (v := Int32.ofInt 10) C.1 C.2.1 dX5_applyWithFun_388 (by decide) ?_
  refine z_aload_n C dX5_applyWithFun_390 rfl (lv_at hl 0 rfl) ?_
  obtain ⟨g65, hm⟩ := grd_s hm
  refine cg_6_1 C h g65 cU_X5 (List.mem_cons_of_mem _ wl_X5_43) dX5_applyWithFun_391 ?_
  refine z_aload_n C dX5_applyWithFun_394 rfl (lv_at hl 0 rfl) ?_
  refine cg_6_2 C h g65 cU_X5 (List.mem_cons_of_mem _ wl_X5_7) dX5_applyWithFun_395 ?_
  refine z_ineg C dX5_applyWithFun_398 ?_
  refine z_aload_n C dX5_applyWithFun_399 rfl (lv_at hl 0 rfl) ?_
  refine cg_6_3 C h g65 cU_X5 (List.mem_cons_of_mem _ wl_X5_13) dX5_applyWithFun_400 ?_
  obtain ⟨r66, e67, hm⟩ := obd_s hm
  have q68 := (km_Sp_initB hC hv_s0 e67)
  obtain ⟨g69, hm⟩ := grd_s hm
  have q := km_Pc_applyWithFun_406 hmrApply  q68.2 (lt_ext hv_x0 q68.1) (lt_ext hv_x1 q68.1) (lt_ext hv_s0 q68.1) (lt_ext hv_s1 q68.1) hm
  refine c_callIvA C hE h g69 (kc_Sp_initB l D k z mi aK aV g N hC hv_s0 e67) (cwI 4 C.2.2.1 (gC_X9_init_ _) rfl rfl rfl (C.2.2.1 _ (List.mem_cons_of_mem _ wt_X9)) (C.2.2.1 _ (List.mem_cons_of_mem _ wm_X5_52)) (C.2.2.1 _ (List.mem_cons_of_mem _ wj_X9_init_)) rfl hdS_X9_init_ ⟨(by show 1 + 1 ≤ φ + 2; omega), (by show 8 + (5 + 11) + 30 ≤ ψ + 47; omega)⟩) rfl hl.1 rfl (by simp [rfv_cat, cat_i, cat_l]) dX5_applyWithFun_403 ⟨rcC hX q68.1 q.1, rsC hX q68.1 q.1⟩ (fun u H locs hg h => ?_)
  simp only [← gx_rfv hg hv_x0, ← gx_rfv hg hv_x1, ← gx_rfv hg hv_s0, ← gx_rfv hg hv_s1] at hl
  try simp only [← gx_rfv hg hv_x0, ← gx_rfv hg hv_x1, ← gx_rfv hg hv_s0, ← gx_rfv hg hv_s1]
  refine W_cast (wcC hX q68.1).symm (wsC hX q68.1).symm ?_
  exact kl_Pc_applyWithFun_406 (N := N) C hr hlk hE hφ hψ hmrApply hcrApply  q68.2 (hG.tr hg hX.1) (hX.tr q68.1) (lt_ext hv_x0 q68.1) (lt_ext hv_x1 q68.1) (lt_ext hv_s0 q68.1) (lt_ext hv_s1 q68.1) (lv_sub hl [0, 1, 2, 3] rfl) h hm
set_option maxHeartbeats 8000000 in
set_option maxRecDepth 100000 in
theorem kl_Pc_applyWithFun_363 {r : Sh × St × Int} (C : Cx p s m args c cX5_applyWithFun RX5 (cd :: cWd) D (TYs k) 6) (hr : meth.sig.returnType = (some .int)) (hlk : meth.locks = false) (hE : Ev z mi aK aV A s s.heap) {rApply : Sh → St → Int → Int → Int → Option (Sh × St × Int)} (hφ : 20 ≤ φ) (hψ : 600 ≤ ψ) (hmrApply : ∀ {π : Sh} {σ : St} {y0 : Int} {y1 : Int} {y2 : Int} {r : Sh × St × Int}, Cl π σ → y0 < nn π → y1 < nn π → rApply π σ y0 y1 y2 = some r → ext π r.1 ∧ Cl r.1 r.2.1) (hcrApply : ∀ {g : Nat → Nat} {π : Sh} {σ : St} {y0 : Int} {y1 : Int} {y2 : Int} {r : Sh × St × Int}, Cl π σ → y0 < nn π → y1 < nn π → rApply π σ y0 y1 y2 = some r → Mi l yX5_apply (.code yX5_apply cX5_apply 3 (some .int) :: cWd) { frames := φ, cells := nn r.1 - nn π, slots := sw r.1 - sw π, locals := ψ } [rfv g y0, rfv g y1, .int (Int32.ofInt y2)] D (TYs k) (cW k z g π σ) (XV z mi aK aV (cW k z g π σ)) (Nat → Nat) (fun v u => gx (nn π) g u ∧ v = Int32.ofInt r.2.2) (fun u => cW k z u r.1 r.2.1) (nn r.1 - nn π) (sw r.1 - sw π))  {ls : Array Slot} {H : Heap} {locs : List Loc} {g : Nat → Nat} {π : Sh} {σ : St} {s0 : Int} (hC : Cl π σ) (hG : gx (nn π0) g0 g) (hX : ext π0 π)  (hl : lv_has ls 6 []) (h : Hp D A s.heap H locs (cW k z g π σ)) (hm : Pc_applyWithFun_363 N rApply π σ s0 = some r) : W p l e { frames := φ + 2, cells := nn r.1 - nn π0, slots := sw r.1 - sw π0, locals := ψ + 47 } s m args below meth c H locs (nn π - nn π0) (sw π - sw π0) (MQ below (va_Qi (fun v u => gx (nn π0) g0 u ∧ v = Int32.ofInt r.2.2) (fun u t => PostW D (TYs k) A (cW k z u r.1 r.2.1) t) A) args s (nn r.1 - nn π0) (sw r.1 - sw π0) A) (F0 m 363 ls [.int (Int32.ofInt s0)]) := by
  have hS := hC.1
  have hq := km_Pc_applyWithFun_363 hmrApply   hC  hm
  rw [Pc_applyWithFun_363] at hm
  cases hm
  exact c_iretA C hG h hr hlk dX5_applyWithFun_363 rfl
set_option maxHeartbeats 8000000 in
set_option maxRecDepth 100000 in
theorem kl_Pc_applyWithFun_360 {r : Sh × St × Int} (C : Cx p s m args c cX5_applyWithFun RX5 (cd :: cWd) D (TYs k) 6) (hr : meth.sig.returnType = (some .int)) (hlk : meth.locks = false) (hE : Ev z mi aK aV A s s.heap) {rApply : Sh → St → Int → Int → Int → Option (Sh × St × Int)} (hφ : 20 ≤ φ) (hψ : 600 ≤ ψ) (hmrApply : ∀ {π : Sh} {σ : St} {y0 : Int} {y1 : Int} {y2 : Int} {r : Sh × St × Int}, Cl π σ → y0 < nn π → y1 < nn π → rApply π σ y0 y1 y2 = some r → ext π r.1 ∧ Cl r.1 r.2.1) (hcrApply : ∀ {g : Nat → Nat} {π : Sh} {σ : St} {y0 : Int} {y1 : Int} {y2 : Int} {r : Sh × St × Int}, Cl π σ → y0 < nn π → y1 < nn π → rApply π σ y0 y1 y2 = some r → Mi l yX5_apply (.code yX5_apply cX5_apply 3 (some .int) :: cWd) { frames := φ, cells := nn r.1 - nn π, slots := sw r.1 - sw π, locals := ψ } [rfv g y0, rfv g y1, .int (Int32.ofInt y2)] D (TYs k) (cW k z g π σ) (XV z mi aK aV (cW k z g π σ)) (Nat → Nat) (fun v u => gx (nn π) g u ∧ v = Int32.ofInt r.2.2) (fun u => cW k z u r.1 r.2.1) (nn r.1 - nn π) (sw r.1 - sw π))  {ls : Array Slot} {H : Heap} {locs : List Loc} {g : Nat → Nat} {π : Sh} {σ : St} {s0 : Int} {s1 : Int} (hC : Cl π σ) (hG : gx (nn π0) g0 g) (hX : ext π0 π) (hv_s0 : s0 < nn π) (hv_s1 : s1 < nn π) (hl : lv_has ls 6 []) (h : Hp D A s.heap H locs (cW k z g π σ)) (hm : Pc_applyWithFun_360 N rApply π σ s0 s1 = some r) : W p l e { frames := φ + 2, cells := nn r.1 - nn π0, slots := sw r.1 - sw π0, locals := ψ + 47 } s m args below meth c H locs (nn π - nn π0) (sw π - sw π0) (MQ below (va_Qi (fun v u => gx (nn π0) g0 u ∧ v = Int32.ofInt r.2.2) (fun u t => PostW D (TYs k) A (cW k z u r.1 r.2.1) t) A) args s (nn r.1 - nn π0) (sw r.1 - sw π0) A) (F0 m 360 ls [rfv g s0, rfv g s1]) := by
  have hS := hC.1
  have hq := km_Pc_applyWithFun_360 hmrApply   hC hv_s0 hv_s1 hm
  rw [Pc_applyWithFun_360] at hm
  obtain ⟨r166, e167, hm⟩ := obd_s hm
  have q168 := (km_Df_add hC hv_s1 hv_s0 e167)
  obtain ⟨g169, hm⟩ := grd_s hm
  have q := km_Pc_applyWithFun_363 hmrApply  q168.2  hm
  refine c_callViA C hE h g169 rfl (by decide) (kc_Df_add l D k z mi aK aV g N hC hv_s1 hv_s0 e167) (cwV 1 C.2.2.1 (gS_X5_59 _) rfl rfl rfl hd_X0_add ⟨(by show 7 + 1 ≤ φ + 2; omega), (by show 8 + (2 + 11) + 241 ≤ ψ + 47; omega)⟩) rfl hl.1 rfl (Nat.le_of_ble_eq_true rfl) dX5_applyWithFun_360 ⟨rcC hX q168.1 q.1, rsC hX q168.1 q.1⟩ (fun u H locs hg h => ?_)
  refine W_cast (wcC hX q168.1).symm (wsC hX q168.1).symm ?_
  exact kl_Pc_applyWithFun_363 (N := N) C hr hlk hE hφ hψ hmrApply hcrApply  q168.2 (hG.tr hg hX.1) (hX.tr q168.1)  (lv_sub hl [] rfl) h hm
set_option maxHeartbeats 8000000 in
set_option maxRecDepth 100000 in
theorem kl_Pc_applyWithFun_356 {r : Sh × St × Int} (C : Cx p s m args c cX5_applyWithFun RX5 (cd :: cWd) D (TYs k) 6) (hr : meth.sig.returnType = (some .int)) (hlk : meth.locks = false) (hE : Ev z mi aK aV A s s.heap) {rApply : Sh → St → Int → Int → Int → Option (Sh × St × Int)} (hφ : 20 ≤ φ) (hψ : 600 ≤ ψ) (hmrApply : ∀ {π : Sh} {σ : St} {y0 : Int} {y1 : Int} {y2 : Int} {r : Sh × St × Int}, Cl π σ → y0 < nn π → y1 < nn π → rApply π σ y0 y1 y2 = some r → ext π r.1 ∧ Cl r.1 r.2.1) (hcrApply : ∀ {g : Nat → Nat} {π : Sh} {σ : St} {y0 : Int} {y1 : Int} {y2 : Int} {r : Sh × St × Int}, Cl π σ → y0 < nn π → y1 < nn π → rApply π σ y0 y1 y2 = some r → Mi l yX5_apply (.code yX5_apply cX5_apply 3 (some .int) :: cWd) { frames := φ, cells := nn r.1 - nn π, slots := sw r.1 - sw π, locals := ψ } [rfv g y0, rfv g y1, .int (Int32.ofInt y2)] D (TYs k) (cW k z g π σ) (XV z mi aK aV (cW k z g π σ)) (Nat → Nat) (fun v u => gx (nn π) g u ∧ v = Int32.ofInt r.2.2) (fun u => cW k z u r.1 r.2.1) (nn r.1 - nn π) (sw r.1 - sw π))  {ls : Array Slot} {H : Heap} {locs : List Loc} {g : Nat → Nat} {π : Sh} {σ : St} {x3 : Int} {s0 : Int} {s1 : Int} (hC : Cl π σ) (hG : gx (nn π0) g0 g) (hX : ext π0 π) (hv_s0 : s0 < nn π) (hv_s1 : s1 < nn π) (hl : lv_has ls 6 [(3, .int (Int32.ofInt x3))]) (h : Hp D A s.heap H locs (cW k z g π σ)) (hm : Pc_applyWithFun_356 N rApply π σ x3 s0 s1 = some r) : W p l e { frames := φ + 2, cells := nn r.1 - nn π0, slots := sw r.1 - sw π0, locals := ψ + 47 } s m args below meth c H locs (nn π - nn π0) (sw π - sw π0) (MQ below (va_Qi (fun v u => gx (nn π0) g0 u ∧ v = Int32.ofInt r.2.2) (fun u t => PostW D (TYs k) A (cW k z u r.1 r.2.1) t) A) args s (nn r.1 - nn π0) (sw r.1 - sw π0) A) (F0 m 356 ls [rfv g s0, rfv g s1]) := by
  have hS := hC.1
  have hq := km_Pc_applyWithFun_356 hmrApply   hC hv_s0 hv_s1 hm
  rw [Pc_applyWithFun_356] at hm
  refine lv_iload_n C.1 C.2.1 dX5_applyWithFun_356 rfl (lv_at hl 0 rfl) ?_
  obtain ⟨r140, e141, hm⟩ := obd_s hm
  have q142 := (km_Sp_give hC hv_s0 e141)
  obtain ⟨g143, hm⟩ := grd_s hm
  have q := km_Pc_applyWithFun_360 hmrApply  q142.2.1 q142.2.2 (lt_ext hv_s1 q142.1) hm
  refine c_callVqA C hE h g143 rfl (by decide) (kc_Sp_give l D k z mi aK aV g N hC hv_s0 e141) (cwV 1 C.2.2.1 (gS_X5_55 _) rfl rfl rfl hd_X9_give ⟨(by show 2 + 1 ≤ φ + 2; omega), (by show 8 + (2 + 11) + 82 ≤ ψ + 47; omega)⟩) rfl hl.1 rfl (by simp [rfv_cat, cat_i, cat_l]) dX5_applyWithFun_357 ⟨rcC hX q142.1 q.1, rsC hX q142.1 q.1⟩ (fun u H locs hg h => ?_)
  try simp only [← gx_rfv hg hv_s1]
  refine W_cast (wcC hX q142.1).symm (wsC hX q142.1).symm ?_
  exact kl_Pc_applyWithFun_360 (N := N) C hr hlk hE hφ hψ hmrApply hcrApply  q142.2.1 (hG.tr hg hX.1) (hX.tr q142.1) q142.2.2 (lt_ext hv_s1 q142.1) (lv_sub hl [] rfl) h hm
set_option maxHeartbeats 8000000 in
set_option maxRecDepth 100000 in
theorem kl_Pc_applyWithFun_352 {r : Sh × St × Int} (C : Cx p s m args c cX5_applyWithFun RX5 (cd :: cWd) D (TYs k) 6) (hr : meth.sig.returnType = (some .int)) (hlk : meth.locks = false) (hE : Ev z mi aK aV A s s.heap) {rApply : Sh → St → Int → Int → Int → Option (Sh × St × Int)} (hφ : 20 ≤ φ) (hψ : 600 ≤ ψ) (hmrApply : ∀ {π : Sh} {σ : St} {y0 : Int} {y1 : Int} {y2 : Int} {r : Sh × St × Int}, Cl π σ → y0 < nn π → y1 < nn π → rApply π σ y0 y1 y2 = some r → ext π r.1 ∧ Cl r.1 r.2.1) (hcrApply : ∀ {g : Nat → Nat} {π : Sh} {σ : St} {y0 : Int} {y1 : Int} {y2 : Int} {r : Sh × St × Int}, Cl π σ → y0 < nn π → y1 < nn π → rApply π σ y0 y1 y2 = some r → Mi l yX5_apply (.code yX5_apply cX5_apply 3 (some .int) :: cWd) { frames := φ, cells := nn r.1 - nn π, slots := sw r.1 - sw π, locals := ψ } [rfv g y0, rfv g y1, .int (Int32.ofInt y2)] D (TYs k) (cW k z g π σ) (XV z mi aK aV (cW k z g π σ)) (Nat → Nat) (fun v u => gx (nn π) g u ∧ v = Int32.ofInt r.2.2) (fun u => cW k z u r.1 r.2.1) (nn r.1 - nn π) (sw r.1 - sw π))  {ls : Array Slot} {H : Heap} {locs : List Loc} {g : Nat → Nat} {π : Sh} {σ : St} {x2 : Int} {x3 : Int} {s0 : Int} {s1 : Int} (hC : Cl π σ) (hG : gx (nn π0) g0 g) (hX : ext π0 π) (hv_s0 : s0 < nn π) (hv_s1 : s1 < nn π) (hl : lv_has ls 6 [(2, .int (Int32.ofInt x2)), (3, .int (Int32.ofInt x3))]) (h : Hp D A s.heap H locs (cW k z g π σ)) (hm : Pc_applyWithFun_352 N rApply π σ x2 x3 s0 s1 = some r) : W p l e { frames := φ + 2, cells := nn r.1 - nn π0, slots := sw r.1 - sw π0, locals := ψ + 47 } s m args below meth c H locs (nn π - nn π0) (sw π - sw π0) (MQ below (va_Qi (fun v u => gx (nn π0) g0 u ∧ v = Int32.ofInt r.2.2) (fun u t => PostW D (TYs k) A (cW k z u r.1 r.2.1) t) A) args s (nn r.1 - nn π0) (sw r.1 - sw π0) A) (F0 m 352 ls [rfv g s0, rfv g s1]) := by
  have hS := hC.1
  have hq := km_Pc_applyWithFun_352 hmrApply   hC hv_s0 hv_s1 hm
  rw [Pc_applyWithFun_352] at hm
  refine lv_iload_n C.1 C.2.1 dX5_applyWithFun_352 rfl (lv_at hl 0 rfl) ?_
  obtain ⟨r108, e109, hm⟩ := obd_s hm
  have q110 := (km_Sp_give hC hv_s0 e109)
  obtain ⟨g111, hm⟩ := grd_s hm
  have q := km_Pc_applyWithFun_356 hmrApply  q110.2.1 q110.2.2 (lt_ext hv_s1 q110.1) hm
  refine c_callVqA C hE h g111 rfl (by decide) (kc_Sp_give l D k z mi aK aV g N hC hv_s0 e109) (cwV 1 C.2.2.1 (gS_X5_55 _) rfl rfl rfl hd_X9_give ⟨(by show 2 + 1 ≤ φ + 2; omega), (by show 8 + (2 + 11) + 82 ≤ ψ + 47; omega)⟩) rfl hl.1 rfl (by simp [rfv_cat, cat_i, cat_l]) dX5_applyWithFun_353 ⟨rcC hX q110.1 q.1, rsC hX q110.1 q.1⟩ (fun u H locs hg h => ?_)
  try simp only [← gx_rfv hg hv_s1]
  refine W_cast (wcC hX q110.1).symm (wsC hX q110.1).symm ?_
  exact kl_Pc_applyWithFun_356 (N := N) C hr hlk hE hφ hψ hmrApply hcrApply  q110.2.1 (hG.tr hg hX.1) (hX.tr q110.1) q110.2.2 (lt_ext hv_s1 q110.1) (lv_sub hl [1] rfl) h hm
set_option maxHeartbeats 8000000 in
set_option maxRecDepth 100000 in
theorem kl_Pc_applyWithFun_337 {r : Sh × St × Int} (C : Cx p s m args c cX5_applyWithFun RX5 (cd :: cWd) D (TYs k) 6) (hr : meth.sig.returnType = (some .int)) (hlk : meth.locks = false) (hE : Ev z mi aK aV A s s.heap) {rApply : Sh → St → Int → Int → Int → Option (Sh × St × Int)} (hφ : 20 ≤ φ) (hψ : 600 ≤ ψ) (hmrApply : ∀ {π : Sh} {σ : St} {y0 : Int} {y1 : Int} {y2 : Int} {r : Sh × St × Int}, Cl π σ → y0 < nn π → y1 < nn π → rApply π σ y0 y1 y2 = some r → ext π r.1 ∧ Cl r.1 r.2.1) (hcrApply : ∀ {g : Nat → Nat} {π : Sh} {σ : St} {y0 : Int} {y1 : Int} {y2 : Int} {r : Sh × St × Int}, Cl π σ → y0 < nn π → y1 < nn π → rApply π σ y0 y1 y2 = some r → Mi l yX5_apply (.code yX5_apply cX5_apply 3 (some .int) :: cWd) { frames := φ, cells := nn r.1 - nn π, slots := sw r.1 - sw π, locals := ψ } [rfv g y0, rfv g y1, .int (Int32.ofInt y2)] D (TYs k) (cW k z g π σ) (XV z mi aK aV (cW k z g π σ)) (Nat → Nat) (fun v u => gx (nn π) g u ∧ v = Int32.ofInt r.2.2) (fun u => cW k z u r.1 r.2.1) (nn r.1 - nn π) (sw r.1 - sw π))  {ls : Array Slot} {H : Heap} {locs : List Loc} {g : Nat → Nat} {π : Sh} {σ : St} {x0 : Int} {x2 : Int} {x3 : Int} {s0 : Int} {s1 : Int} (hC : Cl π σ) (hG : gx (nn π0) g0 g) (hX : ext π0 π) (hv_x0 : x0 < nn π) (hv_s0 : s0 < nn π) (hv_s1 : s1 < nn π) (hl : lv_has ls 6 [(0, rfv g x0), (2, .int (Int32.ofInt x2)), (3, .int (Int32.ofInt x3))]) (h : Hp D A s.heap H locs (cW k z g π σ)) (hm : Pc_applyWithFun_337 N rApply π σ x0 x2 x3 s0 s1 = some r) : W p l e { frames := φ + 2, cells := nn r.1 - nn π0, slots := sw r.1 - sw π0, locals := ψ + 47 } s m args below meth c H locs (nn π - nn π0) (sw π - sw π0) (MQ below (va_Qi (fun v u => gx (nn π0) g0 u ∧ v = Int32.ofInt r.2.2) (fun u t => PostW D (TYs k) A (cW k z u r.1 r.2.1) t) A) args s (nn r.1 - nn π0) (sw r.1 - sw π0) A) (F0 m 337 ls [rfv g s0, rfv g s1]) := by
  have hS := hC.1
  have hq := km_Pc_applyWithFun_337 hmrApply   hC hv_x0 hv_s0 hv_s1 hm
  rw [Pc_applyWithFun_337] at hm
  refine lv_dup C.1 C.2.1 dX5_applyWithFun_337 (rfv_cat _ _) ?_
  refine lv_bipush (v := Int32.ofInt 16) C.1 C.2.1 dX5_applyWithFun_338 (by decide) ?_
  refine z_aload_n C dX5_applyWithFun_340 rfl (lv_at hl 0 rfl) ?_
  obtain ⟨g75, hm⟩ := grd_s hm
  refine cg_6_1 C h g75 cU_X5 (List.mem_cons_of_mem _ wl_X5_43) dX5_applyWithFun_341 ?_
  refine z_aload_n C dX5_applyWithFun_344 rfl (lv_at hl 0 rfl) ?_
  refine cg_6_2 C h g75 cU_X5 (List.mem_cons_of_mem _ wl_X5_7) dX5_applyWithFun_345 ?_
  refine lv_iconst (v := Int32.ofInt 0) C.1 C.2.1 dX5_applyWithFun_348 (by decide) ?_
  obtain ⟨r76, e77, hm⟩ := obd_s hm
  have q78 := (km_Sp_initB hC hv_s0 e77)
  obtain ⟨g79, hm⟩ := grd_s hm
  have q := km_Pc_applyWithFun_352 hmrApply  q78.2 (lt_ext hv_s0 q78.1) (lt_ext hv_s1 q78.1) hm
  refine c_callIvA C hE h g79 (kc_Sp_initB l D k z mi aK aV g N hC hv_s0 e77) (cwI 4 C.2.2.1 (gC_X9_init_ _) rfl rfl rfl (C.2.2.1 _ (List.mem_cons_of_mem _ wt_X9)) (C.2.2.1 _ (List.mem_cons_of_mem _ wm_X5_52)) (C.2.2.1 _ (List.mem_cons_of_mem _ wj_X9_init_)) rfl hdS_X9_init_ ⟨(by show 1 + 1 ≤ φ + 2; omega), (by show 8 + (5 + 11) + 30 ≤ ψ + 47; omega)⟩) rfl hl.1 rfl (by simp [rfv_cat, cat_i, cat_l]) dX5_applyWithFun_349 ⟨rcC hX q78.1 q.1, rsC hX q78.1 q.1⟩ (fun u H locs hg h => ?_)
  simp only [← gx_rfv hg hv_x0, ← gx_rfv hg hv_s0, ← gx_rfv hg hv_s1] at hl
  try simp only [← gx_rfv hg hv_x0, ← gx_rfv hg hv_s0, ← gx_rfv hg hv_s1]
  refine W_cast (wcC hX q78.1).symm (wsC hX q78.1).symm ?_
  exact kl_Pc_applyWithFun_352 (N := N) C hr hlk hE hφ hψ hmrApply hcrApply  q78.2 (hG.tr hg hX.1) (hX.tr q78.1) (lt_ext hv_s0 q78.1) (lt_ext hv_s1 q78.1) (lv_sub hl [1, 2] rfl) h hm
set_option maxHeartbeats 8000000 in
set_option maxRecDepth 100000 in
theorem kl_Pc_applyWithFun_382 {r : Sh × St × Int} (C : Cx p s m args c cX5_applyWithFun RX5 (cd :: cWd) D (TYs k) 6) (hr : meth.sig.returnType = (some .int)) (hlk : meth.locks = false) (hE : Ev z mi aK aV A s s.heap) {rApply : Sh → St → Int → Int → Int → Option (Sh × St × Int)} (hφ : 20 ≤ φ) (hψ : 600 ≤ ψ) (hmrApply : ∀ {π : Sh} {σ : St} {y0 : Int} {y1 : Int} {y2 : Int} {r : Sh × St × Int}, Cl π σ → y0 < nn π → y1 < nn π → rApply π σ y0 y1 y2 = some r → ext π r.1 ∧ Cl r.1 r.2.1) (hcrApply : ∀ {g : Nat → Nat} {π : Sh} {σ : St} {y0 : Int} {y1 : Int} {y2 : Int} {r : Sh × St × Int}, Cl π σ → y0 < nn π → y1 < nn π → rApply π σ y0 y1 y2 = some r → Mi l yX5_apply (.code yX5_apply cX5_apply 3 (some .int) :: cWd) { frames := φ, cells := nn r.1 - nn π, slots := sw r.1 - sw π, locals := ψ } [rfv g y0, rfv g y1, .int (Int32.ofInt y2)] D (TYs k) (cW k z g π σ) (XV z mi aK aV (cW k z g π σ)) (Nat → Nat) (fun v u => gx (nn π) g u ∧ v = Int32.ofInt r.2.2) (fun u => cW k z u r.1 r.2.1) (nn r.1 - nn π) (sw r.1 - sw π))  {ls : Array Slot} {H : Heap} {locs : List Loc} {g : Nat → Nat} {π : Sh} {σ : St} {s0 : Int} (hC : Cl π σ) (hG : gx (nn π0) g0 g) (hX : ext π0 π)  (hl : lv_has ls 6 []) (h : Hp D A s.heap H locs (cW k z g π σ)) (hm : Pc_applyWithFun_382 N rApply π σ s0 = some r) : W p l e { frames := φ + 2, cells := nn r.1 - nn π0, slots := sw r.1 - sw π0, locals := ψ + 47 } s m args below meth c H locs (nn π - nn π0) (sw π - sw π0) (MQ below (va_Qi (fun v u => gx (nn π0) g0 u ∧ v = Int32.ofInt r.2.2) (fun u t => PostW D (TYs k) A (cW k z u r.1 r.2.1) t) A) args s (nn r.1 - nn π0) (sw r.1 - sw π0) A) (F0 m 382 ls [.int (Int32.ofInt s0)]) := by
  have hS := hC.1
  have hq := km_Pc_applyWithFun_382 hmrApply   hC  hm
  rw [Pc_applyWithFun_382] at hm
  cases hm
  exact c_iretA C hG h hr hlk dX5_applyWithFun_382 rfl
set_option maxHeartbeats 8000000 in
set_option maxRecDepth 100000 in
theorem kl_Pc_applyWithFun_379 {r : Sh × St × Int} (C : Cx p s m args c cX5_applyWithFun RX5 (cd :: cWd) D (TYs k) 6) (hr : meth.sig.returnType = (some .int)) (hlk : meth.locks = false) (hE : Ev z mi aK aV A s s.heap) {rApply : Sh → St → Int → Int → Int → Option (Sh × St × Int)} (hφ : 20 ≤ φ) (hψ : 600 ≤ ψ) (hmrApply : ∀ {π : Sh} {σ : St} {y0 : Int} {y1 : Int} {y2 : Int} {r : Sh × St × Int}, Cl π σ → y0 < nn π → y1 < nn π → rApply π σ y0 y1 y2 = some r → ext π r.1 ∧ Cl r.1 r.2.1) (hcrApply : ∀ {g : Nat → Nat} {π : Sh} {σ : St} {y0 : Int} {y1 : Int} {y2 : Int} {r : Sh × St × Int}, Cl π σ → y0 < nn π → y1 < nn π → rApply π σ y0 y1 y2 = some r → Mi l yX5_apply (.code yX5_apply cX5_apply 3 (some .int) :: cWd) { frames := φ, cells := nn r.1 - nn π, slots := sw r.1 - sw π, locals := ψ } [rfv g y0, rfv g y1, .int (Int32.ofInt y2)] D (TYs k) (cW k z g π σ) (XV z mi aK aV (cW k z g π σ)) (Nat → Nat) (fun v u => gx (nn π) g u ∧ v = Int32.ofInt r.2.2) (fun u => cW k z u r.1 r.2.1) (nn r.1 - nn π) (sw r.1 - sw π))  {ls : Array Slot} {H : Heap} {locs : List Loc} {g : Nat → Nat} {π : Sh} {σ : St} {s0 : Int} {s1 : Int} (hC : Cl π σ) (hG : gx (nn π0) g0 g) (hX : ext π0 π) (hv_s0 : s0 < nn π) (hv_s1 : s1 < nn π) (hl : lv_has ls 6 []) (h : Hp D A s.heap H locs (cW k z g π σ)) (hm : Pc_applyWithFun_379 N rApply π σ s0 s1 = some r) : W p l e { frames := φ + 2, cells := nn r.1 - nn π0, slots := sw r.1 - sw π0, locals := ψ + 47 } s m args below meth c H locs (nn π - nn π0) (sw π - sw π0) (MQ below (va_Qi (fun v u => gx (nn π0) g0 u ∧ v = Int32.ofInt r.2.2) (fun u t => PostW D (TYs k) A (cW k z u r.1 r.2.1) t) A) args s (nn r.1 - nn π0) (sw r.1 - sw π0) A) (F0 m 379 ls [rfv g s0, rfv g s1]) := by
  have hS := hC.1
  have hq := km_Pc_applyWithFun_379 hmrApply   hC hv_s0 hv_s1 hm
  rw [Pc_applyWithFun_379] at hm
  obtain ⟨r144, e145, hm⟩ := obd_s hm
  have q146 := (km_Df_add hC hv_s1 hv_s0 e145)
  obtain ⟨g147, hm⟩ := grd_s hm
  have q := km_Pc_applyWithFun_382 hmrApply  q146.2  hm
  refine c_callViA C hE h g147 rfl (by decide) (kc_Df_add l D k z mi aK aV g N hC hv_s1 hv_s0 e145) (cwV 1 C.2.2.1 (gS_X5_59 _) rfl rfl rfl hd_X0_add ⟨(by show 7 + 1 ≤ φ + 2; omega), (by show 8 + (2 + 11) + 241 ≤ ψ + 47; omega)⟩) rfl hl.1 rfl (Nat.le_of_ble_eq_true rfl) dX5_applyWithFun_379 ⟨rcC hX q146.1 q.1, rsC hX q146.1 q.1⟩ (fun u H locs hg h => ?_)
  refine W_cast (wcC hX q146.1).symm (wsC hX q146.1).symm ?_
  exact kl_Pc_applyWithFun_382 (N := N) C hr hlk hE hφ hψ hmrApply hcrApply  q146.2 (hG.tr hg hX.1) (hX.tr q146.1)  (lv_sub hl [] rfl) h hm
set_option maxHeartbeats 8000000 in
set_option maxRecDepth 100000 in
theorem kl_Pc_applyWithFun_375 {r : Sh × St × Int} (C : Cx p s m args c cX5_applyWithFun RX5 (cd :: cWd) D (TYs k) 6) (hr : meth.sig.returnType = (some .int)) (hlk : meth.locks = false) (hE : Ev z mi aK aV A s s.heap) {rApply : Sh → St → Int → Int → Int → Option (Sh × St × Int)} (hφ : 20 ≤ φ) (hψ : 600 ≤ ψ) (hmrApply : ∀ {π : Sh} {σ : St} {y0 : Int} {y1 : Int} {y2 : Int} {r : Sh × St × Int}, Cl π σ → y0 < nn π → y1 < nn π → rApply π σ y0 y1 y2 = some r → ext π r.1 ∧ Cl r.1 r.2.1) (hcrApply : ∀ {g : Nat → Nat} {π : Sh} {σ : St} {y0 : Int} {y1 : Int} {y2 : Int} {r : Sh × St × Int}, Cl π σ → y0 < nn π → y1 < nn π → rApply π σ y0 y1 y2 = some r → Mi l yX5_apply (.code yX5_apply cX5_apply 3 (some .int) :: cWd) { frames := φ, cells := nn r.1 - nn π, slots := sw r.1 - sw π, locals := ψ } [rfv g y0, rfv g y1, .int (Int32.ofInt y2)] D (TYs k) (cW k z g π σ) (XV z mi aK aV (cW k z g π σ)) (Nat → Nat) (fun v u => gx (nn π) g u ∧ v = Int32.ofInt r.2.2) (fun u => cW k z u r.1 r.2.1) (nn r.1 - nn π) (sw r.1 - sw π))  {ls : Array Slot} {H : Heap} {locs : List Loc} {g : Nat → Nat} {π : Sh} {σ : St} {x3 : Int} {s0 : Int} {s1 : Int} (hC : Cl π σ) (hG : gx (nn π0) g0 g) (hX : ext π0 π) (hv_s0 : s0 < nn π) (hv_s1 : s1 < nn π) (hl : lv_has ls 6 [(3, .int (Int32.ofInt x3))]) (h : Hp D A s.heap H locs (cW k z g π σ)) (hm : Pc_applyWithFun_375 N rApply π σ x3 s0 s1 = some r) : W p l e { frames := φ + 2, cells := nn r.1 - nn π0, slots := sw r.1 - sw π0, locals := ψ + 47 } s m args below meth c H locs (nn π - nn π0) (sw π - sw π0) (MQ below (va_Qi (fun v u => gx (nn π0) g0 u ∧ v = Int32.ofInt r.2.2) (fun u t => PostW D (TYs k) A (cW k z u r.1 r.2.1) t) A) args s (nn r.1 - nn π0) (sw r.1 - sw π0) A) (F0 m 375 ls [rfv g s0, rfv g s1]) := by
  have hS := hC.1
  have hq := km_Pc_applyWithFun_375 hmrApply   hC hv_s0 hv_s1 hm
  rw [Pc_applyWithFun_375] at hm
  refine lv_iload_n C.1 C.2.1 dX5_applyWithFun_375 rfl (lv_at hl 0 rfl) ?_
  obtain ⟨r112, e113, hm⟩ := obd_s hm
  have q114 := (km_Sp_give hC hv_s0 e113)
  obtain ⟨g115, hm⟩ := grd_s hm
  have q := km_Pc_applyWithFun_379 hmrApply  q114.2.1 q114.2.2 (lt_ext hv_s1 q114.1) hm
  refine c_callVqA C hE h g115 rfl (by decide) (kc_Sp_give l D k z mi aK aV g N hC hv_s0 e113) (cwV 1 C.2.2.1 (gS_X5_55 _) rfl rfl rfl hd_X9_give ⟨(by show 2 + 1 ≤ φ + 2; omega), (by show 8 + (2 + 11) + 82 ≤ ψ + 47; omega)⟩) rfl hl.1 rfl (by simp [rfv_cat, cat_i, cat_l]) dX5_applyWithFun_376 ⟨rcC hX q114.1 q.1, rsC hX q114.1 q.1⟩ (fun u H locs hg h => ?_)
  try simp only [← gx_rfv hg hv_s1]
  refine W_cast (wcC hX q114.1).symm (wsC hX q114.1).symm ?_
  exact kl_Pc_applyWithFun_379 (N := N) C hr hlk hE hφ hψ hmrApply hcrApply  q114.2.1 (hG.tr hg hX.1) (hX.tr q114.1) q114.2.2 (lt_ext hv_s1 q114.1) (lv_sub hl [] rfl) h hm
set_option maxHeartbeats 8000000 in
set_option maxRecDepth 100000 in
theorem kl_Pc_applyWithFun_371 {r : Sh × St × Int} (C : Cx p s m args c cX5_applyWithFun RX5 (cd :: cWd) D (TYs k) 6) (hr : meth.sig.returnType = (some .int)) (hlk : meth.locks = false) (hE : Ev z mi aK aV A s s.heap) {rApply : Sh → St → Int → Int → Int → Option (Sh × St × Int)} (hφ : 20 ≤ φ) (hψ : 600 ≤ ψ) (hmrApply : ∀ {π : Sh} {σ : St} {y0 : Int} {y1 : Int} {y2 : Int} {r : Sh × St × Int}, Cl π σ → y0 < nn π → y1 < nn π → rApply π σ y0 y1 y2 = some r → ext π r.1 ∧ Cl r.1 r.2.1) (hcrApply : ∀ {g : Nat → Nat} {π : Sh} {σ : St} {y0 : Int} {y1 : Int} {y2 : Int} {r : Sh × St × Int}, Cl π σ → y0 < nn π → y1 < nn π → rApply π σ y0 y1 y2 = some r → Mi l yX5_apply (.code yX5_apply cX5_apply 3 (some .int) :: cWd) { frames := φ, cells := nn r.1 - nn π, slots := sw r.1 - sw π, locals := ψ } [rfv g y0, rfv g y1, .int (Int32.ofInt y2)] D (TYs k) (cW k z g π σ) (XV z mi aK aV (cW k z g π σ)) (Nat → Nat) (fun v u => gx (nn π) g u ∧ v = Int32.ofInt r.2.2) (fun u => cW k z u r.1 r.2.1) (nn r.1 - nn π) (sw r.1 - sw π))  {ls : Array Slot} {H : Heap} {locs : List Loc} {g : Nat → Nat} {π : Sh} {σ : St} {x2 : Int} {x3 : Int} {s0 : Int} {s1 : Int} (hC : Cl π σ) (hG : gx (nn π0) g0 g) (hX : ext π0 π) (hv_s0 : s0 < nn π) (hv_s1 : s1 < nn π) (hl : lv_has ls 6 [(2, .int (Int32.ofInt x2)), (3, .int (Int32.ofInt x3))]) (h : Hp D A s.heap H locs (cW k z g π σ)) (hm : Pc_applyWithFun_371 N rApply π σ x2 x3 s0 s1 = some r) : W p l e { frames := φ + 2, cells := nn r.1 - nn π0, slots := sw r.1 - sw π0, locals := ψ + 47 } s m args below meth c H locs (nn π - nn π0) (sw π - sw π0) (MQ below (va_Qi (fun v u => gx (nn π0) g0 u ∧ v = Int32.ofInt r.2.2) (fun u t => PostW D (TYs k) A (cW k z u r.1 r.2.1) t) A) args s (nn r.1 - nn π0) (sw r.1 - sw π0) A) (F0 m 371 ls [rfv g s0, rfv g s1]) := by
  have hS := hC.1
  have hq := km_Pc_applyWithFun_371 hmrApply   hC hv_s0 hv_s1 hm
  rw [Pc_applyWithFun_371] at hm
  refine lv_iload_n C.1 C.2.1 dX5_applyWithFun_371 rfl (lv_at hl 0 rfl) ?_
  obtain ⟨r80, e81, hm⟩ := obd_s hm
  have q82 := (km_Sp_give hC hv_s0 e81)
  obtain ⟨g83, hm⟩ := grd_s hm
  have q := km_Pc_applyWithFun_375 hmrApply  q82.2.1 q82.2.2 (lt_ext hv_s1 q82.1) hm
  refine c_callVqA C hE h g83 rfl (by decide) (kc_Sp_give l D k z mi aK aV g N hC hv_s0 e81) (cwV 1 C.2.2.1 (gS_X5_55 _) rfl rfl rfl hd_X9_give ⟨(by show 2 + 1 ≤ φ + 2; omega), (by show 8 + (2 + 11) + 82 ≤ ψ + 47; omega)⟩) rfl hl.1 rfl (by simp [rfv_cat, cat_i, cat_l]) dX5_applyWithFun_372 ⟨rcC hX q82.1 q.1, rsC hX q82.1 q.1⟩ (fun u H locs hg h => ?_)
  try simp only [← gx_rfv hg hv_s1]
  refine W_cast (wcC hX q82.1).symm (wsC hX q82.1).symm ?_
  exact kl_Pc_applyWithFun_375 (N := N) C hr hlk hE hφ hψ hmrApply hcrApply  q82.2.1 (hG.tr hg hX.1) (hX.tr q82.1) q82.2.2 (lt_ext hv_s1 q82.1) (lv_sub hl [1] rfl) h hm
set_option maxHeartbeats 8000000 in
set_option maxRecDepth 100000 in
theorem kl_Pc_applyWithFun_187 {r : Sh × St × Int} (C : Cx p s m args c cX5_applyWithFun RX5 (cd :: cWd) D (TYs k) 6) (hr : meth.sig.returnType = (some .int)) (hlk : meth.locks = false) (hE : Ev z mi aK aV A s s.heap) {rApply : Sh → St → Int → Int → Int → Option (Sh × St × Int)} (hφ : 20 ≤ φ) (hψ : 600 ≤ ψ) (hmrApply : ∀ {π : Sh} {σ : St} {y0 : Int} {y1 : Int} {y2 : Int} {r : Sh × St × Int}, Cl π σ → y0 < nn π → y1 < nn π → rApply π σ y0 y1 y2 = some r → ext π r.1 ∧ Cl r.1 r.2.1) (hcrApply : ∀ {g : Nat → Nat} {π : Sh} {σ : St} {y0 : Int} {y1 : Int} {y2 : Int} {r : Sh × St × Int}, Cl π σ → y0 < nn π → y1 < nn π → rApply π σ y0 y1 y2 = some r → Mi l yX5_apply (.code yX5_apply cX5_apply 3 (some .int) :: cWd) { frames := φ, cells := nn r.1 - nn π, slots := sw r.1 - sw π, locals := ψ } [rfv g y0, rfv g y1, .int (Int32.ofInt y2)] D (TYs k) (cW k z g π σ) (XV z mi aK aV (cW k z g π σ)) (Nat → Nat) (fun v u => gx (nn π) g u ∧ v = Int32.ofInt r.2.2) (fun u => cW k z u r.1 r.2.1) (nn r.1 - nn π) (sw r.1 - sw π))  {ls : Array Slot} {H : Heap} {locs : List Loc} {g : Nat → Nat} {π : Sh} {σ : St} {x0 : Int} {x1 : Int} {x2 : Int} {s0 : Int} (hC : Cl π σ) (hG : gx (nn π0) g0 g) (hX : ext π0 π) (hv_x0 : x0 < nn π) (hv_x1 : x1 < nn π) (hl : lv_has ls 6 [(0, rfv g x0), (1, rfv g x1), (2, .int (Int32.ofInt x2))]) (h : Hp D A s.heap H locs (cW k z g π σ)) (hm : Pc_applyWithFun_187 N rApply π σ x0 x1 x2 s0 = some r) : W p l e { frames := φ + 2, cells := nn r.1 - nn π0, slots := sw r.1 - sw π0, locals := ψ + 47 } s m args below meth c H locs (nn π - nn π0) (sw π - sw π0) (MQ below (va_Qi (fun v u => gx (nn π0) g0 u ∧ v = Int32.ofInt r.2.2) (fun u t => PostW D (TYs k) A (cW k z u r.1 r.2.1) t) A) args s (nn r.1 - nn π0) (sw r.1 - sw π0) A) (F0 m 187 ls [.int (Int32.ofInt s0)]) := by
  have hS := hC.1
  have hq := km_Pc_applyWithFun_187 hmrApply   hC hv_x0 hv_x1 hm
  rw [Pc_applyWithFun_187] at hm
  refine lv_istore_n (lv' := [(3, .int (Int32.ofInt s0)), (0, rfv g x0), (1, rfv g x1), (2, .int (Int32.ofInt x2))]) C.1 C.2.1 dX5_applyWithFun_187 rfl hl (by decide) rfl (fun ls hl => ?_)
  refine z_aload_n C dX5_applyWithFun_188 rfl (lv_at hl 1 rfl) ?_
  obtain ⟨g10, hm⟩ := grd_s hm
  refine cg_6_0 C h g10 cU_X5 (List.mem_cons_of_mem _ wl_X5_40) dX5_applyWithFun_189 ?_
  obtain ⟨g11, hm⟩ := grd_s hm
  by_cases c12 : (fl σ 120 x0) = 5
  · refine x_topi (congrArg Int32.ofInt c12) ?_
    have hm := ite_t c12 hm
    refine lv_tableIn (tgt := 268) C.1 C.2.1 dX5_applyWithFun_192 (by decide) (by decide) rfl (by decide) ?_
    refine z_aload_n C dX5_applyWithFun_268 rfl (lv_at hl 2 rfl) ?_
    have q := km_Pc_applyWithFun_272 hmrApply  ((cl_nO hC (by decide) (by decide) _)) (lt_ext hv_x0 (ext_nO π 10 14)) lt_nO (lt_ext hv_x1 (ext_nO π 10 14)) hm
    refine c_new C h hC (by decide) dX5_applyWithFun_269 rfl cU_X9 tyX9_ok (List.mem_cons_of_mem _ wn_X5_50) (List.mem_cons_of_mem _ wi_X9) (List.mem_cons_of_mem _ wt_X9) (df_X9) (dn_X9 z) (rc1 hX q.1) (rs1 hX q.1) (fun u H hg h => ?_)
    simp only [← gx_rfv hg hv_x0, ← gx_rfv hg hv_x1] at hl
    try simp only [← gx_rfv hg hv_x0, ← gx_rfv hg hv_x1]
    refine W_cast (wcO (c := 10) (w := 14) hX).symm (wsO (c := 10) (w := 14) hX).symm ?_
    exact kl_Pc_applyWithFun_272 (N := N) C hr hlk hE hφ hψ hmrApply hcrApply  ((cl_nO hC (by decide) (by decide) _)) (hG.tr hg hX.1) (hX.tr (ext_nO π 10 14)) (lt_ext hv_x0 (ext_nO π 10 14)) lt_nO (lt_ext hv_x1 (ext_nO π 10 14)) (lv_sub hl [1, 3, 0] rfl) h hm
  have hm := ite_f c12 hm
  by_cases c14 : (fl σ 120 x0) = 6
  · refine x_topi (congrArg Int32.ofInt c14) ?_
    have hm := ite_t c14 hm
    refine lv_tableIn (tgt := 299) C.1 C.2.1 dX5_applyWithFun_192 (by decide) (by decide) rfl (by decide) ?_
    refine z_aload_n C dX5_applyWithFun_299 rfl (lv_at hl 2 rfl) ?_
    have q := km_Pc_applyWithFun_303 hmrApply  ((cl_nO hC (by decide) (by decide) _)) (lt_ext hv_x0 (ext_nO π 10 14)) lt_nO (lt_ext hv_x1 (ext_nO π 10 14)) hm
    refine c_new C h hC (by decide) dX5_applyWithFun_300 rfl cU_X9 tyX9_ok (List.mem_cons_of_mem _ wn_X5_50) (List.mem_cons_of_mem _ wi_X9) (List.mem_cons_of_mem _ wt_X9) (df_X9) (dn_X9 z) (rc1 hX q.1) (rs1 hX q.1) (fun u H hg h => ?_)
    simp only [← gx_rfv hg hv_x0, ← gx_rfv hg hv_x1] at hl
    try simp only [← gx_rfv hg hv_x0, ← gx_rfv hg hv_x1]
    refine W_cast (wcO (c := 10) (w := 14) hX).symm (wsO (c := 10) (w := 14) hX).symm ?_
    exact kl_Pc_applyWithFun_303 (N := N) C hr hlk hE hφ hψ hmrApply hcrApply  ((cl_nO hC (by decide) (by decide) _)) (hG.tr hg hX.1) (hX.tr (ext_nO π 10 14)) (lt_ext hv_x0 (ext_nO π 10 14)) lt_nO (lt_ext hv_x1 (ext_nO π 10 14)) (lv_sub hl [1, 3, 0] rfl) h hm
  have hm := ite_f c14 hm
  by_cases c16 : (fl σ 120 x0) = 7
  · refine x_topi (congrArg Int32.ofInt c16) ?_
    have hm := ite_t c16 hm
    refine lv_tableIn (tgt := 383) C.1 C.2.1 dX5_applyWithFun_192 (by decide) (by decide) rfl (by decide) ?_
    refine z_aload_n C dX5_applyWithFun_383 rfl (lv_at hl 2 rfl) ?_
    have q := km_Pc_applyWithFun_387 hmrApply  ((cl_nO hC (by decide) (by decide) _)) (lt_ext hv_x0 (ext_nO π 10 14)) (lt_ext hv_x1 (ext_nO π 10 14)) lt_nO (lt_ext hv_x1 (ext_nO π 10 14)) hm
    refine c_new C h hC (by decide) dX5_applyWithFun_384 rfl cU_X9 tyX9_ok (List.mem_cons_of_mem _ wn_X5_50) (List.mem_cons_of_mem _ wi_X9) (List.mem_cons_of_mem _ wt_X9) (df_X9) (dn_X9 z) (rc1 hX q.1) (rs1 hX q.1) (fun u H hg h => ?_)
    simp only [← gx_rfv hg hv_x0, ← gx_rfv hg hv_x1] at hl
    try simp only [← gx_rfv hg hv_x0, ← gx_rfv hg hv_x1]
    refine W_cast (wcO (c := 10) (w := 14) hX).symm (wsO (c := 10) (w := 14) hX).symm ?_
    exact kl_Pc_applyWithFun_387 (N := N) C hr hlk hE hφ hψ hmrApply hcrApply  ((cl_nO hC (by decide) (by decide) _)) (hG.tr hg hX.1) (hX.tr (ext_nO π 10 14)) (lt_ext hv_x0 (ext_nO π 10 14)) (lt_ext hv_x1 (ext_nO π 10 14)) lt_nO (lt_ext hv_x1 (ext_nO π 10 14)) (lv_sub hl [1, 2, 3, 0] rfl) h hm
  have hm := ite_f c16 hm
  by_cases c18 : (fl σ 120 x0) = 8
  · refine x_topi (congrArg Int32.ofInt c18) ?_
    have hm := ite_t c18 hm
    refine lv_tableIn (tgt := 442) C.1 C.2.1 dX5_applyWithFun_192 (by decide) (by decide) rfl (by decide) ?_
    refine z_aload_n C dX5_applyWithFun_442 rfl (lv_at hl 2 rfl) ?_
    have q := km_Pc_applyWithFun_446 hmrApply  ((cl_nO hC (by decide) (by decide) _)) (lt_ext hv_x0 (ext_nO π 10 14)) lt_nO (lt_ext hv_x1 (ext_nO π 10 14)) hm
    refine c_new C h hC (by decide) dX5_applyWithFun_443 rfl cU_X9 tyX9_ok (List.mem_cons_of_mem _ wn_X5_50) (List.mem_cons_of_mem _ wi_X9) (List.mem_cons_of_mem _ wt_X9) (df_X9) (dn_X9 z) (rc1 hX q.1) (rs1 hX q.1) (fun u H hg h => ?_)
    simp only [← gx_rfv hg hv_x0, ← gx_rfv hg hv_x1] at hl
    try simp only [← gx_rfv hg hv_x0, ← gx_rfv hg hv_x1]
    refine W_cast (wcO (c := 10) (w := 14) hX).symm (wsO (c := 10) (w := 14) hX).symm ?_
    exact kl_Pc_applyWithFun_446 (N := N) C hr hlk hE hφ hψ hmrApply hcrApply  ((cl_nO hC (by decide) (by decide) _)) (hG.tr hg hX.1) (hX.tr (ext_nO π 10 14)) (lt_ext hv_x0 (ext_nO π 10 14)) lt_nO (lt_ext hv_x1 (ext_nO π 10 14)) (lv_sub hl [1, 3, 0] rfl) h hm
  have hm := ite_f c18 hm
  by_cases c20 : (fl σ 120 x0) = 9
  · refine x_topi (congrArg Int32.ofInt c20) ?_
    have hm := ite_t c20 hm
    refine lv_tableIn (tgt := 442) C.1 C.2.1 dX5_applyWithFun_192 (by decide) (by decide) rfl (by decide) ?_
    refine z_aload_n C dX5_applyWithFun_442 rfl (lv_at hl 2 rfl) ?_
    have q := km_Pc_applyWithFun_446 hmrApply  ((cl_nO hC (by decide) (by decide) _)) (lt_ext hv_x0 (ext_nO π 10 14)) lt_nO (lt_ext hv_x1 (ext_nO π 10 14)) hm
    refine c_new C h hC (by decide) dX5_applyWithFun_443 rfl cU_X9 tyX9_ok (List.mem_cons_of_mem _ wn_X5_50) (List.mem_cons_of_mem _ wi_X9) (List.mem_cons_of_mem _ wt_X9) (df_X9) (dn_X9 z) (rc1 hX q.1) (rs1 hX q.1) (fun u H hg h => ?_)
    simp only [← gx_rfv hg hv_x0, ← gx_rfv hg hv_x1] at hl
    try simp only [← gx_rfv hg hv_x0, ← gx_rfv hg hv_x1]
    refine W_cast (wcO (c := 10) (w := 14) hX).symm (wsO (c := 10) (w := 14) hX).symm ?_
    exact kl_Pc_applyWithFun_446 (N := N) C hr hlk hE hφ hψ hmrApply hcrApply  ((cl_nO hC (by decide) (by decide) _)) (hG.tr hg hX.1) (hX.tr (ext_nO π 10 14)) (lt_ext hv_x0 (ext_nO π 10 14)) lt_nO (lt_ext hv_x1 (ext_nO π 10 14)) (lv_sub hl [1, 3, 0] rfl) h hm
  have hm := ite_f c20 hm
  by_cases c22 : (fl σ 120 x0) = 10
  · refine x_topi (congrArg Int32.ofInt c22) ?_
    have hm := ite_t c22 hm
    refine lv_tableIn (tgt := 442) C.1 C.2.1 dX5_applyWithFun_192 (by decide) (by decide) rfl (by decide) ?_
    refine z_aload_n C dX5_applyWithFun_442 rfl (lv_at hl 2 rfl) ?_
    have q := km_Pc_applyWithFun_446 hmrApply  ((cl_nO hC (by decide) (by decide) _)) (lt_ext hv_x0 (ext_nO π 10 14)) lt_nO (lt_ext hv_x1 (ext_nO π 10 14)) hm
    refine c_new C h hC (by decide) dX5_applyWithFun_443 rfl cU_X9 tyX9_ok (List.mem_cons_of_mem _ wn_X5_50) (List.mem_cons_of_mem _ wi_X9) (List.mem_cons_of_mem _ wt_X9) (df_X9) (dn_X9 z) (rc1 hX q.1) (rs1 hX q.1) (fun u H hg h => ?_)
    simp only [← gx_rfv hg hv_x0, ← gx_rfv hg hv_x1] at hl
    try simp only [← gx_rfv hg hv_x0, ← gx_rfv hg hv_x1]
    refine W_cast (wcO (c := 10) (w := 14) hX).symm (wsO (c := 10) (w := 14) hX).symm ?_
    exact kl_Pc_applyWithFun_446 (N := N) C hr hlk hE hφ hψ hmrApply hcrApply  ((cl_nO hC (by decide) (by decide) _)) (hG.tr hg hX.1) (hX.tr (ext_nO π 10 14)) (lt_ext hv_x0 (ext_nO π 10 14)) lt_nO (lt_ext hv_x1 (ext_nO π 10 14)) (lv_sub hl [1, 3, 0] rfl) h hm
  have hm := ite_f c22 hm
  by_cases c24 : (fl σ 120 x0) = 11
  · refine x_topi (congrArg Int32.ofInt c24) ?_
    have hm := ite_t c24 hm
    refine lv_tableIn (tgt := 333) C.1 C.2.1 dX5_applyWithFun_192 (by decide) (by decide) rfl (by decide) ?_
    refine z_aload_n C dX5_applyWithFun_333 rfl (lv_at hl 2 rfl) ?_
    have q := km_Pc_applyWithFun_337 hmrApply  ((cl_nO hC (by decide) (by decide) _)) (lt_ext hv_x0 (ext_nO π 10 14)) lt_nO (lt_ext hv_x1 (ext_nO π 10 14)) hm
    refine c_new C h hC (by decide) dX5_applyWithFun_334 rfl cU_X9 tyX9_ok (List.mem_cons_of_mem _ wn_X5_50) (List.mem_cons_of_mem _ wi_X9) (List.mem_cons_of_mem _ wt_X9) (df_X9) (dn_X9 z) (rc1 hX q.1) (rs1 hX q.1) (fun u H hg h => ?_)
    simp only [← gx_rfv hg hv_x0, ← gx_rfv hg hv_x1] at hl
    try simp only [← gx_rfv hg hv_x0, ← gx_rfv hg hv_x1]
    refine W_cast (wcO (c := 10) (w := 14) hX).symm (wsO (c := 10) (w := 14) hX).symm ?_
    exact kl_Pc_applyWithFun_337 (N := N) C hr hlk hE hφ hψ hmrApply hcrApply  ((cl_nO hC (by decide) (by decide) _)) (hG.tr hg hX.1) (hX.tr (ext_nO π 10 14)) (lt_ext hv_x0 (ext_nO π 10 14)) lt_nO (lt_ext hv_x1 (ext_nO π 10 14)) (lv_sub hl [1, 3, 0] rfl) h hm
  have hm := ite_f c24 hm
  by_cases c26 : (fl σ 120 x0) = 12
  · refine x_topi (congrArg Int32.ofInt c26) ?_
    have hm := ite_t c26 hm
    refine lv_tableIn (tgt := 442) C.1 C.2.1 dX5_applyWithFun_192 (by decide) (by decide) rfl (by decide) ?_
    refine z_aload_n C dX5_applyWithFun_442 rfl (lv_at hl 2 rfl) ?_
    have q := km_Pc_applyWithFun_446 hmrApply  ((cl_nO hC (by decide) (by decide) _)) (lt_ext hv_x0 (ext_nO π 10 14)) lt_nO (lt_ext hv_x1 (ext_nO π 10 14)) hm
    refine c_new C h hC (by decide) dX5_applyWithFun_443 rfl cU_X9 tyX9_ok (List.mem_cons_of_mem _ wn_X5_50) (List.mem_cons_of_mem _ wi_X9) (List.mem_cons_of_mem _ wt_X9) (df_X9) (dn_X9 z) (rc1 hX q.1) (rs1 hX q.1) (fun u H hg h => ?_)
    simp only [← gx_rfv hg hv_x0, ← gx_rfv hg hv_x1] at hl
    try simp only [← gx_rfv hg hv_x0, ← gx_rfv hg hv_x1]
    refine W_cast (wcO (c := 10) (w := 14) hX).symm (wsO (c := 10) (w := 14) hX).symm ?_
    exact kl_Pc_applyWithFun_446 (N := N) C hr hlk hE hφ hψ hmrApply hcrApply  ((cl_nO hC (by decide) (by decide) _)) (hG.tr hg hX.1) (hX.tr (ext_nO π 10 14)) (lt_ext hv_x0 (ext_nO π 10 14)) lt_nO (lt_ext hv_x1 (ext_nO π 10 14)) (lv_sub hl [1, 3, 0] rfl) h hm
  have hm := ite_f c26 hm
  by_cases c28 : (fl σ 120 x0) = 13
  · refine x_topi (congrArg Int32.ofInt c28) ?_
    have hm := ite_t c28 hm
    refine lv_tableIn (tgt := 442) C.1 C.2.1 dX5_applyWithFun_192 (by decide) (by decide) rfl (by decide) ?_
    refine z_aload_n C dX5_applyWithFun_442 rfl (lv_at hl 2 rfl) ?_
    have q := km_Pc_applyWithFun_446 hmrApply  ((cl_nO hC (by decide) (by decide) _)) (lt_ext hv_x0 (ext_nO π 10 14)) lt_nO (lt_ext hv_x1 (ext_nO π 10 14)) hm
    refine c_new C h hC (by decide) dX5_applyWithFun_443 rfl cU_X9 tyX9_ok (List.mem_cons_of_mem _ wn_X5_50) (List.mem_cons_of_mem _ wi_X9) (List.mem_cons_of_mem _ wt_X9) (df_X9) (dn_X9 z) (rc1 hX q.1) (rs1 hX q.1) (fun u H hg h => ?_)
    simp only [← gx_rfv hg hv_x0, ← gx_rfv hg hv_x1] at hl
    try simp only [← gx_rfv hg hv_x0, ← gx_rfv hg hv_x1]
    refine W_cast (wcO (c := 10) (w := 14) hX).symm (wsO (c := 10) (w := 14) hX).symm ?_
    exact kl_Pc_applyWithFun_446 (N := N) C hr hlk hE hφ hψ hmrApply hcrApply  ((cl_nO hC (by decide) (by decide) _)) (hG.tr hg hX.1) (hX.tr (ext_nO π 10 14)) (lt_ext hv_x0 (ext_nO π 10 14)) lt_nO (lt_ext hv_x1 (ext_nO π 10 14)) (lv_sub hl [1, 3, 0] rfl) h hm
  have hm := ite_f c28 hm
  by_cases c30 : (fl σ 120 x0) = 14
  · refine x_topi (congrArg Int32.ofInt c30) ?_
    have hm := ite_t c30 hm
    refine lv_tableIn (tgt := 442) C.1 C.2.1 dX5_applyWithFun_192 (by decide) (by decide) rfl (by decide) ?_
    refine z_aload_n C dX5_applyWithFun_442 rfl (lv_at hl 2 rfl) ?_
    have q := km_Pc_applyWithFun_446 hmrApply  ((cl_nO hC (by decide) (by decide) _)) (lt_ext hv_x0 (ext_nO π 10 14)) lt_nO (lt_ext hv_x1 (ext_nO π 10 14)) hm
    refine c_new C h hC (by decide) dX5_applyWithFun_443 rfl cU_X9 tyX9_ok (List.mem_cons_of_mem _ wn_X5_50) (List.mem_cons_of_mem _ wi_X9) (List.mem_cons_of_mem _ wt_X9) (df_X9) (dn_X9 z) (rc1 hX q.1) (rs1 hX q.1) (fun u H hg h => ?_)
    simp only [← gx_rfv hg hv_x0, ← gx_rfv hg hv_x1] at hl
    try simp only [← gx_rfv hg hv_x0, ← gx_rfv hg hv_x1]
    refine W_cast (wcO (c := 10) (w := 14) hX).symm (wsO (c := 10) (w := 14) hX).symm ?_
    exact kl_Pc_applyWithFun_446 (N := N) C hr hlk hE hφ hψ hmrApply hcrApply  ((cl_nO hC (by decide) (by decide) _)) (hG.tr hg hX.1) (hX.tr (ext_nO π 10 14)) (lt_ext hv_x0 (ext_nO π 10 14)) lt_nO (lt_ext hv_x1 (ext_nO π 10 14)) (lv_sub hl [1, 3, 0] rfl) h hm
  have hm := ite_f c30 hm
  by_cases c32 : (fl σ 120 x0) = 15
  · refine x_topi (congrArg Int32.ofInt c32) ?_
    have hm := ite_t c32 hm
    refine lv_tableIn (tgt := 442) C.1 C.2.1 dX5_applyWithFun_192 (by decide) (by decide) rfl (by decide) ?_
    refine z_aload_n C dX5_applyWithFun_442 rfl (lv_at hl 2 rfl) ?_
    have q := km_Pc_applyWithFun_446 hmrApply  ((cl_nO hC (by decide) (by decide) _)) (lt_ext hv_x0 (ext_nO π 10 14)) lt_nO (lt_ext hv_x1 (ext_nO π 10 14)) hm
    refine c_new C h hC (by decide) dX5_applyWithFun_443 rfl cU_X9 tyX9_ok (List.mem_cons_of_mem _ wn_X5_50) (List.mem_cons_of_mem _ wi_X9) (List.mem_cons_of_mem _ wt_X9) (df_X9) (dn_X9 z) (rc1 hX q.1) (rs1 hX q.1) (fun u H hg h => ?_)
    simp only [← gx_rfv hg hv_x0, ← gx_rfv hg hv_x1] at hl
    try simp only [← gx_rfv hg hv_x0, ← gx_rfv hg hv_x1]
    refine W_cast (wcO (c := 10) (w := 14) hX).symm (wsO (c := 10) (w := 14) hX).symm ?_
    exact kl_Pc_applyWithFun_446 (N := N) C hr hlk hE hφ hψ hmrApply hcrApply  ((cl_nO hC (by decide) (by decide) _)) (hG.tr hg hX.1) (hX.tr (ext_nO π 10 14)) (lt_ext hv_x0 (ext_nO π 10 14)) lt_nO (lt_ext hv_x1 (ext_nO π 10 14)) (lv_sub hl [1, 3, 0] rfl) h hm
  have hm := ite_f c32 hm
  by_cases c34 : (fl σ 120 x0) = 16
  · refine x_topi (congrArg Int32.ofInt c34) ?_
    have hm := ite_t c34 hm
    refine lv_tableIn (tgt := 442) C.1 C.2.1 dX5_applyWithFun_192 (by decide) (by decide) rfl (by decide) ?_
    refine z_aload_n C dX5_applyWithFun_442 rfl (lv_at hl 2 rfl) ?_
    have q := km_Pc_applyWithFun_446 hmrApply  ((cl_nO hC (by decide) (by decide) _)) (lt_ext hv_x0 (ext_nO π 10 14)) lt_nO (lt_ext hv_x1 (ext_nO π 10 14)) hm
    refine c_new C h hC (by decide) dX5_applyWithFun_443 rfl cU_X9 tyX9_ok (List.mem_cons_of_mem _ wn_X5_50) (List.mem_cons_of_mem _ wi_X9) (List.mem_cons_of_mem _ wt_X9) (df_X9) (dn_X9 z) (rc1 hX q.1) (rs1 hX q.1) (fun u H hg h => ?_)
    simp only [← gx_rfv hg hv_x0, ← gx_rfv hg hv_x1] at hl
    try simp only [← gx_rfv hg hv_x0, ← gx_rfv hg hv_x1]
    refine W_cast (wcO (c := 10) (w := 14) hX).symm (wsO (c := 10) (w := 14) hX).symm ?_
    exact kl_Pc_applyWithFun_446 (N := N) C hr hlk hE hφ hψ hmrApply hcrApply  ((cl_nO hC (by decide) (by decide) _)) (hG.tr hg hX.1) (hX.tr (ext_nO π 10 14)) (lt_ext hv_x0 (ext_nO π 10 14)) lt_nO (lt_ext hv_x1 (ext_nO π 10 14)) (lv_sub hl [1, 3, 0] rfl) h hm
  have hm := ite_f c34 hm
  by_cases c36 : (fl σ 120 x0) = 17
  · refine x_topi (congrArg Int32.ofInt c36) ?_
    have hm := ite_t c36 hm
    refine lv_tableIn (tgt := 442) C.1 C.2.1 dX5_applyWithFun_192 (by decide) (by decide) rfl (by decide) ?_
    refine z_aload_n C dX5_applyWithFun_442 rfl (lv_at hl 2 rfl) ?_
    have q := km_Pc_applyWithFun_446 hmrApply  ((cl_nO hC (by decide) (by decide) _)) (lt_ext hv_x0 (ext_nO π 10 14)) lt_nO (lt_ext hv_x1 (ext_nO π 10 14)) hm
    refine c_new C h hC (by decide) dX5_applyWithFun_443 rfl cU_X9 tyX9_ok (List.mem_cons_of_mem _ wn_X5_50) (List.mem_cons_of_mem _ wi_X9) (List.mem_cons_of_mem _ wt_X9) (df_X9) (dn_X9 z) (rc1 hX q.1) (rs1 hX q.1) (fun u H hg h => ?_)
    simp only [← gx_rfv hg hv_x0, ← gx_rfv hg hv_x1] at hl
    try simp only [← gx_rfv hg hv_x0, ← gx_rfv hg hv_x1]
    refine W_cast (wcO (c := 10) (w := 14) hX).symm (wsO (c := 10) (w := 14) hX).symm ?_
    exact kl_Pc_applyWithFun_446 (N := N) C hr hlk hE hφ hψ hmrApply hcrApply  ((cl_nO hC (by decide) (by decide) _)) (hG.tr hg hX.1) (hX.tr (ext_nO π 10 14)) (lt_ext hv_x0 (ext_nO π 10 14)) lt_nO (lt_ext hv_x1 (ext_nO π 10 14)) (lv_sub hl [1, 3, 0] rfl) h hm
  have hm := ite_f c36 hm
  by_cases c38 : (fl σ 120 x0) = 18
  · refine x_topi (congrArg Int32.ofInt c38) ?_
    have hm := ite_t c38 hm
    refine lv_tableIn (tgt := 442) C.1 C.2.1 dX5_applyWithFun_192 (by decide) (by decide) rfl (by decide) ?_
    refine z_aload_n C dX5_applyWithFun_442 rfl (lv_at hl 2 rfl) ?_
    have q := km_Pc_applyWithFun_446 hmrApply  ((cl_nO hC (by decide) (by decide) _)) (lt_ext hv_x0 (ext_nO π 10 14)) lt_nO (lt_ext hv_x1 (ext_nO π 10 14)) hm
    refine c_new C h hC (by decide) dX5_applyWithFun_443 rfl cU_X9 tyX9_ok (List.mem_cons_of_mem _ wn_X5_50) (List.mem_cons_of_mem _ wi_X9) (List.mem_cons_of_mem _ wt_X9) (df_X9) (dn_X9 z) (rc1 hX q.1) (rs1 hX q.1) (fun u H hg h => ?_)
    simp only [← gx_rfv hg hv_x0, ← gx_rfv hg hv_x1] at hl
    try simp only [← gx_rfv hg hv_x0, ← gx_rfv hg hv_x1]
    refine W_cast (wcO (c := 10) (w := 14) hX).symm (wsO (c := 10) (w := 14) hX).symm ?_
    exact kl_Pc_applyWithFun_446 (N := N) C hr hlk hE hφ hψ hmrApply hcrApply  ((cl_nO hC (by decide) (by decide) _)) (hG.tr hg hX.1) (hX.tr (ext_nO π 10 14)) (lt_ext hv_x0 (ext_nO π 10 14)) lt_nO (lt_ext hv_x1 (ext_nO π 10 14)) (lv_sub hl [1, 3, 0] rfl) h hm
  have hm := ite_f c38 hm
  by_cases c40 : (fl σ 120 x0) = 19
  · refine x_topi (congrArg Int32.ofInt c40) ?_
    have hm := ite_t c40 hm
    refine lv_tableIn (tgt := 364) C.1 C.2.1 dX5_applyWithFun_192 (by decide) (by decide) rfl (by decide) ?_
    refine z_aload_n C dX5_applyWithFun_364 rfl (lv_at hl 2 rfl) ?_
    refine z_aload_n C dX5_applyWithFun_365 rfl (lv_at hl 1 rfl) ?_
    refine lv_bipush (v := Int32.ofInt 17) C.1 C.2.1 dX5_applyWithFun_366 (by decide) ?_
    obtain ⟨r41, e42, hm⟩ := obd_s hm
    have q43 := (km_Pc_spanStep hC hv_x0 e42)
    have q := km_Pc_applyWithFun_371 hmrApply  q43.2.1 q43.2.2 (lt_ext hv_x1 q43.1) hm
    refine c_callVqA C hE h g10 rfl (by decide) (kc_Pc_spanStep l D k z mi aK aV g N hC hv_x0 e42) (cwV 1 C.2.2.1 (gS_X5_68 _) rfl rfl rfl hd_X5_spanStep ⟨(by show 2 + 1 ≤ φ + 2; omega), (by show 8 + (3 + 11) + 54 ≤ ψ + 47; omega)⟩) rfl hl.1 rfl (by simp [rfv_cat, cat_i, cat_l]) dX5_applyWithFun_368 ⟨rcC hX q43.1 q.1, rsC hX q43.1 q.1⟩ (fun u H locs hg h => ?_)
    simp only [← gx_rfv hg hv_x0, ← gx_rfv hg hv_x1] at hl
    try simp only [← gx_rfv hg hv_x0, ← gx_rfv hg hv_x1]
    refine W_cast (wcC hX q43.1).symm (wsC hX q43.1).symm ?_
    exact kl_Pc_applyWithFun_371 (N := N) C hr hlk hE hφ hψ hmrApply hcrApply  q43.2.1 (hG.tr hg hX.1) (hX.tr q43.1) q43.2.2 (lt_ext hv_x1 q43.1) (lv_sub hl [3, 0] rfl) h hm
  have hm := ite_f c40 hm
  refine lv_tableOut (tgt := 442) C.1 C.2.1 dX5_applyWithFun_192 (by rw [c32_ti g11]; omega) (by decide) ?_
  refine z_aload_n C dX5_applyWithFun_442 rfl (lv_at hl 2 rfl) ?_
  have q := km_Pc_applyWithFun_446 hmrApply  ((cl_nO hC (by decide) (by decide) _)) (lt_ext hv_x0 (ext_nO π 10 14)) lt_nO (lt_ext hv_x1 (ext_nO π 10 14)) hm
  refine c_new C h hC (by decide) dX5_applyWithFun_443 rfl cU_X9 tyX9_ok (List.mem_cons_of_mem _ wn_X5_50) (List.mem_cons_of_mem _ wi_X9) (List.mem_cons_of_mem _ wt_X9) (df_X9) (dn_X9 z) (rc1 hX q.1) (rs1 hX q.1) (fun u H hg h => ?_)
  simp only [← gx_rfv hg hv_x0, ← gx_rfv hg hv_x1] at hl
  try simp only [← gx_rfv hg hv_x0, ← gx_rfv hg hv_x1]
  refine W_cast (wcO (c := 10) (w := 14) hX).symm (wsO (c := 10) (w := 14) hX).symm ?_
  exact kl_Pc_applyWithFun_446 (N := N) C hr hlk hE hφ hψ hmrApply hcrApply  ((cl_nO hC (by decide) (by decide) _)) (hG.tr hg hX.1) (hX.tr (ext_nO π 10 14)) (lt_ext hv_x0 (ext_nO π 10 14)) lt_nO (lt_ext hv_x1 (ext_nO π 10 14)) (lv_sub hl [1, 3, 0] rfl) h hm
set_option maxHeartbeats 8000000 in
set_option maxRecDepth 100000 in
theorem kc_Pc_applyWithFun (l : Launch) (D : va_G) (k : Nat → ClassId) (z mi : Nat) (aK aV : Nat → Nat) (g : Nat → Nat) (N : Nat) {φ ψ : Nat} {rApply : Sh → St → Int → Int → Int → Option (Sh × St × Int)} (hφ : 20 ≤ φ) (hψ : 600 ≤ ψ) (hmrApply : ∀ {π : Sh} {σ : St} {y0 : Int} {y1 : Int} {y2 : Int} {r : Sh × St × Int}, Cl π σ → y0 < nn π → y1 < nn π → rApply π σ y0 y1 y2 = some r → ext π r.1 ∧ Cl r.1 r.2.1) (hcrApply : ∀ {g : Nat → Nat} {π : Sh} {σ : St} {y0 : Int} {y1 : Int} {y2 : Int} {r : Sh × St × Int}, Cl π σ → y0 < nn π → y1 < nn π → rApply π σ y0 y1 y2 = some r → Mi l yX5_apply (.code yX5_apply cX5_apply 3 (some .int) :: cWd) { frames := φ, cells := nn r.1 - nn π, slots := sw r.1 - sw π, locals := ψ } [rfv g y0, rfv g y1, .int (Int32.ofInt y2)] D (TYs k) (cW k z g π σ) (XV z mi aK aV (cW k z g π σ)) (Nat → Nat) (fun v u => gx (nn π) g u ∧ v = Int32.ofInt r.2.2) (fun u => cW k z u r.1 r.2.1) (nn r.1 - nn π) (sw r.1 - sw π)) {π : Sh} {σ : St} {x0 : Int} {x1 : Int} {x2 : Int} {r : Sh × St × Int} (hC : Cl π σ) (hv_x0 : x0 < nn π) (hv_x1 : x1 < nn π) (hm : Pc_applyWithFun N rApply π σ x0 x1 x2 = some r) : Mi l yX5_applyWithFun (.code yX5_applyWithFun cX5_applyWithFun 6 (some .int) :: cWd) { frames := φ + 2, cells := nn r.1 - nn π, slots := sw r.1 - sw π, locals := ψ + 47 } [rfv g x0, rfv g x1, .int (Int32.ofInt x2)] D (TYs k) (cW k z g π σ) (XV z mi aK aV (cW k z g π σ)) (Nat → Nat) (fun v u => gx (nn π) g u ∧ v = Int32.ofInt r.2.2) (fun u => cW k z u r.1 r.2.1) (nn r.1 - nn π) (sw r.1 - sw π) := by
  have hS := hC.1
  have hq := km_Pc_applyWithFun hmrApply hC hv_x0 hv_x1 hm
  intro sz
  refine v_met (cc := cX5_applyWithFun) (maxL := 6) (ret := (some .int)) (lv := [(0, rfv g x0), (1, rfv g x1), (2, .int (Int32.ofInt x2))]) (by decide) rfl (by simp [lg_sl, rfv_cat, cat_i, cat_l]) (by simp [lv_args, rfv_cat, cat_i, cat_l]) ?_
  intro p e s m below meth c ls C hE hr hlk hmn hl h
  generalize ([rfv g x0, rfv g x1, .int (Int32.ofInt x2)] : List Value).toArray = args at C ⊢
  have hG := gx.rf (nn π) g
  have hX := ext.rf π
  refine W_cast (Nat.sub_self (nn π)) (Nat.sub_self (sw π)) ?_
  rw [Pc_applyWithFun] at hm
  refine z_aload_n C dX5_applyWithFun_0 rfl (lv_at hl 0 rfl) ?_
  obtain ⟨g1, hm⟩ := grd_s hm
  refine cg_6_0 C h g1 cU_X5 (List.mem_cons_of_mem _ wl_X5_40) dX5_applyWithFun_1 ?_
  refine lv_bipush (v := Int32.ofInt 12) C.1 C.2.1 dX5_applyWithFun_4 (by decide) ?_
  obtain ⟨g2, hm⟩ := grd_s hm
  refine z_icmp_ne (tgt := 75) C dX5_applyWithFun_6 (by decide) g2 (by decide) (fun c3 => ?_) (fun c3 => ?_)
  · have hm := ite_f c3 hm
    refine z_aload_n C dX5_applyWithFun_75 rfl (lv_at hl 0 rfl) ?_
    refine cg_6_0 C h g1 cU_X5 (List.mem_cons_of_mem _ wl_X5_40) dX5_applyWithFun_76 ?_
    refine lv_bipush (v := Int32.ofInt 18) C.1 C.2.1 dX5_applyWithFun_79 (by decide) ?_
    refine z_icmp_ne (tgt := 178) C dX5_applyWithFun_81 (by decide) g2 (by decide) (fun c4 => ?_) (fun c4 => ?_)
    · have hm := ite_f c4 hm
      refine z_aload_n C dX5_applyWithFun_178 rfl (lv_at hl 0 rfl) ?_
      refine cg_6_6 C h g1 cU_X5 (List.mem_cons_of_mem _ wl_X5_22) dX5_applyWithFun_179 ?_
      refine z_aload_n C dX5_applyWithFun_182 rfl (lv_at hl 1 rfl) ?_
      refine lv_iload_n C.1 C.2.1 dX5_applyWithFun_183 rfl (lv_at hl 2 rfl) ?_
      obtain ⟨r5, e6, hm⟩ := obd_s hm
      have q7 := (km_Pc_applyAll hmrApply hC (cl_fl hC (f := 126) rfl x0) hv_x1 e6)
      have q := km_Pc_applyWithFun_187 hmrApply  q7.2 (lt_ext hv_x0 q7.1) (lt_ext hv_x1 q7.1) hm
      refine c_callSiA C hE h (kc_Pc_applyAll l D k z mi aK aV g N hφ hψ hmrApply hcrApply hC (cl_fl hC (f := 126) rfl x0) hv_x1 e6) (v_cwS 3 C.2.2.1 (gC_X5_applyAll _) rfl rfl rfl (C.2.2.1 _ (List.mem_cons_of_mem _ wt_X5)) (C.2.2.1 _ (List.mem_cons_of_mem _ wm_X5_75)) (C.2.2.1 _ (List.mem_cons_of_mem _ ws_X5_applyAll)) hdS_X5_applyAll ⟨(by show φ + 1 + 1 ≤ φ + 2; omega), (by show 8 + (6 + 11) + (ψ + 22) ≤ ψ + 47; omega)⟩) rfl hl.1 rfl (Nat.le_of_ble_eq_true rfl) dX5_applyWithFun_184 ⟨rcC hX q7.1 q.1, rsC hX q7.1 q.1⟩ (fun u H locs hg h => ?_)
      simp only [← gx_rfv hg hv_x0, ← gx_rfv hg hv_x1] at hl
      try simp only [← gx_rfv hg hv_x0, ← gx_rfv hg hv_x1]
      refine W_cast (wcC hX q7.1).symm (wsC hX q7.1).symm ?_
      exact kl_Pc_applyWithFun_187 (N := N) C hr hlk hE hφ hψ hmrApply hcrApply  q7.2 (hG.tr hg hX.1) (hX.tr q7.1) (lt_ext hv_x0 q7.1) (lt_ext hv_x1 q7.1) (lv_sub hl [0, 1, 2] rfl) h hm
    · have hm := ite_t c4 hm
      refine z_aload_n C dX5_applyWithFun_84 rfl (lv_at hl 1 rfl) ?_
      have q := km_Pc_applyWithFun_88 hmrApply  ((cl_nO hC (by decide) (by decide) _)) (lt_ext hv_x0 (ext_nO π 10 14)) (lt_ext hv_x1 (ext_nO π 10 14)) lt_nO (lt_ext hv_x1 (ext_nO π 10 14)) hm
      refine c_new C h hC (by decide) dX5_applyWithFun_85 rfl cU_X9 tyX9_ok (List.mem_cons_of_mem _ wn_X5_50) (List.mem_cons_of_mem _ wi_X9) (List.mem_cons_of_mem _ wt_X9) (df_X9) (dn_X9 z) (rc1 hX q.1) (rs1 hX q.1) (fun u H hg h => ?_)
      simp only [← gx_rfv hg hv_x0, ← gx_rfv hg hv_x1] at hl
      try simp only [← gx_rfv hg hv_x0, ← gx_rfv hg hv_x1]
      refine W_cast (wcO (c := 10) (w := 14) hX).symm (wsO (c := 10) (w := 14) hX).symm ?_
      exact kl_Pc_applyWithFun_88 (N := N) C hr hlk hE hφ hψ hmrApply hcrApply  ((cl_nO hC (by decide) (by decide) _)) (hG.tr hg hX.1) (hX.tr (ext_nO π 10 14)) (lt_ext hv_x0 (ext_nO π 10 14)) (lt_ext hv_x1 (ext_nO π 10 14)) lt_nO (lt_ext hv_x1 (ext_nO π 10 14)) (lv_sub hl [0, 1, 2] rfl) h hm
  · have hm := ite_t c3 hm
    refine z_aload_n C dX5_applyWithFun_9 rfl (lv_at hl 1 rfl) ?_
    have q := km_Pc_applyWithFun_13 hmrApply  ((cl_nO hC (by decide) (by decide) _)) (lt_ext hv_x0 (ext_nO π 10 14)) (lt_ext hv_x1 (ext_nO π 10 14)) lt_nO (lt_ext hv_x1 (ext_nO π 10 14)) hm
    refine c_new C h hC (by decide) dX5_applyWithFun_10 rfl cU_X9 tyX9_ok (List.mem_cons_of_mem _ wn_X5_50) (List.mem_cons_of_mem _ wi_X9) (List.mem_cons_of_mem _ wt_X9) (df_X9) (dn_X9 z) (rc1 hX q.1) (rs1 hX q.1) (fun u H hg h => ?_)
    simp only [← gx_rfv hg hv_x0, ← gx_rfv hg hv_x1] at hl
    try simp only [← gx_rfv hg hv_x0, ← gx_rfv hg hv_x1]
    refine W_cast (wcO (c := 10) (w := 14) hX).symm (wsO (c := 10) (w := 14) hX).symm ?_
    exact kl_Pc_applyWithFun_13 (N := N) C hr hlk hE hφ hψ hmrApply hcrApply  ((cl_nO hC (by decide) (by decide) _)) (hG.tr hg hX.1) (hX.tr (ext_nO π 10 14)) (lt_ext hv_x0 (ext_nO π 10 14)) (lt_ext hv_x1 (ext_nO π 10 14)) lt_nO (lt_ext hv_x1 (ext_nO π 10 14)) (lv_sub hl [0, 1, 2] rfl) h hm
end Z_Pc_applyWithFun
section Z_Pc_useStep
variable {p : Program} {l : Launch} {e : Env} {s : State} {m : MethodId} {args : Array Value} {below : List Frame} {meth : Method} {c : Code} {D : va_G} {A : Nat → Prop} {k : Nat → ClassId} {N : Nat} {cd : Cond} {z mi : Nat} {aK aV : Nat → Nat} {g0 : Nat → Nat} {π0 : Sh}
set_option maxHeartbeats 8000000 in
set_option maxRecDepth 100000 in
theorem kl_Pc_useStep_42 {r : Sh × St × Int} (C : Cx p s m args c cX5_useStep RX5 (cd :: cWd) D (TYs k) 3) (hr : meth.sig.returnType = (some (.object "CycleStudio$Step"))) (hlk : meth.locks = false) (hE : Ev z mi aK aV A s s.heap)   {rec24 : Sh → St → Int → Int → Int → Option (Sh × St × Int)} (krec24 : ∀ {π : Sh} {σ : St} {x0 : Int} {x1 : Int} {x2 : Int}, Cl π σ → x0 < nn π → x1 < nn π → rec24 π σ x0 x1 x2 = some r → ext π r.1 ∧ Cl r.1 r.2.1 ∧ r.2.2 < nn r.1) (hrec24 : ∀ {ls : Array Slot} {H : Heap} {locs : List Loc} {g : Nat → Nat} {π : Sh} {σ : St} {x0 : Int} {x1 : Int} {x2 : Int}, Cl π σ → gx (nn π0) g0 g → ext π0 π → x0 < nn π → x1 < nn π → lv_has ls 3 [(0, rfv g x0), (1, rfv g x1), (2, .int (Int32.ofInt x2))] → Hp D A s.heap H locs (cW k z g π σ) → rec24 π σ x0 x1 x2 = some r → W p l e { frames := 3, cells := nn r.1 - nn π0, slots := sw r.1 - sw π0, locals := 103 } s m args below meth c H locs (nn π - nn π0) (sw π - sw π0) (MQ below (va_Qq (fun v u => gx (nn π0) g0 u ∧ v = rfo u r.2.2) (fun u t => PostW D (TYs k) A (cW k z u r.1 r.2.1) t) A) args s (nn r.1 - nn π0) (sw r.1 - sw π0) A) (F0 m 24 ls [])) {ls : Array Slot} {H : Heap} {locs : List Loc} {g : Nat → Nat} {π : Sh} {σ : St} {x0 : Int} {x1 : Int} {x2 : Int} {s0 : Int} (hC : Cl π σ) (hG : gx (nn π0) g0 g) (hX : ext π0 π) (hv_x0 : x0 < nn π) (hv_x1 : x1 < nn π) (hv_s0 : s0 < nn π) (hl : lv_has ls 3 [(0, rfv g x0), (1, rfv g x1), (2, .int (Int32.ofInt x2))]) (h : Hp D A s.heap H locs (cW k z g π σ)) (hm : Pc_useStep_42 N rec24 π σ x0 x1 x2 s0 = some r) : W p l e { frames := 3, cells := nn r.1 - nn π0, slots := sw r.1 - sw π0, locals := 103 } s m args below meth c H locs (nn π - nn π0) (sw π - sw π0) (MQ below (va_Qq (fun v u => gx (nn π0) g0 u ∧ v = rfo u r.2.2) (fun u t => PostW D (TYs k) A (cW k z u r.1 r.2.1) t) A) args s (nn r.1 - nn π0) (sw r.1 - sw π0) A) (F0 m 42 ls [rfv g s0]) := by
  have hS := hC.1
  have hq := km_Pc_useStep_42  krec24  hC hv_x0 hv_x1 hv_s0 hm
  rw [Pc_useStep_42] at hm
  refine lv_pop C.1 C.2.1 dX5_useStep_42 (rfv_cat _ _) ?_
  refine lv_iinc (v := Int32.ofInt (x2 + 1)) (lv' := [(2, .int (Int32.ofInt (x2 + 1))), (0, rfv g x0), (1, rfv g x1)]) C.1 C.2.1 dX5_useStep_43 hl (k := 2) rfl (c32_add _ _) (by decide) (by simp [rfv_cat, cat_i, cat_l]) (fun ls hl => ?_)
  refine lv_goto (tgt := 24) C.1 C.2.1 dX5_useStep_46 (by decide) ?_
  exact hrec24 hC hG hX hv_x0 hv_x1 (lv_sub hl [1, 2, 0] rfl) h hm
set_option maxHeartbeats 8000000 in
set_option maxRecDepth 100000 in
theorem kl_Pc_useStep_24 {r : Sh × St × Int} (C : Cx p s m args c cX5_useStep RX5 (cd :: cWd) D (TYs k) 3) (hr : meth.sig.returnType = (some (.object "CycleStudio$Step"))) (hlk : meth.locks = false) (hE : Ev z mi aK aV A s s.heap)    (n : Nat) : ∀ {ls : Array Slot} {H : Heap} {locs : List Loc} {g : Nat → Nat} {π : Sh} {σ : St} {x0 : Int} {x1 : Int} {x2 : Int}, Cl π σ → gx (nn π0) g0 g → ext π0 π → x0 < nn π → x1 < nn π → lv_has ls 3 [(0, rfv g x0), (1, rfv g x1), (2, .int (Int32.ofInt x2))] → Hp D A s.heap H locs (cW k z g π σ) → Pc_useStep_24 N n π σ x0 x1 x2 = some r → W p l e { frames := 3, cells := nn r.1 - nn π0, slots := sw r.1 - sw π0, locals := 103 } s m args below meth c H locs (nn π - nn π0) (sw π - sw π0) (MQ below (va_Qq (fun v u => gx (nn π0) g0 u ∧ v = rfo u r.2.2) (fun u t => PostW D (TYs k) A (cW k z u r.1 r.2.1) t) A) args s (nn r.1 - nn π0) (sw r.1 - sw π0) A) (F0 m 24 ls []) := by
  induction n with
  | zero => intro ls H locs g π σ x0 x1 x2 hC hG hX hv_x0 hv_x1 hl h hm; cases (show none = some r from hm)
  | succ n hrec24 =>
    intro ls H locs g π σ x0 x1 x2 hC hG hX hv_x0 hv_x1 hl h hm
    have hS := hC.1
    have hq := km_Pc_useStep_24   (n + 1) hC hv_x0 hv_x1 hm
    have krec24 : ∀ {π : Sh} {σ : St} {x0 : Int} {x1 : Int} {x2 : Int}, Cl π σ → x0 < nn π → x1 < nn π → Pc_useStep_24 N n π σ x0 x1 x2 = some r → ext π r.1 ∧ Cl r.1 r.2.1 ∧ r.2.2 < nn r.1 := fun {_ _} {_} {_} {_} => km_Pc_useStep_24   n
    rw [Pc_useStep_24] at hm
    refine lv_iload_n C.1 C.2.1 dX5_useStep_24 rfl (lv_at hl 2 rfl) ?_
    refine z_aload_n C dX5_useStep_25 rfl (lv_at hl 0 rfl) ?_
    obtain ⟨g9, hm⟩ := grd_s hm
    refine cg_6_10 C h g9 cU_X5 (List.mem_cons_of_mem _ wl_X5_37) dX5_useStep_26 ?_
    obtain ⟨g10, hm⟩ := grd_s hm
    obtain ⟨g11, hm⟩ := grd_s hm
    refine z_icmp_ge (tgt := 49) C dX5_useStep_29 (by decide) g10 g11 (fun c12 => ?_) (fun c12 => ?_)
    · have hm := ite_f c12 hm
      refine z_aload_n C dX5_useStep_49 rfl (lv_at hl 1 rfl) ?_
      cases hm
      exact c_aretA C hG h hr hlk (Or.inl ⟨_, rfl⟩) dX5_useStep_50
    · have hm := ite_t c12 hm
      refine z_aload_n C dX5_useStep_32 rfl (lv_at hl 1 rfl) ?_
      refine z_aload_n C dX5_useStep_33 rfl (lv_at hl 0 rfl) ?_
      refine cg_6_9 C h g9 cU_X5 (List.mem_cons_of_mem _ wl_X5_33) dX5_useStep_34 ?_
      refine lv_iload_n C.1 C.2.1 dX5_useStep_37 rfl (lv_at hl 2 rfl) ?_
      obtain ⟨g13, hm⟩ := grd_s hm
      obtain ⟨g14, hm⟩ := grd_s hm
      refine c_iald C h g13 g14 dX5_useStep_38 ?_
      obtain ⟨r15, e16, hm⟩ := obd_s hm
      have q17 := (km_Sp_give hC hv_x1 e16)
      obtain ⟨g18, hm⟩ := grd_s hm
      have q := km_Pc_useStep_42  krec24 q17.2.1 (lt_ext hv_x0 q17.1) (lt_ext hv_x1 q17.1) q17.2.2 hm
      refine c_callVqA C hE h g18 rfl (by decide) (kc_Sp_give l D k z mi aK aV g N hC hv_x1 e16) (cwV 1 C.2.2.1 (gS_X5_55 _) rfl rfl rfl hd_X9_give ⟨Nat.le_of_ble_eq_true rfl, Nat.le_of_ble_eq_true rfl⟩) rfl hl.1 rfl (Nat.le_of_ble_eq_true rfl) dX5_useStep_39 ⟨rcC hX q17.1 q.1, rsC hX q17.1 q.1⟩ (fun u H locs hg h => ?_)
      simp only [← gx_rfv hg hv_x0, ← gx_rfv hg hv_x1] at hl
      try simp only [← gx_rfv hg hv_x0, ← gx_rfv hg hv_x1]
      refine W_cast (wcC hX q17.1).symm (wsC hX q17.1).symm ?_
      exact kl_Pc_useStep_42 (N := N) C hr hlk hE  krec24 hrec24 q17.2.1 (hG.tr hg hX.1) (hX.tr q17.1) (lt_ext hv_x0 q17.1) (lt_ext hv_x1 q17.1) q17.2.2 (lv_sub hl [0, 1, 2] rfl) h hm
set_option maxHeartbeats 8000000 in
set_option maxRecDepth 100000 in
theorem kl_Pc_useStep_13 {r : Sh × St × Int} (C : Cx p s m args c cX5_useStep RX5 (cd :: cWd) D (TYs k) 3) (hr : meth.sig.returnType = (some (.object "CycleStudio$Step"))) (hlk : meth.locks = false) (hE : Ev z mi aK aV A s s.heap)    {ls : Array Slot} {H : Heap} {locs : List Loc} {g : Nat → Nat} {π : Sh} {σ : St} {x0 : Int} {s0 : Int} (hC : Cl π σ) (hG : gx (nn π0) g0 g) (hX : ext π0 π) (hv_x0 : x0 < nn π) (hv_s0 : s0 < nn π) (hl : lv_has ls 3 [(0, rfv g x0)]) (h : Hp D A s.heap H locs (cW k z g π σ)) (hm : Pc_useStep_13 N π σ x0 s0 = some r) : W p l e { frames := 3, cells := nn r.1 - nn π0, slots := sw r.1 - sw π0, locals := 103 } s m args below meth c H locs (nn π - nn π0) (sw π - sw π0) (MQ below (va_Qq (fun v u => gx (nn π0) g0 u ∧ v = rfo u r.2.2) (fun u t => PostW D (TYs k) A (cW k z u r.1 r.2.1) t) A) args s (nn r.1 - nn π0) (sw r.1 - sw π0) A) (F0 m 13 ls [rfv g s0]) := by
  have hS := hC.1
  have hq := km_Pc_useStep_13    hC hv_x0 hv_s0 hm
  rw [Pc_useStep_13] at hm
  refine z_astore_n (j := 1) (lv' := [(1, rfv g s0), (0, rfv g x0)]) C dX5_useStep_13 rfl hl (by decide) (by simp [rfv_cat, cat_i, cat_l]) (fun ls hl => ?_)
  refine z_aload_n C dX5_useStep_14 rfl (lv_at hl 0 rfl) ?_
  refine z_aload_n C dX5_useStep_15 rfl (lv_at hl 1 rfl) ?_
  obtain ⟨g7, hm⟩ := grd_s hm
  refine cg_6_8 C h g7 cU_X5 (List.mem_cons_of_mem _ wl_X5_29) dX5_useStep_16 ?_
  obtain ⟨g8, hm⟩ := grd_s hm
  refine cp_10_8 C h g8 cU_X9 (List.mem_cons_of_mem _ wl_X5_84) dX5_useStep_19 (fun H locs h => ?_)
  refine lv_iconst (v := Int32.ofInt 0) C.1 C.2.1 dX5_useStep_22 (by decide) ?_
  refine lv_istore_n (i := 2) (lv' := [(2, .int (Int32.ofInt 0)), (1, rfv g s0), (0, rfv g x0)]) C.1 C.2.1 dX5_useStep_23 rfl hl (by decide) (by simp [rfv_cat, cat_i, cat_l]) (fun ls hl => ?_)
  exact kl_Pc_useStep_24 (N := N) C hr hlk hE N (cl_sfR hC _ _ (cl_fl hC (f := 128) rfl x0)) hG hX hv_x0 hv_s0 (lv_sub hl [2, 1, 0] rfl) h hm
set_option maxHeartbeats 8000000 in
set_option maxRecDepth 100000 in
theorem kl_Pc_useStep_3 {r : Sh × St × Int} (C : Cx p s m args c cX5_useStep RX5 (cd :: cWd) D (TYs k) 3) (hr : meth.sig.returnType = (some (.object "CycleStudio$Step"))) (hlk : meth.locks = false) (hE : Ev z mi aK aV A s s.heap)    {ls : Array Slot} {H : Heap} {locs : List Loc} {g : Nat → Nat} {π : Sh} {σ : St} {x0 : Int} {s0 : Int} (hC : Cl π σ) (hG : gx (nn π0) g0 g) (hX : ext π0 π) (hv_x0 : x0 < nn π) (hv_s0 : s0 < nn π) (hl : lv_has ls 3 [(0, rfv g x0)]) (h : Hp D A s.heap H locs (cW k z g π σ)) (hm : Pc_useStep_3 N π σ x0 s0 = some r) : W p l e { frames := 3, cells := nn r.1 - nn π0, slots := sw r.1 - sw π0, locals := 103 } s m args below meth c H locs (nn π - nn π0) (sw π - sw π0) (MQ below (va_Qq (fun v u => gx (nn π0) g0 u ∧ v = rfo u r.2.2) (fun u t => PostW D (TYs k) A (cW k z u r.1 r.2.1) t) A) args s (nn r.1 - nn π0) (sw r.1 - sw π0) A) (F0 m 3 ls [rfv g s0]) := by
  have hS := hC.1
  have hq := km_Pc_useStep_3    hC hv_x0 hv_s0 hm
  rw [Pc_useStep_3] at hm
  refine lv_dup C.1 C.2.1 dX5_useStep_3 (rfv_cat _ _) ?_
  refine lv_bipush (v := Int32.ofInt 25) C.1 C.2.1 dX5_useStep_4 (by decide) ?_
  refine z_aload_n C dX5_useStep_6 rfl (lv_at hl 0 rfl) ?_
  obtain ⟨g2, hm⟩ := grd_s hm
  refine cg_6_1 C h g2 cU_X5 (List.mem_cons_of_mem _ wl_X5_43) dX5_useStep_7 ?_
  obtain ⟨r3, e4, hm⟩ := obd_s hm
  have q5 := (km_Sp_init hC hv_s0 e4)
  obtain ⟨g6, hm⟩ := grd_s hm
  have q := km_Pc_useStep_13   q5.2 (lt_ext hv_x0 q5.1) (lt_ext hv_s0 q5.1) hm
  refine c_callIvA C hE h g6 (kc_Sp_init l D k z mi aK aV g N hC hv_s0 e4) (cwI 2 C.2.2.1 (gC_X9_init _) rfl rfl rfl (C.2.2.1 _ (List.mem_cons_of_mem _ wt_X9)) (C.2.2.1 _ (List.mem_cons_of_mem _ wm_X5_65)) (C.2.2.1 _ (List.mem_cons_of_mem _ wj_X9_init)) rfl hdS_X9_init ⟨Nat.le_of_ble_eq_true rfl, Nat.le_of_ble_eq_true rfl⟩) rfl hl.1 rfl (by simp [rfv_cat, cat_i, cat_l]) dX5_useStep_10 ⟨rcC hX q5.1 q.1, rsC hX q5.1 q.1⟩ (fun u H locs hg h => ?_)
  simp only [← gx_rfv hg hv_x0, ← gx_rfv hg hv_s0] at hl
  try simp only [← gx_rfv hg hv_x0, ← gx_rfv hg hv_s0]
  refine W_cast (wcC hX q5.1).symm (wsC hX q5.1).symm ?_
  exact kl_Pc_useStep_13 (N := N) C hr hlk hE   q5.2 (hG.tr hg hX.1) (hX.tr q5.1) (lt_ext hv_x0 q5.1) (lt_ext hv_s0 q5.1) (lv_sub hl [0] rfl) h hm
set_option maxHeartbeats 8000000 in
set_option maxRecDepth 100000 in
theorem kc_Pc_useStep (l : Launch) (D : va_G) (k : Nat → ClassId) (z mi : Nat) (aK aV : Nat → Nat) (g : Nat → Nat) (N : Nat)    {π : Sh} {σ : St} {x0 : Int} {r : Sh × St × Int} (hC : Cl π σ) (hv_x0 : x0 < nn π) (hm : Pc_useStep N π σ x0 = some r) : Mq l yX5_useStep (.code yX5_useStep cX5_useStep 3 (some (.object "CycleStudio$Step")) :: cWd) { frames := 3, cells := nn r.1 - nn π, slots := sw r.1 - sw π, locals := 103 } [rfv g x0] D (TYs k) (cW k z g π σ) (XV z mi aK aV (cW k z g π σ)) (Nat → Nat) (fun v u => gx (nn π) g u ∧ v = rfo u r.2.2) (fun u => cW k z u r.1 r.2.1) (nn r.1 - nn π) (sw r.1 - sw π) := by
  have hS := hC.1
  have hq := km_Pc_useStep  hC hv_x0 hm
  intro sz
  refine v_met (cc := cX5_useStep) (maxL := 3) (ret := (some (.object "CycleStudio$Step"))) (lv := [(0, rfv g x0)]) (by decide) rfl (by simp [lg_sl, rfv_cat, cat_i, cat_l]) (by simp [lv_args, rfv_cat, cat_i, cat_l]) ?_
  intro p e s m below meth c ls C hE hr hlk hmn hl h
  generalize ([rfv g x0] : List Value).toArray = args at C ⊢
  have hG := gx.rf (nn π) g
  have hX := ext.rf π
  refine W_cast (Nat.sub_self (nn π)) (Nat.sub_self (sw π)) ?_
  rw [Pc_useStep] at hm
  have q := km_Pc_useStep_3   ((cl_nO hC (by decide) (by decide) _)) (lt_ext hv_x0 (ext_nO π 10 14)) lt_nO hm
  refine c_new C h hC (by decide) dX5_useStep_0 rfl cU_X9 tyX9_ok (List.mem_cons_of_mem _ wn_X5_50) (List.mem_cons_of_mem _ wi_X9) (List.mem_cons_of_mem _ wt_X9) (df_X9) (dn_X9 z) (rc1 hX q.1) (rs1 hX q.1) (fun u H hg h => ?_)
  simp only [← gx_rfv hg hv_x0] at hl
  try simp only [← gx_rfv hg hv_x0]
  refine W_cast (wcO (c := 10) (w := 14) hX).symm (wsO (c := 10) (w := 14) hX).symm ?_
  exact kl_Pc_useStep_3 (N := N) C hr hlk hE   ((cl_nO hC (by decide) (by decide) _)) (hG.tr hg hX.1) (hX.tr (ext_nO π 10 14)) (lt_ext hv_x0 (ext_nO π 10 14)) lt_nO (lv_sub hl [0] rfl) h hm
end Z_Pc_useStep
