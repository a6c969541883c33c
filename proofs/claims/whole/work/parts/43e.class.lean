section Z_Pc_apply
variable {p : Program} {l : Launch} {e : Env} {s : State} {m : MethodId} {args : Array Value} {below : List Frame} {meth : Method} {c : Code} {D : va_G} {A : Nat → Prop} {k : Nat → ClassId} {N : Nat} {cd : Cond} {z mi : Nat} {aK aV : Nat → Nat} {g0 : Nat → Nat} {π0 : Sh} {φ ψ : Nat}
set_option maxHeartbeats 8000000 in
set_option maxRecDepth 100000 in
theorem kl_Pc_apply_536 {r : Sh × St × Int} (C : Cx p s m args c cX5_apply RX5 (cd :: cWd) D (TYs k) 3) (hr : meth.sig.returnType = (some .int)) (hlk : meth.locks = false) (hE : Ev z mi aK aV A s s.heap) {rApply : Sh → St → Int → Int → Int → Option (Sh × St × Int)} (hφ : 20 ≤ φ) (hψ : 600 ≤ ψ) (hmrApply : ∀ {π : Sh} {σ : St} {y0 : Int} {y1 : Int} {y2 : Int} {r : Sh × St × Int}, Cl π σ → y0 < nn π → y1 < nn π → rApply π σ y0 y1 y2 = some r → ext π r.1 ∧ Cl r.1 r.2.1) (hcrApply : ∀ {g : Nat → Nat} {π : Sh} {σ : St} {y0 : Int} {y1 : Int} {y2 : Int} {r : Sh × St × Int}, Cl π σ → y0 < nn π → y1 < nn π → rApply π σ y0 y1 y2 = some r → Mi l yX5_apply (.code yX5_apply cX5_apply 3 (some .int) :: cWd) { frames := φ, cells := nn r.1 - nn π, slots := sw r.1 - sw π, locals := ψ } [rfv g y0, rfv g y1, .int (Int32.ofInt y2)] D (TYs k) (cW k z g π σ) (XV z mi aK aV (cW k z g π σ)) (Nat → Nat) (fun v u => gx (nn π) g u ∧ v = Int32.ofInt r.2.2) (fun u => cW k z u r.1 r.2.1) (nn r.1 - nn π) (sw r.1 - sw π))  {ls : Array Slot} {H : Heap} {locs : List Loc} {g : Nat → Nat} {π : Sh} {σ : St} {s0 : Int} (hC : Cl π σ) (hG : gx (nn π0) g0 g) (hX : ext π0 π)  (hl : lv_has ls 3 []) (h : Hp D A s.heap H locs (cW k z g π σ)) (hm : Pc_apply_536 N rApply π σ s0 = some r) : W p l e { frames := φ + 6, cells := nn r.1 - nn π0, slots := sw r.1 - sw π0, locals := ψ + 300 } s m args below meth c H locs (nn π - nn π0) (sw π - sw π0) (MQ below (va_Qi (fun v u => gx (nn π0) g0 u ∧ v = Int32.ofInt r.2.2) (fun u t => PostW D (TYs k) A (cW k z u r.1 r.2.1) t) A) args s (nn r.1 - nn π0) (sw r.1 - sw π0) A) (F0 m 536 ls [.int (Int32.ofInt s0)]) := by
  have hS := hC.1
  have hq := km_Pc_apply_536 hmrApply   hC  hm
  rw [Pc_apply_536] at hm
  cases hm
  exact c_iretA C hG h hr hlk dX5_apply_536 rfl
set_option maxHeartbeats 8000000 in
set_option maxRecDepth 100000 in
theorem kl_Pc_apply_145 {r : Sh × St × Int} (C : Cx p s m args c cX5_apply RX5 (cd :: cWd) D (TYs k) 3) (hr : meth.sig.returnType = (some .int)) (hlk : meth.locks = false) (hE : Ev z mi aK aV A s s.heap) {rApply : Sh → St → Int → Int → Int → Option (Sh × St × Int)} (hφ : 20 ≤ φ) (hψ : 600 ≤ ψ) (hmrApply : ∀ {π : Sh} {σ : St} {y0 : Int} {y1 : Int} {y2 : Int} {r : Sh × St × Int}, Cl π σ → y0 < nn π → y1 < nn π → rApply π σ y0 y1 y2 = some r → ext π r.1 ∧ Cl r.1 r.2.1) (hcrApply : ∀ {g : Nat → Nat} {π : Sh} {σ : St} {y0 : Int} {y1 : Int} {y2 : Int} {r : Sh × St × Int}, Cl π σ → y0 < nn π → y1 < nn π → rApply π σ y0 y1 y2 = some r → Mi l yX5_apply (.code yX5_apply cX5_apply 3 (some .int) :: cWd) { frames := φ, cells := nn r.1 - nn π, slots := sw r.1 - sw π, locals := ψ } [rfv g y0, rfv g y1, .int (Int32.ofInt y2)] D (TYs k) (cW k z g π σ) (XV z mi aK aV (cW k z g π σ)) (Nat → Nat) (fun v u => gx (nn π) g u ∧ v = Int32.ofInt r.2.2) (fun u => cW k z u r.1 r.2.1) (nn r.1 - nn π) (sw r.1 - sw π))  {ls : Array Slot} {H : Heap} {locs : List Loc} {g : Nat → Nat} {π : Sh} {σ : St} {s0 : Int} (hC : Cl π σ) (hG : gx (nn π0) g0 g) (hX : ext π0 π)  (hl : lv_has ls 3 []) (h : Hp D A s.heap H locs (cW k z g π σ)) (hm : Pc_apply_145 N rApply π σ s0 = some r) : W p l e { frames := φ + 6, cells := nn r.1 - nn π0, slots := sw r.1 - sw π0, locals := ψ + 300 } s m args below meth c H locs (nn π - nn π0) (sw π - sw π0) (MQ below (va_Qi (fun v u => gx (nn π0) g0 u ∧ v = Int32.ofInt r.2.2) (fun u t => PostW D (TYs k) A (cW k z u r.1 r.2.1) t) A) args s (nn r.1 - nn π0) (sw r.1 - sw π0) A) (F0 m 145 ls [.int (Int32.ofInt s0)]) := by
  have hS := hC.1
  have hq := km_Pc_apply_145 hmrApply   hC  hm
  rw [Pc_apply_145] at hm
  cases hm
  exact c_iretA C hG h hr hlk dX5_apply_145 rfl
set_option maxHeartbeats 8000000 in
set_option maxRecDepth 100000 in
theorem kl_Pc_apply_142 {r : Sh × St × Int} (C : Cx p s m args c cX5_apply RX5 (cd :: cWd) D (TYs k) 3) (hr : meth.sig.returnType = (some .int)) (hlk : meth.locks = false) (hE : Ev z mi aK aV A s s.heap) {rApply : Sh → St → Int → Int → Int → Option (Sh × St × Int)} (hφ : 20 ≤ φ) (hψ : 600 ≤ ψ) (hmrApply : ∀ {π : Sh} {σ : St} {y0 : Int} {y1 : Int} {y2 : Int} {r : Sh × St × Int}, Cl π σ → y0 < nn π → y1 < nn π → rApply π σ y0 y1 y2 = some r → ext π r.1 ∧ Cl r.1 r.2.1) (hcrApply : ∀ {g : Nat → Nat} {π : Sh} {σ : St} {y0 : Int} {y1 : Int} {y2 : Int} {r : Sh × St × Int}, Cl π σ → y0 < nn π → y1 < nn π → rApply π σ y0 y1 y2 = some r → Mi l yX5_apply (.code yX5_apply cX5_apply 3 (some .int) :: cWd) { frames := φ, cells := nn r.1 - nn π, slots := sw r.1 - sw π, locals := ψ } [rfv g y0, rfv g y1, .int (Int32.ofInt y2)] D (TYs k) (cW k z g π σ) (XV z mi aK aV (cW k z g π σ)) (Nat → Nat) (fun v u => gx (nn π) g u ∧ v = Int32.ofInt r.2.2) (fun u => cW k z u r.1 r.2.1) (nn r.1 - nn π) (sw r.1 - sw π))  {ls : Array Slot} {H : Heap} {locs : List Loc} {g : Nat → Nat} {π : Sh} {σ : St} {s0 : Int} {s1 : Int} (hC : Cl π σ) (hG : gx (nn π0) g0 g) (hX : ext π0 π) (hv_s0 : s0 < nn π) (hv_s1 : s1 < nn π) (hl : lv_has ls 3 []) (h : Hp D A s.heap H locs (cW k z g π σ)) (hm : Pc_apply_142 N rApply π σ s0 s1 = some r) : W p l e { frames := φ + 6, cells := nn r.1 - nn π0, slots := sw r.1 - sw π0, locals := ψ + 300 } s m args below meth c H locs (nn π - nn π0) (sw π - sw π0) (MQ below (va_Qi (fun v u => gx (nn π0) g0 u ∧ v = Int32.ofInt r.2.2) (fun u t => PostW D (TYs k) A (cW k z u r.1 r.2.1) t) A) args s (nn r.1 - nn π0) (sw r.1 - sw π0) A) (F0 m 142 ls [rfv g s0, rfv g s1]) := by
  have hS := hC.1
  have hq := km_Pc_apply_142 hmrApply   hC hv_s0 hv_s1 hm
  rw [Pc_apply_142] at hm
  obtain ⟨r215, e216, hm⟩ := obd_s hm
  have q217 := (km_Df_add hC hv_s1 hv_s0 e216)
  obtain ⟨g218, hm⟩ := grd_s hm
  have q := km_Pc_apply_145 hmrApply  q217.2  hm
  refine c_callViA C hE h g218 rfl (by decide) (kc_Df_add l D k z mi aK aV g N hC hv_s1 hv_s0 e216) (cwV 1 C.2.2.1 (gS_X5_59 _) rfl rfl rfl hd_X0_add ⟨(by show 7 + 1 ≤ φ + 6; omega), (by show 8 + (2 + 11) + 241 ≤ ψ + 300; omega)⟩) rfl hl.1 rfl (Nat.le_of_ble_eq_true rfl) dX5_apply_142 ⟨rcC hX q217.1 q.1, rsC hX q217.1 q.1⟩ (fun u H locs hg h => ?_)
  refine W_cast (wcC hX q217.1).symm (wsC hX q217.1).symm ?_
  exact kl_Pc_apply_145 (N := N) C hr hlk hE hφ hψ hmrApply hcrApply  q217.2 (hG.tr hg hX.1) (hX.tr q217.1)  (lv_sub hl [] rfl) h hm
set_option maxHeartbeats 8000000 in
set_option maxRecDepth 100000 in
theorem kl_Pc_apply_138 {r : Sh × St × Int} (C : Cx p s m args c cX5_apply RX5 (cd :: cWd) D (TYs k) 3) (hr : meth.sig.returnType = (some .int)) (hlk : meth.locks = false) (hE : Ev z mi aK aV A s s.heap) {rApply : Sh → St → Int → Int → Int → Option (Sh × St × Int)} (hφ : 20 ≤ φ) (hψ : 600 ≤ ψ) (hmrApply : ∀ {π : Sh} {σ : St} {y0 : Int} {y1 : Int} {y2 : Int} {r : Sh × St × Int}, Cl π σ → y0 < nn π → y1 < nn π → rApply π σ y0 y1 y2 = some r → ext π r.1 ∧ Cl r.1 r.2.1) (hcrApply : ∀ {g : Nat → Nat} {π : Sh} {σ : St} {y0 : Int} {y1 : Int} {y2 : Int} {r : Sh × St × Int}, Cl π σ → y0 < nn π → y1 < nn π → rApply π σ y0 y1 y2 = some r → Mi l yX5_apply (.code yX5_apply cX5_apply 3 (some .int) :: cWd) { frames := φ, cells := nn r.1 - nn π, slots := sw r.1 - sw π, locals := ψ } [rfv g y0, rfv g y1, .int (Int32.ofInt y2)] D (TYs k) (cW k z g π σ) (XV z mi aK aV (cW k z g π σ)) (Nat → Nat) (fun v u => gx (nn π) g u ∧ v = Int32.ofInt r.2.2) (fun u => cW k z u r.1 r.2.1) (nn r.1 - nn π) (sw r.1 - sw π))  {ls : Array Slot} {H : Heap} {locs : List Loc} {g : Nat → Nat} {π : Sh} {σ : St} {x2 : Int} {s0 : Int} {s1 : Int} (hC : Cl π σ) (hG : gx (nn π0) g0 g) (hX : ext π0 π) (hv_s0 : s0 < nn π) (hv_s1 : s1 < nn π) (hl : lv_has ls 3 [(2, .int (Int32.ofInt x2))]) (h : Hp D A s.heap H locs (cW k z g π σ)) (hm : Pc_apply_138 N rApply π σ x2 s0 s1 = some r) : W p l e { frames := φ + 6, cells := nn r.1 - nn π0, slots := sw r.1 - sw π0, locals := ψ + 300 } s m args below meth c H locs (nn π - nn π0) (sw π - sw π0) (MQ below (va_Qi (fun v u => gx (nn π0) g0 u ∧ v = Int32.ofInt r.2.2) (fun u t => PostW D (TYs k) A (cW k z u r.1 r.2.1) t) A) args s (nn r.1 - nn π0) (sw r.1 - sw π0) A) (F0 m 138 ls [rfv g s0, rfv g s1]) := by
  have hS := hC.1
  have hq := km_Pc_apply_138 hmrApply   hC hv_s0 hv_s1 hm
  rw [Pc_apply_138] at hm
  refine lv_iload_n C.1 C.2.1 dX5_apply_138 rfl (lv_at hl 0 rfl) ?_
  obtain ⟨r149, e150, hm⟩ := obd_s hm
  have q151 := (km_Sp_give hC hv_s0 e150)
  obtain ⟨g152, hm⟩ := grd_s hm
  have q := km_Pc_apply_142 hmrApply  q151.2.1 q151.2.2 (lt_ext hv_s1 q151.1) hm
  refine c_callVqA C hE h g152 rfl (by decide) (kc_Sp_give l D k z mi aK aV g N hC hv_s0 e150) (cwV 1 C.2.2.1 (gS_X5_55 _) rfl rfl rfl hd_X9_give ⟨(by show 2 + 1 ≤ φ + 6; omega), (by show 8 + (2 + 11) + 82 ≤ ψ + 300; omega)⟩) rfl hl.1 rfl (by simp [rfv_cat, cat_i, cat_l]) dX5_apply_139 ⟨rcC hX q151.1 q.1, rsC hX q151.1 q.1⟩ (fun u H locs hg h => ?_)
  try simp only [← gx_rfv hg hv_s1]
  refine W_cast (wcC hX q151.1).symm (wsC hX q151.1).symm ?_
  exact kl_Pc_apply_142 (N := N) C hr hlk hE hφ hψ hmrApply hcrApply  q151.2.1 (hG.tr hg hX.1) (hX.tr q151.1) q151.2.2 (lt_ext hv_s1 q151.1) (lv_sub hl [] rfl) h hm
set_option maxHeartbeats 8000000 in
set_option maxRecDepth 100000 in
theorem kl_Pc_apply_120 {r : Sh × St × Int} (C : Cx p s m args c cX5_apply RX5 (cd :: cWd) D (TYs k) 3) (hr : meth.sig.returnType = (some .int)) (hlk : meth.locks = false) (hE : Ev z mi aK aV A s s.heap) {rApply : Sh → St → Int → Int → Int → Option (Sh × St × Int)} (hφ : 20 ≤ φ) (hψ : 600 ≤ ψ) (hmrApply : ∀ {π : Sh} {σ : St} {y0 : Int} {y1 : Int} {y2 : Int} {r : Sh × St × Int}, Cl π σ → y0 < nn π → y1 < nn π → rApply π σ y0 y1 y2 = some r → ext π r.1 ∧ Cl r.1 r.2.1) (hcrApply : ∀ {g : Nat → Nat} {π : Sh} {σ : St} {y0 : Int} {y1 : Int} {y2 : Int} {r : Sh × St × Int}, Cl π σ → y0 < nn π → y1 < nn π → rApply π σ y0 y1 y2 = some r → Mi l yX5_apply (.code yX5_apply cX5_apply 3 (some .int) :: cWd) { frames := φ, cells := nn r.1 - nn π, slots := sw r.1 - sw π, locals := ψ } [rfv g y0, rfv g y1, .int (Int32.ofInt y2)] D (TYs k) (cW k z g π σ) (XV z mi aK aV (cW k z g π σ)) (Nat → Nat) (fun v u => gx (nn π) g u ∧ v = Int32.ofInt r.2.2) (fun u => cW k z u r.1 r.2.1) (nn r.1 - nn π) (sw r.1 - sw π))  {ls : Array Slot} {H : Heap} {locs : List Loc} {g : Nat → Nat} {π : Sh} {σ : St} {x0 : Int} {x2 : Int} {s0 : Int} {s1 : Int} (hC : Cl π σ) (hG : gx (nn π0) g0 g) (hX : ext π0 π) (hv_x0 : x0 < nn π) (hv_s0 : s0 < nn π) (hv_s1 : s1 < nn π) (hl : lv_has ls 3 [(0, rfv g x0), (2, .int (Int32.ofInt x2))]) (h : Hp D A s.heap H locs (cW k z g π σ)) (hm : Pc_apply_120 N rApply π σ x0 x2 s0 s1 = some r) : W p l e { frames := φ + 6, cells := nn r.1 - nn π0, slots := sw r.1 - sw π0, locals := ψ + 300 } s m args below meth c H locs (nn π - nn π0) (sw π - sw π0) (MQ below (va_Qi (fun v u => gx (nn π0) g0 u ∧ v = Int32.ofInt r.2.2) (fun u t => PostW D (TYs k) A (cW k z u r.1 r.2.1) t) A) args s (nn r.1 - nn π0) (sw r.1 - sw π0) A) (F0 m 120 ls [rfv g s0, rfv g s1]) := by
  have hS := hC.1
  have hq := km_Pc_apply_120 hmrApply   hC hv_x0 hv_s0 hv_s1 hm
  rw [Pc_apply_120] at hm
  refine lv_dup C.1 C.2.1 dX5_apply_120 (rfv_cat _ _) ?_
  refine lv_bipush (v := Int32.ofInt 9) C.1 C.2.1 dX5_apply_121 (by decide) ?_
  refine z_aload_n C dX5_apply_123 rfl (lv_at hl 0 rfl) ?_
  obtain ⟨g76, hm⟩ := grd_s hm
  refine cg_6_1 C h g76 cU_X5 (List.mem_cons_of_mem _ wl_X5_43) dX5_apply_124 ?_
  refine z_aload_n C dX5_apply_127 rfl (lv_at hl 0 rfl) ?_
  refine cg_6_2 C h g76 cU_X5 (List.mem_cons_of_mem _ wl_X5_7) dX5_apply_128 ?_
  refine z_aload_n C dX5_apply_131 rfl (lv_at hl 0 rfl) ?_
  refine cg_6_3 C h g76 cU_X5 (List.mem_cons_of_mem _ wl_X5_13) dX5_apply_132 ?_
  obtain ⟨r77, e78, hm⟩ := obd_s hm
  have q79 := (km_Sp_initB hC hv_s0 e78)
  obtain ⟨g80, hm⟩ := grd_s hm
  have q := km_Pc_apply_138 hmrApply  q79.2 (lt_ext hv_s0 q79.1) (lt_ext hv_s1 q79.1) hm
  refine c_callIvA C hE h g80 (kc_Sp_initB l D k z mi aK aV g N hC hv_s0 e78) (cwI 4 C.2.2.1 (gC_X9_init_ _) rfl rfl rfl (C.2.2.1 _ (List.mem_cons_of_mem _ wt_X9)) (C.2.2.1 _ (List.mem_cons_of_mem _ wm_X5_52)) (C.2.2.1 _ (List.mem_cons_of_mem _ wj_X9_init_)) rfl hdS_X9_init_ ⟨(by show 1 + 1 ≤ φ + 6; omega), (by show 8 + (5 + 11) + 30 ≤ ψ + 300; omega)⟩) rfl hl.1 rfl (by simp [rfv_cat, cat_i, cat_l]) dX5_apply_135 ⟨rcC hX q79.1 q.1, rsC hX q79.1 q.1⟩ (fun u H locs hg h => ?_)
  simp only [← gx_rfv hg hv_x0, ← gx_rfv hg hv_s0, ← gx_rfv hg hv_s1] at hl
  try simp only [← gx_rfv hg hv_x0, ← gx_rfv hg hv_s0, ← gx_rfv hg hv_s1]
  refine W_cast (wcC hX q79.1).symm (wsC hX q79.1).symm ?_
  exact kl_Pc_apply_138 (N := N) C hr hlk hE hφ hψ hmrApply hcrApply  q79.2 (hG.tr hg hX.1) (hX.tr q79.1) (lt_ext hv_s0 q79.1) (lt_ext hv_s1 q79.1) (lv_sub hl [1] rfl) h hm
set_option maxHeartbeats 8000000 in
set_option maxRecDepth 100000 in
theorem kl_Pc_apply_175 {r : Sh × St × Int} (C : Cx p s m args c cX5_apply RX5 (cd :: cWd) D (TYs k) 3) (hr : meth.sig.returnType = (some .int)) (hlk : meth.locks = false) (hE : Ev z mi aK aV A s s.heap) {rApply : Sh → St → Int → Int → Int → Option (Sh × St × Int)} (hφ : 20 ≤ φ) (hψ : 600 ≤ ψ) (hmrApply : ∀ {π : Sh} {σ : St} {y0 : Int} {y1 : Int} {y2 : Int} {r : Sh × St × Int}, Cl π σ → y0 < nn π → y1 < nn π → rApply π σ y0 y1 y2 = some r → ext π r.1 ∧ Cl r.1 r.2.1) (hcrApply : ∀ {g : Nat → Nat} {π : Sh} {σ : St} {y0 : Int} {y1 : Int} {y2 : Int} {r : Sh × St × Int}, Cl π σ → y0 < nn π → y1 < nn π → rApply π σ y0 y1 y2 = some r → Mi l yX5_apply (.code yX5_apply cX5_apply 3 (some .int) :: cWd) { frames := φ, cells := nn r.1 - nn π, slots := sw r.1 - sw π, locals := ψ } [rfv g y0, rfv g y1, .int (Int32.ofInt y2)] D (TYs k) (cW k z g π σ) (XV z mi aK aV (cW k z g π σ)) (Nat → Nat) (fun v u => gx (nn π) g u ∧ v = Int32.ofInt r.2.2) (fun u => cW k z u r.1 r.2.1) (nn r.1 - nn π) (sw r.1 - sw π))  {ls : Array Slot} {H : Heap} {locs : List Loc} {g : Nat → Nat} {π : Sh} {σ : St} {s0 : Int} (hC : Cl π σ) (hG : gx (nn π0) g0 g) (hX : ext π0 π)  (hl : lv_has ls 3 []) (h : Hp D A s.heap H locs (cW k z g π σ)) (hm : Pc_apply_175 N rApply π σ s0 = some r) : W p l e { frames := φ + 6, cells := nn r.1 - nn π0, slots := sw r.1 - sw π0, locals := ψ + 300 } s m args below meth c H locs (nn π - nn π0) (sw π - sw π0) (MQ below (va_Qi (fun v u => gx (nn π0) g0 u ∧ v = Int32.ofInt r.2.2) (fun u t => PostW D (TYs k) A (cW k z u r.1 r.2.1) t) A) args s (nn r.1 - nn π0) (sw r.1 - sw π0) A) (F0 m 175 ls [.int (Int32.ofInt s0)]) := by
  have hS := hC.1
  have hq := km_Pc_apply_175 hmrApply   hC  hm
  rw [Pc_apply_175] at hm
  cases hm
  exact c_iretA C hG h hr hlk dX5_apply_175 rfl
set_option maxHeartbeats 8000000 in
set_option maxRecDepth 100000 in
theorem kl_Pc_apply_172 {r : Sh × St × Int} (C : Cx p s m args c cX5_apply RX5 (cd :: cWd) D (TYs k) 3) (hr : meth.sig.returnType = (some .int)) (hlk : meth.locks = false) (hE : Ev z mi aK aV A s s.heap) {rApply : Sh → St → Int → Int → Int → Option (Sh × St × Int)} (hφ : 20 ≤ φ) (hψ : 600 ≤ ψ) (hmrApply : ∀ {π : Sh} {σ : St} {y0 : Int} {y1 : Int} {y2 : Int} {r : Sh × St × Int}, Cl π σ → y0 < nn π → y1 < nn π → rApply π σ y0 y1 y2 = some r → ext π r.1 ∧ Cl r.1 r.2.1) (hcrApply : ∀ {g : Nat → Nat} {π : Sh} {σ : St} {y0 : Int} {y1 : Int} {y2 : Int} {r : Sh × St × Int}, Cl π σ → y0 < nn π → y1 < nn π → rApply π σ y0 y1 y2 = some r → Mi l yX5_apply (.code yX5_apply cX5_apply 3 (some .int) :: cWd) { frames := φ, cells := nn r.1 - nn π, slots := sw r.1 - sw π, locals := ψ } [rfv g y0, rfv g y1, .int (Int32.ofInt y2)] D (TYs k) (cW k z g π σ) (XV z mi aK aV (cW k z g π σ)) (Nat → Nat) (fun v u => gx (nn π) g u ∧ v = Int32.ofInt r.2.2) (fun u => cW k z u r.1 r.2.1) (nn r.1 - nn π) (sw r.1 - sw π))  {ls : Array Slot} {H : Heap} {locs : List Loc} {g : Nat → Nat} {π : Sh} {σ : St} {s0 : Int} {s1 : Int} (hC : Cl π σ) (hG : gx (nn π0) g0 g) (hX : ext π0 π) (hv_s0 : s0 < nn π) (hv_s1 : s1 < nn π) (hl : lv_has ls 3 []) (h : Hp D A s.heap H locs (cW k z g π σ)) (hm : Pc_apply_172 N rApply π σ s0 s1 = some r) : W p l e { frames := φ + 6, cells := nn r.1 - nn π0, slots := sw r.1 - sw π0, locals := ψ + 300 } s m args below meth c H locs (nn π - nn π0) (sw π - sw π0) (MQ below (va_Qi (fun v u => gx (nn π0) g0 u ∧ v = Int32.ofInt r.2.2) (fun u t => PostW D (TYs k) A (cW k z u r.1 r.2.1) t) A) args s (nn r.1 - nn π0) (sw r.1 - sw π0) A) (F0 m 172 ls [rfv g s0, rfv g s1]) := by
  have hS := hC.1
  have hq := km_Pc_apply_172 hmrApply   hC hv_s0 hv_s1 hm
  rw [Pc_apply_172] at hm
  obtain ⟨r219, e220, hm⟩ := obd_s hm
  have q221 := (km_Df_add hC hv_s1 hv_s0 e220)
  obtain ⟨g222, hm⟩ := grd_s hm
  have q := km_Pc_apply_175 hmrApply  q221.2  hm
  refine c_callViA C hE h g222 rfl (by decide) (kc_Df_add l D k z mi aK aV g N hC hv_s1 hv_s0 e220) (cwV 1 C.2.2.1 (gS_X5_59 _) rfl rfl rfl hd_X0_add ⟨(by show 7 + 1 ≤ φ + 6; omega), (by show 8 + (2 + 11) + 241 ≤ ψ + 300; omega)⟩) rfl hl.1 rfl (Nat.le_of_ble_eq_true rfl) dX5_apply_172 ⟨rcC hX q221.1 q.1, rsC hX q221.1 q.1⟩ (fun u H locs hg h => ?_)
  refine W_cast (wcC hX q221.1).symm (wsC hX q221.1).symm ?_
  exact kl_Pc_apply_175 (N := N) C hr hlk hE hφ hψ hmrApply hcrApply  q221.2 (hG.tr hg hX.1) (hX.tr q221.1)  (lv_sub hl [] rfl) h hm
set_option maxHeartbeats 8000000 in
set_option maxRecDepth 100000 in
theorem kl_Pc_apply_168 {r : Sh × St × Int} (C : Cx p s m args c cX5_apply RX5 (cd :: cWd) D (TYs k) 3) (hr : meth.sig.returnType = (some .int)) (hlk : meth.locks = false) (hE : Ev z mi aK aV A s s.heap) {rApply : Sh → St → Int → Int → Int → Option (Sh × St × Int)} (hφ : 20 ≤ φ) (hψ : 600 ≤ ψ) (hmrApply : ∀ {π : Sh} {σ : St} {y0 : Int} {y1 : Int} {y2 : Int} {r : Sh × St × Int}, Cl π σ → y0 < nn π → y1 < nn π → rApply π σ y0 y1 y2 = some r → ext π r.1 ∧ Cl r.1 r.2.1) (hcrApply : ∀ {g : Nat → Nat} {π : Sh} {σ : St} {y0 : Int} {y1 : Int} {y2 : Int} {r : Sh × St × Int}, Cl π σ → y0 < nn π → y1 < nn π → rApply π σ y0 y1 y2 = some r → Mi l yX5_apply (.code yX5_apply cX5_apply 3 (some .int) :: cWd) { frames := φ, cells := nn r.1 - nn π, slots := sw r.1 - sw π, locals := ψ } [rfv g y0, rfv g y1, .int (Int32.ofInt y2)] D (TYs k) (cW k z g π σ) (XV z mi aK aV (cW k z g π σ)) (Nat → Nat) (fun v u => gx (nn π) g u ∧ v = Int32.ofInt r.2.2) (fun u => cW k z u r.1 r.2.1) (nn r.1 - nn π) (sw r.1 - sw π))  {ls : Array Slot} {H : Heap} {locs : List Loc} {g : Nat → Nat} {π : Sh} {σ : St} {x2 : Int} {s0 : Int} {s1 : Int} (hC : Cl π σ) (hG : gx (nn π0) g0 g) (hX : ext π0 π) (hv_s0 : s0 < nn π) (hv_s1 : s1 < nn π) (hl : lv_has ls 3 [(2, .int (Int32.ofInt x2))]) (h : Hp D A s.heap H locs (cW k z g π σ)) (hm : Pc_apply_168 N rApply π σ x2 s0 s1 = some r) : W p l e { frames := φ + 6, cells := nn r.1 - nn π0, slots := sw r.1 - sw π0, locals := ψ + 300 } s m args below meth c H locs (nn π - nn π0) (sw π - sw π0) (MQ below (va_Qi (fun v u => gx (nn π0) g0 u ∧ v = Int32.ofInt r.2.2) (fun u t => PostW D (TYs k) A (cW k z u r.1 r.2.1) t) A) args s (nn r.1 - nn π0) (sw r.1 - sw π0) A) (F0 m 168 ls [rfv g s0, rfv g s1]) := by
  have hS := hC.1
  have hq := km_Pc_apply_168 hmrApply   hC hv_s0 hv_s1 hm
  rw [Pc_apply_168] at hm
  refine lv_iload_n C.1 C.2.1 dX5_apply_168 rfl (lv_at hl 0 rfl) ?_
  obtain ⟨r153, e154, hm⟩ := obd_s hm
  have q155 := (km_Sp_give hC hv_s0 e154)
  obtain ⟨g156, hm⟩ := grd_s hm
  have q := km_Pc_apply_172 hmrApply  q155.2.1 q155.2.2 (lt_ext hv_s1 q155.1) hm
  refine c_callVqA C hE h g156 rfl (by decide) (kc_Sp_give l D k z mi aK aV g N hC hv_s0 e154) (cwV 1 C.2.2.1 (gS_X5_55 _) rfl rfl rfl hd_X9_give ⟨(by show 2 + 1 ≤ φ + 6; omega), (by show 8 + (2 + 11) + 82 ≤ ψ + 300; omega)⟩) rfl hl.1 rfl (by simp [rfv_cat, cat_i, cat_l]) dX5_apply_169 ⟨rcC hX q155.1 q.1, rsC hX q155.1 q.1⟩ (fun u H locs hg h => ?_)
  try simp only [← gx_rfv hg hv_s1]
  refine W_cast (wcC hX q155.1).symm (wsC hX q155.1).symm ?_
  exact kl_Pc_apply_172 (N := N) C hr hlk hE hφ hψ hmrApply hcrApply  q155.2.1 (hG.tr hg hX.1) (hX.tr q155.1) q155.2.2 (lt_ext hv_s1 q155.1) (lv_sub hl [] rfl) h hm
set_option maxHeartbeats 8000000 in
set_option maxRecDepth 100000 in
theorem kl_Pc_apply_150 {r : Sh × St × Int} (C : Cx p s m args c cX5_apply RX5 (cd :: cWd) D (TYs k) 3) (hr : meth.sig.returnType = (some .int)) (hlk : meth.locks = false) (hE : Ev z mi aK aV A s s.heap) {rApply : Sh → St → Int → Int → Int → Option (Sh × St × Int)} (hφ : 20 ≤ φ) (hψ : 600 ≤ ψ) (hmrApply : ∀ {π : Sh} {σ : St} {y0 : Int} {y1 : Int} {y2 : Int} {r : Sh × St × Int}, Cl π σ → y0 < nn π → y1 < nn π → rApply π σ y0 y1 y2 = some r → ext π r.1 ∧ Cl r.1 r.2.1) (hcrApply : ∀ {g : Nat → Nat} {π : Sh} {σ : St} {y0 : Int} {y1 : Int} {y2 : Int} {r : Sh × St × Int}, Cl π σ → y0 < nn π → y1 < nn π → rApply π σ y0 y1 y2 = some r → Mi l yX5_apply (.code yX5_apply cX5_apply 3 (some .int) :: cWd) { frames := φ, cells := nn r.1 - nn π, slots := sw r.1 - sw π, locals := ψ } [rfv g y0, rfv g y1, .int (Int32.ofInt y2)] D (TYs k) (cW k z g π σ) (XV z mi aK aV (cW k z g π σ)) (Nat → Nat) (fun v u => gx (nn π) g u ∧ v = Int32.ofInt r.2.2) (fun u => cW k z u r.1 r.2.1) (nn r.1 - nn π) (sw r.1 - sw π))  {ls : Array Slot} {H : Heap} {locs : List Loc} {g : Nat → Nat} {π : Sh} {σ : St} {x0 : Int} {x2 : Int} {s0 : Int} {s1 : Int} (hC : Cl π σ) (hG : gx (nn π0) g0 g) (hX : ext π0 π) (hv_x0 : x0 < nn π) (hv_s0 : s0 < nn π) (hv_s1 : s1 < nn π) (hl : lv_has ls 3 [(0, rfv g x0), (2, .int (Int32.ofInt x2))]) (h : Hp D A s.heap H locs (cW k z g π σ)) (hm : Pc_apply_150 N rApply π σ x0 x2 s0 s1 = some r) : W p l e { frames := φ + 6, cells := nn r.1 - nn π0, slots := sw r.1 - sw π0, locals := ψ + 300 } s m args below meth c H locs (nn π - nn π0) (sw π - sw π0) (MQ below (va_Qi (fun v u => gx (nn π0) g0 u ∧ v = Int32.ofInt r.2.2) (fun u t => PostW D (TYs k) A (cW k z u r.1 r.2.1) t) A) args s (nn r.1 - nn π0) (sw r.1 - sw π0) A) (F0 m 150 ls [rfv g s0, rfv g s1]) := by
  have hS := hC.1
  have hq := km_Pc_apply_150 hmrApply   hC hv_x0 hv_s0 hv_s1 hm
  rw [Pc_apply_150] at hm
  refine lv_dup C.1 C.2.1 dX5_apply_150 (rfv_cat _ _) ?_
  refine lv_bipush (v := Int32.ofInt 9) C.1 C.2.1 dX5_apply_151 (by decide) ?_
  refine z_aload_n C dX5_apply_153 rfl (lv_at hl 0 rfl) ?_
  obtain ⟨g81, hm⟩ := grd_s hm
  refine cg_6_1 C h g81 cU_X5 (List.mem_cons_of_mem _ wl_X5_43) dX5_apply_154 ?_
  refine z_aload_n C dX5_apply_157 rfl (lv_at hl 0 rfl) ?_
  refine cg_6_3 C h g81 cU_X5 (List.mem_cons_of_mem _ wl_X5_13) dX5_apply_158 ?_
  refine z_aload_n C dX5_apply_161 rfl (lv_at hl 0 rfl) ?_
  refine cg_6_2 C h g81 cU_X5 (List.mem_cons_of_mem _ wl_X5_7) dX5_apply_162 ?_
  obtain ⟨r82, e83, hm⟩ := obd_s hm
  have q84 := (km_Sp_initB hC hv_s0 e83)
  obtain ⟨g85, hm⟩ := grd_s hm
  have q := km_Pc_apply_168 hmrApply  q84.2 (lt_ext hv_s0 q84.1) (lt_ext hv_s1 q84.1) hm
  refine c_callIvA C hE h g85 (kc_Sp_initB l D k z mi aK aV g N hC hv_s0 e83) (cwI 4 C.2.2.1 (gC_X9_init_ _) rfl rfl rfl (C.2.2.1 _ (List.mem_cons_of_mem _ wt_X9)) (C.2.2.1 _ (List.mem_cons_of_mem _ wm_X5_52)) (C.2.2.1 _ (List.mem_cons_of_mem _ wj_X9_init_)) rfl hdS_X9_init_ ⟨(by show 1 + 1 ≤ φ + 6; omega), (by show 8 + (5 + 11) + 30 ≤ ψ + 300; omega)⟩) rfl hl.1 rfl (by simp [rfv_cat, cat_i, cat_l]) dX5_apply_165 ⟨rcC hX q84.1 q.1, rsC hX q84.1 q.1⟩ (fun u H locs hg h => ?_)
  simp only [← gx_rfv hg hv_x0, ← gx_rfv hg hv_s0, ← gx_rfv hg hv_s1] at hl
  try simp only [← gx_rfv hg hv_x0, ← gx_rfv hg hv_s0, ← gx_rfv hg hv_s1]
  refine W_cast (wcC hX q84.1).symm (wsC hX q84.1).symm ?_
  exact kl_Pc_apply_168 (N := N) C hr hlk hE hφ hψ hmrApply hcrApply  q84.2 (hG.tr hg hX.1) (hX.tr q84.1) (lt_ext hv_s0 q84.1) (lt_ext hv_s1 q84.1) (lv_sub hl [1] rfl) h hm
set_option maxHeartbeats 8000000 in
set_option maxRecDepth 100000 in
theorem kl_Pc_apply_205 {r : Sh × St × Int} (C : Cx p s m args c cX5_apply RX5 (cd :: cWd) D (TYs k) 3) (hr : meth.sig.returnType = (some .int)) (hlk : meth.locks = false) (hE : Ev z mi aK aV A s s.heap) {rApply : Sh → St → Int → Int → Int → Option (Sh × St × Int)} (hφ : 20 ≤ φ) (hψ : 600 ≤ ψ) (hmrApply : ∀ {π : Sh} {σ : St} {y0 : Int} {y1 : Int} {y2 : Int} {r : Sh × St × Int}, Cl π σ → y0 < nn π → y1 < nn π → rApply π σ y0 y1 y2 = some r → ext π r.1 ∧ Cl r.1 r.2.1) (hcrApply : ∀ {g : Nat → Nat} {π : Sh} {σ : St} {y0 : Int} {y1 : Int} {y2 : Int} {r : Sh × St × Int}, Cl π σ → y0 < nn π → y1 < nn π → rApply π σ y0 y1 y2 = some r → Mi l yX5_apply (.code yX5_apply cX5_apply 3 (some .int) :: cWd) { frames := φ, cells := nn r.1 - nn π, slots := sw r.1 - sw π, locals := ψ } [rfv g y0, rfv g y1, .int (Int32.ofInt y2)] D (TYs k) (cW k z g π σ) (XV z mi aK aV (cW k z g π σ)) (Nat → Nat) (fun v u => gx (nn π) g u ∧ v = Int32.ofInt r.2.2) (fun u => cW k z u r.1 r.2.1) (nn r.1 - nn π) (sw r.1 - sw π))  {ls : Array Slot} {H : Heap} {locs : List Loc} {g : Nat → Nat} {π : Sh} {σ : St} {s0 : Int} (hC : Cl π σ) (hG : gx (nn π0) g0 g) (hX : ext π0 π)  (hl : lv_has ls 3 []) (h : Hp D A s.heap H locs (cW k z g π σ)) (hm : Pc_apply_205 N rApply π σ s0 = some r) : W p l e { frames := φ + 6, cells := nn r.1 - nn π0, slots := sw r.1 - sw π0, locals := ψ + 300 } s m args below meth c H locs (nn π - nn π0) (sw π - sw π0) (MQ below (va_Qi (fun v u => gx (nn π0) g0 u ∧ v = Int32.ofInt r.2.2) (fun u t => PostW D (TYs k) A (cW k z u r.1 r.2.1) t) A) args s (nn r.1 - nn π0) (sw r.1 - sw π0) A) (F0 m 205 ls [.int (Int32.ofInt s0)]) := by
  have hS := hC.1
  have hq := km_Pc_apply_205 hmrApply   hC  hm
  rw [Pc_apply_205] at hm
  cases hm
  exact c_iretA C hG h hr hlk dX5_apply_205 rfl
set_option maxHeartbeats 8000000 in
set_option maxRecDepth 100000 in
theorem kl_Pc_apply_202 {r : Sh × St × Int} (C : Cx p s m args c cX5_apply RX5 (cd :: cWd) D (TYs k) 3) (hr : meth.sig.returnType = (some .int)) (hlk : meth.locks = false) (hE : Ev z mi aK aV A s s.heap) {rApply : Sh → St → Int → Int → Int → Option (Sh × St × Int)} (hφ : 20 ≤ φ) (hψ : 600 ≤ ψ) (hmrApply : ∀ {π : Sh} {σ : St} {y0 : Int} {y1 : Int} {y2 : Int} {r : Sh × St × Int}, Cl π σ → y0 < nn π → y1 < nn π → rApply π σ y0 y1 y2 = some r → ext π r.1 ∧ Cl r.1 r.2.1) (hcrApply : ∀ {g : Nat → Nat} {π : Sh} {σ : St} {y0 : Int} {y1 : Int} {y2 : Int} {r : Sh × St × Int}, Cl π σ → y0 < nn π → y1 < nn π → rApply π σ y0 y1 y2 = some r → Mi l yX5_apply (.code yX5_apply cX5_apply 3 (some .int) :: cWd) { frames := φ, cells := nn r.1 - nn π, slots := sw r.1 - sw π, locals := ψ } [rfv g y0, rfv g y1, .int (Int32.ofInt y2)] D (TYs k) (cW k z g π σ) (XV z mi aK aV (cW k z g π σ)) (Nat → Nat) (fun v u => gx (nn π) g u ∧ v = Int32.ofInt r.2.2) (fun u => cW k z u r.1 r.2.1) (nn r.1 - nn π) (sw r.1 - sw π))  {ls : Array Slot} {H : Heap} {locs : List Loc} {g : Nat → Nat} {π : Sh} {σ : St} {s0 : Int} {s1 : Int} (hC : Cl π σ) (hG : gx (nn π0) g0 g) (hX : ext π0 π) (hv_s0 : s0 < nn π) (hv_s1 : s1 < nn π) (hl : lv_has ls 3 []) (h : Hp D A s.heap H locs (cW k z g π σ)) (hm : Pc_apply_202 N rApply π σ s0 s1 = some r) : W p l e { frames := φ + 6, cells := nn r.1 - nn π0, slots := sw r.1 - sw π0, locals := ψ + 300 } s m args below meth c H locs (nn π - nn π0) (sw π - sw π0) (MQ below (va_Qi (fun v u => gx (nn π0) g0 u ∧ v = Int32.ofInt r.2.2) (fun u t => PostW D (TYs k) A (cW k z u r.1 r.2.1) t) A) args s (nn r.1 - nn π0) (sw r.1 - sw π0) A) (F0 m 202 ls [rfv g s0, rfv g s1]) := by
  have hS := hC.1
  have hq := km_Pc_apply_202 hmrApply   hC hv_s0 hv_s1 hm
  rw [Pc_apply_202] at hm
  obtain ⟨r223, e224, hm⟩ := obd_s hm
  have q225 := (km_Df_add hC hv_s1 hv_s0 e224)
  obtain ⟨g226, hm⟩ := grd_s hm
  have q := km_Pc_apply_205 hmrApply  q225.2  hm
  refine c_callViA C hE h g226 rfl (by decide) (kc_Df_add l D k z mi aK aV g N hC hv_s1 hv_s0 e224) (cwV 1 C.2.2.1 (gS_X5_59 _) rfl rfl rfl hd_X0_add ⟨(by show 7 + 1 ≤ φ + 6; omega), (by show 8 + (2 + 11) + 241 ≤ ψ + 300; omega)⟩) rfl hl.1 rfl (Nat.le_of_ble_eq_true rfl) dX5_apply_202 ⟨rcC hX q225.1 q.1, rsC hX q225.1 q.1⟩ (fun u H locs hg h => ?_)
  refine W_cast (wcC hX q225.1).symm (wsC hX q225.1).symm ?_
  exact kl_Pc_apply_205 (N := N) C hr hlk hE hφ hψ hmrApply hcrApply  q225.2 (hG.tr hg hX.1) (hX.tr q225.1)  (lv_sub hl [] rfl) h hm
set_option maxHeartbeats 8000000 in
set_option maxRecDepth 100000 in
theorem kl_Pc_apply_198 {r : Sh × St × Int} (C : Cx p s m args c cX5_apply RX5 (cd :: cWd) D (TYs k) 3) (hr : meth.sig.returnType = (some .int)) (hlk : meth.locks = false) (hE : Ev z mi aK aV A s s.heap) {rApply : Sh → St → Int → Int → Int → Option (Sh × St × Int)} (hφ : 20 ≤ φ) (hψ : 600 ≤ ψ) (hmrApply : ∀ {π : Sh} {σ : St} {y0 : Int} {y1 : Int} {y2 : Int} {r : Sh × St × Int}, Cl π σ → y0 < nn π → y1 < nn π → rApply π σ y0 y1 y2 = some r → ext π r.1 ∧ Cl r.1 r.2.1) (hcrApply : ∀ {g : Nat → Nat} {π : Sh} {σ : St} {y0 : Int} {y1 : Int} {y2 : Int} {r : Sh × St × Int}, Cl π σ → y0 < nn π → y1 < nn π → rApply π σ y0 y1 y2 = some r → Mi l yX5_apply (.code yX5_apply cX5_apply 3 (some .int) :: cWd) { frames := φ, cells := nn r.1 - nn π, slots := sw r.1 - sw π, locals := ψ } [rfv g y0, rfv g y1, .int (Int32.ofInt y2)] D (TYs k) (cW k z g π σ) (XV z mi aK aV (cW k z g π σ)) (Nat → Nat) (fun v u => gx (nn π) g u ∧ v = Int32.ofInt r.2.2) (fun u => cW k z u r.1 r.2.1) (nn r.1 - nn π) (sw r.1 - sw π))  {ls : Array Slot} {H : Heap} {locs : List Loc} {g : Nat → Nat} {π : Sh} {σ : St} {x2 : Int} {s0 : Int} {s1 : Int} (hC : Cl π σ) (hG : gx (nn π0) g0 g) (hX : ext π0 π) (hv_s0 : s0 < nn π) (hv_s1 : s1 < nn π) (hl : lv_has ls 3 [(2, .int (Int32.ofInt x2))]) (h : Hp D A s.heap H locs (cW k z g π σ)) (hm : Pc_apply_198 N rApply π σ x2 s0 s1 = some r) : W p l e { frames := φ + 6, cells := nn r.1 - nn π0, slots := sw r.1 - sw π0, locals := ψ + 300 } s m args below meth c H locs (nn π - nn π0) (sw π - sw π0) (MQ below (va_Qi (fun v u => gx (nn π0) g0 u ∧ v = Int32.ofInt r.2.2) (fun u t => PostW D (TYs k) A (cW k z u r.1 r.2.1) t) A) args s (nn r.1 - nn π0) (sw r.1 - sw π0) A) (F0 m 198 ls [rfv g s0, rfv g s1]) := by
  have hS := hC.1
  have hq := km_Pc_apply_198 hmrApply   hC hv_s0 hv_s1 hm
  rw [Pc_apply_198] at hm
  refine lv_iload_n C.1 C.2.1 dX5_apply_198 rfl (lv_at hl 0 rfl) ?_
  obtain ⟨r157, e158, hm⟩ := obd_s hm
  have q159 := (km_Sp_give hC hv_s0 e158)
  obtain ⟨g160, hm⟩ := grd_s hm
  have q := km_Pc_apply_202 hmrApply  q159.2.1 q159.2.2 (lt_ext hv_s1 q159.1) hm
  refine c_callVqA C hE h g160 rfl (by decide) (kc_Sp_give l D k z mi aK aV g N hC hv_s0 e158) (cwV 1 C.2.2.1 (gS_X5_55 _) rfl rfl rfl hd_X9_give ⟨(by show 2 + 1 ≤ φ + 6; omega), (by show 8 + (2 + 11) + 82 ≤ ψ + 300; omega)⟩) rfl hl.1 rfl (by simp [rfv_cat, cat_i, cat_l]) dX5_apply_199 ⟨rcC hX q159.1 q.1, rsC hX q159.1 q.1⟩ (fun u H locs hg h => ?_)
  try simp only [← gx_rfv hg hv_s1]
  refine W_cast (wcC hX q159.1).symm (wsC hX q159.1).symm ?_
  exact kl_Pc_apply_202 (N := N) C hr hlk hE hφ hψ hmrApply hcrApply  q159.2.1 (hG.tr hg hX.1) (hX.tr q159.1) q159.2.2 (lt_ext hv_s1 q159.1) (lv_sub hl [] rfl) h hm
set_option maxHeartbeats 8000000 in
set_option maxRecDepth 100000 in
theorem kl_Pc_apply_180 {r : Sh × St × Int} (C : Cx p s m args c cX5_apply RX5 (cd :: cWd) D (TYs k) 3) (hr : meth.sig.returnType = (some .int)) (hlk : meth.locks = false) (hE : Ev z mi aK aV A s s.heap) {rApply : Sh → St → Int → Int → Int → Option (Sh × St × Int)} (hφ : 20 ≤ φ) (hψ : 600 ≤ ψ) (hmrApply : ∀ {π : Sh} {σ : St} {y0 : Int} {y1 : Int} {y2 : Int} {r : Sh × St × Int}, Cl π σ → y0 < nn π → y1 < nn π → rApply π σ y0 y1 y2 = some r → ext π r.1 ∧ Cl r.1 r.2.1) (hcrApply : ∀ {g : Nat → Nat} {π : Sh} {σ : St} {y0 : Int} {y1 : Int} {y2 : Int} {r : Sh × St × Int}, Cl π σ → y0 < nn π → y1 < nn π → rApply π σ y0 y1 y2 = some r → Mi l yX5_apply (.code yX5_apply cX5_apply 3 (some .int) :: cWd) { frames := φ, cells := nn r.1 - nn π, slots := sw r.1 - sw π, locals := ψ } [rfv g y0, rfv g y1, .int (Int32.ofInt y2)] D (TYs k) (cW k z g π σ) (XV z mi aK aV (cW k z g π σ)) (Nat → Nat) (fun v u => gx (nn π) g u ∧ v = Int32.ofInt r.2.2) (fun u => cW k z u r.1 r.2.1) (nn r.1 - nn π) (sw r.1 - sw π))  {ls : Array Slot} {H : Heap} {locs : List Loc} {g : Nat → Nat} {π : Sh} {σ : St} {x0 : Int} {x2 : Int} {s0 : Int} {s1 : Int} (hC : Cl π σ) (hG : gx (nn π0) g0 g) (hX : ext π0 π) (hv_x0 : x0 < nn π) (hv_s0 : s0 < nn π) (hv_s1 : s1 < nn π) (hl : lv_has ls 3 [(0, rfv g x0), (2, .int (Int32.ofInt x2))]) (h : Hp D A s.heap H locs (cW k z g π σ)) (hm : Pc_apply_180 N rApply π σ x0 x2 s0 s1 = some r) : W p l e { frames := φ + 6, cells := nn r.1 - nn π0, slots := sw r.1 - sw π0, locals := ψ + 300 } s m args below meth c H locs (nn π - nn π0) (sw π - sw π0) (MQ below (va_Qi (fun v u => gx (nn π0) g0 u ∧ v = Int32.ofInt r.2.2) (fun u t => PostW D (TYs k) A (cW k z u r.1 r.2.1) t) A) args s (nn r.1 - nn π0) (sw r.1 - sw π0) A) (F0 m 180 ls [rfv g s0, rfv g s1]) := by
  have hS := hC.1
  have hq := km_Pc_apply_180 hmrApply   hC hv_x0 hv_s0 hv_s1 hm
  rw [Pc_apply_180] at hm
  refine lv_dup C.1 C.2.1 dX5_apply_180 (rfv_cat _ _) ?_
  refine lv_bipush (v := Int32.ofInt 10) C.1 C.2.1 dX5_apply_181 (by decide) ?_
  refine z_aload_n C dX5_apply_183 rfl (lv_at hl 0 rfl) ?_
  obtain ⟨g86, hm⟩ := grd_s hm
  refine cg_6_1 C h g86 cU_X5 (List.mem_cons_of_mem _ wl_X5_43) dX5_apply_184 ?_
  refine z_aload_n C dX5_apply_187 rfl (lv_at hl 0 rfl) ?_
  refine cg_6_2 C h g86 cU_X5 (List.mem_cons_of_mem _ wl_X5_7) dX5_apply_188 ?_
  refine z_aload_n C dX5_apply_191 rfl (lv_at hl 0 rfl) ?_
  refine cg_6_3 C h g86 cU_X5 (List.mem_cons_of_mem _ wl_X5_13) dX5_apply_192 ?_
  obtain ⟨r87, e88, hm⟩ := obd_s hm
  have q89 := (km_Sp_initB hC hv_s0 e88)
  obtain ⟨g90, hm⟩ := grd_s hm
  have q := km_Pc_apply_198 hmrApply  q89.2 (lt_ext hv_s0 q89.1) (lt_ext hv_s1 q89.1) hm
  refine c_callIvA C hE h g90 (kc_Sp_initB l D k z mi aK aV g N hC hv_s0 e88) (cwI 4 C.2.2.1 (gC_X9_init_ _) rfl rfl rfl (C.2.2.1 _ (List.mem_cons_of_mem _ wt_X9)) (C.2.2.1 _ (List.mem_cons_of_mem _ wm_X5_52)) (C.2.2.1 _ (List.mem_cons_of_mem _ wj_X9_init_)) rfl hdS_X9_init_ ⟨(by show 1 + 1 ≤ φ + 6; omega), (by show 8 + (5 + 11) + 30 ≤ ψ + 300; omega)⟩) rfl hl.1 rfl (by simp [rfv_cat, cat_i, cat_l]) dX5_apply_195 ⟨rcC hX q89.1 q.1, rsC hX q89.1 q.1⟩ (fun u H locs hg h => ?_)
  simp only [← gx_rfv hg hv_x0, ← gx_rfv hg hv_s0, ← gx_rfv hg hv_s1] at hl
  try simp only [← gx_rfv hg hv_x0, ← gx_rfv hg hv_s0, ← gx_rfv hg hv_s1]
  refine W_cast (wcC hX q89.1).symm (wsC hX q89.1).symm ?_
  exact kl_Pc_apply_198 (N := N) C hr hlk hE hφ hψ hmrApply hcrApply  q89.2 (hG.tr hg hX.1) (hX.tr q89.1) (lt_ext hv_s0 q89.1) (lt_ext hv_s1 q89.1) (lv_sub hl [1] rfl) h hm
set_option maxHeartbeats 8000000 in
set_option maxRecDepth 100000 in
theorem kl_Pc_apply_236 {r : Sh × St × Int} (C : Cx p s m args c cX5_apply RX5 (cd :: cWd) D (TYs k) 3) (hr : meth.sig.returnType = (some .int)) (hlk : meth.locks = false) (hE : Ev z mi aK aV A s s.heap) {rApply : Sh → St → Int → Int → Int → Option (Sh × St × Int)} (hφ : 20 ≤ φ) (hψ : 600 ≤ ψ) (hmrApply : ∀ {π : Sh} {σ : St} {y0 : Int} {y1 : Int} {y2 : Int} {r : Sh × St × Int}, Cl π σ → y0 < nn π → y1 < nn π → rApply π σ y0 y1 y2 = some r → ext π r.1 ∧ Cl r.1 r.2.1) (hcrApply : ∀ {g : Nat → Nat} {π : Sh} {σ : St} {y0 : Int} {y1 : Int} {y2 : Int} {r : Sh × St × Int}, Cl π σ → y0 < nn π → y1 < nn π → rApply π σ y0 y1 y2 = some r → Mi l yX5_apply (.code yX5_apply cX5_apply 3 (some .int) :: cWd) { frames := φ, cells := nn r.1 - nn π, slots := sw r.1 - sw π, locals := ψ } [rfv g y0, rfv g y1, .int (Int32.ofInt y2)] D (TYs k) (cW k z g π σ) (XV z mi aK aV (cW k z g π σ)) (Nat → Nat) (fun v u => gx (nn π) g u ∧ v = Int32.ofInt r.2.2) (fun u => cW k z u r.1 r.2.1) (nn r.1 - nn π) (sw r.1 - sw π))  {ls : Array Slot} {H : Heap} {locs : List Loc} {g : Nat → Nat} {π : Sh} {σ : St} {s0 : Int} (hC : Cl π σ) (hG : gx (nn π0) g0 g) (hX : ext π0 π)  (hl : lv_has ls 3 []) (h : Hp D A s.heap H locs (cW k z g π σ)) (hm : Pc_apply_236 N rApply π σ s0 = some r) : W p l e { frames := φ + 6, cells := nn r.1 - nn π0, slots := sw r.1 - sw π0, locals := ψ + 300 } s m args below meth c H locs (nn π - nn π0) (sw π - sw π0) (MQ below (va_Qi (fun v u => gx (nn π0) g0 u ∧ v = Int32.ofInt r.2.2) (fun u t => PostW D (TYs k) A (cW k z u r.1 r.2.1) t) A) args s (nn r.1 - nn π0) (sw r.1 - sw π0) A) (F0 m 236 ls [.int (Int32.ofInt s0)]) := by
  have hS := hC.1
  have hq := km_Pc_apply_236 hmrApply   hC  hm
  rw [Pc_apply_236] at hm
  cases hm
  exact c_iretA C hG h hr hlk dX5_apply_236 rfl
set_option maxHeartbeats 8000000 in
set_option maxRecDepth 100000 in
theorem kl_Pc_apply_233 {r : Sh × St × Int} (C : Cx p s m args c cX5_apply RX5 (cd :: cWd) D (TYs k) 3) (hr : meth.sig.returnType = (some .int)) (hlk : meth.locks = false) (hE : Ev z mi aK aV A s s.heap) {rApply : Sh → St → Int → Int → Int → Option (Sh × St × Int)} (hφ : 20 ≤ φ) (hψ : 600 ≤ ψ) (hmrApply : ∀ {π : Sh} {σ : St} {y0 : Int} {y1 : Int} {y2 : Int} {r : Sh × St × Int}, Cl π σ → y0 < nn π → y1 < nn π → rApply π σ y0 y1 y2 = some r → ext π r.1 ∧ Cl r.1 r.2.1) (hcrApply : ∀ {g : Nat → Nat} {π : Sh} {σ : St} {y0 : Int} {y1 : Int} {y2 : Int} {r : Sh × St × Int}, Cl π σ → y0 < nn π → y1 < nn π → rApply π σ y0 y1 y2 = some r → Mi l yX5_apply (.code yX5_apply cX5_apply 3 (some .int) :: cWd) { frames := φ, cells := nn r.1 - nn π, slots := sw r.1 - sw π, locals := ψ } [rfv g y0, rfv g y1, .int (Int32.ofInt y2)] D (TYs k) (cW k z g π σ) (XV z mi aK aV (cW k z g π σ)) (Nat → Nat) (fun v u => gx (nn π) g u ∧ v = Int32.ofInt r.2.2) (fun u => cW k z u r.1 r.2.1) (nn r.1 - nn π) (sw r.1 - sw π))  {ls : Array Slot} {H : Heap} {locs : List Loc} {g : Nat → Nat} {π : Sh} {σ : St} {s0 : Int} {s1 : Int} (hC : Cl π σ) (hG : gx (nn π0) g0 g) (hX : ext π0 π) (hv_s0 : s0 < nn π) (hv_s1 : s1 < nn π) (hl : lv_has ls 3 []) (h : Hp D A s.heap H locs (cW k z g π σ)) (hm : Pc_apply_233 N rApply π σ s0 s1 = some r) : W p l e { frames := φ + 6, cells := nn r.1 - nn π0, slots := sw r.1 - sw π0, locals := ψ + 300 } s m args below meth c H locs (nn π - nn π0) (sw π - sw π0) (MQ below (va_Qi (fun v u => gx (nn π0) g0 u ∧ v = Int32.ofInt r.2.2) (fun u t => PostW D (TYs k) A (cW k z u r.1 r.2.1) t) A) args s (nn r.1 - nn π0) (sw r.1 - sw π0) A) (F0 m 233 ls [rfv g s0, rfv g s1]) := by
  have hS := hC.1
  have hq := km_Pc_apply_233 hmrApply   hC hv_s0 hv_s1 hm
  rw [Pc_apply_233] at hm
  obtain ⟨r227, e228, hm⟩ := obd_s hm
  have q229 := (km_Df_add hC hv_s1 hv_s0 e228)
  obtain ⟨g230, hm⟩ := grd_s hm
  have q := km_Pc_apply_236 hmrApply  q229.2  hm
  refine c_callViA C hE h g230 rfl (by decide) (kc_Df_add l D k z mi aK aV g N hC hv_s1 hv_s0 e228) (cwV 1 C.2.2.1 (gS_X5_59 _) rfl rfl rfl hd_X0_add ⟨(by show 7 + 1 ≤ φ + 6; omega), (by show 8 + (2 + 11) + 241 ≤ ψ + 300; omega)⟩) rfl hl.1 rfl (Nat.le_of_ble_eq_true rfl) dX5_apply_233 ⟨rcC hX q229.1 q.1, rsC hX q229.1 q.1⟩ (fun u H locs hg h => ?_)
  refine W_cast (wcC hX q229.1).symm (wsC hX q229.1).symm ?_
  exact kl_Pc_apply_236 (N := N) C hr hlk hE hφ hψ hmrApply hcrApply  q229.2 (hG.tr hg hX.1) (hX.tr q229.1)  (lv_sub hl [] rfl) h hm
set_option maxHeartbeats 8000000 in
set_option maxRecDepth 100000 in
theorem kl_Pc_apply_229 {r : Sh × St × Int} (C : Cx p s m args c cX5_apply RX5 (cd :: cWd) D (TYs k) 3) (hr : meth.sig.returnType = (some .int)) (hlk : meth.locks = false) (hE : Ev z mi aK aV A s s.heap) {rApply : Sh → St → Int → Int → Int → Option (Sh × St × Int)} (hφ : 20 ≤ φ) (hψ : 600 ≤ ψ) (hmrApply : ∀ {π : Sh} {σ : St} {y0 : Int} {y1 : Int} {y2 : Int} {r : Sh × St × Int}, Cl π σ → y0 < nn π → y1 < nn π → rApply π σ y0 y1 y2 = some r → ext π r.1 ∧ Cl r.1 r.2.1) (hcrApply : ∀ {g : Nat → Nat} {π : Sh} {σ : St} {y0 : Int} {y1 : Int} {y2 : Int} {r : Sh × St × Int}, Cl π σ → y0 < nn π → y1 < nn π → rApply π σ y0 y1 y2 = some r → Mi l yX5_apply (.code yX5_apply cX5_apply 3 (some .int) :: cWd) { frames := φ, cells := nn r.1 - nn π, slots := sw r.1 - sw π, locals := ψ } [rfv g y0, rfv g y1, .int (Int32.ofInt y2)] D (TYs k) (cW k z g π σ) (XV z mi aK aV (cW k z g π σ)) (Nat → Nat) (fun v u => gx (nn π) g u ∧ v = Int32.ofInt r.2.2) (fun u => cW k z u r.1 r.2.1) (nn r.1 - nn π) (sw r.1 - sw π))  {ls : Array Slot} {H : Heap} {locs : List Loc} {g : Nat → Nat} {π : Sh} {σ : St} {x2 : Int} {s0 : Int} {s1 : Int} (hC : Cl π σ) (hG : gx (nn π0) g0 g) (hX : ext π0 π) (hv_s0 : s0 < nn π) (hv_s1 : s1 < nn π) (hl : lv_has ls 3 [(2, .int (Int32.ofInt x2))]) (h : Hp D A s.heap H locs (cW k z g π σ)) (hm : Pc_apply_229 N rApply π σ x2 s0 s1 = some r) : W p l e { frames := φ + 6, cells := nn r.1 - nn π0, slots := sw r.1 - sw π0, locals := ψ + 300 } s m args below meth c H locs (nn π - nn π0) (sw π - sw π0) (MQ below (va_Qi (fun v u => gx (nn π0) g0 u ∧ v = Int32.ofInt r.2.2) (fun u t => PostW D (TYs k) A (cW k z u r.1 r.2.1) t) A) args s (nn r.1 - nn π0) (sw r.1 - sw π0) A) (F0 m 229 ls [rfv g s0, rfv g s1]) := by
  have hS := hC.1
  have hq := km_Pc_apply_229 hmrApply   hC hv_s0 hv_s1 hm
  rw [Pc_apply_229] at hm
  refine lv_iload_n C.1 C.2.1 dX5_apply_229 rfl (lv_at hl 0 rfl) ?_
  obtain ⟨r161, e162, hm⟩ := obd_s hm
  have q163 := (km_Sp_give hC hv_s0 e162)
  obtain ⟨g164, hm⟩ := grd_s hm
  have q := km_Pc_apply_233 hmrApply  q163.2.1 q163.2.2 (lt_ext hv_s1 q163.1) hm
  refine c_callVqA C hE h g164 rfl (by decide) (kc_Sp_give l D k z mi aK aV g N hC hv_s0 e162) (cwV 1 C.2.2.1 (gS_X5_55 _) rfl rfl rfl hd_X9_give ⟨(by show 2 + 1 ≤ φ + 6; omega), (by show 8 + (2 + 11) + 82 ≤ ψ + 300; omega)⟩) rfl hl.1 rfl (by simp [rfv_cat, cat_i, cat_l]) dX5_apply_230 ⟨rcC hX q163.1 q.1, rsC hX q163.1 q.1⟩ (fun u H locs hg h => ?_)
  try simp only [← gx_rfv hg hv_s1]
  refine W_cast (wcC hX q163.1).symm (wsC hX q163.1).symm ?_
  exact kl_Pc_apply_233 (N := N) C hr hlk hE hφ hψ hmrApply hcrApply  q163.2.1 (hG.tr hg hX.1) (hX.tr q163.1) q163.2.2 (lt_ext hv_s1 q163.1) (lv_sub hl [] rfl) h hm
set_option maxHeartbeats 8000000 in
set_option maxRecDepth 100000 in
theorem kl_Pc_apply_210 {r : Sh × St × Int} (C : Cx p s m args c cX5_apply RX5 (cd :: cWd) D (TYs k) 3) (hr : meth.sig.returnType = (some .int)) (hlk : meth.locks = false) (hE : Ev z mi aK aV A s s.heap) {rApply : Sh → St → Int → Int → Int → Option (Sh × St × Int)} (hφ : 20 ≤ φ) (hψ : 600 ≤ ψ) (hmrApply : ∀ {π : Sh} {σ : St} {y0 : Int} {y1 : Int} {y2 : Int} {r : Sh × St × Int}, Cl π σ → y0 < nn π → y1 < nn π → rApply π σ y0 y1 y2 = some r → ext π r.1 ∧ Cl r.1 r.2.1) (hcrApply : ∀ {g : Nat → Nat} {π : Sh} {σ : St} {y0 : Int} {y1 : Int} {y2 : Int} {r : Sh × St × Int}, Cl π σ → y0 < nn π → y1 < nn π → rApply π σ y0 y1 y2 = some r → Mi l yX5_apply (.code yX5_apply cX5_apply 3 (some .int) :: cWd) { frames := φ, cells := nn r.1 - nn π, slots := sw r.1 - sw π, locals := ψ } [rfv g y0, rfv g y1, .int (Int32.ofInt y2)] D (TYs k) (cW k z g π σ) (XV z mi aK aV (cW k z g π σ)) (Nat → Nat) (fun v u => gx (nn π) g u ∧ v = Int32.ofInt r.2.2) (fun u => cW k z u r.1 r.2.1) (nn r.1 - nn π) (sw r.1 - sw π))  {ls : Array Slot} {H : Heap} {locs : List Loc} {g : Nat → Nat} {π : Sh} {σ : St} {x0 : Int} {x2 : Int} {s0 : Int} {s1 : Int} (hC : Cl π σ) (hG : gx (nn π0) g0 g) (hX : ext π0 π) (hv_x0 : x0 < nn π) (hv_s0 : s0 < nn π) (hv_s1 : s1 < nn π) (hl : lv_has ls 3 [(0, rfv g x0), (2, .int (Int32.ofInt x2))]) (h : Hp D A s.heap H locs (cW k z g π σ)) (hm : Pc_apply_210 N rApply π σ x0 x2 s0 s1 = some r) : W p l e { frames := φ + 6, cells := nn r.1 - nn π0, slots := sw r.1 - sw π0, locals := ψ + 300 } s m args below meth c H locs (nn π - nn π0) (sw π - sw π0) (MQ below (va_Qi (fun v u => gx (nn π0) g0 u ∧ v = Int32.ofInt r.2.2) (fun u t => PostW D (TYs k) A (cW k z u r.1 r.2.1) t) A) args s (nn r.1 - nn π0) (sw r.1 - sw π0) A) (F0 m 210 ls [rfv g s0, rfv g s1]) := by
  have hS := hC.1
  have hq := km_Pc_apply_210 hmrApply   hC hv_x0 hv_s0 hv_s1 hm
  rw [Pc_apply_210] at hm
  refine lv_dup C.1 C.2.1 dX5_apply_210 (rfv_cat _ _) ?_
  refine lv_bipush (v := Int32.ofInt 10) C.1 C.2.1 dX5_apply_211 (by decide) ?_
  refine z_aload_n C dX5_apply_213 rfl (lv_at hl 0 rfl) ?_
  obtain ⟨g91, hm⟩ := grd_s hm
  refine cg_6_1 C h g91 cU_X5 (List.mem_cons_of_mem _ wl_X5_43) dX5_apply_214 ?_
  refine z_aload_n C dX5_apply_217 rfl (lv_at hl 0 rfl) ?_
  refine cg_6_2 C h g91 cU_X5 (List.mem_cons_of_mem _ wl_X5_7) dX5_apply_218 ?_
  refine z_ineg C dX5_apply_221 ?_
  refine z_aload_n C dX5_apply_222 rfl (lv_at hl 0 rfl) ?_
  refine cg_6_3 C h g91 cU_X5 (List.mem_cons_of_mem _ wl_X5_13) dX5_apply_223 ?_
  obtain ⟨r92, e93, hm⟩ := obd_s hm
  have q94 := (km_Sp_initB hC hv_s0 e93)
  obtain ⟨g95, hm⟩ := grd_s hm
  have q := km_Pc_apply_229 hmrApply  q94.2 (lt_ext hv_s0 q94.1) (lt_ext hv_s1 q94.1) hm
  refine c_callIvA C hE h g95 (kc_Sp_initB l D k z mi aK aV g N hC hv_s0 e93) (cwI 4 C.2.2.1 (gC_X9_init_ _) rfl rfl rfl (C.2.2.1 _ (List.mem_cons_of_mem _ wt_X9)) (C.2.2.1 _ (List.mem_cons_of_mem _ wm_X5_52)) (C.2.2.1 _ (List.mem_cons_of_mem _ wj_X9_init_)) rfl hdS_X9_init_ ⟨(by show 1 + 1 ≤ φ + 6; omega), (by show 8 + (5 + 11) + 30 ≤ ψ + 300; omega)⟩) rfl hl.1 rfl (by simp [rfv_cat, cat_i, cat_l]) dX5_apply_226 ⟨rcC hX q94.1 q.1, rsC hX q94.1 q.1⟩ (fun u H locs hg h => ?_)
  simp only [← gx_rfv hg hv_x0, ← gx_rfv hg hv_s0, ← gx_rfv hg hv_s1] at hl
  try simp only [← gx_rfv hg hv_x0, ← gx_rfv hg hv_s0, ← gx_rfv hg hv_s1]
  refine W_cast (wcC hX q94.1).symm (wsC hX q94.1).symm ?_
  exact kl_Pc_apply_229 (N := N) C hr hlk hE hφ hψ hmrApply hcrApply  q94.2 (hG.tr hg hX.1) (hX.tr q94.1) (lt_ext hv_s0 q94.1) (lt_ext hv_s1 q94.1) (lv_sub hl [1] rfl) h hm
set_option maxHeartbeats 8000000 in
set_option maxRecDepth 100000 in
theorem kl_Pc_apply_258 {r : Sh × St × Int} (C : Cx p s m args c cX5_apply RX5 (cd :: cWd) D (TYs k) 3) (hr : meth.sig.returnType = (some .int)) (hlk : meth.locks = false) (hE : Ev z mi aK aV A s s.heap) {rApply : Sh → St → Int → Int → Int → Option (Sh × St × Int)} (hφ : 20 ≤ φ) (hψ : 600 ≤ ψ) (hmrApply : ∀ {π : Sh} {σ : St} {y0 : Int} {y1 : Int} {y2 : Int} {r : Sh × St × Int}, Cl π σ → y0 < nn π → y1 < nn π → rApply π σ y0 y1 y2 = some r → ext π r.1 ∧ Cl r.1 r.2.1) (hcrApply : ∀ {g : Nat → Nat} {π : Sh} {σ : St} {y0 : Int} {y1 : Int} {y2 : Int} {r : Sh × St × Int}, Cl π σ → y0 < nn π → y1 < nn π → rApply π σ y0 y1 y2 = some r → Mi l yX5_apply (.code yX5_apply cX5_apply 3 (some .int) :: cWd) { frames := φ, cells := nn r.1 - nn π, slots := sw r.1 - sw π, locals := ψ } [rfv g y0, rfv g y1, .int (Int32.ofInt y2)] D (TYs k) (cW k z g π σ) (XV z mi aK aV (cW k z g π σ)) (Nat → Nat) (fun v u => gx (nn π) g u ∧ v = Int32.ofInt r.2.2) (fun u => cW k z u r.1 r.2.1) (nn r.1 - nn π) (sw r.1 - sw π))  {ls : Array Slot} {H : Heap} {locs : List Loc} {g : Nat → Nat} {π : Sh} {σ : St} {s0 : Int} (hC : Cl π σ) (hG : gx (nn π0) g0 g) (hX : ext π0 π)  (hl : lv_has ls 3 []) (h : Hp D A s.heap H locs (cW k z g π σ)) (hm : Pc_apply_258 N rApply π σ s0 = some r) : W p l e { frames := φ + 6, cells := nn r.1 - nn π0, slots := sw r.1 - sw π0, locals := ψ + 300 } s m args below meth c H locs (nn π - nn π0) (sw π - sw π0) (MQ below (va_Qi (fun v u => gx (nn π0) g0 u ∧ v = Int32.ofInt r.2.2) (fun u t => PostW D (TYs k) A (cW k z u r.1 r.2.1) t) A) args s (nn r.1 - nn π0) (sw r.1 - sw π0) A) (F0 m 258 ls [.int (Int32.ofInt s0)]) := by
  have hS := hC.1
  have hq := km_Pc_apply_258 hmrApply   hC  hm
  rw [Pc_apply_258] at hm
  cases hm
  exact c_iretA C hG h hr hlk dX5_apply_258 rfl
set_option maxHeartbeats 8000000 in
set_option maxRecDepth 100000 in
theorem kl_Pc_apply_255 {r : Sh × St × Int} (C : Cx p s m args c cX5_apply RX5 (cd :: cWd) D (TYs k) 3) (hr : meth.sig.returnType = (some .int)) (hlk : meth.locks = false) (hE : Ev z mi aK aV A s s.heap) {rApply : Sh → St → Int → Int → Int → Option (Sh × St × Int)} (hφ : 20 ≤ φ) (hψ : 600 ≤ ψ) (hmrApply : ∀ {π : Sh} {σ : St} {y0 : Int} {y1 : Int} {y2 : Int} {r : Sh × St × Int}, Cl π σ → y0 < nn π → y1 < nn π → rApply π σ y0 y1 y2 = some r → ext π r.1 ∧ Cl r.1 r.2.1) (hcrApply : ∀ {g : Nat → Nat} {π : Sh} {σ : St} {y0 : Int} {y1 : Int} {y2 : Int} {r : Sh × St × Int}, Cl π σ → y0 < nn π → y1 < nn π → rApply π σ y0 y1 y2 = some r → Mi l yX5_apply (.code yX5_apply cX5_apply 3 (some .int) :: cWd) { frames := φ, cells := nn r.1 - nn π, slots := sw r.1 - sw π, locals := ψ } [rfv g y0, rfv g y1, .int (Int32.ofInt y2)] D (TYs k) (cW k z g π σ) (XV z mi aK aV (cW k z g π σ)) (Nat → Nat) (fun v u => gx (nn π) g u ∧ v = Int32.ofInt r.2.2) (fun u => cW k z u r.1 r.2.1) (nn r.1 - nn π) (sw r.1 - sw π))  {ls : Array Slot} {H : Heap} {locs : List Loc} {g : Nat → Nat} {π : Sh} {σ : St} {s0 : Int} {s1 : Int} (hC : Cl π σ) (hG : gx (nn π0) g0 g) (hX : ext π0 π) (hv_s0 : s0 < nn π) (hv_s1 : s1 < nn π) (hl : lv_has ls 3 []) (h : Hp D A s.heap H locs (cW k z g π σ)) (hm : Pc_apply_255 N rApply π σ s0 s1 = some r) : W p l e { frames := φ + 6, cells := nn r.1 - nn π0, slots := sw r.1 - sw π0, locals := ψ + 300 } s m args below meth c H locs (nn π - nn π0) (sw π - sw π0) (MQ below (va_Qi (fun v u => gx (nn π0) g0 u ∧ v = Int32.ofInt r.2.2) (fun u t => PostW D (TYs k) A (cW k z u r.1 r.2.1) t) A) args s (nn r.1 - nn π0) (sw r.1 - sw π0) A) (F0 m 255 ls [rfv g s0, rfv g s1]) := by
  have hS := hC.1
  have hq := km_Pc_apply_255 hmrApply   hC hv_s0 hv_s1 hm
  rw [Pc_apply_255] at hm
  obtain ⟨r231, e232, hm⟩ := obd_s hm
  have q233 := (km_Df_add hC hv_s1 hv_s0 e232)
  obtain ⟨g234, hm⟩ := grd_s hm
  have q := km_Pc_apply_258 hmrApply  q233.2  hm
  refine c_callViA C hE h g234 rfl (by decide) (kc_Df_add l D k z mi aK aV g N hC hv_s1 hv_s0 e232) (cwV 1 C.2.2.1 (gS_X5_59 _) rfl rfl rfl hd_X0_add ⟨(by show 7 + 1 ≤ φ + 6; omega), (by show 8 + (2 + 11) + 241 ≤ ψ + 300; omega)⟩) rfl hl.1 rfl (Nat.le_of_ble_eq_true rfl) dX5_apply_255 ⟨rcC hX q233.1 q.1, rsC hX q233.1 q.1⟩ (fun u H locs hg h => ?_)
  refine W_cast (wcC hX q233.1).symm (wsC hX q233.1).symm ?_
  exact kl_Pc_apply_258 (N := N) C hr hlk hE hφ hψ hmrApply hcrApply  q233.2 (hG.tr hg hX.1) (hX.tr q233.1)  (lv_sub hl [] rfl) h hm
set_option maxHeartbeats 8000000 in
set_option maxRecDepth 100000 in
theorem kl_Pc_apply_251 {r : Sh × St × Int} (C : Cx p s m args c cX5_apply RX5 (cd :: cWd) D (TYs k) 3) (hr : meth.sig.returnType = (some .int)) (hlk : meth.locks = false) (hE : Ev z mi aK aV A s s.heap) {rApply : Sh → St → Int → Int → Int → Option (Sh × St × Int)} (hφ : 20 ≤ φ) (hψ : 600 ≤ ψ) (hmrApply : ∀ {π : Sh} {σ : St} {y0 : Int} {y1 : Int} {y2 : Int} {r : Sh × St × Int}, Cl π σ → y0 < nn π → y1 < nn π → rApply π σ y0 y1 y2 = some r → ext π r.1 ∧ Cl r.1 r.2.1) (hcrApply : ∀ {g : Nat → Nat} {π : Sh} {σ : St} {y0 : Int} {y1 : Int} {y2 : Int} {r : Sh × St × Int}, Cl π σ → y0 < nn π → y1 < nn π → rApply π σ y0 y1 y2 = some r → Mi l yX5_apply (.code yX5_apply cX5_apply 3 (some .int) :: cWd) { frames := φ, cells := nn r.1 - nn π, slots := sw r.1 - sw π, locals := ψ } [rfv g y0, rfv g y1, .int (Int32.ofInt y2)] D (TYs k) (cW k z g π σ) (XV z mi aK aV (cW k z g π σ)) (Nat → Nat) (fun v u => gx (nn π) g u ∧ v = Int32.ofInt r.2.2) (fun u => cW k z u r.1 r.2.1) (nn r.1 - nn π) (sw r.1 - sw π))  {ls : Array Slot} {H : Heap} {locs : List Loc} {g : Nat → Nat} {π : Sh} {σ : St} {x2 : Int} {s0 : Int} {s1 : Int} (hC : Cl π σ) (hG : gx (nn π0) g0 g) (hX : ext π0 π) (hv_s0 : s0 < nn π) (hv_s1 : s1 < nn π) (hl : lv_has ls 3 [(2, .int (Int32.ofInt x2))]) (h : Hp D A s.heap H locs (cW k z g π σ)) (hm : Pc_apply_251 N rApply π σ x2 s0 s1 = some r) : W p l e { frames := φ + 6, cells := nn r.1 - nn π0, slots := sw r.1 - sw π0, locals := ψ + 300 } s m args below meth c H locs (nn π - nn π0) (sw π - sw π0) (MQ below (va_Qi (fun v u => gx (nn π0) g0 u ∧ v = Int32.ofInt r.2.2) (fun u t => PostW D (TYs k) A (cW k z u r.1 r.2.1) t) A) args s (nn r.1 - nn π0) (sw r.1 - sw π0) A) (F0 m 251 ls [rfv g s0, rfv g s1]) := by
  have hS := hC.1
  have hq := km_Pc_apply_251 hmrApply   hC hv_s0 hv_s1 hm
  rw [Pc_apply_251] at hm
  refine lv_iload_n C.1 C.2.1 dX5_apply_251 rfl (lv_at hl 0 rfl) ?_
  obtain ⟨r165, e166, hm⟩ := obd_s hm
  have q167 := (km_Sp_give hC hv_s0 e166)
  obtain ⟨g168, hm⟩ := grd_s hm
  have q := km_Pc_apply_255 hmrApply  q167.2.1 q167.2.2 (lt_ext hv_s1 q167.1) hm
  refine c_callVqA C hE h g168 rfl (by decide) (kc_Sp_give l D k z mi aK aV g N hC hv_s0 e166) (cwV 1 C.2.2.1 (gS_X5_55 _) rfl rfl rfl hd_X9_give ⟨(by show 2 + 1 ≤ φ + 6; omega), (by show 8 + (2 + 11) + 82 ≤ ψ + 300; omega)⟩) rfl hl.1 rfl (by simp [rfv_cat, cat_i, cat_l]) dX5_apply_252 ⟨rcC hX q167.1 q.1, rsC hX q167.1 q.1⟩ (fun u H locs hg h => ?_)
  try simp only [← gx_rfv hg hv_s1]
  refine W_cast (wcC hX q167.1).symm (wsC hX q167.1).symm ?_
  exact kl_Pc_apply_255 (N := N) C hr hlk hE hφ hψ hmrApply hcrApply  q167.2.1 (hG.tr hg hX.1) (hX.tr q167.1) q167.2.2 (lt_ext hv_s1 q167.1) (lv_sub hl [] rfl) h hm
set_option maxHeartbeats 8000000 in
set_option maxRecDepth 100000 in
theorem kl_Pc_apply_241 {r : Sh × St × Int} (C : Cx p s m args c cX5_apply RX5 (cd :: cWd) D (TYs k) 3) (hr : meth.sig.returnType = (some .int)) (hlk : meth.locks = false) (hE : Ev z mi aK aV A s s.heap) {rApply : Sh → St → Int → Int → Int → Option (Sh × St × Int)} (hφ : 20 ≤ φ) (hψ : 600 ≤ ψ) (hmrApply : ∀ {π : Sh} {σ : St} {y0 : Int} {y1 : Int} {y2 : Int} {r : Sh × St × Int}, Cl π σ → y0 < nn π → y1 < nn π → rApply π σ y0 y1 y2 = some r → ext π r.1 ∧ Cl r.1 r.2.1) (hcrApply : ∀ {g : Nat → Nat} {π : Sh} {σ : St} {y0 : Int} {y1 : Int} {y2 : Int} {r : Sh × St × Int}, Cl π σ → y0 < nn π → y1 < nn π → rApply π σ y0 y1 y2 = some r → Mi l yX5_apply (.code yX5_apply cX5_apply 3 (some .int) :: cWd) { frames := φ, cells := nn r.1 - nn π, slots := sw r.1 - sw π, locals := ψ } [rfv g y0, rfv g y1, .int (Int32.ofInt y2)] D (TYs k) (cW k z g π σ) (XV z mi aK aV (cW k z g π σ)) (Nat → Nat) (fun v u => gx (nn π) g u ∧ v = Int32.ofInt r.2.2) (fun u => cW k z u r.1 r.2.1) (nn r.1 - nn π) (sw r.1 - sw π))  {ls : Array Slot} {H : Heap} {locs : List Loc} {g : Nat → Nat} {π : Sh} {σ : St} {x0 : Int} {x2 : Int} {s0 : Int} {s1 : Int} (hC : Cl π σ) (hG : gx (nn π0) g0 g) (hX : ext π0 π) (hv_x0 : x0 < nn π) (hv_s0 : s0 < nn π) (hv_s1 : s1 < nn π) (hl : lv_has ls 3 [(0, rfv g x0), (2, .int (Int32.ofInt x2))]) (h : Hp D A s.heap H locs (cW k z g π σ)) (hm : Pc_apply_241 N rApply π σ x0 x2 s0 s1 = some r) : W p l e { frames := φ + 6, cells := nn r.1 - nn π0, slots := sw r.1 - sw π0, locals := ψ + 300 } s m args below meth c H locs (nn π - nn π0) (sw π - sw π0) (MQ below (va_Qi (fun v u => gx (nn π0) g0 u ∧ v = Int32.ofInt r.2.2) (fun u t => PostW D (TYs k) A (cW k z u r.1 r.2.1) t) A) args s (nn r.1 - nn π0) (sw r.1 - sw π0) A) (F0 m 241 ls [rfv g s0, rfv g s1]) := by
  have hS := hC.1
  have hq := km_Pc_apply_241 hmrApply   hC hv_x0 hv_s0 hv_s1 hm
  rw [Pc_apply_241] at hm
  refine lv_dup C.1 C.2.1 dX5_apply_241 (rfv_cat _ _) ?_
  refine lv_bipush (v := Int32.ofInt 11) C.1 C.2.1 dX5_apply_242 (by decide) ?_
  refine z_aload_n C dX5_apply_244 rfl (lv_at hl 0 rfl) ?_
  obtain ⟨g96, hm⟩ := grd_s hm
  refine cg_6_1 C h g96 cU_X5 (List.mem_cons_of_mem _ wl_X5_43) dX5_apply_245 ?_
  obtain ⟨r97, e98, hm⟩ := obd_s hm
  have q99 := (km_Sp_init hC hv_s0 e98)
  obtain ⟨g100, hm⟩ := grd_s hm
  have q := km_Pc_apply_251 hmrApply  q99.2 (lt_ext hv_s0 q99.1) (lt_ext hv_s1 q99.1) hm
  refine c_callIvA C hE h g100 (kc_Sp_init l D k z mi aK aV g N hC hv_s0 e98) (cwI 2 C.2.2.1 (gC_X9_init _) rfl rfl rfl (C.2.2.1 _ (List.mem_cons_of_mem _ wt_X9)) (C.2.2.1 _ (List.mem_cons_of_mem _ wm_X5_65)) (C.2.2.1 _ (List.mem_cons_of_mem _ wj_X9_init)) rfl hdS_X9_init ⟨(by show 1 + 1 ≤ φ + 6; omega), (by show 8 + (3 + 11) + 30 ≤ ψ + 300; omega)⟩) rfl hl.1 rfl (by simp [rfv_cat, cat_i, cat_l]) dX5_apply_248 ⟨rcC hX q99.1 q.1, rsC hX q99.1 q.1⟩ (fun u H locs hg h => ?_)
  simp only [← gx_rfv hg hv_x0, ← gx_rfv hg hv_s0, ← gx_rfv hg hv_s1] at hl
  try simp only [← gx_rfv hg hv_x0, ← gx_rfv hg hv_s0, ← gx_rfv hg hv_s1]
  refine W_cast (wcC hX q99.1).symm (wsC hX q99.1).symm ?_
  exact kl_Pc_apply_251 (N := N) C hr hlk hE hφ hψ hmrApply hcrApply  q99.2 (hG.tr hg hX.1) (hX.tr q99.1) (lt_ext hv_s0 q99.1) (lt_ext hv_s1 q99.1) (lv_sub hl [1] rfl) h hm
set_option maxHeartbeats 8000000 in
set_option maxRecDepth 100000 in
theorem kl_Pc_apply_285 {r : Sh × St × Int} (C : Cx p s m args c cX5_apply RX5 (cd :: cWd) D (TYs k) 3) (hr : meth.sig.returnType = (some .int)) (hlk : meth.locks = false) (hE : Ev z mi aK aV A s s.heap) {rApply : Sh → St → Int → Int → Int → Option (Sh × St × Int)} (hφ : 20 ≤ φ) (hψ : 600 ≤ ψ) (hmrApply : ∀ {π : Sh} {σ : St} {y0 : Int} {y1 : Int} {y2 : Int} {r : Sh × St × Int}, Cl π σ → y0 < nn π → y1 < nn π → rApply π σ y0 y1 y2 = some r → ext π r.1 ∧ Cl r.1 r.2.1) (hcrApply : ∀ {g : Nat → Nat} {π : Sh} {σ : St} {y0 : Int} {y1 : Int} {y2 : Int} {r : Sh × St × Int}, Cl π σ → y0 < nn π → y1 < nn π → rApply π σ y0 y1 y2 = some r → Mi l yX5_apply (.code yX5_apply cX5_apply 3 (some .int) :: cWd) { frames := φ, cells := nn r.1 - nn π, slots := sw r.1 - sw π, locals := ψ } [rfv g y0, rfv g y1, .int (Int32.ofInt y2)] D (TYs k) (cW k z g π σ) (XV z mi aK aV (cW k z g π σ)) (Nat → Nat) (fun v u => gx (nn π) g u ∧ v = Int32.ofInt r.2.2) (fun u => cW k z u r.1 r.2.1) (nn r.1 - nn π) (sw r.1 - sw π))  {ls : Array Slot} {H : Heap} {locs : List Loc} {g : Nat → Nat} {π : Sh} {σ : St} {s0 : Int} (hC : Cl π σ) (hG : gx (nn π0) g0 g) (hX : ext π0 π)  (hl : lv_has ls 3 []) (h : Hp D A s.heap H locs (cW k z g π σ)) (hm : Pc_apply_285 N rApply π σ s0 = some r) : W p l e { frames := φ + 6, cells := nn r.1 - nn π0, slots := sw r.1 - sw π0, locals := ψ + 300 } s m args below meth c H locs (nn π - nn π0) (sw π - sw π0) (MQ below (va_Qi (fun v u => gx (nn π0) g0 u ∧ v = Int32.ofInt r.2.2) (fun u t => PostW D (TYs k) A (cW k z u r.1 r.2.1) t) A) args s (nn r.1 - nn π0) (sw r.1 - sw π0) A) (F0 m 285 ls [.int (Int32.ofInt s0)]) := by
  have hS := hC.1
  have hq := km_Pc_apply_285 hmrApply   hC  hm
  rw [Pc_apply_285] at hm
  cases hm
  exact c_iretA C hG h hr hlk dX5_apply_285 rfl
set_option maxHeartbeats 8000000 in
set_option maxRecDepth 100000 in
theorem kl_Pc_apply_282 {r : Sh × St × Int} (C : Cx p s m args c cX5_apply RX5 (cd :: cWd) D (TYs k) 3) (hr : meth.sig.returnType = (some .int)) (hlk : meth.locks = false) (hE : Ev z mi aK aV A s s.heap) {rApply : Sh → St → Int → Int → Int → Option (Sh × St × Int)} (hφ : 20 ≤ φ) (hψ : 600 ≤ ψ) (hmrApply : ∀ {π : Sh} {σ : St} {y0 : Int} {y1 : Int} {y2 : Int} {r : Sh × St × Int}, Cl π σ → y0 < nn π → y1 < nn π → rApply π σ y0 y1 y2 = some r → ext π r.1 ∧ Cl r.1 r.2.1) (hcrApply : ∀ {g : Nat → Nat} {π : Sh} {σ : St} {y0 : Int} {y1 : Int} {y2 : Int} {r : Sh × St × Int}, Cl π σ → y0 < nn π → y1 < nn π → rApply π σ y0 y1 y2 = some r → Mi l yX5_apply (.code yX5_apply cX5_apply 3 (some .int) :: cWd) { frames := φ, cells := nn r.1 - nn π, slots := sw r.1 - sw π, locals := ψ } [rfv g y0, rfv g y1, .int (Int32.ofInt y2)] D (TYs k) (cW k z g π σ) (XV z mi aK aV (cW k z g π σ)) (Nat → Nat) (fun v u => gx (nn π) g u ∧ v = Int32.ofInt r.2.2) (fun u => cW k z u r.1 r.2.1) (nn r.1 - nn π) (sw r.1 - sw π))  {ls : Array Slot} {H : Heap} {locs : List Loc} {g : Nat → Nat} {π : Sh} {σ : St} {s0 : Int} {s1 : Int} (hC : Cl π σ) (hG : gx (nn π0) g0 g) (hX : ext π0 π) (hv_s0 : s0 < nn π) (hv_s1 : s1 < nn π) (hl : lv_has ls 3 []) (h : Hp D A s.heap H locs (cW k z g π σ)) (hm : Pc_apply_282 N rApply π σ s0 s1 = some r) : W p l e { frames := φ + 6, cells := nn r.1 - nn π0, slots := sw r.1 - sw π0, locals := ψ + 300 } s m args below meth c H locs (nn π - nn π0) (sw π - sw π0) (MQ below (va_Qi (fun v u => gx (nn π0) g0 u ∧ v = Int32.ofInt r.2.2) (fun u t => PostW D (TYs k) A (cW k z u r.1 r.2.1) t) A) args s (nn r.1 - nn π0) (sw r.1 - sw π0) A) (F0 m 282 ls [rfv g s0, rfv g s1]) := by
  have hS := hC.1
  have hq := km_Pc_apply_282 hmrApply   hC hv_s0 hv_s1 hm
  rw [Pc_apply_282] at hm
  obtain ⟨r235, e236, hm⟩ := obd_s hm
  have q237 := (km_Df_add hC hv_s1 hv_s0 e236)
  obtain ⟨g238, hm⟩ := grd_s hm
  have q := km_Pc_apply_285 hmrApply  q237.2  hm
  refine c_callViA C hE h g238 rfl (by decide) (kc_Df_add l D k z mi aK aV g N hC hv_s1 hv_s0 e236) (cwV 1 C.2.2.1 (gS_X5_59 _) rfl rfl rfl hd_X0_add ⟨(by show 7 + 1 ≤ φ + 6; omega), (by show 8 + (2 + 11) + 241 ≤ ψ + 300; omega)⟩) rfl hl.1 rfl (Nat.le_of_ble_eq_true rfl) dX5_apply_282 ⟨rcC hX q237.1 q.1, rsC hX q237.1 q.1⟩ (fun u H locs hg h => ?_)
  refine W_cast (wcC hX q237.1).symm (wsC hX q237.1).symm ?_
  exact kl_Pc_apply_285 (N := N) C hr hlk hE hφ hψ hmrApply hcrApply  q237.2 (hG.tr hg hX.1) (hX.tr q237.1)  (lv_sub hl [] rfl) h hm
set_option maxHeartbeats 8000000 in
set_option maxRecDepth 100000 in
theorem kl_Pc_apply_278 {r : Sh × St × Int} (C : Cx p s m args c cX5_apply RX5 (cd :: cWd) D (TYs k) 3) (hr : meth.sig.returnType = (some .int)) (hlk : meth.locks = false) (hE : Ev z mi aK aV A s s.heap) {rApply : Sh → St → Int → Int → Int → Option (Sh × St × Int)} (hφ : 20 ≤ φ) (hψ : 600 ≤ ψ) (hmrApply : ∀ {π : Sh} {σ : St} {y0 : Int} {y1 : Int} {y2 : Int} {r : Sh × St × Int}, Cl π σ → y0 < nn π → y1 < nn π → rApply π σ y0 y1 y2 = some r → ext π r.1 ∧ Cl r.1 r.2.1) (hcrApply : ∀ {g : Nat → Nat} {π : Sh} {σ : St} {y0 : Int} {y1 : Int} {y2 : Int} {r : Sh × St × Int}, Cl π σ → y0 < nn π → y1 < nn π → rApply π σ y0 y1 y2 = some r → Mi l yX5_apply (.code yX5_apply cX5_apply 3 (some .int) :: cWd) { frames := φ, cells := nn r.1 - nn π, slots := sw r.1 - sw π, locals := ψ } [rfv g y0, rfv g y1, .int (Int32.ofInt y2)] D (TYs k) (cW k z g π σ) (XV z mi aK aV (cW k z g π σ)) (Nat → Nat) (fun v u => gx (nn π) g u ∧ v = Int32.ofInt r.2.2) (fun u => cW k z u r.1 r.2.1) (nn r.1 - nn π) (sw r.1 - sw π))  {ls : Array Slot} {H : Heap} {locs : List Loc} {g : Nat → Nat} {π : Sh} {σ : St} {x2 : Int} {s0 : Int} {s1 : Int} (hC : Cl π σ) (hG : gx (nn π0) g0 g) (hX : ext π0 π) (hv_s0 : s0 < nn π) (hv_s1 : s1 < nn π) (hl : lv_has ls 3 [(2, .int (Int32.ofInt x2))]) (h : Hp D A s.heap H locs (cW k z g π σ)) (hm : Pc_apply_278 N rApply π σ x2 s0 s1 = some r) : W p l e { frames := φ + 6, cells := nn r.1 - nn π0, slots := sw r.1 - sw π0, locals := ψ + 300 } s m args below meth c H locs (nn π - nn π0) (sw π - sw π0) (MQ below (va_Qi (fun v u => gx (nn π0) g0 u ∧ v = Int32.ofInt r.2.2) (fun u t => PostW D (TYs k) A (cW k z u r.1 r.2.1) t) A) args s (nn r.1 - nn π0) (sw r.1 - sw π0) A) (F0 m 278 ls [rfv g s0, rfv g s1]) := by
  have hS := hC.1
  have hq := km_Pc_apply_278 hmrApply   hC hv_s0 hv_s1 hm
  rw [Pc_apply_278] at hm
  refine lv_iload_n C.1 C.2.1 dX5_apply_278 rfl (lv_at hl 0 rfl) ?_
  obtain ⟨r169, e170, hm⟩ := obd_s hm
  have q171 := (km_Sp_give hC hv_s0 e170)
  obtain ⟨g172, hm⟩ := grd_s hm
  have q := km_Pc_apply_282 hmrApply  q171.2.1 q171.2.2 (lt_ext hv_s1 q171.1) hm
  refine c_callVqA C hE h g172 rfl (by decide) (kc_Sp_give l D k z mi aK aV g N hC hv_s0 e170) (cwV 1 C.2.2.1 (gS_X5_55 _) rfl rfl rfl hd_X9_give ⟨(by show 2 + 1 ≤ φ + 6; omega), (by show 8 + (2 + 11) + 82 ≤ ψ + 300; omega)⟩) rfl hl.1 rfl (by simp [rfv_cat, cat_i, cat_l]) dX5_apply_279 ⟨rcC hX q171.1 q.1, rsC hX q171.1 q.1⟩ (fun u H locs hg h => ?_)
  try simp only [← gx_rfv hg hv_s1]
  refine W_cast (wcC hX q171.1).symm (wsC hX q171.1).symm ?_
  exact kl_Pc_apply_282 (N := N) C hr hlk hE hφ hψ hmrApply hcrApply  q171.2.1 (hG.tr hg hX.1) (hX.tr q171.1) q171.2.2 (lt_ext hv_s1 q171.1) (lv_sub hl [] rfl) h hm
set_option maxHeartbeats 8000000 in
set_option maxRecDepth 100000 in
theorem kl_Pc_apply_263 {r : Sh × St × Int} (C : Cx p s m args c cX5_apply RX5 (cd :: cWd) D (TYs k) 3) (hr : meth.sig.returnType = (some .int)) (hlk : meth.locks = false) (hE : Ev z mi aK aV A s s.heap) {rApply : Sh → St → Int → Int → Int → Option (Sh × St × Int)} (hφ : 20 ≤ φ) (hψ : 600 ≤ ψ) (hmrApply : ∀ {π : Sh} {σ : St} {y0 : Int} {y1 : Int} {y2 : Int} {r : Sh × St × Int}, Cl π σ → y0 < nn π → y1 < nn π → rApply π σ y0 y1 y2 = some r → ext π r.1 ∧ Cl r.1 r.2.1) (hcrApply : ∀ {g : Nat → Nat} {π : Sh} {σ : St} {y0 : Int} {y1 : Int} {y2 : Int} {r : Sh × St × Int}, Cl π σ → y0 < nn π → y1 < nn π → rApply π σ y0 y1 y2 = some r → Mi l yX5_apply (.code yX5_apply cX5_apply 3 (some .int) :: cWd) { frames := φ, cells := nn r.1 - nn π, slots := sw r.1 - sw π, locals := ψ } [rfv g y0, rfv g y1, .int (Int32.ofInt y2)] D (TYs k) (cW k z g π σ) (XV z mi aK aV (cW k z g π σ)) (Nat → Nat) (fun v u => gx (nn π) g u ∧ v = Int32.ofInt r.2.2) (fun u => cW k z u r.1 r.2.1) (nn r.1 - nn π) (sw r.1 - sw π))  {ls : Array Slot} {H : Heap} {locs : List Loc} {g : Nat → Nat} {π : Sh} {σ : St} {x0 : Int} {x2 : Int} {s0 : Int} {s1 : Int} (hC : Cl π σ) (hG : gx (nn π0) g0 g) (hX : ext π0 π) (hv_x0 : x0 < nn π) (hv_s0 : s0 < nn π) (hv_s1 : s1 < nn π) (hl : lv_has ls 3 [(0, rfv g x0), (2, .int (Int32.ofInt x2))]) (h : Hp D A s.heap H locs (cW k z g π σ)) (hm : Pc_apply_263 N rApply π σ x0 x2 s0 s1 = some r) : W p l e { frames := φ + 6, cells := nn r.1 - nn π0, slots := sw r.1 - sw π0, locals := ψ + 300 } s m args below meth c H locs (nn π - nn π0) (sw π - sw π0) (MQ below (va_Qi (fun v u => gx (nn π0) g0 u ∧ v = Int32.ofInt r.2.2) (fun u t => PostW D (TYs k) A (cW k z u r.1 r.2.1) t) A) args s (nn r.1 - nn π0) (sw r.1 - sw π0) A) (F0 m 263 ls [rfv g s0, rfv g s1]) := by
  have hS := hC.1
  have hq := km_Pc_apply_263 hmrApply   hC hv_x0 hv_s0 hv_s1 hm
  rw [Pc_apply_263] at hm
  refine lv_dup C.1 C.2.1 dX5_apply_263 (rfv_cat _ _) ?_
  refine lv_bipush (v := Int32.ofInt 14) C.1 C.2.1 dX5_apply_264 (by decide) ?_
  refine z_aload_n C dX5_apply_266 rfl (lv_at hl 0 rfl) ?_
  obtain ⟨g101, hm⟩ := grd_s hm
  refine cg_6_1 C h g101 cU_X5 (List.mem_cons_of_mem _ wl_X5_43) dX5_apply_267 ?_
  refine z_aload_n C dX5_apply_270 rfl (lv_at hl 0 rfl) ?_
  refine cg_6_2 C h g101 cU_X5 (List.mem_cons_of_mem _ wl_X5_7) dX5_apply_271 ?_
  refine lv_iconst (v := Int32.ofInt 0) C.1 C.2.1 dX5_apply_274 (by decide) ?_
  obtain ⟨r102, e103, hm⟩ := obd_s hm
  have q104 := (km_Sp_initB hC hv_s0 e103)
  obtain ⟨g105, hm⟩ := grd_s hm
  have q := km_Pc_apply_278 hmrApply  q104.2 (lt_ext hv_s0 q104.1) (lt_ext hv_s1 q104.1) hm
  refine c_callIvA C hE h g105 (kc_Sp_initB l D k z mi aK aV g N hC hv_s0 e103) (cwI 4 C.2.2.1 (gC_X9_init_ _) rfl rfl rfl (C.2.2.1 _ (List.mem_cons_of_mem _ wt_X9)) (C.2.2.1 _ (List.mem_cons_of_mem _ wm_X5_52)) (C.2.2.1 _ (List.mem_cons_of_mem _ wj_X9_init_)) rfl hdS_X9_init_ ⟨(by show 1 + 1 ≤ φ + 6; omega), (by show 8 + (5 + 11) + 30 ≤ ψ + 300; omega)⟩) rfl hl.1 rfl (by simp [rfv_cat, cat_i, cat_l]) dX5_apply_275 ⟨rcC hX q104.1 q.1, rsC hX q104.1 q.1⟩ (fun u H locs hg h => ?_)
  simp only [← gx_rfv hg hv_x0, ← gx_rfv hg hv_s0, ← gx_rfv hg hv_s1] at hl
  try simp only [← gx_rfv hg hv_x0, ← gx_rfv hg hv_s0, ← gx_rfv hg hv_s1]
  refine W_cast (wcC hX q104.1).symm (wsC hX q104.1).symm ?_
  exact kl_Pc_apply_278 (N := N) C hr hlk hE hφ hψ hmrApply hcrApply  q104.2 (hG.tr hg hX.1) (hX.tr q104.1) (lt_ext hv_s0 q104.1) (lt_ext hv_s1 q104.1) (lv_sub hl [1] rfl) h hm
set_option maxHeartbeats 8000000 in
set_option maxRecDepth 100000 in
theorem kl_Pc_apply_312 {r : Sh × St × Int} (C : Cx p s m args c cX5_apply RX5 (cd :: cWd) D (TYs k) 3) (hr : meth.sig.returnType = (some .int)) (hlk : meth.locks = false) (hE : Ev z mi aK aV A s s.heap) {rApply : Sh → St → Int → Int → Int → Option (Sh × St × Int)} (hφ : 20 ≤ φ) (hψ : 600 ≤ ψ) (hmrApply : ∀ {π : Sh} {σ : St} {y0 : Int} {y1 : Int} {y2 : Int} {r : Sh × St × Int}, Cl π σ → y0 < nn π → y1 < nn π → rApply π σ y0 y1 y2 = some r → ext π r.1 ∧ Cl r.1 r.2.1) (hcrApply : ∀ {g : Nat → Nat} {π : Sh} {σ : St} {y0 : Int} {y1 : Int} {y2 : Int} {r : Sh × St × Int}, Cl π σ → y0 < nn π → y1 < nn π → rApply π σ y0 y1 y2 = some r → Mi l yX5_apply (.code yX5_apply cX5_apply 3 (some .int) :: cWd) { frames := φ, cells := nn r.1 - nn π, slots := sw r.1 - sw π, locals := ψ } [rfv g y0, rfv g y1, .int (Int32.ofInt y2)] D (TYs k) (cW k z g π σ) (XV z mi aK aV (cW k z g π σ)) (Nat → Nat) (fun v u => gx (nn π) g u ∧ v = Int32.ofInt r.2.2) (fun u => cW k z u r.1 r.2.1) (nn r.1 - nn π) (sw r.1 - sw π))  {ls : Array Slot} {H : Heap} {locs : List Loc} {g : Nat → Nat} {π : Sh} {σ : St} {s0 : Int} (hC : Cl π σ) (hG : gx (nn π0) g0 g) (hX : ext π0 π)  (hl : lv_has ls 3 []) (h : Hp D A s.heap H locs (cW k z g π σ)) (hm : Pc_apply_312 N rApply π σ s0 = some r) : W p l e { frames := φ + 6, cells := nn r.1 - nn π0, slots := sw r.1 - sw π0, locals := ψ + 300 } s m args below meth c H locs (nn π - nn π0) (sw π - sw π0) (MQ below (va_Qi (fun v u => gx (nn π0) g0 u ∧ v = Int32.ofInt r.2.2) (fun u t => PostW D (TYs k) A (cW k z u r.1 r.2.1) t) A) args s (nn r.1 - nn π0) (sw r.1 - sw π0) A) (F0 m 312 ls [.int (Int32.ofInt s0)]) := by
  have hS := hC.1
  have hq := km_Pc_apply_312 hmrApply   hC  hm
  rw [Pc_apply_312] at hm
  cases hm
  exact c_iretA C hG h hr hlk dX5_apply_312 rfl
set_option maxHeartbeats 8000000 in
set_option maxRecDepth 100000 in
theorem kl_Pc_apply_309 {r : Sh × St × Int} (C : Cx p s m args c cX5_apply RX5 (cd :: cWd) D (TYs k) 3) (hr : meth.sig.returnType = (some .int)) (hlk : meth.locks = false) (hE : Ev z mi aK aV A s s.heap) {rApply : Sh → St → Int → Int → Int → Option (Sh × St × Int)} (hφ : 20 ≤ φ) (hψ : 600 ≤ ψ) (hmrApply : ∀ {π : Sh} {σ : St} {y0 : Int} {y1 : Int} {y2 : Int} {r : Sh × St × Int}, Cl π σ → y0 < nn π → y1 < nn π → rApply π σ y0 y1 y2 = some r → ext π r.1 ∧ Cl r.1 r.2.1) (hcrApply : ∀ {g : Nat → Nat} {π : Sh} {σ : St} {y0 : Int} {y1 : Int} {y2 : Int} {r : Sh × St × Int}, Cl π σ → y0 < nn π → y1 < nn π → rApply π σ y0 y1 y2 = some r → Mi l yX5_apply (.code yX5_apply cX5_apply 3 (some .int) :: cWd) { frames := φ, cells := nn r.1 - nn π, slots := sw r.1 - sw π, locals := ψ } [rfv g y0, rfv g y1, .int (Int32.ofInt y2)] D (TYs k) (cW k z g π σ) (XV z mi aK aV (cW k z g π σ)) (Nat → Nat) (fun v u => gx (nn π) g u ∧ v = Int32.ofInt r.2.2) (fun u => cW k z u r.1 r.2.1) (nn r.1 - nn π) (sw r.1 - sw π))  {ls : Array Slot} {H : Heap} {locs : List Loc} {g : Nat → Nat} {π : Sh} {σ : St} {s0 : Int} {s1 : Int} (hC : Cl π σ) (hG : gx (nn π0) g0 g) (hX : ext π0 π) (hv_s0 : s0 < nn π) (hv_s1 : s1 < nn π) (hl : lv_has ls 3 []) (h : Hp D A s.heap H locs (cW k z g π σ)) (hm : Pc_apply_309 N rApply π σ s0 s1 = some r) : W p l e { frames := φ + 6, cells := nn r.1 - nn π0, slots := sw r.1 - sw π0, locals := ψ + 300 } s m args below meth c H locs (nn π - nn π0) (sw π - sw π0) (MQ below (va_Qi (fun v u => gx (nn π0) g0 u ∧ v = Int32.ofInt r.2.2) (fun u t => PostW D (TYs k) A (cW k z u r.1 r.2.1) t) A) args s (nn r.1 - nn π0) (sw r.1 - sw π0) A) (F0 m 309 ls [rfv g s0, rfv g s1]) := by
  have hS := hC.1
  have hq := km_Pc_apply_309 hmrApply   hC hv_s0 hv_s1 hm
  rw [Pc_apply_309] at hm
  obtain ⟨r239, e240, hm⟩ := obd_s hm
  have q241 := (km_Df_add hC hv_s1 hv_s0 e240)
  obtain ⟨g242, hm⟩ := grd_s hm
  have q := km_Pc_apply_312 hmrApply  q241.2  hm
  refine c_callViA C hE h g242 rfl (by decide) (kc_Df_add l D k z mi aK aV g N hC hv_s1 hv_s0 e240) (cwV 1 C.2.2.1 (gS_X5_59 _) rfl rfl rfl hd_X0_add ⟨(by show 7 + 1 ≤ φ + 6; omega), (by show 8 + (2 + 11) + 241 ≤ ψ + 300; omega)⟩) rfl hl.1 rfl (Nat.le_of_ble_eq_true rfl) dX5_apply_309 ⟨rcC hX q241.1 q.1, rsC hX q241.1 q.1⟩ (fun u H locs hg h => ?_)
  refine W_cast (wcC hX q241.1).symm (wsC hX q241.1).symm ?_
  exact kl_Pc_apply_312 (N := N) C hr hlk hE hφ hψ hmrApply hcrApply  q241.2 (hG.tr hg hX.1) (hX.tr q241.1)  (lv_sub hl [] rfl) h hm
set_option maxHeartbeats 8000000 in
set_option maxRecDepth 100000 in
theorem kl_Pc_apply_305 {r : Sh × St × Int} (C : Cx p s m args c cX5_apply RX5 (cd :: cWd) D (TYs k) 3) (hr : meth.sig.returnType = (some .int)) (hlk : meth.locks = false) (hE : Ev z mi aK aV A s s.heap) {rApply : Sh → St → Int → Int → Int → Option (Sh × St × Int)} (hφ : 20 ≤ φ) (hψ : 600 ≤ ψ) (hmrApply : ∀ {π : Sh} {σ : St} {y0 : Int} {y1 : Int} {y2 : Int} {r : Sh × St × Int}, Cl π σ → y0 < nn π → y1 < nn π → rApply π σ y0 y1 y2 = some r → ext π r.1 ∧ Cl r.1 r.2.1) (hcrApply : ∀ {g : Nat → Nat} {π : Sh} {σ : St} {y0 : Int} {y1 : Int} {y2 : Int} {r : Sh × St × Int}, Cl π σ → y0 < nn π → y1 < nn π → rApply π σ y0 y1 y2 = some r → Mi l yX5_apply (.code yX5_apply cX5_apply 3 (some .int) :: cWd) { frames := φ, cells := nn r.1 - nn π, slots := sw r.1 - sw π, locals := ψ } [rfv g y0, rfv g y1, .int (Int32.ofInt y2)] D (TYs k) (cW k z g π σ) (XV z mi aK aV (cW k z g π σ)) (Nat → Nat) (fun v u => gx (nn π) g u ∧ v = Int32.ofInt r.2.2) (fun u => cW k z u r.1 r.2.1) (nn r.1 - nn π) (sw r.1 - sw π))  {ls : Array Slot} {H : Heap} {locs : List Loc} {g : Nat → Nat} {π : Sh} {σ : St} {x2 : Int} {s0 : Int} {s1 : Int} (hC : Cl π σ) (hG : gx (nn π0) g0 g) (hX : ext π0 π) (hv_s0 : s0 < nn π) (hv_s1 : s1 < nn π) (hl : lv_has ls 3 [(2, .int (Int32.ofInt x2))]) (h : Hp D A s.heap H locs (cW k z g π σ)) (hm : Pc_apply_305 N rApply π σ x2 s0 s1 = some r) : W p l e { frames := φ + 6, cells := nn r.1 - nn π0, slots := sw r.1 - sw π0, locals := ψ + 300 } s m args below meth c H locs (nn π - nn π0) (sw π - sw π0) (MQ below (va_Qi (fun v u => gx (nn π0) g0 u ∧ v = Int32.ofInt r.2.2) (fun u t => PostW D (TYs k) A (cW k z u r.1 r.2.1) t) A) args s (nn r.1 - nn π0) (sw r.1 - sw π0) A) (F0 m 305 ls [rfv g s0, rfv g s1]) := by
  have hS := hC.1
  have hq := km_Pc_apply_305 hmrApply   hC hv_s0 hv_s1 hm
  rw [Pc_apply_305] at hm
  refine lv_iload_n C.1 C.2.1 dX5_apply_305 rfl (lv_at hl 0 rfl) ?_
  obtain ⟨r173, e174, hm⟩ := obd_s hm
  have q175 := (km_Sp_give hC hv_s0 e174)
  obtain ⟨g176, hm⟩ := grd_s hm
  have q := km_Pc_apply_309 hmrApply  q175.2.1 q175.2.2 (lt_ext hv_s1 q175.1) hm
  refine c_callVqA C hE h g176 rfl (by decide) (kc_Sp_give l D k z mi aK aV g N hC hv_s0 e174) (cwV 1 C.2.2.1 (gS_X5_55 _) rfl rfl rfl hd_X9_give ⟨(by show 2 + 1 ≤ φ + 6; omega), (by show 8 + (2 + 11) + 82 ≤ ψ + 300; omega)⟩) rfl hl.1 rfl (by simp [rfv_cat, cat_i, cat_l]) dX5_apply_306 ⟨rcC hX q175.1 q.1, rsC hX q175.1 q.1⟩ (fun u H locs hg h => ?_)
  try simp only [← gx_rfv hg hv_s1]
  refine W_cast (wcC hX q175.1).symm (wsC hX q175.1).symm ?_
  exact kl_Pc_apply_309 (N := N) C hr hlk hE hφ hψ hmrApply hcrApply  q175.2.1 (hG.tr hg hX.1) (hX.tr q175.1) q175.2.2 (lt_ext hv_s1 q175.1) (lv_sub hl [] rfl) h hm
set_option maxHeartbeats 8000000 in
set_option maxRecDepth 100000 in
theorem kl_Pc_apply_290 {r : Sh × St × Int} (C : Cx p s m args c cX5_apply RX5 (cd :: cWd) D (TYs k) 3) (hr : meth.sig.returnType = (some .int)) (hlk : meth.locks = false) (hE : Ev z mi aK aV A s s.heap) {rApply : Sh → St → Int → Int → Int → Option (Sh × St × Int)} (hφ : 20 ≤ φ) (hψ : 600 ≤ ψ) (hmrApply : ∀ {π : Sh} {σ : St} {y0 : Int} {y1 : Int} {y2 : Int} {r : Sh × St × Int}, Cl π σ → y0 < nn π → y1 < nn π → rApply π σ y0 y1 y2 = some r → ext π r.1 ∧ Cl r.1 r.2.1) (hcrApply : ∀ {g : Nat → Nat} {π : Sh} {σ : St} {y0 : Int} {y1 : Int} {y2 : Int} {r : Sh × St × Int}, Cl π σ → y0 < nn π → y1 < nn π → rApply π σ y0 y1 y2 = some r → Mi l yX5_apply (.code yX5_apply cX5_apply 3 (some .int) :: cWd) { frames := φ, cells := nn r.1 - nn π, slots := sw r.1 - sw π, locals := ψ } [rfv g y0, rfv g y1, .int (Int32.ofInt y2)] D (TYs k) (cW k z g π σ) (XV z mi aK aV (cW k z g π σ)) (Nat → Nat) (fun v u => gx (nn π) g u ∧ v = Int32.ofInt r.2.2) (fun u => cW k z u r.1 r.2.1) (nn r.1 - nn π) (sw r.1 - sw π))  {ls : Array Slot} {H : Heap} {locs : List Loc} {g : Nat → Nat} {π : Sh} {σ : St} {x0 : Int} {x2 : Int} {s0 : Int} {s1 : Int} (hC : Cl π σ) (hG : gx (nn π0) g0 g) (hX : ext π0 π) (hv_x0 : x0 < nn π) (hv_s0 : s0 < nn π) (hv_s1 : s1 < nn π) (hl : lv_has ls 3 [(0, rfv g x0), (2, .int (Int32.ofInt x2))]) (h : Hp D A s.heap H locs (cW k z g π σ)) (hm : Pc_apply_290 N rApply π σ x0 x2 s0 s1 = some r) : W p l e { frames := φ + 6, cells := nn r.1 - nn π0, slots := sw r.1 - sw π0, locals := ψ + 300 } s m args below meth c H locs (nn π - nn π0) (sw π - sw π0) (MQ below (va_Qi (fun v u => gx (nn π0) g0 u ∧ v = Int32.ofInt r.2.2) (fun u t => PostW D (TYs k) A (cW k z u r.1 r.2.1) t) A) args s (nn r.1 - nn π0) (sw r.1 - sw π0) A) (F0 m 290 ls [rfv g s0, rfv g s1]) := by
  have hS := hC.1
  have hq := km_Pc_apply_290 hmrApply   hC hv_x0 hv_s0 hv_s1 hm
  rw [Pc_apply_290] at hm
  refine lv_dup C.1 C.2.1 dX5_apply_290 (rfv_cat _ _) ?_
  refine lv_bipush (v := Int32.ofInt 15) C.1 C.2.1 dX5_apply_291 (by decide) ?_
  refine z_aload_n C dX5_apply_293 rfl (lv_at hl 0 rfl) ?_
  obtain ⟨g106, hm⟩ := grd_s hm
  refine cg_6_1 C h g106 cU_X5 (List.mem_cons_of_mem _ wl_X5_43) dX5_apply_294 ?_
  refine z_aload_n C dX5_apply_297 rfl (lv_at hl 0 rfl) ?_
  refine cg_6_2 C h g106 cU_X5 (List.mem_cons_of_mem _ wl_X5_7) dX5_apply_298 ?_
  refine lv_iconst (v := Int32.ofInt 0) C.1 C.2.1 dX5_apply_301 (by decide) ?_
  obtain ⟨r107, e108, hm⟩ := obd_s hm
  have q109 := (km_Sp_initB hC hv_s0 e108)
  obtain ⟨g110, hm⟩ := grd_s hm
  have q := km_Pc_apply_305 hmrApply  q109.2 (lt_ext hv_s0 q109.1) (lt_ext hv_s1 q109.1) hm
  refine c_callIvA C hE h g110 (kc_Sp_initB l D k z mi aK aV g N hC hv_s0 e108) (cwI 4 C.2.2.1 (gC_X9_init_ _) rfl rfl rfl (C.2.2.1 _ (List.mem_cons_of_mem _ wt_X9)) (C.2.2.1 _ (List.mem_cons_of_mem _ wm_X5_52)) (C.2.2.1 _ (List.mem_cons_of_mem _ wj_X9_init_)) rfl hdS_X9_init_ ⟨(by show 1 + 1 ≤ φ + 6; omega), (by show 8 + (5 + 11) + 30 ≤ ψ + 300; omega)⟩) rfl hl.1 rfl (by simp [rfv_cat, cat_i, cat_l]) dX5_apply_302 ⟨rcC hX q109.1 q.1, rsC hX q109.1 q.1⟩ (fun u H locs hg h => ?_)
  simp only [← gx_rfv hg hv_x0, ← gx_rfv hg hv_s0, ← gx_rfv hg hv_s1] at hl
  try simp only [← gx_rfv hg hv_x0, ← gx_rfv hg hv_s0, ← gx_rfv hg hv_s1]
  refine W_cast (wcC hX q109.1).symm (wsC hX q109.1).symm ?_
  exact kl_Pc_apply_305 (N := N) C hr hlk hE hφ hψ hmrApply hcrApply  q109.2 (hG.tr hg hX.1) (hX.tr q109.1) (lt_ext hv_s0 q109.1) (lt_ext hv_s1 q109.1) (lv_sub hl [1] rfl) h hm
set_option maxHeartbeats 8000000 in
set_option maxRecDepth 100000 in
theorem kl_Pc_apply_339 {r : Sh × St × Int} (C : Cx p s m args c cX5_apply RX5 (cd :: cWd) D (TYs k) 3) (hr : meth.sig.returnType = (some .int)) (hlk : meth.locks = false) (hE : Ev z mi aK aV A s s.heap) {rApply : Sh → St → Int → Int → Int → Option (Sh × St × Int)} (hφ : 20 ≤ φ) (hψ : 600 ≤ ψ) (hmrApply : ∀ {π : Sh} {σ : St} {y0 : Int} {y1 : Int} {y2 : Int} {r : Sh × St × Int}, Cl π σ → y0 < nn π → y1 < nn π → rApply π σ y0 y1 y2 = some r → ext π r.1 ∧ Cl r.1 r.2.1) (hcrApply : ∀ {g : Nat → Nat} {π : Sh} {σ : St} {y0 : Int} {y1 : Int} {y2 : Int} {r : Sh × St × Int}, Cl π σ → y0 < nn π → y1 < nn π → rApply π σ y0 y1 y2 = some r → Mi l yX5_apply (.code yX5_apply cX5_apply 3 (some .int) :: cWd) { frames := φ, cells := nn r.1 - nn π, slots := sw r.1 - sw π, locals := ψ } [rfv g y0, rfv g y1, .int (Int32.ofInt y2)] D (TYs k) (cW k z g π σ) (XV z mi aK aV (cW k z g π σ)) (Nat → Nat) (fun v u => gx (nn π) g u ∧ v = Int32.ofInt r.2.2) (fun u => cW k z u r.1 r.2.1) (nn r.1 - nn π) (sw r.1 - sw π))  {ls : Array Slot} {H : Heap} {locs : List Loc} {g : Nat → Nat} {π : Sh} {σ : St} {s0 : Int} (hC : Cl π σ) (hG : gx (nn π0) g0 g) (hX : ext π0 π)  (hl : lv_has ls 3 []) (h : Hp D A s.heap H locs (cW k z g π σ)) (hm : Pc_apply_339 N rApply π σ s0 = some r) : W p l e { frames := φ + 6, cells := nn r.1 - nn π0, slots := sw r.1 - sw π0, locals := ψ + 300 } s m args below meth c H locs (nn π - nn π0) (sw π - sw π0) (MQ below (va_Qi (fun v u => gx (nn π0) g0 u ∧ v = Int32.ofInt r.2.2) (fun u t => PostW D (TYs k) A (cW k z u r.1 r.2.1) t) A) args s (nn r.1 - nn π0) (sw r.1 - sw π0) A) (F0 m 339 ls [.int (Int32.ofInt s0)]) := by
  have hS := hC.1
  have hq := km_Pc_apply_339 hmrApply   hC  hm
  rw [Pc_apply_339] at hm
  cases hm
  exact c_iretA C hG h hr hlk dX5_apply_339 rfl
set_option maxHeartbeats 8000000 in
set_option maxRecDepth 100000 in
theorem kl_Pc_apply_336 {r : Sh × St × Int} (C : Cx p s m args c cX5_apply RX5 (cd :: cWd) D (TYs k) 3) (hr : meth.sig.returnType = (some .int)) (hlk : meth.locks = false) (hE : Ev z mi aK aV A s s.heap) {rApply : Sh → St → Int → Int → Int → Option (Sh × St × Int)} (hφ : 20 ≤ φ) (hψ : 600 ≤ ψ) (hmrApply : ∀ {π : Sh} {σ : St} {y0 : Int} {y1 : Int} {y2 : Int} {r : Sh × St × Int}, Cl π σ → y0 < nn π → y1 < nn π → rApply π σ y0 y1 y2 = some r → ext π r.1 ∧ Cl r.1 r.2.1) (hcrApply : ∀ {g : Nat → Nat} {π : Sh} {σ : St} {y0 : Int} {y1 : Int} {y2 : Int} {r : Sh × St × Int}, Cl π σ → y0 < nn π → y1 < nn π → rApply π σ y0 y1 y2 = some r → Mi l yX5_apply (.code yX5_apply cX5_apply 3 (some .int) :: cWd) { frames := φ, cells := nn r.1 - nn π, slots := sw r.1 - sw π, locals := ψ } [rfv g y0, rfv g y1, .int (Int32.ofInt y2)] D (TYs k) (cW k z g π σ) (XV z mi aK aV (cW k z g π σ)) (Nat → Nat) (fun v u => gx (nn π) g u ∧ v = Int32.ofInt r.2.2) (fun u => cW k z u r.1 r.2.1) (nn r.1 - nn π) (sw r.1 - sw π))  {ls : Array Slot} {H : Heap} {locs : List Loc} {g : Nat → Nat} {π : Sh} {σ : St} {s0 : Int} {s1 : Int} (hC : Cl π σ) (hG : gx (nn π0) g0 g) (hX : ext π0 π) (hv_s0 : s0 < nn π) (hv_s1 : s1 < nn π) (hl : lv_has ls 3 []) (h : Hp D A s.heap H locs (cW k z g π σ)) (hm : Pc_apply_336 N rApply π σ s0 s1 = some r) : W p l e { frames := φ + 6, cells := nn r.1 - nn π0, slots := sw r.1 - sw π0, locals := ψ + 300 } s m args below meth c H locs (nn π - nn π0) (sw π - sw π0) (MQ below (va_Qi (fun v u => gx (nn π0) g0 u ∧ v = Int32.ofInt r.2.2) (fun u t => PostW D (TYs k) A (cW k z u r.1 r.2.1) t) A) args s (nn r.1 - nn π0) (sw r.1 - sw π0) A) (F0 m 336 ls [rfv g s0, rfv g s1]) := by
  have hS := hC.1
  have hq := km_Pc_apply_336 hmrApply   hC hv_s0 hv_s1 hm
  rw [Pc_apply_336] at hm
  obtain ⟨r243, e244, hm⟩ := obd_s hm
  have q245 := (km_Df_add hC hv_s1 hv_s0 e244)
  obtain ⟨g246, hm⟩ := grd_s hm
  have q := km_Pc_apply_339 hmrApply  q245.2  hm
  refine c_callViA C hE h g246 rfl (by decide) (kc_Df_add l D k z mi aK aV g N hC hv_s1 hv_s0 e244) (cwV 1 C.2.2.1 (gS_X5_59 _) rfl rfl rfl hd_X0_add ⟨(by show 7 + 1 ≤ φ + 6; omega), (by show 8 + (2 + 11) + 241 ≤ ψ + 300; omega)⟩) rfl hl.1 rfl (Nat.le_of_ble_eq_true rfl) dX5_apply_336 ⟨rcC hX q245.1 q.1, rsC hX q245.1 q.1⟩ (fun u H locs hg h => ?_)
  refine W_cast (wcC hX q245.1).symm (wsC hX q245.1).symm ?_
  exact kl_Pc_apply_339 (N := N) C hr hlk hE hφ hψ hmrApply hcrApply  q245.2 (hG.tr hg hX.1) (hX.tr q245.1)  (lv_sub hl [] rfl) h hm
set_option maxHeartbeats 8000000 in
set_option maxRecDepth 100000 in
theorem kl_Pc_apply_332 {r : Sh × St × Int} (C : Cx p s m args c cX5_apply RX5 (cd :: cWd) D (TYs k) 3) (hr : meth.sig.returnType = (some .int)) (hlk : meth.locks = false) (hE : Ev z mi aK aV A s s.heap) {rApply : Sh → St → Int → Int → Int → Option (Sh × St × Int)} (hφ : 20 ≤ φ) (hψ : 600 ≤ ψ) (hmrApply : ∀ {π : Sh} {σ : St} {y0 : Int} {y1 : Int} {y2 : Int} {r : Sh × St × Int}, Cl π σ → y0 < nn π → y1 < nn π → rApply π σ y0 y1 y2 = some r → ext π r.1 ∧ Cl r.1 r.2.1) (hcrApply : ∀ {g : Nat → Nat} {π : Sh} {σ : St} {y0 : Int} {y1 : Int} {y2 : Int} {r : Sh × St × Int}, Cl π σ → y0 < nn π → y1 < nn π → rApply π σ y0 y1 y2 = some r → Mi l yX5_apply (.code yX5_apply cX5_apply 3 (some .int) :: cWd) { frames := φ, cells := nn r.1 - nn π, slots := sw r.1 - sw π, locals := ψ } [rfv g y0, rfv g y1, .int (Int32.ofInt y2)] D (TYs k) (cW k z g π σ) (XV z mi aK aV (cW k z g π σ)) (Nat → Nat) (fun v u => gx (nn π) g u ∧ v = Int32.ofInt r.2.2) (fun u => cW k z u r.1 r.2.1) (nn r.1 - nn π) (sw r.1 - sw π))  {ls : Array Slot} {H : Heap} {locs : List Loc} {g : Nat → Nat} {π : Sh} {σ : St} {x2 : Int} {s0 : Int} {s1 : Int} (hC : Cl π σ) (hG : gx (nn π0) g0 g) (hX : ext π0 π) (hv_s0 : s0 < nn π) (hv_s1 : s1 < nn π) (hl : lv_has ls 3 [(2, .int (Int32.ofInt x2))]) (h : Hp D A s.heap H locs (cW k z g π σ)) (hm : Pc_apply_332 N rApply π σ x2 s0 s1 = some r) : W p l e { frames := φ + 6, cells := nn r.1 - nn π0, slots := sw r.1 - sw π0, locals := ψ + 300 } s m args below meth c H locs (nn π - nn π0) (sw π - sw π0) (MQ below (va_Qi (fun v u => gx (nn π0) g0 u ∧ v = Int32.ofInt r.2.2) (fun u t => PostW D (TYs k) A (cW k z u r.1 r.2.1) t) A) args s (nn r.1 - nn π0) (sw r.1 - sw π0) A) (F0 m 332 ls [rfv g s0, rfv g s1]) := by
  have hS := hC.1
  have hq := km_Pc_apply_332 hmrApply   hC hv_s0 hv_s1 hm
  rw [Pc_apply_332] at hm
  refine lv_iload_n C.1 C.2.1 dX5_apply_332 rfl (lv_at hl 0 rfl) ?_
  obtain ⟨r177, e178, hm⟩ := obd_s hm
  have q179 := (km_Sp_give hC hv_s0 e178)
  obtain ⟨g180, hm⟩ := grd_s hm
  have q := km_Pc_apply_336 hmrApply  q179.2.1 q179.2.2 (lt_ext hv_s1 q179.1) hm
  refine c_callVqA C hE h g180 rfl (by decide) (kc_Sp_give l D k z mi aK aV g N hC hv_s0 e178) (cwV 1 C.2.2.1 (gS_X5_55 _) rfl rfl rfl hd_X9_give ⟨(by show 2 + 1 ≤ φ + 6; omega), (by show 8 + (2 + 11) + 82 ≤ ψ + 300; omega)⟩) rfl hl.1 rfl (by simp [rfv_cat, cat_i, cat_l]) dX5_apply_333 ⟨rcC hX q179.1 q.1, rsC hX q179.1 q.1⟩ (fun u H locs hg h => ?_)
  try simp only [← gx_rfv hg hv_s1]
  refine W_cast (wcC hX q179.1).symm (wsC hX q179.1).symm ?_
  exact kl_Pc_apply_336 (N := N) C hr hlk hE hφ hψ hmrApply hcrApply  q179.2.1 (hG.tr hg hX.1) (hX.tr q179.1) q179.2.2 (lt_ext hv_s1 q179.1) (lv_sub hl [] rfl) h hm
set_option maxHeartbeats 8000000 in
set_option maxRecDepth 100000 in
theorem kl_Pc_apply_317 {r : Sh × St × Int} (C : Cx p s m args c cX5_apply RX5 (cd :: cWd) D (TYs k) 3) (hr : meth.sig.returnType = (some .int)) (hlk : meth.locks = false) (hE : Ev z mi aK aV A s s.heap) {rApply : Sh → St → Int → Int → Int → Option (Sh × St × Int)} (hφ : 20 ≤ φ) (hψ : 600 ≤ ψ) (hmrApply : ∀ {π : Sh} {σ : St} {y0 : Int} {y1 : Int} {y2 : Int} {r : Sh × St × Int}, Cl π σ → y0 < nn π → y1 < nn π → rApply π σ y0 y1 y2 = some r → ext π r.1 ∧ Cl r.1 r.2.1) (hcrApply : ∀ {g : Nat → Nat} {π : Sh} {σ : St} {y0 : Int} {y1 : Int} {y2 : Int} {r : Sh × St × Int}, Cl π σ → y0 < nn π → y1 < nn π → rApply π σ y0 y1 y2 = some r → Mi l yX5_apply (.code yX5_apply cX5_apply 3 (some .int) :: cWd) { frames := φ, cells := nn r.1 - nn π, slots := sw r.1 - sw π, locals := ψ } [rfv g y0, rfv g y1, .int (Int32.ofInt y2)] D (TYs k) (cW k z g π σ) (XV z mi aK aV (cW k z g π σ)) (Nat → Nat) (fun v u => gx (nn π) g u ∧ v = Int32.ofInt r.2.2) (fun u => cW k z u r.1 r.2.1) (nn r.1 - nn π) (sw r.1 - sw π))  {ls : Array Slot} {H : Heap} {locs : List Loc} {g : Nat → Nat} {π : Sh} {σ : St} {x0 : Int} {x2 : Int} {s0 : Int} {s1 : Int} (hC : Cl π σ) (hG : gx (nn π0) g0 g) (hX : ext π0 π) (hv_x0 : x0 < nn π) (hv_s0 : s0 < nn π) (hv_s1 : s1 < nn π) (hl : lv_has ls 3 [(0, rfv g x0), (2, .int (Int32.ofInt x2))]) (h : Hp D A s.heap H locs (cW k z g π σ)) (hm : Pc_apply_317 N rApply π σ x0 x2 s0 s1 = some r) : W p l e { frames := φ + 6, cells := nn r.1 - nn π0, slots := sw r.1 - sw π0, locals := ψ + 300 } s m args below meth c H locs (nn π - nn π0) (sw π - sw π0) (MQ below (va_Qi (fun v u => gx (nn π0) g0 u ∧ v = Int32.ofInt r.2.2) (fun u t => PostW D (TYs k) A (cW k z u r.1 r.2.1) t) A) args s (nn r.1 - nn π0) (sw r.1 - sw π0) A) (F0 m 317 ls [rfv g s0, rfv g s1]) := by
  have hS := hC.1
  have hq := km_Pc_apply_317 hmrApply   hC hv_x0 hv_s0 hv_s1 hm
  rw [Pc_apply_317] at hm
  refine lv_dup C.1 C.2.1 dX5_apply_317 (rfv_cat _ _) ?_
  refine lv_bipush (v := Int32.ofInt 18) C.1 C.2.1 dX5_apply_318 (by decide) ?_
  refine z_aload_n C dX5_apply_320 rfl (lv_at hl 0 rfl) ?_
  obtain ⟨g111, hm⟩ := grd_s hm
  refine cg_6_1 C h g111 cU_X5 (List.mem_cons_of_mem _ wl_X5_43) dX5_apply_321 ?_
  refine z_aload_n C dX5_apply_324 rfl (lv_at hl 0 rfl) ?_
  refine cg_6_2 C h g111 cU_X5 (List.mem_cons_of_mem _ wl_X5_7) dX5_apply_325 ?_
  refine lv_iconst (v := Int32.ofInt 0) C.1 C.2.1 dX5_apply_328 (by decide) ?_
  obtain ⟨r112, e113, hm⟩ := obd_s hm
  have q114 := (km_Sp_initB hC hv_s0 e113)
  obtain ⟨g115, hm⟩ := grd_s hm
  have q := km_Pc_apply_332 hmrApply  q114.2 (lt_ext hv_s0 q114.1) (lt_ext hv_s1 q114.1) hm
  refine c_callIvA C hE h g115 (kc_Sp_initB l D k z mi aK aV g N hC hv_s0 e113) (cwI 4 C.2.2.1 (gC_X9_init_ _) rfl rfl rfl (C.2.2.1 _ (List.mem_cons_of_mem _ wt_X9)) (C.2.2.1 _ (List.mem_cons_of_mem _ wm_X5_52)) (C.2.2.1 _ (List.mem_cons_of_mem _ wj_X9_init_)) rfl hdS_X9_init_ ⟨(by show 1 + 1 ≤ φ + 6; omega), (by show 8 + (5 + 11) + 30 ≤ ψ + 300; omega)⟩) rfl hl.1 rfl (by simp [rfv_cat, cat_i, cat_l]) dX5_apply_329 ⟨rcC hX q114.1 q.1, rsC hX q114.1 q.1⟩ (fun u H locs hg h => ?_)
  simp only [← gx_rfv hg hv_x0, ← gx_rfv hg hv_s0, ← gx_rfv hg hv_s1] at hl
  try simp only [← gx_rfv hg hv_x0, ← gx_rfv hg hv_s0, ← gx_rfv hg hv_s1]
  refine W_cast (wcC hX q114.1).symm (wsC hX q114.1).symm ?_
  exact kl_Pc_apply_332 (N := N) C hr hlk hE hφ hψ hmrApply hcrApply  q114.2 (hG.tr hg hX.1) (hX.tr q114.1) (lt_ext hv_s0 q114.1) (lt_ext hv_s1 q114.1) (lv_sub hl [1] rfl) h hm
set_option maxHeartbeats 8000000 in
set_option maxRecDepth 100000 in
theorem kl_Pc_apply_424 {r : Sh × St × Int} (C : Cx p s m args c cX5_apply RX5 (cd :: cWd) D (TYs k) 3) (hr : meth.sig.returnType = (some .int)) (hlk : meth.locks = false) (hE : Ev z mi aK aV A s s.heap) {rApply : Sh → St → Int → Int → Int → Option (Sh × St × Int)} (hφ : 20 ≤ φ) (hψ : 600 ≤ ψ) (hmrApply : ∀ {π : Sh} {σ : St} {y0 : Int} {y1 : Int} {y2 : Int} {r : Sh × St × Int}, Cl π σ → y0 < nn π → y1 < nn π → rApply π σ y0 y1 y2 = some r → ext π r.1 ∧ Cl r.1 r.2.1) (hcrApply : ∀ {g : Nat → Nat} {π : Sh} {σ : St} {y0 : Int} {y1 : Int} {y2 : Int} {r : Sh × St × Int}, Cl π σ → y0 < nn π → y1 < nn π → rApply π σ y0 y1 y2 = some r → Mi l yX5_apply (.code yX5_apply cX5_apply 3 (some .int) :: cWd) { frames := φ, cells := nn r.1 - nn π, slots := sw r.1 - sw π, locals := ψ } [rfv g y0, rfv g y1, .int (Int32.ofInt y2)] D (TYs k) (cW k z g π σ) (XV z mi aK aV (cW k z g π σ)) (Nat → Nat) (fun v u => gx (nn π) g u ∧ v = Int32.ofInt r.2.2) (fun u => cW k z u r.1 r.2.1) (nn r.1 - nn π) (sw r.1 - sw π))  {ls : Array Slot} {H : Heap} {locs : List Loc} {g : Nat → Nat} {π : Sh} {σ : St} {s0 : Int} (hC : Cl π σ) (hG : gx (nn π0) g0 g) (hX : ext π0 π)  (hl : lv_has ls 3 []) (h : Hp D A s.heap H locs (cW k z g π σ)) (hm : Pc_apply_424 N rApply π σ s0 = some r) : W p l e { frames := φ + 6, cells := nn r.1 - nn π0, slots := sw r.1 - sw π0, locals := ψ + 300 } s m args below meth c H locs (nn π - nn π0) (sw π - sw π0) (MQ below (va_Qi (fun v u => gx (nn π0) g0 u ∧ v = Int32.ofInt r.2.2) (fun u t => PostW D (TYs k) A (cW k z u r.1 r.2.1) t) A) args s (nn r.1 - nn π0) (sw r.1 - sw π0) A) (F0 m 424 ls [.int (Int32.ofInt s0)]) := by
  have hS := hC.1
  have hq := km_Pc_apply_424 hmrApply   hC  hm
  rw [Pc_apply_424] at hm
  cases hm
  exact c_iretA C hG h hr hlk dX5_apply_424 rfl
set_option maxHeartbeats 8000000 in
set_option maxRecDepth 100000 in
theorem kl_Pc_apply_421 {r : Sh × St × Int} (C : Cx p s m args c cX5_apply RX5 (cd :: cWd) D (TYs k) 3) (hr : meth.sig.returnType = (some .int)) (hlk : meth.locks = false) (hE : Ev z mi aK aV A s s.heap) {rApply : Sh → St → Int → Int → Int → Option (Sh × St × Int)} (hφ : 20 ≤ φ) (hψ : 600 ≤ ψ) (hmrApply : ∀ {π : Sh} {σ : St} {y0 : Int} {y1 : Int} {y2 : Int} {r : Sh × St × Int}, Cl π σ → y0 < nn π → y1 < nn π → rApply π σ y0 y1 y2 = some r → ext π r.1 ∧ Cl r.1 r.2.1) (hcrApply : ∀ {g : Nat → Nat} {π : Sh} {σ : St} {y0 : Int} {y1 : Int} {y2 : Int} {r : Sh × St × Int}, Cl π σ → y0 < nn π → y1 < nn π → rApply π σ y0 y1 y2 = some r → Mi l yX5_apply (.code yX5_apply cX5_apply 3 (some .int) :: cWd) { frames := φ, cells := nn r.1 - nn π, slots := sw r.1 - sw π, locals := ψ } [rfv g y0, rfv g y1, .int (Int32.ofInt y2)] D (TYs k) (cW k z g π σ) (XV z mi aK aV (cW k z g π σ)) (Nat → Nat) (fun v u => gx (nn π) g u ∧ v = Int32.ofInt r.2.2) (fun u => cW k z u r.1 r.2.1) (nn r.1 - nn π) (sw r.1 - sw π))  {ls : Array Slot} {H : Heap} {locs : List Loc} {g : Nat → Nat} {π : Sh} {σ : St} {s0 : Int} {s1 : Int} (hC : Cl π σ) (hG : gx (nn π0) g0 g) (hX : ext π0 π) (hv_s0 : s0 < nn π) (hv_s1 : s1 < nn π) (hl : lv_has ls 3 []) (h : Hp D A s.heap H locs (cW k z g π σ)) (hm : Pc_apply_421 N rApply π σ s0 s1 = some r) : W p l e { frames := φ + 6, cells := nn r.1 - nn π0, slots := sw r.1 - sw π0, locals := ψ + 300 } s m args below meth c H locs (nn π - nn π0) (sw π - sw π0) (MQ below (va_Qi (fun v u => gx (nn π0) g0 u ∧ v = Int32.ofInt r.2.2) (fun u t => PostW D (TYs k) A (cW k z u r.1 r.2.1) t) A) args s (nn r.1 - nn π0) (sw r.1 - sw π0) A) (F0 m 421 ls [rfv g s0, rfv g s1]) := by
  have hS := hC.1
  have hq := km_Pc_apply_421 hmrApply   hC hv_s0 hv_s1 hm
  rw [Pc_apply_421] at hm
  obtain ⟨r270, e271, hm⟩ := obd_s hm
  have q272 := (km_Df_add hC hv_s1 hv_s0 e271)
  obtain ⟨g273, hm⟩ := grd_s hm
  have q := km_Pc_apply_424 hmrApply  q272.2  hm
  refine c_callViA C hE h g273 rfl (by decide) (kc_Df_add l D k z mi aK aV g N hC hv_s1 hv_s0 e271) (cwV 1 C.2.2.1 (gS_X5_59 _) rfl rfl rfl hd_X0_add ⟨(by show 7 + 1 ≤ φ + 6; omega), (by show 8 + (2 + 11) + 241 ≤ ψ + 300; omega)⟩) rfl hl.1 rfl (Nat.le_of_ble_eq_true rfl) dX5_apply_421 ⟨rcC hX q272.1 q.1, rsC hX q272.1 q.1⟩ (fun u H locs hg h => ?_)
  refine W_cast (wcC hX q272.1).symm (wsC hX q272.1).symm ?_
  exact kl_Pc_apply_424 (N := N) C hr hlk hE hφ hψ hmrApply hcrApply  q272.2 (hG.tr hg hX.1) (hX.tr q272.1)  (lv_sub hl [] rfl) h hm
set_option maxHeartbeats 8000000 in
set_option maxRecDepth 100000 in
theorem kl_Pc_apply_417 {r : Sh × St × Int} (C : Cx p s m args c cX5_apply RX5 (cd :: cWd) D (TYs k) 3) (hr : meth.sig.returnType = (some .int)) (hlk : meth.locks = false) (hE : Ev z mi aK aV A s s.heap) {rApply : Sh → St → Int → Int → Int → Option (Sh × St × Int)} (hφ : 20 ≤ φ) (hψ : 600 ≤ ψ) (hmrApply : ∀ {π : Sh} {σ : St} {y0 : Int} {y1 : Int} {y2 : Int} {r : Sh × St × Int}, Cl π σ → y0 < nn π → y1 < nn π → rApply π σ y0 y1 y2 = some r → ext π r.1 ∧ Cl r.1 r.2.1) (hcrApply : ∀ {g : Nat → Nat} {π : Sh} {σ : St} {y0 : Int} {y1 : Int} {y2 : Int} {r : Sh × St × Int}, Cl π σ → y0 < nn π → y1 < nn π → rApply π σ y0 y1 y2 = some r → Mi l yX5_apply (.code yX5_apply cX5_apply 3 (some .int) :: cWd) { frames := φ, cells := nn r.1 - nn π, slots := sw r.1 - sw π, locals := ψ } [rfv g y0, rfv g y1, .int (Int32.ofInt y2)] D (TYs k) (cW k z g π σ) (XV z mi aK aV (cW k z g π σ)) (Nat → Nat) (fun v u => gx (nn π) g u ∧ v = Int32.ofInt r.2.2) (fun u => cW k z u r.1 r.2.1) (nn r.1 - nn π) (sw r.1 - sw π))  {ls : Array Slot} {H : Heap} {locs : List Loc} {g : Nat → Nat} {π : Sh} {σ : St} {x2 : Int} {s0 : Int} {s1 : Int} (hC : Cl π σ) (hG : gx (nn π0) g0 g) (hX : ext π0 π) (hv_s0 : s0 < nn π) (hv_s1 : s1 < nn π) (hl : lv_has ls 3 [(2, .int (Int32.ofInt x2))]) (h : Hp D A s.heap H locs (cW k z g π σ)) (hm : Pc_apply_417 N rApply π σ x2 s0 s1 = some r) : W p l e { frames := φ + 6, cells := nn r.1 - nn π0, slots := sw r.1 - sw π0, locals := ψ + 300 } s m args below meth c H locs (nn π - nn π0) (sw π - sw π0) (MQ below (va_Qi (fun v u => gx (nn π0) g0 u ∧ v = Int32.ofInt r.2.2) (fun u t => PostW D (TYs k) A (cW k z u r.1 r.2.1) t) A) args s (nn r.1 - nn π0) (sw r.1 - sw π0) A) (F0 m 417 ls [rfv g s0, rfv g s1]) := by
  have hS := hC.1
  have hq := km_Pc_apply_417 hmrApply   hC hv_s0 hv_s1 hm
  rw [Pc_apply_417] at hm
  refine lv_iload_n C.1 C.2.1 dX5_apply_417 rfl (lv_at hl 0 rfl) ?_
  obtain ⟨r247, e248, hm⟩ := obd_s hm
  have q249 := (km_Sp_give hC hv_s0 e248)
  obtain ⟨g250, hm⟩ := grd_s hm
  have q := km_Pc_apply_421 hmrApply  q249.2.1 q249.2.2 (lt_ext hv_s1 q249.1) hm
  refine c_callVqA C hE h g250 rfl (by decide) (kc_Sp_give l D k z mi aK aV g N hC hv_s0 e248) (cwV 1 C.2.2.1 (gS_X5_55 _) rfl rfl rfl hd_X9_give ⟨(by show 2 + 1 ≤ φ + 6; omega), (by show 8 + (2 + 11) + 82 ≤ ψ + 300; omega)⟩) rfl hl.1 rfl (by simp [rfv_cat, cat_i, cat_l]) dX5_apply_418 ⟨rcC hX q249.1 q.1, rsC hX q249.1 q.1⟩ (fun u H locs hg h => ?_)
  try simp only [← gx_rfv hg hv_s1]
  refine W_cast (wcC hX q249.1).symm (wsC hX q249.1).symm ?_
  exact kl_Pc_apply_421 (N := N) C hr hlk hE hφ hψ hmrApply hcrApply  q249.2.1 (hG.tr hg hX.1) (hX.tr q249.1) q249.2.2 (lt_ext hv_s1 q249.1) (lv_sub hl [] rfl) h hm
set_option maxHeartbeats 8000000 in
set_option maxRecDepth 100000 in
theorem kl_Pc_apply_408 {r : Sh × St × Int} (C : Cx p s m args c cX5_apply RX5 (cd :: cWd) D (TYs k) 3) (hr : meth.sig.returnType = (some .int)) (hlk : meth.locks = false) (hE : Ev z mi aK aV A s s.heap) {rApply : Sh → St → Int → Int → Int → Option (Sh × St × Int)} (hφ : 20 ≤ φ) (hψ : 600 ≤ ψ) (hmrApply : ∀ {π : Sh} {σ : St} {y0 : Int} {y1 : Int} {y2 : Int} {r : Sh × St × Int}, Cl π σ → y0 < nn π → y1 < nn π → rApply π σ y0 y1 y2 = some r → ext π r.1 ∧ Cl r.1 r.2.1) (hcrApply : ∀ {g : Nat → Nat} {π : Sh} {σ : St} {y0 : Int} {y1 : Int} {y2 : Int} {r : Sh × St × Int}, Cl π σ → y0 < nn π → y1 < nn π → rApply π σ y0 y1 y2 = some r → Mi l yX5_apply (.code yX5_apply cX5_apply 3 (some .int) :: cWd) { frames := φ, cells := nn r.1 - nn π, slots := sw r.1 - sw π, locals := ψ } [rfv g y0, rfv g y1, .int (Int32.ofInt y2)] D (TYs k) (cW k z g π σ) (XV z mi aK aV (cW k z g π σ)) (Nat → Nat) (fun v u => gx (nn π) g u ∧ v = Int32.ofInt r.2.2) (fun u => cW k z u r.1 r.2.1) (nn r.1 - nn π) (sw r.1 - sw π))  {ls : Array Slot} {H : Heap} {locs : List Loc} {g : Nat → Nat} {π : Sh} {σ : St} {x0 : Int} {x2 : Int} {s0 : Int} {s1 : Int} (hC : Cl π σ) (hG : gx (nn π0) g0 g) (hX : ext π0 π) (hv_x0 : x0 < nn π) (hv_s0 : s0 < nn π) (hv_s1 : s1 < nn π) (hl : lv_has ls 3 [(0, rfv g x0), (2, .int (Int32.ofInt x2))]) (h : Hp D A s.heap H locs (cW k z g π σ)) (hm : Pc_apply_408 N rApply π σ x0 x2 s0 s1 = some r) : W p l e { frames := φ + 6, cells := nn r.1 - nn π0, slots := sw r.1 - sw π0, locals := ψ + 300 } s m args below meth c H locs (nn π - nn π0) (sw π - sw π0) (MQ below (va_Qi (fun v u => gx (nn π0) g0 u ∧ v = Int32.ofInt r.2.2) (fun u t => PostW D (TYs k) A (cW k z u r.1 r.2.1) t) A) args s (nn r.1 - nn π0) (sw r.1 - sw π0) A) (F0 m 408 ls [rfv g s0, rfv g s1]) := by
  have hS := hC.1
  have hq := km_Pc_apply_408 hmrApply   hC hv_x0 hv_s0 hv_s1 hm
  rw [Pc_apply_408] at hm
  refine z_aload_n C dX5_apply_408 rfl (lv_at hl 0 rfl) ?_
  obtain ⟨g181, hm⟩ := grd_s hm
  refine cg_6_9 C h g181 cU_X5 (List.mem_cons_of_mem _ wl_X5_33) dX5_apply_409 ?_
  refine lv_iconst (v := Int32.ofInt 0) C.1 C.2.1 dX5_apply_412 (by decide) ?_
  obtain ⟨g182, hm⟩ := grd_s hm
  obtain ⟨g183, hm⟩ := grd_s hm
  refine c_iald C h g182 g183 dX5_apply_413 ?_
  obtain ⟨r184, e185, hm⟩ := obd_s hm
  have q186 := (km_Sp_give hC hv_s0 e185)
  obtain ⟨g187, hm⟩ := grd_s hm
  have q := km_Pc_apply_417 hmrApply  q186.2.1 q186.2.2 (lt_ext hv_s1 q186.1) hm
  refine c_callVqA C hE h g187 rfl (by decide) (kc_Sp_give l D k z mi aK aV g N hC hv_s0 e185) (cwV 1 C.2.2.1 (gS_X5_55 _) rfl rfl rfl hd_X9_give ⟨(by show 2 + 1 ≤ φ + 6; omega), (by show 8 + (2 + 11) + 82 ≤ ψ + 300; omega)⟩) rfl hl.1 rfl (by simp [rfv_cat, cat_i, cat_l]) dX5_apply_414 ⟨rcC hX q186.1 q.1, rsC hX q186.1 q.1⟩ (fun u H locs hg h => ?_)
  simp only [← gx_rfv hg hv_x0, ← gx_rfv hg hv_s1] at hl
  try simp only [← gx_rfv hg hv_x0, ← gx_rfv hg hv_s1]
  refine W_cast (wcC hX q186.1).symm (wsC hX q186.1).symm ?_
  exact kl_Pc_apply_417 (N := N) C hr hlk hE hφ hψ hmrApply hcrApply  q186.2.1 (hG.tr hg hX.1) (hX.tr q186.1) q186.2.2 (lt_ext hv_s1 q186.1) (lv_sub hl [1] rfl) h hm
set_option maxHeartbeats 8000000 in
set_option maxRecDepth 100000 in
theorem kl_Pc_apply_398 {r : Sh × St × Int} (C : Cx p s m args c cX5_apply RX5 (cd :: cWd) D (TYs k) 3) (hr : meth.sig.returnType = (some .int)) (hlk : meth.locks = false) (hE : Ev z mi aK aV A s s.heap) {rApply : Sh → St → Int → Int → Int → Option (Sh × St × Int)} (hφ : 20 ≤ φ) (hψ : 600 ≤ ψ) (hmrApply : ∀ {π : Sh} {σ : St} {y0 : Int} {y1 : Int} {y2 : Int} {r : Sh × St × Int}, Cl π σ → y0 < nn π → y1 < nn π → rApply π σ y0 y1 y2 = some r → ext π r.1 ∧ Cl r.1 r.2.1) (hcrApply : ∀ {g : Nat → Nat} {π : Sh} {σ : St} {y0 : Int} {y1 : Int} {y2 : Int} {r : Sh × St × Int}, Cl π σ → y0 < nn π → y1 < nn π → rApply π σ y0 y1 y2 = some r → Mi l yX5_apply (.code yX5_apply cX5_apply 3 (some .int) :: cWd) { frames := φ, cells := nn r.1 - nn π, slots := sw r.1 - sw π, locals := ψ } [rfv g y0, rfv g y1, .int (Int32.ofInt y2)] D (TYs k) (cW k z g π σ) (XV z mi aK aV (cW k z g π σ)) (Nat → Nat) (fun v u => gx (nn π) g u ∧ v = Int32.ofInt r.2.2) (fun u => cW k z u r.1 r.2.1) (nn r.1 - nn π) (sw r.1 - sw π))  {ls : Array Slot} {H : Heap} {locs : List Loc} {g : Nat → Nat} {π : Sh} {σ : St} {x0 : Int} {x2 : Int} {s0 : Int} {s1 : Int} (hC : Cl π σ) (hG : gx (nn π0) g0 g) (hX : ext π0 π) (hv_x0 : x0 < nn π) (hv_s0 : s0 < nn π) (hv_s1 : s1 < nn π) (hl : lv_has ls 3 [(0, rfv g x0), (2, .int (Int32.ofInt x2))]) (h : Hp D A s.heap H locs (cW k z g π σ)) (hm : Pc_apply_398 N rApply π σ x0 x2 s0 s1 = some r) : W p l e { frames := φ + 6, cells := nn r.1 - nn π0, slots := sw r.1 - sw π0, locals := ψ + 300 } s m args below meth c H locs (nn π - nn π0) (sw π - sw π0) (MQ below (va_Qi (fun v u => gx (nn π0) g0 u ∧ v = Int32.ofInt r.2.2) (fun u t => PostW D (TYs k) A (cW k z u r.1 r.2.1) t) A) args s (nn r.1 - nn π0) (sw r.1 - sw π0) A) (F0 m 398 ls [rfv g s0, rfv g s1]) := by
  have hS := hC.1
  have hq := km_Pc_apply_398 hmrApply   hC hv_x0 hv_s0 hv_s1 hm
  rw [Pc_apply_398] at hm
  refine lv_dup C.1 C.2.1 dX5_apply_398 (rfv_cat _ _) ?_
  refine lv_bipush (v := Int32.ofInt 19) C.1 C.2.1 dX5_apply_399 (by decide) ?_
  refine z_aload_n C dX5_apply_401 rfl (lv_at hl 0 rfl) ?_
  obtain ⟨g116, hm⟩ := grd_s hm
  refine cg_6_1 C h g116 cU_X5 (List.mem_cons_of_mem _ wl_X5_43) dX5_apply_402 ?_
  obtain ⟨r117, e118, hm⟩ := obd_s hm
  have q119 := (km_Sp_init hC hv_s0 e118)
  obtain ⟨g120, hm⟩ := grd_s hm
  have q := km_Pc_apply_408 hmrApply  q119.2 (lt_ext hv_x0 q119.1) (lt_ext hv_s0 q119.1) (lt_ext hv_s1 q119.1) hm
  refine c_callIvA C hE h g120 (kc_Sp_init l D k z mi aK aV g N hC hv_s0 e118) (cwI 2 C.2.2.1 (gC_X9_init _) rfl rfl rfl (C.2.2.1 _ (List.mem_cons_of_mem _ wt_X9)) (C.2.2.1 _ (List.mem_cons_of_mem _ wm_X5_65)) (C.2.2.1 _ (List.mem_cons_of_mem _ wj_X9_init)) rfl hdS_X9_init ⟨(by show 1 + 1 ≤ φ + 6; omega), (by show 8 + (3 + 11) + 30 ≤ ψ + 300; omega)⟩) rfl hl.1 rfl (by simp [rfv_cat, cat_i, cat_l]) dX5_apply_405 ⟨rcC hX q119.1 q.1, rsC hX q119.1 q.1⟩ (fun u H locs hg h => ?_)
  simp only [← gx_rfv hg hv_x0, ← gx_rfv hg hv_s0, ← gx_rfv hg hv_s1] at hl
  try simp only [← gx_rfv hg hv_x0, ← gx_rfv hg hv_s0, ← gx_rfv hg hv_s1]
  refine W_cast (wcC hX q119.1).symm (wsC hX q119.1).symm ?_
  exact kl_Pc_apply_408 (N := N) C hr hlk hE hφ hψ hmrApply hcrApply  q119.2 (hG.tr hg hX.1) (hX.tr q119.1) (lt_ext hv_x0 q119.1) (lt_ext hv_s0 q119.1) (lt_ext hv_s1 q119.1) (lv_sub hl [0, 1] rfl) h hm
set_option maxHeartbeats 8000000 in
set_option maxRecDepth 100000 in
theorem kl_Pc_apply_455 {r : Sh × St × Int} (C : Cx p s m args c cX5_apply RX5 (cd :: cWd) D (TYs k) 3) (hr : meth.sig.returnType = (some .int)) (hlk : meth.locks = false) (hE : Ev z mi aK aV A s s.heap) {rApply : Sh → St → Int → Int → Int → Option (Sh × St × Int)} (hφ : 20 ≤ φ) (hψ : 600 ≤ ψ) (hmrApply : ∀ {π : Sh} {σ : St} {y0 : Int} {y1 : Int} {y2 : Int} {r : Sh × St × Int}, Cl π σ → y0 < nn π → y1 < nn π → rApply π σ y0 y1 y2 = some r → ext π r.1 ∧ Cl r.1 r.2.1) (hcrApply : ∀ {g : Nat → Nat} {π : Sh} {σ : St} {y0 : Int} {y1 : Int} {y2 : Int} {r : Sh × St × Int}, Cl π σ → y0 < nn π → y1 < nn π → rApply π σ y0 y1 y2 = some r → Mi l yX5_apply (.code yX5_apply cX5_apply 3 (some .int) :: cWd) { frames := φ, cells := nn r.1 - nn π, slots := sw r.1 - sw π, locals := ψ } [rfv g y0, rfv g y1, .int (Int32.ofInt y2)] D (TYs k) (cW k z g π σ) (XV z mi aK aV (cW k z g π σ)) (Nat → Nat) (fun v u => gx (nn π) g u ∧ v = Int32.ofInt r.2.2) (fun u => cW k z u r.1 r.2.1) (nn r.1 - nn π) (sw r.1 - sw π))  {ls : Array Slot} {H : Heap} {locs : List Loc} {g : Nat → Nat} {π : Sh} {σ : St} {s0 : Int} (hC : Cl π σ) (hG : gx (nn π0) g0 g) (hX : ext π0 π)  (hl : lv_has ls 3 []) (h : Hp D A s.heap H locs (cW k z g π σ)) (hm : Pc_apply_455 N rApply π σ s0 = some r) : W p l e { frames := φ + 6, cells := nn r.1 - nn π0, slots := sw r.1 - sw π0, locals := ψ + 300 } s m args below meth c H locs (nn π - nn π0) (sw π - sw π0) (MQ below (va_Qi (fun v u => gx (nn π0) g0 u ∧ v = Int32.ofInt r.2.2) (fun u t => PostW D (TYs k) A (cW k z u r.1 r.2.1) t) A) args s (nn r.1 - nn π0) (sw r.1 - sw π0) A) (F0 m 455 ls [.int (Int32.ofInt s0)]) := by
  have hS := hC.1
  have hq := km_Pc_apply_455 hmrApply   hC  hm
  rw [Pc_apply_455] at hm
  cases hm
  exact c_iretA C hG h hr hlk dX5_apply_455 rfl
set_option maxHeartbeats 8000000 in
set_option maxRecDepth 100000 in
theorem kl_Pc_apply_452 {r : Sh × St × Int} (C : Cx p s m args c cX5_apply RX5 (cd :: cWd) D (TYs k) 3) (hr : meth.sig.returnType = (some .int)) (hlk : meth.locks = false) (hE : Ev z mi aK aV A s s.heap) {rApply : Sh → St → Int → Int → Int → Option (Sh × St × Int)} (hφ : 20 ≤ φ) (hψ : 600 ≤ ψ) (hmrApply : ∀ {π : Sh} {σ : St} {y0 : Int} {y1 : Int} {y2 : Int} {r : Sh × St × Int}, Cl π σ → y0 < nn π → y1 < nn π → rApply π σ y0 y1 y2 = some r → ext π r.1 ∧ Cl r.1 r.2.1) (hcrApply : ∀ {g : Nat → Nat} {π : Sh} {σ : St} {y0 : Int} {y1 : Int} {y2 : Int} {r : Sh × St × Int}, Cl π σ → y0 < nn π → y1 < nn π → rApply π σ y0 y1 y2 = some r → Mi l yX5_apply (.code yX5_apply cX5_apply 3 (some .int) :: cWd) { frames := φ, cells := nn r.1 - nn π, slots := sw r.1 - sw π, locals := ψ } [rfv g y0, rfv g y1, .int (Int32.ofInt y2)] D (TYs k) (cW k z g π σ) (XV z mi aK aV (cW k z g π σ)) (Nat → Nat) (fun v u => gx (nn π) g u ∧ v = Int32.ofInt r.2.2) (fun u => cW k z u r.1 r.2.1) (nn r.1 - nn π) (sw r.1 - sw π))  {ls : Array Slot} {H : Heap} {locs : List Loc} {g : Nat → Nat} {π : Sh} {σ : St} {s0 : Int} {s1 : Int} (hC : Cl π σ) (hG : gx (nn π0) g0 g) (hX : ext π0 π) (hv_s0 : s0 < nn π) (hv_s1 : s1 < nn π) (hl : lv_has ls 3 []) (h : Hp D A s.heap H locs (cW k z g π σ)) (hm : Pc_apply_452 N rApply π σ s0 s1 = some r) : W p l e { frames := φ + 6, cells := nn r.1 - nn π0, slots := sw r.1 - sw π0, locals := ψ + 300 } s m args below meth c H locs (nn π - nn π0) (sw π - sw π0) (MQ below (va_Qi (fun v u => gx (nn π0) g0 u ∧ v = Int32.ofInt r.2.2) (fun u t => PostW D (TYs k) A (cW k z u r.1 r.2.1) t) A) args s (nn r.1 - nn π0) (sw r.1 - sw π0) A) (F0 m 452 ls [rfv g s0, rfv g s1]) := by
  have hS := hC.1
  have hq := km_Pc_apply_452 hmrApply   hC hv_s0 hv_s1 hm
  rw [Pc_apply_452] at hm
  obtain ⟨r274, e275, hm⟩ := obd_s hm
  have q276 := (km_Df_add hC hv_s1 hv_s0 e275)
  obtain ⟨g277, hm⟩ := grd_s hm
  have q := km_Pc_apply_455 hmrApply  q276.2  hm
  refine c_callViA C hE h g277 rfl (by decide) (kc_Df_add l D k z mi aK aV g N hC hv_s1 hv_s0 e275) (cwV 1 C.2.2.1 (gS_X5_59 _) rfl rfl rfl hd_X0_add ⟨(by show 7 + 1 ≤ φ + 6; omega), (by show 8 + (2 + 11) + 241 ≤ ψ + 300; omega)⟩) rfl hl.1 rfl (Nat.le_of_ble_eq_true rfl) dX5_apply_452 ⟨rcC hX q276.1 q.1, rsC hX q276.1 q.1⟩ (fun u H locs hg h => ?_)
  refine W_cast (wcC hX q276.1).symm (wsC hX q276.1).symm ?_
  exact kl_Pc_apply_455 (N := N) C hr hlk hE hφ hψ hmrApply hcrApply  q276.2 (hG.tr hg hX.1) (hX.tr q276.1)  (lv_sub hl [] rfl) h hm
set_option maxHeartbeats 8000000 in
set_option maxRecDepth 100000 in
theorem kl_Pc_apply_448 {r : Sh × St × Int} (C : Cx p s m args c cX5_apply RX5 (cd :: cWd) D (TYs k) 3) (hr : meth.sig.returnType = (some .int)) (hlk : meth.locks = false) (hE : Ev z mi aK aV A s s.heap) {rApply : Sh → St → Int → Int → Int → Option (Sh × St × Int)} (hφ : 20 ≤ φ) (hψ : 600 ≤ ψ) (hmrApply : ∀ {π : Sh} {σ : St} {y0 : Int} {y1 : Int} {y2 : Int} {r : Sh × St × Int}, Cl π σ → y0 < nn π → y1 < nn π → rApply π σ y0 y1 y2 = some r → ext π r.1 ∧ Cl r.1 r.2.1) (hcrApply : ∀ {g : Nat → Nat} {π : Sh} {σ : St} {y0 : Int} {y1 : Int} {y2 : Int} {r : Sh × St × Int}, Cl π σ → y0 < nn π → y1 < nn π → rApply π σ y0 y1 y2 = some r → Mi l yX5_apply (.code yX5_apply cX5_apply 3 (some .int) :: cWd) { frames := φ, cells := nn r.1 - nn π, slots := sw r.1 - sw π, locals := ψ } [rfv g y0, rfv g y1, .int (Int32.ofInt y2)] D (TYs k) (cW k z g π σ) (XV z mi aK aV (cW k z g π σ)) (Nat → Nat) (fun v u => gx (nn π) g u ∧ v = Int32.ofInt r.2.2) (fun u => cW k z u r.1 r.2.1) (nn r.1 - nn π) (sw r.1 - sw π))  {ls : Array Slot} {H : Heap} {locs : List Loc} {g : Nat → Nat} {π : Sh} {σ : St} {x2 : Int} {s0 : Int} {s1 : Int} (hC : Cl π σ) (hG : gx (nn π0) g0 g) (hX : ext π0 π) (hv_s0 : s0 < nn π) (hv_s1 : s1 < nn π) (hl : lv_has ls 3 [(2, .int (Int32.ofInt x2))]) (h : Hp D A s.heap H locs (cW k z g π σ)) (hm : Pc_apply_448 N rApply π σ x2 s0 s1 = some r) : W p l e { frames := φ + 6, cells := nn r.1 - nn π0, slots := sw r.1 - sw π0, locals := ψ + 300 } s m args below meth c H locs (nn π - nn π0) (sw π - sw π0) (MQ below (va_Qi (fun v u => gx (nn π0) g0 u ∧ v = Int32.ofInt r.2.2) (fun u t => PostW D (TYs k) A (cW k z u r.1 r.2.1) t) A) args s (nn r.1 - nn π0) (sw r.1 - sw π0) A) (F0 m 448 ls [rfv g s0, rfv g s1]) := by
  have hS := hC.1
  have hq := km_Pc_apply_448 hmrApply   hC hv_s0 hv_s1 hm
  rw [Pc_apply_448] at hm
  refine lv_iload_n C.1 C.2.1 dX5_apply_448 rfl (lv_at hl 0 rfl) ?_
  obtain ⟨r251, e252, hm⟩ := obd_s hm
  have q253 := (km_Sp_give hC hv_s0 e252)
  obtain ⟨g254, hm⟩ := grd_s hm
  have q := km_Pc_apply_452 hmrApply  q253.2.1 q253.2.2 (lt_ext hv_s1 q253.1) hm
  refine c_callVqA C hE h g254 rfl (by decide) (kc_Sp_give l D k z mi aK aV g N hC hv_s0 e252) (cwV 1 C.2.2.1 (gS_X5_55 _) rfl rfl rfl hd_X9_give ⟨(by show 2 + 1 ≤ φ + 6; omega), (by show 8 + (2 + 11) + 82 ≤ ψ + 300; omega)⟩) rfl hl.1 rfl (by simp [rfv_cat, cat_i, cat_l]) dX5_apply_449 ⟨rcC hX q253.1 q.1, rsC hX q253.1 q.1⟩ (fun u H locs hg h => ?_)
  try simp only [← gx_rfv hg hv_s1]
  refine W_cast (wcC hX q253.1).symm (wsC hX q253.1).symm ?_
  exact kl_Pc_apply_452 (N := N) C hr hlk hE hφ hψ hmrApply hcrApply  q253.2.1 (hG.tr hg hX.1) (hX.tr q253.1) q253.2.2 (lt_ext hv_s1 q253.1) (lv_sub hl [] rfl) h hm
set_option maxHeartbeats 8000000 in
set_option maxRecDepth 100000 in
theorem kl_Pc_apply_439 {r : Sh × St × Int} (C : Cx p s m args c cX5_apply RX5 (cd :: cWd) D (TYs k) 3) (hr : meth.sig.returnType = (some .int)) (hlk : meth.locks = false) (hE : Ev z mi aK aV A s s.heap) {rApply : Sh → St → Int → Int → Int → Option (Sh × St × Int)} (hφ : 20 ≤ φ) (hψ : 600 ≤ ψ) (hmrApply : ∀ {π : Sh} {σ : St} {y0 : Int} {y1 : Int} {y2 : Int} {r : Sh × St × Int}, Cl π σ → y0 < nn π → y1 < nn π → rApply π σ y0 y1 y2 = some r → ext π r.1 ∧ Cl r.1 r.2.1) (hcrApply : ∀ {g : Nat → Nat} {π : Sh} {σ : St} {y0 : Int} {y1 : Int} {y2 : Int} {r : Sh × St × Int}, Cl π σ → y0 < nn π → y1 < nn π → rApply π σ y0 y1 y2 = some r → Mi l yX5_apply (.code yX5_apply cX5_apply 3 (some .int) :: cWd) { frames := φ, cells := nn r.1 - nn π, slots := sw r.1 - sw π, locals := ψ } [rfv g y0, rfv g y1, .int (Int32.ofInt y2)] D (TYs k) (cW k z g π σ) (XV z mi aK aV (cW k z g π σ)) (Nat → Nat) (fun v u => gx (nn π) g u ∧ v = Int32.ofInt r.2.2) (fun u => cW k z u r.1 r.2.1) (nn r.1 - nn π) (sw r.1 - sw π))  {ls : Array Slot} {H : Heap} {locs : List Loc} {g : Nat → Nat} {π : Sh} {σ : St} {x0 : Int} {x2 : Int} {s0 : Int} {s1 : Int} (hC : Cl π σ) (hG : gx (nn π0) g0 g) (hX : ext π0 π) (hv_x0 : x0 < nn π) (hv_s0 : s0 < nn π) (hv_s1 : s1 < nn π) (hl : lv_has ls 3 [(0, rfv g x0), (2, .int (Int32.ofInt x2))]) (h : Hp D A s.heap H locs (cW k z g π σ)) (hm : Pc_apply_439 N rApply π σ x0 x2 s0 s1 = some r) : W p l e { frames := φ + 6, cells := nn r.1 - nn π0, slots := sw r.1 - sw π0, locals := ψ + 300 } s m args below meth c H locs (nn π - nn π0) (sw π - sw π0) (MQ below (va_Qi (fun v u => gx (nn π0) g0 u ∧ v = Int32.ofInt r.2.2) (fun u t => PostW D (TYs k) A (cW k z u r.1 r.2.1) t) A) args s (nn r.1 - nn π0) (sw r.1 - sw π0) A) (F0 m 439 ls [rfv g s0, rfv g s1]) := by
  have hS := hC.1
  have hq := km_Pc_apply_439 hmrApply   hC hv_x0 hv_s0 hv_s1 hm
  rw [Pc_apply_439] at hm
  refine z_aload_n C dX5_apply_439 rfl (lv_at hl 0 rfl) ?_
  obtain ⟨g188, hm⟩ := grd_s hm
  refine cg_6_9 C h g188 cU_X5 (List.mem_cons_of_mem _ wl_X5_33) dX5_apply_440 ?_
  refine lv_iconst (v := Int32.ofInt 0) C.1 C.2.1 dX5_apply_443 (by decide) ?_
  obtain ⟨g189, hm⟩ := grd_s hm
  obtain ⟨g190, hm⟩ := grd_s hm
  refine c_iald C h g189 g190 dX5_apply_444 ?_
  obtain ⟨r191, e192, hm⟩ := obd_s hm
  have q193 := (km_Sp_give hC hv_s0 e192)
  obtain ⟨g194, hm⟩ := grd_s hm
  have q := km_Pc_apply_448 hmrApply  q193.2.1 q193.2.2 (lt_ext hv_s1 q193.1) hm
  refine c_callVqA C hE h g194 rfl (by decide) (kc_Sp_give l D k z mi aK aV g N hC hv_s0 e192) (cwV 1 C.2.2.1 (gS_X5_55 _) rfl rfl rfl hd_X9_give ⟨(by show 2 + 1 ≤ φ + 6; omega), (by show 8 + (2 + 11) + 82 ≤ ψ + 300; omega)⟩) rfl hl.1 rfl (by simp [rfv_cat, cat_i, cat_l]) dX5_apply_445 ⟨rcC hX q193.1 q.1, rsC hX q193.1 q.1⟩ (fun u H locs hg h => ?_)
  simp only [← gx_rfv hg hv_x0, ← gx_rfv hg hv_s1] at hl
  try simp only [← gx_rfv hg hv_x0, ← gx_rfv hg hv_s1]
  refine W_cast (wcC hX q193.1).symm (wsC hX q193.1).symm ?_
  exact kl_Pc_apply_448 (N := N) C hr hlk hE hφ hψ hmrApply hcrApply  q193.2.1 (hG.tr hg hX.1) (hX.tr q193.1) q193.2.2 (lt_ext hv_s1 q193.1) (lv_sub hl [1] rfl) h hm
set_option maxHeartbeats 8000000 in
set_option maxRecDepth 100000 in
theorem kl_Pc_apply_429 {r : Sh × St × Int} (C : Cx p s m args c cX5_apply RX5 (cd :: cWd) D (TYs k) 3) (hr : meth.sig.returnType = (some .int)) (hlk : meth.locks = false) (hE : Ev z mi aK aV A s s.heap) {rApply : Sh → St → Int → Int → Int → Option (Sh × St × Int)} (hφ : 20 ≤ φ) (hψ : 600 ≤ ψ) (hmrApply : ∀ {π : Sh} {σ : St} {y0 : Int} {y1 : Int} {y2 : Int} {r : Sh × St × Int}, Cl π σ → y0 < nn π → y1 < nn π → rApply π σ y0 y1 y2 = some r → ext π r.1 ∧ Cl r.1 r.2.1) (hcrApply : ∀ {g : Nat → Nat} {π : Sh} {σ : St} {y0 : Int} {y1 : Int} {y2 : Int} {r : Sh × St × Int}, Cl π σ → y0 < nn π → y1 < nn π → rApply π σ y0 y1 y2 = some r → Mi l yX5_apply (.code yX5_apply cX5_apply 3 (some .int) :: cWd) { frames := φ, cells := nn r.1 - nn π, slots := sw r.1 - sw π, locals := ψ } [rfv g y0, rfv g y1, .int (Int32.ofInt y2)] D (TYs k) (cW k z g π σ) (XV z mi aK aV (cW k z g π σ)) (Nat → Nat) (fun v u => gx (nn π) g u ∧ v = Int32.ofInt r.2.2) (fun u => cW k z u r.1 r.2.1) (nn r.1 - nn π) (sw r.1 - sw π))  {ls : Array Slot} {H : Heap} {locs : List Loc} {g : Nat → Nat} {π : Sh} {σ : St} {x0 : Int} {x2 : Int} {s0 : Int} {s1 : Int} (hC : Cl π σ) (hG : gx (nn π0) g0 g) (hX : ext π0 π) (hv_x0 : x0 < nn π) (hv_s0 : s0 < nn π) (hv_s1 : s1 < nn π) (hl : lv_has ls 3 [(0, rfv g x0), (2, .int (Int32.ofInt x2))]) (h : Hp D A s.heap H locs (cW k z g π σ)) (hm : Pc_apply_429 N rApply π σ x0 x2 s0 s1 = some r) : W p l e { frames := φ + 6, cells := nn r.1 - nn π0, slots := sw r.1 - sw π0, locals := ψ + 300 } s m args below meth c H locs (nn π - nn π0) (sw π - sw π0) (MQ below (va_Qi (fun v u => gx (nn π0) g0 u ∧ v = Int32.ofInt r.2.2) (fun u t => PostW D (TYs k) A (cW k z u r.1 r.2.1) t) A) args s (nn r.1 - nn π0) (sw r.1 - sw π0) A) (F0 m 429 ls [rfv g s0, rfv g s1]) := by
  have hS := hC.1
  have hq := km_Pc_apply_429 hmrApply   hC hv_x0 hv_s0 hv_s1 hm
  rw [Pc_apply_429] at hm
  refine lv_dup C.1 C.2.1 dX5_apply_429 (rfv_cat _ _) ?_
  refine lv_bipush (v := Int32.ofInt 20) C.1 C.2.1 dX5_apply_430 (by decide) ?_
  refine z_aload_n C dX5_apply_432 rfl (lv_at hl 0 rfl) ?_
  obtain ⟨g121, hm⟩ := grd_s hm
  refine cg_6_1 C h g121 cU_X5 (List.mem_cons_of_mem _ wl_X5_43) dX5_apply_433 ?_
  obtain ⟨r122, e123, hm⟩ := obd_s hm
  have q124 := (km_Sp_init hC hv_s0 e123)
  obtain ⟨g125, hm⟩ := grd_s hm
  have q := km_Pc_apply_439 hmrApply  q124.2 (lt_ext hv_x0 q124.1) (lt_ext hv_s0 q124.1) (lt_ext hv_s1 q124.1) hm
  refine c_callIvA C hE h g125 (kc_Sp_init l D k z mi aK aV g N hC hv_s0 e123) (cwI 2 C.2.2.1 (gC_X9_init _) rfl rfl rfl (C.2.2.1 _ (List.mem_cons_of_mem _ wt_X9)) (C.2.2.1 _ (List.mem_cons_of_mem _ wm_X5_65)) (C.2.2.1 _ (List.mem_cons_of_mem _ wj_X9_init)) rfl hdS_X9_init ⟨(by show 1 + 1 ≤ φ + 6; omega), (by show 8 + (3 + 11) + 30 ≤ ψ + 300; omega)⟩) rfl hl.1 rfl (by simp [rfv_cat, cat_i, cat_l]) dX5_apply_436 ⟨rcC hX q124.1 q.1, rsC hX q124.1 q.1⟩ (fun u H locs hg h => ?_)
  simp only [← gx_rfv hg hv_x0, ← gx_rfv hg hv_s0, ← gx_rfv hg hv_s1] at hl
  try simp only [← gx_rfv hg hv_x0, ← gx_rfv hg hv_s0, ← gx_rfv hg hv_s1]
  refine W_cast (wcC hX q124.1).symm (wsC hX q124.1).symm ?_
  exact kl_Pc_apply_439 (N := N) C hr hlk hE hφ hψ hmrApply hcrApply  q124.2 (hG.tr hg hX.1) (hX.tr q124.1) (lt_ext hv_x0 q124.1) (lt_ext hv_s0 q124.1) (lt_ext hv_s1 q124.1) (lv_sub hl [0, 1] rfl) h hm
set_option maxHeartbeats 8000000 in
set_option maxRecDepth 100000 in
theorem kl_Pc_apply_366 {r : Sh × St × Int} (C : Cx p s m args c cX5_apply RX5 (cd :: cWd) D (TYs k) 3) (hr : meth.sig.returnType = (some .int)) (hlk : meth.locks = false) (hE : Ev z mi aK aV A s s.heap) {rApply : Sh → St → Int → Int → Int → Option (Sh × St × Int)} (hφ : 20 ≤ φ) (hψ : 600 ≤ ψ) (hmrApply : ∀ {π : Sh} {σ : St} {y0 : Int} {y1 : Int} {y2 : Int} {r : Sh × St × Int}, Cl π σ → y0 < nn π → y1 < nn π → rApply π σ y0 y1 y2 = some r → ext π r.1 ∧ Cl r.1 r.2.1) (hcrApply : ∀ {g : Nat → Nat} {π : Sh} {σ : St} {y0 : Int} {y1 : Int} {y2 : Int} {r : Sh × St × Int}, Cl π σ → y0 < nn π → y1 < nn π → rApply π σ y0 y1 y2 = some r → Mi l yX5_apply (.code yX5_apply cX5_apply 3 (some .int) :: cWd) { frames := φ, cells := nn r.1 - nn π, slots := sw r.1 - sw π, locals := ψ } [rfv g y0, rfv g y1, .int (Int32.ofInt y2)] D (TYs k) (cW k z g π σ) (XV z mi aK aV (cW k z g π σ)) (Nat → Nat) (fun v u => gx (nn π) g u ∧ v = Int32.ofInt r.2.2) (fun u => cW k z u r.1 r.2.1) (nn r.1 - nn π) (sw r.1 - sw π))  {ls : Array Slot} {H : Heap} {locs : List Loc} {g : Nat → Nat} {π : Sh} {σ : St} {s0 : Int} (hC : Cl π σ) (hG : gx (nn π0) g0 g) (hX : ext π0 π)  (hl : lv_has ls 3 []) (h : Hp D A s.heap H locs (cW k z g π σ)) (hm : Pc_apply_366 N rApply π σ s0 = some r) : W p l e { frames := φ + 6, cells := nn r.1 - nn π0, slots := sw r.1 - sw π0, locals := ψ + 300 } s m args below meth c H locs (nn π - nn π0) (sw π - sw π0) (MQ below (va_Qi (fun v u => gx (nn π0) g0 u ∧ v = Int32.ofInt r.2.2) (fun u t => PostW D (TYs k) A (cW k z u r.1 r.2.1) t) A) args s (nn r.1 - nn π0) (sw r.1 - sw π0) A) (F0 m 366 ls [.int (Int32.ofInt s0)]) := by
  have hS := hC.1
  have hq := km_Pc_apply_366 hmrApply   hC  hm
  rw [Pc_apply_366] at hm
  cases hm
  exact c_iretA C hG h hr hlk dX5_apply_366 rfl
set_option maxHeartbeats 8000000 in
set_option maxRecDepth 100000 in
theorem kl_Pc_apply_363 {r : Sh × St × Int} (C : Cx p s m args c cX5_apply RX5 (cd :: cWd) D (TYs k) 3) (hr : meth.sig.returnType = (some .int)) (hlk : meth.locks = false) (hE : Ev z mi aK aV A s s.heap) {rApply : Sh → St → Int → Int → Int → Option (Sh × St × Int)} (hφ : 20 ≤ φ) (hψ : 600 ≤ ψ) (hmrApply : ∀ {π : Sh} {σ : St} {y0 : Int} {y1 : Int} {y2 : Int} {r : Sh × St × Int}, Cl π σ → y0 < nn π → y1 < nn π → rApply π σ y0 y1 y2 = some r → ext π r.1 ∧ Cl r.1 r.2.1) (hcrApply : ∀ {g : Nat → Nat} {π : Sh} {σ : St} {y0 : Int} {y1 : Int} {y2 : Int} {r : Sh × St × Int}, Cl π σ → y0 < nn π → y1 < nn π → rApply π σ y0 y1 y2 = some r → Mi l yX5_apply (.code yX5_apply cX5_apply 3 (some .int) :: cWd) { frames := φ, cells := nn r.1 - nn π, slots := sw r.1 - sw π, locals := ψ } [rfv g y0, rfv g y1, .int (Int32.ofInt y2)] D (TYs k) (cW k z g π σ) (XV z mi aK aV (cW k z g π σ)) (Nat → Nat) (fun v u => gx (nn π) g u ∧ v = Int32.ofInt r.2.2) (fun u => cW k z u r.1 r.2.1) (nn r.1 - nn π) (sw r.1 - sw π))  {ls : Array Slot} {H : Heap} {locs : List Loc} {g : Nat → Nat} {π : Sh} {σ : St} {s0 : Int} {s1 : Int} (hC : Cl π σ) (hG : gx (nn π0) g0 g) (hX : ext π0 π) (hv_s0 : s0 < nn π) (hv_s1 : s1 < nn π) (hl : lv_has ls 3 []) (h : Hp D A s.heap H locs (cW k z g π σ)) (hm : Pc_apply_363 N rApply π σ s0 s1 = some r) : W p l e { frames := φ + 6, cells := nn r.1 - nn π0, slots := sw r.1 - sw π0, locals := ψ + 300 } s m args below meth c H locs (nn π - nn π0) (sw π - sw π0) (MQ below (va_Qi (fun v u => gx (nn π0) g0 u ∧ v = Int32.ofInt r.2.2) (fun u t => PostW D (TYs k) A (cW k z u r.1 r.2.1) t) A) args s (nn r.1 - nn π0) (sw r.1 - sw π0) A) (F0 m 363 ls [rfv g s0, rfv g s1]) := by
  have hS := hC.1
  have hq := km_Pc_apply_363 hmrApply   hC hv_s0 hv_s1 hm
  rw [Pc_apply_363] at hm
  obtain ⟨r255, e256, hm⟩ := obd_s hm
  have q257 := (km_Df_add hC hv_s1 hv_s0 e256)
  obtain ⟨g258, hm⟩ := grd_s hm
  have q := km_Pc_apply_366 hmrApply  q257.2  hm
  refine c_callViA C hE h g258 rfl (by decide) (kc_Df_add l D k z mi aK aV g N hC hv_s1 hv_s0 e256) (cwV 1 C.2.2.1 (gS_X5_59 _) rfl rfl rfl hd_X0_add ⟨(by show 7 + 1 ≤ φ + 6; omega), (by show 8 + (2 + 11) + 241 ≤ ψ + 300; omega)⟩) rfl hl.1 rfl (Nat.le_of_ble_eq_true rfl) dX5_apply_363 ⟨rcC hX q257.1 q.1, rsC hX q257.1 q.1⟩ (fun u H locs hg h => ?_)
  refine W_cast (wcC hX q257.1).symm (wsC hX q257.1).symm ?_
  exact kl_Pc_apply_366 (N := N) C hr hlk hE hφ hψ hmrApply hcrApply  q257.2 (hG.tr hg hX.1) (hX.tr q257.1)  (lv_sub hl [] rfl) h hm
set_option maxHeartbeats 8000000 in
set_option maxRecDepth 100000 in
theorem kl_Pc_apply_359 {r : Sh × St × Int} (C : Cx p s m args c cX5_apply RX5 (cd :: cWd) D (TYs k) 3) (hr : meth.sig.returnType = (some .int)) (hlk : meth.locks = false) (hE : Ev z mi aK aV A s s.heap) {rApply : Sh → St → Int → Int → Int → Option (Sh × St × Int)} (hφ : 20 ≤ φ) (hψ : 600 ≤ ψ) (hmrApply : ∀ {π : Sh} {σ : St} {y0 : Int} {y1 : Int} {y2 : Int} {r : Sh × St × Int}, Cl π σ → y0 < nn π → y1 < nn π → rApply π σ y0 y1 y2 = some r → ext π r.1 ∧ Cl r.1 r.2.1) (hcrApply : ∀ {g : Nat → Nat} {π : Sh} {σ : St} {y0 : Int} {y1 : Int} {y2 : Int} {r : Sh × St × Int}, Cl π σ → y0 < nn π → y1 < nn π → rApply π σ y0 y1 y2 = some r → Mi l yX5_apply (.code yX5_apply cX5_apply 3 (some .int) :: cWd) { frames := φ, cells := nn r.1 - nn π, slots := sw r.1 - sw π, locals := ψ } [rfv g y0, rfv g y1, .int (Int32.ofInt y2)] D (TYs k) (cW k z g π σ) (XV z mi aK aV (cW k z g π σ)) (Nat → Nat) (fun v u => gx (nn π) g u ∧ v = Int32.ofInt r.2.2) (fun u => cW k z u r.1 r.2.1) (nn r.1 - nn π) (sw r.1 - sw π))  {ls : Array Slot} {H : Heap} {locs : List Loc} {g : Nat → Nat} {π : Sh} {σ : St} {x2 : Int} {s0 : Int} {s1 : Int} (hC : Cl π σ) (hG : gx (nn π0) g0 g) (hX : ext π0 π) (hv_s0 : s0 < nn π) (hv_s1 : s1 < nn π) (hl : lv_has ls 3 [(2, .int (Int32.ofInt x2))]) (h : Hp D A s.heap H locs (cW k z g π σ)) (hm : Pc_apply_359 N rApply π σ x2 s0 s1 = some r) : W p l e { frames := φ + 6, cells := nn r.1 - nn π0, slots := sw r.1 - sw π0, locals := ψ + 300 } s m args below meth c H locs (nn π - nn π0) (sw π - sw π0) (MQ below (va_Qi (fun v u => gx (nn π0) g0 u ∧ v = Int32.ofInt r.2.2) (fun u t => PostW D (TYs k) A (cW k z u r.1 r.2.1) t) A) args s (nn r.1 - nn π0) (sw r.1 - sw π0) A) (F0 m 359 ls [rfv g s0, rfv g s1]) := by
  have hS := hC.1
  have hq := km_Pc_apply_359 hmrApply   hC hv_s0 hv_s1 hm
  rw [Pc_apply_359] at hm
  refine lv_iload_n C.1 C.2.1 dX5_apply_359 rfl (lv_at hl 0 rfl) ?_
  obtain ⟨r195, e196, hm⟩ := obd_s hm
  have q197 := (km_Sp_give hC hv_s0 e196)
  obtain ⟨g198, hm⟩ := grd_s hm
  have q := km_Pc_apply_363 hmrApply  q197.2.1 q197.2.2 (lt_ext hv_s1 q197.1) hm
  refine c_callVqA C hE h g198 rfl (by decide) (kc_Sp_give l D k z mi aK aV g N hC hv_s0 e196) (cwV 1 C.2.2.1 (gS_X5_55 _) rfl rfl rfl hd_X9_give ⟨(by show 2 + 1 ≤ φ + 6; omega), (by show 8 + (2 + 11) + 82 ≤ ψ + 300; omega)⟩) rfl hl.1 rfl (by simp [rfv_cat, cat_i, cat_l]) dX5_apply_360 ⟨rcC hX q197.1 q.1, rsC hX q197.1 q.1⟩ (fun u H locs hg h => ?_)
  try simp only [← gx_rfv hg hv_s1]
  refine W_cast (wcC hX q197.1).symm (wsC hX q197.1).symm ?_
  exact kl_Pc_apply_363 (N := N) C hr hlk hE hφ hψ hmrApply hcrApply  q197.2.1 (hG.tr hg hX.1) (hX.tr q197.1) q197.2.2 (lt_ext hv_s1 q197.1) (lv_sub hl [] rfl) h hm
set_option maxHeartbeats 8000000 in
set_option maxRecDepth 100000 in
theorem kl_Pc_apply_344 {r : Sh × St × Int} (C : Cx p s m args c cX5_apply RX5 (cd :: cWd) D (TYs k) 3) (hr : meth.sig.returnType = (some .int)) (hlk : meth.locks = false) (hE : Ev z mi aK aV A s s.heap) {rApply : Sh → St → Int → Int → Int → Option (Sh × St × Int)} (hφ : 20 ≤ φ) (hψ : 600 ≤ ψ) (hmrApply : ∀ {π : Sh} {σ : St} {y0 : Int} {y1 : Int} {y2 : Int} {r : Sh × St × Int}, Cl π σ → y0 < nn π → y1 < nn π → rApply π σ y0 y1 y2 = some r → ext π r.1 ∧ Cl r.1 r.2.1) (hcrApply : ∀ {g : Nat → Nat} {π : Sh} {σ : St} {y0 : Int} {y1 : Int} {y2 : Int} {r : Sh × St × Int}, Cl π σ → y0 < nn π → y1 < nn π → rApply π σ y0 y1 y2 = some r → Mi l yX5_apply (.code yX5_apply cX5_apply 3 (some .int) :: cWd) { frames := φ, cells := nn r.1 - nn π, slots := sw r.1 - sw π, locals := ψ } [rfv g y0, rfv g y1, .int (Int32.ofInt y2)] D (TYs k) (cW k z g π σ) (XV z mi aK aV (cW k z g π σ)) (Nat → Nat) (fun v u => gx (nn π) g u ∧ v = Int32.ofInt r.2.2) (fun u => cW k z u r.1 r.2.1) (nn r.1 - nn π) (sw r.1 - sw π))  {ls : Array Slot} {H : Heap} {locs : List Loc} {g : Nat → Nat} {π : Sh} {σ : St} {x0 : Int} {x2 : Int} {s0 : Int} {s1 : Int} (hC : Cl π σ) (hG : gx (nn π0) g0 g) (hX : ext π0 π) (hv_x0 : x0 < nn π) (hv_s0 : s0 < nn π) (hv_s1 : s1 < nn π) (hl : lv_has ls 3 [(0, rfv g x0), (2, .int (Int32.ofInt x2))]) (h : Hp D A s.heap H locs (cW k z g π σ)) (hm : Pc_apply_344 N rApply π σ x0 x2 s0 s1 = some r) : W p l e { frames := φ + 6, cells := nn r.1 - nn π0, slots := sw r.1 - sw π0, locals := ψ + 300 } s m args below meth c H locs (nn π - nn π0) (sw π - sw π0) (MQ below (va_Qi (fun v u => gx (nn π0) g0 u ∧ v = Int32.ofInt r.2.2) (fun u t => PostW D (TYs k) A (cW k z u r.1 r.2.1) t) A) args s (nn r.1 - nn π0) (sw r.1 - sw π0) A) (F0 m 344 ls [rfv g s0, rfv g s1]) := by
  have hS := hC.1
  have hq := km_Pc_apply_344 hmrApply   hC hv_x0 hv_s0 hv_s1 hm
  rw [Pc_apply_344] at hm
  refine lv_dup C.1 C.2.1 dX5_apply_344 (rfv_cat _ _) ?_
  refine lv_bipush (v := Int32.ofInt 22) C.1 C.2.1 dX5_apply_345 (by decide) ?_
  refine z_aload_n C dX5_apply_347 rfl (lv_at hl 0 rfl) ?_
  obtain ⟨g126, hm⟩ := grd_s hm
  refine cg_6_1 C h g126 cU_X5 (List.mem_cons_of_mem _ wl_X5_43) dX5_apply_348 ?_
  refine z_aload_n C dX5_apply_351 rfl (lv_at hl 0 rfl) ?_
  refine cg_6_2 C h g126 cU_X5 (List.mem_cons_of_mem _ wl_X5_7) dX5_apply_352 ?_
  refine lv_iconst (v := Int32.ofInt 0) C.1 C.2.1 dX5_apply_355 (by decide) ?_
  obtain ⟨r127, e128, hm⟩ := obd_s hm
  have q129 := (km_Sp_initB hC hv_s0 e128)
  obtain ⟨g130, hm⟩ := grd_s hm
  have q := km_Pc_apply_359 hmrApply  q129.2 (lt_ext hv_s0 q129.1) (lt_ext hv_s1 q129.1) hm
  refine c_callIvA C hE h g130 (kc_Sp_initB l D k z mi aK aV g N hC hv_s0 e128) (cwI 4 C.2.2.1 (gC_X9_init_ _) rfl rfl rfl (C.2.2.1 _ (List.mem_cons_of_mem _ wt_X9)) (C.2.2.1 _ (List.mem_cons_of_mem _ wm_X5_52)) (C.2.2.1 _ (List.mem_cons_of_mem _ wj_X9_init_)) rfl hdS_X9_init_ ⟨(by show 1 + 1 ≤ φ + 6; omega), (by show 8 + (5 + 11) + 30 ≤ ψ + 300; omega)⟩) rfl hl.1 rfl (by simp [rfv_cat, cat_i, cat_l]) dX5_apply_356 ⟨rcC hX q129.1 q.1, rsC hX q129.1 q.1⟩ (fun u H locs hg h => ?_)
  simp only [← gx_rfv hg hv_x0, ← gx_rfv hg hv_s0, ← gx_rfv hg hv_s1] at hl
  try simp only [← gx_rfv hg hv_x0, ← gx_rfv hg hv_s0, ← gx_rfv hg hv_s1]
  refine W_cast (wcC hX q129.1).symm (wsC hX q129.1).symm ?_
  exact kl_Pc_apply_359 (N := N) C hr hlk hE hφ hψ hmrApply hcrApply  q129.2 (hG.tr hg hX.1) (hX.tr q129.1) (lt_ext hv_s0 q129.1) (lt_ext hv_s1 q129.1) (lv_sub hl [1] rfl) h hm
set_option maxHeartbeats 8000000 in
set_option maxRecDepth 100000 in
theorem kl_Pc_apply_393 {r : Sh × St × Int} (C : Cx p s m args c cX5_apply RX5 (cd :: cWd) D (TYs k) 3) (hr : meth.sig.returnType = (some .int)) (hlk : meth.locks = false) (hE : Ev z mi aK aV A s s.heap) {rApply : Sh → St → Int → Int → Int → Option (Sh × St × Int)} (hφ : 20 ≤ φ) (hψ : 600 ≤ ψ) (hmrApply : ∀ {π : Sh} {σ : St} {y0 : Int} {y1 : Int} {y2 : Int} {r : Sh × St × Int}, Cl π σ → y0 < nn π → y1 < nn π → rApply π σ y0 y1 y2 = some r → ext π r.1 ∧ Cl r.1 r.2.1) (hcrApply : ∀ {g : Nat → Nat} {π : Sh} {σ : St} {y0 : Int} {y1 : Int} {y2 : Int} {r : Sh × St × Int}, Cl π σ → y0 < nn π → y1 < nn π → rApply π σ y0 y1 y2 = some r → Mi l yX5_apply (.code yX5_apply cX5_apply 3 (some .int) :: cWd) { frames := φ, cells := nn r.1 - nn π, slots := sw r.1 - sw π, locals := ψ } [rfv g y0, rfv g y1, .int (Int32.ofInt y2)] D (TYs k) (cW k z g π σ) (XV z mi aK aV (cW k z g π σ)) (Nat → Nat) (fun v u => gx (nn π) g u ∧ v = Int32.ofInt r.2.2) (fun u => cW k z u r.1 r.2.1) (nn r.1 - nn π) (sw r.1 - sw π))  {ls : Array Slot} {H : Heap} {locs : List Loc} {g : Nat → Nat} {π : Sh} {σ : St} {s0 : Int} (hC : Cl π σ) (hG : gx (nn π0) g0 g) (hX : ext π0 π)  (hl : lv_has ls 3 []) (h : Hp D A s.heap H locs (cW k z g π σ)) (hm : Pc_apply_393 N rApply π σ s0 = some r) : W p l e { frames := φ + 6, cells := nn r.1 - nn π0, slots := sw r.1 - sw π0, locals := ψ + 300 } s m args below meth c H locs (nn π - nn π0) (sw π - sw π0) (MQ below (va_Qi (fun v u => gx (nn π0) g0 u ∧ v = Int32.ofInt r.2.2) (fun u t => PostW D (TYs k) A (cW k z u r.1 r.2.1) t) A) args s (nn r.1 - nn π0) (sw r.1 - sw π0) A) (F0 m 393 ls [.int (Int32.ofInt s0)]) := by
  have hS := hC.1
  have hq := km_Pc_apply_393 hmrApply   hC  hm
  rw [Pc_apply_393] at hm
  cases hm
  exact c_iretA C hG h hr hlk dX5_apply_393 rfl
set_option maxHeartbeats 8000000 in
set_option maxRecDepth 100000 in
theorem kl_Pc_apply_390 {r : Sh × St × Int} (C : Cx p s m args c cX5_apply RX5 (cd :: cWd) D (TYs k) 3) (hr : meth.sig.returnType = (some .int)) (hlk : meth.locks = false) (hE : Ev z mi aK aV A s s.heap) {rApply : Sh → St → Int → Int → Int → Option (Sh × St × Int)} (hφ : 20 ≤ φ) (hψ : 600 ≤ ψ) (hmrApply : ∀ {π : Sh} {σ : St} {y0 : Int} {y1 : Int} {y2 : Int} {r : Sh × St × Int}, Cl π σ → y0 < nn π → y1 < nn π → rApply π σ y0 y1 y2 = some r → ext π r.1 ∧ Cl r.1 r.2.1) (hcrApply : ∀ {g : Nat → Nat} {π : Sh} {σ : St} {y0 : Int} {y1 : Int} {y2 : Int} {r : Sh × St × Int}, Cl π σ → y0 < nn π → y1 < nn π → rApply π σ y0 y1 y2 = some r → Mi l yX5_apply (.code yX5_apply cX5_apply 3 (some .int) :: cWd) { frames := φ, cells := nn r.1 - nn π, slots := sw r.1 - sw π, locals := ψ } [rfv g y0, rfv g y1, .int (Int32.ofInt y2)] D (TYs k) (cW k z g π σ) (XV z mi aK aV (cW k z g π σ)) (Nat → Nat) (fun v u => gx (nn π) g u ∧ v = Int32.ofInt r.2.2) (fun u => cW k z u r.1 r.2.1) (nn r.1 - nn π) (sw r.1 - sw π))  {ls : Array Slot} {H : Heap} {locs : List Loc} {g : Nat → Nat} {π : Sh} {σ : St} {s0 : Int} {s1 : Int} (hC : Cl π σ) (hG : gx (nn π0) g0 g) (hX : ext π0 π) (hv_s0 : s0 < nn π) (hv_s1 : s1 < nn π) (hl : lv_has ls 3 []) (h : Hp D A s.heap H locs (cW k z g π σ)) (hm : Pc_apply_390 N rApply π σ s0 s1 = some r) : W p l e { frames := φ + 6, cells := nn r.1 - nn π0, slots := sw r.1 - sw π0, locals := ψ + 300 } s m args below meth c H locs (nn π - nn π0) (sw π - sw π0) (MQ below (va_Qi (fun v u => gx (nn π0) g0 u ∧ v = Int32.ofInt r.2.2) (fun u t => PostW D (TYs k) A (cW k z u r.1 r.2.1) t) A) args s (nn r.1 - nn π0) (sw r.1 - sw π0) A) (F0 m 390 ls [rfv g s0, rfv g s1]) := by
  have hS := hC.1
  have hq := km_Pc_apply_390 hmrApply   hC hv_s0 hv_s1 hm
  rw [Pc_apply_390] at hm
  obtain ⟨r259, e260, hm⟩ := obd_s hm
  have q261 := (km_Df_add hC hv_s1 hv_s0 e260)
  obtain ⟨g262, hm⟩ := grd_s hm
  have q := km_Pc_apply_393 hmrApply  q261.2  hm
  refine c_callViA C hE h g262 rfl (by decide) (kc_Df_add l D k z mi aK aV g N hC hv_s1 hv_s0 e260) (cwV 1 C.2.2.1 (gS_X5_59 _) rfl rfl rfl hd_X0_add ⟨(by show 7 + 1 ≤ φ + 6; omega), (by show 8 + (2 + 11) + 241 ≤ ψ + 300; omega)⟩) rfl hl.1 rfl (Nat.le_of_ble_eq_true rfl) dX5_apply_390 ⟨rcC hX q261.1 q.1, rsC hX q261.1 q.1⟩ (fun u H locs hg h => ?_)
  refine W_cast (wcC hX q261.1).symm (wsC hX q261.1).symm ?_
  exact kl_Pc_apply_393 (N := N) C hr hlk hE hφ hψ hmrApply hcrApply  q261.2 (hG.tr hg hX.1) (hX.tr q261.1)  (lv_sub hl [] rfl) h hm
set_option maxHeartbeats 8000000 in
set_option maxRecDepth 100000 in
theorem kl_Pc_apply_386 {r : Sh × St × Int} (C : Cx p s m args c cX5_apply RX5 (cd :: cWd) D (TYs k) 3) (hr : meth.sig.returnType = (some .int)) (hlk : meth.locks = false) (hE : Ev z mi aK aV A s s.heap) {rApply : Sh → St → Int → Int → Int → Option (Sh × St × Int)} (hφ : 20 ≤ φ) (hψ : 600 ≤ ψ) (hmrApply : ∀ {π : Sh} {σ : St} {y0 : Int} {y1 : Int} {y2 : Int} {r : Sh × St × Int}, Cl π σ → y0 < nn π → y1 < nn π → rApply π σ y0 y1 y2 = some r → ext π r.1 ∧ Cl r.1 r.2.1) (hcrApply : ∀ {g : Nat → Nat} {π : Sh} {σ : St} {y0 : Int} {y1 : Int} {y2 : Int} {r : Sh × St × Int}, Cl π σ → y0 < nn π → y1 < nn π → rApply π σ y0 y1 y2 = some r → Mi l yX5_apply (.code yX5_apply cX5_apply 3 (some .int) :: cWd) { frames := φ, cells := nn r.1 - nn π, slots := sw r.1 - sw π, locals := ψ } [rfv g y0, rfv g y1, .int (Int32.ofInt y2)] D (TYs k) (cW k z g π σ) (XV z mi aK aV (cW k z g π σ)) (Nat → Nat) (fun v u => gx (nn π) g u ∧ v = Int32.ofInt r.2.2) (fun u => cW k z u r.1 r.2.1) (nn r.1 - nn π) (sw r.1 - sw π))  {ls : Array Slot} {H : Heap} {locs : List Loc} {g : Nat → Nat} {π : Sh} {σ : St} {x2 : Int} {s0 : Int} {s1 : Int} (hC : Cl π σ) (hG : gx (nn π0) g0 g) (hX : ext π0 π) (hv_s0 : s0 < nn π) (hv_s1 : s1 < nn π) (hl : lv_has ls 3 [(2, .int (Int32.ofInt x2))]) (h : Hp D A s.heap H locs (cW k z g π σ)) (hm : Pc_apply_386 N rApply π σ x2 s0 s1 = some r) : W p l e { frames := φ + 6, cells := nn r.1 - nn π0, slots := sw r.1 - sw π0, locals := ψ + 300 } s m args below meth c H locs (nn π - nn π0) (sw π - sw π0) (MQ below (va_Qi (fun v u => gx (nn π0) g0 u ∧ v = Int32.ofInt r.2.2) (fun u t => PostW D (TYs k) A (cW k z u r.1 r.2.1) t) A) args s (nn r.1 - nn π0) (sw r.1 - sw π0) A) (F0 m 386 ls [rfv g s0, rfv g s1]) := by
  have hS := hC.1
  have hq := km_Pc_apply_386 hmrApply   hC hv_s0 hv_s1 hm
  rw [Pc_apply_386] at hm
  refine lv_iload_n C.1 C.2.1 dX5_apply_386 rfl (lv_at hl 0 rfl) ?_
  obtain ⟨r199, e200, hm⟩ := obd_s hm
  have q201 := (km_Sp_give hC hv_s0 e200)
  obtain ⟨g202, hm⟩ := grd_s hm
  have q := km_Pc_apply_390 hmrApply  q201.2.1 q201.2.2 (lt_ext hv_s1 q201.1) hm
  refine c_callVqA C hE h g202 rfl (by decide) (kc_Sp_give l D k z mi aK aV g N hC hv_s0 e200) (cwV 1 C.2.2.1 (gS_X5_55 _) rfl rfl rfl hd_X9_give ⟨(by show 2 + 1 ≤ φ + 6; omega), (by show 8 + (2 + 11) + 82 ≤ ψ + 300; omega)⟩) rfl hl.1 rfl (by simp [rfv_cat, cat_i, cat_l]) dX5_apply_387 ⟨rcC hX q201.1 q.1, rsC hX q201.1 q.1⟩ (fun u H locs hg h => ?_)
  try simp only [← gx_rfv hg hv_s1]
  refine W_cast (wcC hX q201.1).symm (wsC hX q201.1).symm ?_
  exact kl_Pc_apply_390 (N := N) C hr hlk hE hφ hψ hmrApply hcrApply  q201.2.1 (hG.tr hg hX.1) (hX.tr q201.1) q201.2.2 (lt_ext hv_s1 q201.1) (lv_sub hl [] rfl) h hm
set_option maxHeartbeats 8000000 in
set_option maxRecDepth 100000 in
theorem kl_Pc_apply_371 {r : Sh × St × Int} (C : Cx p s m args c cX5_apply RX5 (cd :: cWd) D (TYs k) 3) (hr : meth.sig.returnType = (some .int)) (hlk : meth.locks = false) (hE : Ev z mi aK aV A s s.heap) {rApply : Sh → St → Int → Int → Int → Option (Sh × St × Int)} (hφ : 20 ≤ φ) (hψ : 600 ≤ ψ) (hmrApply : ∀ {π : Sh} {σ : St} {y0 : Int} {y1 : Int} {y2 : Int} {r : Sh × St × Int}, Cl π σ → y0 < nn π → y1 < nn π → rApply π σ y0 y1 y2 = some r → ext π r.1 ∧ Cl r.1 r.2.1) (hcrApply : ∀ {g : Nat → Nat} {π : Sh} {σ : St} {y0 : Int} {y1 : Int} {y2 : Int} {r : Sh × St × Int}, Cl π σ → y0 < nn π → y1 < nn π → rApply π σ y0 y1 y2 = some r → Mi l yX5_apply (.code yX5_apply cX5_apply 3 (some .int) :: cWd) { frames := φ, cells := nn r.1 - nn π, slots := sw r.1 - sw π, locals := ψ } [rfv g y0, rfv g y1, .int (Int32.ofInt y2)] D (TYs k) (cW k z g π σ) (XV z mi aK aV (cW k z g π σ)) (Nat → Nat) (fun v u => gx (nn π) g u ∧ v = Int32.ofInt r.2.2) (fun u => cW k z u r.1 r.2.1) (nn r.1 - nn π) (sw r.1 - sw π))  {ls : Array Slot} {H : Heap} {locs : List Loc} {g : Nat → Nat} {π : Sh} {σ : St} {x0 : Int} {x2 : Int} {s0 : Int} {s1 : Int} (hC : Cl π σ) (hG : gx (nn π0) g0 g) (hX : ext π0 π) (hv_x0 : x0 < nn π) (hv_s0 : s0 < nn π) (hv_s1 : s1 < nn π) (hl : lv_has ls 3 [(0, rfv g x0), (2, .int (Int32.ofInt x2))]) (h : Hp D A s.heap H locs (cW k z g π σ)) (hm : Pc_apply_371 N rApply π σ x0 x2 s0 s1 = some r) : W p l e { frames := φ + 6, cells := nn r.1 - nn π0, slots := sw r.1 - sw π0, locals := ψ + 300 } s m args below meth c H locs (nn π - nn π0) (sw π - sw π0) (MQ below (va_Qi (fun v u => gx (nn π0) g0 u ∧ v = Int32.ofInt r.2.2) (fun u t => PostW D (TYs k) A (cW k z u r.1 r.2.1) t) A) args s (nn r.1 - nn π0) (sw r.1 - sw π0) A) (F0 m 371 ls [rfv g s0, rfv g s1]) := by
  have hS := hC.1
  have hq := km_Pc_apply_371 hmrApply   hC hv_x0 hv_s0 hv_s1 hm
  rw [Pc_apply_371] at hm
  refine lv_dup C.1 C.2.1 dX5_apply_371 (rfv_cat _ _) ?_
  refine lv_bipush (v := Int32.ofInt 23) C.1 C.2.1 dX5_apply_372 (by decide) ?_
  refine z_aload_n C dX5_apply_374 rfl (lv_at hl 0 rfl) ?_
  obtain ⟨g131, hm⟩ := grd_s hm
  refine cg_6_1 C h g131 cU_X5 (List.mem_cons_of_mem _ wl_X5_43) dX5_apply_375 ?_
  refine z_aload_n C dX5_apply_378 rfl (lv_at hl 0 rfl) ?_
  refine cg_6_2 C h g131 cU_X5 (List.mem_cons_of_mem _ wl_X5_7) dX5_apply_379 ?_
  refine lv_iconst (v := Int32.ofInt 0) C.1 C.2.1 dX5_apply_382 (by decide) ?_
  obtain ⟨r132, e133, hm⟩ := obd_s hm
  have q134 := (km_Sp_initB hC hv_s0 e133)
  obtain ⟨g135, hm⟩ := grd_s hm
  have q := km_Pc_apply_386 hmrApply  q134.2 (lt_ext hv_s0 q134.1) (lt_ext hv_s1 q134.1) hm
  refine c_callIvA C hE h g135 (kc_Sp_initB l D k z mi aK aV g N hC hv_s0 e133) (cwI 4 C.2.2.1 (gC_X9_init_ _) rfl rfl rfl (C.2.2.1 _ (List.mem_cons_of_mem _ wt_X9)) (C.2.2.1 _ (List.mem_cons_of_mem _ wm_X5_52)) (C.2.2.1 _ (List.mem_cons_of_mem _ wj_X9_init_)) rfl hdS_X9_init_ ⟨(by show 1 + 1 ≤ φ + 6; omega), (by show 8 + (5 + 11) + 30 ≤ ψ + 300; omega)⟩) rfl hl.1 rfl (by simp [rfv_cat, cat_i, cat_l]) dX5_apply_383 ⟨rcC hX q134.1 q.1, rsC hX q134.1 q.1⟩ (fun u H locs hg h => ?_)
  simp only [← gx_rfv hg hv_x0, ← gx_rfv hg hv_s0, ← gx_rfv hg hv_s1] at hl
  try simp only [← gx_rfv hg hv_x0, ← gx_rfv hg hv_s0, ← gx_rfv hg hv_s1]
  refine W_cast (wcC hX q134.1).symm (wsC hX q134.1).symm ?_
  exact kl_Pc_apply_386 (N := N) C hr hlk hE hφ hψ hmrApply hcrApply  q134.2 (hG.tr hg hX.1) (hX.tr q134.1) (lt_ext hv_s0 q134.1) (lt_ext hv_s1 q134.1) (lv_sub hl [1] rfl) h hm
set_option maxHeartbeats 8000000 in
set_option maxRecDepth 100000 in
theorem kl_Pc_apply_506 {r : Sh × St × Int} (C : Cx p s m args c cX5_apply RX5 (cd :: cWd) D (TYs k) 3) (hr : meth.sig.returnType = (some .int)) (hlk : meth.locks = false) (hE : Ev z mi aK aV A s s.heap) {rApply : Sh → St → Int → Int → Int → Option (Sh × St × Int)} (hφ : 20 ≤ φ) (hψ : 600 ≤ ψ) (hmrApply : ∀ {π : Sh} {σ : St} {y0 : Int} {y1 : Int} {y2 : Int} {r : Sh × St × Int}, Cl π σ → y0 < nn π → y1 < nn π → rApply π σ y0 y1 y2 = some r → ext π r.1 ∧ Cl r.1 r.2.1) (hcrApply : ∀ {g : Nat → Nat} {π : Sh} {σ : St} {y0 : Int} {y1 : Int} {y2 : Int} {r : Sh × St × Int}, Cl π σ → y0 < nn π → y1 < nn π → rApply π σ y0 y1 y2 = some r → Mi l yX5_apply (.code yX5_apply cX5_apply 3 (some .int) :: cWd) { frames := φ, cells := nn r.1 - nn π, slots := sw r.1 - sw π, locals := ψ } [rfv g y0, rfv g y1, .int (Int32.ofInt y2)] D (TYs k) (cW k z g π σ) (XV z mi aK aV (cW k z g π σ)) (Nat → Nat) (fun v u => gx (nn π) g u ∧ v = Int32.ofInt r.2.2) (fun u => cW k z u r.1 r.2.1) (nn r.1 - nn π) (sw r.1 - sw π))  {ls : Array Slot} {H : Heap} {locs : List Loc} {g : Nat → Nat} {π : Sh} {σ : St} {s0 : Int} (hC : Cl π σ) (hG : gx (nn π0) g0 g) (hX : ext π0 π)  (hl : lv_has ls 3 []) (h : Hp D A s.heap H locs (cW k z g π σ)) (hm : Pc_apply_506 N rApply π σ s0 = some r) : W p l e { frames := φ + 6, cells := nn r.1 - nn π0, slots := sw r.1 - sw π0, locals := ψ + 300 } s m args below meth c H locs (nn π - nn π0) (sw π - sw π0) (MQ below (va_Qi (fun v u => gx (nn π0) g0 u ∧ v = Int32.ofInt r.2.2) (fun u t => PostW D (TYs k) A (cW k z u r.1 r.2.1) t) A) args s (nn r.1 - nn π0) (sw r.1 - sw π0) A) (F0 m 506 ls [.int (Int32.ofInt s0)]) := by
  have hS := hC.1
  have hq := km_Pc_apply_506 hmrApply   hC  hm
  rw [Pc_apply_506] at hm
  cases hm
  exact c_iretA C hG h hr hlk dX5_apply_506 rfl
set_option maxHeartbeats 8000000 in
set_option maxRecDepth 100000 in
theorem kl_Pc_apply_503 {r : Sh × St × Int} (C : Cx p s m args c cX5_apply RX5 (cd :: cWd) D (TYs k) 3) (hr : meth.sig.returnType = (some .int)) (hlk : meth.locks = false) (hE : Ev z mi aK aV A s s.heap) {rApply : Sh → St → Int → Int → Int → Option (Sh × St × Int)} (hφ : 20 ≤ φ) (hψ : 600 ≤ ψ) (hmrApply : ∀ {π : Sh} {σ : St} {y0 : Int} {y1 : Int} {y2 : Int} {r : Sh × St × Int}, Cl π σ → y0 < nn π → y1 < nn π → rApply π σ y0 y1 y2 = some r → ext π r.1 ∧ Cl r.1 r.2.1) (hcrApply : ∀ {g : Nat → Nat} {π : Sh} {σ : St} {y0 : Int} {y1 : Int} {y2 : Int} {r : Sh × St × Int}, Cl π σ → y0 < nn π → y1 < nn π → rApply π σ y0 y1 y2 = some r → Mi l yX5_apply (.code yX5_apply cX5_apply 3 (some .int) :: cWd) { frames := φ, cells := nn r.1 - nn π, slots := sw r.1 - sw π, locals := ψ } [rfv g y0, rfv g y1, .int (Int32.ofInt y2)] D (TYs k) (cW k z g π σ) (XV z mi aK aV (cW k z g π σ)) (Nat → Nat) (fun v u => gx (nn π) g u ∧ v = Int32.ofInt r.2.2) (fun u => cW k z u r.1 r.2.1) (nn r.1 - nn π) (sw r.1 - sw π))  {ls : Array Slot} {H : Heap} {locs : List Loc} {g : Nat → Nat} {π : Sh} {σ : St} {s0 : Int} {s1 : Int} (hC : Cl π σ) (hG : gx (nn π0) g0 g) (hX : ext π0 π) (hv_s0 : s0 < nn π) (hv_s1 : s1 < nn π) (hl : lv_has ls 3 []) (h : Hp D A s.heap H locs (cW k z g π σ)) (hm : Pc_apply_503 N rApply π σ s0 s1 = some r) : W p l e { frames := φ + 6, cells := nn r.1 - nn π0, slots := sw r.1 - sw π0, locals := ψ + 300 } s m args below meth c H locs (nn π - nn π0) (sw π - sw π0) (MQ below (va_Qi (fun v u => gx (nn π0) g0 u ∧ v = Int32.ofInt r.2.2) (fun u t => PostW D (TYs k) A (cW k z u r.1 r.2.1) t) A) args s (nn r.1 - nn π0) (sw r.1 - sw π0) A) (F0 m 503 ls [rfv g s0, rfv g s1]) := by
  have hS := hC.1
  have hq := km_Pc_apply_503 hmrApply   hC hv_s0 hv_s1 hm
  rw [Pc_apply_503] at hm
  obtain ⟨r203, e204, hm⟩ := obd_s hm
  have q205 := (km_Df_add hC hv_s1 hv_s0 e204)
  obtain ⟨g206, hm⟩ := grd_s hm
  have q := km_Pc_apply_506 hmrApply  q205.2  hm
  refine c_callViA C hE h g206 rfl (by decide) (kc_Df_add l D k z mi aK aV g N hC hv_s1 hv_s0 e204) (cwV 1 C.2.2.1 (gS_X5_59 _) rfl rfl rfl hd_X0_add ⟨(by show 7 + 1 ≤ φ + 6; omega), (by show 8 + (2 + 11) + 241 ≤ ψ + 300; omega)⟩) rfl hl.1 rfl (Nat.le_of_ble_eq_true rfl) dX5_apply_503 ⟨rcC hX q205.1 q.1, rsC hX q205.1 q.1⟩ (fun u H locs hg h => ?_)
  refine W_cast (wcC hX q205.1).symm (wsC hX q205.1).symm ?_
  exact kl_Pc_apply_506 (N := N) C hr hlk hE hφ hψ hmrApply hcrApply  q205.2 (hG.tr hg hX.1) (hX.tr q205.1)  (lv_sub hl [] rfl) h hm
set_option maxHeartbeats 8000000 in
set_option maxRecDepth 100000 in
theorem kl_Pc_apply_499 {r : Sh × St × Int} (C : Cx p s m args c cX5_apply RX5 (cd :: cWd) D (TYs k) 3) (hr : meth.sig.returnType = (some .int)) (hlk : meth.locks = false) (hE : Ev z mi aK aV A s s.heap) {rApply : Sh → St → Int → Int → Int → Option (Sh × St × Int)} (hφ : 20 ≤ φ) (hψ : 600 ≤ ψ) (hmrApply : ∀ {π : Sh} {σ : St} {y0 : Int} {y1 : Int} {y2 : Int} {r : Sh × St × Int}, Cl π σ → y0 < nn π → y1 < nn π → rApply π σ y0 y1 y2 = some r → ext π r.1 ∧ Cl r.1 r.2.1) (hcrApply : ∀ {g : Nat → Nat} {π : Sh} {σ : St} {y0 : Int} {y1 : Int} {y2 : Int} {r : Sh × St × Int}, Cl π σ → y0 < nn π → y1 < nn π → rApply π σ y0 y1 y2 = some r → Mi l yX5_apply (.code yX5_apply cX5_apply 3 (some .int) :: cWd) { frames := φ, cells := nn r.1 - nn π, slots := sw r.1 - sw π, locals := ψ } [rfv g y0, rfv g y1, .int (Int32.ofInt y2)] D (TYs k) (cW k z g π σ) (XV z mi aK aV (cW k z g π σ)) (Nat → Nat) (fun v u => gx (nn π) g u ∧ v = Int32.ofInt r.2.2) (fun u => cW k z u r.1 r.2.1) (nn r.1 - nn π) (sw r.1 - sw π))  {ls : Array Slot} {H : Heap} {locs : List Loc} {g : Nat → Nat} {π : Sh} {σ : St} {x2 : Int} {s0 : Int} {s1 : Int} (hC : Cl π σ) (hG : gx (nn π0) g0 g) (hX : ext π0 π) (hv_s0 : s0 < nn π) (hv_s1 : s1 < nn π) (hl : lv_has ls 3 [(2, .int (Int32.ofInt x2))]) (h : Hp D A s.heap H locs (cW k z g π σ)) (hm : Pc_apply_499 N rApply π σ x2 s0 s1 = some r) : W p l e { frames := φ + 6, cells := nn r.1 - nn π0, slots := sw r.1 - sw π0, locals := ψ + 300 } s m args below meth c H locs (nn π - nn π0) (sw π - sw π0) (MQ below (va_Qi (fun v u => gx (nn π0) g0 u ∧ v = Int32.ofInt r.2.2) (fun u t => PostW D (TYs k) A (cW k z u r.1 r.2.1) t) A) args s (nn r.1 - nn π0) (sw r.1 - sw π0) A) (F0 m 499 ls [rfv g s0, rfv g s1]) := by
  have hS := hC.1
  have hq := km_Pc_apply_499 hmrApply   hC hv_s0 hv_s1 hm
  rw [Pc_apply_499] at hm
  refine lv_iload_n C.1 C.2.1 dX5_apply_499 rfl (lv_at hl 0 rfl) ?_
  obtain ⟨r136, e137, hm⟩ := obd_s hm
  have q138 := (km_Sp_give hC hv_s0 e137)
  obtain ⟨g139, hm⟩ := grd_s hm
  have q := km_Pc_apply_503 hmrApply  q138.2.1 q138.2.2 (lt_ext hv_s1 q138.1) hm
  refine c_callVqA C hE h g139 rfl (by decide) (kc_Sp_give l D k z mi aK aV g N hC hv_s0 e137) (cwV 1 C.2.2.1 (gS_X5_55 _) rfl rfl rfl hd_X9_give ⟨(by show 2 + 1 ≤ φ + 6; omega), (by show 8 + (2 + 11) + 82 ≤ ψ + 300; omega)⟩) rfl hl.1 rfl (by simp [rfv_cat, cat_i, cat_l]) dX5_apply_500 ⟨rcC hX q138.1 q.1, rsC hX q138.1 q.1⟩ (fun u H locs hg h => ?_)
  try simp only [← gx_rfv hg hv_s1]
  refine W_cast (wcC hX q138.1).symm (wsC hX q138.1).symm ?_
  exact kl_Pc_apply_503 (N := N) C hr hlk hE hφ hψ hmrApply hcrApply  q138.2.1 (hG.tr hg hX.1) (hX.tr q138.1) q138.2.2 (lt_ext hv_s1 q138.1) (lv_sub hl [] rfl) h hm
set_option maxHeartbeats 8000000 in
set_option maxRecDepth 100000 in
theorem kl_Pc_apply_491 {r : Sh × St × Int} (C : Cx p s m args c cX5_apply RX5 (cd :: cWd) D (TYs k) 3) (hr : meth.sig.returnType = (some .int)) (hlk : meth.locks = false) (hE : Ev z mi aK aV A s s.heap) {rApply : Sh → St → Int → Int → Int → Option (Sh × St × Int)} (hφ : 20 ≤ φ) (hψ : 600 ≤ ψ) (hmrApply : ∀ {π : Sh} {σ : St} {y0 : Int} {y1 : Int} {y2 : Int} {r : Sh × St × Int}, Cl π σ → y0 < nn π → y1 < nn π → rApply π σ y0 y1 y2 = some r → ext π r.1 ∧ Cl r.1 r.2.1) (hcrApply : ∀ {g : Nat → Nat} {π : Sh} {σ : St} {y0 : Int} {y1 : Int} {y2 : Int} {r : Sh × St × Int}, Cl π σ → y0 < nn π → y1 < nn π → rApply π σ y0 y1 y2 = some r → Mi l yX5_apply (.code yX5_apply cX5_apply 3 (some .int) :: cWd) { frames := φ, cells := nn r.1 - nn π, slots := sw r.1 - sw π, locals := ψ } [rfv g y0, rfv g y1, .int (Int32.ofInt y2)] D (TYs k) (cW k z g π σ) (XV z mi aK aV (cW k z g π σ)) (Nat → Nat) (fun v u => gx (nn π) g u ∧ v = Int32.ofInt r.2.2) (fun u => cW k z u r.1 r.2.1) (nn r.1 - nn π) (sw r.1 - sw π))  {ls : Array Slot} {H : Heap} {locs : List Loc} {g : Nat → Nat} {π : Sh} {σ : St} {s0 : Int} (hC : Cl π σ) (hG : gx (nn π0) g0 g) (hX : ext π0 π)  (hl : lv_has ls 3 []) (h : Hp D A s.heap H locs (cW k z g π σ)) (hm : Pc_apply_491 N rApply π σ s0 = some r) : W p l e { frames := φ + 6, cells := nn r.1 - nn π0, slots := sw r.1 - sw π0, locals := ψ + 300 } s m args below meth c H locs (nn π - nn π0) (sw π - sw π0) (MQ below (va_Qi (fun v u => gx (nn π0) g0 u ∧ v = Int32.ofInt r.2.2) (fun u t => PostW D (TYs k) A (cW k z u r.1 r.2.1) t) A) args s (nn r.1 - nn π0) (sw r.1 - sw π0) A) (F0 m 491 ls [.int (Int32.ofInt s0)]) := by
  have hS := hC.1
  have hq := km_Pc_apply_491 hmrApply   hC  hm
  rw [Pc_apply_491] at hm
  cases hm
  exact c_iretA C hG h hr hlk dX5_apply_491 rfl
set_option maxHeartbeats 8000000 in
set_option maxRecDepth 100000 in
theorem kl_Pc_apply_488 {r : Sh × St × Int} (C : Cx p s m args c cX5_apply RX5 (cd :: cWd) D (TYs k) 3) (hr : meth.sig.returnType = (some .int)) (hlk : meth.locks = false) (hE : Ev z mi aK aV A s s.heap) {rApply : Sh → St → Int → Int → Int → Option (Sh × St × Int)} (hφ : 20 ≤ φ) (hψ : 600 ≤ ψ) (hmrApply : ∀ {π : Sh} {σ : St} {y0 : Int} {y1 : Int} {y2 : Int} {r : Sh × St × Int}, Cl π σ → y0 < nn π → y1 < nn π → rApply π σ y0 y1 y2 = some r → ext π r.1 ∧ Cl r.1 r.2.1) (hcrApply : ∀ {g : Nat → Nat} {π : Sh} {σ : St} {y0 : Int} {y1 : Int} {y2 : Int} {r : Sh × St × Int}, Cl π σ → y0 < nn π → y1 < nn π → rApply π σ y0 y1 y2 = some r → Mi l yX5_apply (.code yX5_apply cX5_apply 3 (some .int) :: cWd) { frames := φ, cells := nn r.1 - nn π, slots := sw r.1 - sw π, locals := ψ } [rfv g y0, rfv g y1, .int (Int32.ofInt y2)] D (TYs k) (cW k z g π σ) (XV z mi aK aV (cW k z g π σ)) (Nat → Nat) (fun v u => gx (nn π) g u ∧ v = Int32.ofInt r.2.2) (fun u => cW k z u r.1 r.2.1) (nn r.1 - nn π) (sw r.1 - sw π))  {ls : Array Slot} {H : Heap} {locs : List Loc} {g : Nat → Nat} {π : Sh} {σ : St} {s0 : Int} {s1 : Int} (hC : Cl π σ) (hG : gx (nn π0) g0 g) (hX : ext π0 π) (hv_s0 : s0 < nn π) (hv_s1 : s1 < nn π) (hl : lv_has ls 3 []) (h : Hp D A s.heap H locs (cW k z g π σ)) (hm : Pc_apply_488 N rApply π σ s0 s1 = some r) : W p l e { frames := φ + 6, cells := nn r.1 - nn π0, slots := sw r.1 - sw π0, locals := ψ + 300 } s m args below meth c H locs (nn π - nn π0) (sw π - sw π0) (MQ below (va_Qi (fun v u => gx (nn π0) g0 u ∧ v = Int32.ofInt r.2.2) (fun u t => PostW D (TYs k) A (cW k z u r.1 r.2.1) t) A) args s (nn r.1 - nn π0) (sw r.1 - sw π0) A) (F0 m 488 ls [rfv g s0, rfv g s1]) := by
  have hS := hC.1
  have hq := km_Pc_apply_488 hmrApply   hC hv_s0 hv_s1 hm
  rw [Pc_apply_488] at hm
  obtain ⟨r278, e279, hm⟩ := obd_s hm
  have q280 := (km_Df_add hC hv_s1 hv_s0 e279)
  obtain ⟨g281, hm⟩ := grd_s hm
  have q := km_Pc_apply_491 hmrApply  q280.2  hm
  refine c_callViA C hE h g281 rfl (by decide) (kc_Df_add l D k z mi aK aV g N hC hv_s1 hv_s0 e279) (cwV 1 C.2.2.1 (gS_X5_59 _) rfl rfl rfl hd_X0_add ⟨(by show 7 + 1 ≤ φ + 6; omega), (by show 8 + (2 + 11) + 241 ≤ ψ + 300; omega)⟩) rfl hl.1 rfl (Nat.le_of_ble_eq_true rfl) dX5_apply_488 ⟨rcC hX q280.1 q.1, rsC hX q280.1 q.1⟩ (fun u H locs hg h => ?_)
  refine W_cast (wcC hX q280.1).symm (wsC hX q280.1).symm ?_
  exact kl_Pc_apply_491 (N := N) C hr hlk hE hφ hψ hmrApply hcrApply  q280.2 (hG.tr hg hX.1) (hX.tr q280.1)  (lv_sub hl [] rfl) h hm
set_option maxHeartbeats 8000000 in
set_option maxRecDepth 100000 in
theorem kl_Pc_apply_479 {r : Sh × St × Int} (C : Cx p s m args c cX5_apply RX5 (cd :: cWd) D (TYs k) 3) (hr : meth.sig.returnType = (some .int)) (hlk : meth.locks = false) (hE : Ev z mi aK aV A s s.heap) {rApply : Sh → St → Int → Int → Int → Option (Sh × St × Int)} (hφ : 20 ≤ φ) (hψ : 600 ≤ ψ) (hmrApply : ∀ {π : Sh} {σ : St} {y0 : Int} {y1 : Int} {y2 : Int} {r : Sh × St × Int}, Cl π σ → y0 < nn π → y1 < nn π → rApply π σ y0 y1 y2 = some r → ext π r.1 ∧ Cl r.1 r.2.1) (hcrApply : ∀ {g : Nat → Nat} {π : Sh} {σ : St} {y0 : Int} {y1 : Int} {y2 : Int} {r : Sh × St × Int}, Cl π σ → y0 < nn π → y1 < nn π → rApply π σ y0 y1 y2 = some r → Mi l yX5_apply (.code yX5_apply cX5_apply 3 (some .int) :: cWd) { frames := φ, cells := nn r.1 - nn π, slots := sw r.1 - sw π, locals := ψ } [rfv g y0, rfv g y1, .int (Int32.ofInt y2)] D (TYs k) (cW k z g π σ) (XV z mi aK aV (cW k z g π σ)) (Nat → Nat) (fun v u => gx (nn π) g u ∧ v = Int32.ofInt r.2.2) (fun u => cW k z u r.1 r.2.1) (nn r.1 - nn π) (sw r.1 - sw π))  {ls : Array Slot} {H : Heap} {locs : List Loc} {g : Nat → Nat} {π : Sh} {σ : St} {x0 : Int} {s0 : Int} {s1 : Int} (hC : Cl π σ) (hG : gx (nn π0) g0 g) (hX : ext π0 π) (hv_x0 : x0 < nn π) (hv_s0 : s0 < nn π) (hv_s1 : s1 < nn π) (hl : lv_has ls 3 [(0, rfv g x0)]) (h : Hp D A s.heap H locs (cW k z g π σ)) (hm : Pc_apply_479 N rApply π σ x0 s0 s1 = some r) : W p l e { frames := φ + 6, cells := nn r.1 - nn π0, slots := sw r.1 - sw π0, locals := ψ + 300 } s m args below meth c H locs (nn π - nn π0) (sw π - sw π0) (MQ below (va_Qi (fun v u => gx (nn π0) g0 u ∧ v = Int32.ofInt r.2.2) (fun u t => PostW D (TYs k) A (cW k z u r.1 r.2.1) t) A) args s (nn r.1 - nn π0) (sw r.1 - sw π0) A) (F0 m 479 ls [rfv g s0, rfv g s1]) := by
  have hS := hC.1
  have hq := km_Pc_apply_479 hmrApply   hC hv_x0 hv_s0 hv_s1 hm
  rw [Pc_apply_479] at hm
  refine z_aload_n C dX5_apply_479 rfl (lv_at hl 0 rfl) ?_
  obtain ⟨g263, hm⟩ := grd_s hm
  refine cg_6_9 C h g263 cU_X5 (List.mem_cons_of_mem _ wl_X5_33) dX5_apply_480 ?_
  refine lv_iconst (v := Int32.ofInt 0) C.1 C.2.1 dX5_apply_483 (by decide) ?_
  obtain ⟨g264, hm⟩ := grd_s hm
  obtain ⟨g265, hm⟩ := grd_s hm
  refine c_iald C h g264 g265 dX5_apply_484 ?_
  obtain ⟨r266, e267, hm⟩ := obd_s hm
  have q268 := (km_Sp_give hC hv_s0 e267)
  obtain ⟨g269, hm⟩ := grd_s hm
  have q := km_Pc_apply_488 hmrApply  q268.2.1 q268.2.2 (lt_ext hv_s1 q268.1) hm
  refine c_callVqA C hE h g269 rfl (by decide) (kc_Sp_give l D k z mi aK aV g N hC hv_s0 e267) (cwV 1 C.2.2.1 (gS_X5_55 _) rfl rfl rfl hd_X9_give ⟨(by show 2 + 1 ≤ φ + 6; omega), (by show 8 + (2 + 11) + 82 ≤ ψ + 300; omega)⟩) rfl hl.1 rfl (by simp [rfv_cat, cat_i, cat_l]) dX5_apply_485 ⟨rcC hX q268.1 q.1, rsC hX q268.1 q.1⟩ (fun u H locs hg h => ?_)
  simp only [← gx_rfv hg hv_x0, ← gx_rfv hg hv_s1] at hl
  try simp only [← gx_rfv hg hv_x0, ← gx_rfv hg hv_s1]
  refine W_cast (wcC hX q268.1).symm (wsC hX q268.1).symm ?_
  exact kl_Pc_apply_488 (N := N) C hr hlk hE hφ hψ hmrApply hcrApply  q268.2.1 (hG.tr hg hX.1) (hX.tr q268.1) q268.2.2 (lt_ext hv_s1 q268.1) (lv_sub hl [] rfl) h hm
set_option maxHeartbeats 8000000 in
set_option maxRecDepth 100000 in
theorem kl_Pc_apply_475 {r : Sh × St × Int} (C : Cx p s m args c cX5_apply RX5 (cd :: cWd) D (TYs k) 3) (hr : meth.sig.returnType = (some .int)) (hlk : meth.locks = false) (hE : Ev z mi aK aV A s s.heap) {rApply : Sh → St → Int → Int → Int → Option (Sh × St × Int)} (hφ : 20 ≤ φ) (hψ : 600 ≤ ψ) (hmrApply : ∀ {π : Sh} {σ : St} {y0 : Int} {y1 : Int} {y2 : Int} {r : Sh × St × Int}, Cl π σ → y0 < nn π → y1 < nn π → rApply π σ y0 y1 y2 = some r → ext π r.1 ∧ Cl r.1 r.2.1) (hcrApply : ∀ {g : Nat → Nat} {π : Sh} {σ : St} {y0 : Int} {y1 : Int} {y2 : Int} {r : Sh × St × Int}, Cl π σ → y0 < nn π → y1 < nn π → rApply π σ y0 y1 y2 = some r → Mi l yX5_apply (.code yX5_apply cX5_apply 3 (some .int) :: cWd) { frames := φ, cells := nn r.1 - nn π, slots := sw r.1 - sw π, locals := ψ } [rfv g y0, rfv g y1, .int (Int32.ofInt y2)] D (TYs k) (cW k z g π σ) (XV z mi aK aV (cW k z g π σ)) (Nat → Nat) (fun v u => gx (nn π) g u ∧ v = Int32.ofInt r.2.2) (fun u => cW k z u r.1 r.2.1) (nn r.1 - nn π) (sw r.1 - sw π))  {ls : Array Slot} {H : Heap} {locs : List Loc} {g : Nat → Nat} {π : Sh} {σ : St} {x0 : Int} {x2 : Int} {s0 : Int} {s1 : Int} (hC : Cl π σ) (hG : gx (nn π0) g0 g) (hX : ext π0 π) (hv_x0 : x0 < nn π) (hv_s0 : s0 < nn π) (hv_s1 : s1 < nn π) (hl : lv_has ls 3 [(0, rfv g x0), (2, .int (Int32.ofInt x2))]) (h : Hp D A s.heap H locs (cW k z g π σ)) (hm : Pc_apply_475 N rApply π σ x0 x2 s0 s1 = some r) : W p l e { frames := φ + 6, cells := nn r.1 - nn π0, slots := sw r.1 - sw π0, locals := ψ + 300 } s m args below meth c H locs (nn π - nn π0) (sw π - sw π0) (MQ below (va_Qi (fun v u => gx (nn π0) g0 u ∧ v = Int32.ofInt r.2.2) (fun u t => PostW D (TYs k) A (cW k z u r.1 r.2.1) t) A) args s (nn r.1 - nn π0) (sw r.1 - sw π0) A) (F0 m 475 ls [rfv g s0, rfv g s1]) := by
  have hS := hC.1
  have hq := km_Pc_apply_475 hmrApply   hC hv_x0 hv_s0 hv_s1 hm
  rw [Pc_apply_475] at hm
  refine lv_iload_n C.1 C.2.1 dX5_apply_475 rfl (lv_at hl 1 rfl) ?_
  obtain ⟨r207, e208, hm⟩ := obd_s hm
  have q209 := (km_Sp_give hC hv_s0 e208)
  obtain ⟨g210, hm⟩ := grd_s hm
  have q := km_Pc_apply_479 hmrApply  q209.2.1 (lt_ext hv_x0 q209.1) q209.2.2 (lt_ext hv_s1 q209.1) hm
  refine c_callVqA C hE h g210 rfl (by decide) (kc_Sp_give l D k z mi aK aV g N hC hv_s0 e208) (cwV 1 C.2.2.1 (gS_X5_55 _) rfl rfl rfl hd_X9_give ⟨(by show 2 + 1 ≤ φ + 6; omega), (by show 8 + (2 + 11) + 82 ≤ ψ + 300; omega)⟩) rfl hl.1 rfl (by simp [rfv_cat, cat_i, cat_l]) dX5_apply_476 ⟨rcC hX q209.1 q.1, rsC hX q209.1 q.1⟩ (fun u H locs hg h => ?_)
  simp only [← gx_rfv hg hv_x0, ← gx_rfv hg hv_s1] at hl
  try simp only [← gx_rfv hg hv_x0, ← gx_rfv hg hv_s1]
  refine W_cast (wcC hX q209.1).symm (wsC hX q209.1).symm ?_
  exact kl_Pc_apply_479 (N := N) C hr hlk hE hφ hψ hmrApply hcrApply  q209.2.1 (hG.tr hg hX.1) (hX.tr q209.1) (lt_ext hv_x0 q209.1) q209.2.2 (lt_ext hv_s1 q209.1) (lv_sub hl [0] rfl) h hm
set_option maxHeartbeats 8000000 in
set_option maxRecDepth 100000 in
theorem kl_Pc_apply_460 {r : Sh × St × Int} (C : Cx p s m args c cX5_apply RX5 (cd :: cWd) D (TYs k) 3) (hr : meth.sig.returnType = (some .int)) (hlk : meth.locks = false) (hE : Ev z mi aK aV A s s.heap) {rApply : Sh → St → Int → Int → Int → Option (Sh × St × Int)} (hφ : 20 ≤ φ) (hψ : 600 ≤ ψ) (hmrApply : ∀ {π : Sh} {σ : St} {y0 : Int} {y1 : Int} {y2 : Int} {r : Sh × St × Int}, Cl π σ → y0 < nn π → y1 < nn π → rApply π σ y0 y1 y2 = some r → ext π r.1 ∧ Cl r.1 r.2.1) (hcrApply : ∀ {g : Nat → Nat} {π : Sh} {σ : St} {y0 : Int} {y1 : Int} {y2 : Int} {r : Sh × St × Int}, Cl π σ → y0 < nn π → y1 < nn π → rApply π σ y0 y1 y2 = some r → Mi l yX5_apply (.code yX5_apply cX5_apply 3 (some .int) :: cWd) { frames := φ, cells := nn r.1 - nn π, slots := sw r.1 - sw π, locals := ψ } [rfv g y0, rfv g y1, .int (Int32.ofInt y2)] D (TYs k) (cW k z g π σ) (XV z mi aK aV (cW k z g π σ)) (Nat → Nat) (fun v u => gx (nn π) g u ∧ v = Int32.ofInt r.2.2) (fun u => cW k z u r.1 r.2.1) (nn r.1 - nn π) (sw r.1 - sw π))  {ls : Array Slot} {H : Heap} {locs : List Loc} {g : Nat → Nat} {π : Sh} {σ : St} {x0 : Int} {x2 : Int} {s0 : Int} {s1 : Int} (hC : Cl π σ) (hG : gx (nn π0) g0 g) (hX : ext π0 π) (hv_x0 : x0 < nn π) (hv_s0 : s0 < nn π) (hv_s1 : s1 < nn π) (hl : lv_has ls 3 [(0, rfv g x0), (2, .int (Int32.ofInt x2))]) (h : Hp D A s.heap H locs (cW k z g π σ)) (hm : Pc_apply_460 N rApply π σ x0 x2 s0 s1 = some r) : W p l e { frames := φ + 6, cells := nn r.1 - nn π0, slots := sw r.1 - sw π0, locals := ψ + 300 } s m args below meth c H locs (nn π - nn π0) (sw π - sw π0) (MQ below (va_Qi (fun v u => gx (nn π0) g0 u ∧ v = Int32.ofInt r.2.2) (fun u t => PostW D (TYs k) A (cW k z u r.1 r.2.1) t) A) args s (nn r.1 - nn π0) (sw r.1 - sw π0) A) (F0 m 460 ls [rfv g s0, rfv g s1]) := by
  have hS := hC.1
  have hq := km_Pc_apply_460 hmrApply   hC hv_x0 hv_s0 hv_s1 hm
  rw [Pc_apply_460] at hm
  refine lv_dup C.1 C.2.1 dX5_apply_460 (rfv_cat _ _) ?_
  refine lv_bipush (v := Int32.ofInt 21) C.1 C.2.1 dX5_apply_461 (by decide) ?_
  refine z_aload_n C dX5_apply_463 rfl (lv_at hl 0 rfl) ?_
  obtain ⟨g140, hm⟩ := grd_s hm
  refine cg_6_1 C h g140 cU_X5 (List.mem_cons_of_mem _ wl_X5_43) dX5_apply_464 ?_
  refine z_aload_n C dX5_apply_467 rfl (lv_at hl 0 rfl) ?_
  refine cg_6_2 C h g140 cU_X5 (List.mem_cons_of_mem _ wl_X5_7) dX5_apply_468 ?_
  refine lv_iconst (v := Int32.ofInt 0) C.1 C.2.1 dX5_apply_471 (by decide) ?_
  obtain ⟨r141, e142, hm⟩ := obd_s hm
  have q143 := (km_Sp_initB hC hv_s0 e142)
  obtain ⟨g144, hm⟩ := grd_s hm
  have q := km_Pc_apply_475 hmrApply  q143.2 (lt_ext hv_x0 q143.1) (lt_ext hv_s0 q143.1) (lt_ext hv_s1 q143.1) hm
  refine c_callIvA C hE h g144 (kc_Sp_initB l D k z mi aK aV g N hC hv_s0 e142) (cwI 4 C.2.2.1 (gC_X9_init_ _) rfl rfl rfl (C.2.2.1 _ (List.mem_cons_of_mem _ wt_X9)) (C.2.2.1 _ (List.mem_cons_of_mem _ wm_X5_52)) (C.2.2.1 _ (List.mem_cons_of_mem _ wj_X9_init_)) rfl hdS_X9_init_ ⟨(by show 1 + 1 ≤ φ + 6; omega), (by show 8 + (5 + 11) + 30 ≤ ψ + 300; omega)⟩) rfl hl.1 rfl (by simp [rfv_cat, cat_i, cat_l]) dX5_apply_472 ⟨rcC hX q143.1 q.1, rsC hX q143.1 q.1⟩ (fun u H locs hg h => ?_)
  simp only [← gx_rfv hg hv_x0, ← gx_rfv hg hv_s0, ← gx_rfv hg hv_s1] at hl
  try simp only [← gx_rfv hg hv_x0, ← gx_rfv hg hv_s0, ← gx_rfv hg hv_s1]
  refine W_cast (wcC hX q143.1).symm (wsC hX q143.1).symm ?_
  exact kl_Pc_apply_475 (N := N) C hr hlk hE hφ hψ hmrApply hcrApply  q143.2 (hG.tr hg hX.1) (hX.tr q143.1) (lt_ext hv_x0 q143.1) (lt_ext hv_s0 q143.1) (lt_ext hv_s1 q143.1) (lv_sub hl [0, 1] rfl) h hm
set_option maxHeartbeats 8000000 in
set_option maxRecDepth 100000 in
theorem kl_Pc_apply_519 {r : Sh × St × Int} (C : Cx p s m args c cX5_apply RX5 (cd :: cWd) D (TYs k) 3) (hr : meth.sig.returnType = (some .int)) (hlk : meth.locks = false) (hE : Ev z mi aK aV A s s.heap) {rApply : Sh → St → Int → Int → Int → Option (Sh × St × Int)} (hφ : 20 ≤ φ) (hψ : 600 ≤ ψ) (hmrApply : ∀ {π : Sh} {σ : St} {y0 : Int} {y1 : Int} {y2 : Int} {r : Sh × St × Int}, Cl π σ → y0 < nn π → y1 < nn π → rApply π σ y0 y1 y2 = some r → ext π r.1 ∧ Cl r.1 r.2.1) (hcrApply : ∀ {g : Nat → Nat} {π : Sh} {σ : St} {y0 : Int} {y1 : Int} {y2 : Int} {r : Sh × St × Int}, Cl π σ → y0 < nn π → y1 < nn π → rApply π σ y0 y1 y2 = some r → Mi l yX5_apply (.code yX5_apply cX5_apply 3 (some .int) :: cWd) { frames := φ, cells := nn r.1 - nn π, slots := sw r.1 - sw π, locals := ψ } [rfv g y0, rfv g y1, .int (Int32.ofInt y2)] D (TYs k) (cW k z g π σ) (XV z mi aK aV (cW k z g π σ)) (Nat → Nat) (fun v u => gx (nn π) g u ∧ v = Int32.ofInt r.2.2) (fun u => cW k z u r.1 r.2.1) (nn r.1 - nn π) (sw r.1 - sw π))  {ls : Array Slot} {H : Heap} {locs : List Loc} {g : Nat → Nat} {π : Sh} {σ : St} {s0 : Int} (hC : Cl π σ) (hG : gx (nn π0) g0 g) (hX : ext π0 π)  (hl : lv_has ls 3 []) (h : Hp D A s.heap H locs (cW k z g π σ)) (hm : Pc_apply_519 N rApply π σ s0 = some r) : W p l e { frames := φ + 6, cells := nn r.1 - nn π0, slots := sw r.1 - sw π0, locals := ψ + 300 } s m args below meth c H locs (nn π - nn π0) (sw π - sw π0) (MQ below (va_Qi (fun v u => gx (nn π0) g0 u ∧ v = Int32.ofInt r.2.2) (fun u t => PostW D (TYs k) A (cW k z u r.1 r.2.1) t) A) args s (nn r.1 - nn π0) (sw r.1 - sw π0) A) (F0 m 519 ls [.int (Int32.ofInt s0)]) := by
  have hS := hC.1
  have hq := km_Pc_apply_519 hmrApply   hC  hm
  rw [Pc_apply_519] at hm
  cases hm
  exact c_iretA C hG h hr hlk dX5_apply_519 rfl
set_option maxHeartbeats 8000000 in
set_option maxRecDepth 100000 in
theorem kl_Pc_apply_516 {r : Sh × St × Int} (C : Cx p s m args c cX5_apply RX5 (cd :: cWd) D (TYs k) 3) (hr : meth.sig.returnType = (some .int)) (hlk : meth.locks = false) (hE : Ev z mi aK aV A s s.heap) {rApply : Sh → St → Int → Int → Int → Option (Sh × St × Int)} (hφ : 20 ≤ φ) (hψ : 600 ≤ ψ) (hmrApply : ∀ {π : Sh} {σ : St} {y0 : Int} {y1 : Int} {y2 : Int} {r : Sh × St × Int}, Cl π σ → y0 < nn π → y1 < nn π → rApply π σ y0 y1 y2 = some r → ext π r.1 ∧ Cl r.1 r.2.1) (hcrApply : ∀ {g : Nat → Nat} {π : Sh} {σ : St} {y0 : Int} {y1 : Int} {y2 : Int} {r : Sh × St × Int}, Cl π σ → y0 < nn π → y1 < nn π → rApply π σ y0 y1 y2 = some r → Mi l yX5_apply (.code yX5_apply cX5_apply 3 (some .int) :: cWd) { frames := φ, cells := nn r.1 - nn π, slots := sw r.1 - sw π, locals := ψ } [rfv g y0, rfv g y1, .int (Int32.ofInt y2)] D (TYs k) (cW k z g π σ) (XV z mi aK aV (cW k z g π σ)) (Nat → Nat) (fun v u => gx (nn π) g u ∧ v = Int32.ofInt r.2.2) (fun u => cW k z u r.1 r.2.1) (nn r.1 - nn π) (sw r.1 - sw π))  {ls : Array Slot} {H : Heap} {locs : List Loc} {g : Nat → Nat} {π : Sh} {σ : St} {s0 : Int} {s1 : Int} (hC : Cl π σ) (hG : gx (nn π0) g0 g) (hX : ext π0 π) (hv_s0 : s0 < nn π) (hv_s1 : s1 < nn π) (hl : lv_has ls 3 []) (h : Hp D A s.heap H locs (cW k z g π σ)) (hm : Pc_apply_516 N rApply π σ s0 s1 = some r) : W p l e { frames := φ + 6, cells := nn r.1 - nn π0, slots := sw r.1 - sw π0, locals := ψ + 300 } s m args below meth c H locs (nn π - nn π0) (sw π - sw π0) (MQ below (va_Qi (fun v u => gx (nn π0) g0 u ∧ v = Int32.ofInt r.2.2) (fun u t => PostW D (TYs k) A (cW k z u r.1 r.2.1) t) A) args s (nn r.1 - nn π0) (sw r.1 - sw π0) A) (F0 m 516 ls [rfv g s0, rfv g s1]) := by
  have hS := hC.1
  have hq := km_Pc_apply_516 hmrApply   hC hv_s0 hv_s1 hm
  rw [Pc_apply_516] at hm
  obtain ⟨r211, e212, hm⟩ := obd_s hm
  have q213 := (km_Df_add hC hv_s1 hv_s0 e212)
  obtain ⟨g214, hm⟩ := grd_s hm
  have q := km_Pc_apply_519 hmrApply  q213.2  hm
  refine c_callViA C hE h g214 rfl (by decide) (kc_Df_add l D k z mi aK aV g N hC hv_s1 hv_s0 e212) (cwV 1 C.2.2.1 (gS_X5_59 _) rfl rfl rfl hd_X0_add ⟨(by show 7 + 1 ≤ φ + 6; omega), (by show 8 + (2 + 11) + 241 ≤ ψ + 300; omega)⟩) rfl hl.1 rfl (Nat.le_of_ble_eq_true rfl) dX5_apply_516 ⟨rcC hX q213.1 q.1, rsC hX q213.1 q.1⟩ (fun u H locs hg h => ?_)
  refine W_cast (wcC hX q213.1).symm (wsC hX q213.1).symm ?_
  exact kl_Pc_apply_519 (N := N) C hr hlk hE hφ hψ hmrApply hcrApply  q213.2 (hG.tr hg hX.1) (hX.tr q213.1)  (lv_sub hl [] rfl) h hm
set_option maxHeartbeats 8000000 in
set_option maxRecDepth 100000 in
theorem kl_Pc_apply_512 {r : Sh × St × Int} (C : Cx p s m args c cX5_apply RX5 (cd :: cWd) D (TYs k) 3) (hr : meth.sig.returnType = (some .int)) (hlk : meth.locks = false) (hE : Ev z mi aK aV A s s.heap) {rApply : Sh → St → Int → Int → Int → Option (Sh × St × Int)} (hφ : 20 ≤ φ) (hψ : 600 ≤ ψ) (hmrApply : ∀ {π : Sh} {σ : St} {y0 : Int} {y1 : Int} {y2 : Int} {r : Sh × St × Int}, Cl π σ → y0 < nn π → y1 < nn π → rApply π σ y0 y1 y2 = some r → ext π r.1 ∧ Cl r.1 r.2.1) (hcrApply : ∀ {g : Nat → Nat} {π : Sh} {σ : St} {y0 : Int} {y1 : Int} {y2 : Int} {r : Sh × St × Int}, Cl π σ → y0 < nn π → y1 < nn π → rApply π σ y0 y1 y2 = some r → Mi l yX5_apply (.code yX5_apply cX5_apply 3 (some .int) :: cWd) { frames := φ, cells := nn r.1 - nn π, slots := sw r.1 - sw π, locals := ψ } [rfv g y0, rfv g y1, .int (Int32.ofInt y2)] D (TYs k) (cW k z g π σ) (XV z mi aK aV (cW k z g π σ)) (Nat → Nat) (fun v u => gx (nn π) g u ∧ v = Int32.ofInt r.2.2) (fun u => cW k z u r.1 r.2.1) (nn r.1 - nn π) (sw r.1 - sw π))  {ls : Array Slot} {H : Heap} {locs : List Loc} {g : Nat → Nat} {π : Sh} {σ : St} {x2 : Int} {s0 : Int} {s1 : Int} (hC : Cl π σ) (hG : gx (nn π0) g0 g) (hX : ext π0 π) (hv_s0 : s0 < nn π) (hv_s1 : s1 < nn π) (hl : lv_has ls 3 [(2, .int (Int32.ofInt x2))]) (h : Hp D A s.heap H locs (cW k z g π σ)) (hm : Pc_apply_512 N rApply π σ x2 s0 s1 = some r) : W p l e { frames := φ + 6, cells := nn r.1 - nn π0, slots := sw r.1 - sw π0, locals := ψ + 300 } s m args below meth c H locs (nn π - nn π0) (sw π - sw π0) (MQ below (va_Qi (fun v u => gx (nn π0) g0 u ∧ v = Int32.ofInt r.2.2) (fun u t => PostW D (TYs k) A (cW k z u r.1 r.2.1) t) A) args s (nn r.1 - nn π0) (sw r.1 - sw π0) A) (F0 m 512 ls [rfv g s0, rfv g s1]) := by
  have hS := hC.1
  have hq := km_Pc_apply_512 hmrApply   hC hv_s0 hv_s1 hm
  rw [Pc_apply_512] at hm
  refine lv_iload_n C.1 C.2.1 dX5_apply_512 rfl (lv_at hl 0 rfl) ?_
  obtain ⟨r145, e146, hm⟩ := obd_s hm
  have q147 := (km_Sp_give hC hv_s0 e146)
  obtain ⟨g148, hm⟩ := grd_s hm
  have q := km_Pc_apply_516 hmrApply  q147.2.1 q147.2.2 (lt_ext hv_s1 q147.1) hm
  refine c_callVqA C hE h g148 rfl (by decide) (kc_Sp_give l D k z mi aK aV g N hC hv_s0 e146) (cwV 1 C.2.2.1 (gS_X5_55 _) rfl rfl rfl hd_X9_give ⟨(by show 2 + 1 ≤ φ + 6; omega), (by show 8 + (2 + 11) + 82 ≤ ψ + 300; omega)⟩) rfl hl.1 rfl (by simp [rfv_cat, cat_i, cat_l]) dX5_apply_513 ⟨rcC hX q147.1 q.1, rsC hX q147.1 q.1⟩ (fun u H locs hg h => ?_)
  try simp only [← gx_rfv hg hv_s1]
  refine W_cast (wcC hX q147.1).symm (wsC hX q147.1).symm ?_
  exact kl_Pc_apply_516 (N := N) C hr hlk hE hφ hψ hmrApply hcrApply  q147.2.1 (hG.tr hg hX.1) (hX.tr q147.1) q147.2.2 (lt_ext hv_s1 q147.1) (lv_sub hl [] rfl) h hm
set_option maxHeartbeats 8000000 in
set_option maxRecDepth 100000 in
theorem kl_Pc_apply_529 {r : Sh × St × Int} (C : Cx p s m args c cX5_apply RX5 (cd :: cWd) D (TYs k) 3) (hr : meth.sig.returnType = (some .int)) (hlk : meth.locks = false) (hE : Ev z mi aK aV A s s.heap) {rApply : Sh → St → Int → Int → Int → Option (Sh × St × Int)} (hφ : 20 ≤ φ) (hψ : 600 ≤ ψ) (hmrApply : ∀ {π : Sh} {σ : St} {y0 : Int} {y1 : Int} {y2 : Int} {r : Sh × St × Int}, Cl π σ → y0 < nn π → y1 < nn π → rApply π σ y0 y1 y2 = some r → ext π r.1 ∧ Cl r.1 r.2.1) (hcrApply : ∀ {g : Nat → Nat} {π : Sh} {σ : St} {y0 : Int} {y1 : Int} {y2 : Int} {r : Sh × St × Int}, Cl π σ → y0 < nn π → y1 < nn π → rApply π σ y0 y1 y2 = some r → Mi l yX5_apply (.code yX5_apply cX5_apply 3 (some .int) :: cWd) { frames := φ, cells := nn r.1 - nn π, slots := sw r.1 - sw π, locals := ψ } [rfv g y0, rfv g y1, .int (Int32.ofInt y2)] D (TYs k) (cW k z g π σ) (XV z mi aK aV (cW k z g π σ)) (Nat → Nat) (fun v u => gx (nn π) g u ∧ v = Int32.ofInt r.2.2) (fun u => cW k z u r.1 r.2.1) (nn r.1 - nn π) (sw r.1 - sw π))  {ls : Array Slot} {H : Heap} {locs : List Loc} {g : Nat → Nat} {π : Sh} {σ : St} {s0 : Int} (hC : Cl π σ) (hG : gx (nn π0) g0 g) (hX : ext π0 π)  (hl : lv_has ls 3 []) (h : Hp D A s.heap H locs (cW k z g π σ)) (hm : Pc_apply_529 N rApply π σ s0 = some r) : W p l e { frames := φ + 6, cells := nn r.1 - nn π0, slots := sw r.1 - sw π0, locals := ψ + 300 } s m args below meth c H locs (nn π - nn π0) (sw π - sw π0) (MQ below (va_Qi (fun v u => gx (nn π0) g0 u ∧ v = Int32.ofInt r.2.2) (fun u t => PostW D (TYs k) A (cW k z u r.1 r.2.1) t) A) args s (nn r.1 - nn π0) (sw r.1 - sw π0) A) (F0 m 529 ls [.int (Int32.ofInt s0)]) := by
  have hS := hC.1
  have hq := km_Pc_apply_529 hmrApply   hC  hm
  rw [Pc_apply_529] at hm
  cases hm
  exact c_iretA C hG h hr hlk dX5_apply_529 rfl
set_option maxHeartbeats 8000000 in
set_option maxRecDepth 100000 in
theorem kc_Pc_apply (l : Launch) (D : va_G) (k : Nat → ClassId) (z mi : Nat) (aK aV : Nat → Nat) (g : Nat → Nat) (N : Nat) {φ ψ : Nat} {rApply : Sh → St → Int → Int → Int → Option (Sh × St × Int)} (hφ : 20 ≤ φ) (hψ : 600 ≤ ψ) (hmrApply : ∀ {π : Sh} {σ : St} {y0 : Int} {y1 : Int} {y2 : Int} {r : Sh × St × Int}, Cl π σ → y0 < nn π → y1 < nn π → rApply π σ y0 y1 y2 = some r → ext π r.1 ∧ Cl r.1 r.2.1) (hcrApply : ∀ {g : Nat → Nat} {π : Sh} {σ : St} {y0 : Int} {y1 : Int} {y2 : Int} {r : Sh × St × Int}, Cl π σ → y0 < nn π → y1 < nn π → rApply π σ y0 y1 y2 = some r → Mi l yX5_apply (.code yX5_apply cX5_apply 3 (some .int) :: cWd) { frames := φ, cells := nn r.1 - nn π, slots := sw r.1 - sw π, locals := ψ } [rfv g y0, rfv g y1, .int (Int32.ofInt y2)] D (TYs k) (cW k z g π σ) (XV z mi aK aV (cW k z g π σ)) (Nat → Nat) (fun v u => gx (nn π) g u ∧ v = Int32.ofInt r.2.2) (fun u => cW k z u r.1 r.2.1) (nn r.1 - nn π) (sw r.1 - sw π)) {π : Sh} {σ : St} {x0 : Int} {x1 : Int} {x2 : Int} {r : Sh × St × Int} (hC : Cl π σ) (hv_x0 : x0 < nn π) (hv_x1 : x1 < nn π) (hm : Pc_apply N rApply π σ x0 x1 x2 = some r) : Mi l yX5_apply (.code yX5_apply cX5_apply 3 (some .int) :: cWd) { frames := φ + 6, cells := nn r.1 - nn π, slots := sw r.1 - sw π, locals := ψ + 300 } [rfv g x0, rfv g x1, .int (Int32.ofInt x2)] D (TYs k) (cW k z g π σ) (XV z mi aK aV (cW k z g π σ)) (Nat → Nat) (fun v u => gx (nn π) g u ∧ v = Int32.ofInt r.2.2) (fun u => cW k z u r.1 r.2.1) (nn r.1 - nn π) (sw r.1 - sw π) := by
  have hS := hC.1
  have hq := km_Pc_apply hmrApply hC hv_x0 hv_x1 hm
  intro sz
  refine v_met (cc := cX5_apply) (maxL := 3) (ret := (some .int)) (lv := [(0, rfv g x0), (1, rfv g x1), (2, .int (Int32.ofInt x2))]) (by decide) rfl (by simp [lg_sl, rfv_cat, cat_i, cat_l]) (by simp [lv_args, rfv_cat, cat_i, cat_l]) ?_
  intro p e s m below meth c ls C hE hr hlk hmn hl h
  generalize ([rfv g x0, rfv g x1, .int (Int32.ofInt x2)] : List Value).toArray = args at C ⊢
  have hG := gx.rf (nn π) g
  have hX := ext.rf π
  refine W_cast (Nat.sub_self (nn π)) (Nat.sub_self (sw π)) ?_
  rw [Pc_apply] at hm
  refine z_aload_n C dX5_apply_0 rfl (lv_at hl 0 rfl) ?_
  obtain ⟨g1, hm⟩ := grd_s hm
  refine cg_6_0 C h g1 cU_X5 (List.mem_cons_of_mem _ wl_X5_40) dX5_apply_1 ?_
  obtain ⟨g2, hm⟩ := grd_s hm
  by_cases c3 : (fl σ 120 x0) = 0
  · refine x_topi (congrArg Int32.ofInt c3) ?_
    have hm := ite_t c3 hm
    refine lv_tableIn (tgt := 116) C.1 C.2.1 dX5_apply_4 (by decide) (by decide) rfl (by decide) ?_
    refine z_aload_n C dX5_apply_116 rfl (lv_at hl 1 rfl) ?_
    have q := km_Pc_apply_120 hmrApply  ((cl_nO hC (by decide) (by decide) _)) (lt_ext hv_x0 (ext_nO π 10 14)) lt_nO (lt_ext hv_x1 (ext_nO π 10 14)) hm
    refine c_new C h hC (by decide) dX5_apply_117 rfl cU_X9 tyX9_ok (List.mem_cons_of_mem _ wn_X5_50) (List.mem_cons_of_mem _ wi_X9) (List.mem_cons_of_mem _ wt_X9) (df_X9) (dn_X9 z) (rc1 hX q.1) (rs1 hX q.1) (fun u H hg h => ?_)
    simp only [← gx_rfv hg hv_x0, ← gx_rfv hg hv_x1] at hl
    try simp only [← gx_rfv hg hv_x0, ← gx_rfv hg hv_x1]
    refine W_cast (wcO (c := 10) (w := 14) hX).symm (wsO (c := 10) (w := 14) hX).symm ?_
    exact kl_Pc_apply_120 (N := N) C hr hlk hE hφ hψ hmrApply hcrApply  ((cl_nO hC (by decide) (by decide) _)) (hG.tr hg hX.1) (hX.tr (ext_nO π 10 14)) (lt_ext hv_x0 (ext_nO π 10 14)) lt_nO (lt_ext hv_x1 (ext_nO π 10 14)) (lv_sub hl [0, 2] rfl) h hm
  have hm := ite_f c3 hm
  by_cases c5 : (fl σ 120 x0) = 1
  · refine x_topi (congrArg Int32.ofInt c5) ?_
    have hm := ite_t c5 hm
    refine lv_tableIn (tgt := 146) C.1 C.2.1 dX5_apply_4 (by decide) (by decide) rfl (by decide) ?_
    refine z_aload_n C dX5_apply_146 rfl (lv_at hl 1 rfl) ?_
    have q := km_Pc_apply_150 hmrApply  ((cl_nO hC (by decide) (by decide) _)) (lt_ext hv_x0 (ext_nO π 10 14)) lt_nO (lt_ext hv_x1 (ext_nO π 10 14)) hm
    refine c_new C h hC (by decide) dX5_apply_147 rfl cU_X9 tyX9_ok (List.mem_cons_of_mem _ wn_X5_50) (List.mem_cons_of_mem _ wi_X9) (List.mem_cons_of_mem _ wt_X9) (df_X9) (dn_X9 z) (rc1 hX q.1) (rs1 hX q.1) (fun u H hg h => ?_)
    simp only [← gx_rfv hg hv_x0, ← gx_rfv hg hv_x1] at hl
    try simp only [← gx_rfv hg hv_x0, ← gx_rfv hg hv_x1]
    refine W_cast (wcO (c := 10) (w := 14) hX).symm (wsO (c := 10) (w := 14) hX).symm ?_
    exact kl_Pc_apply_150 (N := N) C hr hlk hE hφ hψ hmrApply hcrApply  ((cl_nO hC (by decide) (by decide) _)) (hG.tr hg hX.1) (hX.tr (ext_nO π 10 14)) (lt_ext hv_x0 (ext_nO π 10 14)) lt_nO (lt_ext hv_x1 (ext_nO π 10 14)) (lv_sub hl [0, 2] rfl) h hm
  have hm := ite_f c5 hm
  by_cases c7 : (fl σ 120 x0) = 2
  · refine x_topi (congrArg Int32.ofInt c7) ?_
    have hm := ite_t c7 hm
    refine lv_tableIn (tgt := 176) C.1 C.2.1 dX5_apply_4 (by decide) (by decide) rfl (by decide) ?_
    refine z_aload_n C dX5_apply_176 rfl (lv_at hl 1 rfl) ?_
    have q := km_Pc_apply_180 hmrApply  ((cl_nO hC (by decide) (by decide) _)) (lt_ext hv_x0 (ext_nO π 10 14)) lt_nO (lt_ext hv_x1 (ext_nO π 10 14)) hm
    refine c_new C h hC (by decide) dX5_apply_177 rfl cU_X9 tyX9_ok (List.mem_cons_of_mem _ wn_X5_50) (List.mem_cons_of_mem _ wi_X9) (List.mem_cons_of_mem _ wt_X9) (df_X9) (dn_X9 z) (rc1 hX q.1) (rs1 hX q.1) (fun u H hg h => ?_)
    simp only [← gx_rfv hg hv_x0, ← gx_rfv hg hv_x1] at hl
    try simp only [← gx_rfv hg hv_x0, ← gx_rfv hg hv_x1]
    refine W_cast (wcO (c := 10) (w := 14) hX).symm (wsO (c := 10) (w := 14) hX).symm ?_
    exact kl_Pc_apply_180 (N := N) C hr hlk hE hφ hψ hmrApply hcrApply  ((cl_nO hC (by decide) (by decide) _)) (hG.tr hg hX.1) (hX.tr (ext_nO π 10 14)) (lt_ext hv_x0 (ext_nO π 10 14)) lt_nO (lt_ext hv_x1 (ext_nO π 10 14)) (lv_sub hl [0, 2] rfl) h hm
  have hm := ite_f c7 hm
  by_cases c9 : (fl σ 120 x0) = 3
  · refine x_topi (congrArg Int32.ofInt c9) ?_
    have hm := ite_t c9 hm
    refine lv_tableIn (tgt := 206) C.1 C.2.1 dX5_apply_4 (by decide) (by decide) rfl (by decide) ?_
    refine z_aload_n C dX5_apply_206 rfl (lv_at hl 1 rfl) ?_
    have q := km_Pc_apply_210 hmrApply  ((cl_nO hC (by decide) (by decide) _)) (lt_ext hv_x0 (ext_nO π 10 14)) lt_nO (lt_ext hv_x1 (ext_nO π 10 14)) hm
    refine c_new C h hC (by decide) dX5_apply_207 rfl cU_X9 tyX9_ok (List.mem_cons_of_mem _ wn_X5_50) (List.mem_cons_of_mem _ wi_X9) (List.mem_cons_of_mem _ wt_X9) (df_X9) (dn_X9 z) (rc1 hX q.1) (rs1 hX q.1) (fun u H hg h => ?_)
    simp only [← gx_rfv hg hv_x0, ← gx_rfv hg hv_x1] at hl
    try simp only [← gx_rfv hg hv_x0, ← gx_rfv hg hv_x1]
    refine W_cast (wcO (c := 10) (w := 14) hX).symm (wsO (c := 10) (w := 14) hX).symm ?_
    exact kl_Pc_apply_210 (N := N) C hr hlk hE hφ hψ hmrApply hcrApply  ((cl_nO hC (by decide) (by decide) _)) (hG.tr hg hX.1) (hX.tr (ext_nO π 10 14)) (lt_ext hv_x0 (ext_nO π 10 14)) lt_nO (lt_ext hv_x1 (ext_nO π 10 14)) (lv_sub hl [0, 2] rfl) h hm
  have hm := ite_f c9 hm
  by_cases c11 : (fl σ 120 x0) = 4
  · refine x_topi (congrArg Int32.ofInt c11) ?_
    have hm := ite_t c11 hm
    refine lv_tableIn (tgt := 237) C.1 C.2.1 dX5_apply_4 (by decide) (by decide) rfl (by decide) ?_
    refine z_aload_n C dX5_apply_237 rfl (lv_at hl 1 rfl) ?_
    have q := km_Pc_apply_241 hmrApply  ((cl_nO hC (by decide) (by decide) _)) (lt_ext hv_x0 (ext_nO π 10 14)) lt_nO (lt_ext hv_x1 (ext_nO π 10 14)) hm
    refine c_new C h hC (by decide) dX5_apply_238 rfl cU_X9 tyX9_ok (List.mem_cons_of_mem _ wn_X5_50) (List.mem_cons_of_mem _ wi_X9) (List.mem_cons_of_mem _ wt_X9) (df_X9) (dn_X9 z) (rc1 hX q.1) (rs1 hX q.1) (fun u H hg h => ?_)
    simp only [← gx_rfv hg hv_x0, ← gx_rfv hg hv_x1] at hl
    try simp only [← gx_rfv hg hv_x0, ← gx_rfv hg hv_x1]
    refine W_cast (wcO (c := 10) (w := 14) hX).symm (wsO (c := 10) (w := 14) hX).symm ?_
    exact kl_Pc_apply_241 (N := N) C hr hlk hE hφ hψ hmrApply hcrApply  ((cl_nO hC (by decide) (by decide) _)) (hG.tr hg hX.1) (hX.tr (ext_nO π 10 14)) (lt_ext hv_x0 (ext_nO π 10 14)) lt_nO (lt_ext hv_x1 (ext_nO π 10 14)) (lv_sub hl [0, 2] rfl) h hm
  have hm := ite_f c11 hm
  by_cases c13 : (fl σ 120 x0) = 5
  · refine x_topi (congrArg Int32.ofInt c13) ?_
    have hm := ite_t c13 hm
    refine lv_tableIn (tgt := 530) C.1 C.2.1 dX5_apply_4 (by decide) (by decide) rfl (by decide) ?_
    refine z_aload_n C dX5_apply_530 rfl (lv_at hl 0 rfl) ?_
    refine z_aload_n C dX5_apply_531 rfl (lv_at hl 1 rfl) ?_
    refine lv_iload_n C.1 C.2.1 dX5_apply_532 rfl (lv_at hl 2 rfl) ?_
    obtain ⟨r14, e15, hm⟩ := obd_s hm
    have q16 := (km_Pc_applyWithFun hmrApply hC hv_x0 hv_x1 e15)
    have q := km_Pc_apply_536 hmrApply  q16.2  hm
    refine c_callViA C hE h g1 rfl (by decide) (kc_Pc_applyWithFun l D k z mi aK aV g N hφ hψ hmrApply hcrApply hC hv_x0 hv_x1 e15) (cwV 2 C.2.2.1 (gS_X5_79 _) rfl rfl rfl hd_X5_applyWithFun ⟨(by show φ + 2 + 1 ≤ φ + 6; omega), (by show 8 + (6 + 11) + (ψ + 47) ≤ ψ + 300; omega)⟩) rfl hl.1 rfl (Nat.le_of_ble_eq_true rfl) dX5_apply_533 ⟨rcC hX q16.1 q.1, rsC hX q16.1 q.1⟩ (fun u H locs hg h => ?_)
    simp only [← gx_rfv hg hv_x0, ← gx_rfv hg hv_x1] at hl
    try simp only [← gx_rfv hg hv_x0, ← gx_rfv hg hv_x1]
    refine W_cast (wcC hX q16.1).symm (wsC hX q16.1).symm ?_
    exact kl_Pc_apply_536 (N := N) C hr hlk hE hφ hψ hmrApply hcrApply  q16.2 (hG.tr hg hX.1) (hX.tr q16.1)  (lv_sub hl [] rfl) h hm
  have hm := ite_f c13 hm
  by_cases c17 : (fl σ 120 x0) = 6
  · refine x_topi (congrArg Int32.ofInt c17) ?_
    have hm := ite_t c17 hm
    refine lv_tableIn (tgt := 530) C.1 C.2.1 dX5_apply_4 (by decide) (by decide) rfl (by decide) ?_
    refine z_aload_n C dX5_apply_530 rfl (lv_at hl 0 rfl) ?_
    refine z_aload_n C dX5_apply_531 rfl (lv_at hl 1 rfl) ?_
    refine lv_iload_n C.1 C.2.1 dX5_apply_532 rfl (lv_at hl 2 rfl) ?_
    obtain ⟨r18, e19, hm⟩ := obd_s hm
    have q20 := (km_Pc_applyWithFun hmrApply hC hv_x0 hv_x1 e19)
    have q := km_Pc_apply_536 hmrApply  q20.2  hm
    refine c_callViA C hE h g1 rfl (by decide) (kc_Pc_applyWithFun l D k z mi aK aV g N hφ hψ hmrApply hcrApply hC hv_x0 hv_x1 e19) (cwV 2 C.2.2.1 (gS_X5_79 _) rfl rfl rfl hd_X5_applyWithFun ⟨(by show φ + 2 + 1 ≤ φ + 6; omega), (by show 8 + (6 + 11) + (ψ + 47) ≤ ψ + 300; omega)⟩) rfl hl.1 rfl (Nat.le_of_ble_eq_true rfl) dX5_apply_533 ⟨rcC hX q20.1 q.1, rsC hX q20.1 q.1⟩ (fun u H locs hg h => ?_)
    simp only [← gx_rfv hg hv_x0, ← gx_rfv hg hv_x1] at hl
    try simp only [← gx_rfv hg hv_x0, ← gx_rfv hg hv_x1]
    refine W_cast (wcC hX q20.1).symm (wsC hX q20.1).symm ?_
    exact kl_Pc_apply_536 (N := N) C hr hlk hE hφ hψ hmrApply hcrApply  q20.2 (hG.tr hg hX.1) (hX.tr q20.1)  (lv_sub hl [] rfl) h hm
  have hm := ite_f c17 hm
  by_cases c21 : (fl σ 120 x0) = 7
  · refine x_topi (congrArg Int32.ofInt c21) ?_
    have hm := ite_t c21 hm
    refine lv_tableIn (tgt := 530) C.1 C.2.1 dX5_apply_4 (by decide) (by decide) rfl (by decide) ?_
    refine z_aload_n C dX5_apply_530 rfl (lv_at hl 0 rfl) ?_
    refine z_aload_n C dX5_apply_531 rfl (lv_at hl 1 rfl) ?_
    refine lv_iload_n C.1 C.2.1 dX5_apply_532 rfl (lv_at hl 2 rfl) ?_
    obtain ⟨r22, e23, hm⟩ := obd_s hm
    have q24 := (km_Pc_applyWithFun hmrApply hC hv_x0 hv_x1 e23)
    have q := km_Pc_apply_536 hmrApply  q24.2  hm
    refine c_callViA C hE h g1 rfl (by decide) (kc_Pc_applyWithFun l D k z mi aK aV g N hφ hψ hmrApply hcrApply hC hv_x0 hv_x1 e23) (cwV 2 C.2.2.1 (gS_X5_79 _) rfl rfl rfl hd_X5_applyWithFun ⟨(by show φ + 2 + 1 ≤ φ + 6; omega), (by show 8 + (6 + 11) + (ψ + 47) ≤ ψ + 300; omega)⟩) rfl hl.1 rfl (Nat.le_of_ble_eq_true rfl) dX5_apply_533 ⟨rcC hX q24.1 q.1, rsC hX q24.1 q.1⟩ (fun u H locs hg h => ?_)
    simp only [← gx_rfv hg hv_x0, ← gx_rfv hg hv_x1] at hl
    try simp only [← gx_rfv hg hv_x0, ← gx_rfv hg hv_x1]
    refine W_cast (wcC hX q24.1).symm (wsC hX q24.1).symm ?_
    exact kl_Pc_apply_536 (N := N) C hr hlk hE hφ hψ hmrApply hcrApply  q24.2 (hG.tr hg hX.1) (hX.tr q24.1)  (lv_sub hl [] rfl) h hm
  have hm := ite_f c21 hm
  by_cases c25 : (fl σ 120 x0) = 8
  · refine x_topi (congrArg Int32.ofInt c25) ?_
    have hm := ite_t c25 hm
    refine lv_tableIn (tgt := 530) C.1 C.2.1 dX5_apply_4 (by decide) (by decide) rfl (by decide) ?_
    refine z_aload_n C dX5_apply_530 rfl (lv_at hl 0 rfl) ?_
    refine z_aload_n C dX5_apply_531 rfl (lv_at hl 1 rfl) ?_
    refine lv_iload_n C.1 C.2.1 dX5_apply_532 rfl (lv_at hl 2 rfl) ?_
    obtain ⟨r26, e27, hm⟩ := obd_s hm
    have q28 := (km_Pc_applyWithFun hmrApply hC hv_x0 hv_x1 e27)
    have q := km_Pc_apply_536 hmrApply  q28.2  hm
    refine c_callViA C hE h g1 rfl (by decide) (kc_Pc_applyWithFun l D k z mi aK aV g N hφ hψ hmrApply hcrApply hC hv_x0 hv_x1 e27) (cwV 2 C.2.2.1 (gS_X5_79 _) rfl rfl rfl hd_X5_applyWithFun ⟨(by show φ + 2 + 1 ≤ φ + 6; omega), (by show 8 + (6 + 11) + (ψ + 47) ≤ ψ + 300; omega)⟩) rfl hl.1 rfl (Nat.le_of_ble_eq_true rfl) dX5_apply_533 ⟨rcC hX q28.1 q.1, rsC hX q28.1 q.1⟩ (fun u H locs hg h => ?_)
    simp only [← gx_rfv hg hv_x0, ← gx_rfv hg hv_x1] at hl
    try simp only [← gx_rfv hg hv_x0, ← gx_rfv hg hv_x1]
    refine W_cast (wcC hX q28.1).symm (wsC hX q28.1).symm ?_
    exact kl_Pc_apply_536 (N := N) C hr hlk hE hφ hψ hmrApply hcrApply  q28.2 (hG.tr hg hX.1) (hX.tr q28.1)  (lv_sub hl [] rfl) h hm
  have hm := ite_f c25 hm
  by_cases c29 : (fl σ 120 x0) = 9
  · refine x_topi (congrArg Int32.ofInt c29) ?_
    have hm := ite_t c29 hm
    refine lv_tableIn (tgt := 259) C.1 C.2.1 dX5_apply_4 (by decide) (by decide) rfl (by decide) ?_
    refine z_aload_n C dX5_apply_259 rfl (lv_at hl 1 rfl) ?_
    have q := km_Pc_apply_263 hmrApply  ((cl_nO hC (by decide) (by decide) _)) (lt_ext hv_x0 (ext_nO π 10 14)) lt_nO (lt_ext hv_x1 (ext_nO π 10 14)) hm
    refine c_new C h hC (by decide) dX5_apply_260 rfl cU_X9 tyX9_ok (List.mem_cons_of_mem _ wn_X5_50) (List.mem_cons_of_mem _ wi_X9) (List.mem_cons_of_mem _ wt_X9) (df_X9) (dn_X9 z) (rc1 hX q.1) (rs1 hX q.1) (fun u H hg h => ?_)
    simp only [← gx_rfv hg hv_x0, ← gx_rfv hg hv_x1] at hl
    try simp only [← gx_rfv hg hv_x0, ← gx_rfv hg hv_x1]
    refine W_cast (wcO (c := 10) (w := 14) hX).symm (wsO (c := 10) (w := 14) hX).symm ?_
    exact kl_Pc_apply_263 (N := N) C hr hlk hE hφ hψ hmrApply hcrApply  ((cl_nO hC (by decide) (by decide) _)) (hG.tr hg hX.1) (hX.tr (ext_nO π 10 14)) (lt_ext hv_x0 (ext_nO π 10 14)) lt_nO (lt_ext hv_x1 (ext_nO π 10 14)) (lv_sub hl [0, 2] rfl) h hm
  have hm := ite_f c29 hm
  by_cases c31 : (fl σ 120 x0) = 10
  · refine x_topi (congrArg Int32.ofInt c31) ?_
    have hm := ite_t c31 hm
    refine lv_tableIn (tgt := 286) C.1 C.2.1 dX5_apply_4 (by decide) (by decide) rfl (by decide) ?_
    refine z_aload_n C dX5_apply_286 rfl (lv_at hl 1 rfl) ?_
    have q := km_Pc_apply_290 hmrApply  ((cl_nO hC (by decide) (by decide) _)) (lt_ext hv_x0 (ext_nO π 10 14)) lt_nO (lt_ext hv_x1 (ext_nO π 10 14)) hm
    refine c_new C h hC (by decide) dX5_apply_287 rfl cU_X9 tyX9_ok (List.mem_cons_of_mem _ wn_X5_50) (List.mem_cons_of_mem _ wi_X9) (List.mem_cons_of_mem _ wt_X9) (df_X9) (dn_X9 z) (rc1 hX q.1) (rs1 hX q.1) (fun u H hg h => ?_)
    simp only [← gx_rfv hg hv_x0, ← gx_rfv hg hv_x1] at hl
    try simp only [← gx_rfv hg hv_x0, ← gx_rfv hg hv_x1]
    refine W_cast (wcO (c := 10) (w := 14) hX).symm (wsO (c := 10) (w := 14) hX).symm ?_
    exact kl_Pc_apply_290 (N := N) C hr hlk hE hφ hψ hmrApply hcrApply  ((cl_nO hC (by decide) (by decide) _)) (hG.tr hg hX.1) (hX.tr (ext_nO π 10 14)) (lt_ext hv_x0 (ext_nO π 10 14)) lt_nO (lt_ext hv_x1 (ext_nO π 10 14)) (lv_sub hl [0, 2] rfl) h hm
  have hm := ite_f c31 hm
  by_cases c33 : (fl σ 120 x0) = 11
  · refine x_topi (congrArg Int32.ofInt c33) ?_
    have hm := ite_t c33 hm
    refine lv_tableIn (tgt := 530) C.1 C.2.1 dX5_apply_4 (by decide) (by decide) rfl (by decide) ?_
    refine z_aload_n C dX5_apply_530 rfl (lv_at hl 0 rfl) ?_
    refine z_aload_n C dX5_apply_531 rfl (lv_at hl 1 rfl) ?_
    refine lv_iload_n C.1 C.2.1 dX5_apply_532 rfl (lv_at hl 2 rfl) ?_
    obtain ⟨r34, e35, hm⟩ := obd_s hm
    have q36 := (km_Pc_applyWithFun hmrApply hC hv_x0 hv_x1 e35)
    have q := km_Pc_apply_536 hmrApply  q36.2  hm
    refine c_callViA C hE h g1 rfl (by decide) (kc_Pc_applyWithFun l D k z mi aK aV g N hφ hψ hmrApply hcrApply hC hv_x0 hv_x1 e35) (cwV 2 C.2.2.1 (gS_X5_79 _) rfl rfl rfl hd_X5_applyWithFun ⟨(by show φ + 2 + 1 ≤ φ + 6; omega), (by show 8 + (6 + 11) + (ψ + 47) ≤ ψ + 300; omega)⟩) rfl hl.1 rfl (Nat.le_of_ble_eq_true rfl) dX5_apply_533 ⟨rcC hX q36.1 q.1, rsC hX q36.1 q.1⟩ (fun u H locs hg h => ?_)
    simp only [← gx_rfv hg hv_x0, ← gx_rfv hg hv_x1] at hl
    try simp only [← gx_rfv hg hv_x0, ← gx_rfv hg hv_x1]
    refine W_cast (wcC hX q36.1).symm (wsC hX q36.1).symm ?_
    exact kl_Pc_apply_536 (N := N) C hr hlk hE hφ hψ hmrApply hcrApply  q36.2 (hG.tr hg hX.1) (hX.tr q36.1)  (lv_sub hl [] rfl) h hm
  have hm := ite_f c33 hm
  by_cases c37 : (fl σ 120 x0) = 12
  · refine x_topi (congrArg Int32.ofInt c37) ?_
    have hm := ite_t c37 hm
    refine lv_tableIn (tgt := 530) C.1 C.2.1 dX5_apply_4 (by decide) (by decide) rfl (by decide) ?_
    refine z_aload_n C dX5_apply_530 rfl (lv_at hl 0 rfl) ?_
    refine z_aload_n C dX5_apply_531 rfl (lv_at hl 1 rfl) ?_
    refine lv_iload_n C.1 C.2.1 dX5_apply_532 rfl (lv_at hl 2 rfl) ?_
    obtain ⟨r38, e39, hm⟩ := obd_s hm
    have q40 := (km_Pc_applyWithFun hmrApply hC hv_x0 hv_x1 e39)
    have q := km_Pc_apply_536 hmrApply  q40.2  hm
    refine c_callViA C hE h g1 rfl (by decide) (kc_Pc_applyWithFun l D k z mi aK aV g N hφ hψ hmrApply hcrApply hC hv_x0 hv_x1 e39) (cwV 2 C.2.2.1 (gS_X5_79 _) rfl rfl rfl hd_X5_applyWithFun ⟨(by show φ + 2 + 1 ≤ φ + 6; omega), (by show 8 + (6 + 11) + (ψ + 47) ≤ ψ + 300; omega)⟩) rfl hl.1 rfl (Nat.le_of_ble_eq_true rfl) dX5_apply_533 ⟨rcC hX q40.1 q.1, rsC hX q40.1 q.1⟩ (fun u H locs hg h => ?_)
    simp only [← gx_rfv hg hv_x0, ← gx_rfv hg hv_x1] at hl
    try simp only [← gx_rfv hg hv_x0, ← gx_rfv hg hv_x1]
    refine W_cast (wcC hX q40.1).symm (wsC hX q40.1).symm ?_
    exact kl_Pc_apply_536 (N := N) C hr hlk hE hφ hψ hmrApply hcrApply  q40.2 (hG.tr hg hX.1) (hX.tr q40.1)  (lv_sub hl [] rfl) h hm
  have hm := ite_f c37 hm
  by_cases c41 : (fl σ 120 x0) = 13
  · refine x_topi (congrArg Int32.ofInt c41) ?_
    have hm := ite_t c41 hm
    refine lv_tableIn (tgt := 313) C.1 C.2.1 dX5_apply_4 (by decide) (by decide) rfl (by decide) ?_
    refine z_aload_n C dX5_apply_313 rfl (lv_at hl 1 rfl) ?_
    have q := km_Pc_apply_317 hmrApply  ((cl_nO hC (by decide) (by decide) _)) (lt_ext hv_x0 (ext_nO π 10 14)) lt_nO (lt_ext hv_x1 (ext_nO π 10 14)) hm
    refine c_new C h hC (by decide) dX5_apply_314 rfl cU_X9 tyX9_ok (List.mem_cons_of_mem _ wn_X5_50) (List.mem_cons_of_mem _ wi_X9) (List.mem_cons_of_mem _ wt_X9) (df_X9) (dn_X9 z) (rc1 hX q.1) (rs1 hX q.1) (fun u H hg h => ?_)
    simp only [← gx_rfv hg hv_x0, ← gx_rfv hg hv_x1] at hl
    try simp only [← gx_rfv hg hv_x0, ← gx_rfv hg hv_x1]
    refine W_cast (wcO (c := 10) (w := 14) hX).symm (wsO (c := 10) (w := 14) hX).symm ?_
    exact kl_Pc_apply_317 (N := N) C hr hlk hE hφ hψ hmrApply hcrApply  ((cl_nO hC (by decide) (by decide) _)) (hG.tr hg hX.1) (hX.tr (ext_nO π 10 14)) (lt_ext hv_x0 (ext_nO π 10 14)) lt_nO (lt_ext hv_x1 (ext_nO π 10 14)) (lv_sub hl [0, 2] rfl) h hm
  have hm := ite_f c41 hm
  by_cases c43 : (fl σ 120 x0) = 14
  · refine x_topi (congrArg Int32.ofInt c43) ?_
    have hm := ite_t c43 hm
    refine lv_tableIn (tgt := 394) C.1 C.2.1 dX5_apply_4 (by decide) (by decide) rfl (by decide) ?_
    refine z_aload_n C dX5_apply_394 rfl (lv_at hl 1 rfl) ?_
    have q := km_Pc_apply_398 hmrApply  ((cl_nO hC (by decide) (by decide) _)) (lt_ext hv_x0 (ext_nO π 10 14)) lt_nO (lt_ext hv_x1 (ext_nO π 10 14)) hm
    refine c_new C h hC (by decide) dX5_apply_395 rfl cU_X9 tyX9_ok (List.mem_cons_of_mem _ wn_X5_50) (List.mem_cons_of_mem _ wi_X9) (List.mem_cons_of_mem _ wt_X9) (df_X9) (dn_X9 z) (rc1 hX q.1) (rs1 hX q.1) (fun u H hg h => ?_)
    simp only [← gx_rfv hg hv_x0, ← gx_rfv hg hv_x1] at hl
    try simp only [← gx_rfv hg hv_x0, ← gx_rfv hg hv_x1]
    refine W_cast (wcO (c := 10) (w := 14) hX).symm (wsO (c := 10) (w := 14) hX).symm ?_
    exact kl_Pc_apply_398 (N := N) C hr hlk hE hφ hψ hmrApply hcrApply  ((cl_nO hC (by decide) (by decide) _)) (hG.tr hg hX.1) (hX.tr (ext_nO π 10 14)) (lt_ext hv_x0 (ext_nO π 10 14)) lt_nO (lt_ext hv_x1 (ext_nO π 10 14)) (lv_sub hl [0, 2] rfl) h hm
  have hm := ite_f c43 hm
  by_cases c45 : (fl σ 120 x0) = 15
  · refine x_topi (congrArg Int32.ofInt c45) ?_
    have hm := ite_t c45 hm
    refine lv_tableIn (tgt := 425) C.1 C.2.1 dX5_apply_4 (by decide) (by decide) rfl (by decide) ?_
    refine z_aload_n C dX5_apply_425 rfl (lv_at hl 1 rfl) ?_
    have q := km_Pc_apply_429 hmrApply  ((cl_nO hC (by decide) (by decide) _)) (lt_ext hv_x0 (ext_nO π 10 14)) lt_nO (lt_ext hv_x1 (ext_nO π 10 14)) hm
    refine c_new C h hC (by decide) dX5_apply_426 rfl cU_X9 tyX9_ok (List.mem_cons_of_mem _ wn_X5_50) (List.mem_cons_of_mem _ wi_X9) (List.mem_cons_of_mem _ wt_X9) (df_X9) (dn_X9 z) (rc1 hX q.1) (rs1 hX q.1) (fun u H hg h => ?_)
    simp only [← gx_rfv hg hv_x0, ← gx_rfv hg hv_x1] at hl
    try simp only [← gx_rfv hg hv_x0, ← gx_rfv hg hv_x1]
    refine W_cast (wcO (c := 10) (w := 14) hX).symm (wsO (c := 10) (w := 14) hX).symm ?_
    exact kl_Pc_apply_429 (N := N) C hr hlk hE hφ hψ hmrApply hcrApply  ((cl_nO hC (by decide) (by decide) _)) (hG.tr hg hX.1) (hX.tr (ext_nO π 10 14)) (lt_ext hv_x0 (ext_nO π 10 14)) lt_nO (lt_ext hv_x1 (ext_nO π 10 14)) (lv_sub hl [0, 2] rfl) h hm
  have hm := ite_f c45 hm
  by_cases c47 : (fl σ 120 x0) = 16
  · refine x_topi (congrArg Int32.ofInt c47) ?_
    have hm := ite_t c47 hm
    refine lv_tableIn (tgt := 340) C.1 C.2.1 dX5_apply_4 (by decide) (by decide) rfl (by decide) ?_
    refine z_aload_n C dX5_apply_340 rfl (lv_at hl 1 rfl) ?_
    have q := km_Pc_apply_344 hmrApply  ((cl_nO hC (by decide) (by decide) _)) (lt_ext hv_x0 (ext_nO π 10 14)) lt_nO (lt_ext hv_x1 (ext_nO π 10 14)) hm
    refine c_new C h hC (by decide) dX5_apply_341 rfl cU_X9 tyX9_ok (List.mem_cons_of_mem _ wn_X5_50) (List.mem_cons_of_mem _ wi_X9) (List.mem_cons_of_mem _ wt_X9) (df_X9) (dn_X9 z) (rc1 hX q.1) (rs1 hX q.1) (fun u H hg h => ?_)
    simp only [← gx_rfv hg hv_x0, ← gx_rfv hg hv_x1] at hl
    try simp only [← gx_rfv hg hv_x0, ← gx_rfv hg hv_x1]
    refine W_cast (wcO (c := 10) (w := 14) hX).symm (wsO (c := 10) (w := 14) hX).symm ?_
    exact kl_Pc_apply_344 (N := N) C hr hlk hE hφ hψ hmrApply hcrApply  ((cl_nO hC (by decide) (by decide) _)) (hG.tr hg hX.1) (hX.tr (ext_nO π 10 14)) (lt_ext hv_x0 (ext_nO π 10 14)) lt_nO (lt_ext hv_x1 (ext_nO π 10 14)) (lv_sub hl [0, 2] rfl) h hm
  have hm := ite_f c47 hm
  by_cases c49 : (fl σ 120 x0) = 17
  · refine x_topi (congrArg Int32.ofInt c49) ?_
    have hm := ite_t c49 hm
    refine lv_tableIn (tgt := 367) C.1 C.2.1 dX5_apply_4 (by decide) (by decide) rfl (by decide) ?_
    refine z_aload_n C dX5_apply_367 rfl (lv_at hl 1 rfl) ?_
    have q := km_Pc_apply_371 hmrApply  ((cl_nO hC (by decide) (by decide) _)) (lt_ext hv_x0 (ext_nO π 10 14)) lt_nO (lt_ext hv_x1 (ext_nO π 10 14)) hm
    refine c_new C h hC (by decide) dX5_apply_368 rfl cU_X9 tyX9_ok (List.mem_cons_of_mem _ wn_X5_50) (List.mem_cons_of_mem _ wi_X9) (List.mem_cons_of_mem _ wt_X9) (df_X9) (dn_X9 z) (rc1 hX q.1) (rs1 hX q.1) (fun u H hg h => ?_)
    simp only [← gx_rfv hg hv_x0, ← gx_rfv hg hv_x1] at hl
    try simp only [← gx_rfv hg hv_x0, ← gx_rfv hg hv_x1]
    refine W_cast (wcO (c := 10) (w := 14) hX).symm (wsO (c := 10) (w := 14) hX).symm ?_
    exact kl_Pc_apply_371 (N := N) C hr hlk hE hφ hψ hmrApply hcrApply  ((cl_nO hC (by decide) (by decide) _)) (hG.tr hg hX.1) (hX.tr (ext_nO π 10 14)) (lt_ext hv_x0 (ext_nO π 10 14)) lt_nO (lt_ext hv_x1 (ext_nO π 10 14)) (lv_sub hl [0, 2] rfl) h hm
  have hm := ite_f c49 hm
  by_cases c51 : (fl σ 120 x0) = 18
  · refine x_topi (congrArg Int32.ofInt c51) ?_
    have hm := ite_t c51 hm
    refine lv_tableIn (tgt := 530) C.1 C.2.1 dX5_apply_4 (by decide) (by decide) rfl (by decide) ?_
    refine z_aload_n C dX5_apply_530 rfl (lv_at hl 0 rfl) ?_
    refine z_aload_n C dX5_apply_531 rfl (lv_at hl 1 rfl) ?_
    refine lv_iload_n C.1 C.2.1 dX5_apply_532 rfl (lv_at hl 2 rfl) ?_
    obtain ⟨r52, e53, hm⟩ := obd_s hm
    have q54 := (km_Pc_applyWithFun hmrApply hC hv_x0 hv_x1 e53)
    have q := km_Pc_apply_536 hmrApply  q54.2  hm
    refine c_callViA C hE h g1 rfl (by decide) (kc_Pc_applyWithFun l D k z mi aK aV g N hφ hψ hmrApply hcrApply hC hv_x0 hv_x1 e53) (cwV 2 C.2.2.1 (gS_X5_79 _) rfl rfl rfl hd_X5_applyWithFun ⟨(by show φ + 2 + 1 ≤ φ + 6; omega), (by show 8 + (6 + 11) + (ψ + 47) ≤ ψ + 300; omega)⟩) rfl hl.1 rfl (Nat.le_of_ble_eq_true rfl) dX5_apply_533 ⟨rcC hX q54.1 q.1, rsC hX q54.1 q.1⟩ (fun u H locs hg h => ?_)
    simp only [← gx_rfv hg hv_x0, ← gx_rfv hg hv_x1] at hl
    try simp only [← gx_rfv hg hv_x0, ← gx_rfv hg hv_x1]
    refine W_cast (wcC hX q54.1).symm (wsC hX q54.1).symm ?_
    exact kl_Pc_apply_536 (N := N) C hr hlk hE hφ hψ hmrApply hcrApply  q54.2 (hG.tr hg hX.1) (hX.tr q54.1)  (lv_sub hl [] rfl) h hm
  have hm := ite_f c51 hm
  by_cases c55 : (fl σ 120 x0) = 19
  · refine x_topi (congrArg Int32.ofInt c55) ?_
    have hm := ite_t c55 hm
    refine lv_tableIn (tgt := 530) C.1 C.2.1 dX5_apply_4 (by decide) (by decide) rfl (by decide) ?_
    refine z_aload_n C dX5_apply_530 rfl (lv_at hl 0 rfl) ?_
    refine z_aload_n C dX5_apply_531 rfl (lv_at hl 1 rfl) ?_
    refine lv_iload_n C.1 C.2.1 dX5_apply_532 rfl (lv_at hl 2 rfl) ?_
    obtain ⟨r56, e57, hm⟩ := obd_s hm
    have q58 := (km_Pc_applyWithFun hmrApply hC hv_x0 hv_x1 e57)
    have q := km_Pc_apply_536 hmrApply  q58.2  hm
    refine c_callViA C hE h g1 rfl (by decide) (kc_Pc_applyWithFun l D k z mi aK aV g N hφ hψ hmrApply hcrApply hC hv_x0 hv_x1 e57) (cwV 2 C.2.2.1 (gS_X5_79 _) rfl rfl rfl hd_X5_applyWithFun ⟨(by show φ + 2 + 1 ≤ φ + 6; omega), (by show 8 + (6 + 11) + (ψ + 47) ≤ ψ + 300; omega)⟩) rfl hl.1 rfl (Nat.le_of_ble_eq_true rfl) dX5_apply_533 ⟨rcC hX q58.1 q.1, rsC hX q58.1 q.1⟩ (fun u H locs hg h => ?_)
    simp only [← gx_rfv hg hv_x0, ← gx_rfv hg hv_x1] at hl
    try simp only [← gx_rfv hg hv_x0, ← gx_rfv hg hv_x1]
    refine W_cast (wcC hX q58.1).symm (wsC hX q58.1).symm ?_
    exact kl_Pc_apply_536 (N := N) C hr hlk hE hφ hψ hmrApply hcrApply  q58.2 (hG.tr hg hX.1) (hX.tr q58.1)  (lv_sub hl [] rfl) h hm
  have hm := ite_f c55 hm
  by_cases c59 : (fl σ 120 x0) = 20
  · refine x_topi (congrArg Int32.ofInt c59) ?_
    have hm := ite_t c59 hm
    refine lv_tableIn (tgt := 492) C.1 C.2.1 dX5_apply_4 (by decide) (by decide) rfl (by decide) ?_
    refine z_aload_n C dX5_apply_492 rfl (lv_at hl 1 rfl) ?_
    refine z_aload_n C dX5_apply_493 rfl (lv_at hl 0 rfl) ?_
    refine lv_bipush (v := Int32.ofInt 24) C.1 C.2.1 dX5_apply_494 (by decide) ?_
    obtain ⟨r60, e61, hm⟩ := obd_s hm
    have q62 := (km_Pc_spanStep hC hv_x0 e61)
    have q := km_Pc_apply_499 hmrApply  q62.2.1 q62.2.2 (lt_ext hv_x1 q62.1) hm
    refine c_callVqA C hE h g1 rfl (by decide) (kc_Pc_spanStep l D k z mi aK aV g N hC hv_x0 e61) (cwV 1 C.2.2.1 (gS_X5_68 _) rfl rfl rfl hd_X5_spanStep ⟨(by show 2 + 1 ≤ φ + 6; omega), (by show 8 + (3 + 11) + 54 ≤ ψ + 300; omega)⟩) rfl hl.1 rfl (by simp [rfv_cat, cat_i, cat_l]) dX5_apply_496 ⟨rcC hX q62.1 q.1, rsC hX q62.1 q.1⟩ (fun u H locs hg h => ?_)
    simp only [← gx_rfv hg hv_x0, ← gx_rfv hg hv_x1] at hl
    try simp only [← gx_rfv hg hv_x0, ← gx_rfv hg hv_x1]
    refine W_cast (wcC hX q62.1).symm (wsC hX q62.1).symm ?_
    exact kl_Pc_apply_499 (N := N) C hr hlk hE hφ hψ hmrApply hcrApply  q62.2.1 (hG.tr hg hX.1) (hX.tr q62.1) q62.2.2 (lt_ext hv_x1 q62.1) (lv_sub hl [2] rfl) h hm
  have hm := ite_f c59 hm
  by_cases c63 : (fl σ 120 x0) = 21
  · refine x_topi (congrArg Int32.ofInt c63) ?_
    have hm := ite_t c63 hm
    refine lv_tableIn (tgt := 456) C.1 C.2.1 dX5_apply_4 (by decide) (by decide) rfl (by decide) ?_
    refine z_aload_n C dX5_apply_456 rfl (lv_at hl 1 rfl) ?_
    have q := km_Pc_apply_460 hmrApply  ((cl_nO hC (by decide) (by decide) _)) (lt_ext hv_x0 (ext_nO π 10 14)) lt_nO (lt_ext hv_x1 (ext_nO π 10 14)) hm
    refine c_new C h hC (by decide) dX5_apply_457 rfl cU_X9 tyX9_ok (List.mem_cons_of_mem _ wn_X5_50) (List.mem_cons_of_mem _ wi_X9) (List.mem_cons_of_mem _ wt_X9) (df_X9) (dn_X9 z) (rc1 hX q.1) (rs1 hX q.1) (fun u H hg h => ?_)
    simp only [← gx_rfv hg hv_x0, ← gx_rfv hg hv_x1] at hl
    try simp only [← gx_rfv hg hv_x0, ← gx_rfv hg hv_x1]
    refine W_cast (wcO (c := 10) (w := 14) hX).symm (wsO (c := 10) (w := 14) hX).symm ?_
    exact kl_Pc_apply_460 (N := N) C hr hlk hE hφ hψ hmrApply hcrApply  ((cl_nO hC (by decide) (by decide) _)) (hG.tr hg hX.1) (hX.tr (ext_nO π 10 14)) (lt_ext hv_x0 (ext_nO π 10 14)) lt_nO (lt_ext hv_x1 (ext_nO π 10 14)) (lv_sub hl [0, 2] rfl) h hm
  have hm := ite_f c63 hm
  by_cases c65 : (fl σ 120 x0) = 22
  · refine x_topi (congrArg Int32.ofInt c65) ?_
    have hm := ite_t c65 hm
    refine lv_tableIn (tgt := 507) C.1 C.2.1 dX5_apply_4 (by decide) (by decide) rfl (by decide) ?_
    refine z_aload_n C dX5_apply_507 rfl (lv_at hl 1 rfl) ?_
    refine z_aload_n C dX5_apply_508 rfl (lv_at hl 0 rfl) ?_
    obtain ⟨r66, e67, hm⟩ := obd_s hm
    have q68 := (km_Pc_useStep hC hv_x0 e67)
    have q := km_Pc_apply_512 hmrApply  q68.2.1 q68.2.2 (lt_ext hv_x1 q68.1) hm
    refine c_callVqA C hE h g1 rfl (by decide) (kc_Pc_useStep l D k z mi aK aV g N hC hv_x0 e67) (cwV 0 C.2.2.1 (gS_X5_71 _) rfl rfl rfl hd_X5_useStep ⟨(by show 3 + 1 ≤ φ + 6; omega), (by show 8 + (3 + 11) + 103 ≤ ψ + 300; omega)⟩) rfl hl.1 rfl (by simp [rfv_cat, cat_i, cat_l]) dX5_apply_509 ⟨rcC hX q68.1 q.1, rsC hX q68.1 q.1⟩ (fun u H locs hg h => ?_)
    simp only [← gx_rfv hg hv_x0, ← gx_rfv hg hv_x1] at hl
    try simp only [← gx_rfv hg hv_x0, ← gx_rfv hg hv_x1]
    refine W_cast (wcC hX q68.1).symm (wsC hX q68.1).symm ?_
    exact kl_Pc_apply_512 (N := N) C hr hlk hE hφ hψ hmrApply hcrApply  q68.2.1 (hG.tr hg hX.1) (hX.tr q68.1) q68.2.2 (lt_ext hv_x1 q68.1) (lv_sub hl [2] rfl) h hm
  have hm := ite_f c65 hm
  by_cases c69 : (fl σ 120 x0) = 23
  · refine x_topi (congrArg Int32.ofInt c69) ?_
    have hm := ite_t c69 hm
    refine lv_tableIn (tgt := 520) C.1 C.2.1 dX5_apply_4 (by decide) (by decide) rfl (by decide) ?_
    refine z_aload_n C dX5_apply_520 rfl (lv_at hl 0 rfl) ?_
    refine cg_6_6 C h g1 cU_X5 (List.mem_cons_of_mem _ wl_X5_22) dX5_apply_521 ?_
    refine z_aload_n C dX5_apply_524 rfl (lv_at hl 1 rfl) ?_
    refine lv_iload_n C.1 C.2.1 dX5_apply_525 rfl (lv_at hl 2 rfl) ?_
    obtain ⟨r70, e71, hm⟩ := obd_s hm
    have q72 := (km_Pc_applyAll hmrApply hC (cl_fl hC (f := 126) rfl x0) hv_x1 e71)
    have q := km_Pc_apply_529 hmrApply  q72.2  hm
    refine c_callSiA C hE h (kc_Pc_applyAll l D k z mi aK aV g N hφ hψ hmrApply hcrApply hC (cl_fl hC (f := 126) rfl x0) hv_x1 e71) (v_cwS 3 C.2.2.1 (gC_X5_applyAll _) rfl rfl rfl (C.2.2.1 _ (List.mem_cons_of_mem _ wt_X5)) (C.2.2.1 _ (List.mem_cons_of_mem _ wm_X5_75)) (C.2.2.1 _ (List.mem_cons_of_mem _ ws_X5_applyAll)) hdS_X5_applyAll ⟨(by show φ + 1 + 1 ≤ φ + 6; omega), (by show 8 + (6 + 11) + (ψ + 22) ≤ ψ + 300; omega)⟩) rfl hl.1 rfl (Nat.le_of_ble_eq_true rfl) dX5_apply_526 ⟨rcC hX q72.1 q.1, rsC hX q72.1 q.1⟩ (fun u H locs hg h => ?_)
    simp only [← gx_rfv hg hv_x0, ← gx_rfv hg hv_x1] at hl
    try simp only [← gx_rfv hg hv_x0, ← gx_rfv hg hv_x1]
    refine W_cast (wcC hX q72.1).symm (wsC hX q72.1).symm ?_
    exact kl_Pc_apply_529 (N := N) C hr hlk hE hφ hψ hmrApply hcrApply  q72.2 (hG.tr hg hX.1) (hX.tr q72.1)  (lv_sub hl [] rfl) h hm
  have hm := ite_f c69 hm
  refine lv_tableOut (tgt := 530) C.1 C.2.1 dX5_apply_4 (by rw [c32_ti g2]; omega) (by decide) ?_
  refine z_aload_n C dX5_apply_530 rfl (lv_at hl 0 rfl) ?_
  refine z_aload_n C dX5_apply_531 rfl (lv_at hl 1 rfl) ?_
  refine lv_iload_n C.1 C.2.1 dX5_apply_532 rfl (lv_at hl 2 rfl) ?_
  obtain ⟨r73, e74, hm⟩ := obd_s hm
  have q75 := (km_Pc_applyWithFun hmrApply hC hv_x0 hv_x1 e74)
  have q := km_Pc_apply_536 hmrApply  q75.2  hm
  refine c_callViA C hE h g1 rfl (by decide) (kc_Pc_applyWithFun l D k z mi aK aV g N hφ hψ hmrApply hcrApply hC hv_x0 hv_x1 e74) (cwV 2 C.2.2.1 (gS_X5_79 _) rfl rfl rfl hd_X5_applyWithFun ⟨(by show φ + 2 + 1 ≤ φ + 6; omega), (by show 8 + (6 + 11) + (ψ + 47) ≤ ψ + 300; omega)⟩) rfl hl.1 rfl (Nat.le_of_ble_eq_true rfl) dX5_apply_533 ⟨rcC hX q75.1 q.1, rsC hX q75.1 q.1⟩ (fun u H locs hg h => ?_)
  simp only [← gx_rfv hg hv_x0, ← gx_rfv hg hv_x1] at hl
  try simp only [← gx_rfv hg hv_x0, ← gx_rfv hg hv_x1]
  refine W_cast (wcC hX q75.1).symm (wsC hX q75.1).symm ?_
  exact kl_Pc_apply_536 (N := N) C hr hlk hE hφ hψ hmrApply hcrApply  q75.2 (hG.tr hg hX.1) (hX.tr q75.1)  (lv_sub hl [] rfl) h hm
end Z_Pc_apply
set_option maxHeartbeats 8000000 in
set_option maxRecDepth 100000 in
theorem kc_Pc_applyC (l : Launch) (D : va_G) (k : Nat → ClassId) (z mi : Nat) (aK aV : Nat → Nat) (N d : Nat) : ∀ {g : Nat → Nat} {π : Sh} {σ : St} {y0 : Int} {y1 : Int} {y2 : Int} {r : Sh × St × Int}, Cl π σ → y0 < nn π → y1 < nn π → Pc_applyC N d π σ y0 y1 y2 = some r → Mi l yX5_apply (.code yX5_apply cX5_apply 3 (some .int) :: cWd) { frames := 20 + 6 * d, cells := nn r.1 - nn π, slots := sw r.1 - sw π, locals := 600 + 300 * d } [rfv g y0, rfv g y1, .int (Int32.ofInt y2)] D (TYs k) (cW k z g π σ) (XV z mi aK aV (cW k z g π σ)) (Nat → Nat) (fun v u => gx (nn π) g u ∧ v = Int32.ofInt r.2.2) (fun u => cW k z u r.1 r.2.1) (nn r.1 - nn π) (sw r.1 - sw π) := by
  induction d with
  | zero => intro g π σ y0 y1 y2 r hC hv_y0 hv_y1 hm; cases (show none = some r from hm)
  | succ d ih =>
    intro g π σ y0 y1 y2 r hC hv_y0 hv_y1 hm
    have e1 : 20 + 6 * (d + 1) = 20 + 6 * d + 6 := by omega
    have e2 : 600 + 300 * (d + 1) = 600 + 300 * d + 300 := by omega
    rw [e1, e2]
    exact kc_Pc_apply l D k z mi aK aV g N (by omega) (by omega) km_Pc_applyC ih hC hv_y0 hv_y1 hm
section Z_Rd_hasMore
variable {p : Program} {l : Launch} {e : Env} {s : State} {m : MethodId} {args : Array Value} {below : List Frame} {meth : Method} {c : Code} {D : va_G} {A : Nat → Prop} {k : Nat → ClassId} {N : Nat} {cd : Cond} {z mi : Nat} {aK aV : Nat → Nat} {g : Nat → Nat} {π : Sh}
set_option maxHeartbeats 8000000 in
set_option maxRecDepth 100000 in
theorem kc_Rd_hasMore (l : Launch) (D : va_G) (k : Nat → ClassId) (z mi : Nat) (aK aV : Nat → Nat) (g : Nat → Nat) (N : Nat)    {π : Sh} {σ : St}  {r : St × Int} (hS : SHs π) (hm : Rd_hasMore N π σ  = some r) : Mi l yX6_hasMore (.code yX6_hasMore cX6_hasMore 1 (some .boolean) :: cWd) { frames := 0, cells := 0, slots := 0, locals := 0 } [rfv g 44] D (TYs k) (cW k z g π σ) (XV z mi aK aV (cW k z g π σ)) Unit (fun v _ => v = Int32.ofInt r.2) (fun _ => cW k z g π r.1) 0 0 := by
  intro sz
  refine v_met (cc := cX6_hasMore) (maxL := 1) (ret := (some .boolean)) (lv := [(0, rfv g 44)]) (by decide) rfl (by simp [lg_sl, rfv_cat, cat_i, cat_l]) (by simp [lv_args, rfv_cat, cat_i, cat_l]) ?_
  intro p e s m below meth c ls C hE hr hlk hmn hl h
  rw [Rd_hasMore] at hm
  refine z_aload_n C dX6_hasMore_0 rfl (lv_at hl 0 rfl) ?_
  refine cg_7_0 C h (sh_44 hS) cU_X6 (List.mem_cons_of_mem _ wl_X6_31) dX6_hasMore_1 ?_
  refine cg_9_5 C h (sh_1 hS) cU_X8 (List.mem_cons_of_mem _ wl_X6_66) dX6_hasMore_4 ?_
  refine lv_bipush (v := Int32.ofInt 6) C.1 C.2.1 dX6_hasMore_7 (by decide) ?_
  obtain ⟨g1, hm⟩ := grd_s hm
  refine z_icmp_eq (tgt := 16) C dX6_hasMore_9 (by decide) g1 (by decide) (fun c2 => ?_) (fun c2 => ?_)
  · have hm := ite_t c2 hm
    refine lv_iconst (v := Int32.ofInt 0) C.1 C.2.1 dX6_hasMore_16 (by decide) ?_
    cases hm
    exact c_iretP C h hr hlk dX6_hasMore_17 rfl
  · have hm := ite_f c2 hm
    refine lv_iconst (v := Int32.ofInt 1) C.1 C.2.1 dX6_hasMore_12 (by decide) ?_
    refine lv_goto (tgt := 17) C.1 C.2.1 dX6_hasMore_13 (by decide) ?_
    cases hm
    exact c_iretP C h hr hlk dX6_hasMore_17 rfl
end Z_Rd_hasMore
section Z_Sc_fail
variable {p : Program} {l : Launch} {e : Env} {s : State} {m : MethodId} {args : Array Value} {below : List Frame} {meth : Method} {c : Code} {D : va_G} {A : Nat → Prop} {k : Nat → ClassId} {N : Nat} {cd : Cond} {z mi : Nat} {aK aV : Nat → Nat} {g : Nat → Nat} {π : Sh}
set_option maxHeartbeats 8000000 in
set_option maxRecDepth 100000 in
theorem kc_Sc_fail (l : Launch) (D : va_G) (k : Nat → ClassId) (z mi : Nat) (aK aV : Nat → Nat) (g : Nat → Nat) (N : Nat)    {π : Sh} {σ : St} {x1 : Int} {x2 : Int} {r : St} (hS : SHs π) (hm : Sc_fail N π σ x1 x2 = some r) : Mv l yX8_fail (.code yX8_fail cX8_fail 3 none :: cWd) { frames := 0, cells := 0, slots := 0, locals := 0 } [rfv g 1, .int (Int32.ofInt x1), .int (Int32.ofInt x2)] D (TYs k) (cW k z g π σ) (XV z mi aK aV (cW k z g π σ)) Unit (fun _ => True) (fun _ => cW k z g π r) 0 0 := by
  intro sz
  refine v_met (cc := cX8_fail) (maxL := 3) (ret := none) (lv := [(0, rfv g 1), (1, .int (Int32.ofInt x1)), (2, .int (Int32.ofInt x2))]) (by decide) rfl (by simp [lg_sl, rfv_cat, cat_i, cat_l]) (by simp [lv_args, rfv_cat, cat_i, cat_l]) ?_
  intro p e s m below meth c ls C hE hr hlk hmn hl h
  rw [Sc_fail] at hm
  refine z_aload_n C dX8_fail_0 rfl (lv_at hl 0 rfl) ?_
  refine cg_9_2 C h (sh_1 hS) cU_X8 (List.mem_cons_of_mem _ wl_X8_19) dX8_fail_1 ?_
  obtain ⟨g1, hm⟩ := grd_s hm
  refine z_if_ne (tgt := 17) C dX8_fail_4 (by decide) g1 (fun c2 => ?_) (fun c2 => ?_)
  · have hm := ite_f c2 hm
    cases hm
    exact c_vretP C h hr hlk dX8_fail_17
  · have hm := ite_t c2 hm
    refine z_aload_n C dX8_fail_7 rfl (lv_at hl 0 rfl) ?_
    refine lv_iload_n C.1 C.2.1 dX8_fail_8 rfl (lv_at hl 1 rfl) ?_
    refine cp_9_2 C h (sh_1 hS) cU_X8 (List.mem_cons_of_mem _ wl_X8_19) dX8_fail_9 (fun H locs h => ?_)
    refine z_aload_n C dX8_fail_12 rfl (lv_at hl 0 rfl) ?_
    refine lv_iload_n C.1 C.2.1 dX8_fail_13 rfl (lv_at hl 2 rfl) ?_
    refine cp_9_3 C h (sh_1 hS) cU_X8 (List.mem_cons_of_mem _ wl_X8_22) dX8_fail_14 (fun H locs h => ?_)
    cases hm
    exact c_vretP C h hr hlk dX8_fail_17
end Z_Sc_fail
section Z_Tx_finish
variable {p : Program} {l : Launch} {e : Env} {s : State} {m : MethodId} {args : Array Value} {below : List Frame} {meth : Method} {c : Code} {D : va_G} {A : Nat → Prop} {k : Nat → ClassId} {N : Nat} {cd : Cond} {z mi : Nat} {aK aV : Nat → Nat} {g : Nat → Nat} {π : Sh}
set_option maxHeartbeats 8000000 in
set_option maxRecDepth 100000 in
theorem kc_Tx_finish (l : Launch) (D : va_G) (k : Nat → ClassId) (z mi : Nat) (aK aV : Nat → Nat) (g : Nat → Nat) (N : Nat)    {π : Sh} {σ : St}  {r : St} (hS : SHs π) (hm : Tx_finish N π σ  = some r) : Mv l yX10_finish (.code yX10_finish cX10_finish 1 none :: cWd) { frames := 1, cells := 0, slots := 0, locals := 22 } [rfv g 50] D (TYs k) (cW k z g π σ) (XV z mi aK aV (cW k z g π σ)) Unit (fun _ => True) (fun _ => cW k z g π r) 0 0 := by
  intro sz
  refine v_met (cc := cX10_finish) (maxL := 1) (ret := none) (lv := [(0, rfv g 50)]) (by decide) rfl (by simp [lg_sl, rfv_cat, cat_i, cat_l]) (by simp [lv_args, rfv_cat, cat_i, cat_l]) ?_
  intro p e s m below meth c ls C hE hr hlk hmn hl h
  rw [Tx_finish] at hm
  refine z_aload_n C dX10_finish_0 rfl (lv_at hl 0 rfl) ?_
  refine cg_11_2 C h (sh_50 hS) cU_X10 (List.mem_cons_of_mem _ wl_X10_15) dX10_finish_1 ?_
  refine z_aload_n C dX10_finish_4 rfl (lv_at hl 0 rfl) ?_
  refine cg_11_3 C h (sh_50 hS) cU_X10 (List.mem_cons_of_mem _ wl_X10_19) dX10_finish_5 ?_
  obtain ⟨g1, hm⟩ := grd_s hm
  obtain ⟨g2, hm⟩ := grd_s hm
  refine z_icmp_eq (tgt := 23) C dX10_finish_8 (by decide) g1 g2 (fun c3 => ?_) (fun c3 => ?_)
  · have hm := ite_t c3 hm
    cases hm
    exact c_vretP C h hr hlk dX10_finish_23
  · have hm := ite_f c3 hm
    refine z_aload_n C dX10_finish_11 rfl (lv_at hl 0 rfl) ?_
    refine cg_11_0 C h (sh_50 hS) cU_X10 (List.mem_cons_of_mem _ wl_X10_28) dX10_finish_12 ?_
    refine lv_iconst (v := Int32.ofInt 1) C.1 C.2.1 dX10_finish_15 (by decide) ?_
    refine z_aload_n C dX10_finish_16 rfl (lv_at hl 0 rfl) ?_
    refine cg_11_2 C h (sh_50 hS) cU_X10 (List.mem_cons_of_mem _ wl_X10_15) dX10_finish_17 ?_
    obtain ⟨r4, e5, hm⟩ := obd_s hm
    refine c_callVvP C hE h (sh_1 hS) rfl (by decide) (kc_Sc_fail l D k z mi aK aV g N hS e5) (cwV 2 C.2.2.1 (gS_X10_32 _) rfl rfl rfl hd_X8_fail ⟨Nat.le_of_ble_eq_true rfl, Nat.le_of_ble_eq_true rfl⟩) rfl hl.1 rfl (Nat.le_of_ble_eq_true rfl) dX10_finish_20 ⟨(Nat.le_of_ble_eq_true rfl), (Nat.le_of_ble_eq_true rfl)⟩ (fun H locs h => ?_)
    cases hm
    exact c_vretP C h hr hlk dX10_finish_23
end Z_Tx_finish
section Z_Tx_here
variable {p : Program} {l : Launch} {e : Env} {s : State} {m : MethodId} {args : Array Value} {below : List Frame} {meth : Method} {c : Code} {D : va_G} {A : Nat → Prop} {k : Nat → ClassId} {N : Nat} {cd : Cond} {z mi : Nat} {aK aV : Nat → Nat} {g : Nat → Nat} {π : Sh}
set_option maxHeartbeats 8000000 in
set_option maxRecDepth 100000 in
theorem kc_Tx_here (l : Launch) (D : va_G) (k : Nat → ClassId) (z mi : Nat) (aK aV : Nat → Nat) (g : Nat → Nat) (N : Nat)    {π : Sh} {σ : St}  {r : St × Int} (hS : SHs π) (hm : Tx_here N π σ  = some r) : Mi l yX10_here (.code yX10_here cX10_here 1 (some .int) :: cWd) { frames := 0, cells := 0, slots := 0, locals := 0 } [rfv g 50] D (TYs k) (cW k z g π σ) (XV z mi aK aV (cW k z g π σ)) Unit (fun v _ => v = Int32.ofInt r.2) (fun _ => cW k z g π r.1) 0 0 := by
  intro sz
  refine v_met (cc := cX10_here) (maxL := 1) (ret := (some .int)) (lv := [(0, rfv g 50)]) (by decide) rfl (by simp [lg_sl, rfv_cat, cat_i, cat_l]) (by simp [lv_args, rfv_cat, cat_i, cat_l]) ?_
  intro p e s m below meth c ls C hE hr hlk hmn hl h
  rw [Tx_here] at hm
  refine z_aload_n C dX10_here_0 rfl (lv_at hl 0 rfl) ?_
  refine cg_11_2 C h (sh_50 hS) cU_X10 (List.mem_cons_of_mem _ wl_X10_15) dX10_here_1 ?_
  refine lv_sipush (v := Int32.ofInt 2000) C.1 C.2.1 dX10_here_4 (by decide) ?_
  obtain ⟨g1, hm⟩ := grd_s hm
  refine z_icmp_ge (tgt := 25) C dX10_here_7 (by decide) g1 (by decide) (fun c2 => ?_) (fun c2 => ?_)
  · have hm := ite_f c2 hm
    refine lv_iconst (v := Int32.ofInt 0) C.1 C.2.1 dX10_here_25 (by decide) ?_
    cases hm
    exact c_iretP C h hr hlk dX10_here_26 rfl
  · have hm := ite_t c2 hm
    refine z_aload_n C dX10_here_10 rfl (lv_at hl 0 rfl) ?_
    refine cg_11_0 C h (sh_50 hS) cU_X10 (List.mem_cons_of_mem _ wl_X10_28) dX10_here_11 ?_
    refine cg_9_0 C h (sh_1 hS) cU_X8 (List.mem_cons_of_mem _ wl_X10_38) dX10_here_14 ?_
    refine z_aload_n C dX10_here_17 rfl (lv_at hl 0 rfl) ?_
    refine cg_11_2 C h (sh_50 hS) cU_X10 (List.mem_cons_of_mem _ wl_X10_15) dX10_here_18 ?_
    obtain ⟨g3, hm⟩ := grd_s hm
    refine c_bald C h (sh_2 hS) (ina_inb (n := 2000) (sl_2 hS) (Nat.le_of_ble_eq_true rfl) g3) dX10_here_21 ?_
    refine lv_goto (tgt := 26) C.1 C.2.1 dX10_here_22 (by decide) ?_
    cases hm
    exact c_iretP C h hr hlk dX10_here_26 rfl
end Z_Tx_here
section Z_Tx_skipBlanks
variable {p : Program} {l : Launch} {e : Env} {s : State} {m : MethodId} {args : Array Value} {below : List Frame} {meth : Method} {c : Code} {D : va_G} {A : Nat → Prop} {k : Nat → ClassId} {N : Nat} {cd : Cond} {z mi : Nat} {aK aV : Nat → Nat} {g : Nat → Nat} {π : Sh}
set_option maxHeartbeats 8000000 in
set_option maxRecDepth 100000 in
theorem kl_Tx_skipBlanks_0 {r : St} (C : Cx p s m args c cX10_skipBlanks RX10 (cd :: cWd) D (TYs k) 1) (hr : meth.sig.returnType = none) (hlk : meth.locks = false) (hE : Ev z mi aK aV A s s.heap) (hS : SHs π)    (n : Nat) : ∀ {ls : Array Slot} {H : Heap} {locs : List Loc} {σ : St} , lv_has ls 1 [(0, rfv g 50)] → Hp D A s.heap H locs (cW k z g π σ) → Tx_skipBlanks_0 N π n σ  = some r → W p l e { frames := 0, cells := 0, slots := 0, locals := 0 } s m args below meth c H locs 0 0 (MQ below (va_Qv (fun (_ : Unit) => True) (fun _ t => PostW D (TYs k) A (cW k z g π r) t) A) args s 0 0 A) (F0 m 0 ls []) := by
  induction n with
  | zero => intro ls H locs σ   hl h hm; cases (show none = some r from hm)
  | succ n hrec0 =>
    intro ls H locs σ   hl h hm
    rw [Tx_skipBlanks_0] at hm
    refine z_aload_n C dX10_skipBlanks_0 rfl (lv_at hl 0 rfl) ?_
    refine cg_11_2 C h (sh_50 hS) cU_X10 (List.mem_cons_of_mem _ wl_X10_15) dX10_skipBlanks_1 ?_
    refine z_aload_n C dX10_skipBlanks_4 rfl (lv_at hl 0 rfl) ?_
    refine cg_11_3 C h (sh_50 hS) cU_X10 (List.mem_cons_of_mem _ wl_X10_19) dX10_skipBlanks_5 ?_
    obtain ⟨g1, hm⟩ := grd_s hm
    obtain ⟨g2, hm⟩ := grd_s hm
    refine z_icmp_ge (tgt := 51) C dX10_skipBlanks_8 (by decide) g1 g2 (fun c3 => ?_) (fun c3 => ?_)
    · have hm := ite_f c3 hm
      cases hm
      exact c_vretP C h hr hlk dX10_skipBlanks_51
    · have hm := ite_t c3 hm
      refine z_aload_n C dX10_skipBlanks_11 rfl (lv_at hl 0 rfl) ?_
      refine cg_11_2 C h (sh_50 hS) cU_X10 (List.mem_cons_of_mem _ wl_X10_15) dX10_skipBlanks_12 ?_
      refine lv_sipush (v := Int32.ofInt 2000) C.1 C.2.1 dX10_skipBlanks_15 (by decide) ?_
      refine z_icmp_ge (tgt := 51) C dX10_skipBlanks_18 (by decide) g1 (by decide) (fun c4 => ?_) (fun c4 => ?_)
      · have hm := ite_f c4 hm
        cases hm
        exact c_vretP C h hr hlk dX10_skipBlanks_51
      · have hm := ite_t c4 hm
        refine z_aload_n C dX10_skipBlanks_21 rfl (lv_at hl 0 rfl) ?_
        refine cg_11_0 C h (sh_50 hS) cU_X10 (List.mem_cons_of_mem _ wl_X10_28) dX10_skipBlanks_22 ?_
        refine cg_9_0 C h (sh_1 hS) cU_X8 (List.mem_cons_of_mem _ wl_X10_38) dX10_skipBlanks_25 ?_
        refine z_aload_n C dX10_skipBlanks_28 rfl (lv_at hl 0 rfl) ?_
        refine cg_11_2 C h (sh_50 hS) cU_X10 (List.mem_cons_of_mem _ wl_X10_15) dX10_skipBlanks_29 ?_
        obtain ⟨g5, hm⟩ := grd_s hm
        refine c_bald C h (sh_2 hS) (ina_inb (n := 2000) (sl_2 hS) (Nat.le_of_ble_eq_true rfl) g5) dX10_skipBlanks_32 ?_
        refine lv_bipush (v := Int32.ofInt 32) C.1 C.2.1 dX10_skipBlanks_33 (by decide) ?_
        obtain ⟨g6, hm⟩ := grd_s hm
        refine z_icmp_ne (tgt := 51) C dX10_skipBlanks_35 (by decide) g6 (by decide) (fun c7 => ?_) (fun c7 => ?_)
        · have hm := ite_f c7 hm
          cases hm
          exact c_vretP C h hr hlk dX10_skipBlanks_51
        · have hm := ite_t c7 hm
          refine z_aload_n C dX10_skipBlanks_38 rfl (lv_at hl 0 rfl) ?_
          refine lv_dup C.1 C.2.1 dX10_skipBlanks_39 (rfv_cat _ _) ?_
          refine cg_11_2 C h (sh_50 hS) cU_X10 (List.mem_cons_of_mem _ wl_X10_15) dX10_skipBlanks_40 ?_
          refine lv_iconst (v := Int32.ofInt 1) C.1 C.2.1 dX10_skipBlanks_43 (by decide) ?_
          refine z_iadd C dX10_skipBlanks_44 ?_
          refine cp_11_2 C h (sh_50 hS) cU_X10 (List.mem_cons_of_mem _ wl_X10_15) dX10_skipBlanks_45 (fun H locs h => ?_)
          refine lv_goto (tgt := 0) C.1 C.2.1 dX10_skipBlanks_48 (by decide) ?_
          exact hrec0 (lv_sub hl [0] rfl) h hm
set_option maxHeartbeats 8000000 in
set_option maxRecDepth 100000 in
theorem kc_Tx_skipBlanks (l : Launch) (D : va_G) (k : Nat → ClassId) (z mi : Nat) (aK aV : Nat → Nat) (g : Nat → Nat) (N : Nat)    {π : Sh} {σ : St}  {r : St} (hS : SHs π) (hm : Tx_skipBlanks N π σ  = some r) : Mv l yX10_skipBlanks (.code yX10_skipBlanks cX10_skipBlanks 1 none :: cWd) { frames := 0, cells := 0, slots := 0, locals := 0 } [rfv g 50] D (TYs k) (cW k z g π σ) (XV z mi aK aV (cW k z g π σ)) Unit (fun _ => True) (fun _ => cW k z g π r) 0 0 := by
  intro sz
  refine v_met (cc := cX10_skipBlanks) (maxL := 1) (ret := none) (lv := [(0, rfv g 50)]) (by decide) rfl (by simp [lg_sl, rfv_cat, cat_i, cat_l]) (by simp [lv_args, rfv_cat, cat_i, cat_l]) ?_
  intro p e s m below meth c ls C hE hr hlk hmn hl h
  rw [Tx_skipBlanks] at hm
  exact kl_Tx_skipBlanks_0 (N := N) C hr hlk hE hS N (lv_sub hl [0] rfl) h hm
end Z_Tx_skipBlanks
section Z_Tx_digits
variable {p : Program} {l : Launch} {e : Env} {s : State} {m : MethodId} {args : Array Value} {below : List Frame} {meth : Method} {c : Code} {D : va_G} {A : Nat → Prop} {k : Nat → ClassId} {N : Nat} {cd : Cond} {z mi : Nat} {aK aV : Nat → Nat} {g : Nat → Nat} {π : Sh}
set_option maxHeartbeats 8000000 in
set_option maxRecDepth 100000 in
theorem kl_Tx_digits_148 {r : St × Int} (C : Cx p s m args c cX10_digits RX10 (cd :: cWd) D (TYs k) 5) (hr : meth.sig.returnType = (some .int)) (hlk : meth.locks = false) (hE : Ev z mi aK aV A s s.heap) (hS : SHs π)    {ls : Array Slot} {H : Heap} {locs : List Loc} {σ : St}   (hl : lv_has ls 5 []) (h : Hp D A s.heap H locs (cW k z g π σ)) (hm : Tx_digits_148 N π σ  = some r) : W p l e { frames := 0, cells := 0, slots := 0, locals := 0 } s m args below meth c H locs 0 0 (MQ below (va_Qi (fun v (_ : Unit) => v = Int32.ofInt r.2) (fun _ t => PostW D (TYs k) A (cW k z g π r.1) t) A) args s 0 0 A) (F0 m 148 ls []) := by
  rw [Tx_digits_148] at hm
  refine lv_iconst (v := Int32.ofInt (-1)) C.1 C.2.1 dX10_digits_148 (by decide) ?_
  refine lv_goto (tgt := 153) C.1 C.2.1 dX10_digits_149 (by decide) ?_
  cases hm
  exact c_iretP C h hr hlk dX10_digits_153 rfl
set_option maxHeartbeats 8000000 in
set_option maxRecDepth 100000 in
theorem kl_Tx_digits_130 {r : St × Int} (C : Cx p s m args c cX10_digits RX10 (cd :: cWd) D (TYs k) 5) (hr : meth.sig.returnType = (some .int)) (hlk : meth.locks = false) (hE : Ev z mi aK aV A s s.heap) (hS : SHs π)    {ls : Array Slot} {H : Heap} {locs : List Loc} {σ : St} {x3 : Int} {s0 : Int}  (hl : lv_has ls 5 [(0, rfv g 50), (3, .int (Int32.ofInt x3))]) (h : Hp D A s.heap H locs (cW k z g π σ)) (hm : Tx_digits_130 N π σ x3 s0 = some r) : W p l e { frames := 0, cells := 0, slots := 0, locals := 0 } s m args below meth c H locs 0 0 (MQ below (va_Qi (fun v (_ : Unit) => v = Int32.ofInt r.2) (fun _ t => PostW D (TYs k) A (cW k z g π r.1) t) A) args s 0 0 A) (F0 m 130 ls [.int (Int32.ofInt s0)]) := by
  rw [Tx_digits_130] at hm
  refine lv_istore (lv' := [(4, .int (Int32.ofInt s0)), (0, rfv g 50), (3, .int (Int32.ofInt x3))]) C.1 C.2.1 dX10_digits_130 hl (by decide) rfl (fun ls hl => ?_)
  refine lv_iload C.1 C.2.1 dX10_digits_132 (lv_at hl 0 rfl) ?_
  obtain ⟨g20, hm⟩ := grd_s hm
  refine z_if_ne (tgt := 148) C dX10_digits_134 (by decide) g20 (fun c21 => ?_) (fun c21 => ?_)
  · have hm := ite_f c21 hm
    exact kl_Tx_digits_148 (N := N) C hr hlk hE hS (lv_sub hl [] rfl) h hm
  · have hm := ite_t c21 hm
    refine z_aload_n C dX10_digits_137 rfl (lv_at hl 1 rfl) ?_
    refine cg_11_2 C h (sh_50 hS) cU_X10 (List.mem_cons_of_mem _ wl_X10_15) dX10_digits_138 ?_
    refine z_aload_n C dX10_digits_141 rfl (lv_at hl 1 rfl) ?_
    refine cg_11_5 C h (sh_50 hS) cU_X10 (List.mem_cons_of_mem _ wl_X10_25) dX10_digits_142 ?_
    obtain ⟨g22, hm⟩ := grd_s hm
    obtain ⟨g23, hm⟩ := grd_s hm
    refine z_icmp_ne (tgt := 152) C dX10_digits_145 (by decide) g22 g23 (fun c24 => ?_) (fun c24 => ?_)
    · have hm := ite_f c24 hm
      refine lv_iload_n C.1 C.2.1 dX10_digits_152 rfl (lv_at hl 2 rfl) ?_
      cases hm
      exact c_iretP C h hr hlk dX10_digits_153 rfl
    · have hm := ite_t c24 hm
      exact kl_Tx_digits_148 (N := N) C hr hlk hE hS (lv_sub hl [] rfl) h hm
set_option maxHeartbeats 8000000 in
set_option maxRecDepth 100000 in
theorem kl_Tx_digits_129 {r : St × Int} (C : Cx p s m args c cX10_digits RX10 (cd :: cWd) D (TYs k) 5) (hr : meth.sig.returnType = (some .int)) (hlk : meth.locks = false) (hE : Ev z mi aK aV A s s.heap) (hS : SHs π)    {ls : Array Slot} {H : Heap} {locs : List Loc} {σ : St} {x3 : Int}  (hl : lv_has ls 5 [(0, rfv g 50), (3, .int (Int32.ofInt x3))]) (h : Hp D A s.heap H locs (cW k z g π σ)) (hm : Tx_digits_129 N π σ x3 = some r) : W p l e { frames := 0, cells := 0, slots := 0, locals := 0 } s m args below meth c H locs 0 0 (MQ below (va_Qi (fun v (_ : Unit) => v = Int32.ofInt r.2) (fun _ t => PostW D (TYs k) A (cW k z g π r.1) t) A) args s 0 0 A) (F0 m 129 ls []) := by
  rw [Tx_digits_129] at hm
  refine lv_iconst (v := Int32.ofInt 0) C.1 C.2.1 dX10_digits_129 (by decide) ?_
  exact kl_Tx_digits_130 (N := N) C hr hlk hE hS (lv_sub hl [0, 1] rfl) h hm
set_option maxHeartbeats 8000000 in
set_option maxRecDepth 100000 in
theorem kl_Tx_digits_92 {r : St × Int} (C : Cx p s m args c cX10_digits RX10 (cd :: cWd) D (TYs k) 5) (hr : meth.sig.returnType = (some .int)) (hlk : meth.locks = false) (hE : Ev z mi aK aV A s s.heap) (hS : SHs π)    {ls : Array Slot} {H : Heap} {locs : List Loc} {σ : St} {x3 : Int}  (hl : lv_has ls 5 [(0, rfv g 50), (2, rfv g 2), (3, .int (Int32.ofInt x3))]) (h : Hp D A s.heap H locs (cW k z g π σ)) (hm : Tx_digits_92 N π σ x3 = some r) : W p l e { frames := 0, cells := 0, slots := 0, locals := 0 } s m args below meth c H locs 0 0 (MQ below (va_Qi (fun v (_ : Unit) => v = Int32.ofInt r.2) (fun _ t => PostW D (TYs k) A (cW k z g π r.1) t) A) args s 0 0 A) (F0 m 92 ls []) := by
  rw [Tx_digits_92] at hm
  refine z_aload_n C dX10_digits_92 rfl (lv_at hl 0 rfl) ?_
  refine cg_11_2 C h (sh_50 hS) cU_X10 (List.mem_cons_of_mem _ wl_X10_15) dX10_digits_93 ?_
  refine z_aload_n C dX10_digits_96 rfl (lv_at hl 0 rfl) ?_
  refine cg_11_3 C h (sh_50 hS) cU_X10 (List.mem_cons_of_mem _ wl_X10_19) dX10_digits_97 ?_
  obtain ⟨g13, hm⟩ := grd_s hm
  obtain ⟨g14, hm⟩ := grd_s hm
  refine z_icmp_ge (tgt := 129) C dX10_digits_100 (by decide) g13 g14 (fun c15 => ?_) (fun c15 => ?_)
  · have hm := ite_f c15 hm
    exact kl_Tx_digits_129 (N := N) C hr hlk hE hS (lv_sub hl [0, 2] rfl) h hm
  · have hm := ite_t c15 hm
    refine z_aload_n C dX10_digits_103 rfl (lv_at hl 1 rfl) ?_
    refine z_aload_n C dX10_digits_104 rfl (lv_at hl 0 rfl) ?_
    refine cg_11_2 C h (sh_50 hS) cU_X10 (List.mem_cons_of_mem _ wl_X10_15) dX10_digits_105 ?_
    obtain ⟨g16, hm⟩ := grd_s hm
    refine c_bald C h (sh_2 hS) (ina_inb (n := 2000) (sl_2 hS) (Nat.le_of_ble_eq_true rfl) g16) dX10_digits_108 ?_
    refine lv_bipush (v := Int32.ofInt 48) C.1 C.2.1 dX10_digits_109 (by decide) ?_
    obtain ⟨g17, hm⟩ := grd_s hm
    refine z_icmp_lt (tgt := 129) C dX10_digits_111 (by decide) g17 (by decide) (fun c18 => ?_) (fun c18 => ?_)
    · have hm := ite_t c18 hm
      exact kl_Tx_digits_129 (N := N) C hr hlk hE hS (lv_sub hl [0, 2] rfl) h hm
    · have hm := ite_f c18 hm
      refine z_aload_n C dX10_digits_114 rfl (lv_at hl 1 rfl) ?_
      refine z_aload_n C dX10_digits_115 rfl (lv_at hl 0 rfl) ?_
      refine cg_11_2 C h (sh_50 hS) cU_X10 (List.mem_cons_of_mem _ wl_X10_15) dX10_digits_116 ?_
      refine c_bald C h (sh_2 hS) (ina_inb (n := 2000) (sl_2 hS) (Nat.le_of_ble_eq_true rfl) g16) dX10_digits_119 ?_
      refine lv_bipush (v := Int32.ofInt 57) C.1 C.2.1 dX10_digits_120 (by decide) ?_
      refine z_icmp_gt (tgt := 129) C dX10_digits_122 (by decide) g17 (by decide) (fun c19 => ?_) (fun c19 => ?_)
      · have hm := ite_t c19 hm
        exact kl_Tx_digits_129 (N := N) C hr hlk hE hS (lv_sub hl [0, 2] rfl) h hm
      · have hm := ite_f c19 hm
        refine lv_iconst (v := Int32.ofInt 1) C.1 C.2.1 dX10_digits_125 (by decide) ?_
        refine lv_goto (tgt := 130) C.1 C.2.1 dX10_digits_126 (by decide) ?_
        exact kl_Tx_digits_130 (N := N) C hr hlk hE hS (lv_sub hl [0, 2] rfl) h hm
set_option maxHeartbeats 8000000 in
set_option maxRecDepth 100000 in
theorem kl_Tx_digits_18 {r : St × Int} (C : Cx p s m args c cX10_digits RX10 (cd :: cWd) D (TYs k) 5) (hr : meth.sig.returnType = (some .int)) (hlk : meth.locks = false) (hE : Ev z mi aK aV A s s.heap) (hS : SHs π)    (n : Nat) : ∀ {ls : Array Slot} {H : Heap} {locs : List Loc} {σ : St} {x1 : Int} {x3 : Int}, lv_has ls 5 [(0, rfv g 50), (2, rfv g 2), (1, .int (Int32.ofInt x1)), (3, .int (Int32.ofInt x3))] → Hp D A s.heap H locs (cW k z g π σ) → Tx_digits_18 N π n σ x1 x3 = some r → W p l e { frames := 0, cells := 0, slots := 0, locals := 0 } s m args below meth c H locs 0 0 (MQ below (va_Qi (fun v (_ : Unit) => v = Int32.ofInt r.2) (fun _ t => PostW D (TYs k) A (cW k z g π r.1) t) A) args s 0 0 A) (F0 m 18 ls []) := by
  induction n with
  | zero => intro ls H locs σ x1 x3  hl h hm; cases (show none = some r from hm)
  | succ n hrec18 =>
    intro ls H locs σ x1 x3  hl h hm
    rw [Tx_digits_18] at hm
    refine z_aload_n C dX10_digits_18 rfl (lv_at hl 0 rfl) ?_
    refine cg_11_2 C h (sh_50 hS) cU_X10 (List.mem_cons_of_mem _ wl_X10_15) dX10_digits_19 ?_
    refine z_aload_n C dX10_digits_22 rfl (lv_at hl 0 rfl) ?_
    refine cg_11_3 C h (sh_50 hS) cU_X10 (List.mem_cons_of_mem _ wl_X10_19) dX10_digits_23 ?_
    obtain ⟨g1, hm⟩ := grd_s hm
    obtain ⟨g2, hm⟩ := grd_s hm
    refine z_icmp_ge (tgt := 92) C dX10_digits_26 (by decide) g1 g2 (fun c3 => ?_) (fun c3 => ?_)
    · have hm := ite_f c3 hm
      exact kl_Tx_digits_92 (N := N) C hr hlk hE hS (lv_sub hl [0, 1, 3] rfl) h hm
    · have hm := ite_t c3 hm
      refine z_aload_n C dX10_digits_29 rfl (lv_at hl 0 rfl) ?_
      refine cg_11_2 C h (sh_50 hS) cU_X10 (List.mem_cons_of_mem _ wl_X10_15) dX10_digits_30 ?_
      refine z_aload_n C dX10_digits_33 rfl (lv_at hl 0 rfl) ?_
      refine cg_11_5 C h (sh_50 hS) cU_X10 (List.mem_cons_of_mem _ wl_X10_25) dX10_digits_34 ?_
      refine z_isub C dX10_digits_37 ?_
      refine lv_iload_n C.1 C.2.1 dX10_digits_38 rfl (lv_at hl 2 rfl) ?_
      obtain ⟨g4, hm⟩ := grd_s hm
      obtain ⟨g5, hm⟩ := grd_s hm
      refine z_icmp_ge (tgt := 92) C dX10_digits_39 (by decide) g4 g5 (fun c6 => ?_) (fun c6 => ?_)
      · have hm := ite_f c6 hm
        exact kl_Tx_digits_92 (N := N) C hr hlk hE hS (lv_sub hl [0, 1, 3] rfl) h hm
      · have hm := ite_t c6 hm
        refine z_aload_n C dX10_digits_42 rfl (lv_at hl 1 rfl) ?_
        refine z_aload_n C dX10_digits_43 rfl (lv_at hl 0 rfl) ?_
        refine cg_11_2 C h (sh_50 hS) cU_X10 (List.mem_cons_of_mem _ wl_X10_15) dX10_digits_44 ?_
        obtain ⟨g7, hm⟩ := grd_s hm
        refine c_bald C h (sh_2 hS) (ina_inb (n := 2000) (sl_2 hS) (Nat.le_of_ble_eq_true rfl) g7) dX10_digits_47 ?_
        refine lv_bipush (v := Int32.ofInt 48) C.1 C.2.1 dX10_digits_48 (by decide) ?_
        obtain ⟨g8, hm⟩ := grd_s hm
        refine z_icmp_lt (tgt := 92) C dX10_digits_50 (by decide) g8 (by decide) (fun c9 => ?_) (fun c9 => ?_)
        · have hm := ite_t c9 hm
          exact kl_Tx_digits_92 (N := N) C hr hlk hE hS (lv_sub hl [0, 1, 3] rfl) h hm
        · have hm := ite_f c9 hm
          refine z_aload_n C dX10_digits_53 rfl (lv_at hl 1 rfl) ?_
          refine z_aload_n C dX10_digits_54 rfl (lv_at hl 0 rfl) ?_
          refine cg_11_2 C h (sh_50 hS) cU_X10 (List.mem_cons_of_mem _ wl_X10_15) dX10_digits_55 ?_
          refine c_bald C h (sh_2 hS) (ina_inb (n := 2000) (sl_2 hS) (Nat.le_of_ble_eq_true rfl) g7) dX10_digits_58 ?_
          refine lv_bipush (v := Int32.ofInt 57) C.1 C.2.1 dX10_digits_59 (by decide) ?_
          refine z_icmp_gt (tgt := 92) C dX10_digits_61 (by decide) g8 (by decide) (fun c10 => ?_) (fun c10 => ?_)
          · have hm := ite_t c10 hm
            exact kl_Tx_digits_92 (N := N) C hr hlk hE hS (lv_sub hl [0, 1, 3] rfl) h hm
          · have hm := ite_f c10 hm
            refine lv_iload_n C.1 C.2.1 dX10_digits_64 rfl (lv_at hl 3 rfl) ?_
            refine lv_bipush (v := Int32.ofInt 10) C.1 C.2.1 dX10_digits_65 (by decide) ?_
            refine z_imul C dX10_digits_67 ?_
            refine z_aload_n C dX10_digits_68 rfl (lv_at hl 1 rfl) ?_
            refine z_aload_n C dX10_digits_69 rfl (lv_at hl 0 rfl) ?_
            refine cg_11_2 C h (sh_50 hS) cU_X10 (List.mem_cons_of_mem _ wl_X10_15) dX10_digits_70 ?_
            refine c_bald C h (sh_2 hS) (ina_inb (n := 2000) (sl_2 hS) (Nat.le_of_ble_eq_true rfl) g7) dX10_digits_73 ?_
            refine z_iadd C dX10_digits_74 ?_
            refine lv_bipush (v := Int32.ofInt 48) C.1 C.2.1 dX10_digits_75 (by decide) ?_
            refine z_isub C dX10_digits_77 ?_
            obtain ⟨v11, e12, hm⟩ := bnd_s hm
            rw [e12]
            refine lv_istore_n (i := 3) (lv' := [(3, .int (Int32.ofInt v11)), (0, rfv g 50), (2, rfv g 2), (1, .int (Int32.ofInt x1))]) C.1 C.2.1 dX10_digits_78 rfl hl (by decide) (by simp [rfv_cat, cat_i, cat_l]) (fun ls hl => ?_)
            refine z_aload_n C dX10_digits_79 rfl (lv_at hl 1 rfl) ?_
            refine lv_dup C.1 C.2.1 dX10_digits_80 (rfv_cat _ _) ?_
            refine cg_11_2 C h (sh_50 hS) cU_X10 (List.mem_cons_of_mem _ wl_X10_15) dX10_digits_81 ?_
            refine lv_iconst (v := Int32.ofInt 1) C.1 C.2.1 dX10_digits_84 (by decide) ?_
            refine z_iadd C dX10_digits_85 ?_
            refine cp_11_2 C h (sh_50 hS) cU_X10 (List.mem_cons_of_mem _ wl_X10_15) dX10_digits_86 (fun H locs h => ?_)
            refine lv_goto (tgt := 18) C.1 C.2.1 dX10_digits_89 (by decide) ?_
            exact hrec18 (lv_sub hl [1, 2, 3, 0] rfl) h hm
set_option maxHeartbeats 8000000 in
set_option maxRecDepth 100000 in
theorem kc_Tx_digits (l : Launch) (D : va_G) (k : Nat → ClassId) (z mi : Nat) (aK aV : Nat → Nat) (g : Nat → Nat) (N : Nat)    {π : Sh} {σ : St} {x1 : Int} {r : St × Int} (hS : SHs π) (hm : Tx_digits N π σ x1 = some r) : Mi l yX10_digits (.code yX10_digits cX10_digits 5 (some .int) :: cWd) { frames := 0, cells := 0, slots := 0, locals := 0 } [rfv g 50, .int (Int32.ofInt x1)] D (TYs k) (cW k z g π σ) (XV z mi aK aV (cW k z g π σ)) Unit (fun v _ => v = Int32.ofInt r.2) (fun _ => cW k z g π r.1) 0 0 := by
  intro sz
  refine v_met (cc := cX10_digits) (maxL := 5) (ret := (some .int)) (lv := [(0, rfv g 50), (1, .int (Int32.ofInt x1))]) (by decide) rfl (by simp [lg_sl, rfv_cat, cat_i, cat_l]) (by simp [lv_args, rfv_cat, cat_i, cat_l]) ?_
  intro p e s m below meth c ls C hE hr hlk hmn hl h
  rw [Tx_digits] at hm
  refine z_aload_n C dX10_digits_0 rfl (lv_at hl 0 rfl) ?_
  refine cg_11_0 C h (sh_50 hS) cU_X10 (List.mem_cons_of_mem _ wl_X10_28) dX10_digits_1 ?_
  refine cg_9_0 C h (sh_1 hS) cU_X8 (List.mem_cons_of_mem _ wl_X10_38) dX10_digits_4 ?_
  refine z_astore_n (lv' := [(2, rfv g 2), (0, rfv g 50), (1, .int (Int32.ofInt x1))]) C dX10_digits_7 rfl hl (by decide) rfl (fun ls hl => ?_)
  refine z_aload_n C dX10_digits_8 rfl (lv_at hl 1 rfl) ?_
  refine z_aload_n C dX10_digits_9 rfl (lv_at hl 1 rfl) ?_
  refine cg_11_2 C h (sh_50 hS) cU_X10 (List.mem_cons_of_mem _ wl_X10_15) dX10_digits_10 ?_
  refine cp_11_5 C h (sh_50 hS) cU_X10 (List.mem_cons_of_mem _ wl_X10_25) dX10_digits_13 (fun H locs h => ?_)
  refine lv_iconst (v := Int32.ofInt 0) C.1 C.2.1 dX10_digits_16 (by decide) ?_
  refine lv_istore_n (i := 3) (lv' := [(3, .int (Int32.ofInt 0)), (2, rfv g 2), (0, rfv g 50), (1, .int (Int32.ofInt x1))]) C.1 C.2.1 dX10_digits_17 rfl hl (by decide) (by simp [rfv_cat, cat_i, cat_l]) (fun ls hl => ?_)
  exact kl_Tx_digits_18 (N := N) C hr hlk hE hS N (lv_sub hl [2, 1, 3, 0] rfl) h hm
end Z_Tx_digits
section Z_Tx_number
variable {p : Program} {l : Launch} {e : Env} {s : State} {m : MethodId} {args : Array Value} {below : List Frame} {meth : Method} {c : Code} {D : va_G} {A : Nat → Prop} {k : Nat → ClassId} {N : Nat} {cd : Cond} {z mi : Nat} {aK aV : Nat → Nat} {g : Nat → Nat} {π : Sh}
set_option maxHeartbeats 8000000 in
set_option maxRecDepth 100000 in
theorem kl_Tx_number_40 {r : St × Int} (C : Cx p s m args c cX10_number RX10 (cd :: cWd) D (TYs k) 4) (hr : meth.sig.returnType = (some .int)) (hlk : meth.locks = false) (hE : Ev z mi aK aV A s s.heap) (hS : SHs π)    {ls : Array Slot} {H : Heap} {locs : List Loc} {σ : St} {x3 : Int}  (hl : lv_has ls 4 [(0, rfv g 50), (3, .int (Int32.ofInt x3))]) (h : Hp D A s.heap H locs (cW k z g π σ)) (hm : Tx_number_40 N π σ x3 = some r) : W p l e { frames := 1, cells := 0, slots := 0, locals := 24 } s m args below meth c H locs 0 0 (MQ below (va_Qi (fun v (_ : Unit) => v = Int32.ofInt r.2) (fun _ t => PostW D (TYs k) A (cW k z g π r.1) t) A) args s 0 0 A) (F0 m 40 ls []) := by
  rw [Tx_number_40] at hm
  refine z_aload_n C dX10_number_40 rfl (lv_at hl 0 rfl) ?_
  refine cg_11_0 C h (sh_50 hS) cU_X10 (List.mem_cons_of_mem _ wl_X10_28) dX10_number_41 ?_
  refine lv_iconst (v := Int32.ofInt 3) C.1 C.2.1 dX10_number_44 (by decide) ?_
  refine z_aload_n C dX10_number_45 rfl (lv_at hl 0 rfl) ?_
  refine cg_11_5 C h (sh_50 hS) cU_X10 (List.mem_cons_of_mem _ wl_X10_25) dX10_number_46 ?_
  obtain ⟨r19, e20, hm⟩ := obd_s hm
  refine c_callVvP C hE h (sh_1 hS) rfl (by decide) (kc_Sc_fail l D k z mi aK aV g N hS e20) (cwV 2 C.2.2.1 (gS_X10_32 _) rfl rfl rfl hd_X8_fail ⟨Nat.le_of_ble_eq_true rfl, Nat.le_of_ble_eq_true rfl⟩) rfl hl.1 rfl (Nat.le_of_ble_eq_true rfl) dX10_number_49 ⟨(Nat.le_of_ble_eq_true rfl), (Nat.le_of_ble_eq_true rfl)⟩ (fun H locs h => ?_)
  refine lv_iload_n C.1 C.2.1 dX10_number_52 rfl (lv_at hl 1 rfl) ?_
  cases hm
  exact c_iretP C h hr hlk dX10_number_53 rfl
set_option maxHeartbeats 8000000 in
set_option maxRecDepth 100000 in
theorem kc_Tx_number (l : Launch) (D : va_G) (k : Nat → ClassId) (z mi : Nat) (aK aV : Nat → Nat) (g : Nat → Nat) (N : Nat)    {π : Sh} {σ : St} {x1 : Int} {x2 : Int} {r : St × Int} (hS : SHs π) (hm : Tx_number N π σ x1 x2 = some r) : Mi l yX10_number (.code yX10_number cX10_number 4 (some .int) :: cWd) { frames := 1, cells := 0, slots := 0, locals := 24 } [rfv g 50, .int (Int32.ofInt x1), .int (Int32.ofInt x2)] D (TYs k) (cW k z g π σ) (XV z mi aK aV (cW k z g π σ)) Unit (fun v _ => v = Int32.ofInt r.2) (fun _ => cW k z g π r.1) 0 0 := by
  intro sz
  refine v_met (cc := cX10_number) (maxL := 4) (ret := (some .int)) (lv := [(0, rfv g 50), (1, .int (Int32.ofInt x1)), (2, .int (Int32.ofInt x2))]) (by decide) rfl (by simp [lg_sl, rfv_cat, cat_i, cat_l]) (by simp [lv_args, rfv_cat, cat_i, cat_l]) ?_
  intro p e s m below meth c ls C hE hr hlk hmn hl h
  rw [Tx_number] at hm
  refine z_aload_n C dX10_number_0 rfl (lv_at hl 0 rfl) ?_
  obtain ⟨r1, e2, hm⟩ := obd_s hm
  refine c_callVvP C hE h (sh_50 hS) rfl (by decide) (kc_Tx_skipBlanks l D k z mi aK aV g N hS e2) (cwV 0 C.2.2.1 (gS_X10_42 _) rfl rfl rfl hd_X10_skipBlanks ⟨Nat.le_of_ble_eq_true rfl, Nat.le_of_ble_eq_true rfl⟩) rfl hl.1 rfl (Nat.le_of_ble_eq_true rfl) dX10_number_1 ⟨(Nat.le_of_ble_eq_true rfl), (Nat.le_of_ble_eq_true rfl)⟩ (fun H locs h => ?_)
  refine z_aload_n C dX10_number_4 rfl (lv_at hl 0 rfl) ?_
  refine lv_iconst (v := Int32.ofInt 4) C.1 C.2.1 dX10_number_5 (by decide) ?_
  obtain ⟨r5, e6, hm⟩ := obd_s hm
  refine c_callViP C hE h (sh_50 hS) rfl (by decide) (kc_Tx_digits l D k z mi aK aV g N hS e6) (cwV 1 C.2.2.1 (gS_X10_118 _) rfl rfl rfl hd_X10_digits ⟨Nat.le_of_ble_eq_true rfl, Nat.le_of_ble_eq_true rfl⟩) rfl hl.1 rfl (Nat.le_of_ble_eq_true rfl) dX10_number_6 ⟨(Nat.le_of_ble_eq_true rfl), (Nat.le_of_ble_eq_true rfl)⟩ (fun H locs h => ?_)
  refine lv_istore_n (lv' := [(3, .int (Int32.ofInt r5.2)), (0, rfv g 50), (1, .int (Int32.ofInt x1)), (2, .int (Int32.ofInt x2))]) C.1 C.2.1 dX10_number_9 rfl hl (by decide) rfl (fun ls hl => ?_)
  refine lv_iload_n C.1 C.2.1 dX10_number_10 rfl (lv_at hl 0 rfl) ?_
  refine lv_iconst (v := Int32.ofInt (-1)) C.1 C.2.1 dX10_number_11 (by decide) ?_
  obtain ⟨g9, hm⟩ := grd_s hm
  refine z_icmp_ne (tgt := 30) C dX10_number_12 (by decide) g9 (by decide) (fun c10 => ?_) (fun c10 => ?_)
  · have hm := ite_f c10 hm
    refine lv_iload_n C.1 C.2.1 dX10_number_30 rfl (lv_at hl 0 rfl) ?_
    refine lv_iload_n C.1 C.2.1 dX10_number_31 rfl (lv_at hl 2 rfl) ?_
    obtain ⟨g11, hm⟩ := grd_s hm
    refine z_icmp_lt (tgt := 40) C dX10_number_32 (by decide) g9 g11 (fun c12 => ?_) (fun c12 => ?_)
    · have hm := ite_t c12 hm
      exact kl_Tx_number_40 (N := N) C hr hlk hE hS (lv_sub hl [1, 0] rfl) h hm
    · have hm := ite_f c12 hm
      refine lv_iload_n C.1 C.2.1 dX10_number_35 rfl (lv_at hl 0 rfl) ?_
      refine lv_iload_n C.1 C.2.1 dX10_number_36 rfl (lv_at hl 3 rfl) ?_
      obtain ⟨g13, hm⟩ := grd_s hm
      refine z_icmp_le (tgt := 52) C dX10_number_37 (by decide) g9 g13 (fun c14 => ?_) (fun c14 => ?_)
      · have hm := ite_f c14 hm
        refine lv_iload_n C.1 C.2.1 dX10_number_52 rfl (lv_at hl 0 rfl) ?_
        cases hm
        exact c_iretP C h hr hlk dX10_number_53 rfl
      · have hm := ite_t c14 hm
        exact kl_Tx_number_40 (N := N) C hr hlk hE hS (lv_sub hl [1, 0] rfl) h hm
  · have hm := ite_t c10 hm
    refine z_aload_n C dX10_number_15 rfl (lv_at hl 1 rfl) ?_
    refine cg_11_0 C h (sh_50 hS) cU_X10 (List.mem_cons_of_mem _ wl_X10_28) dX10_number_16 ?_
    refine lv_iconst (v := Int32.ofInt 1) C.1 C.2.1 dX10_number_19 (by decide) ?_
    refine z_aload_n C dX10_number_20 rfl (lv_at hl 1 rfl) ?_
    refine cg_11_2 C h (sh_50 hS) cU_X10 (List.mem_cons_of_mem _ wl_X10_15) dX10_number_21 ?_
    obtain ⟨r15, e16, hm⟩ := obd_s hm
    refine c_callVvP C hE h (sh_1 hS) rfl (by decide) (kc_Sc_fail l D k z mi aK aV g N hS e16) (cwV 2 C.2.2.1 (gS_X10_32 _) rfl rfl rfl hd_X8_fail ⟨Nat.le_of_ble_eq_true rfl, Nat.le_of_ble_eq_true rfl⟩) rfl hl.1 rfl (Nat.le_of_ble_eq_true rfl) dX10_number_24 ⟨(Nat.le_of_ble_eq_true rfl), (Nat.le_of_ble_eq_true rfl)⟩ (fun H locs h => ?_)
    refine lv_goto (tgt := 52) C.1 C.2.1 dX10_number_27 (by decide) ?_
    refine lv_iload_n C.1 C.2.1 dX10_number_52 rfl (lv_at hl 0 rfl) ?_
    cases hm
    exact c_iretP C h hr hlk dX10_number_53 rfl
end Z_Tx_number
section Z_Tx_behindSign
variable {p : Program} {l : Launch} {e : Env} {s : State} {m : MethodId} {args : Array Value} {below : List Frame} {meth : Method} {c : Code} {D : va_G} {A : Nat → Prop} {k : Nat → ClassId} {N : Nat} {cd : Cond} {z mi : Nat} {aK aV : Nat → Nat} {g : Nat → Nat} {π : Sh}
set_option maxHeartbeats 8000000 in
set_option maxRecDepth 100000 in
theorem kc_Tx_behindSign (l : Launch) (D : va_G) (k : Nat → ClassId) (z mi : Nat) (aK aV : Nat → Nat) (g : Nat → Nat) (N : Nat)    {π : Sh} {σ : St} {x1 : Int} {r : St × Int} (hS : SHs π) (hm : Tx_behindSign N π σ x1 = some r) : Mi l yX10_behindSign (.code yX10_behindSign cX10_behindSign 2 (some .int) :: cWd) { frames := 2, cells := 0, slots := 0, locals := 47 } [rfv g 50, .int (Int32.ofInt x1)] D (TYs k) (cW k z g π σ) (XV z mi aK aV (cW k z g π σ)) Unit (fun v _ => v = Int32.ofInt r.2) (fun _ => cW k z g π r.1) 0 0 := by
  intro sz
  refine v_met (cc := cX10_behindSign) (maxL := 2) (ret := (some .int)) (lv := [(0, rfv g 50), (1, .int (Int32.ofInt x1))]) (by decide) rfl (by simp [lg_sl, rfv_cat, cat_i, cat_l]) (by simp [lv_args, rfv_cat, cat_i, cat_l]) ?_
  intro p e s m below meth c ls C hE hr hlk hmn hl h
  rw [Tx_behindSign] at hm
  refine z_aload_n C dX10_behindSign_0 rfl (lv_at hl 0 rfl) ?_
  obtain ⟨r1, e2, hm⟩ := obd_s hm
  refine c_callVvP C hE h (sh_50 hS) rfl (by decide) (kc_Tx_skipBlanks l D k z mi aK aV g N hS e2) (cwV 0 C.2.2.1 (gS_X10_42 _) rfl rfl rfl hd_X10_skipBlanks ⟨Nat.le_of_ble_eq_true rfl, Nat.le_of_ble_eq_true rfl⟩) rfl hl.1 rfl (Nat.le_of_ble_eq_true rfl) dX10_behindSign_1 ⟨(Nat.le_of_ble_eq_true rfl), (Nat.le_of_ble_eq_true rfl)⟩ (fun H locs h => ?_)
  refine z_aload_n C dX10_behindSign_4 rfl (lv_at hl 0 rfl) ?_
  refine cg_11_0 C h (sh_50 hS) cU_X10 (List.mem_cons_of_mem _ wl_X10_28) dX10_behindSign_5 ?_
  refine cg_9_2 C h (sh_1 hS) cU_X8 (List.mem_cons_of_mem _ wl_X10_57) dX10_behindSign_8 ?_
  obtain ⟨g5, hm⟩ := grd_s hm
  refine z_if_ne (tgt := 22) C dX10_behindSign_11 (by decide) g5 (fun c6 => ?_) (fun c6 => ?_)
  · have hm := ite_f c6 hm
    refine lv_iconst (v := Int32.ofInt 1) C.1 C.2.1 dX10_behindSign_22 (by decide) ?_
    cases hm
    exact c_iretP C h hr hlk dX10_behindSign_23 rfl
  · have hm := ite_t c6 hm
    refine z_aload_n C dX10_behindSign_14 rfl (lv_at hl 0 rfl) ?_
    obtain ⟨r7, e8, hm⟩ := obd_s hm
    refine c_callViP C hE h (sh_50 hS) rfl (by decide) (kc_Tx_here l D k z mi aK aV g N hS e8) (cwV 0 C.2.2.1 (gS_X10_45 _) rfl rfl rfl hd_X10_here ⟨Nat.le_of_ble_eq_true rfl, Nat.le_of_ble_eq_true rfl⟩) rfl hl.1 rfl (Nat.le_of_ble_eq_true rfl) dX10_behindSign_15 ⟨(Nat.le_of_ble_eq_true rfl), (Nat.le_of_ble_eq_true rfl)⟩ (fun H locs h => ?_)
    refine lv_iload_n C.1 C.2.1 dX10_behindSign_18 rfl (lv_at hl 1 rfl) ?_
    obtain ⟨g11, hm⟩ := grd_s hm
    obtain ⟨g12, hm⟩ := grd_s hm
    refine z_icmp_eq (tgt := 24) C dX10_behindSign_19 (by decide) g11 g12 (fun c13 => ?_) (fun c13 => ?_)
    · have hm := ite_t c13 hm
      refine z_aload_n C dX10_behindSign_24 rfl (lv_at hl 0 rfl) ?_
      refine lv_dup C.1 C.2.1 dX10_behindSign_25 (rfv_cat _ _) ?_
      refine cg_11_2 C h (sh_50 hS) cU_X10 (List.mem_cons_of_mem _ wl_X10_15) dX10_behindSign_26 ?_
      refine lv_iconst (v := Int32.ofInt 1) C.1 C.2.1 dX10_behindSign_29 (by decide) ?_
      refine z_iadd C dX10_behindSign_30 ?_
      refine cp_11_2 C h (sh_50 hS) cU_X10 (List.mem_cons_of_mem _ wl_X10_15) dX10_behindSign_31 (fun H locs h => ?_)
      refine z_aload_n C dX10_behindSign_34 rfl (lv_at hl 0 rfl) ?_
      refine lv_iconst (v := Int32.ofInt 1) C.1 C.2.1 dX10_behindSign_35 (by decide) ?_
      refine lv_bipush (v := Int32.ofInt 16) C.1 C.2.1 dX10_behindSign_36 (by decide) ?_
      obtain ⟨σ14, e15, hm⟩ := bnd_s hm
      rw [e15] at h
      obtain ⟨r17, e18, hm⟩ := obd_s hm
      refine c_callViP C hE h (sh_50 hS) rfl (by decide) (kc_Tx_number l D k z mi aK aV g N hS e18) (cwV 2 C.2.2.1 (gS_X10_87 _) rfl rfl rfl hd_X10_number ⟨Nat.le_of_ble_eq_true rfl, Nat.le_of_ble_eq_true rfl⟩) rfl hl.1 rfl (Nat.le_of_ble_eq_true rfl) dX10_behindSign_38 ⟨(Nat.le_of_ble_eq_true rfl), (Nat.le_of_ble_eq_true rfl)⟩ (fun H locs h => ?_)
      cases hm
      exact c_iretP C h hr hlk dX10_behindSign_41 rfl
    · have hm := ite_f c13 hm
      refine lv_iconst (v := Int32.ofInt 1) C.1 C.2.1 dX10_behindSign_22 (by decide) ?_
      cases hm
      exact c_iretP C h hr hlk dX10_behindSign_23 rfl
end Z_Tx_behindSign
section Z_Tx_take
variable {p : Program} {l : Launch} {e : Env} {s : State} {m : MethodId} {args : Array Value} {below : List Frame} {meth : Method} {c : Code} {D : va_G} {A : Nat → Prop} {k : Nat → ClassId} {N : Nat} {cd : Cond} {z mi : Nat} {aK aV : Nat → Nat} {g : Nat → Nat} {π : Sh}
set_option maxHeartbeats 8000000 in
set_option maxRecDepth 100000 in
theorem kc_Tx_take (l : Launch) (D : va_G) (k : Nat → ClassId) (z mi : Nat) (aK aV : Nat → Nat) (g : Nat → Nat) (N : Nat)    {π : Sh} {σ : St} {x1 : Int} {r : St} (hS : SHs π) (hm : Tx_take N π σ x1 = some r) : Mv l yX10_take (.code yX10_take cX10_take 2 none :: cWd) { frames := 1, cells := 0, slots := 0, locals := 22 } [rfv g 50, .int (Int32.ofInt x1)] D (TYs k) (cW k z g π σ) (XV z mi aK aV (cW k z g π σ)) Unit (fun _ => True) (fun _ => cW k z g π r) 0 0 := by
  intro sz
  refine v_met (cc := cX10_take) (maxL := 2) (ret := none) (lv := [(0, rfv g 50), (1, .int (Int32.ofInt x1))]) (by decide) rfl (by simp [lg_sl, rfv_cat, cat_i, cat_l]) (by simp [lv_args, rfv_cat, cat_i, cat_l]) ?_
  intro p e s m below meth c ls C hE hr hlk hmn hl h
  rw [Tx_take] at hm
  refine z_aload_n C dX10_take_0 rfl (lv_at hl 0 rfl) ?_
  obtain ⟨r1, e2, hm⟩ := obd_s hm
  refine c_callVvP C hE h (sh_50 hS) rfl (by decide) (kc_Tx_skipBlanks l D k z mi aK aV g N hS e2) (cwV 0 C.2.2.1 (gS_X10_42 _) rfl rfl rfl hd_X10_skipBlanks ⟨Nat.le_of_ble_eq_true rfl, Nat.le_of_ble_eq_true rfl⟩) rfl hl.1 rfl (Nat.le_of_ble_eq_true rfl) dX10_take_1 ⟨(Nat.le_of_ble_eq_true rfl), (Nat.le_of_ble_eq_true rfl)⟩ (fun H locs h => ?_)
  refine z_aload_n C dX10_take_4 rfl (lv_at hl 0 rfl) ?_
  obtain ⟨r5, e6, hm⟩ := obd_s hm
  refine c_callViP C hE h (sh_50 hS) rfl (by decide) (kc_Tx_here l D k z mi aK aV g N hS e6) (cwV 0 C.2.2.1 (gS_X10_45 _) rfl rfl rfl hd_X10_here ⟨Nat.le_of_ble_eq_true rfl, Nat.le_of_ble_eq_true rfl⟩) rfl hl.1 rfl (Nat.le_of_ble_eq_true rfl) dX10_take_5 ⟨(Nat.le_of_ble_eq_true rfl), (Nat.le_of_ble_eq_true rfl)⟩ (fun H locs h => ?_)
  refine lv_iload_n C.1 C.2.1 dX10_take_8 rfl (lv_at hl 1 rfl) ?_
  obtain ⟨g9, hm⟩ := grd_s hm
  obtain ⟨g10, hm⟩ := grd_s hm
  refine z_icmp_eq (tgt := 27) C dX10_take_9 (by decide) g9 g10 (fun c11 => ?_) (fun c11 => ?_)
  · have hm := ite_t c11 hm
    refine z_aload_n C dX10_take_27 rfl (lv_at hl 0 rfl) ?_
    refine lv_dup C.1 C.2.1 dX10_take_28 (rfv_cat _ _) ?_
    refine cg_11_2 C h (sh_50 hS) cU_X10 (List.mem_cons_of_mem _ wl_X10_15) dX10_take_29 ?_
    refine lv_iconst (v := Int32.ofInt 1) C.1 C.2.1 dX10_take_32 (by decide) ?_
    refine z_iadd C dX10_take_33 ?_
    refine cp_11_2 C h (sh_50 hS) cU_X10 (List.mem_cons_of_mem _ wl_X10_15) dX10_take_34 (fun H locs h => ?_)
    cases hm
    exact c_vretP C h hr hlk dX10_take_37
  · have hm := ite_f c11 hm
    refine z_aload_n C dX10_take_12 rfl (lv_at hl 0 rfl) ?_
    refine cg_11_0 C h (sh_50 hS) cU_X10 (List.mem_cons_of_mem _ wl_X10_28) dX10_take_13 ?_
    refine lv_iconst (v := Int32.ofInt 1) C.1 C.2.1 dX10_take_16 (by decide) ?_
    refine z_aload_n C dX10_take_17 rfl (lv_at hl 0 rfl) ?_
    refine cg_11_2 C h (sh_50 hS) cU_X10 (List.mem_cons_of_mem _ wl_X10_15) dX10_take_18 ?_
    obtain ⟨r12, e13, hm⟩ := obd_s hm
    refine c_callVvP C hE h (sh_1 hS) rfl (by decide) (kc_Sc_fail l D k z mi aK aV g N hS e13) (cwV 2 C.2.2.1 (gS_X10_32 _) rfl rfl rfl hd_X8_fail ⟨Nat.le_of_ble_eq_true rfl, Nat.le_of_ble_eq_true rfl⟩) rfl hl.1 rfl (Nat.le_of_ble_eq_true rfl) dX10_take_21 ⟨(Nat.le_of_ble_eq_true rfl), (Nat.le_of_ble_eq_true rfl)⟩ (fun H locs h => ?_)
    refine lv_goto (tgt := 37) C.1 C.2.1 dX10_take_24 (by decide) ?_
    cases hm
    exact c_vretP C h hr hlk dX10_take_37
end Z_Tx_take
section Z_Sc_opens
variable {p : Program} {l : Launch} {e : Env} {s : State} {m : MethodId} {args : Array Value} {below : List Frame} {meth : Method} {c : Code} {D : va_G} {A : Nat → Prop} {k : Nat → ClassId} {N : Nat} {cd : Cond} {z mi : Nat} {aK aV : Nat → Nat} {g : Nat → Nat} {π : Sh}
set_option maxHeartbeats 8000000 in
set_option maxRecDepth 100000 in
theorem kc_Sc_opens (l : Launch) (D : va_G) (k : Nat → ClassId) (z mi : Nat) (aK aV : Nat → Nat) (g : Nat → Nat) (N : Nat)    {π : Sh} {σ : St} {x1 : Int} {r : St × Int} (hS : SHs π) (hm : Sc_opens N π σ x1 = some r) : Mi l yX8_opens (.code yX8_opens cX8_opens 2 (some .boolean) :: cWd) { frames := 1, cells := 0, slots := 0, locals := 22 } [rfv g 1, .int (Int32.ofInt x1)] D (TYs k) (cW k z g π σ) (XV z mi aK aV (cW k z g π σ)) Unit (fun v _ => v = Int32.ofInt r.2) (fun _ => cW k z g π r.1) 0 0 := by
  intro sz
  refine v_met (cc := cX8_opens) (maxL := 2) (ret := (some .boolean)) (lv := [(0, rfv g 1), (1, .int (Int32.ofInt x1))]) (by decide) rfl (by simp [lg_sl, rfv_cat, cat_i, cat_l]) (by simp [lv_args, rfv_cat, cat_i, cat_l]) ?_
  intro p e s m below meth c ls C hE hr hlk hmn hl h
  rw [Sc_opens] at hm
  refine z_aload_n C dX8_opens_0 rfl (lv_at hl 0 rfl) ?_
  refine cg_9_4 C h (sh_1 hS) cU_X8 (List.mem_cons_of_mem _ wl_X8_25) dX8_opens_1 ?_
  refine lv_bipush (v := Int32.ofInt 20) C.1 C.2.1 dX8_opens_4 (by decide) ?_
  obtain ⟨g1, hm⟩ := grd_s hm
  refine z_icmp_lt (tgt := 17) C dX8_opens_6 (by decide) g1 (by decide) (fun c2 => ?_) (fun c2 => ?_)
  · have hm := ite_t c2 hm
    refine z_aload_n C dX8_opens_17 rfl (lv_at hl 0 rfl) ?_
    refine lv_dup C.1 C.2.1 dX8_opens_18 (rfv_cat _ _) ?_
    refine cg_9_4 C h (sh_1 hS) cU_X8 (List.mem_cons_of_mem _ wl_X8_25) dX8_opens_19 ?_
    refine lv_iconst (v := Int32.ofInt 1) C.1 C.2.1 dX8_opens_22 (by decide) ?_
    refine z_iadd C dX8_opens_23 ?_
    refine cp_9_4 C h (sh_1 hS) cU_X8 (List.mem_cons_of_mem _ wl_X8_25) dX8_opens_24 (fun H locs h => ?_)
    refine lv_iconst (v := Int32.ofInt 1) C.1 C.2.1 dX8_opens_27 (by decide) ?_
    cases hm
    exact c_iretP C h hr hlk dX8_opens_28 rfl
  · have hm := ite_f c2 hm
    refine z_aload_n C dX8_opens_9 rfl (lv_at hl 0 rfl) ?_
    refine lv_iconst (v := Int32.ofInt 4) C.1 C.2.1 dX8_opens_10 (by decide) ?_
    refine lv_iload_n C.1 C.2.1 dX8_opens_11 rfl (lv_at hl 1 rfl) ?_
    obtain ⟨r3, e4, hm⟩ := obd_s hm
    refine c_callVvP C hE h (sh_1 hS) rfl (by decide) (kc_Sc_fail l D k z mi aK aV g N hS e4) (cwV 2 C.2.2.1 (gS_X8_50 _) rfl rfl rfl hd_X8_fail ⟨Nat.le_of_ble_eq_true rfl, Nat.le_of_ble_eq_true rfl⟩) rfl hl.1 rfl (Nat.le_of_ble_eq_true rfl) dX8_opens_12 ⟨(Nat.le_of_ble_eq_true rfl), (Nat.le_of_ble_eq_true rfl)⟩ (fun H locs h => ?_)
    refine lv_iconst (v := Int32.ofInt 0) C.1 C.2.1 dX8_opens_15 (by decide) ?_
    cases hm
    exact c_iretP C h hr hlk dX8_opens_16 rfl
end Z_Sc_opens
section Z_Tx_euclid
variable {p : Program} {l : Launch} {e : Env} {s : State} {m : MethodId} {args : Array Value} {below : List Frame} {meth : Method} {c : Code} {D : va_G} {A : Nat → Prop} {k : Nat → ClassId} {N : Nat} {cd : Cond} {z mi : Nat} {aK aV : Nat → Nat} {g0 : Nat → Nat} {π0 : Sh}
set_option maxHeartbeats 8000000 in
set_option maxRecDepth 100000 in
theorem kl_Tx_euclid_179 {r : Sh × St × Int} (C : Cx p s m args c cX10_euclid RX10 (cd :: cWd) D (TYs k) 4) (hr : meth.sig.returnType = (some .int)) (hlk : meth.locks = false) (hE : Ev z mi aK aV A s s.heap)    {ls : Array Slot} {H : Heap} {locs : List Loc} {g : Nat → Nat} {π : Sh} {σ : St} {s0 : Int} (hC : Cl π σ) (hG : gx (nn π0) g0 g) (hX : ext π0 π)  (hl : lv_has ls 4 []) (h : Hp D A s.heap H locs (cW k z g π σ)) (hm : Tx_euclid_179 N π σ s0 = some r) : W p l e { frames := 8, cells := nn r.1 - nn π0, slots := sw r.1 - sw π0, locals := 262 } s m args below meth c H locs (nn π - nn π0) (sw π - sw π0) (MQ below (va_Qi (fun v u => gx (nn π0) g0 u ∧ v = Int32.ofInt r.2.2) (fun u t => PostW D (TYs k) A (cW k z u r.1 r.2.1) t) A) args s (nn r.1 - nn π0) (sw r.1 - sw π0) A) (F0 m 179 ls [.int (Int32.ofInt s0)]) := by
  have hS := hC.1
  have hq := km_Tx_euclid_179    hC  hm
  rw [Tx_euclid_179] at hm
  refine lv_goto (tgt := 183) C.1 C.2.1 dX10_euclid_179 (by decide) ?_
  cases hm
  exact c_iretA C hG h hr hlk dX10_euclid_183 rfl
set_option maxHeartbeats 8000000 in
set_option maxRecDepth 100000 in
theorem kl_Tx_euclid_176 {r : Sh × St × Int} (C : Cx p s m args c cX10_euclid RX10 (cd :: cWd) D (TYs k) 4) (hr : meth.sig.returnType = (some .int)) (hlk : meth.locks = false) (hE : Ev z mi aK aV A s s.heap)    {ls : Array Slot} {H : Heap} {locs : List Loc} {g : Nat → Nat} {π : Sh} {σ : St} {s0 : Int} {s1 : Int} (hC : Cl π σ) (hG : gx (nn π0) g0 g) (hX : ext π0 π) (hv_s0 : s0 < nn π) (hv_s1 : s1 < nn π) (hl : lv_has ls 4 []) (h : Hp D A s.heap H locs (cW k z g π σ)) (hm : Tx_euclid_176 N π σ s0 s1 = some r) : W p l e { frames := 8, cells := nn r.1 - nn π0, slots := sw r.1 - sw π0, locals := 262 } s m args below meth c H locs (nn π - nn π0) (sw π - sw π0) (MQ below (va_Qi (fun v u => gx (nn π0) g0 u ∧ v = Int32.ofInt r.2.2) (fun u t => PostW D (TYs k) A (cW k z u r.1 r.2.1) t) A) args s (nn r.1 - nn π0) (sw r.1 - sw π0) A) (F0 m 176 ls [rfv g s0, rfv g s1]) := by
  have hS := hC.1
  have hq := km_Tx_euclid_176    hC hv_s0 hv_s1 hm
  rw [Tx_euclid_176] at hm
  obtain ⟨r74, e75, hm⟩ := obd_s hm
  have q76 := (km_Df_add hC hv_s1 hv_s0 e75)
  obtain ⟨g77, hm⟩ := grd_s hm
  have q := km_Tx_euclid_179   q76.2  hm
  refine c_callViA C hE h g77 rfl (by decide) (kc_Df_add l D k z mi aK aV g N hC hv_s1 hv_s0 e75) (cwV 1 C.2.2.1 (gS_X10_60 _) rfl rfl rfl hd_X0_add ⟨Nat.le_of_ble_eq_true rfl, Nat.le_of_ble_eq_true rfl⟩) rfl hl.1 rfl (Nat.le_of_ble_eq_true rfl) dX10_euclid_176 ⟨rcC hX q76.1 q.1, rsC hX q76.1 q.1⟩ (fun u H locs hg h => ?_)
  refine W_cast (wcC hX q76.1).symm (wsC hX q76.1).symm ?_
  exact kl_Tx_euclid_179 (N := N) C hr hlk hE   q76.2 (hG.tr hg hX.1) (hX.tr q76.1)  (lv_sub hl [] rfl) h hm
set_option maxHeartbeats 8000000 in
set_option maxRecDepth 100000 in
theorem kl_Tx_euclid_138 {r : Sh × St × Int} (C : Cx p s m args c cX10_euclid RX10 (cd :: cWd) D (TYs k) 4) (hr : meth.sig.returnType = (some .int)) (hlk : meth.locks = false) (hE : Ev z mi aK aV A s s.heap)    {ls : Array Slot} {H : Heap} {locs : List Loc} {g : Nat → Nat} {π : Sh} {σ : St} {x1 : Int} {x2 : Int} (hC : Cl π σ) (hG : gx (nn π0) g0 g) (hX : ext π0 π) (hv_x2 : x2 < nn π) (hl : lv_has ls 4 [(0, rfv g 50), (1, .int (Int32.ofInt x1)), (2, rfv g x2)]) (h : Hp D A s.heap H locs (cW k z g π σ)) (hm : Tx_euclid_138 N π σ x1 x2 = some r) : W p l e { frames := 8, cells := nn r.1 - nn π0, slots := sw r.1 - sw π0, locals := 262 } s m args below meth c H locs (nn π - nn π0) (sw π - sw π0) (MQ below (va_Qi (fun v u => gx (nn π0) g0 u ∧ v = Int32.ofInt r.2.2) (fun u t => PostW D (TYs k) A (cW k z u r.1 r.2.1) t) A) args s (nn r.1 - nn π0) (sw r.1 - sw π0) A) (F0 m 138 ls []) := by
  have hS := hC.1
  have hq := km_Tx_euclid_138    hC hv_x2 hm
  rw [Tx_euclid_138] at hm
  refine z_aload_n C dX10_euclid_138 rfl (lv_at hl 0 rfl) ?_
  refine lv_bipush (v := Int32.ofInt 41) C.1 C.2.1 dX10_euclid_139 (by decide) ?_
  obtain ⟨r61, e62, hm⟩ := obd_s hm
  have q63 := (km_Tx_take hC e62)
  refine c_callVvP C hE h (sh_50 hS) rfl (by decide) (kc_Tx_take l D k z mi aK aV g N hS e62) (cwV 1 C.2.2.1 (gS_X10_131 _) rfl rfl rfl hd_X10_take ⟨Nat.le_of_ble_eq_true rfl, Nat.le_of_ble_eq_true rfl⟩) rfl hl.1 rfl (Nat.le_of_ble_eq_true rfl) dX10_euclid_141 ⟨(czz hX hq.1), (szz hX hq.1)⟩ (fun H locs h => ?_)
  have hC64 : Cl π r61 := q63
  refine z_aload_n C dX10_euclid_144 rfl (lv_at hl 0 rfl) ?_
  refine cg_11_0 C h (sh_50 hS) cU_X10 (List.mem_cons_of_mem _ wl_X10_28) dX10_euclid_145 ?_
  refine lv_dup C.1 C.2.1 dX10_euclid_148 (rfv_cat _ _) ?_
  refine cg_9_4 C h (sh_1 hS) cU_X8 (List.mem_cons_of_mem _ wl_X10_135) dX10_euclid_149 ?_
  refine lv_iconst (v := Int32.ofInt 1) C.1 C.2.1 dX10_euclid_152 (by decide) ?_
  refine z_isub C dX10_euclid_153 ?_
  refine cp_9_4 C h (sh_1 hS) cU_X8 (List.mem_cons_of_mem _ wl_X10_135) dX10_euclid_154 (fun H locs h => ?_)
  refine z_aload_n C dX10_euclid_157 rfl (lv_at hl 0 rfl) ?_
  refine cg_11_0 C h (sh_50 hS) cU_X10 (List.mem_cons_of_mem _ wl_X10_28) dX10_euclid_158 ?_
  refine cg_9_2 C h (sh_1 hS) cU_X8 (List.mem_cons_of_mem _ wl_X10_57) dX10_euclid_161 ?_
  refine x_topi (y := Int32.ofInt (fl r61 182 1)) rfl ?_
  obtain ⟨g65, hm⟩ := grd_s hm
  refine z_if_ne (tgt := 182) C dX10_euclid_164 (by decide) g65 (fun c66 => ?_) (fun c66 => ?_)
  · have hm := ite_f c66 hm
    refine lv_iconst (v := Int32.ofInt 0) C.1 C.2.1 dX10_euclid_182 (by decide) ?_
    cases hm
    exact c_iretA C hG h hr hlk dX10_euclid_183 rfl
  · have hm := ite_t c66 hm
    refine z_aload_n C dX10_euclid_167 rfl (lv_at hl 0 rfl) ?_
    refine cg_11_1 C h (sh_50 hS) cU_X10 (List.mem_cons_of_mem _ wl_X10_9) dX10_euclid_168 ?_
    refine x_topv (b := rfv g (fl r61 221 50)) rfl ?_
    refine z_aload_n C dX10_euclid_171 rfl (lv_at hl 2 rfl) ?_
    refine lv_iload_n C.1 C.2.1 dX10_euclid_172 rfl (lv_at hl 1 rfl) ?_
    obtain ⟨σ67, e68, hm⟩ := bnd_s hm
    rw [e68] at h
    have hC69 : Cl π σ67 := e68 ▸ (cl_sfI hC64 (f := 184) rfl _ _)
    obtain ⟨r70, e71, hm⟩ := obd_s hm
    have q72 := (km_Sp_give hC69 hv_x2 e71)
    obtain ⟨g73, hm⟩ := grd_s hm
    have q := km_Tx_euclid_176   q72.2.1 q72.2.2 (lt_ext (cl_fl hC64 (f := 221) rfl 50) q72.1) hm
    refine c_callVqA C hE h g73 rfl (by decide) (kc_Sp_give l D k z mi aK aV g N hC69 hv_x2 e71) (cwV 1 C.2.2.1 (gS_X10_127 _) rfl rfl rfl hd_X9_give ⟨Nat.le_of_ble_eq_true rfl, Nat.le_of_ble_eq_true rfl⟩) rfl hl.1 rfl (by simp [rfv_cat, cat_i, cat_l]) dX10_euclid_173 ⟨rcC hX q72.1 q.1, rsC hX q72.1 q.1⟩ (fun u H locs hg h => ?_)
    simp only [← gx_rfv hg (sh_50 hS).2.1, ← gx_rfv hg hv_x2, ← gx_rfv hg (cl_fl hC64 (f := 221) rfl 50)] at hl
    try simp only [← gx_rfv hg (sh_50 hS).2.1, ← gx_rfv hg hv_x2, ← gx_rfv hg (cl_fl hC64 (f := 221) rfl 50)]
    refine W_cast (wcC hX q72.1).symm (wsC hX q72.1).symm ?_
    exact kl_Tx_euclid_176 (N := N) C hr hlk hE   q72.2.1 (hG.tr hg hX.1) (hX.tr q72.1) q72.2.2 (lt_ext (cl_fl hC64 (f := 221) rfl 50) q72.1) (lv_sub hl [] rfl) h hm
set_option maxHeartbeats 8000000 in
set_option maxRecDepth 100000 in
theorem kl_Tx_euclid_94 {r : Sh × St × Int} (C : Cx p s m args c cX10_euclid RX10 (cd :: cWd) D (TYs k) 4) (hr : meth.sig.returnType = (some .int)) (hlk : meth.locks = false) (hE : Ev z mi aK aV A s s.heap)    {ls : Array Slot} {H : Heap} {locs : List Loc} {g : Nat → Nat} {π : Sh} {σ : St} {x1 : Int} {x2 : Int} (hC : Cl π σ) (hG : gx (nn π0) g0 g) (hX : ext π0 π) (hv_x2 : x2 < nn π) (hl : lv_has ls 4 [(0, rfv g 50), (1, .int (Int32.ofInt x1)), (2, rfv g x2)]) (h : Hp D A s.heap H locs (cW k z g π σ)) (hm : Tx_euclid_94 N π σ x1 x2 = some r) : W p l e { frames := 8, cells := nn r.1 - nn π0, slots := sw r.1 - sw π0, locals := 262 } s m args below meth c H locs (nn π - nn π0) (sw π - sw π0) (MQ below (va_Qi (fun v u => gx (nn π0) g0 u ∧ v = Int32.ofInt r.2.2) (fun u t => PostW D (TYs k) A (cW k z u r.1 r.2.1) t) A) args s (nn r.1 - nn π0) (sw r.1 - sw π0) A) (F0 m 94 ls []) := by
  have hS := hC.1
  have hq := km_Tx_euclid_94    hC hv_x2 hm
  rw [Tx_euclid_94] at hm
  refine z_aload_n C dX10_euclid_94 rfl (lv_at hl 0 rfl) ?_
  obtain ⟨r41, e42, hm⟩ := obd_s hm
  have q43 := (km_Tx_skipBlanks hC e42)
  refine c_callVvP C hE h (sh_50 hS) rfl (by decide) (kc_Tx_skipBlanks l D k z mi aK aV g N hS e42) (cwV 0 C.2.2.1 (gS_X10_42 _) rfl rfl rfl hd_X10_skipBlanks ⟨Nat.le_of_ble_eq_true rfl, Nat.le_of_ble_eq_true rfl⟩) rfl hl.1 rfl (Nat.le_of_ble_eq_true rfl) dX10_euclid_95 ⟨(czz hX hq.1), (szz hX hq.1)⟩ (fun H locs h => ?_)
  have hC44 : Cl π r41 := q43
  refine z_aload_n C dX10_euclid_98 rfl (lv_at hl 0 rfl) ?_
  refine cg_11_0 C h (sh_50 hS) cU_X10 (List.mem_cons_of_mem _ wl_X10_28) dX10_euclid_99 ?_
  refine cg_9_2 C h (sh_1 hS) cU_X8 (List.mem_cons_of_mem _ wl_X10_57) dX10_euclid_102 ?_
  obtain ⟨g45, hm⟩ := grd_s hm
  refine z_if_ne (tgt := 138) C dX10_euclid_105 (by decide) g45 (fun c46 => ?_) (fun c46 => ?_)
  · have hm := ite_f c46 hm
    exact kl_Tx_euclid_138 (N := N) C hr hlk hE hC44 hG hX hv_x2 (lv_sub hl [0, 1, 2] rfl) h hm
  · have hm := ite_t c46 hm
    refine z_aload_n C dX10_euclid_108 rfl (lv_at hl 0 rfl) ?_
    obtain ⟨r47, e48, hm⟩ := obd_s hm
    have q49 := (km_Tx_here hC44 e48)
    refine c_callViP C hE h (sh_50 hS) rfl (by decide) (kc_Tx_here l D k z mi aK aV g N hS e48) (cwV 0 C.2.2.1 (gS_X10_45 _) rfl rfl rfl hd_X10_here ⟨Nat.le_of_ble_eq_true rfl, Nat.le_of_ble_eq_true rfl⟩) rfl hl.1 rfl (Nat.le_of_ble_eq_true rfl) dX10_euclid_109 ⟨(czz hX hq.1), (szz hX hq.1)⟩ (fun H locs h => ?_)
    have hC50 : Cl π r47.1 := q49
    refine lv_bipush (v := Int32.ofInt 44) C.1 C.2.1 dX10_euclid_112 (by decide) ?_
    obtain ⟨g51, hm⟩ := grd_s hm
    refine z_icmp_ne (tgt := 138) C dX10_euclid_114 (by decide) g51 (by decide) (fun c52 => ?_) (fun c52 => ?_)
    · have hm := ite_f c52 hm
      exact kl_Tx_euclid_138 (N := N) C hr hlk hE hC50 hG hX hv_x2 (lv_sub hl [0, 1, 2] rfl) h hm
    · have hm := ite_t c52 hm
      refine z_aload_n C dX10_euclid_117 rfl (lv_at hl 0 rfl) ?_
      refine lv_dup C.1 C.2.1 dX10_euclid_118 (rfv_cat _ _) ?_
      refine cg_11_2 C h (sh_50 hS) cU_X10 (List.mem_cons_of_mem _ wl_X10_15) dX10_euclid_119 ?_
      refine lv_iconst (v := Int32.ofInt 1) C.1 C.2.1 dX10_euclid_122 (by decide) ?_
      refine z_iadd C dX10_euclid_123 ?_
      refine cp_11_2 C h (sh_50 hS) cU_X10 (List.mem_cons_of_mem _ wl_X10_15) dX10_euclid_124 (fun H locs h => ?_)
      refine z_aload_n C dX10_euclid_127 rfl (lv_at hl 2 rfl) ?_
      refine z_aload_n C dX10_euclid_128 rfl (lv_at hl 0 rfl) ?_
      refine lv_iconst (v := Int32.ofInt 0) C.1 C.2.1 dX10_euclid_129 (by decide) ?_
      refine lv_bipush (v := Int32.ofInt 31) C.1 C.2.1 dX10_euclid_130 (by decide) ?_
      obtain ⟨σ53, e54, hm⟩ := bnd_s hm
      rw [e54] at h
      have hC55 : Cl π σ53 := e54 ▸ (cl_sfI hC50 (f := 222) rfl _ _)
      obtain ⟨r56, e57, hm⟩ := obd_s hm
      have q58 := (km_Tx_number hC55 e57)
      refine c_callViP C hE h (sh_50 hS) rfl (by decide) (kc_Tx_number l D k z mi aK aV g N hS e57) (cwV 2 C.2.2.1 (gS_X10_87 _) rfl rfl rfl hd_X10_number ⟨Nat.le_of_ble_eq_true rfl, Nat.le_of_ble_eq_true rfl⟩) rfl hl.1 rfl (by simp [rfv_cat, cat_i, cat_l]) dX10_euclid_132 ⟨(czz hX hq.1), (szz hX hq.1)⟩ (fun H locs h => ?_)
      have hC59 : Cl π r56.1 := q58
      obtain ⟨g60, hm⟩ := grd_s hm
      refine cp_10_4 C h g60 cU_X9 (List.mem_cons_of_mem _ wl_X10_155) dX10_euclid_135 (fun H locs h => ?_)
      exact kl_Tx_euclid_138 (N := N) C hr hlk hE (cl_sfI hC59 (f := 204) rfl _ _) hG hX hv_x2 (lv_sub hl [0, 1, 2] rfl) h hm
set_option maxHeartbeats 8000000 in
set_option maxRecDepth 100000 in
theorem kl_Tx_euclid_13 {r : Sh × St × Int} (C : Cx p s m args c cX10_euclid RX10 (cd :: cWd) D (TYs k) 4) (hr : meth.sig.returnType = (some .int)) (hlk : meth.locks = false) (hE : Ev z mi aK aV A s s.heap)    {ls : Array Slot} {H : Heap} {locs : List Loc} {g : Nat → Nat} {π : Sh} {σ : St} {x1 : Int} {s0 : Int} (hC : Cl π σ) (hG : gx (nn π0) g0 g) (hX : ext π0 π) (hv_s0 : s0 < nn π) (hl : lv_has ls 4 [(0, rfv g 50), (1, .int (Int32.ofInt x1))]) (h : Hp D A s.heap H locs (cW k z g π σ)) (hm : Tx_euclid_13 N π σ x1 s0 = some r) : W p l e { frames := 8, cells := nn r.1 - nn π0, slots := sw r.1 - sw π0, locals := 262 } s m args below meth c H locs (nn π - nn π0) (sw π - sw π0) (MQ below (va_Qi (fun v u => gx (nn π0) g0 u ∧ v = Int32.ofInt r.2.2) (fun u t => PostW D (TYs k) A (cW k z u r.1 r.2.1) t) A) args s (nn r.1 - nn π0) (sw r.1 - sw π0) A) (F0 m 13 ls [rfv g s0]) := by
  have hS := hC.1
  have hq := km_Tx_euclid_13    hC hv_s0 hm
  rw [Tx_euclid_13] at hm
  refine z_astore_n (lv' := [(2, rfv g s0), (0, rfv g 50), (1, .int (Int32.ofInt x1))]) C dX10_euclid_13 rfl hl (by decide) rfl (fun ls hl => ?_)
  refine z_aload_n C dX10_euclid_14 rfl (lv_at hl 1 rfl) ?_
  refine cg_11_0 C h (sh_50 hS) cU_X10 (List.mem_cons_of_mem _ wl_X10_28) dX10_euclid_15 ?_
  refine z_aload_n C dX10_euclid_18 rfl (lv_at hl 1 rfl) ?_
  refine cg_11_2 C h (sh_50 hS) cU_X10 (List.mem_cons_of_mem _ wl_X10_15) dX10_euclid_19 ?_
  obtain ⟨r6, e7, hm⟩ := obd_s hm
  have q8 := (km_Sc_opens hC e7)
  refine c_callViP C hE h (sh_1 hS) rfl (by decide) (kc_Sc_opens l D k z mi aK aV g N hS e7) (cwV 1 C.2.2.1 (gS_X10_103 _) rfl rfl rfl hd_X8_opens ⟨Nat.le_of_ble_eq_true rfl, Nat.le_of_ble_eq_true rfl⟩) rfl hl.1 rfl (Nat.le_of_ble_eq_true rfl) dX10_euclid_22 ⟨(czz hX hq.1), (szz hX hq.1)⟩ (fun H locs h => ?_)
  have hC9 : Cl π r6.1 := q8
  obtain ⟨g10, hm⟩ := grd_s hm
  refine z_if_ne (tgt := 30) C dX10_euclid_25 (by decide) g10 (fun c11 => ?_) (fun c11 => ?_)
  · have hm := ite_f c11 hm
    refine z_aload_n C dX10_euclid_30 rfl (lv_at hl 1 rfl) ?_
    refine lv_dup C.1 C.2.1 dX10_euclid_31 (rfv_cat _ _) ?_
    refine cg_11_2 C h (sh_50 hS) cU_X10 (List.mem_cons_of_mem _ wl_X10_15) dX10_euclid_32 ?_
    refine lv_iconst (v := Int32.ofInt 1) C.1 C.2.1 dX10_euclid_35 (by decide) ?_
    refine z_iadd C dX10_euclid_36 ?_
    refine cp_11_2 C h (sh_50 hS) cU_X10 (List.mem_cons_of_mem _ wl_X10_15) dX10_euclid_37 (fun H locs h => ?_)
    refine z_aload_n C dX10_euclid_40 rfl (lv_at hl 0 rfl) ?_
    refine z_aload_n C dX10_euclid_41 rfl (lv_at hl 1 rfl) ?_
    refine lv_iconst (v := Int32.ofInt 0) C.1 C.2.1 dX10_euclid_42 (by decide) ?_
    refine lv_sipush (v := Int32.ofInt 9999) C.1 C.2.1 dX10_euclid_43 (by decide) ?_
    obtain ⟨σ12, e13, hm⟩ := bnd_s hm
    rw [e13] at h
    have hC14 : Cl π σ12 := e13 ▸ (cl_sfI hC9 (f := 222) rfl _ _)
    obtain ⟨r15, e16, hm⟩ := obd_s hm
    have q17 := (km_Tx_number hC14 e16)
    refine c_callViP C hE h (sh_50 hS) rfl (by decide) (kc_Tx_number l D k z mi aK aV g N hS e16) (cwV 2 C.2.2.1 (gS_X10_87 _) rfl rfl rfl hd_X10_number ⟨Nat.le_of_ble_eq_true rfl, Nat.le_of_ble_eq_true rfl⟩) rfl hl.1 rfl (by simp [rfv_cat, cat_i, cat_l]) dX10_euclid_46 ⟨(czz hX hq.1), (szz hX hq.1)⟩ (fun H locs h => ?_)
    have hC18 : Cl π r15.1 := q17
    obtain ⟨g19, hm⟩ := grd_s hm
    refine cp_10_2 C h g19 cU_X9 (List.mem_cons_of_mem _ wl_X10_152) dX10_euclid_49 (fun H locs h => ?_)
    refine z_aload_n C dX10_euclid_52 rfl (lv_at hl 1 rfl) ?_
    refine cg_11_5 C h (sh_50 hS) cU_X10 (List.mem_cons_of_mem _ wl_X10_25) dX10_euclid_53 ?_
    refine x_topi (y := Int32.ofInt (fl r15.1 225 50)) rfl ?_
    refine lv_istore_n (i := 3) (lv' := [(3, .int (Int32.ofInt (fl r15.1 225 50))), (2, rfv g s0), (0, rfv g 50), (1, .int (Int32.ofInt x1))]) C.1 C.2.1 dX10_euclid_56 rfl hl (by decide) (by simp [rfv_cat, cat_i, cat_l]) (fun ls hl => ?_)
    refine z_aload_n C dX10_euclid_57 rfl (lv_at hl 2 rfl) ?_
    refine lv_bipush (v := Int32.ofInt 44) C.1 C.2.1 dX10_euclid_58 (by decide) ?_
    obtain ⟨σ20, e21, hm⟩ := bnd_s hm
    rw [e21] at h
    have hC22 : Cl π σ20 := e21 ▸ (cl_sfI hC18 (f := 202) rfl _ _)
    obtain ⟨r23, e24, hm⟩ := obd_s hm
    have q25 := (km_Tx_take hC22 e24)
    refine c_callVvP C hE h (sh_50 hS) rfl (by decide) (kc_Tx_take l D k z mi aK aV g N hS e24) (cwV 1 C.2.2.1 (gS_X10_131 _) rfl rfl rfl hd_X10_take ⟨Nat.le_of_ble_eq_true rfl, Nat.le_of_ble_eq_true rfl⟩) rfl hl.1 rfl (Nat.le_of_ble_eq_true rfl) dX10_euclid_60 ⟨(czz hX hq.1), (szz hX hq.1)⟩ (fun H locs h => ?_)
    have hC26 : Cl π r23 := q25
    refine z_aload_n C dX10_euclid_63 rfl (lv_at hl 1 rfl) ?_
    refine z_aload_n C dX10_euclid_64 rfl (lv_at hl 2 rfl) ?_
    refine lv_iconst (v := Int32.ofInt 1) C.1 C.2.1 dX10_euclid_65 (by decide) ?_
    refine lv_bipush (v := Int32.ofInt 32) C.1 C.2.1 dX10_euclid_66 (by decide) ?_
    obtain ⟨r27, e28, hm⟩ := obd_s hm
    have q29 := (km_Tx_number hC26 e28)
    refine c_callViP C hE h (sh_50 hS) rfl (by decide) (kc_Tx_number l D k z mi aK aV g N hS e28) (cwV 2 C.2.2.1 (gS_X10_87 _) rfl rfl rfl hd_X10_number ⟨Nat.le_of_ble_eq_true rfl, Nat.le_of_ble_eq_true rfl⟩) rfl hl.1 rfl (by simp [rfv_cat, cat_i, cat_l]) dX10_euclid_68 ⟨(czz hX hq.1), (szz hX hq.1)⟩ (fun H locs h => ?_)
    have hC30 : Cl π r27.1 := q29
    refine cp_10_3 C h g19 cU_X9 (List.mem_cons_of_mem _ wl_X10_145) dX10_euclid_71 (fun H locs h => ?_)
    refine z_aload_n C dX10_euclid_74 rfl (lv_at hl 1 rfl) ?_
    refine cg_10_2 C h g19 cU_X9 (List.mem_cons_of_mem _ wl_X10_152) dX10_euclid_75 ?_
    refine x_topi (y := Int32.ofInt (fl r27.1 202 s0)) rfl ?_
    refine z_aload_n C dX10_euclid_78 rfl (lv_at hl 1 rfl) ?_
    refine cg_10_3 C h g19 cU_X9 (List.mem_cons_of_mem _ wl_X10_145) dX10_euclid_79 ?_
    refine x_topi (y := Int32.ofInt r27.2) (by simp [fl, sf, se]) ?_
    obtain ⟨g31, hm⟩ := grd_s hm
    obtain ⟨g32, hm⟩ := grd_s hm
    refine z_icmp_le (tgt := 94) C dX10_euclid_82 (by decide) g31 g32 (fun c33 => ?_) (fun c33 => ?_)
    · have hm := ite_f c33 hm
      exact kl_Tx_euclid_94 (N := N) C hr hlk hE (cl_sfI hC30 (f := 203) rfl _ _) hG hX hv_s0 (lv_sub hl [2, 3, 1] rfl) h hm
    · have hm := ite_t c33 hm
      refine z_aload_n C dX10_euclid_85 rfl (lv_at hl 2 rfl) ?_
      refine cg_11_0 C h (sh_50 hS) cU_X10 (List.mem_cons_of_mem _ wl_X10_28) dX10_euclid_86 ?_
      refine lv_iconst (v := Int32.ofInt 3) C.1 C.2.1 dX10_euclid_89 (by decide) ?_
      refine lv_iload_n C.1 C.2.1 dX10_euclid_90 rfl (lv_at hl 0 rfl) ?_
      obtain ⟨σ34, e35, hm⟩ := bnd_s hm
      rw [e35] at h
      have hC36 : Cl π σ34 := e35 ▸ (cl_sfI hC30 (f := 203) rfl _ _)
      obtain ⟨r37, e38, hm⟩ := obd_s hm
      have q39 := (km_Sc_fail hC36 e38)
      refine c_callVvP C hE h (sh_1 hS) rfl (by decide) (kc_Sc_fail l D k z mi aK aV g N hS e38) (cwV 2 C.2.2.1 (gS_X10_32 _) rfl rfl rfl hd_X8_fail ⟨Nat.le_of_ble_eq_true rfl, Nat.le_of_ble_eq_true rfl⟩) rfl hl.1 rfl (Nat.le_of_ble_eq_true rfl) dX10_euclid_91 ⟨(czz hX hq.1), (szz hX hq.1)⟩ (fun H locs h => ?_)
      have hC40 : Cl π r37 := q39
      exact kl_Tx_euclid_94 (N := N) C hr hlk hE hC40 hG hX hv_s0 (lv_sub hl [2, 3, 1] rfl) h hm
  · have hm := ite_t c11 hm
    refine lv_iconst (v := Int32.ofInt 0) C.1 C.2.1 dX10_euclid_28 (by decide) ?_
    cases hm
    exact c_iretA C hG h hr hlk dX10_euclid_29 rfl
set_option maxHeartbeats 8000000 in
set_option maxRecDepth 100000 in
theorem kl_Tx_euclid_3 {r : Sh × St × Int} (C : Cx p s m args c cX10_euclid RX10 (cd :: cWd) D (TYs k) 4) (hr : meth.sig.returnType = (some .int)) (hlk : meth.locks = false) (hE : Ev z mi aK aV A s s.heap)    {ls : Array Slot} {H : Heap} {locs : List Loc} {g : Nat → Nat} {π : Sh} {σ : St} {x1 : Int} {s0 : Int} (hC : Cl π σ) (hG : gx (nn π0) g0 g) (hX : ext π0 π) (hv_s0 : s0 < nn π) (hl : lv_has ls 4 [(0, rfv g 50), (1, .int (Int32.ofInt x1))]) (h : Hp D A s.heap H locs (cW k z g π σ)) (hm : Tx_euclid_3 N π σ x1 s0 = some r) : W p l e { frames := 8, cells := nn r.1 - nn π0, slots := sw r.1 - sw π0, locals := 262 } s m args below meth c H locs (nn π - nn π0) (sw π - sw π0) (MQ below (va_Qi (fun v u => gx (nn π0) g0 u ∧ v = Int32.ofInt r.2.2) (fun u t => PostW D (TYs k) A (cW k z u r.1 r.2.1) t) A) args s (nn r.1 - nn π0) (sw r.1 - sw π0) A) (F0 m 3 ls [rfv g s0]) := by
  have hS := hC.1
  have hq := km_Tx_euclid_3    hC hv_s0 hm
  rw [Tx_euclid_3] at hm
  refine lv_dup C.1 C.2.1 dX10_euclid_3 (rfv_cat _ _) ?_
  refine lv_bipush (v := Int32.ofInt 7) C.1 C.2.1 dX10_euclid_4 (by decide) ?_
  refine z_aload_n C dX10_euclid_6 rfl (lv_at hl 0 rfl) ?_
  refine cg_11_2 C h (sh_50 hS) cU_X10 (List.mem_cons_of_mem _ wl_X10_15) dX10_euclid_7 ?_
  obtain ⟨r2, e3, hm⟩ := obd_s hm
  have q4 := (km_Sp_init hC hv_s0 e3)
  obtain ⟨g5, hm⟩ := grd_s hm
  have q := km_Tx_euclid_13   q4.2 (lt_ext hv_s0 q4.1) hm
  refine c_callIvA C hE h g5 (kc_Sp_init l D k z mi aK aV g N hC hv_s0 e3) (cwI 2 C.2.2.1 (gC_X9_init _) rfl rfl rfl (C.2.2.1 _ (List.mem_cons_of_mem _ wt_X9)) (C.2.2.1 _ (List.mem_cons_of_mem _ wm_X10_51)) (C.2.2.1 _ (List.mem_cons_of_mem _ wj_X9_init)) rfl hdS_X9_init ⟨Nat.le_of_ble_eq_true rfl, Nat.le_of_ble_eq_true rfl⟩) rfl hl.1 rfl (by simp [rfv_cat, cat_i, cat_l]) dX10_euclid_10 ⟨rcC hX q4.1 q.1, rsC hX q4.1 q.1⟩ (fun u H locs hg h => ?_)
  simp only [← gx_rfv hg (sh_50 hS).2.1, ← gx_rfv hg hv_s0] at hl
  try simp only [← gx_rfv hg (sh_50 hS).2.1, ← gx_rfv hg hv_s0]
  refine W_cast (wcC hX q4.1).symm (wsC hX q4.1).symm ?_
  exact kl_Tx_euclid_13 (N := N) C hr hlk hE   q4.2 (hG.tr hg hX.1) (hX.tr q4.1) (lt_ext hv_s0 q4.1) (lv_sub hl [0, 1] rfl) h hm
set_option maxHeartbeats 8000000 in
set_option maxRecDepth 100000 in
theorem kc_Tx_euclid (l : Launch) (D : va_G) (k : Nat → ClassId) (z mi : Nat) (aK aV : Nat → Nat) (g : Nat → Nat) (N : Nat)    {π : Sh} {σ : St} {x1 : Int} {r : Sh × St × Int} (hC : Cl π σ)  (hm : Tx_euclid N π σ x1 = some r) : Mi l yX10_euclid (.code yX10_euclid cX10_euclid 4 (some .int) :: cWd) { frames := 8, cells := nn r.1 - nn π, slots := sw r.1 - sw π, locals := 262 } [rfv g 50, .int (Int32.ofInt x1)] D (TYs k) (cW k z g π σ) (XV z mi aK aV (cW k z g π σ)) (Nat → Nat) (fun v u => gx (nn π) g u ∧ v = Int32.ofInt r.2.2) (fun u => cW k z u r.1 r.2.1) (nn r.1 - nn π) (sw r.1 - sw π) := by
  have hS := hC.1
  have hq := km_Tx_euclid  hC  hm
  intro sz
  refine v_met (cc := cX10_euclid) (maxL := 4) (ret := (some .int)) (lv := [(0, rfv g 50), (1, .int (Int32.ofInt x1))]) (by decide) rfl (by simp [lg_sl, rfv_cat, cat_i, cat_l]) (by simp [lv_args, rfv_cat, cat_i, cat_l]) ?_
  intro p e s m below meth c ls C hE hr hlk hmn hl h
  generalize ([rfv g 50, .int (Int32.ofInt x1)] : List Value).toArray = args at C ⊢
  have hG := gx.rf (nn π) g
  have hX := ext.rf π
  refine W_cast (Nat.sub_self (nn π)) (Nat.sub_self (sw π)) ?_
  rw [Tx_euclid] at hm
  have q := km_Tx_euclid_3   ((cl_nO hC (by decide) (by decide) _)) lt_nO hm
  refine c_new C h hC (by decide) dX10_euclid_0 rfl cU_X9 tyX9_ok (List.mem_cons_of_mem _ wn_X10_49) (List.mem_cons_of_mem _ wi_X9) (List.mem_cons_of_mem _ wt_X9) (df_X9) (dn_X9 z) (rc1 hX q.1) (rs1 hX q.1) (fun u H hg h => ?_)
  simp only [← gx_rfv hg (sh_50 hS).2.1] at hl
  try simp only [← gx_rfv hg (sh_50 hS).2.1]
  refine W_cast (wcO (c := 10) (w := 14) hX).symm (wsO (c := 10) (w := 14) hX).symm ?_
  exact kl_Tx_euclid_3 (N := N) C hr hlk hE   ((cl_nO hC (by decide) (by decide) _)) (hG.tr hg hX.1) (hX.tr (ext_nO π 10 14)) lt_nO (lv_sub hl [0, 1] rfl) h hm
end Z_Tx_euclid
