section Z_Tx_mods
variable {p : Program} {l : Launch} {e : Env} {s : State} {m : MethodId} {args : Array Value} {below : List Frame} {meth : Method} {c : Code} {D : va_G} {A : Nat → Prop} {k : Nat → ClassId} {N : Nat} {cd : Cond} {z mi : Nat} {aK aV : Nat → Nat} {g0 : Nat → Nat} {π0 : Sh}
set_option maxHeartbeats 8000000 in
set_option maxRecDepth 100000 in
theorem kl_Tx_mods_203 {r : Sh × St × Int} (C : Cx p s m args c cX10_mods RX10 (cd :: cWd) D (TYs k) 7) (hr : meth.sig.returnType = (some .int)) (hlk : meth.locks = false) (hE : Ev z mi aK aV A s s.heap)   {rec4 : Sh → St → Int → Int → Option (Sh × St × Int)} (krec4 : ∀ {π : Sh} {σ : St} {x2 : Int} {x3 : Int}, Cl π σ → rec4 π σ x2 x3 = some r → ext π r.1 ∧ Cl r.1 r.2.1) (hrec4 : ∀ {ls : Array Slot} {H : Heap} {locs : List Loc} {g : Nat → Nat} {π : Sh} {σ : St} {x2 : Int} {x3 : Int}, Cl π σ → gx (nn π0) g0 g → ext π0 π → lv_has ls 7 [(0, rfv g 50), (2, .int (Int32.ofInt x2)), (3, .int (Int32.ofInt x3))] → Hp D A s.heap H locs (cW k z g π σ) → rec4 π σ x2 x3 = some r → W p l e { frames := 9, cells := nn r.1 - nn π0, slots := sw r.1 - sw π0, locals := 285 } s m args below meth c H locs (nn π - nn π0) (sw π - sw π0) (MQ below (va_Qi (fun v u => gx (nn π0) g0 u ∧ v = Int32.ofInt r.2.2) (fun u t => PostW D (TYs k) A (cW k z u r.1 r.2.1) t) A) args s (nn r.1 - nn π0) (sw r.1 - sw π0) A) (F0 m 4 ls [])) {ls : Array Slot} {H : Heap} {locs : List Loc} {g : Nat → Nat} {π : Sh} {σ : St} {x2 : Int} {x3 : Int} (hC : Cl π σ) (hG : gx (nn π0) g0 g) (hX : ext π0 π)  (hl : lv_has ls 7 [(0, rfv g 50), (2, .int (Int32.ofInt x2)), (3, .int (Int32.ofInt x3))]) (h : Hp D A s.heap H locs (cW k z g π σ)) (hm : Tx_mods_203 N rec4 π σ x2 x3 = some r) : W p l e { frames := 9, cells := nn r.1 - nn π0, slots := sw r.1 - sw π0, locals := 285 } s m args below meth c H locs (nn π - nn π0) (sw π - sw π0) (MQ below (va_Qi (fun v u => gx (nn π0) g0 u ∧ v = Int32.ofInt r.2.2) (fun u t => PostW D (TYs k) A (cW k z u r.1 r.2.1) t) A) args s (nn r.1 - nn π0) (sw r.1 - sw π0) A) (F0 m 203 ls []) := by
  have hS := hC.1
  have hq := km_Tx_mods_203  krec4  hC  hm
  rw [Tx_mods_203] at hm
  refine lv_iinc (v := Int32.ofInt (x3 + 1)) (lv' := [(3, .int (Int32.ofInt (x3 + 1))), (0, rfv g 50), (2, .int (Int32.ofInt x2))]) C.1 C.2.1 dX10_mods_203 hl (k := 2) rfl (c32_add _ _) (by decide) rfl (fun ls hl => ?_)
  refine lv_goto (tgt := 4) C.1 C.2.1 dX10_mods_206 (by decide) ?_
  exact hrec4 hC hG hX (lv_sub hl [1, 2, 0] rfl) h hm
set_option maxHeartbeats 8000000 in
set_option maxRecDepth 100000 in
theorem kl_Tx_mods_118 {r : Sh × St × Int} (C : Cx p s m args c cX10_mods RX10 (cd :: cWd) D (TYs k) 7) (hr : meth.sig.returnType = (some .int)) (hlk : meth.locks = false) (hE : Ev z mi aK aV A s s.heap)   {rec4 : Sh → St → Int → Int → Option (Sh × St × Int)} (krec4 : ∀ {π : Sh} {σ : St} {x2 : Int} {x3 : Int}, Cl π σ → rec4 π σ x2 x3 = some r → ext π r.1 ∧ Cl r.1 r.2.1) (hrec4 : ∀ {ls : Array Slot} {H : Heap} {locs : List Loc} {g : Nat → Nat} {π : Sh} {σ : St} {x2 : Int} {x3 : Int}, Cl π σ → gx (nn π0) g0 g → ext π0 π → lv_has ls 7 [(0, rfv g 50), (2, .int (Int32.ofInt x2)), (3, .int (Int32.ofInt x3))] → Hp D A s.heap H locs (cW k z g π σ) → rec4 π σ x2 x3 = some r → W p l e { frames := 9, cells := nn r.1 - nn π0, slots := sw r.1 - sw π0, locals := 285 } s m args below meth c H locs (nn π - nn π0) (sw π - sw π0) (MQ below (va_Qi (fun v u => gx (nn π0) g0 u ∧ v = Int32.ofInt r.2.2) (fun u t => PostW D (TYs k) A (cW k z u r.1 r.2.1) t) A) args s (nn r.1 - nn π0) (sw r.1 - sw π0) A) (F0 m 4 ls [])) {ls : Array Slot} {H : Heap} {locs : List Loc} {g : Nat → Nat} {π : Sh} {σ : St} {x3 : Int} {s0 : Int} (hC : Cl π σ) (hG : gx (nn π0) g0 g) (hX : ext π0 π)  (hl : lv_has ls 7 [(0, rfv g 50), (3, .int (Int32.ofInt x3))]) (h : Hp D A s.heap H locs (cW k z g π σ)) (hm : Tx_mods_118 N rec4 π σ x3 s0 = some r) : W p l e { frames := 9, cells := nn r.1 - nn π0, slots := sw r.1 - sw π0, locals := 285 } s m args below meth c H locs (nn π - nn π0) (sw π - sw π0) (MQ below (va_Qi (fun v u => gx (nn π0) g0 u ∧ v = Int32.ofInt r.2.2) (fun u t => PostW D (TYs k) A (cW k z u r.1 r.2.1) t) A) args s (nn r.1 - nn π0) (sw r.1 - sw π0) A) (F0 m 118 ls [.int (Int32.ofInt s0)]) := by
  have hS := hC.1
  have hq := km_Tx_mods_118  krec4  hC  hm
  rw [Tx_mods_118] at hm
  refine lv_istore_n (lv' := [(2, .int (Int32.ofInt s0)), (0, rfv g 50), (3, .int (Int32.ofInt x3))]) C.1 C.2.1 dX10_mods_118 rfl hl (by decide) rfl (fun ls hl => ?_)
  refine lv_goto (tgt := 203) C.1 C.2.1 dX10_mods_119 (by decide) ?_
  exact kl_Tx_mods_203 (N := N) C hr hlk hE krec4 hrec4 hC hG hX (lv_sub hl [1, 0, 2] rfl) h hm
set_option maxHeartbeats 8000000 in
set_option maxRecDepth 100000 in
theorem kl_Tx_mods_115 {r : Sh × St × Int} (C : Cx p s m args c cX10_mods RX10 (cd :: cWd) D (TYs k) 7) (hr : meth.sig.returnType = (some .int)) (hlk : meth.locks = false) (hE : Ev z mi aK aV A s s.heap)   {rec4 : Sh → St → Int → Int → Option (Sh × St × Int)} (krec4 : ∀ {π : Sh} {σ : St} {x2 : Int} {x3 : Int}, Cl π σ → rec4 π σ x2 x3 = some r → ext π r.1 ∧ Cl r.1 r.2.1) (hrec4 : ∀ {ls : Array Slot} {H : Heap} {locs : List Loc} {g : Nat → Nat} {π : Sh} {σ : St} {x2 : Int} {x3 : Int}, Cl π σ → gx (nn π0) g0 g → ext π0 π → lv_has ls 7 [(0, rfv g 50), (2, .int (Int32.ofInt x2)), (3, .int (Int32.ofInt x3))] → Hp D A s.heap H locs (cW k z g π σ) → rec4 π σ x2 x3 = some r → W p l e { frames := 9, cells := nn r.1 - nn π0, slots := sw r.1 - sw π0, locals := 285 } s m args below meth c H locs (nn π - nn π0) (sw π - sw π0) (MQ below (va_Qi (fun v u => gx (nn π0) g0 u ∧ v = Int32.ofInt r.2.2) (fun u t => PostW D (TYs k) A (cW k z u r.1 r.2.1) t) A) args s (nn r.1 - nn π0) (sw r.1 - sw π0) A) (F0 m 4 ls [])) {ls : Array Slot} {H : Heap} {locs : List Loc} {g : Nat → Nat} {π : Sh} {σ : St} {x3 : Int} {s0 : Int} {s1 : Int} (hC : Cl π σ) (hG : gx (nn π0) g0 g) (hX : ext π0 π) (hv_s0 : s0 < nn π) (hv_s1 : s1 < nn π) (hl : lv_has ls 7 [(0, rfv g 50), (3, .int (Int32.ofInt x3))]) (h : Hp D A s.heap H locs (cW k z g π σ)) (hm : Tx_mods_115 N rec4 π σ x3 s0 s1 = some r) : W p l e { frames := 9, cells := nn r.1 - nn π0, slots := sw r.1 - sw π0, locals := 285 } s m args below meth c H locs (nn π - nn π0) (sw π - sw π0) (MQ below (va_Qi (fun v u => gx (nn π0) g0 u ∧ v = Int32.ofInt r.2.2) (fun u t => PostW D (TYs k) A (cW k z u r.1 r.2.1) t) A) args s (nn r.1 - nn π0) (sw r.1 - sw π0) A) (F0 m 115 ls [rfv g s0, rfv g s1]) := by
  have hS := hC.1
  have hq := km_Tx_mods_115  krec4  hC hv_s0 hv_s1 hm
  rw [Tx_mods_115] at hm
  obtain ⟨r57, e58, hm⟩ := obd_s hm
  have q59 := (km_Df_add hC hv_s1 hv_s0 e58)
  obtain ⟨g60, hm⟩ := grd_s hm
  have q := km_Tx_mods_118  krec4 q59.2  hm
  refine c_callViA C hE h g60 rfl (by decide) (kc_Df_add l D k z mi aK aV g N hC hv_s1 hv_s0 e58) (cwV 1 C.2.2.1 (gS_X10_60 _) rfl rfl rfl hd_X0_add ⟨Nat.le_of_ble_eq_true rfl, Nat.le_of_ble_eq_true rfl⟩) rfl hl.1 rfl (Nat.le_of_ble_eq_true rfl) dX10_mods_115 ⟨rcC hX q59.1 q.1, rsC hX q59.1 q.1⟩ (fun u H locs hg h => ?_)
  simp only [← gx_rfv hg (sh_50 hS).2.1] at hl
  try simp only [← gx_rfv hg (sh_50 hS).2.1]
  refine W_cast (wcC hX q59.1).symm (wsC hX q59.1).symm ?_
  exact kl_Tx_mods_118 (N := N) C hr hlk hE  krec4 hrec4 q59.2 (hG.tr hg hX.1) (hX.tr q59.1)  (lv_sub hl [0, 1] rfl) h hm
set_option maxHeartbeats 8000000 in
set_option maxRecDepth 100000 in
theorem kl_Tx_mods_111 {r : Sh × St × Int} (C : Cx p s m args c cX10_mods RX10 (cd :: cWd) D (TYs k) 7) (hr : meth.sig.returnType = (some .int)) (hlk : meth.locks = false) (hE : Ev z mi aK aV A s s.heap)   {rec4 : Sh → St → Int → Int → Option (Sh × St × Int)} (krec4 : ∀ {π : Sh} {σ : St} {x2 : Int} {x3 : Int}, Cl π σ → rec4 π σ x2 x3 = some r → ext π r.1 ∧ Cl r.1 r.2.1) (hrec4 : ∀ {ls : Array Slot} {H : Heap} {locs : List Loc} {g : Nat → Nat} {π : Sh} {σ : St} {x2 : Int} {x3 : Int}, Cl π σ → gx (nn π0) g0 g → ext π0 π → lv_has ls 7 [(0, rfv g 50), (2, .int (Int32.ofInt x2)), (3, .int (Int32.ofInt x3))] → Hp D A s.heap H locs (cW k z g π σ) → rec4 π σ x2 x3 = some r → W p l e { frames := 9, cells := nn r.1 - nn π0, slots := sw r.1 - sw π0, locals := 285 } s m args below meth c H locs (nn π - nn π0) (sw π - sw π0) (MQ below (va_Qi (fun v u => gx (nn π0) g0 u ∧ v = Int32.ofInt r.2.2) (fun u t => PostW D (TYs k) A (cW k z u r.1 r.2.1) t) A) args s (nn r.1 - nn π0) (sw r.1 - sw π0) A) (F0 m 4 ls [])) {ls : Array Slot} {H : Heap} {locs : List Loc} {g : Nat → Nat} {π : Sh} {σ : St} {x2 : Int} {x3 : Int} {s0 : Int} {s1 : Int} (hC : Cl π σ) (hG : gx (nn π0) g0 g) (hX : ext π0 π) (hv_s0 : s0 < nn π) (hv_s1 : s1 < nn π) (hl : lv_has ls 7 [(0, rfv g 50), (2, .int (Int32.ofInt x2)), (3, .int (Int32.ofInt x3))]) (h : Hp D A s.heap H locs (cW k z g π σ)) (hm : Tx_mods_111 N rec4 π σ x2 x3 s0 s1 = some r) : W p l e { frames := 9, cells := nn r.1 - nn π0, slots := sw r.1 - sw π0, locals := 285 } s m args below meth c H locs (nn π - nn π0) (sw π - sw π0) (MQ below (va_Qi (fun v u => gx (nn π0) g0 u ∧ v = Int32.ofInt r.2.2) (fun u t => PostW D (TYs k) A (cW k z u r.1 r.2.1) t) A) args s (nn r.1 - nn π0) (sw r.1 - sw π0) A) (F0 m 111 ls [rfv g s0, rfv g s1]) := by
  have hS := hC.1
  have hq := km_Tx_mods_111  krec4  hC hv_s0 hv_s1 hm
  rw [Tx_mods_111] at hm
  refine lv_iload_n C.1 C.2.1 dX10_mods_111 rfl (lv_at hl 1 rfl) ?_
  obtain ⟨r53, e54, hm⟩ := obd_s hm
  have q55 := (km_Sp_give hC hv_s0 e54)
  obtain ⟨g56, hm⟩ := grd_s hm
  have q := km_Tx_mods_115  krec4 q55.2.1 q55.2.2 (lt_ext hv_s1 q55.1) hm
  refine c_callVqA C hE h g56 rfl (by decide) (kc_Sp_give l D k z mi aK aV g N hC hv_s0 e54) (cwV 1 C.2.2.1 (gS_X10_127 _) rfl rfl rfl hd_X9_give ⟨Nat.le_of_ble_eq_true rfl, Nat.le_of_ble_eq_true rfl⟩) rfl hl.1 rfl (by simp [rfv_cat, cat_i, cat_l]) dX10_mods_112 ⟨rcC hX q55.1 q.1, rsC hX q55.1 q.1⟩ (fun u H locs hg h => ?_)
  simp only [← gx_rfv hg (sh_50 hS).2.1, ← gx_rfv hg hv_s1] at hl
  try simp only [← gx_rfv hg (sh_50 hS).2.1, ← gx_rfv hg hv_s1]
  refine W_cast (wcC hX q55.1).symm (wsC hX q55.1).symm ?_
  exact kl_Tx_mods_115 (N := N) C hr hlk hE  krec4 hrec4 q55.2.1 (hG.tr hg hX.1) (hX.tr q55.1) q55.2.2 (lt_ext hv_s1 q55.1) (lv_sub hl [0, 2] rfl) h hm
set_option maxHeartbeats 8000000 in
set_option maxRecDepth 100000 in
theorem kl_Tx_mods_108 {r : Sh × St × Int} (C : Cx p s m args c cX10_mods RX10 (cd :: cWd) D (TYs k) 7) (hr : meth.sig.returnType = (some .int)) (hlk : meth.locks = false) (hE : Ev z mi aK aV A s s.heap)   {rec4 : Sh → St → Int → Int → Option (Sh × St × Int)} (krec4 : ∀ {π : Sh} {σ : St} {x2 : Int} {x3 : Int}, Cl π σ → rec4 π σ x2 x3 = some r → ext π r.1 ∧ Cl r.1 r.2.1) (hrec4 : ∀ {ls : Array Slot} {H : Heap} {locs : List Loc} {g : Nat → Nat} {π : Sh} {σ : St} {x2 : Int} {x3 : Int}, Cl π σ → gx (nn π0) g0 g → ext π0 π → lv_has ls 7 [(0, rfv g 50), (2, .int (Int32.ofInt x2)), (3, .int (Int32.ofInt x3))] → Hp D A s.heap H locs (cW k z g π σ) → rec4 π σ x2 x3 = some r → W p l e { frames := 9, cells := nn r.1 - nn π0, slots := sw r.1 - sw π0, locals := 285 } s m args below meth c H locs (nn π - nn π0) (sw π - sw π0) (MQ below (va_Qi (fun v u => gx (nn π0) g0 u ∧ v = Int32.ofInt r.2.2) (fun u t => PostW D (TYs k) A (cW k z u r.1 r.2.1) t) A) args s (nn r.1 - nn π0) (sw r.1 - sw π0) A) (F0 m 4 ls [])) {ls : Array Slot} {H : Heap} {locs : List Loc} {g : Nat → Nat} {π : Sh} {σ : St} {x2 : Int} {x3 : Int} {s0 : Int} {s1 : Int} {s2 : Int} {s3 : Int} {s4 : Int} {s5 : Int} {s6 : Int} (hC : Cl π σ) (hG : gx (nn π0) g0 g) (hX : ext π0 π) (hv_s4 : s4 < nn π) (hv_s5 : s5 < nn π) (hv_s6 : s6 < nn π) (hl : lv_has ls 7 [(0, rfv g 50), (2, .int (Int32.ofInt x2)), (3, .int (Int32.ofInt x3))]) (h : Hp D A s.heap H locs (cW k z g π σ)) (hm : Tx_mods_108 N rec4 π σ x2 x3 s0 s1 s2 s3 s4 s5 s6 = some r) : W p l e { frames := 9, cells := nn r.1 - nn π0, slots := sw r.1 - sw π0, locals := 285 } s m args below meth c H locs (nn π - nn π0) (sw π - sw π0) (MQ below (va_Qi (fun v u => gx (nn π0) g0 u ∧ v = Int32.ofInt r.2.2) (fun u t => PostW D (TYs k) A (cW k z u r.1 r.2.1) t) A) args s (nn r.1 - nn π0) (sw r.1 - sw π0) A) (F0 m 108 ls [.int (Int32.ofInt s0), .int (Int32.ofInt s1), .int (Int32.ofInt s2), .int (Int32.ofInt s3), rfv g s4, rfv g s5, rfv g s6]) := by
  have hS := hC.1
  have hq := km_Tx_mods_108  krec4  hC hv_s4 hv_s5 hv_s6 hm
  rw [Tx_mods_108] at hm
  obtain ⟨r49, e50, hm⟩ := obd_s hm
  have q51 := (km_Sp_initB hC hv_s4 e50)
  obtain ⟨g52, hm⟩ := grd_s hm
  have q := km_Tx_mods_111  krec4 q51.2 (lt_ext hv_s5 q51.1) (lt_ext hv_s6 q51.1) hm
  refine c_callIvA C hE h g52 (kc_Sp_initB l D k z mi aK aV g N hC hv_s4 e50) (cwI 4 C.2.2.1 (gC_X9_init_ _) rfl rfl rfl (C.2.2.1 _ (List.mem_cons_of_mem _ wt_X9)) (C.2.2.1 _ (List.mem_cons_of_mem _ wm_X10_121)) (C.2.2.1 _ (List.mem_cons_of_mem _ wj_X9_init_)) rfl hdS_X9_init_ ⟨Nat.le_of_ble_eq_true rfl, Nat.le_of_ble_eq_true rfl⟩) rfl hl.1 rfl (by simp [rfv_cat, cat_i, cat_l]) dX10_mods_108 ⟨rcC hX q51.1 q.1, rsC hX q51.1 q.1⟩ (fun u H locs hg h => ?_)
  simp only [← gx_rfv hg (sh_50 hS).2.1, ← gx_rfv hg hv_s5, ← gx_rfv hg hv_s6] at hl
  try simp only [← gx_rfv hg (sh_50 hS).2.1, ← gx_rfv hg hv_s5, ← gx_rfv hg hv_s6]
  refine W_cast (wcC hX q51.1).symm (wsC hX q51.1).symm ?_
  exact kl_Tx_mods_111 (N := N) C hr hlk hE  krec4 hrec4 q51.2 (hG.tr hg hX.1) (hX.tr q51.1) (lt_ext hv_s5 q51.1) (lt_ext hv_s6 q51.1) (lv_sub hl [0, 1, 2] rfl) h hm
set_option maxHeartbeats 8000000 in
set_option maxRecDepth 100000 in
theorem kl_Tx_mods_95 {r : Sh × St × Int} (C : Cx p s m args c cX10_mods RX10 (cd :: cWd) D (TYs k) 7) (hr : meth.sig.returnType = (some .int)) (hlk : meth.locks = false) (hE : Ev z mi aK aV A s s.heap)   {rec4 : Sh → St → Int → Int → Option (Sh × St × Int)} (krec4 : ∀ {π : Sh} {σ : St} {x2 : Int} {x3 : Int}, Cl π σ → rec4 π σ x2 x3 = some r → ext π r.1 ∧ Cl r.1 r.2.1) (hrec4 : ∀ {ls : Array Slot} {H : Heap} {locs : List Loc} {g : Nat → Nat} {π : Sh} {σ : St} {x2 : Int} {x3 : Int}, Cl π σ → gx (nn π0) g0 g → ext π0 π → lv_has ls 7 [(0, rfv g 50), (2, .int (Int32.ofInt x2)), (3, .int (Int32.ofInt x3))] → Hp D A s.heap H locs (cW k z g π σ) → rec4 π σ x2 x3 = some r → W p l e { frames := 9, cells := nn r.1 - nn π0, slots := sw r.1 - sw π0, locals := 285 } s m args below meth c H locs (nn π - nn π0) (sw π - sw π0) (MQ below (va_Qi (fun v u => gx (nn π0) g0 u ∧ v = Int32.ofInt r.2.2) (fun u t => PostW D (TYs k) A (cW k z u r.1 r.2.1) t) A) args s (nn r.1 - nn π0) (sw r.1 - sw π0) A) (F0 m 4 ls [])) {ls : Array Slot} {H : Heap} {locs : List Loc} {g : Nat → Nat} {π : Sh} {σ : St} {x2 : Int} {x3 : Int} {x5 : Int} {x6 : Int} {s0 : Int} {s1 : Int} {s2 : Int} {s3 : Int} {s4 : Int} {s5 : Int} (hC : Cl π σ) (hG : gx (nn π0) g0 g) (hX : ext π0 π) (hv_s3 : s3 < nn π) (hv_s4 : s4 < nn π) (hv_s5 : s5 < nn π) (hl : lv_has ls 7 [(0, rfv g 50), (2, .int (Int32.ofInt x2)), (3, .int (Int32.ofInt x3)), (5, .int (Int32.ofInt x5)), (6, .int (Int32.ofInt x6))]) (h : Hp D A s.heap H locs (cW k z g π σ)) (hm : Tx_mods_95 N rec4 π σ x2 x3 x5 x6 s0 s1 s2 s3 s4 s5 = some r) : W p l e { frames := 9, cells := nn r.1 - nn π0, slots := sw r.1 - sw π0, locals := 285 } s m args below meth c H locs (nn π - nn π0) (sw π - sw π0) (MQ below (va_Qi (fun v u => gx (nn π0) g0 u ∧ v = Int32.ofInt r.2.2) (fun u t => PostW D (TYs k) A (cW k z u r.1 r.2.1) t) A) args s (nn r.1 - nn π0) (sw r.1 - sw π0) A) (F0 m 95 ls [.int (Int32.ofInt s0), .int (Int32.ofInt s1), .int (Int32.ofInt s2), rfv g s3, rfv g s4, rfv g s5]) := by
  have hS := hC.1
  have hq := km_Tx_mods_95  krec4  hC hv_s3 hv_s4 hv_s5 hm
  rw [Tx_mods_95] at hm
  refine lv_iload C.1 C.2.1 dX10_mods_95 (lv_at hl 3 rfl) ?_
  refine lv_bipush (v := Int32.ofInt 42) C.1 C.2.1 dX10_mods_97 (by decide) ?_
  obtain ⟨g43, hm⟩ := grd_s hm
  refine z_icmp_ne (tgt := 106) C dX10_mods_99 (by decide) g43 (by decide) (fun c44 => ?_) (fun c44 => ?_)
  · have hm := ite_f c44 hm
    refine lv_iload C.1 C.2.1 dX10_mods_106 (lv_at hl 4 rfl) ?_
    exact kl_Tx_mods_108 (N := N) C hr hlk hE krec4 hrec4 hC hG hX hv_s3 hv_s4 hv_s5 (lv_sub hl [0, 1, 2] rfl) h hm
  · have hm := ite_t c44 hm
    refine lv_iconst (v := Int32.ofInt 1) C.1 C.2.1 dX10_mods_102 (by decide) ?_
    refine lv_goto (tgt := 108) C.1 C.2.1 dX10_mods_103 (by decide) ?_
    exact kl_Tx_mods_108 (N := N) C hr hlk hE krec4 hrec4 hC hG hX hv_s3 hv_s4 hv_s5 (lv_sub hl [0, 1, 2] rfl) h hm
set_option maxHeartbeats 8000000 in
set_option maxRecDepth 100000 in
theorem kl_Tx_mods_77 {r : Sh × St × Int} (C : Cx p s m args c cX10_mods RX10 (cd :: cWd) D (TYs k) 7) (hr : meth.sig.returnType = (some .int)) (hlk : meth.locks = false) (hE : Ev z mi aK aV A s s.heap)   {rec4 : Sh → St → Int → Int → Option (Sh × St × Int)} (krec4 : ∀ {π : Sh} {σ : St} {x2 : Int} {x3 : Int}, Cl π σ → rec4 π σ x2 x3 = some r → ext π r.1 ∧ Cl r.1 r.2.1) (hrec4 : ∀ {ls : Array Slot} {H : Heap} {locs : List Loc} {g : Nat → Nat} {π : Sh} {σ : St} {x2 : Int} {x3 : Int}, Cl π σ → gx (nn π0) g0 g → ext π0 π → lv_has ls 7 [(0, rfv g 50), (2, .int (Int32.ofInt x2)), (3, .int (Int32.ofInt x3))] → Hp D A s.heap H locs (cW k z g π σ) → rec4 π σ x2 x3 = some r → W p l e { frames := 9, cells := nn r.1 - nn π0, slots := sw r.1 - sw π0, locals := 285 } s m args below meth c H locs (nn π - nn π0) (sw π - sw π0) (MQ below (va_Qi (fun v u => gx (nn π0) g0 u ∧ v = Int32.ofInt r.2.2) (fun u t => PostW D (TYs k) A (cW k z u r.1 r.2.1) t) A) args s (nn r.1 - nn π0) (sw r.1 - sw π0) A) (F0 m 4 ls [])) {ls : Array Slot} {H : Heap} {locs : List Loc} {g : Nat → Nat} {π : Sh} {σ : St} {x2 : Int} {x3 : Int} {x4 : Int} {x5 : Int} {x6 : Int} {s0 : Int} {s1 : Int} (hC : Cl π σ) (hG : gx (nn π0) g0 g) (hX : ext π0 π) (hv_s0 : s0 < nn π) (hv_s1 : s1 < nn π) (hl : lv_has ls 7 [(0, rfv g 50), (2, .int (Int32.ofInt x2)), (3, .int (Int32.ofInt x3)), (4, .int (Int32.ofInt x4)), (5, .int (Int32.ofInt x5)), (6, .int (Int32.ofInt x6))]) (h : Hp D A s.heap H locs (cW k z g π σ)) (hm : Tx_mods_77 N rec4 π σ x2 x3 x4 x5 x6 s0 s1 = some r) : W p l e { frames := 9, cells := nn r.1 - nn π0, slots := sw r.1 - sw π0, locals := 285 } s m args below meth c H locs (nn π - nn π0) (sw π - sw π0) (MQ below (va_Qi (fun v u => gx (nn π0) g0 u ∧ v = Int32.ofInt r.2.2) (fun u t => PostW D (TYs k) A (cW k z u r.1 r.2.1) t) A) args s (nn r.1 - nn π0) (sw r.1 - sw π0) A) (F0 m 77 ls [rfv g s0, rfv g s1]) := by
  have hS := hC.1
  have hq := km_Tx_mods_77  krec4  hC hv_s0 hv_s1 hm
  rw [Tx_mods_77] at hm
  refine lv_dup C.1 C.2.1 dX10_mods_77 (rfv_cat _ _) ?_
  refine lv_bipush (v := Int32.ofInt 9) C.1 C.2.1 dX10_mods_78 (by decide) ?_
  refine lv_iload C.1 C.2.1 dX10_mods_80 (lv_at hl 3 rfl) ?_
  refine lv_iload C.1 C.2.1 dX10_mods_82 (lv_at hl 4 rfl) ?_
  refine lv_bipush (v := Int32.ofInt 42) C.1 C.2.1 dX10_mods_84 (by decide) ?_
  obtain ⟨g37, hm⟩ := grd_s hm
  refine z_icmp_ne (tgt := 94) C dX10_mods_86 (by decide) g37 (by decide) (fun c38 => ?_) (fun c38 => ?_)
  · have hm := ite_f c38 hm
    refine lv_iconst (v := Int32.ofInt 1) C.1 C.2.1 dX10_mods_94 (by decide) ?_
    exact kl_Tx_mods_95 (N := N) C hr hlk hE krec4 hrec4 hC hG hX hv_s0 hv_s0 hv_s1 (lv_sub hl [0, 1, 2, 4, 5] rfl) h hm
  · have hm := ite_t c38 hm
    refine lv_iload C.1 C.2.1 dX10_mods_89 (lv_at hl 5 rfl) ?_
    refine lv_goto (tgt := 95) C.1 C.2.1 dX10_mods_91 (by decide) ?_
    exact kl_Tx_mods_95 (N := N) C hr hlk hE krec4 hrec4 hC hG hX hv_s0 hv_s0 hv_s1 (lv_sub hl [0, 1, 2, 4, 5] rfl) h hm
set_option maxHeartbeats 8000000 in
set_option maxRecDepth 100000 in
theorem kl_Tx_mods_51 {r : Sh × St × Int} (C : Cx p s m args c cX10_mods RX10 (cd :: cWd) D (TYs k) 7) (hr : meth.sig.returnType = (some .int)) (hlk : meth.locks = false) (hE : Ev z mi aK aV A s s.heap)   {rec4 : Sh → St → Int → Int → Option (Sh × St × Int)} (krec4 : ∀ {π : Sh} {σ : St} {x2 : Int} {x3 : Int}, Cl π σ → rec4 π σ x2 x3 = some r → ext π r.1 ∧ Cl r.1 r.2.1) (hrec4 : ∀ {ls : Array Slot} {H : Heap} {locs : List Loc} {g : Nat → Nat} {π : Sh} {σ : St} {x2 : Int} {x3 : Int}, Cl π σ → gx (nn π0) g0 g → ext π0 π → lv_has ls 7 [(0, rfv g 50), (2, .int (Int32.ofInt x2)), (3, .int (Int32.ofInt x3))] → Hp D A s.heap H locs (cW k z g π σ) → rec4 π σ x2 x3 = some r → W p l e { frames := 9, cells := nn r.1 - nn π0, slots := sw r.1 - sw π0, locals := 285 } s m args below meth c H locs (nn π - nn π0) (sw π - sw π0) (MQ below (va_Qi (fun v u => gx (nn π0) g0 u ∧ v = Int32.ofInt r.2.2) (fun u t => PostW D (TYs k) A (cW k z u r.1 r.2.1) t) A) args s (nn r.1 - nn π0) (sw r.1 - sw π0) A) (F0 m 4 ls [])) {ls : Array Slot} {H : Heap} {locs : List Loc} {g : Nat → Nat} {π : Sh} {σ : St} {x2 : Int} {x3 : Int} {x4 : Int} {x5 : Int} (hC : Cl π σ) (hG : gx (nn π0) g0 g) (hX : ext π0 π)  (hl : lv_has ls 7 [(0, rfv g 50), (2, .int (Int32.ofInt x2)), (3, .int (Int32.ofInt x3)), (4, .int (Int32.ofInt x4)), (5, .int (Int32.ofInt x5))]) (h : Hp D A s.heap H locs (cW k z g π σ)) (hm : Tx_mods_51 N rec4 π σ x2 x3 x4 x5 = some r) : W p l e { frames := 9, cells := nn r.1 - nn π0, slots := sw r.1 - sw π0, locals := 285 } s m args below meth c H locs (nn π - nn π0) (sw π - sw π0) (MQ below (va_Qi (fun v u => gx (nn π0) g0 u ∧ v = Int32.ofInt r.2.2) (fun u t => PostW D (TYs k) A (cW k z u r.1 r.2.1) t) A) args s (nn r.1 - nn π0) (sw r.1 - sw π0) A) (F0 m 51 ls []) := by
  have hS := hC.1
  have hq := km_Tx_mods_51  krec4  hC  hm
  rw [Tx_mods_51] at hm
  refine z_aload_n C dX10_mods_51 rfl (lv_at hl 0 rfl) ?_
  refine lv_dup C.1 C.2.1 dX10_mods_52 (rfv_cat _ _) ?_
  refine cg_11_2 C h (sh_50 hS) cU_X10 (List.mem_cons_of_mem _ wl_X10_15) dX10_mods_53 ?_
  refine lv_iconst (v := Int32.ofInt 1) C.1 C.2.1 dX10_mods_56 (by decide) ?_
  refine z_iadd C dX10_mods_57 ?_
  refine cp_11_2 C h (sh_50 hS) cU_X10 (List.mem_cons_of_mem _ wl_X10_15) dX10_mods_58 (fun H locs h => ?_)
  refine z_aload_n C dX10_mods_61 rfl (lv_at hl 0 rfl) ?_
  refine lv_iconst (v := Int32.ofInt 1) C.1 C.2.1 dX10_mods_62 (by decide) ?_
  refine lv_bipush (v := Int32.ofInt 32) C.1 C.2.1 dX10_mods_63 (by decide) ?_
  obtain ⟨σ25, e26, hm⟩ := bnd_s hm
  rw [e26] at h
  have hC27 : Cl π σ25 := e26 ▸ (cl_sfI hC (f := 222) rfl _ _)
  obtain ⟨r28, e29, hm⟩ := obd_s hm
  have q30 := (km_Tx_number hC27 e29)
  refine c_callViP C hE h (sh_50 hS) rfl (by decide) (kc_Tx_number l D k z mi aK aV g N hS e29) (cwV 2 C.2.2.1 (gS_X10_87 _) rfl rfl rfl hd_X10_number ⟨Nat.le_of_ble_eq_true rfl, Nat.le_of_ble_eq_true rfl⟩) rfl hl.1 rfl (Nat.le_of_ble_eq_true rfl) dX10_mods_65 ⟨(czz hX hq.1), (szz hX hq.1)⟩ (fun H locs h => ?_)
  have hC31 : Cl π r28.1 := q30
  refine lv_istore (lv' := [(6, .int (Int32.ofInt r28.2)), (0, rfv g 50), (2, .int (Int32.ofInt x2)), (3, .int (Int32.ofInt x3)), (4, .int (Int32.ofInt x4)), (5, .int (Int32.ofInt x5))]) C.1 C.2.1 dX10_mods_68 hl (by decide) rfl (fun ls hl => ?_)
  refine z_aload_n C dX10_mods_70 rfl (lv_at hl 1 rfl) ?_
  refine cg_11_1 C h (sh_50 hS) cU_X10 (List.mem_cons_of_mem _ wl_X10_9) dX10_mods_71 ?_
  have q := km_Tx_mods_77  krec4 ((cl_nO hC31 (by decide) (by decide) _)) lt_nO (lt_ext (cl_fl hC31 (f := 221) rfl 50) (ext_nO π 10 14)) hm
  refine c_new C h hC31 (by decide) dX10_mods_74 rfl cU_X9 tyX9_ok (List.mem_cons_of_mem _ wn_X10_49) (List.mem_cons_of_mem _ wi_X9) (List.mem_cons_of_mem _ wt_X9) (df_X9) (dn_X9 z) (rc1 hX q.1) (rs1 hX q.1) (fun u H hg h => ?_)
  simp only [← gx_rfv hg (sh_50 hS).2.1, ← gx_rfv hg (cl_fl hC31 (f := 221) rfl 50)] at hl
  try simp only [← gx_rfv hg (sh_50 hS).2.1, ← gx_rfv hg (cl_fl hC31 (f := 221) rfl 50)]
  refine W_cast (wcO (c := 10) (w := 14) hX).symm (wsO (c := 10) (w := 14) hX).symm ?_
  exact kl_Tx_mods_77 (N := N) C hr hlk hE  krec4 hrec4 ((cl_nO hC31 (by decide) (by decide) _)) (hG.tr hg hX.1) (hX.tr (ext_nO π 10 14)) lt_nO (lt_ext (cl_fl hC31 (f := 221) rfl 50) (ext_nO π 10 14)) (lv_sub hl [1, 2, 3, 4, 5, 0] rfl) h hm
set_option maxHeartbeats 8000000 in
set_option maxRecDepth 100000 in
theorem kl_Tx_mods_134 {r : Sh × St × Int} (C : Cx p s m args c cX10_mods RX10 (cd :: cWd) D (TYs k) 7) (hr : meth.sig.returnType = (some .int)) (hlk : meth.locks = false) (hE : Ev z mi aK aV A s s.heap)   {rec4 : Sh → St → Int → Int → Option (Sh × St × Int)} (krec4 : ∀ {π : Sh} {σ : St} {x2 : Int} {x3 : Int}, Cl π σ → rec4 π σ x2 x3 = some r → ext π r.1 ∧ Cl r.1 r.2.1) (hrec4 : ∀ {ls : Array Slot} {H : Heap} {locs : List Loc} {g : Nat → Nat} {π : Sh} {σ : St} {x2 : Int} {x3 : Int}, Cl π σ → gx (nn π0) g0 g → ext π0 π → lv_has ls 7 [(0, rfv g 50), (2, .int (Int32.ofInt x2)), (3, .int (Int32.ofInt x3))] → Hp D A s.heap H locs (cW k z g π σ) → rec4 π σ x2 x3 = some r → W p l e { frames := 9, cells := nn r.1 - nn π0, slots := sw r.1 - sw π0, locals := 285 } s m args below meth c H locs (nn π - nn π0) (sw π - sw π0) (MQ below (va_Qi (fun v u => gx (nn π0) g0 u ∧ v = Int32.ofInt r.2.2) (fun u t => PostW D (TYs k) A (cW k z u r.1 r.2.1) t) A) args s (nn r.1 - nn π0) (sw r.1 - sw π0) A) (F0 m 4 ls [])) {ls : Array Slot} {H : Heap} {locs : List Loc} {g : Nat → Nat} {π : Sh} {σ : St} {x3 : Int} {s0 : Int} (hC : Cl π σ) (hG : gx (nn π0) g0 g) (hX : ext π0 π)  (hl : lv_has ls 7 [(0, rfv g 50), (3, .int (Int32.ofInt x3))]) (h : Hp D A s.heap H locs (cW k z g π σ)) (hm : Tx_mods_134 N rec4 π σ x3 s0 = some r) : W p l e { frames := 9, cells := nn r.1 - nn π0, slots := sw r.1 - sw π0, locals := 285 } s m args below meth c H locs (nn π - nn π0) (sw π - sw π0) (MQ below (va_Qi (fun v u => gx (nn π0) g0 u ∧ v = Int32.ofInt r.2.2) (fun u t => PostW D (TYs k) A (cW k z u r.1 r.2.1) t) A) args s (nn r.1 - nn π0) (sw r.1 - sw π0) A) (F0 m 134 ls [.int (Int32.ofInt s0)]) := by
  have hS := hC.1
  have hq := km_Tx_mods_134  krec4  hC  hm
  rw [Tx_mods_134] at hm
  refine lv_istore_n (lv' := [(2, .int (Int32.ofInt s0)), (0, rfv g 50), (3, .int (Int32.ofInt x3))]) C.1 C.2.1 dX10_mods_134 rfl hl (by decide) rfl (fun ls hl => ?_)
  refine lv_goto (tgt := 203) C.1 C.2.1 dX10_mods_135 (by decide) ?_
  exact kl_Tx_mods_203 (N := N) C hr hlk hE krec4 hrec4 hC hG hX (lv_sub hl [1, 0, 2] rfl) h hm
set_option maxHeartbeats 8000000 in
set_option maxRecDepth 100000 in
theorem kl_Tx_mods_187 {r : Sh × St × Int} (C : Cx p s m args c cX10_mods RX10 (cd :: cWd) D (TYs k) 7) (hr : meth.sig.returnType = (some .int)) (hlk : meth.locks = false) (hE : Ev z mi aK aV A s s.heap)   {rec4 : Sh → St → Int → Int → Option (Sh × St × Int)} (krec4 : ∀ {π : Sh} {σ : St} {x2 : Int} {x3 : Int}, Cl π σ → rec4 π σ x2 x3 = some r → ext π r.1 ∧ Cl r.1 r.2.1) (hrec4 : ∀ {ls : Array Slot} {H : Heap} {locs : List Loc} {g : Nat → Nat} {π : Sh} {σ : St} {x2 : Int} {x3 : Int}, Cl π σ → gx (nn π0) g0 g → ext π0 π → lv_has ls 7 [(0, rfv g 50), (2, .int (Int32.ofInt x2)), (3, .int (Int32.ofInt x3))] → Hp D A s.heap H locs (cW k z g π σ) → rec4 π σ x2 x3 = some r → W p l e { frames := 9, cells := nn r.1 - nn π0, slots := sw r.1 - sw π0, locals := 285 } s m args below meth c H locs (nn π - nn π0) (sw π - sw π0) (MQ below (va_Qi (fun v u => gx (nn π0) g0 u ∧ v = Int32.ofInt r.2.2) (fun u t => PostW D (TYs k) A (cW k z u r.1 r.2.1) t) A) args s (nn r.1 - nn π0) (sw r.1 - sw π0) A) (F0 m 4 ls [])) {ls : Array Slot} {H : Heap} {locs : List Loc} {g : Nat → Nat} {π : Sh} {σ : St} {x3 : Int} {s0 : Int} (hC : Cl π σ) (hG : gx (nn π0) g0 g) (hX : ext π0 π)  (hl : lv_has ls 7 [(0, rfv g 50), (3, .int (Int32.ofInt x3))]) (h : Hp D A s.heap H locs (cW k z g π σ)) (hm : Tx_mods_187 N rec4 π σ x3 s0 = some r) : W p l e { frames := 9, cells := nn r.1 - nn π0, slots := sw r.1 - sw π0, locals := 285 } s m args below meth c H locs (nn π - nn π0) (sw π - sw π0) (MQ below (va_Qi (fun v u => gx (nn π0) g0 u ∧ v = Int32.ofInt r.2.2) (fun u t => PostW D (TYs k) A (cW k z u r.1 r.2.1) t) A) args s (nn r.1 - nn π0) (sw r.1 - sw π0) A) (F0 m 187 ls [.int (Int32.ofInt s0)]) := by
  have hS := hC.1
  have hq := km_Tx_mods_187  krec4  hC  hm
  rw [Tx_mods_187] at hm
  refine lv_istore_n (lv' := [(2, .int (Int32.ofInt s0)), (0, rfv g 50), (3, .int (Int32.ofInt x3))]) C.1 C.2.1 dX10_mods_187 rfl hl (by decide) rfl (fun ls hl => ?_)
  refine z_aload_n C dX10_mods_188 rfl (lv_at hl 1 rfl) ?_
  refine lv_dup C.1 C.2.1 dX10_mods_189 (rfv_cat _ _) ?_
  refine cg_11_4 C h (sh_50 hS) cU_X10 (List.mem_cons_of_mem _ wl_X10_22) dX10_mods_190 ?_
  refine lv_iconst (v := Int32.ofInt 1) C.1 C.2.1 dX10_mods_193 (by decide) ?_
  refine z_iadd C dX10_mods_194 ?_
  refine cp_11_4 C h (sh_50 hS) cU_X10 (List.mem_cons_of_mem _ wl_X10_22) dX10_mods_195 (fun H locs h => ?_)
  refine lv_goto (tgt := 203) C.1 C.2.1 dX10_mods_198 (by decide) ?_
  exact kl_Tx_mods_203 (N := N) C hr hlk hE krec4 hrec4 (cl_sfI hC (f := 224) rfl _ _) hG hX (lv_sub hl [1, 0, 2] rfl) h hm
set_option maxHeartbeats 8000000 in
set_option maxRecDepth 100000 in
theorem kl_Tx_mods_184 {r : Sh × St × Int} (C : Cx p s m args c cX10_mods RX10 (cd :: cWd) D (TYs k) 7) (hr : meth.sig.returnType = (some .int)) (hlk : meth.locks = false) (hE : Ev z mi aK aV A s s.heap)   {rec4 : Sh → St → Int → Int → Option (Sh × St × Int)} (krec4 : ∀ {π : Sh} {σ : St} {x2 : Int} {x3 : Int}, Cl π σ → rec4 π σ x2 x3 = some r → ext π r.1 ∧ Cl r.1 r.2.1) (hrec4 : ∀ {ls : Array Slot} {H : Heap} {locs : List Loc} {g : Nat → Nat} {π : Sh} {σ : St} {x2 : Int} {x3 : Int}, Cl π σ → gx (nn π0) g0 g → ext π0 π → lv_has ls 7 [(0, rfv g 50), (2, .int (Int32.ofInt x2)), (3, .int (Int32.ofInt x3))] → Hp D A s.heap H locs (cW k z g π σ) → rec4 π σ x2 x3 = some r → W p l e { frames := 9, cells := nn r.1 - nn π0, slots := sw r.1 - sw π0, locals := 285 } s m args below meth c H locs (nn π - nn π0) (sw π - sw π0) (MQ below (va_Qi (fun v u => gx (nn π0) g0 u ∧ v = Int32.ofInt r.2.2) (fun u t => PostW D (TYs k) A (cW k z u r.1 r.2.1) t) A) args s (nn r.1 - nn π0) (sw r.1 - sw π0) A) (F0 m 4 ls [])) {ls : Array Slot} {H : Heap} {locs : List Loc} {g : Nat → Nat} {π : Sh} {σ : St} {x3 : Int} {s0 : Int} {s1 : Int} (hC : Cl π σ) (hG : gx (nn π0) g0 g) (hX : ext π0 π) (hv_s0 : s0 < nn π) (hv_s1 : s1 < nn π) (hl : lv_has ls 7 [(0, rfv g 50), (3, .int (Int32.ofInt x3))]) (h : Hp D A s.heap H locs (cW k z g π σ)) (hm : Tx_mods_184 N rec4 π σ x3 s0 s1 = some r) : W p l e { frames := 9, cells := nn r.1 - nn π0, slots := sw r.1 - sw π0, locals := 285 } s m args below meth c H locs (nn π - nn π0) (sw π - sw π0) (MQ below (va_Qi (fun v u => gx (nn π0) g0 u ∧ v = Int32.ofInt r.2.2) (fun u t => PostW D (TYs k) A (cW k z u r.1 r.2.1) t) A) args s (nn r.1 - nn π0) (sw r.1 - sw π0) A) (F0 m 184 ls [rfv g s0, rfv g s1]) := by
  have hS := hC.1
  have hq := km_Tx_mods_184  krec4  hC hv_s0 hv_s1 hm
  rw [Tx_mods_184] at hm
  obtain ⟨r45, e46, hm⟩ := obd_s hm
  have q47 := (km_Df_add hC hv_s1 hv_s0 e46)
  obtain ⟨g48, hm⟩ := grd_s hm
  have q := km_Tx_mods_187  krec4 q47.2  hm
  refine c_callViA C hE h g48 rfl (by decide) (kc_Df_add l D k z mi aK aV g N hC hv_s1 hv_s0 e46) (cwV 1 C.2.2.1 (gS_X10_60 _) rfl rfl rfl hd_X0_add ⟨Nat.le_of_ble_eq_true rfl, Nat.le_of_ble_eq_true rfl⟩) rfl hl.1 rfl (Nat.le_of_ble_eq_true rfl) dX10_mods_184 ⟨rcC hX q47.1 q.1, rsC hX q47.1 q.1⟩ (fun u H locs hg h => ?_)
  simp only [← gx_rfv hg (sh_50 hS).2.1] at hl
  try simp only [← gx_rfv hg (sh_50 hS).2.1]
  refine W_cast (wcC hX q47.1).symm (wsC hX q47.1).symm ?_
  exact kl_Tx_mods_187 (N := N) C hr hlk hE  krec4 hrec4 q47.2 (hG.tr hg hX.1) (hX.tr q47.1)  (lv_sub hl [0, 1] rfl) h hm
set_option maxHeartbeats 8000000 in
set_option maxRecDepth 100000 in
theorem kl_Tx_mods_180 {r : Sh × St × Int} (C : Cx p s m args c cX10_mods RX10 (cd :: cWd) D (TYs k) 7) (hr : meth.sig.returnType = (some .int)) (hlk : meth.locks = false) (hE : Ev z mi aK aV A s s.heap)   {rec4 : Sh → St → Int → Int → Option (Sh × St × Int)} (krec4 : ∀ {π : Sh} {σ : St} {x2 : Int} {x3 : Int}, Cl π σ → rec4 π σ x2 x3 = some r → ext π r.1 ∧ Cl r.1 r.2.1) (hrec4 : ∀ {ls : Array Slot} {H : Heap} {locs : List Loc} {g : Nat → Nat} {π : Sh} {σ : St} {x2 : Int} {x3 : Int}, Cl π σ → gx (nn π0) g0 g → ext π0 π → lv_has ls 7 [(0, rfv g 50), (2, .int (Int32.ofInt x2)), (3, .int (Int32.ofInt x3))] → Hp D A s.heap H locs (cW k z g π σ) → rec4 π σ x2 x3 = some r → W p l e { frames := 9, cells := nn r.1 - nn π0, slots := sw r.1 - sw π0, locals := 285 } s m args below meth c H locs (nn π - nn π0) (sw π - sw π0) (MQ below (va_Qi (fun v u => gx (nn π0) g0 u ∧ v = Int32.ofInt r.2.2) (fun u t => PostW D (TYs k) A (cW k z u r.1 r.2.1) t) A) args s (nn r.1 - nn π0) (sw r.1 - sw π0) A) (F0 m 4 ls [])) {ls : Array Slot} {H : Heap} {locs : List Loc} {g : Nat → Nat} {π : Sh} {σ : St} {x2 : Int} {x3 : Int} {s0 : Int} {s1 : Int} (hC : Cl π σ) (hG : gx (nn π0) g0 g) (hX : ext π0 π) (hv_s0 : s0 < nn π) (hv_s1 : s1 < nn π) (hl : lv_has ls 7 [(0, rfv g 50), (2, .int (Int32.ofInt x2)), (3, .int (Int32.ofInt x3))]) (h : Hp D A s.heap H locs (cW k z g π σ)) (hm : Tx_mods_180 N rec4 π σ x2 x3 s0 s1 = some r) : W p l e { frames := 9, cells := nn r.1 - nn π0, slots := sw r.1 - sw π0, locals := 285 } s m args below meth c H locs (nn π - nn π0) (sw π - sw π0) (MQ below (va_Qi (fun v u => gx (nn π0) g0 u ∧ v = Int32.ofInt r.2.2) (fun u t => PostW D (TYs k) A (cW k z u r.1 r.2.1) t) A) args s (nn r.1 - nn π0) (sw r.1 - sw π0) A) (F0 m 180 ls [rfv g s0, rfv g s1]) := by
  have hS := hC.1
  have hq := km_Tx_mods_180  krec4  hC hv_s0 hv_s1 hm
  rw [Tx_mods_180] at hm
  refine lv_iload_n C.1 C.2.1 dX10_mods_180 rfl (lv_at hl 1 rfl) ?_
  obtain ⟨r39, e40, hm⟩ := obd_s hm
  have q41 := (km_Sp_give hC hv_s0 e40)
  obtain ⟨g42, hm⟩ := grd_s hm
  have q := km_Tx_mods_184  krec4 q41.2.1 q41.2.2 (lt_ext hv_s1 q41.1) hm
  refine c_callVqA C hE h g42 rfl (by decide) (kc_Sp_give l D k z mi aK aV g N hC hv_s0 e40) (cwV 1 C.2.2.1 (gS_X10_127 _) rfl rfl rfl hd_X9_give ⟨Nat.le_of_ble_eq_true rfl, Nat.le_of_ble_eq_true rfl⟩) rfl hl.1 rfl (by simp [rfv_cat, cat_i, cat_l]) dX10_mods_181 ⟨rcC hX q41.1 q.1, rsC hX q41.1 q.1⟩ (fun u H locs hg h => ?_)
  simp only [← gx_rfv hg (sh_50 hS).2.1, ← gx_rfv hg hv_s1] at hl
  try simp only [← gx_rfv hg (sh_50 hS).2.1, ← gx_rfv hg hv_s1]
  refine W_cast (wcC hX q41.1).symm (wsC hX q41.1).symm ?_
  exact kl_Tx_mods_184 (N := N) C hr hlk hE  krec4 hrec4 q41.2.1 (hG.tr hg hX.1) (hX.tr q41.1) q41.2.2 (lt_ext hv_s1 q41.1) (lv_sub hl [0, 2] rfl) h hm
set_option maxHeartbeats 8000000 in
set_option maxRecDepth 100000 in
theorem kl_Tx_mods_162 {r : Sh × St × Int} (C : Cx p s m args c cX10_mods RX10 (cd :: cWd) D (TYs k) 7) (hr : meth.sig.returnType = (some .int)) (hlk : meth.locks = false) (hE : Ev z mi aK aV A s s.heap)   {rec4 : Sh → St → Int → Int → Option (Sh × St × Int)} (krec4 : ∀ {π : Sh} {σ : St} {x2 : Int} {x3 : Int}, Cl π σ → rec4 π σ x2 x3 = some r → ext π r.1 ∧ Cl r.1 r.2.1) (hrec4 : ∀ {ls : Array Slot} {H : Heap} {locs : List Loc} {g : Nat → Nat} {π : Sh} {σ : St} {x2 : Int} {x3 : Int}, Cl π σ → gx (nn π0) g0 g → ext π0 π → lv_has ls 7 [(0, rfv g 50), (2, .int (Int32.ofInt x2)), (3, .int (Int32.ofInt x3))] → Hp D A s.heap H locs (cW k z g π σ) → rec4 π σ x2 x3 = some r → W p l e { frames := 9, cells := nn r.1 - nn π0, slots := sw r.1 - sw π0, locals := 285 } s m args below meth c H locs (nn π - nn π0) (sw π - sw π0) (MQ below (va_Qi (fun v u => gx (nn π0) g0 u ∧ v = Int32.ofInt r.2.2) (fun u t => PostW D (TYs k) A (cW k z u r.1 r.2.1) t) A) args s (nn r.1 - nn π0) (sw r.1 - sw π0) A) (F0 m 4 ls [])) {ls : Array Slot} {H : Heap} {locs : List Loc} {g : Nat → Nat} {π : Sh} {σ : St} {x2 : Int} {x3 : Int} {x4 : Int} {s0 : Int} {s1 : Int} (hC : Cl π σ) (hG : gx (nn π0) g0 g) (hX : ext π0 π) (hv_s0 : s0 < nn π) (hv_s1 : s1 < nn π) (hl : lv_has ls 7 [(0, rfv g 50), (2, .int (Int32.ofInt x2)), (3, .int (Int32.ofInt x3)), (4, .int (Int32.ofInt x4))]) (h : Hp D A s.heap H locs (cW k z g π σ)) (hm : Tx_mods_162 N rec4 π σ x2 x3 x4 s0 s1 = some r) : W p l e { frames := 9, cells := nn r.1 - nn π0, slots := sw r.1 - sw π0, locals := 285 } s m args below meth c H locs (nn π - nn π0) (sw π - sw π0) (MQ below (va_Qi (fun v u => gx (nn π0) g0 u ∧ v = Int32.ofInt r.2.2) (fun u t => PostW D (TYs k) A (cW k z u r.1 r.2.1) t) A) args s (nn r.1 - nn π0) (sw r.1 - sw π0) A) (F0 m 162 ls [rfv g s0, rfv g s1]) := by
  have hS := hC.1
  have hq := km_Tx_mods_162  krec4  hC hv_s0 hv_s1 hm
  rw [Tx_mods_162] at hm
  refine lv_dup C.1 C.2.1 dX10_mods_162 (rfv_cat _ _) ?_
  refine lv_bipush (v := Int32.ofInt 22) C.1 C.2.1 dX10_mods_163 (by decide) ?_
  refine lv_iload C.1 C.2.1 dX10_mods_165 (lv_at hl 3 rfl) ?_
  refine lv_sipush (v := Int32.ofInt 500) C.1 C.2.1 dX10_mods_167 (by decide) ?_
  refine z_aload_n C dX10_mods_170 rfl (lv_at hl 0 rfl) ?_
  refine cg_11_4 C h (sh_50 hS) cU_X10 (List.mem_cons_of_mem _ wl_X10_22) dX10_mods_171 ?_
  refine lv_ldc (v := 1000003) C.1 C.2.1 C.2.2.2.1 (C.2.2.1 _ (List.mem_cons_of_mem _ wk_X10_151)) dX10_mods_174 ?_
  refine x_topi (y := Int32.ofInt 1000003) (by decide) ?_
  refine z_imul C dX10_mods_176 ?_
  obtain ⟨r33, e34, hm⟩ := obd_s hm
  have q35 := (km_Sp_initB hC hv_s0 e34)
  obtain ⟨g36, hm⟩ := grd_s hm
  have q := km_Tx_mods_180  krec4 q35.2 (lt_ext hv_s0 q35.1) (lt_ext hv_s1 q35.1) hm
  refine c_callIvA C hE h g36 (kc_Sp_initB l D k z mi aK aV g N hC hv_s0 e34) (cwI 4 C.2.2.1 (gC_X9_init_ _) rfl rfl rfl (C.2.2.1 _ (List.mem_cons_of_mem _ wt_X9)) (C.2.2.1 _ (List.mem_cons_of_mem _ wm_X10_121)) (C.2.2.1 _ (List.mem_cons_of_mem _ wj_X9_init_)) rfl hdS_X9_init_ ⟨Nat.le_of_ble_eq_true rfl, Nat.le_of_ble_eq_true rfl⟩) rfl hl.1 rfl (by simp [rfv_cat, cat_i, cat_l]) dX10_mods_177 ⟨rcC hX q35.1 q.1, rsC hX q35.1 q.1⟩ (fun u H locs hg h => ?_)
  simp only [← gx_rfv hg (sh_50 hS).2.1, ← gx_rfv hg hv_s0, ← gx_rfv hg hv_s1] at hl
  try simp only [← gx_rfv hg (sh_50 hS).2.1, ← gx_rfv hg hv_s0, ← gx_rfv hg hv_s1]
  refine W_cast (wcC hX q35.1).symm (wsC hX q35.1).symm ?_
  exact kl_Tx_mods_180 (N := N) C hr hlk hE  krec4 hrec4 q35.2 (hG.tr hg hX.1) (hX.tr q35.1) (lt_ext hv_s0 q35.1) (lt_ext hv_s1 q35.1) (lv_sub hl [0, 1, 2] rfl) h hm
set_option maxHeartbeats 8000000 in
set_option maxRecDepth 100000 in
theorem kl_Tx_mods_4 {r : Sh × St × Int} (C : Cx p s m args c cX10_mods RX10 (cd :: cWd) D (TYs k) 7) (hr : meth.sig.returnType = (some .int)) (hlk : meth.locks = false) (hE : Ev z mi aK aV A s s.heap)    (n : Nat) : ∀ {ls : Array Slot} {H : Heap} {locs : List Loc} {g : Nat → Nat} {π : Sh} {σ : St} {x2 : Int} {x3 : Int}, Cl π σ → gx (nn π0) g0 g → ext π0 π → lv_has ls 7 [(0, rfv g 50), (2, .int (Int32.ofInt x2)), (3, .int (Int32.ofInt x3))] → Hp D A s.heap H locs (cW k z g π σ) → Tx_mods_4 N n π σ x2 x3 = some r → W p l e { frames := 9, cells := nn r.1 - nn π0, slots := sw r.1 - sw π0, locals := 285 } s m args below meth c H locs (nn π - nn π0) (sw π - sw π0) (MQ below (va_Qi (fun v u => gx (nn π0) g0 u ∧ v = Int32.ofInt r.2.2) (fun u t => PostW D (TYs k) A (cW k z u r.1 r.2.1) t) A) args s (nn r.1 - nn π0) (sw r.1 - sw π0) A) (F0 m 4 ls []) := by
  induction n with
  | zero => intro ls H locs g π σ x2 x3 hC hG hX  hl h hm; cases (show none = some r from hm)
  | succ n hrec4 =>
    intro ls H locs g π σ x2 x3 hC hG hX  hl h hm
    have hS := hC.1
    have hq := km_Tx_mods_4   (n + 1) hC  hm
    have krec4 : ∀ {π : Sh} {σ : St} {x2 : Int} {x3 : Int}, Cl π σ → Tx_mods_4 N n π σ x2 x3 = some r → ext π r.1 ∧ Cl r.1 r.2.1 := fun {_ _} {_} {_} => km_Tx_mods_4   n
    rw [Tx_mods_4] at hm
    refine lv_iload_n C.1 C.2.1 dX10_mods_4 rfl (lv_at hl 2 rfl) ?_
    refine lv_sipush (v := Int32.ofInt 2000) C.1 C.2.1 dX10_mods_5 (by decide) ?_
    obtain ⟨g1, hm⟩ := grd_s hm
    refine z_icmp_ge (tgt := 209) C dX10_mods_8 (by decide) g1 (by decide) (fun c2 => ?_) (fun c2 => ?_)
    · have hm := ite_f c2 hm
      refine lv_iload_n C.1 C.2.1 dX10_mods_209 rfl (lv_at hl 1 rfl) ?_
      cases hm
      exact c_iretA C hG h hr hlk dX10_mods_210 rfl
    · have hm := ite_t c2 hm
      refine z_aload_n C dX10_mods_11 rfl (lv_at hl 0 rfl) ?_
      refine cg_11_0 C h (sh_50 hS) cU_X10 (List.mem_cons_of_mem _ wl_X10_28) dX10_mods_12 ?_
      refine cg_9_2 C h (sh_1 hS) cU_X8 (List.mem_cons_of_mem _ wl_X10_57) dX10_mods_15 ?_
      obtain ⟨g3, hm⟩ := grd_s hm
      refine z_if_ne (tgt := 209) C dX10_mods_18 (by decide) g3 (fun c4 => ?_) (fun c4 => ?_)
      · have hm := ite_f c4 hm
        refine lv_iload_n C.1 C.2.1 dX10_mods_209 rfl (lv_at hl 1 rfl) ?_
        cases hm
        exact c_iretA C hG h hr hlk dX10_mods_210 rfl
      · have hm := ite_t c4 hm
        refine z_aload_n C dX10_mods_21 rfl (lv_at hl 0 rfl) ?_
        obtain ⟨r5, e6, hm⟩ := obd_s hm
        have q7 := (km_Tx_skipBlanks hC e6)
        refine c_callVvP C hE h (sh_50 hS) rfl (by decide) (kc_Tx_skipBlanks l D k z mi aK aV g N hS e6) (cwV 0 C.2.2.1 (gS_X10_42 _) rfl rfl rfl hd_X10_skipBlanks ⟨Nat.le_of_ble_eq_true rfl, Nat.le_of_ble_eq_true rfl⟩) rfl hl.1 rfl (Nat.le_of_ble_eq_true rfl) dX10_mods_22 ⟨(czz hX hq.1), (szz hX hq.1)⟩ (fun H locs h => ?_)
        have hC8 : Cl π r5 := q7
        refine z_aload_n C dX10_mods_25 rfl (lv_at hl 0 rfl) ?_
        refine cg_11_2 C h (sh_50 hS) cU_X10 (List.mem_cons_of_mem _ wl_X10_15) dX10_mods_26 ?_
        refine lv_istore (lv' := [(4, .int (Int32.ofInt (fl r5 222 50))), (0, rfv g 50), (2, .int (Int32.ofInt x2)), (3, .int (Int32.ofInt x3))]) C.1 C.2.1 dX10_mods_29 hl (by decide) rfl (fun ls hl => ?_)
        refine z_aload_n C dX10_mods_31 rfl (lv_at hl 1 rfl) ?_
        obtain ⟨r9, e10, hm⟩ := obd_s hm
        have q11 := (km_Tx_here hC8 e10)
        refine c_callViP C hE h (sh_50 hS) rfl (by decide) (kc_Tx_here l D k z mi aK aV g N hS e10) (cwV 0 C.2.2.1 (gS_X10_45 _) rfl rfl rfl hd_X10_here ⟨Nat.le_of_ble_eq_true rfl, Nat.le_of_ble_eq_true rfl⟩) rfl hl.1 rfl (Nat.le_of_ble_eq_true rfl) dX10_mods_32 ⟨(czz hX hq.1), (szz hX hq.1)⟩ (fun H locs h => ?_)
        have hC12 : Cl π r9.1 := q11
        refine lv_istore (lv' := [(5, .int (Int32.ofInt r9.2)), (4, .int (Int32.ofInt (fl r5 222 50))), (0, rfv g 50), (2, .int (Int32.ofInt x2)), (3, .int (Int32.ofInt x3))]) C.1 C.2.1 dX10_mods_35 hl (by decide) rfl (fun ls hl => ?_)
        refine lv_iload C.1 C.2.1 dX10_mods_37 (lv_at hl 0 rfl) ?_
        refine lv_bipush (v := Int32.ofInt 42) C.1 C.2.1 dX10_mods_39 (by decide) ?_
        obtain ⟨g13, hm⟩ := grd_s hm
        refine z_icmp_eq (tgt := 51) C dX10_mods_41 (by decide) g13 (by decide) (fun c14 => ?_) (fun c14 => ?_)
        · have hm := ite_t c14 hm
          exact kl_Tx_mods_51 (N := N) C hr hlk hE krec4 hrec4 hC12 hG hX (lv_sub hl [2, 3, 4, 1, 0] rfl) h hm
        · have hm := ite_f c14 hm
          refine lv_iload C.1 C.2.1 dX10_mods_44 (lv_at hl 0 rfl) ?_
          refine lv_bipush (v := Int32.ofInt 47) C.1 C.2.1 dX10_mods_46 (by decide) ?_
          refine z_icmp_ne (tgt := 122) C dX10_mods_48 (by decide) g13 (by decide) (fun c15 => ?_) (fun c15 => ?_)
          · have hm := ite_f c15 hm
            refine lv_iload C.1 C.2.1 dX10_mods_122 (lv_at hl 0 rfl) ?_
            refine lv_bipush (v := Int32.ofInt 40) C.1 C.2.1 dX10_mods_124 (by decide) ?_
            refine z_icmp_ne (tgt := 138) C dX10_mods_126 (by decide) g13 (by decide) (fun c16 => ?_) (fun c16 => ?_)
            · have hm := ite_f c16 hm
              refine lv_iload C.1 C.2.1 dX10_mods_138 (lv_at hl 0 rfl) ?_
              refine lv_bipush (v := Int32.ofInt 63) C.1 C.2.1 dX10_mods_140 (by decide) ?_
              refine z_icmp_ne (tgt := 201) C dX10_mods_142 (by decide) g13 (by decide) (fun c17 => ?_) (fun c17 => ?_)
              · have hm := ite_f c17 hm
                refine lv_iload_n C.1 C.2.1 dX10_mods_201 rfl (lv_at hl 3 rfl) ?_
                cases hm
                exact c_iretA C hG h hr hlk dX10_mods_202 rfl
              · have hm := ite_t c17 hm
                refine z_aload_n C dX10_mods_145 rfl (lv_at hl 2 rfl) ?_
                refine lv_dup C.1 C.2.1 dX10_mods_146 (rfv_cat _ _) ?_
                refine cg_11_2 C h (sh_50 hS) cU_X10 (List.mem_cons_of_mem _ wl_X10_15) dX10_mods_147 ?_
                refine lv_iconst (v := Int32.ofInt 1) C.1 C.2.1 dX10_mods_150 (by decide) ?_
                refine z_iadd C dX10_mods_151 ?_
                refine cp_11_2 C h (sh_50 hS) cU_X10 (List.mem_cons_of_mem _ wl_X10_15) dX10_mods_152 (fun H locs h => ?_)
                refine z_aload_n C dX10_mods_155 rfl (lv_at hl 2 rfl) ?_
                refine cg_11_1 C h (sh_50 hS) cU_X10 (List.mem_cons_of_mem _ wl_X10_9) dX10_mods_156 ?_
                refine x_topv (b := rfv g (fl r9.1 221 50)) rfl ?_
                obtain ⟨σ18, e19, hm⟩ := bnd_s hm
                rw [e19] at h
                have hC20 : Cl π σ18 := e19 ▸ (cl_sfI hC12 (f := 222) rfl _ _)
                have q := km_Tx_mods_162  krec4 ((cl_nO hC20 (by decide) (by decide) _)) lt_nO (lt_ext (cl_fl hC12 (f := 221) rfl 50) (ext_nO π 10 14)) hm
                refine c_new C h hC20 (by decide) dX10_mods_159 rfl cU_X9 tyX9_ok (List.mem_cons_of_mem _ wn_X10_49) (List.mem_cons_of_mem _ wi_X9) (List.mem_cons_of_mem _ wt_X9) (df_X9) (dn_X9 z) (rc1 hX q.1) (rs1 hX q.1) (fun u H hg h => ?_)
                simp only [← gx_rfv hg (sh_50 hS).2.1, ← gx_rfv hg (cl_fl hC12 (f := 221) rfl 50)] at hl
                try simp only [← gx_rfv hg (sh_50 hS).2.1, ← gx_rfv hg (cl_fl hC12 (f := 221) rfl 50)]
                refine W_cast (wcO (c := 10) (w := 14) hX).symm (wsO (c := 10) (w := 14) hX).symm ?_
                exact kl_Tx_mods_162 (N := N) C hr hlk hE  krec4 hrec4 ((cl_nO hC20 (by decide) (by decide) _)) (hG.tr hg hX.1) (hX.tr (ext_nO π 10 14)) lt_nO (lt_ext (cl_fl hC12 (f := 221) rfl 50) (ext_nO π 10 14)) (lv_sub hl [2, 3, 4, 1] rfl) h hm
            · have hm := ite_t c16 hm
              refine z_aload_n C dX10_mods_129 rfl (lv_at hl 2 rfl) ?_
              refine lv_iload_n C.1 C.2.1 dX10_mods_130 rfl (lv_at hl 3 rfl) ?_
              obtain ⟨r22, e23, hm⟩ := obd_s hm
              have q24 := (km_Tx_euclid hC12 e23)
              have q := km_Tx_mods_134  krec4 q24.2  hm
              refine c_callViA C hE h (sh_50 hS) rfl (by decide) (kc_Tx_euclid l D k z mi aK aV g N hC12 e23) (cwV 1 C.2.2.1 (gS_X10_148 _) rfl rfl rfl hd_X10_euclid ⟨Nat.le_of_ble_eq_true rfl, Nat.le_of_ble_eq_true rfl⟩) rfl hl.1 rfl (Nat.le_of_ble_eq_true rfl) dX10_mods_131 ⟨rcC hX q24.1 q.1, rsC hX q24.1 q.1⟩ (fun u H locs hg h => ?_)
              simp only [← gx_rfv hg (sh_50 hS).2.1] at hl
              try simp only [← gx_rfv hg (sh_50 hS).2.1]
              refine W_cast (wcC hX q24.1).symm (wsC hX q24.1).symm ?_
              exact kl_Tx_mods_134 (N := N) C hr hlk hE  krec4 hrec4 q24.2 (hG.tr hg hX.1) (hX.tr q24.1)  (lv_sub hl [2, 4] rfl) h hm
          · have hm := ite_t c15 hm
            exact kl_Tx_mods_51 (N := N) C hr hlk hE krec4 hrec4 hC12 hG hX (lv_sub hl [2, 3, 4, 1, 0] rfl) h hm
set_option maxHeartbeats 8000000 in
set_option maxRecDepth 100000 in
theorem kc_Tx_mods (l : Launch) (D : va_G) (k : Nat → ClassId) (z mi : Nat) (aK aV : Nat → Nat) (g : Nat → Nat) (N : Nat)    {π : Sh} {σ : St} {x1 : Int} {r : Sh × St × Int} (hC : Cl π σ)  (hm : Tx_mods N π σ x1 = some r) : Mi l yX10_mods (.code yX10_mods cX10_mods 7 (some .int) :: cWd) { frames := 9, cells := nn r.1 - nn π, slots := sw r.1 - sw π, locals := 285 } [rfv g 50, .int (Int32.ofInt x1)] D (TYs k) (cW k z g π σ) (XV z mi aK aV (cW k z g π σ)) (Nat → Nat) (fun v u => gx (nn π) g u ∧ v = Int32.ofInt r.2.2) (fun u => cW k z u r.1 r.2.1) (nn r.1 - nn π) (sw r.1 - sw π) := by
  have hS := hC.1
  have hq := km_Tx_mods  hC  hm
  intro sz
  refine v_met (cc := cX10_mods) (maxL := 7) (ret := (some .int)) (lv := [(0, rfv g 50), (1, .int (Int32.ofInt x1))]) (by decide) rfl (by simp [lg_sl, rfv_cat, cat_i, cat_l]) (by simp [lv_args, rfv_cat, cat_i, cat_l]) ?_
  intro p e s m below meth c ls C hE hr hlk hmn hl h
  generalize ([rfv g 50, .int (Int32.ofInt x1)] : List Value).toArray = args at C ⊢
  have hG := gx.rf (nn π) g
  have hX := ext.rf π
  refine W_cast (Nat.sub_self (nn π)) (Nat.sub_self (sw π)) ?_
  rw [Tx_mods] at hm
  refine lv_iload_n C.1 C.2.1 dX10_mods_0 rfl (lv_at hl 1 rfl) ?_
  refine lv_istore_n (lv' := [(2, .int (Int32.ofInt x1)), (0, rfv g 50), (1, .int (Int32.ofInt x1))]) C.1 C.2.1 dX10_mods_1 rfl hl (by decide) rfl (fun ls hl => ?_)
  refine lv_iconst (v := Int32.ofInt 0) C.1 C.2.1 dX10_mods_2 (by decide) ?_
  refine lv_istore_n (lv' := [(3, .int (Int32.ofInt 0)), (2, .int (Int32.ofInt x1)), (0, rfv g 50), (1, .int (Int32.ofInt x1))]) C.1 C.2.1 dX10_mods_3 rfl hl (by decide) rfl (fun ls hl => ?_)
  exact kl_Tx_mods_4 (N := N) C hr hlk hE N hC hG hX (lv_sub hl [2, 1, 0] rfl) h hm
end Z_Tx_mods
section Z_Sc_isDigit
variable {p : Program} {l : Launch} {e : Env} {s : State} {m : MethodId} {args : Array Value} {below : List Frame} {meth : Method} {c : Code} {D : va_G} {A : Nat → Prop} {k : Nat → ClassId} {N : Nat} {cd : Cond}
set_option maxHeartbeats 8000000 in
set_option maxRecDepth 100000 in
theorem kc_Sc_isDigit (l : Launch) (D : va_G) (k : Nat → ClassId) (N : Nat) (x0 : Int) (r : Int) (hm : Sc_isDigit N x0 = some r) : Mi l yX8_isDigit (.code yX8_isDigit cX8_isDigit 1 (some .boolean) :: cWd) { frames := 0, cells := 0, slots := 0, locals := 0 } [.int (Int32.ofInt x0)] D (TYs k) [] (fun _ => True) Unit (fun v _ => v = Int32.ofInt r) (fun _ => []) 0 0 := by
  intro sz
  refine x_met (cc := cX8_isDigit) (maxL := 1) (ret := (some .boolean)) (by decide) rfl (Nat.le_of_ble_eq_true rfl) ?_
  intro p e s m below meth c ls C hX hsz hr hlk hmn hl h
  have hl : lv_has ls 1 [(0, .int (Int32.ofInt x0))] := hl
  rw [Sc_isDigit] at hm
  refine lv_iload_n C.1 C.2.1 dX8_isDigit_0 rfl (lv_at hl 0 rfl) ?_
  refine lv_bipush (v := Int32.ofInt 48) C.1 C.2.1 dX8_isDigit_1 (by decide) ?_
  obtain ⟨g1, hm⟩ := grd_s hm
  refine z_icmp_lt (tgt := 16) C dX8_isDigit_3 (by decide) g1 (by decide) (fun c2 => ?_) (fun c2 => ?_)
  · have hm := ite_t c2 hm
    refine lv_iconst (v := Int32.ofInt 0) C.1 C.2.1 dX8_isDigit_16 (by decide) ?_
    cases hm
    exact v_iretS C h hr hlk dX8_isDigit_17 rfl
  · have hm := ite_f c2 hm
    refine lv_iload_n C.1 C.2.1 dX8_isDigit_6 rfl (lv_at hl 0 rfl) ?_
    refine lv_bipush (v := Int32.ofInt 57) C.1 C.2.1 dX8_isDigit_7 (by decide) ?_
    refine z_icmp_gt (tgt := 16) C dX8_isDigit_9 (by decide) g1 (by decide) (fun c3 => ?_) (fun c3 => ?_)
    · have hm := ite_t c3 hm
      refine lv_iconst (v := Int32.ofInt 0) C.1 C.2.1 dX8_isDigit_16 (by decide) ?_
      cases hm
      exact v_iretS C h hr hlk dX8_isDigit_17 rfl
    · have hm := ite_f c3 hm
      refine lv_iconst (v := Int32.ofInt 1) C.1 C.2.1 dX8_isDigit_12 (by decide) ?_
      refine lv_goto (tgt := 17) C.1 C.2.1 dX8_isDigit_13 (by decide) ?_
      cases hm
      exact v_iretS C h hr hlk dX8_isDigit_17 rfl
end Z_Sc_isDigit
section Z_Sc_isLetter
variable {p : Program} {l : Launch} {e : Env} {s : State} {m : MethodId} {args : Array Value} {below : List Frame} {meth : Method} {c : Code} {D : va_G} {A : Nat → Prop} {k : Nat → ClassId} {N : Nat} {cd : Cond}
set_option maxHeartbeats 8000000 in
set_option maxRecDepth 100000 in
theorem kc_Sc_isLetter (l : Launch) (D : va_G) (k : Nat → ClassId) (N : Nat) (x0 : Int) (r : Int) (hm : Sc_isLetter N x0 = some r) : Mi l yX8_isLetter (.code yX8_isLetter cX8_isLetter 1 (some .boolean) :: cWd) { frames := 0, cells := 0, slots := 0, locals := 0 } [.int (Int32.ofInt x0)] D (TYs k) [] (fun _ => True) Unit (fun v _ => v = Int32.ofInt r) (fun _ => []) 0 0 := by
  intro sz
  refine x_met (cc := cX8_isLetter) (maxL := 1) (ret := (some .boolean)) (by decide) rfl (Nat.le_of_ble_eq_true rfl) ?_
  intro p e s m below meth c ls C hX hsz hr hlk hmn hl h
  have hl : lv_has ls 1 [(0, .int (Int32.ofInt x0))] := hl
  rw [Sc_isLetter] at hm
  refine lv_iload_n C.1 C.2.1 dX8_isLetter_0 rfl (lv_at hl 0 rfl) ?_
  refine lv_bipush (v := Int32.ofInt 97) C.1 C.2.1 dX8_isLetter_1 (by decide) ?_
  obtain ⟨g1, hm⟩ := grd_s hm
  refine z_icmp_lt (tgt := 16) C dX8_isLetter_3 (by decide) g1 (by decide) (fun c2 => ?_) (fun c2 => ?_)
  · have hm := ite_t c2 hm
    refine lv_iconst (v := Int32.ofInt 0) C.1 C.2.1 dX8_isLetter_16 (by decide) ?_
    cases hm
    exact v_iretS C h hr hlk dX8_isLetter_17 rfl
  · have hm := ite_f c2 hm
    refine lv_iload_n C.1 C.2.1 dX8_isLetter_6 rfl (lv_at hl 0 rfl) ?_
    refine lv_bipush (v := Int32.ofInt 122) C.1 C.2.1 dX8_isLetter_7 (by decide) ?_
    refine z_icmp_gt (tgt := 16) C dX8_isLetter_9 (by decide) g1 (by decide) (fun c3 => ?_) (fun c3 => ?_)
    · have hm := ite_t c3 hm
      refine lv_iconst (v := Int32.ofInt 0) C.1 C.2.1 dX8_isLetter_16 (by decide) ?_
      cases hm
      exact v_iretS C h hr hlk dX8_isLetter_17 rfl
    · have hm := ite_f c3 hm
      refine lv_iconst (v := Int32.ofInt 1) C.1 C.2.1 dX8_isLetter_12 (by decide) ?_
      refine lv_goto (tgt := 17) C.1 C.2.1 dX8_isLetter_13 (by decide) ?_
      cases hm
      exact v_iretS C h hr hlk dX8_isLetter_17 rfl
end Z_Sc_isLetter
section Z_Tx_startsPart
variable {p : Program} {l : Launch} {e : Env} {s : State} {m : MethodId} {args : Array Value} {below : List Frame} {meth : Method} {c : Code} {D : va_G} {A : Nat → Prop} {k : Nat → ClassId} {N : Nat} {cd : Cond}
set_option maxHeartbeats 8000000 in
set_option maxRecDepth 100000 in
theorem kl_Tx_startsPart_44 {r : Int} (C : Cx p s m args c cX10_startsPart RX10 (cd :: cWd) D (TYs k) 1) (hr : meth.sig.returnType = (some .boolean)) (hlk : meth.locks = false)    {ls : Array Slot} {H : Heap} {locs : List Loc}   (hl : lv_has ls 1 []) (h : Hp D A s.heap H locs []) (hm : Tx_startsPart_44 N  = some r) : W p l e { frames := 1, cells := 0, slots := 0, locals := 20 } s m args below meth c H locs 0 0 (MQ below (va_Qi (fun v (_ : Unit) => v = Int32.ofInt r) (fun _ t => PostW D (TYs k) A [] t) A) args s 0 0 A) (F0 m 44 ls []) := by
  rw [Tx_startsPart_44] at hm
  refine lv_iconst (v := Int32.ofInt 1) C.1 C.2.1 dX10_startsPart_44 (by decide) ?_
  refine lv_goto (tgt := 49) C.1 C.2.1 dX10_startsPart_45 (by decide) ?_
  cases hm
  exact v_iretS C h hr hlk dX10_startsPart_49 rfl
set_option maxHeartbeats 8000000 in
set_option maxRecDepth 100000 in
theorem kc_Tx_startsPart (l : Launch) (D : va_G) (k : Nat → ClassId) (N : Nat) (x0 : Int) (r : Int) (hm : Tx_startsPart N x0 = some r) : Mi l yX10_startsPart (.code yX10_startsPart cX10_startsPart 1 (some .boolean) :: cWd) { frames := 1, cells := 0, slots := 0, locals := 20 } [.int (Int32.ofInt x0)] D (TYs k) [] (fun _ => True) Unit (fun v _ => v = Int32.ofInt r) (fun _ => []) 0 0 := by
  intro sz
  refine x_met (cc := cX10_startsPart) (maxL := 1) (ret := (some .boolean)) (by decide) rfl (Nat.le_of_ble_eq_true rfl) ?_
  intro p e s m below meth c ls C hX hsz hr hlk hmn hl h
  have hl : lv_has ls 1 [(0, .int (Int32.ofInt x0))] := hl
  rw [Tx_startsPart] at hm
  refine lv_iload_n C.1 C.2.1 dX10_startsPart_0 rfl (lv_at hl 0 rfl) ?_
  obtain ⟨r1, e2, hm⟩ := obd_s hm
  refine v_callSi C h (kc_Sc_isLetter l D k N x0 r1 e2) (v_cwS 1 C.2.2.1 (gC_X8_isLetter _) rfl rfl rfl (C.2.2.1 _ (List.mem_cons_of_mem _ wt_X8)) (C.2.2.1 _ (List.mem_cons_of_mem _ wm_X10_91)) (C.2.2.1 _ (List.mem_cons_of_mem _ ws_X8_isLetter)) hdS_X8_isLetter ⟨Nat.le_of_ble_eq_true rfl, Nat.le_of_ble_eq_true rfl⟩) rfl hl.1 rfl (Nat.le_of_ble_eq_true rfl) dX10_startsPart_1 ⟨(Nat.le_of_ble_eq_true rfl), (Nat.le_of_ble_eq_true rfl)⟩ (fun H locs h => ?_)
  obtain ⟨g3, hm⟩ := grd_s hm
  refine z_if_ne (tgt := 44) C dX10_startsPart_4 (by decide) g3 (fun c4 => ?_) (fun c4 => ?_)
  · have hm := ite_f c4 hm
    exact kl_Tx_startsPart_44 (N := N) C hr hlk (lv_sub hl [] rfl) h hm
  · have hm := ite_t c4 hm
    refine lv_iload_n C.1 C.2.1 dX10_startsPart_7 rfl (lv_at hl 0 rfl) ?_
    obtain ⟨r5, e6, hm⟩ := obd_s hm
    refine v_callSi C h (kc_Sc_isDigit l D k N x0 r5 e6) (v_cwS 1 C.2.2.1 (gC_X8_isDigit _) rfl rfl rfl (C.2.2.1 _ (List.mem_cons_of_mem _ wt_X8)) (C.2.2.1 _ (List.mem_cons_of_mem _ wm_X10_94)) (C.2.2.1 _ (List.mem_cons_of_mem _ ws_X8_isDigit)) hdS_X8_isDigit ⟨Nat.le_of_ble_eq_true rfl, Nat.le_of_ble_eq_true rfl⟩) rfl hl.1 rfl (Nat.le_of_ble_eq_true rfl) dX10_startsPart_8 ⟨(Nat.le_of_ble_eq_true rfl), (Nat.le_of_ble_eq_true rfl)⟩ (fun H locs h => ?_)
    obtain ⟨g7, hm⟩ := grd_s hm
    refine z_if_ne (tgt := 44) C dX10_startsPart_11 (by decide) g7 (fun c8 => ?_) (fun c8 => ?_)
    · have hm := ite_f c8 hm
      exact kl_Tx_startsPart_44 (N := N) C hr hlk (lv_sub hl [] rfl) h hm
    · have hm := ite_t c8 hm
      refine lv_iload_n C.1 C.2.1 dX10_startsPart_14 rfl (lv_at hl 0 rfl) ?_
      refine lv_bipush (v := Int32.ofInt 45) C.1 C.2.1 dX10_startsPart_15 (by decide) ?_
      obtain ⟨g9, hm⟩ := grd_s hm
      refine z_icmp_eq (tgt := 44) C dX10_startsPart_17 (by decide) g9 (by decide) (fun c10 => ?_) (fun c10 => ?_)
      · have hm := ite_t c10 hm
        exact kl_Tx_startsPart_44 (N := N) C hr hlk (lv_sub hl [] rfl) h hm
      · have hm := ite_f c10 hm
        refine lv_iload_n C.1 C.2.1 dX10_startsPart_20 rfl (lv_at hl 0 rfl) ?_
        refine lv_bipush (v := Int32.ofInt 126) C.1 C.2.1 dX10_startsPart_21 (by decide) ?_
        refine z_icmp_eq (tgt := 44) C dX10_startsPart_23 (by decide) g9 (by decide) (fun c11 => ?_) (fun c11 => ?_)
        · have hm := ite_t c11 hm
          exact kl_Tx_startsPart_44 (N := N) C hr hlk (lv_sub hl [] rfl) h hm
        · have hm := ite_f c11 hm
          refine lv_iload_n C.1 C.2.1 dX10_startsPart_26 rfl (lv_at hl 0 rfl) ?_
          refine lv_bipush (v := Int32.ofInt 91) C.1 C.2.1 dX10_startsPart_27 (by decide) ?_
          refine z_icmp_eq (tgt := 44) C dX10_startsPart_29 (by decide) g9 (by decide) (fun c12 => ?_) (fun c12 => ?_)
          · have hm := ite_t c12 hm
            exact kl_Tx_startsPart_44 (N := N) C hr hlk (lv_sub hl [] rfl) h hm
          · have hm := ite_f c12 hm
            refine lv_iload_n C.1 C.2.1 dX10_startsPart_32 rfl (lv_at hl 0 rfl) ?_
            refine lv_bipush (v := Int32.ofInt 60) C.1 C.2.1 dX10_startsPart_33 (by decide) ?_
            refine z_icmp_eq (tgt := 44) C dX10_startsPart_35 (by decide) g9 (by decide) (fun c13 => ?_) (fun c13 => ?_)
            · have hm := ite_t c13 hm
              exact kl_Tx_startsPart_44 (N := N) C hr hlk (lv_sub hl [] rfl) h hm
            · have hm := ite_f c13 hm
              refine lv_iload_n C.1 C.2.1 dX10_startsPart_38 rfl (lv_at hl 0 rfl) ?_
              refine lv_bipush (v := Int32.ofInt 123) C.1 C.2.1 dX10_startsPart_39 (by decide) ?_
              refine z_icmp_ne (tgt := 48) C dX10_startsPart_41 (by decide) g9 (by decide) (fun c14 => ?_) (fun c14 => ?_)
              · have hm := ite_f c14 hm
                refine lv_iconst (v := Int32.ofInt 0) C.1 C.2.1 dX10_startsPart_48 (by decide) ?_
                cases hm
                exact v_iretS C h hr hlk dX10_startsPart_49 rfl
              · have hm := ite_t c14 hm
                exact kl_Tx_startsPart_44 (N := N) C hr hlk (lv_sub hl [] rfl) h hm
end Z_Tx_startsPart
section Z_Sc_byteAt
variable {p : Program} {l : Launch} {e : Env} {s : State} {m : MethodId} {args : Array Value} {below : List Frame} {meth : Method} {c : Code} {D : va_G} {A : Nat → Prop} {k : Nat → ClassId} {N : Nat} {cd : Cond} {z mi : Nat} {aK aV : Nat → Nat} {g : Nat → Nat} {π : Sh}
set_option maxHeartbeats 8000000 in
set_option maxRecDepth 100000 in
theorem kc_Sc_byteAt (l : Launch) (D : va_G) (k : Nat → ClassId) (z mi : Nat) (aK aV : Nat → Nat) (g : Nat → Nat) (N : Nat)    {π : Sh} {σ : St} {x1 : Int} {r : St × Int} (hS : SHs π) (hm : Sc_byteAt N π σ x1 = some r) : Mi l yX8_byteAt (.code yX8_byteAt cX8_byteAt 2 (some .int) :: cWd) { frames := 0, cells := 0, slots := 0, locals := 0 } [rfv g 1, .int (Int32.ofInt x1)] D (TYs k) (cW k z g π σ) (XV z mi aK aV (cW k z g π σ)) Unit (fun v _ => v = Int32.ofInt r.2) (fun _ => cW k z g π r.1) 0 0 := by
  intro sz
  refine v_met (cc := cX8_byteAt) (maxL := 2) (ret := (some .int)) (lv := [(0, rfv g 1), (1, .int (Int32.ofInt x1))]) (by decide) rfl (by simp [lg_sl, rfv_cat, cat_i, cat_l]) (by simp [lv_args, rfv_cat, cat_i, cat_l]) ?_
  intro p e s m below meth c ls C hE hr hlk hmn hl h
  rw [Sc_byteAt] at hm
  refine lv_iload_n C.1 C.2.1 dX8_byteAt_0 rfl (lv_at hl 1 rfl) ?_
  obtain ⟨g1, hm⟩ := grd_s hm
  refine z_if_lt (tgt := 21) C dX8_byteAt_1 (by decide) g1 (fun c2 => ?_) (fun c2 => ?_)
  · have hm := ite_t c2 hm
    refine lv_iconst (v := Int32.ofInt 0) C.1 C.2.1 dX8_byteAt_21 (by decide) ?_
    cases hm
    exact c_iretP C h hr hlk dX8_byteAt_22 rfl
  · have hm := ite_f c2 hm
    refine lv_iload_n C.1 C.2.1 dX8_byteAt_4 rfl (lv_at hl 1 rfl) ?_
    refine z_aload_n C dX8_byteAt_5 rfl (lv_at hl 0 rfl) ?_
    refine cg_9_1 C h (sh_1 hS) cU_X8 (List.mem_cons_of_mem _ wl_X8_15) dX8_byteAt_6 ?_
    obtain ⟨g3, hm⟩ := grd_s hm
    refine z_icmp_ge (tgt := 21) C dX8_byteAt_9 (by decide) g1 g3 (fun c4 => ?_) (fun c4 => ?_)
    · have hm := ite_f c4 hm
      refine lv_iconst (v := Int32.ofInt 0) C.1 C.2.1 dX8_byteAt_21 (by decide) ?_
      cases hm
      exact c_iretP C h hr hlk dX8_byteAt_22 rfl
    · have hm := ite_t c4 hm
      refine z_aload_n C dX8_byteAt_12 rfl (lv_at hl 0 rfl) ?_
      refine cg_9_0 C h (sh_1 hS) cU_X8 (List.mem_cons_of_mem _ wl_X8_9) dX8_byteAt_13 ?_
      refine lv_iload_n C.1 C.2.1 dX8_byteAt_16 rfl (lv_at hl 1 rfl) ?_
      obtain ⟨g5, hm⟩ := grd_s hm
      refine c_bald C h (sh_2 hS) (ina_inb (n := 2000) (sl_2 hS) (Nat.le_of_ble_eq_true rfl) g5) dX8_byteAt_17 ?_
      refine lv_goto (tgt := 22) C.1 C.2.1 dX8_byteAt_18 (by decide) ?_
      cases hm
      exact c_iretP C h hr hlk dX8_byteAt_22 rfl
end Z_Sc_byteAt
section Z_Sp_giveWeighted
variable {p : Program} {l : Launch} {e : Env} {s : State} {m : MethodId} {args : Array Value} {below : List Frame} {meth : Method} {c : Code} {D : va_G} {A : Nat → Prop} {k : Nat → ClassId} {N : Nat} {cd : Cond} {z mi : Nat} {aK aV : Nat → Nat} {g0 : Nat → Nat} {π0 : Sh}
set_option maxHeartbeats 8000000 in
set_option maxRecDepth 100000 in
theorem kl_Sp_giveWeighted_123 {r : Sh × St} (C : Cx p s m args c cX9_giveWeighted RX9 (cd :: cWd) D (TYs k) 4) (hr : meth.sig.returnType = none) (hlk : meth.locks = false) (hE : Ev z mi aK aV A s s.heap)    {ls : Array Slot} {H : Heap} {locs : List Loc} {g : Nat → Nat} {π : Sh} {σ : St} {x0 : Int} {x2 : Int} {x3 : Int} (hC : Cl π σ) (hG : gx (nn π0) g0 g) (hX : ext π0 π) (hv_x0 : x0 < nn π) (hl : lv_has ls 4 [(0, rfv g x0), (2, .int (Int32.ofInt x2)), (3, .int (Int32.ofInt x3))]) (h : Hp D A s.heap H locs (cW k z g π σ)) (hm : Sp_giveWeighted_123 N π σ x0 x2 x3 = some r) : W p l e { frames := 3, cells := nn r.1 - nn π0, slots := sw r.1 - sw π0, locals := 103 } s m args below meth c H locs (nn π - nn π0) (sw π - sw π0) (MQ below (va_Qv (fun u => gx (nn π0) g0 u) (fun u t => PostW D (TYs k) A (cW k z u r.1 r.2) t) A) args s (nn r.1 - nn π0) (sw r.1 - sw π0) A) (F0 m 123 ls []) := by
  have hS := hC.1
  have hq := km_Sp_giveWeighted_123    hC hv_x0 hm
  rw [Sp_giveWeighted_123] at hm
  refine z_aload_n C dX9_giveWeighted_123 rfl (lv_at hl 0 rfl) ?_
  refine lv_dup C.1 C.2.1 dX9_giveWeighted_124 (rfv_cat _ _) ?_
  obtain ⟨g25, hm⟩ := grd_s hm
  refine cg_10_2 C h g25 cU_X9 (List.mem_cons_of_mem _ wl_X9_7) dX9_giveWeighted_125 ?_
  refine lv_iload_n C.1 C.2.1 dX9_giveWeighted_128 rfl (lv_at hl 1 rfl) ?_
  refine lv_iload_n C.1 C.2.1 dX9_giveWeighted_129 rfl (lv_at hl 2 rfl) ?_
  refine z_imul C dX9_giveWeighted_130 ?_
  refine z_iadd C dX9_giveWeighted_131 ?_
  refine cp_10_2 C h g25 cU_X9 (List.mem_cons_of_mem _ wl_X9_7) dX9_giveWeighted_132 (fun H locs h => ?_)
  refine z_aload_n C dX9_giveWeighted_135 rfl (lv_at hl 0 rfl) ?_
  refine cg_10_11 C h g25 cU_X9 (List.mem_cons_of_mem _ wl_X9_41) dX9_giveWeighted_136 ?_
  refine x_topv (b := rfv g (fl σ 211 x0)) rfl ?_
  refine z_aload_n C dX9_giveWeighted_139 rfl (lv_at hl 0 rfl) ?_
  refine cg_10_9 C h g25 cU_X9 (List.mem_cons_of_mem _ wl_X9_34) dX9_giveWeighted_140 ?_
  refine x_topi (y := Int32.ofInt (fl σ 209 x0)) rfl ?_
  refine lv_iconst (v := Int32.ofInt 1) C.1 C.2.1 dX9_giveWeighted_143 (by decide) ?_
  refine z_isub C dX9_giveWeighted_144 ?_
  refine lv_iload_n C.1 C.2.1 dX9_giveWeighted_145 rfl (lv_at hl 1 rfl) ?_
  obtain ⟨g26, hm⟩ := grd_s hm
  obtain ⟨g27, hm⟩ := grd_s hm
  refine c_iast C h g26 g27 dX9_giveWeighted_146 (fun H locs h => ?_)
  refine z_aload_n C dX9_giveWeighted_147 rfl (lv_at hl 0 rfl) ?_
  refine cg_10_12 C h g25 cU_X9 (List.mem_cons_of_mem _ wl_X9_44) dX9_giveWeighted_148 ?_
  refine x_topv (b := rfv g (fl σ 212 x0)) rfl ?_
  refine z_aload_n C dX9_giveWeighted_151 rfl (lv_at hl 0 rfl) ?_
  refine cg_10_9 C h g25 cU_X9 (List.mem_cons_of_mem _ wl_X9_34) dX9_giveWeighted_152 ?_
  refine x_topi (y := Int32.ofInt (fl σ 209 x0)) rfl ?_
  refine lv_iconst (v := Int32.ofInt 1) C.1 C.2.1 dX9_giveWeighted_155 (by decide) ?_
  refine z_isub C dX9_giveWeighted_156 ?_
  refine lv_iload_n C.1 C.2.1 dX9_giveWeighted_157 rfl (lv_at hl 2 rfl) ?_
  obtain ⟨g28, hm⟩ := grd_s hm
  obtain ⟨g29, hm⟩ := grd_s hm
  refine c_iast C h g28 g29 dX9_giveWeighted_158 (fun H locs h => ?_)
  refine z_aload_n C dX9_giveWeighted_159 rfl (lv_at hl 0 rfl) ?_
  refine cg_10_13 C h g25 cU_X9 (List.mem_cons_of_mem _ wl_X9_47) dX9_giveWeighted_160 ?_
  refine x_topv (b := rfv g (fl σ 213 x0)) rfl ?_
  refine z_aload_n C dX9_giveWeighted_163 rfl (lv_at hl 0 rfl) ?_
  refine cg_10_9 C h g25 cU_X9 (List.mem_cons_of_mem _ wl_X9_34) dX9_giveWeighted_164 ?_
  refine x_topi (y := Int32.ofInt (fl σ 209 x0)) rfl ?_
  refine lv_iconst (v := Int32.ofInt 1) C.1 C.2.1 dX9_giveWeighted_167 (by decide) ?_
  refine z_isub C dX9_giveWeighted_168 ?_
  refine z_aload_n C dX9_giveWeighted_169 rfl (lv_at hl 0 rfl) ?_
  refine cg_10_2 C h g25 cU_X9 (List.mem_cons_of_mem _ wl_X9_7) dX9_giveWeighted_170 ?_
  refine x_topi (y := Int32.ofInt ((fl σ 202 x0) + (x2 * x3))) (by simp [fl, sf, se]) ?_
  obtain ⟨g30, hm⟩ := grd_s hm
  obtain ⟨g31, hm⟩ := grd_s hm
  refine c_iast C h g30 g31 dX9_giveWeighted_173 (fun H locs h => ?_)
  cases hm
  exact c_vretA C hG h hr hlk dX9_giveWeighted_174
set_option maxHeartbeats 8000000 in
set_option maxRecDepth 100000 in
theorem kl_Sp_giveWeighted_57 {r : Sh × St} (C : Cx p s m args c cX9_giveWeighted RX9 (cd :: cWd) D (TYs k) 4) (hr : meth.sig.returnType = none) (hlk : meth.locks = false) (hE : Ev z mi aK aV A s s.heap)    {ls : Array Slot} {H : Heap} {locs : List Loc} {g : Nat → Nat} {π : Sh} {σ : St} {x0 : Int} {x2 : Int} {x3 : Int} {s0 : Int} {s1 : Int} (hC : Cl π σ) (hG : gx (nn π0) g0 g) (hX : ext π0 π) (hv_x0 : x0 < nn π) (hv_s0 : s0 < nn π) (hv_s1 : s1 < nn π) (hl : lv_has ls 4 [(0, rfv g x0), (2, .int (Int32.ofInt x2)), (3, .int (Int32.ofInt x3))]) (h : Hp D A s.heap H locs (cW k z g π σ)) (hm : Sp_giveWeighted_57 N π σ x0 x2 x3 s0 s1 = some r) : W p l e { frames := 3, cells := nn r.1 - nn π0, slots := sw r.1 - sw π0, locals := 103 } s m args below meth c H locs (nn π - nn π0) (sw π - sw π0) (MQ below (va_Qv (fun u => gx (nn π0) g0 u) (fun u t => PostW D (TYs k) A (cW k z u r.1 r.2) t) A) args s (nn r.1 - nn π0) (sw r.1 - sw π0) A) (F0 m 57 ls [rfv g s0, rfv g s1]) := by
  have hS := hC.1
  have hq := km_Sp_giveWeighted_57    hC hv_x0 hv_s0 hv_s1 hm
  rw [Sp_giveWeighted_57] at hm
  obtain ⟨g73, hm⟩ := grd_s hm
  refine cp_10_13 C h g73 cU_X9 (List.mem_cons_of_mem _ wl_X9_47) dX9_giveWeighted_57 (fun H locs h => ?_)
  refine lv_goto (tgt := 123) C.1 C.2.1 dX9_giveWeighted_60 (by decide) ?_
  exact kl_Sp_giveWeighted_123 (N := N) C hr hlk hE (cl_sfR hC _ _ hv_s0) hG hX hv_x0 (lv_sub hl [0, 1, 2] rfl) h hm
set_option maxHeartbeats 8000000 in
set_option maxRecDepth 100000 in
theorem kl_Sp_giveWeighted_46 {r : Sh × St} (C : Cx p s m args c cX9_giveWeighted RX9 (cd :: cWd) D (TYs k) 4) (hr : meth.sig.returnType = none) (hlk : meth.locks = false) (hE : Ev z mi aK aV A s s.heap)    {ls : Array Slot} {H : Heap} {locs : List Loc} {g : Nat → Nat} {π : Sh} {σ : St} {x0 : Int} {x2 : Int} {x3 : Int} {s0 : Int} {s1 : Int} (hC : Cl π σ) (hG : gx (nn π0) g0 g) (hX : ext π0 π) (hv_x0 : x0 < nn π) (hv_s0 : s0 < nn π) (hv_s1 : s1 < nn π) (hl : lv_has ls 4 [(0, rfv g x0), (2, .int (Int32.ofInt x2)), (3, .int (Int32.ofInt x3))]) (h : Hp D A s.heap H locs (cW k z g π σ)) (hm : Sp_giveWeighted_46 N π σ x0 x2 x3 s0 s1 = some r) : W p l e { frames := 3, cells := nn r.1 - nn π0, slots := sw r.1 - sw π0, locals := 103 } s m args below meth c H locs (nn π - nn π0) (sw π - sw π0) (MQ below (va_Qv (fun u => gx (nn π0) g0 u) (fun u t => PostW D (TYs k) A (cW k z u r.1 r.2) t) A) args s (nn r.1 - nn π0) (sw r.1 - sw π0) A) (F0 m 46 ls [rfv g s0, rfv g s1]) := by
  have hS := hC.1
  have hq := km_Sp_giveWeighted_46    hC hv_x0 hv_s0 hv_s1 hm
  rw [Sp_giveWeighted_46] at hm
  obtain ⟨g62, hm⟩ := grd_s hm
  refine cp_10_12 C h g62 cU_X9 (List.mem_cons_of_mem _ wl_X9_44) dX9_giveWeighted_46 (fun H locs h => ?_)
  refine z_aload_n C dX9_giveWeighted_49 rfl (lv_at hl 0 rfl) ?_
  refine z_aload_n C dX9_giveWeighted_50 rfl (lv_at hl 0 rfl) ?_
  obtain ⟨g63, hm⟩ := grd_s hm
  refine cg_10_10 C h g63 cU_X9 (List.mem_cons_of_mem _ wl_X9_37) dX9_giveWeighted_51 ?_
  refine x_topv (b := rfv g (fl σ 210 x0)) rfl ?_
  obtain ⟨g64, hm⟩ := grd_s hm
  obtain ⟨g65, hm⟩ := grd_s hm
  refine c_alen C h (t := 2) rfl g64 g65 dX9_giveWeighted_54 ?_
  obtain ⟨σ66, e67, hm⟩ := bnd_s hm
  rw [e67] at h
  have hC68 : Cl π σ66 := e67 ▸ (cl_sfR hC _ _ hv_s0)
  obtain ⟨g70, hm⟩ := grd_s hm
  obtain ⟨g71, hm⟩ := grd_s hm
  have q := km_Sp_giveWeighted_57   ((cl_nA hC68 (t := 2) (by decide) _)) (lt_ext hv_x0 (ext_nA π 2 (ln π (fl σ 210 x0)))) lt_nA (lt_ext hv_x0 (ext_nA π 2 (ln π (fl σ 210 x0)))) hm
  refine c_newa_int C h hC68 dX9_giveWeighted_55 (List.mem_cons_of_mem _ wa_int) g70 g71 (rc1A hX q.1) (rs1A hX q.1) (fun u H hg h => ?_)
  simp only [← gx_rfv hg hv_x0] at hl
  try simp only [← gx_rfv hg hv_x0]
  refine W_cast (wcA (t := 2) (n := (ln π (fl σ 210 x0))) hX).symm (wsA (t := 2) (n := (ln π (fl σ 210 x0))) hX).symm ?_
  exact kl_Sp_giveWeighted_57 (N := N) C hr hlk hE   ((cl_nA hC68 (t := 2) (by decide) _)) (hG.tr hg hX.1) (hX.tr (ext_nA π 2 (ln π (fl σ 210 x0)))) (lt_ext hv_x0 (ext_nA π 2 (ln π (fl σ 210 x0)))) lt_nA (lt_ext hv_x0 (ext_nA π 2 (ln π (fl σ 210 x0)))) (lv_sub hl [0, 1, 2] rfl) h hm
set_option maxHeartbeats 8000000 in
set_option maxRecDepth 100000 in
theorem kl_Sp_giveWeighted_35 {r : Sh × St} (C : Cx p s m args c cX9_giveWeighted RX9 (cd :: cWd) D (TYs k) 4) (hr : meth.sig.returnType = none) (hlk : meth.locks = false) (hE : Ev z mi aK aV A s s.heap)    {ls : Array Slot} {H : Heap} {locs : List Loc} {g : Nat → Nat} {π : Sh} {σ : St} {x0 : Int} {x2 : Int} {x3 : Int} {s0 : Int} {s1 : Int} (hC : Cl π σ) (hG : gx (nn π0) g0 g) (hX : ext π0 π) (hv_x0 : x0 < nn π) (hv_s0 : s0 < nn π) (hv_s1 : s1 < nn π) (hl : lv_has ls 4 [(0, rfv g x0), (2, .int (Int32.ofInt x2)), (3, .int (Int32.ofInt x3))]) (h : Hp D A s.heap H locs (cW k z g π σ)) (hm : Sp_giveWeighted_35 N π σ x0 x2 x3 s0 s1 = some r) : W p l e { frames := 3, cells := nn r.1 - nn π0, slots := sw r.1 - sw π0, locals := 103 } s m args below meth c H locs (nn π - nn π0) (sw π - sw π0) (MQ below (va_Qv (fun u => gx (nn π0) g0 u) (fun u t => PostW D (TYs k) A (cW k z u r.1 r.2) t) A) args s (nn r.1 - nn π0) (sw r.1 - sw π0) A) (F0 m 35 ls [rfv g s0, rfv g s1]) := by
  have hS := hC.1
  have hq := km_Sp_giveWeighted_35    hC hv_x0 hv_s0 hv_s1 hm
  rw [Sp_giveWeighted_35] at hm
  obtain ⟨g42, hm⟩ := grd_s hm
  refine cp_10_11 C h g42 cU_X9 (List.mem_cons_of_mem _ wl_X9_41) dX9_giveWeighted_35 (fun H locs h => ?_)
  refine z_aload_n C dX9_giveWeighted_38 rfl (lv_at hl 0 rfl) ?_
  refine z_aload_n C dX9_giveWeighted_39 rfl (lv_at hl 0 rfl) ?_
  obtain ⟨g43, hm⟩ := grd_s hm
  refine cg_10_10 C h g43 cU_X9 (List.mem_cons_of_mem _ wl_X9_37) dX9_giveWeighted_40 ?_
  refine x_topv (b := rfv g (fl σ 210 x0)) rfl ?_
  obtain ⟨g44, hm⟩ := grd_s hm
  obtain ⟨g45, hm⟩ := grd_s hm
  refine c_alen C h (t := 2) rfl g44 g45 dX9_giveWeighted_43 ?_
  obtain ⟨σ46, e47, hm⟩ := bnd_s hm
  rw [e47] at h
  have hC48 : Cl π σ46 := e47 ▸ (cl_sfR hC _ _ hv_s0)
  obtain ⟨g50, hm⟩ := grd_s hm
  obtain ⟨g51, hm⟩ := grd_s hm
  have q := km_Sp_giveWeighted_46   ((cl_nA hC48 (t := 2) (by decide) _)) (lt_ext hv_x0 (ext_nA π 2 (ln π (fl σ 210 x0)))) lt_nA (lt_ext hv_x0 (ext_nA π 2 (ln π (fl σ 210 x0)))) hm
  refine c_newa_int C h hC48 dX9_giveWeighted_44 (List.mem_cons_of_mem _ wa_int) g50 g51 (rc1A hX q.1) (rs1A hX q.1) (fun u H hg h => ?_)
  simp only [← gx_rfv hg hv_x0] at hl
  try simp only [← gx_rfv hg hv_x0]
  refine W_cast (wcA (t := 2) (n := (ln π (fl σ 210 x0))) hX).symm (wsA (t := 2) (n := (ln π (fl σ 210 x0))) hX).symm ?_
  exact kl_Sp_giveWeighted_46 (N := N) C hr hlk hE   ((cl_nA hC48 (t := 2) (by decide) _)) (hG.tr hg hX.1) (hX.tr (ext_nA π 2 (ln π (fl σ 210 x0)))) (lt_ext hv_x0 (ext_nA π 2 (ln π (fl σ 210 x0)))) lt_nA (lt_ext hv_x0 (ext_nA π 2 (ln π (fl σ 210 x0)))) (lv_sub hl [0, 1, 2] rfl) h hm
set_option maxHeartbeats 8000000 in
set_option maxRecDepth 100000 in
theorem kl_Sp_giveWeighted_27 {r : Sh × St} (C : Cx p s m args c cX9_giveWeighted RX9 (cd :: cWd) D (TYs k) 4) (hr : meth.sig.returnType = none) (hlk : meth.locks = false) (hE : Ev z mi aK aV A s s.heap)    {ls : Array Slot} {H : Heap} {locs : List Loc} {g : Nat → Nat} {π : Sh} {σ : St} {x0 : Int} {x2 : Int} {x3 : Int} (hC : Cl π σ) (hG : gx (nn π0) g0 g) (hX : ext π0 π) (hv_x0 : x0 < nn π) (hl : lv_has ls 4 [(0, rfv g x0), (2, .int (Int32.ofInt x2)), (3, .int (Int32.ofInt x3))]) (h : Hp D A s.heap H locs (cW k z g π σ)) (hm : Sp_giveWeighted_27 N π σ x0 x2 x3 = some r) : W p l e { frames := 3, cells := nn r.1 - nn π0, slots := sw r.1 - sw π0, locals := 103 } s m args below meth c H locs (nn π - nn π0) (sw π - sw π0) (MQ below (va_Qv (fun u => gx (nn π0) g0 u) (fun u t => PostW D (TYs k) A (cW k z u r.1 r.2) t) A) args s (nn r.1 - nn π0) (sw r.1 - sw π0) A) (F0 m 27 ls []) := by
  have hS := hC.1
  have hq := km_Sp_giveWeighted_27    hC hv_x0 hm
  rw [Sp_giveWeighted_27] at hm
  refine z_aload_n C dX9_giveWeighted_27 rfl (lv_at hl 0 rfl) ?_
  refine z_aload_n C dX9_giveWeighted_28 rfl (lv_at hl 0 rfl) ?_
  obtain ⟨g19, hm⟩ := grd_s hm
  refine cg_10_10 C h g19 cU_X9 (List.mem_cons_of_mem _ wl_X9_37) dX9_giveWeighted_29 ?_
  obtain ⟨g20, hm⟩ := grd_s hm
  obtain ⟨g21, hm⟩ := grd_s hm
  refine c_alen C h (t := 2) rfl g20 g21 dX9_giveWeighted_32 ?_
  obtain ⟨g23, hm⟩ := grd_s hm
  obtain ⟨g24, hm⟩ := grd_s hm
  have q := km_Sp_giveWeighted_35   ((cl_nA hC (t := 2) (by decide) _)) (lt_ext hv_x0 (ext_nA π 2 (ln π (fl σ 210 x0)))) lt_nA (lt_ext hv_x0 (ext_nA π 2 (ln π (fl σ 210 x0)))) hm
  refine c_newa_int C h hC dX9_giveWeighted_33 (List.mem_cons_of_mem _ wa_int) g23 g24 (rc1A hX q.1) (rs1A hX q.1) (fun u H hg h => ?_)
  simp only [← gx_rfv hg hv_x0] at hl
  try simp only [← gx_rfv hg hv_x0]
  refine W_cast (wcA (t := 2) (n := (ln π (fl σ 210 x0))) hX).symm (wsA (t := 2) (n := (ln π (fl σ 210 x0))) hX).symm ?_
  exact kl_Sp_giveWeighted_35 (N := N) C hr hlk hE   ((cl_nA hC (t := 2) (by decide) _)) (hG.tr hg hX.1) (hX.tr (ext_nA π 2 (ln π (fl σ 210 x0)))) (lt_ext hv_x0 (ext_nA π 2 (ln π (fl σ 210 x0)))) lt_nA (lt_ext hv_x0 (ext_nA π 2 (ln π (fl σ 210 x0)))) (lv_sub hl [0, 1, 2] rfl) h hm
set_option maxHeartbeats 8000000 in
set_option maxRecDepth 100000 in
theorem kl_Sp_giveWeighted_120 {r : Sh × St} (C : Cx p s m args c cX9_giveWeighted RX9 (cd :: cWd) D (TYs k) 4) (hr : meth.sig.returnType = none) (hlk : meth.locks = false) (hE : Ev z mi aK aV A s s.heap)    {ls : Array Slot} {H : Heap} {locs : List Loc} {g : Nat → Nat} {π : Sh} {σ : St} {x0 : Int} {x2 : Int} {x3 : Int} {s0 : Int} {s1 : Int} (hC : Cl π σ) (hG : gx (nn π0) g0 g) (hX : ext π0 π) (hv_x0 : x0 < nn π) (hv_s0 : s0 < nn π) (hv_s1 : s1 < nn π) (hl : lv_has ls 4 [(0, rfv g x0), (2, .int (Int32.ofInt x2)), (3, .int (Int32.ofInt x3))]) (h : Hp D A s.heap H locs (cW k z g π σ)) (hm : Sp_giveWeighted_120 N π σ x0 x2 x3 s0 s1 = some r) : W p l e { frames := 3, cells := nn r.1 - nn π0, slots := sw r.1 - sw π0, locals := 103 } s m args below meth c H locs (nn π - nn π0) (sw π - sw π0) (MQ below (va_Qv (fun u => gx (nn π0) g0 u) (fun u t => PostW D (TYs k) A (cW k z u r.1 r.2) t) A) args s (nn r.1 - nn π0) (sw r.1 - sw π0) A) (F0 m 120 ls [rfv g s0, rfv g s1]) := by
  have hS := hC.1
  have hq := km_Sp_giveWeighted_120    hC hv_x0 hv_s0 hv_s1 hm
  rw [Sp_giveWeighted_120] at hm
  obtain ⟨g72, hm⟩ := grd_s hm
  refine cp_10_13 C h g72 cU_X9 (List.mem_cons_of_mem _ wl_X9_47) dX9_giveWeighted_120 (fun H locs h => ?_)
  exact kl_Sp_giveWeighted_123 (N := N) C hr hlk hE (cl_sfR hC _ _ hv_s0) hG hX hv_x0 (lv_sub hl [0, 1, 2] rfl) h hm
set_option maxHeartbeats 8000000 in
set_option maxRecDepth 100000 in
theorem kl_Sp_giveWeighted_104 {r : Sh × St} (C : Cx p s m args c cX9_giveWeighted RX9 (cd :: cWd) D (TYs k) 4) (hr : meth.sig.returnType = none) (hlk : meth.locks = false) (hE : Ev z mi aK aV A s s.heap)    {ls : Array Slot} {H : Heap} {locs : List Loc} {g : Nat → Nat} {π : Sh} {σ : St} {x0 : Int} {x2 : Int} {x3 : Int} {s0 : Int} {s1 : Int} (hC : Cl π σ) (hG : gx (nn π0) g0 g) (hX : ext π0 π) (hv_x0 : x0 < nn π) (hv_s0 : s0 < nn π) (hv_s1 : s1 < nn π) (hl : lv_has ls 4 [(0, rfv g x0), (2, .int (Int32.ofInt x2)), (3, .int (Int32.ofInt x3))]) (h : Hp D A s.heap H locs (cW k z g π σ)) (hm : Sp_giveWeighted_104 N π σ x0 x2 x3 s0 s1 = some r) : W p l e { frames := 3, cells := nn r.1 - nn π0, slots := sw r.1 - sw π0, locals := 103 } s m args below meth c H locs (nn π - nn π0) (sw π - sw π0) (MQ below (va_Qv (fun u => gx (nn π0) g0 u) (fun u t => PostW D (TYs k) A (cW k z u r.1 r.2) t) A) args s (nn r.1 - nn π0) (sw r.1 - sw π0) A) (F0 m 104 ls [rfv g s0, rfv g s1]) := by
  have hS := hC.1
  have hq := km_Sp_giveWeighted_104    hC hv_x0 hv_s0 hv_s1 hm
  rw [Sp_giveWeighted_104] at hm
  obtain ⟨g52, hm⟩ := grd_s hm
  refine cp_10_12 C h g52 cU_X9 (List.mem_cons_of_mem _ wl_X9_44) dX9_giveWeighted_104 (fun H locs h => ?_)
  refine z_aload_n C dX9_giveWeighted_107 rfl (lv_at hl 0 rfl) ?_
  refine z_aload_n C dX9_giveWeighted_108 rfl (lv_at hl 0 rfl) ?_
  obtain ⟨g53, hm⟩ := grd_s hm
  refine cg_10_13 C h g53 cU_X9 (List.mem_cons_of_mem _ wl_X9_47) dX9_giveWeighted_109 ?_
  refine x_topv (b := rfv g (fl σ 213 x0)) rfl ?_
  refine z_aload_n C dX9_giveWeighted_112 rfl (lv_at hl 0 rfl) ?_
  refine cg_10_10 C h g53 cU_X9 (List.mem_cons_of_mem _ wl_X9_37) dX9_giveWeighted_113 ?_
  refine x_topv (b := rfv g (fl σ 210 x0)) rfl ?_
  obtain ⟨g54, hm⟩ := grd_s hm
  obtain ⟨g55, hm⟩ := grd_s hm
  refine c_alen C h (t := 2) rfl g54 g55 dX9_giveWeighted_116 ?_
  obtain ⟨σ56, e57, hm⟩ := bnd_s hm
  rw [e57] at h
  have hC58 : Cl π σ56 := e57 ▸ (cl_sfR hC _ _ hv_s0)
  obtain ⟨r59, e60, hm⟩ := obd_s hm
  have q61 := (km_A_copy hC58 (cl_fl hC (f := 213) rfl x0) e60)
  have q := km_Sp_giveWeighted_120   q61.2.1 (lt_ext hv_x0 q61.1) q61.2.2 (lt_ext hv_x0 q61.1) hm
  refine c_callSqA C hE h (kc_A_copy l D k z mi aK aV g hC58 (cl_fl hC (f := 213) rfl x0) e60) (v_cwS 2 C.2.2.1 (gC_J7_copyOf_59c91 _) rfl rfl rfl (C.2.2.1 _ (List.mem_cons_of_mem _ wt_J7)) (C.2.2.1 _ (List.mem_cons_of_mem _ wm_X9_56)) (C.2.2.1 _ (List.mem_cons_of_mem _ ws_J7_copyOf_59c91)) hdS_J7_copyOf_59c91 ⟨Nat.le_of_ble_eq_true rfl, Nat.le_of_ble_eq_true rfl⟩) rfl hl.1 rfl (by simp [rfv_cat, cat_i, cat_l]) dX9_giveWeighted_117 ⟨rcC hX q61.1 q.1, rsC hX q61.1 q.1⟩ (fun u H locs hg h => ?_)
  simp only [← gx_rfv hg hv_x0] at hl
  try simp only [← gx_rfv hg hv_x0]
  refine W_cast (wcC hX q61.1).symm (wsC hX q61.1).symm ?_
  exact kl_Sp_giveWeighted_120 (N := N) C hr hlk hE   q61.2.1 (hG.tr hg hX.1) (hX.tr q61.1) (lt_ext hv_x0 q61.1) q61.2.2 (lt_ext hv_x0 q61.1) (lv_sub hl [0, 1, 2] rfl) h hm
set_option maxHeartbeats 8000000 in
set_option maxRecDepth 100000 in
theorem kl_Sp_giveWeighted_88 {r : Sh × St} (C : Cx p s m args c cX9_giveWeighted RX9 (cd :: cWd) D (TYs k) 4) (hr : meth.sig.returnType = none) (hlk : meth.locks = false) (hE : Ev z mi aK aV A s s.heap)    {ls : Array Slot} {H : Heap} {locs : List Loc} {g : Nat → Nat} {π : Sh} {σ : St} {x0 : Int} {x2 : Int} {x3 : Int} {s0 : Int} {s1 : Int} (hC : Cl π σ) (hG : gx (nn π0) g0 g) (hX : ext π0 π) (hv_x0 : x0 < nn π) (hv_s0 : s0 < nn π) (hv_s1 : s1 < nn π) (hl : lv_has ls 4 [(0, rfv g x0), (2, .int (Int32.ofInt x2)), (3, .int (Int32.ofInt x3))]) (h : Hp D A s.heap H locs (cW k z g π σ)) (hm : Sp_giveWeighted_88 N π σ x0 x2 x3 s0 s1 = some r) : W p l e { frames := 3, cells := nn r.1 - nn π0, slots := sw r.1 - sw π0, locals := 103 } s m args below meth c H locs (nn π - nn π0) (sw π - sw π0) (MQ below (va_Qv (fun u => gx (nn π0) g0 u) (fun u t => PostW D (TYs k) A (cW k z u r.1 r.2) t) A) args s (nn r.1 - nn π0) (sw r.1 - sw π0) A) (F0 m 88 ls [rfv g s0, rfv g s1]) := by
  have hS := hC.1
  have hq := km_Sp_giveWeighted_88    hC hv_x0 hv_s0 hv_s1 hm
  rw [Sp_giveWeighted_88] at hm
  obtain ⟨g32, hm⟩ := grd_s hm
  refine cp_10_11 C h g32 cU_X9 (List.mem_cons_of_mem _ wl_X9_41) dX9_giveWeighted_88 (fun H locs h => ?_)
  refine z_aload_n C dX9_giveWeighted_91 rfl (lv_at hl 0 rfl) ?_
  refine z_aload_n C dX9_giveWeighted_92 rfl (lv_at hl 0 rfl) ?_
  obtain ⟨g33, hm⟩ := grd_s hm
  refine cg_10_12 C h g33 cU_X9 (List.mem_cons_of_mem _ wl_X9_44) dX9_giveWeighted_93 ?_
  refine x_topv (b := rfv g (fl σ 212 x0)) rfl ?_
  refine z_aload_n C dX9_giveWeighted_96 rfl (lv_at hl 0 rfl) ?_
  refine cg_10_10 C h g33 cU_X9 (List.mem_cons_of_mem _ wl_X9_37) dX9_giveWeighted_97 ?_
  refine x_topv (b := rfv g (fl σ 210 x0)) rfl ?_
  obtain ⟨g34, hm⟩ := grd_s hm
  obtain ⟨g35, hm⟩ := grd_s hm
  refine c_alen C h (t := 2) rfl g34 g35 dX9_giveWeighted_100 ?_
  obtain ⟨σ36, e37, hm⟩ := bnd_s hm
  rw [e37] at h
  have hC38 : Cl π σ36 := e37 ▸ (cl_sfR hC _ _ hv_s0)
  obtain ⟨r39, e40, hm⟩ := obd_s hm
  have q41 := (km_A_copy hC38 (cl_fl hC (f := 212) rfl x0) e40)
  have q := km_Sp_giveWeighted_104   q41.2.1 (lt_ext hv_x0 q41.1) q41.2.2 (lt_ext hv_x0 q41.1) hm
  refine c_callSqA C hE h (kc_A_copy l D k z mi aK aV g hC38 (cl_fl hC (f := 212) rfl x0) e40) (v_cwS 2 C.2.2.1 (gC_J7_copyOf_59c91 _) rfl rfl rfl (C.2.2.1 _ (List.mem_cons_of_mem _ wt_J7)) (C.2.2.1 _ (List.mem_cons_of_mem _ wm_X9_56)) (C.2.2.1 _ (List.mem_cons_of_mem _ ws_J7_copyOf_59c91)) hdS_J7_copyOf_59c91 ⟨Nat.le_of_ble_eq_true rfl, Nat.le_of_ble_eq_true rfl⟩) rfl hl.1 rfl (by simp [rfv_cat, cat_i, cat_l]) dX9_giveWeighted_101 ⟨rcC hX q41.1 q.1, rsC hX q41.1 q.1⟩ (fun u H locs hg h => ?_)
  simp only [← gx_rfv hg hv_x0] at hl
  try simp only [← gx_rfv hg hv_x0]
  refine W_cast (wcC hX q41.1).symm (wsC hX q41.1).symm ?_
  exact kl_Sp_giveWeighted_104 (N := N) C hr hlk hE   q41.2.1 (hG.tr hg hX.1) (hX.tr q41.1) (lt_ext hv_x0 q41.1) q41.2.2 (lt_ext hv_x0 q41.1) (lv_sub hl [0, 1, 2] rfl) h hm
set_option maxHeartbeats 8000000 in
set_option maxRecDepth 100000 in
theorem kl_Sp_giveWeighted_5 {r : Sh × St} (C : Cx p s m args c cX9_giveWeighted RX9 (cd :: cWd) D (TYs k) 4) (hr : meth.sig.returnType = none) (hlk : meth.locks = false) (hE : Ev z mi aK aV A s s.heap)    {ls : Array Slot} {H : Heap} {locs : List Loc} {g : Nat → Nat} {π : Sh} {σ : St} {x0 : Int} {x2 : Int} {x3 : Int} {s0 : Int} (hC : Cl π σ) (hG : gx (nn π0) g0 g) (hX : ext π0 π) (hv_x0 : x0 < nn π) (hv_s0 : s0 < nn π) (hl : lv_has ls 4 [(0, rfv g x0), (2, .int (Int32.ofInt x2)), (3, .int (Int32.ofInt x3))]) (h : Hp D A s.heap H locs (cW k z g π σ)) (hm : Sp_giveWeighted_5 N π σ x0 x2 x3 s0 = some r) : W p l e { frames := 3, cells := nn r.1 - nn π0, slots := sw r.1 - sw π0, locals := 103 } s m args below meth c H locs (nn π - nn π0) (sw π - sw π0) (MQ below (va_Qv (fun u => gx (nn π0) g0 u) (fun u t => PostW D (TYs k) A (cW k z u r.1 r.2) t) A) args s (nn r.1 - nn π0) (sw r.1 - sw π0) A) (F0 m 5 ls [rfv g s0]) := by
  have hS := hC.1
  have hq := km_Sp_giveWeighted_5    hC hv_x0 hv_s0 hm
  rw [Sp_giveWeighted_5] at hm
  refine lv_pop C.1 C.2.1 dX9_giveWeighted_5 (rfv_cat _ _) ?_
  refine z_aload_n C dX9_giveWeighted_6 rfl (lv_at hl 0 rfl) ?_
  obtain ⟨g5, hm⟩ := grd_s hm
  refine cg_10_11 C h g5 cU_X9 (List.mem_cons_of_mem _ wl_X9_41) dX9_giveWeighted_7 ?_
  refine z_ifnull (tgt := 27) C dX9_giveWeighted_10 (by decide) (fun c6 => ?_) (fun c6 => ?_)
  · have hm := ite_t c6 hm
    exact kl_Sp_giveWeighted_27 (N := N) C hr hlk hE hC hG hX hv_x0 (lv_sub hl [0, 1, 2] rfl) h hm
  · have hm := ite_f c6 hm
    refine z_aload_n C dX9_giveWeighted_13 rfl (lv_at hl 0 rfl) ?_
    refine cg_10_12 C h g5 cU_X9 (List.mem_cons_of_mem _ wl_X9_44) dX9_giveWeighted_14 ?_
    refine z_ifnull (tgt := 27) C dX9_giveWeighted_17 (by decide) (fun c7 => ?_) (fun c7 => ?_)
    · have hm := ite_t c7 hm
      exact kl_Sp_giveWeighted_27 (N := N) C hr hlk hE hC hG hX hv_x0 (lv_sub hl [0, 1, 2] rfl) h hm
    · have hm := ite_f c7 hm
      refine z_aload_n C dX9_giveWeighted_20 rfl (lv_at hl 0 rfl) ?_
      refine cg_10_13 C h g5 cU_X9 (List.mem_cons_of_mem _ wl_X9_47) dX9_giveWeighted_21 ?_
      refine z_ifnonnull (tgt := 63) C dX9_giveWeighted_24 (by decide) (fun c8 => ?_) (fun c8 => ?_)
      · have hm := ite_f c8 hm
        refine z_aload_n C dX9_giveWeighted_63 rfl (lv_at hl 0 rfl) ?_
        refine cg_10_11 C h g5 cU_X9 (List.mem_cons_of_mem _ wl_X9_41) dX9_giveWeighted_64 ?_
        obtain ⟨g9, hm⟩ := grd_s hm
        obtain ⟨g10, hm⟩ := grd_s hm
        refine c_alen C h (t := 2) rfl g9 g10 dX9_giveWeighted_67 ?_
        refine z_aload_n C dX9_giveWeighted_68 rfl (lv_at hl 0 rfl) ?_
        refine cg_10_9 C h g5 cU_X9 (List.mem_cons_of_mem _ wl_X9_34) dX9_giveWeighted_69 ?_
        obtain ⟨g11, hm⟩ := grd_s hm
        obtain ⟨g12, hm⟩ := grd_s hm
        refine z_icmp_ge (tgt := 123) C dX9_giveWeighted_72 (by decide) g11 g12 (fun c13 => ?_) (fun c13 => ?_)
        · have hm := ite_f c13 hm
          exact kl_Sp_giveWeighted_123 (N := N) C hr hlk hE hC hG hX hv_x0 (lv_sub hl [0, 1, 2] rfl) h hm
        · have hm := ite_t c13 hm
          refine z_aload_n C dX9_giveWeighted_75 rfl (lv_at hl 0 rfl) ?_
          refine z_aload_n C dX9_giveWeighted_76 rfl (lv_at hl 0 rfl) ?_
          refine cg_10_11 C h g5 cU_X9 (List.mem_cons_of_mem _ wl_X9_41) dX9_giveWeighted_77 ?_
          refine z_aload_n C dX9_giveWeighted_80 rfl (lv_at hl 0 rfl) ?_
          refine cg_10_10 C h g5 cU_X9 (List.mem_cons_of_mem _ wl_X9_37) dX9_giveWeighted_81 ?_
          obtain ⟨g14, hm⟩ := grd_s hm
          obtain ⟨g15, hm⟩ := grd_s hm
          refine c_alen C h (t := 2) rfl g14 g15 dX9_giveWeighted_84 ?_
          obtain ⟨r16, e17, hm⟩ := obd_s hm
          have q18 := (km_A_copy hC (cl_fl hC (f := 211) rfl x0) e17)
          have q := km_Sp_giveWeighted_88   q18.2.1 (lt_ext hv_x0 q18.1) q18.2.2 (lt_ext hv_x0 q18.1) hm
          refine c_callSqA C hE h (kc_A_copy l D k z mi aK aV g hC (cl_fl hC (f := 211) rfl x0) e17) (v_cwS 2 C.2.2.1 (gC_J7_copyOf_59c91 _) rfl rfl rfl (C.2.2.1 _ (List.mem_cons_of_mem _ wt_J7)) (C.2.2.1 _ (List.mem_cons_of_mem _ wm_X9_56)) (C.2.2.1 _ (List.mem_cons_of_mem _ ws_J7_copyOf_59c91)) hdS_J7_copyOf_59c91 ⟨Nat.le_of_ble_eq_true rfl, Nat.le_of_ble_eq_true rfl⟩) rfl hl.1 rfl (by simp [rfv_cat, cat_i, cat_l]) dX9_giveWeighted_85 ⟨rcC hX q18.1 q.1, rsC hX q18.1 q.1⟩ (fun u H locs hg h => ?_)
          simp only [← gx_rfv hg hv_x0] at hl
          try simp only [← gx_rfv hg hv_x0]
          refine W_cast (wcC hX q18.1).symm (wsC hX q18.1).symm ?_
          exact kl_Sp_giveWeighted_88 (N := N) C hr hlk hE   q18.2.1 (hG.tr hg hX.1) (hX.tr q18.1) (lt_ext hv_x0 q18.1) q18.2.2 (lt_ext hv_x0 q18.1) (lv_sub hl [0, 1, 2] rfl) h hm
      · have hm := ite_t c8 hm
        exact kl_Sp_giveWeighted_27 (N := N) C hr hlk hE hC hG hX hv_x0 (lv_sub hl [0, 1, 2] rfl) h hm
set_option maxHeartbeats 8000000 in
set_option maxRecDepth 100000 in
theorem kc_Sp_giveWeighted (l : Launch) (D : va_G) (k : Nat → ClassId) (z mi : Nat) (aK aV : Nat → Nat) (g : Nat → Nat) (N : Nat)    {π : Sh} {σ : St} {x0 : Int} {x1 : Int} {x2 : Int} {x3 : Int} {r : Sh × St} (hC : Cl π σ) (hv_x0 : x0 < nn π) (hm : Sp_giveWeighted N π σ x0 x1 x2 x3 = some r) : Mv l yX9_giveWeighted (.code yX9_giveWeighted cX9_giveWeighted 4 none :: cWd) { frames := 3, cells := nn r.1 - nn π, slots := sw r.1 - sw π, locals := 103 } [rfv g x0, .int (Int32.ofInt x1), .int (Int32.ofInt x2), .int (Int32.ofInt x3)] D (TYs k) (cW k z g π σ) (XV z mi aK aV (cW k z g π σ)) (Nat → Nat) (fun u => gx (nn π) g u) (fun u => cW k z u r.1 r.2) (nn r.1 - nn π) (sw r.1 - sw π) := by
  have hS := hC.1
  have hq := km_Sp_giveWeighted  hC hv_x0 hm
  intro sz
  refine v_met (cc := cX9_giveWeighted) (maxL := 4) (ret := none) (lv := [(0, rfv g x0), (1, .int (Int32.ofInt x1)), (2, .int (Int32.ofInt x2)), (3, .int (Int32.ofInt x3))]) (by decide) rfl (by simp [lg_sl, rfv_cat, cat_i, cat_l]) (by simp [lv_args, rfv_cat, cat_i, cat_l]) ?_
  intro p e s m below meth c ls C hE hr hlk hmn hl h
  generalize ([rfv g x0, .int (Int32.ofInt x1), .int (Int32.ofInt x2), .int (Int32.ofInt x3)] : List Value).toArray = args at C ⊢
  have hG := gx.rf (nn π) g
  have hX := ext.rf π
  refine W_cast (Nat.sub_self (nn π)) (Nat.sub_self (sw π)) ?_
  rw [Sp_giveWeighted] at hm
  refine z_aload_n C dX9_giveWeighted_0 rfl (lv_at hl 0 rfl) ?_
  refine lv_iload_n C.1 C.2.1 dX9_giveWeighted_1 rfl (lv_at hl 1 rfl) ?_
  obtain ⟨r1, e2, hm⟩ := obd_s hm
  have q3 := (km_Sp_give hC hv_x0 e2)
  obtain ⟨g4, hm⟩ := grd_s hm
  have q := km_Sp_giveWeighted_5   q3.2.1 (lt_ext hv_x0 q3.1) q3.2.2 hm
  refine c_callVqA C hE h g4 rfl (by decide) (kc_Sp_give l D k z mi aK aV g N hC hv_x0 e2) (cwV 1 C.2.2.1 (gS_X9_62 _) rfl rfl rfl hd_X9_give ⟨Nat.le_of_ble_eq_true rfl, Nat.le_of_ble_eq_true rfl⟩) rfl hl.1 rfl (Nat.le_of_ble_eq_true rfl) dX9_giveWeighted_2 ⟨rcC hX q3.1 q.1, rsC hX q3.1 q.1⟩ (fun u H locs hg h => ?_)
  simp only [← gx_rfv hg hv_x0] at hl
  try simp only [← gx_rfv hg hv_x0]
  refine W_cast (wcC hX q3.1).symm (wsC hX q3.1).symm ?_
  exact kl_Sp_giveWeighted_5 (N := N) C hr hlk hE   q3.2.1 (hG.tr hg hX.1) (hX.tr q3.1) (lt_ext hv_x0 q3.1) q3.2.2 (lv_sub hl [0, 2, 3] rfl) h hm
end Z_Sp_giveWeighted
section Z_Tx_steps
variable {p : Program} {l : Launch} {e : Env} {s : State} {m : MethodId} {args : Array Value} {below : List Frame} {meth : Method} {c : Code} {D : va_G} {A : Nat → Prop} {k : Nat → ClassId} {N : Nat} {cd : Cond} {z mi : Nat} {aK aV : Nat → Nat} {g0 : Nat → Nat} {π0 : Sh} {φ ψ : Nat}
set_option maxHeartbeats 8000000 in
set_option maxRecDepth 100000 in
theorem kl_Tx_steps_120 {r : Sh × St} (C : Cx p s m args c cX10_steps RX10 (cd :: cWd) D (TYs k) 7) (hr : meth.sig.returnType = none) (hlk : meth.locks = false) (hE : Ev z mi aK aV A s s.heap) {rPart : Sh → St → Option (Sh × St × Int)} (hφ : 20 ≤ φ) (hψ : 600 ≤ ψ) (hmrPart : ∀ {π : Sh} {σ : St}  {r : Sh × St × Int}, Cl π σ → rPart π σ  = some r → ext π r.1 ∧ Cl r.1 r.2.1) (hcrPart : ∀ {g : Nat → Nat} {π : Sh} {σ : St}  {r : Sh × St × Int}, Cl π σ → rPart π σ  = some r → Mi l yX10_part (.code yX10_part cX10_part 2 (some .int) :: cWd) { frames := φ, cells := nn r.1 - nn π, slots := sw r.1 - sw π, locals := ψ } [rfv g 50] D (TYs k) (cW k z g π σ) (XV z mi aK aV (cW k z g π σ)) (Nat → Nat) (fun v u => gx (nn π) g u ∧ v = Int32.ofInt r.2.2) (fun u => cW k z u r.1 r.2.1) (nn r.1 - nn π) (sw r.1 - sw π)) {rec8 : Sh → St → Int → Int → Int → Option (Sh × St)} (krec8 : ∀ {π : Sh} {σ : St} {x1 : Int} {x2 : Int} {x3 : Int}, Cl π σ → x1 < nn π → rec8 π σ x1 x2 x3 = some r → ext π r.1 ∧ Cl r.1 r.2) (hrec8 : ∀ {ls : Array Slot} {H : Heap} {locs : List Loc} {g : Nat → Nat} {π : Sh} {σ : St} {x1 : Int} {x2 : Int} {x3 : Int}, Cl π σ → gx (nn π0) g0 g → ext π0 π → x1 < nn π → lv_has ls 7 [(0, rfv g 50), (1, rfv g x1), (2, .int (Int32.ofInt x2)), (3, .int (Int32.ofInt x3))] → Hp D A s.heap H locs (cW k z g π σ) → rec8 π σ x1 x2 x3 = some r → W p l e { frames := φ + 1, cells := nn r.1 - nn π0, slots := sw r.1 - sw π0, locals := ψ + 21 } s m args below meth c H locs (nn π - nn π0) (sw π - sw π0) (MQ below (va_Qv (fun u => gx (nn π0) g0 u) (fun u t => PostW D (TYs k) A (cW k z u r.1 r.2) t) A) args s (nn r.1 - nn π0) (sw r.1 - sw π0) A) (F0 m 8 ls [])) {ls : Array Slot} {H : Heap} {locs : List Loc} {g : Nat → Nat} {π : Sh} {σ : St} {x1 : Int} {x3 : Int} {s0 : Int} (hC : Cl π σ) (hG : gx (nn π0) g0 g) (hX : ext π0 π) (hv_x1 : x1 < nn π) (hl : lv_has ls 7 [(0, rfv g 50), (1, rfv g x1), (3, .int (Int32.ofInt x3))]) (h : Hp D A s.heap H locs (cW k z g π σ)) (hm : Tx_steps_120 N rPart rec8 π σ x1 x3 s0 = some r) : W p l e { frames := φ + 1, cells := nn r.1 - nn π0, slots := sw r.1 - sw π0, locals := ψ + 21 } s m args below meth c H locs (nn π - nn π0) (sw π - sw π0) (MQ below (va_Qv (fun u => gx (nn π0) g0 u) (fun u t => PostW D (TYs k) A (cW k z u r.1 r.2) t) A) args s (nn r.1 - nn π0) (sw r.1 - sw π0) A) (F0 m 120 ls [.int (Int32.ofInt s0)]) := by
  have hS := hC.1
  have hq := km_Tx_steps_120 hmrPart krec8  hC hv_x1 hm
  rw [Tx_steps_120] at hm
  refine lv_istore_n (i := 2) (lv' := [(2, .int (Int32.ofInt s0)), (0, rfv g 50), (1, rfv g x1), (3, .int (Int32.ofInt x3))]) C.1 C.2.1 dX10_steps_120 rfl hl (by decide) (by simp [rfv_cat, cat_i, cat_l]) (fun ls hl => ?_)
  refine lv_iinc (v := Int32.ofInt (x3 + 1)) (lv' := [(3, .int (Int32.ofInt (x3 + 1))), (2, .int (Int32.ofInt s0)), (0, rfv g 50), (1, rfv g x1)]) C.1 C.2.1 dX10_steps_121 hl (k := 3) rfl (c32_add _ _) (by decide) rfl (fun ls hl => ?_)
  refine lv_goto (tgt := 8) C.1 C.2.1 dX10_steps_124 (by decide) ?_
  exact hrec8 hC hG hX hv_x1 (lv_sub hl [2, 3, 1, 0] rfl) h hm
set_option maxHeartbeats 8000000 in
set_option maxRecDepth 100000 in
theorem kl_Tx_steps_119 {r : Sh × St} (C : Cx p s m args c cX10_steps RX10 (cd :: cWd) D (TYs k) 7) (hr : meth.sig.returnType = none) (hlk : meth.locks = false) (hE : Ev z mi aK aV A s s.heap) {rPart : Sh → St → Option (Sh × St × Int)} (hφ : 20 ≤ φ) (hψ : 600 ≤ ψ) (hmrPart : ∀ {π : Sh} {σ : St}  {r : Sh × St × Int}, Cl π σ → rPart π σ  = some r → ext π r.1 ∧ Cl r.1 r.2.1) (hcrPart : ∀ {g : Nat → Nat} {π : Sh} {σ : St}  {r : Sh × St × Int}, Cl π σ → rPart π σ  = some r → Mi l yX10_part (.code yX10_part cX10_part 2 (some .int) :: cWd) { frames := φ, cells := nn r.1 - nn π, slots := sw r.1 - sw π, locals := ψ } [rfv g 50] D (TYs k) (cW k z g π σ) (XV z mi aK aV (cW k z g π σ)) (Nat → Nat) (fun v u => gx (nn π) g u ∧ v = Int32.ofInt r.2.2) (fun u => cW k z u r.1 r.2.1) (nn r.1 - nn π) (sw r.1 - sw π)) {rec8 : Sh → St → Int → Int → Int → Option (Sh × St)} (krec8 : ∀ {π : Sh} {σ : St} {x1 : Int} {x2 : Int} {x3 : Int}, Cl π σ → x1 < nn π → rec8 π σ x1 x2 x3 = some r → ext π r.1 ∧ Cl r.1 r.2) (hrec8 : ∀ {ls : Array Slot} {H : Heap} {locs : List Loc} {g : Nat → Nat} {π : Sh} {σ : St} {x1 : Int} {x2 : Int} {x3 : Int}, Cl π σ → gx (nn π0) g0 g → ext π0 π → x1 < nn π → lv_has ls 7 [(0, rfv g 50), (1, rfv g x1), (2, .int (Int32.ofInt x2)), (3, .int (Int32.ofInt x3))] → Hp D A s.heap H locs (cW k z g π σ) → rec8 π σ x1 x2 x3 = some r → W p l e { frames := φ + 1, cells := nn r.1 - nn π0, slots := sw r.1 - sw π0, locals := ψ + 21 } s m args below meth c H locs (nn π - nn π0) (sw π - sw π0) (MQ below (va_Qv (fun u => gx (nn π0) g0 u) (fun u t => PostW D (TYs k) A (cW k z u r.1 r.2) t) A) args s (nn r.1 - nn π0) (sw r.1 - sw π0) A) (F0 m 8 ls [])) {ls : Array Slot} {H : Heap} {locs : List Loc} {g : Nat → Nat} {π : Sh} {σ : St} {x1 : Int} {x3 : Int} (hC : Cl π σ) (hG : gx (nn π0) g0 g) (hX : ext π0 π) (hv_x1 : x1 < nn π) (hl : lv_has ls 7 [(0, rfv g 50), (1, rfv g x1), (3, .int (Int32.ofInt x3))]) (h : Hp D A s.heap H locs (cW k z g π σ)) (hm : Tx_steps_119 N rPart rec8 π σ x1 x3 = some r) : W p l e { frames := φ + 1, cells := nn r.1 - nn π0, slots := sw r.1 - sw π0, locals := ψ + 21 } s m args below meth c H locs (nn π - nn π0) (sw π - sw π0) (MQ below (va_Qv (fun u => gx (nn π0) g0 u) (fun u t => PostW D (TYs k) A (cW k z u r.1 r.2) t) A) args s (nn r.1 - nn π0) (sw r.1 - sw π0) A) (F0 m 119 ls []) := by
  have hS := hC.1
  have hq := km_Tx_steps_119 hmrPart krec8  hC hv_x1 hm
  rw [Tx_steps_119] at hm
  refine lv_iconst (v := Int32.ofInt 0) C.1 C.2.1 dX10_steps_119 (by decide) ?_
  exact kl_Tx_steps_120 (N := N) C hr hlk hE hφ hψ hmrPart hcrPart krec8 hrec8 hC hG hX hv_x1 (lv_sub hl [0, 1, 2] rfl) h hm
set_option maxHeartbeats 8000000 in
set_option maxRecDepth 100000 in
theorem kl_Tx_steps_73 {r : Sh × St} (C : Cx p s m args c cX10_steps RX10 (cd :: cWd) D (TYs k) 7) (hr : meth.sig.returnType = none) (hlk : meth.locks = false) (hE : Ev z mi aK aV A s s.heap) {rPart : Sh → St → Option (Sh × St × Int)} (hφ : 20 ≤ φ) (hψ : 600 ≤ ψ) (hmrPart : ∀ {π : Sh} {σ : St}  {r : Sh × St × Int}, Cl π σ → rPart π σ  = some r → ext π r.1 ∧ Cl r.1 r.2.1) (hcrPart : ∀ {g : Nat → Nat} {π : Sh} {σ : St}  {r : Sh × St × Int}, Cl π σ → rPart π σ  = some r → Mi l yX10_part (.code yX10_part cX10_part 2 (some .int) :: cWd) { frames := φ, cells := nn r.1 - nn π, slots := sw r.1 - sw π, locals := ψ } [rfv g 50] D (TYs k) (cW k z g π σ) (XV z mi aK aV (cW k z g π σ)) (Nat → Nat) (fun v u => gx (nn π) g u ∧ v = Int32.ofInt r.2.2) (fun u => cW k z u r.1 r.2.1) (nn r.1 - nn π) (sw r.1 - sw π)) {rec8 : Sh → St → Int → Int → Int → Option (Sh × St)} (krec8 : ∀ {π : Sh} {σ : St} {x1 : Int} {x2 : Int} {x3 : Int}, Cl π σ → x1 < nn π → rec8 π σ x1 x2 x3 = some r → ext π r.1 ∧ Cl r.1 r.2) (hrec8 : ∀ {ls : Array Slot} {H : Heap} {locs : List Loc} {g : Nat → Nat} {π : Sh} {σ : St} {x1 : Int} {x2 : Int} {x3 : Int}, Cl π σ → gx (nn π0) g0 g → ext π0 π → x1 < nn π → lv_has ls 7 [(0, rfv g 50), (1, rfv g x1), (2, .int (Int32.ofInt x2)), (3, .int (Int32.ofInt x3))] → Hp D A s.heap H locs (cW k z g π σ) → rec8 π σ x1 x2 x3 = some r → W p l e { frames := φ + 1, cells := nn r.1 - nn π0, slots := sw r.1 - sw π0, locals := ψ + 21 } s m args below meth c H locs (nn π - nn π0) (sw π - sw π0) (MQ below (va_Qv (fun u => gx (nn π0) g0 u) (fun u t => PostW D (TYs k) A (cW k z u r.1 r.2) t) A) args s (nn r.1 - nn π0) (sw r.1 - sw π0) A) (F0 m 8 ls [])) {ls : Array Slot} {H : Heap} {locs : List Loc} {g : Nat → Nat} {π : Sh} {σ : St} {x1 : Int} {x3 : Int} (hC : Cl π σ) (hG : gx (nn π0) g0 g) (hX : ext π0 π) (hv_x1 : x1 < nn π) (hl : lv_has ls 7 [(0, rfv g 50), (1, rfv g x1), (3, .int (Int32.ofInt x3))]) (h : Hp D A s.heap H locs (cW k z g π σ)) (hm : Tx_steps_73 N rPart rec8 π σ x1 x3 = some r) : W p l e { frames := φ + 1, cells := nn r.1 - nn π0, slots := sw r.1 - sw π0, locals := ψ + 21 } s m args below meth c H locs (nn π - nn π0) (sw π - sw π0) (MQ below (va_Qv (fun u => gx (nn π0) g0 u) (fun u t => PostW D (TYs k) A (cW k z u r.1 r.2) t) A) args s (nn r.1 - nn π0) (sw r.1 - sw π0) A) (F0 m 73 ls []) := by
  have hS := hC.1
  have hq := km_Tx_steps_73 hmrPart krec8  hC hv_x1 hm
  rw [Tx_steps_73] at hm
  refine z_aload_n C dX10_steps_73 rfl (lv_at hl 0 rfl) ?_
  obtain ⟨r29, e30, hm⟩ := obd_s hm
  have q31 := (km_Tx_skipBlanks hC e30)
  refine c_callVvP C hE h (sh_50 hS) rfl (by decide) (kc_Tx_skipBlanks l D k z mi aK aV g N hS e30) (cwV 0 C.2.2.1 (gS_X10_42 _) rfl rfl rfl hd_X10_skipBlanks ⟨(by show 0 + 1 ≤ φ + 1; omega), (by show 8 + (1 + 11) + 0 ≤ ψ + 21; omega)⟩) rfl hl.1 rfl (Nat.le_of_ble_eq_true rfl) dX10_steps_74 ⟨(czz hX hq.1), (szz hX hq.1)⟩ (fun H locs h => ?_)
  have hC32 : Cl π r29 := q31
  refine z_aload_n C dX10_steps_77 rfl (lv_at hl 0 rfl) ?_
  refine cg_11_0 C h (sh_50 hS) cU_X10 (List.mem_cons_of_mem _ wl_X10_28) dX10_steps_78 ?_
  refine cg_9_2 C h (sh_1 hS) cU_X8 (List.mem_cons_of_mem _ wl_X10_57) dX10_steps_81 ?_
  obtain ⟨g33, hm⟩ := grd_s hm
  refine z_if_ne (tgt := 119) C dX10_steps_84 (by decide) g33 (fun c34 => ?_) (fun c34 => ?_)
  · have hm := ite_f c34 hm
    exact kl_Tx_steps_119 (N := N) C hr hlk hE hφ hψ hmrPart hcrPart krec8 hrec8 hC32 hG hX hv_x1 (lv_sub hl [0, 1, 2] rfl) h hm
  · have hm := ite_t c34 hm
    refine z_aload_n C dX10_steps_87 rfl (lv_at hl 0 rfl) ?_
    obtain ⟨r35, e36, hm⟩ := obd_s hm
    have q37 := (km_Tx_here hC32 e36)
    refine c_callViP C hE h (sh_50 hS) rfl (by decide) (kc_Tx_here l D k z mi aK aV g N hS e36) (cwV 0 C.2.2.1 (gS_X10_45 _) rfl rfl rfl hd_X10_here ⟨(by show 0 + 1 ≤ φ + 1; omega), (by show 8 + (1 + 11) + 0 ≤ ψ + 21; omega)⟩) rfl hl.1 rfl (Nat.le_of_ble_eq_true rfl) dX10_steps_88 ⟨(czz hX hq.1), (szz hX hq.1)⟩ (fun H locs h => ?_)
    have hC38 : Cl π r35.1 := q37
    obtain ⟨r39, e40, hm⟩ := obd_s hm
    refine v_callSi C h (kc_Tx_startsPart l D k N r35.2 r39 e40) (v_cwS 1 C.2.2.1 (gC_X10_startsPart _) rfl rfl rfl (C.2.2.1 _ (List.mem_cons_of_mem _ wt_X10)) (C.2.2.1 _ (List.mem_cons_of_mem _ wm_X10_80)) (C.2.2.1 _ (List.mem_cons_of_mem _ ws_X10_startsPart)) hdS_X10_startsPart ⟨(by show 1 + 1 ≤ φ + 1; omega), (by show 8 + (1 + 11) + 20 ≤ ψ + 21; omega)⟩) rfl hl.1 rfl (Nat.le_of_ble_eq_true rfl) dX10_steps_91 ⟨(czz hX hq.1), (szz hX hq.1)⟩ (fun H locs h => ?_)
    obtain ⟨g41, hm⟩ := grd_s hm
    refine z_if_eq (tgt := 119) C dX10_steps_94 (by decide) g41 (fun c42 => ?_) (fun c42 => ?_)
    · have hm := ite_t c42 hm
      exact kl_Tx_steps_119 (N := N) C hr hlk hE hφ hψ hmrPart hcrPart krec8 hrec8 hC38 hG hX hv_x1 (lv_sub hl [0, 1, 2] rfl) h hm
    · have hm := ite_f c42 hm
      refine z_aload_n C dX10_steps_97 rfl (lv_at hl 0 rfl) ?_
      refine cg_11_0 C h (sh_50 hS) cU_X10 (List.mem_cons_of_mem _ wl_X10_28) dX10_steps_98 ?_
      refine z_aload_n C dX10_steps_101 rfl (lv_at hl 0 rfl) ?_
      refine cg_11_2 C h (sh_50 hS) cU_X10 (List.mem_cons_of_mem _ wl_X10_15) dX10_steps_102 ?_
      refine lv_iconst (v := Int32.ofInt 1) C.1 C.2.1 dX10_steps_105 (by decide) ?_
      refine z_isub C dX10_steps_106 ?_
      obtain ⟨r43, e44, hm⟩ := obd_s hm
      have q45 := (km_Sc_byteAt hC38 e44)
      refine c_callViP C hE h (sh_1 hS) rfl (by decide) (kc_Sc_byteAt l D k z mi aK aV g N hS e44) (cwV 1 C.2.2.1 (gS_X10_84 _) rfl rfl rfl hd_X8_byteAt ⟨(by show 0 + 1 ≤ φ + 1; omega), (by show 8 + (2 + 11) + 0 ≤ ψ + 21; omega)⟩) rfl hl.1 rfl (Nat.le_of_ble_eq_true rfl) dX10_steps_107 ⟨(czz hX hq.1), (szz hX hq.1)⟩ (fun H locs h => ?_)
      have hC46 : Cl π r43.1 := q45
      refine lv_bipush (v := Int32.ofInt 32) C.1 C.2.1 dX10_steps_110 (by decide) ?_
      obtain ⟨g47, hm⟩ := grd_s hm
      refine z_icmp_ne (tgt := 119) C dX10_steps_112 (by decide) g47 (by decide) (fun c48 => ?_) (fun c48 => ?_)
      · have hm := ite_f c48 hm
        exact kl_Tx_steps_119 (N := N) C hr hlk hE hφ hψ hmrPart hcrPart krec8 hrec8 hC46 hG hX hv_x1 (lv_sub hl [0, 1, 2] rfl) h hm
      · have hm := ite_t c48 hm
        refine lv_iconst (v := Int32.ofInt 1) C.1 C.2.1 dX10_steps_115 (by decide) ?_
        refine lv_goto (tgt := 120) C.1 C.2.1 dX10_steps_116 (by decide) ?_
        exact kl_Tx_steps_120 (N := N) C hr hlk hE hφ hψ hmrPart hcrPart krec8 hrec8 hC46 hG hX hv_x1 (lv_sub hl [0, 1, 2] rfl) h hm
set_option maxHeartbeats 8000000 in
set_option maxRecDepth 100000 in
theorem kl_Tx_steps_45 {r : Sh × St} (C : Cx p s m args c cX10_steps RX10 (cd :: cWd) D (TYs k) 7) (hr : meth.sig.returnType = none) (hlk : meth.locks = false) (hE : Ev z mi aK aV A s s.heap) {rPart : Sh → St → Option (Sh × St × Int)} (hφ : 20 ≤ φ) (hψ : 600 ≤ ψ) (hmrPart : ∀ {π : Sh} {σ : St}  {r : Sh × St × Int}, Cl π σ → rPart π σ  = some r → ext π r.1 ∧ Cl r.1 r.2.1) (hcrPart : ∀ {g : Nat → Nat} {π : Sh} {σ : St}  {r : Sh × St × Int}, Cl π σ → rPart π σ  = some r → Mi l yX10_part (.code yX10_part cX10_part 2 (some .int) :: cWd) { frames := φ, cells := nn r.1 - nn π, slots := sw r.1 - sw π, locals := ψ } [rfv g 50] D (TYs k) (cW k z g π σ) (XV z mi aK aV (cW k z g π σ)) (Nat → Nat) (fun v u => gx (nn π) g u ∧ v = Int32.ofInt r.2.2) (fun u => cW k z u r.1 r.2.1) (nn r.1 - nn π) (sw r.1 - sw π)) {rec8 : Sh → St → Int → Int → Int → Option (Sh × St)} (krec8 : ∀ {π : Sh} {σ : St} {x1 : Int} {x2 : Int} {x3 : Int}, Cl π σ → x1 < nn π → rec8 π σ x1 x2 x3 = some r → ext π r.1 ∧ Cl r.1 r.2) (hrec8 : ∀ {ls : Array Slot} {H : Heap} {locs : List Loc} {g : Nat → Nat} {π : Sh} {σ : St} {x1 : Int} {x2 : Int} {x3 : Int}, Cl π σ → gx (nn π0) g0 g → ext π0 π → x1 < nn π → lv_has ls 7 [(0, rfv g 50), (1, rfv g x1), (2, .int (Int32.ofInt x2)), (3, .int (Int32.ofInt x3))] → Hp D A s.heap H locs (cW k z g π σ) → rec8 π σ x1 x2 x3 = some r → W p l e { frames := φ + 1, cells := nn r.1 - nn π0, slots := sw r.1 - sw π0, locals := ψ + 21 } s m args below meth c H locs (nn π - nn π0) (sw π - sw π0) (MQ below (va_Qv (fun u => gx (nn π0) g0 u) (fun u t => PostW D (TYs k) A (cW k z u r.1 r.2) t) A) args s (nn r.1 - nn π0) (sw r.1 - sw π0) A) (F0 m 8 ls [])) {ls : Array Slot} {H : Heap} {locs : List Loc} {g : Nat → Nat} {π : Sh} {σ : St} {x1 : Int} {x3 : Int} {s0 : Int} (hC : Cl π σ) (hG : gx (nn π0) g0 g) (hX : ext π0 π) (hv_x1 : x1 < nn π) (hl : lv_has ls 7 [(0, rfv g 50), (1, rfv g x1), (3, .int (Int32.ofInt x3))]) (h : Hp D A s.heap H locs (cW k z g π σ)) (hm : Tx_steps_45 N rPart rec8 π σ x1 x3 s0 = some r) : W p l e { frames := φ + 1, cells := nn r.1 - nn π0, slots := sw r.1 - sw π0, locals := ψ + 21 } s m args below meth c H locs (nn π - nn π0) (sw π - sw π0) (MQ below (va_Qv (fun u => gx (nn π0) g0 u) (fun u t => PostW D (TYs k) A (cW k z u r.1 r.2) t) A) args s (nn r.1 - nn π0) (sw r.1 - sw π0) A) (F0 m 45 ls [.int (Int32.ofInt s0)]) := by
  have hS := hC.1
  have hq := km_Tx_steps_45 hmrPart krec8  hC hv_x1 hm
  rw [Tx_steps_45] at hm
  refine lv_istore (lv' := [(4, .int (Int32.ofInt s0)), (0, rfv g 50), (1, rfv g x1), (3, .int (Int32.ofInt x3))]) C.1 C.2.1 dX10_steps_45 hl (by decide) rfl (fun ls hl => ?_)
  refine z_aload_n C dX10_steps_47 rfl (lv_at hl 1 rfl) ?_
  refine lv_bipush (v := Int32.ofInt 64) C.1 C.2.1 dX10_steps_48 (by decide) ?_
  obtain ⟨r17, e18, hm⟩ := obd_s hm
  have q19 := (km_Tx_behindSign hC e18)
  refine c_callViP C hE h (sh_50 hS) rfl (by decide) (kc_Tx_behindSign l D k z mi aK aV g N hS e18) (cwV 1 C.2.2.1 (gS_X10_73 _) rfl rfl rfl hd_X10_behindSign ⟨(by show 2 + 1 ≤ φ + 1; omega), (by show 8 + (2 + 11) + 47 ≤ ψ + 21; omega)⟩) rfl hl.1 rfl (Nat.le_of_ble_eq_true rfl) dX10_steps_50 ⟨(czz hX hq.1), (szz hX hq.1)⟩ (fun H locs h => ?_)
  have hC20 : Cl π r17.1 := q19
  refine lv_istore (lv' := [(5, .int (Int32.ofInt r17.2)), (4, .int (Int32.ofInt s0)), (0, rfv g 50), (1, rfv g x1), (3, .int (Int32.ofInt x3))]) C.1 C.2.1 dX10_steps_53 hl (by decide) rfl (fun ls hl => ?_)
  refine z_aload_n C dX10_steps_55 rfl (lv_at hl 2 rfl) ?_
  refine lv_bipush (v := Int32.ofInt 33) C.1 C.2.1 dX10_steps_56 (by decide) ?_
  obtain ⟨r21, e22, hm⟩ := obd_s hm
  have q23 := (km_Tx_behindSign hC20 e22)
  refine c_callViP C hE h (sh_50 hS) rfl (by decide) (kc_Tx_behindSign l D k z mi aK aV g N hS e22) (cwV 1 C.2.2.1 (gS_X10_73 _) rfl rfl rfl hd_X10_behindSign ⟨(by show 2 + 1 ≤ φ + 1; omega), (by show 8 + (2 + 11) + 47 ≤ ψ + 21; omega)⟩) rfl hl.1 rfl (Nat.le_of_ble_eq_true rfl) dX10_steps_58 ⟨(czz hX hq.1), (szz hX hq.1)⟩ (fun H locs h => ?_)
  have hC24 : Cl π r21.1 := q23
  refine lv_istore (lv' := [(6, .int (Int32.ofInt r21.2)), (5, .int (Int32.ofInt r17.2)), (4, .int (Int32.ofInt s0)), (0, rfv g 50), (1, rfv g x1), (3, .int (Int32.ofInt x3))]) C.1 C.2.1 dX10_steps_61 hl (by decide) rfl (fun ls hl => ?_)
  refine z_aload_n C dX10_steps_63 rfl (lv_at hl 4 rfl) ?_
  refine lv_iload C.1 C.2.1 dX10_steps_64 (lv_at hl 2 rfl) ?_
  refine lv_iload C.1 C.2.1 dX10_steps_66 (lv_at hl 1 rfl) ?_
  refine lv_iload C.1 C.2.1 dX10_steps_68 (lv_at hl 0 rfl) ?_
  obtain ⟨r25, e26, hm⟩ := obd_s hm
  have q27 := (km_Sp_giveWeighted hC24 hv_x1 e26)
  obtain ⟨g28, hm⟩ := grd_s hm
  have q := km_Tx_steps_73 hmrPart krec8 q27.2 (lt_ext hv_x1 q27.1) hm
  refine c_callVvA C hE h g28 rfl (by decide) (kc_Sp_giveWeighted l D k z mi aK aV g N hC24 hv_x1 e26) (cwV 3 C.2.2.1 (gS_X10_76 _) rfl rfl rfl hd_X9_giveWeighted ⟨(by show 3 + 1 ≤ φ + 1; omega), (by show 8 + (4 + 11) + 103 ≤ ψ + 21; omega)⟩) rfl hl.1 rfl (Nat.le_of_ble_eq_true rfl) dX10_steps_70 ⟨rcC hX q27.1 q.1, rsC hX q27.1 q.1⟩ (fun u H locs hg h => ?_)
  simp only [← gx_rfv hg (sh_50 hS).2.1, ← gx_rfv hg hv_x1] at hl
  try simp only [← gx_rfv hg (sh_50 hS).2.1, ← gx_rfv hg hv_x1]
  refine W_cast (wcC hX q27.1).symm (wsC hX q27.1).symm ?_
  exact kl_Tx_steps_73 (N := N) C hr hlk hE hφ hψ hmrPart hcrPart krec8 hrec8 q27.2 (hG.tr hg hX.1) (hX.tr q27.1) (lt_ext hv_x1 q27.1) (lv_sub hl [3, 4, 5] rfl) h hm
set_option maxHeartbeats 8000000 in
set_option maxRecDepth 100000 in
theorem kl_Tx_steps_41 {r : Sh × St} (C : Cx p s m args c cX10_steps RX10 (cd :: cWd) D (TYs k) 7) (hr : meth.sig.returnType = none) (hlk : meth.locks = false) (hE : Ev z mi aK aV A s s.heap) {rPart : Sh → St → Option (Sh × St × Int)} (hφ : 20 ≤ φ) (hψ : 600 ≤ ψ) (hmrPart : ∀ {π : Sh} {σ : St}  {r : Sh × St × Int}, Cl π σ → rPart π σ  = some r → ext π r.1 ∧ Cl r.1 r.2.1) (hcrPart : ∀ {g : Nat → Nat} {π : Sh} {σ : St}  {r : Sh × St × Int}, Cl π σ → rPart π σ  = some r → Mi l yX10_part (.code yX10_part cX10_part 2 (some .int) :: cWd) { frames := φ, cells := nn r.1 - nn π, slots := sw r.1 - sw π, locals := ψ } [rfv g 50] D (TYs k) (cW k z g π σ) (XV z mi aK aV (cW k z g π σ)) (Nat → Nat) (fun v u => gx (nn π) g u ∧ v = Int32.ofInt r.2.2) (fun u => cW k z u r.1 r.2.1) (nn r.1 - nn π) (sw r.1 - sw π)) {rec8 : Sh → St → Int → Int → Int → Option (Sh × St)} (krec8 : ∀ {π : Sh} {σ : St} {x1 : Int} {x2 : Int} {x3 : Int}, Cl π σ → x1 < nn π → rec8 π σ x1 x2 x3 = some r → ext π r.1 ∧ Cl r.1 r.2) (hrec8 : ∀ {ls : Array Slot} {H : Heap} {locs : List Loc} {g : Nat → Nat} {π : Sh} {σ : St} {x1 : Int} {x2 : Int} {x3 : Int}, Cl π σ → gx (nn π0) g0 g → ext π0 π → x1 < nn π → lv_has ls 7 [(0, rfv g 50), (1, rfv g x1), (2, .int (Int32.ofInt x2)), (3, .int (Int32.ofInt x3))] → Hp D A s.heap H locs (cW k z g π σ) → rec8 π σ x1 x2 x3 = some r → W p l e { frames := φ + 1, cells := nn r.1 - nn π0, slots := sw r.1 - sw π0, locals := ψ + 21 } s m args below meth c H locs (nn π - nn π0) (sw π - sw π0) (MQ below (va_Qv (fun u => gx (nn π0) g0 u) (fun u t => PostW D (TYs k) A (cW k z u r.1 r.2) t) A) args s (nn r.1 - nn π0) (sw r.1 - sw π0) A) (F0 m 8 ls [])) {ls : Array Slot} {H : Heap} {locs : List Loc} {g : Nat → Nat} {π : Sh} {σ : St} {x1 : Int} {x3 : Int} {s0 : Int} (hC : Cl π σ) (hG : gx (nn π0) g0 g) (hX : ext π0 π) (hv_x1 : x1 < nn π) (hl : lv_has ls 7 [(0, rfv g 50), (1, rfv g x1), (3, .int (Int32.ofInt x3))]) (h : Hp D A s.heap H locs (cW k z g π σ)) (hm : Tx_steps_41 N rPart rec8 π σ x1 x3 s0 = some r) : W p l e { frames := φ + 1, cells := nn r.1 - nn π0, slots := sw r.1 - sw π0, locals := ψ + 21 } s m args below meth c H locs (nn π - nn π0) (sw π - sw π0) (MQ below (va_Qv (fun u => gx (nn π0) g0 u) (fun u t => PostW D (TYs k) A (cW k z u r.1 r.2) t) A) args s (nn r.1 - nn π0) (sw r.1 - sw π0) A) (F0 m 41 ls [.int (Int32.ofInt s0)]) := by
  have hS := hC.1
  have hq := km_Tx_steps_41 hmrPart krec8  hC hv_x1 hm
  rw [Tx_steps_41] at hm
  refine lv_goto (tgt := 45) C.1 C.2.1 dX10_steps_41 (by decide) ?_
  exact kl_Tx_steps_45 (N := N) C hr hlk hE hφ hψ hmrPart hcrPart krec8 hrec8 hC hG hX hv_x1 (lv_sub hl [0, 1, 2] rfl) h hm
set_option maxHeartbeats 8000000 in
set_option maxRecDepth 100000 in
theorem kl_Tx_steps_23 {r : Sh × St} (C : Cx p s m args c cX10_steps RX10 (cd :: cWd) D (TYs k) 7) (hr : meth.sig.returnType = none) (hlk : meth.locks = false) (hE : Ev z mi aK aV A s s.heap) {rPart : Sh → St → Option (Sh × St × Int)} (hφ : 20 ≤ φ) (hψ : 600 ≤ ψ) (hmrPart : ∀ {π : Sh} {σ : St}  {r : Sh × St × Int}, Cl π σ → rPart π σ  = some r → ext π r.1 ∧ Cl r.1 r.2.1) (hcrPart : ∀ {g : Nat → Nat} {π : Sh} {σ : St}  {r : Sh × St × Int}, Cl π σ → rPart π σ  = some r → Mi l yX10_part (.code yX10_part cX10_part 2 (some .int) :: cWd) { frames := φ, cells := nn r.1 - nn π, slots := sw r.1 - sw π, locals := ψ } [rfv g 50] D (TYs k) (cW k z g π σ) (XV z mi aK aV (cW k z g π σ)) (Nat → Nat) (fun v u => gx (nn π) g u ∧ v = Int32.ofInt r.2.2) (fun u => cW k z u r.1 r.2.1) (nn r.1 - nn π) (sw r.1 - sw π)) {rec8 : Sh → St → Int → Int → Int → Option (Sh × St)} (krec8 : ∀ {π : Sh} {σ : St} {x1 : Int} {x2 : Int} {x3 : Int}, Cl π σ → x1 < nn π → rec8 π σ x1 x2 x3 = some r → ext π r.1 ∧ Cl r.1 r.2) (hrec8 : ∀ {ls : Array Slot} {H : Heap} {locs : List Loc} {g : Nat → Nat} {π : Sh} {σ : St} {x1 : Int} {x2 : Int} {x3 : Int}, Cl π σ → gx (nn π0) g0 g → ext π0 π → x1 < nn π → lv_has ls 7 [(0, rfv g 50), (1, rfv g x1), (2, .int (Int32.ofInt x2)), (3, .int (Int32.ofInt x3))] → Hp D A s.heap H locs (cW k z g π σ) → rec8 π σ x1 x2 x3 = some r → W p l e { frames := φ + 1, cells := nn r.1 - nn π0, slots := sw r.1 - sw π0, locals := ψ + 21 } s m args below meth c H locs (nn π - nn π0) (sw π - sw π0) (MQ below (va_Qv (fun u => gx (nn π0) g0 u) (fun u t => PostW D (TYs k) A (cW k z u r.1 r.2) t) A) args s (nn r.1 - nn π0) (sw r.1 - sw π0) A) (F0 m 8 ls [])) {ls : Array Slot} {H : Heap} {locs : List Loc} {g : Nat → Nat} {π : Sh} {σ : St} {x1 : Int} {x3 : Int} {s0 : Int} (hC : Cl π σ) (hG : gx (nn π0) g0 g) (hX : ext π0 π) (hv_x1 : x1 < nn π) (hl : lv_has ls 7 [(0, rfv g 50), (1, rfv g x1), (3, .int (Int32.ofInt x3))]) (h : Hp D A s.heap H locs (cW k z g π σ)) (hm : Tx_steps_23 N rPart rec8 π σ x1 x3 s0 = some r) : W p l e { frames := φ + 1, cells := nn r.1 - nn π0, slots := sw r.1 - sw π0, locals := ψ + 21 } s m args below meth c H locs (nn π - nn π0) (sw π - sw π0) (MQ below (va_Qv (fun u => gx (nn π0) g0 u) (fun u t => PostW D (TYs k) A (cW k z u r.1 r.2) t) A) args s (nn r.1 - nn π0) (sw r.1 - sw π0) A) (F0 m 23 ls [.int (Int32.ofInt s0)]) := by
  have hS := hC.1
  have hq := km_Tx_steps_23 hmrPart krec8  hC hv_x1 hm
  rw [Tx_steps_23] at hm
  refine lv_istore (lv' := [(4, .int (Int32.ofInt s0)), (0, rfv g 50), (1, rfv g x1), (3, .int (Int32.ofInt x3))]) C.1 C.2.1 dX10_steps_23 hl (by decide) rfl (fun ls hl => ?_)
  refine z_aload_n C dX10_steps_25 rfl (lv_at hl 1 rfl) ?_
  refine cg_11_0 C h (sh_50 hS) cU_X10 (List.mem_cons_of_mem _ wl_X10_28) dX10_steps_26 ?_
  refine cg_9_2 C h (sh_1 hS) cU_X8 (List.mem_cons_of_mem _ wl_X10_57) dX10_steps_29 ?_
  obtain ⟨g12, hm⟩ := grd_s hm
  refine z_if_ne (tgt := 44) C dX10_steps_32 (by decide) g12 (fun c13 => ?_) (fun c13 => ?_)
  · have hm := ite_f c13 hm
    refine lv_iconst (v := Int32.ofInt 0) C.1 C.2.1 dX10_steps_44 (by decide) ?_
    exact kl_Tx_steps_45 (N := N) C hr hlk hE hφ hψ hmrPart hcrPart krec8 hrec8 hC hG hX hv_x1 (lv_sub hl [1, 2, 3] rfl) h hm
  · have hm := ite_t c13 hm
    refine z_aload_n C dX10_steps_35 rfl (lv_at hl 1 rfl) ?_
    refine lv_iload C.1 C.2.1 dX10_steps_36 (lv_at hl 0 rfl) ?_
    obtain ⟨r14, e15, hm⟩ := obd_s hm
    have q16 := (km_Tx_mods hC e15)
    have q := km_Tx_steps_41 hmrPart krec8 q16.2 (lt_ext hv_x1 q16.1) hm
    refine c_callViA C hE h (sh_50 hS) rfl (by decide) (kc_Tx_mods l D k z mi aK aV g N hC e15) (cwV 1 C.2.2.1 (gS_X10_69 _) rfl rfl rfl hd_X10_mods ⟨(by show 9 + 1 ≤ φ + 1; omega), (by show 8 + (7 + 11) + 285 ≤ ψ + 21; omega)⟩) rfl hl.1 rfl (Nat.le_of_ble_eq_true rfl) dX10_steps_38 ⟨rcC hX q16.1 q.1, rsC hX q16.1 q.1⟩ (fun u H locs hg h => ?_)
    simp only [← gx_rfv hg (sh_50 hS).2.1, ← gx_rfv hg hv_x1] at hl
    try simp only [← gx_rfv hg (sh_50 hS).2.1, ← gx_rfv hg hv_x1]
    refine W_cast (wcC hX q16.1).symm (wsC hX q16.1).symm ?_
    exact kl_Tx_steps_41 (N := N) C hr hlk hE hφ hψ hmrPart hcrPart krec8 hrec8 q16.2 (hG.tr hg hX.1) (hX.tr q16.1) (lt_ext hv_x1 q16.1) (lv_sub hl [1, 2, 3] rfl) h hm
set_option maxHeartbeats 8000000 in
set_option maxRecDepth 100000 in
theorem kl_Tx_steps_8 {r : Sh × St} (C : Cx p s m args c cX10_steps RX10 (cd :: cWd) D (TYs k) 7) (hr : meth.sig.returnType = none) (hlk : meth.locks = false) (hE : Ev z mi aK aV A s s.heap) {rPart : Sh → St → Option (Sh × St × Int)} (hφ : 20 ≤ φ) (hψ : 600 ≤ ψ) (hmrPart : ∀ {π : Sh} {σ : St}  {r : Sh × St × Int}, Cl π σ → rPart π σ  = some r → ext π r.1 ∧ Cl r.1 r.2.1) (hcrPart : ∀ {g : Nat → Nat} {π : Sh} {σ : St}  {r : Sh × St × Int}, Cl π σ → rPart π σ  = some r → Mi l yX10_part (.code yX10_part cX10_part 2 (some .int) :: cWd) { frames := φ, cells := nn r.1 - nn π, slots := sw r.1 - sw π, locals := ψ } [rfv g 50] D (TYs k) (cW k z g π σ) (XV z mi aK aV (cW k z g π σ)) (Nat → Nat) (fun v u => gx (nn π) g u ∧ v = Int32.ofInt r.2.2) (fun u => cW k z u r.1 r.2.1) (nn r.1 - nn π) (sw r.1 - sw π))  (n : Nat) : ∀ {ls : Array Slot} {H : Heap} {locs : List Loc} {g : Nat → Nat} {π : Sh} {σ : St} {x1 : Int} {x2 : Int} {x3 : Int}, Cl π σ → gx (nn π0) g0 g → ext π0 π → x1 < nn π → lv_has ls 7 [(0, rfv g 50), (1, rfv g x1), (2, .int (Int32.ofInt x2)), (3, .int (Int32.ofInt x3))] → Hp D A s.heap H locs (cW k z g π σ) → Tx_steps_8 N rPart n π σ x1 x2 x3 = some r → W p l e { frames := φ + 1, cells := nn r.1 - nn π0, slots := sw r.1 - sw π0, locals := ψ + 21 } s m args below meth c H locs (nn π - nn π0) (sw π - sw π0) (MQ below (va_Qv (fun u => gx (nn π0) g0 u) (fun u t => PostW D (TYs k) A (cW k z u r.1 r.2) t) A) args s (nn r.1 - nn π0) (sw r.1 - sw π0) A) (F0 m 8 ls []) := by
  induction n with
  | zero => intro ls H locs g π σ x1 x2 x3 hC hG hX hv_x1 hl h hm; cases (show none = some r from hm)
  | succ n hrec8 =>
    intro ls H locs g π σ x1 x2 x3 hC hG hX hv_x1 hl h hm
    have hS := hC.1
    have hq := km_Tx_steps_8 hmrPart  (n + 1) hC hv_x1 hm
    have krec8 : ∀ {π : Sh} {σ : St} {x1 : Int} {x2 : Int} {x3 : Int}, Cl π σ → x1 < nn π → Tx_steps_8 N rPart n π σ x1 x2 x3 = some r → ext π r.1 ∧ Cl r.1 r.2 := fun {_ _} {_} {_} {_} => km_Tx_steps_8 hmrPart  n
    rw [Tx_steps_8] at hm
    refine lv_iload_n C.1 C.2.1 dX10_steps_8 rfl (lv_at hl 3 rfl) ?_
    refine lv_sipush (v := Int32.ofInt 2000) C.1 C.2.1 dX10_steps_9 (by decide) ?_
    obtain ⟨g5, hm⟩ := grd_s hm
    refine z_icmp_ge (tgt := 127) C dX10_steps_12 (by decide) g5 (by decide) (fun c6 => ?_) (fun c6 => ?_)
    · have hm := ite_f c6 hm
      cases hm
      exact c_vretA C hG h hr hlk dX10_steps_127
    · have hm := ite_t c6 hm
      refine lv_iload_n C.1 C.2.1 dX10_steps_15 rfl (lv_at hl 2 rfl) ?_
      obtain ⟨g7, hm⟩ := grd_s hm
      refine z_if_eq (tgt := 127) C dX10_steps_16 (by decide) g7 (fun c8 => ?_) (fun c8 => ?_)
      · have hm := ite_t c8 hm
        cases hm
        exact c_vretA C hG h hr hlk dX10_steps_127
      · have hm := ite_f c8 hm
        refine z_aload_n C dX10_steps_19 rfl (lv_at hl 0 rfl) ?_
        obtain ⟨r9, e10, hm⟩ := obd_s hm
        have q11 := (hmrPart hC e10)
        have q := km_Tx_steps_23 hmrPart krec8 q11.2 (lt_ext hv_x1 q11.1) hm
        refine c_callViA C hE h (sh_50 hS) rfl (by decide) (hcrPart hC e10) (cwV 0 C.2.2.1 (gS_X10_66 _) rfl rfl rfl hd_X10_part ⟨(by show φ + 1 ≤ φ + 1; omega), (by show 8 + (2 + 11) + ψ ≤ ψ + 21; omega)⟩) rfl hl.1 rfl (Nat.le_of_ble_eq_true rfl) dX10_steps_20 ⟨rcC hX q11.1 q.1, rsC hX q11.1 q.1⟩ (fun u H locs hg h => ?_)
        simp only [← gx_rfv hg (sh_50 hS).2.1, ← gx_rfv hg hv_x1] at hl
        try simp only [← gx_rfv hg (sh_50 hS).2.1, ← gx_rfv hg hv_x1]
        refine W_cast (wcC hX q11.1).symm (wsC hX q11.1).symm ?_
        exact kl_Tx_steps_23 (N := N) C hr hlk hE hφ hψ hmrPart hcrPart krec8 hrec8 q11.2 (hG.tr hg hX.1) (hX.tr q11.1) (lt_ext hv_x1 q11.1) (lv_sub hl [0, 1, 3] rfl) h hm
set_option maxHeartbeats 8000000 in
set_option maxRecDepth 100000 in
theorem kc_Tx_steps (l : Launch) (D : va_G) (k : Nat → ClassId) (z mi : Nat) (aK aV : Nat → Nat) (g : Nat → Nat) (N : Nat) {φ ψ : Nat} {rPart : Sh → St → Option (Sh × St × Int)} (hφ : 20 ≤ φ) (hψ : 600 ≤ ψ) (hmrPart : ∀ {π : Sh} {σ : St}  {r : Sh × St × Int}, Cl π σ → rPart π σ  = some r → ext π r.1 ∧ Cl r.1 r.2.1) (hcrPart : ∀ {g : Nat → Nat} {π : Sh} {σ : St}  {r : Sh × St × Int}, Cl π σ → rPart π σ  = some r → Mi l yX10_part (.code yX10_part cX10_part 2 (some .int) :: cWd) { frames := φ, cells := nn r.1 - nn π, slots := sw r.1 - sw π, locals := ψ } [rfv g 50] D (TYs k) (cW k z g π σ) (XV z mi aK aV (cW k z g π σ)) (Nat → Nat) (fun v u => gx (nn π) g u ∧ v = Int32.ofInt r.2.2) (fun u => cW k z u r.1 r.2.1) (nn r.1 - nn π) (sw r.1 - sw π)) {π : Sh} {σ : St} {x1 : Int} {r : Sh × St} (hC : Cl π σ) (hv_x1 : x1 < nn π) (hm : Tx_steps N rPart π σ x1 = some r) : Mv l yX10_steps (.code yX10_steps cX10_steps 7 none :: cWd) { frames := φ + 1, cells := nn r.1 - nn π, slots := sw r.1 - sw π, locals := ψ + 21 } [rfv g 50, rfv g x1] D (TYs k) (cW k z g π σ) (XV z mi aK aV (cW k z g π σ)) (Nat → Nat) (fun u => gx (nn π) g u) (fun u => cW k z u r.1 r.2) (nn r.1 - nn π) (sw r.1 - sw π) := by
  have hS := hC.1
  have hq := km_Tx_steps hmrPart hC hv_x1 hm
  intro sz
  refine v_met (cc := cX10_steps) (maxL := 7) (ret := none) (lv := [(0, rfv g 50), (1, rfv g x1)]) (by decide) rfl (by simp [lg_sl, rfv_cat, cat_i, cat_l]) (by simp [lv_args, rfv_cat, cat_i, cat_l]) ?_
  intro p e s m below meth c ls C hE hr hlk hmn hl h
  generalize ([rfv g 50, rfv g x1] : List Value).toArray = args at C ⊢
  have hG := gx.rf (nn π) g
  have hX := ext.rf π
  refine W_cast (Nat.sub_self (nn π)) (Nat.sub_self (sw π)) ?_
  rw [Tx_steps] at hm
  refine z_aload_n C dX10_steps_0 rfl (lv_at hl 0 rfl) ?_
  obtain ⟨r1, e2, hm⟩ := obd_s hm
  have q3 := (km_Tx_skipBlanks hC e2)
  refine c_callVvP C hE h (sh_50 hS) rfl (by decide) (kc_Tx_skipBlanks l D k z mi aK aV g N hS e2) (cwV 0 C.2.2.1 (gS_X10_42 _) rfl rfl rfl hd_X10_skipBlanks ⟨(by show 0 + 1 ≤ φ + 1; omega), (by show 8 + (1 + 11) + 0 ≤ ψ + 21; omega)⟩) rfl hl.1 rfl (Nat.le_of_ble_eq_true rfl) dX10_steps_1 ⟨(czz hX hq.1), (szz hX hq.1)⟩ (fun H locs h => ?_)
  have hC4 : Cl π r1 := q3
  refine lv_iconst (v := Int32.ofInt 1) C.1 C.2.1 dX10_steps_4 (by decide) ?_
  refine lv_istore_n (i := 2) (lv' := [(2, .int (Int32.ofInt 1)), (0, rfv g 50), (1, rfv g x1)]) C.1 C.2.1 dX10_steps_5 rfl hl (by decide) (by simp [rfv_cat, cat_i, cat_l]) (fun ls hl => ?_)
  refine lv_iconst (v := Int32.ofInt 0) C.1 C.2.1 dX10_steps_6 (by decide) ?_
  refine lv_istore_n (lv' := [(3, .int (Int32.ofInt 0)), (2, .int (Int32.ofInt 1)), (0, rfv g 50), (1, rfv g x1)]) C.1 C.2.1 dX10_steps_7 rfl hl (by decide) rfl (fun ls hl => ?_)
  exact kl_Tx_steps_8 (N := N) C hr hlk hE hφ hψ hmrPart hcrPart N hC4 hG hX hv_x1 (lv_sub hl [2, 3, 1, 0] rfl) h hm
end Z_Tx_steps
section Z_Tx_seq
variable {p : Program} {l : Launch} {e : Env} {s : State} {m : MethodId} {args : Array Value} {below : List Frame} {meth : Method} {c : Code} {D : va_G} {A : Nat → Prop} {k : Nat → ClassId} {N : Nat} {cd : Cond} {z mi : Nat} {aK aV : Nat → Nat} {g0 : Nat → Nat} {π0 : Sh} {φ ψ : Nat}
set_option maxHeartbeats 8000000 in
set_option maxRecDepth 100000 in
theorem kl_Tx_seq_40 {r : Sh × St × Int} (C : Cx p s m args c cX10_seq RX10 (cd :: cWd) D (TYs k) 2) (hr : meth.sig.returnType = (some .int)) (hlk : meth.locks = false) (hE : Ev z mi aK aV A s s.heap) {rPart : Sh → St → Option (Sh × St × Int)} (hφ : 20 ≤ φ) (hψ : 600 ≤ ψ) (hmrPart : ∀ {π : Sh} {σ : St}  {r : Sh × St × Int}, Cl π σ → rPart π σ  = some r → ext π r.1 ∧ Cl r.1 r.2.1) (hcrPart : ∀ {g : Nat → Nat} {π : Sh} {σ : St}  {r : Sh × St × Int}, Cl π σ → rPart π σ  = some r → Mi l yX10_part (.code yX10_part cX10_part 2 (some .int) :: cWd) { frames := φ, cells := nn r.1 - nn π, slots := sw r.1 - sw π, locals := ψ } [rfv g 50] D (TYs k) (cW k z g π σ) (XV z mi aK aV (cW k z g π σ)) (Nat → Nat) (fun v u => gx (nn π) g u ∧ v = Int32.ofInt r.2.2) (fun u => cW k z u r.1 r.2.1) (nn r.1 - nn π) (sw r.1 - sw π))  {ls : Array Slot} {H : Heap} {locs : List Loc} {g : Nat → Nat} {π : Sh} {σ : St} {s0 : Int} (hC : Cl π σ) (hG : gx (nn π0) g0 g) (hX : ext π0 π)  (hl : lv_has ls 2 []) (h : Hp D A s.heap H locs (cW k z g π σ)) (hm : Tx_seq_40 N rPart π σ s0 = some r) : W p l e { frames := φ + 2, cells := nn r.1 - nn π0, slots := sw r.1 - sw π0, locals := ψ + 47 } s m args below meth c H locs (nn π - nn π0) (sw π - sw π0) (MQ below (va_Qi (fun v u => gx (nn π0) g0 u ∧ v = Int32.ofInt r.2.2) (fun u t => PostW D (TYs k) A (cW k z u r.1 r.2.1) t) A) args s (nn r.1 - nn π0) (sw r.1 - sw π0) A) (F0 m 40 ls [.int (Int32.ofInt s0)]) := by
  have hS := hC.1
  have hq := km_Tx_seq_40 hmrPart   hC  hm
  rw [Tx_seq_40] at hm
  refine lv_goto (tgt := 44) C.1 C.2.1 dX10_seq_40 (by decide) ?_
  cases hm
  exact c_iretA C hG h hr hlk dX10_seq_44 rfl
set_option maxHeartbeats 8000000 in
set_option maxRecDepth 100000 in
theorem kl_Tx_seq_22 {r : Sh × St × Int} (C : Cx p s m args c cX10_seq RX10 (cd :: cWd) D (TYs k) 2) (hr : meth.sig.returnType = (some .int)) (hlk : meth.locks = false) (hE : Ev z mi aK aV A s s.heap) {rPart : Sh → St → Option (Sh × St × Int)} (hφ : 20 ≤ φ) (hψ : 600 ≤ ψ) (hmrPart : ∀ {π : Sh} {σ : St}  {r : Sh × St × Int}, Cl π σ → rPart π σ  = some r → ext π r.1 ∧ Cl r.1 r.2.1) (hcrPart : ∀ {g : Nat → Nat} {π : Sh} {σ : St}  {r : Sh × St × Int}, Cl π σ → rPart π σ  = some r → Mi l yX10_part (.code yX10_part cX10_part 2 (some .int) :: cWd) { frames := φ, cells := nn r.1 - nn π, slots := sw r.1 - sw π, locals := ψ } [rfv g 50] D (TYs k) (cW k z g π σ) (XV z mi aK aV (cW k z g π σ)) (Nat → Nat) (fun v u => gx (nn π) g u ∧ v = Int32.ofInt r.2.2) (fun u => cW k z u r.1 r.2.1) (nn r.1 - nn π) (sw r.1 - sw π))  {ls : Array Slot} {H : Heap} {locs : List Loc} {g : Nat → Nat} {π : Sh} {σ : St} {x1 : Int} (hC : Cl π σ) (hG : gx (nn π0) g0 g) (hX : ext π0 π) (hv_x1 : x1 < nn π) (hl : lv_has ls 2 [(0, rfv g 50), (1, rfv g x1)]) (h : Hp D A s.heap H locs (cW k z g π σ)) (hm : Tx_seq_22 N rPart π σ x1 = some r) : W p l e { frames := φ + 2, cells := nn r.1 - nn π0, slots := sw r.1 - sw π0, locals := ψ + 47 } s m args below meth c H locs (nn π - nn π0) (sw π - sw π0) (MQ below (va_Qi (fun v u => gx (nn π0) g0 u ∧ v = Int32.ofInt r.2.2) (fun u t => PostW D (TYs k) A (cW k z u r.1 r.2.1) t) A) args s (nn r.1 - nn π0) (sw r.1 - sw π0) A) (F0 m 22 ls []) := by
  have hS := hC.1
  have hq := km_Tx_seq_22 hmrPart   hC hv_x1 hm
  rw [Tx_seq_22] at hm
  refine z_aload_n C dX10_seq_22 rfl (lv_at hl 0 rfl) ?_
  refine cg_11_0 C h (sh_50 hS) cU_X10 (List.mem_cons_of_mem _ wl_X10_28) dX10_seq_23 ?_
  refine cg_9_2 C h (sh_1 hS) cU_X8 (List.mem_cons_of_mem _ wl_X10_57) dX10_seq_26 ?_
  obtain ⟨g13, hm⟩ := grd_s hm
  refine z_if_ne (tgt := 43) C dX10_seq_29 (by decide) g13 (fun c14 => ?_) (fun c14 => ?_)
  · have hm := ite_f c14 hm
    refine lv_iconst (v := Int32.ofInt 0) C.1 C.2.1 dX10_seq_43 (by decide) ?_
    cases hm
    exact c_iretA C hG h hr hlk dX10_seq_44 rfl
  · have hm := ite_t c14 hm
    refine z_aload_n C dX10_seq_32 rfl (lv_at hl 0 rfl) ?_
    refine cg_11_1 C h (sh_50 hS) cU_X10 (List.mem_cons_of_mem _ wl_X10_9) dX10_seq_33 ?_
    refine z_aload_n C dX10_seq_36 rfl (lv_at hl 1 rfl) ?_
    obtain ⟨r15, e16, hm⟩ := obd_s hm
    have q17 := (km_Df_add hC (cl_fl hC (f := 221) rfl 50) hv_x1 e16)
    obtain ⟨g18, hm⟩ := grd_s hm
    have q := km_Tx_seq_40 hmrPart  q17.2  hm
    refine c_callViA C hE h g18 rfl (by decide) (kc_Df_add l D k z mi aK aV g N hC (cl_fl hC (f := 221) rfl 50) hv_x1 e16) (cwV 1 C.2.2.1 (gS_X10_60 _) rfl rfl rfl hd_X0_add ⟨(by show 7 + 1 ≤ φ + 2; omega), (by show 8 + (2 + 11) + 241 ≤ ψ + 47; omega)⟩) rfl hl.1 rfl (Nat.le_of_ble_eq_true rfl) dX10_seq_37 ⟨rcC hX q17.1 q.1, rsC hX q17.1 q.1⟩ (fun u H locs hg h => ?_)
    simp only [← gx_rfv hg (sh_50 hS).2.1, ← gx_rfv hg hv_x1] at hl
    try simp only [← gx_rfv hg (sh_50 hS).2.1, ← gx_rfv hg hv_x1]
    refine W_cast (wcC hX q17.1).symm (wsC hX q17.1).symm ?_
    exact kl_Tx_seq_40 (N := N) C hr hlk hE hφ hψ hmrPart hcrPart  q17.2 (hG.tr hg hX.1) (hX.tr q17.1)  (lv_sub hl [] rfl) h hm
set_option maxHeartbeats 8000000 in
set_option maxRecDepth 100000 in
theorem kl_Tx_seq_16 {r : Sh × St × Int} (C : Cx p s m args c cX10_seq RX10 (cd :: cWd) D (TYs k) 2) (hr : meth.sig.returnType = (some .int)) (hlk : meth.locks = false) (hE : Ev z mi aK aV A s s.heap) {rPart : Sh → St → Option (Sh × St × Int)} (hφ : 20 ≤ φ) (hψ : 600 ≤ ψ) (hmrPart : ∀ {π : Sh} {σ : St}  {r : Sh × St × Int}, Cl π σ → rPart π σ  = some r → ext π r.1 ∧ Cl r.1 r.2.1) (hcrPart : ∀ {g : Nat → Nat} {π : Sh} {σ : St}  {r : Sh × St × Int}, Cl π σ → rPart π σ  = some r → Mi l yX10_part (.code yX10_part cX10_part 2 (some .int) :: cWd) { frames := φ, cells := nn r.1 - nn π, slots := sw r.1 - sw π, locals := ψ } [rfv g 50] D (TYs k) (cW k z g π σ) (XV z mi aK aV (cW k z g π σ)) (Nat → Nat) (fun v u => gx (nn π) g u ∧ v = Int32.ofInt r.2.2) (fun u => cW k z u r.1 r.2.1) (nn r.1 - nn π) (sw r.1 - sw π))  {ls : Array Slot} {H : Heap} {locs : List Loc} {g : Nat → Nat} {π : Sh} {σ : St} {s0 : Int} (hC : Cl π σ) (hG : gx (nn π0) g0 g) (hX : ext π0 π) (hv_s0 : s0 < nn π) (hl : lv_has ls 2 [(0, rfv g 50)]) (h : Hp D A s.heap H locs (cW k z g π σ)) (hm : Tx_seq_16 N rPart π σ s0 = some r) : W p l e { frames := φ + 2, cells := nn r.1 - nn π0, slots := sw r.1 - sw π0, locals := ψ + 47 } s m args below meth c H locs (nn π - nn π0) (sw π - sw π0) (MQ below (va_Qi (fun v u => gx (nn π0) g0 u ∧ v = Int32.ofInt r.2.2) (fun u t => PostW D (TYs k) A (cW k z u r.1 r.2.1) t) A) args s (nn r.1 - nn π0) (sw r.1 - sw π0) A) (F0 m 16 ls [rfv g s0]) := by
  have hS := hC.1
  have hq := km_Tx_seq_16 hmrPart   hC hv_s0 hm
  rw [Tx_seq_16] at hm
  refine z_astore_n (j := 1) (lv' := [(1, rfv g s0), (0, rfv g 50)]) C dX10_seq_16 rfl hl (by decide) (by simp [rfv_cat, cat_i, cat_l]) (fun ls hl => ?_)
  refine z_aload_n C dX10_seq_17 rfl (lv_at hl 1 rfl) ?_
  refine z_aload_n C dX10_seq_18 rfl (lv_at hl 0 rfl) ?_
  obtain ⟨r10, e11, hm⟩ := obd_s hm
  have q12 := (km_Tx_steps hmrPart hC hv_s0 e11)
  have q := km_Tx_seq_22 hmrPart  q12.2 (lt_ext hv_s0 q12.1) hm
  refine c_callVvA C hE h (sh_50 hS) rfl (by decide) (kc_Tx_steps l D k z mi aK aV g N hφ hψ hmrPart hcrPart hC hv_s0 e11) (cwV 1 C.2.2.1 (gS_X10_53 _) rfl rfl rfl hd_X10_steps ⟨(by show φ + 1 + 1 ≤ φ + 2; omega), (by show 8 + (7 + 11) + (ψ + 21) ≤ ψ + 47; omega)⟩) rfl hl.1 rfl (Nat.le_of_ble_eq_true rfl) dX10_seq_19 ⟨rcC hX q12.1 q.1, rsC hX q12.1 q.1⟩ (fun u H locs hg h => ?_)
  simp only [← gx_rfv hg hv_s0, ← gx_rfv hg (sh_50 hS).2.1] at hl
  try simp only [← gx_rfv hg hv_s0, ← gx_rfv hg (sh_50 hS).2.1]
  refine W_cast (wcC hX q12.1).symm (wsC hX q12.1).symm ?_
  exact kl_Tx_seq_22 (N := N) C hr hlk hE hφ hψ hmrPart hcrPart  q12.2 (hG.tr hg hX.1) (hX.tr q12.1) (lt_ext hv_s0 q12.1) (lv_sub hl [1, 0] rfl) h hm
set_option maxHeartbeats 8000000 in
set_option maxRecDepth 100000 in
theorem kl_Tx_seq_7 {r : Sh × St × Int} (C : Cx p s m args c cX10_seq RX10 (cd :: cWd) D (TYs k) 2) (hr : meth.sig.returnType = (some .int)) (hlk : meth.locks = false) (hE : Ev z mi aK aV A s s.heap) {rPart : Sh → St → Option (Sh × St × Int)} (hφ : 20 ≤ φ) (hψ : 600 ≤ ψ) (hmrPart : ∀ {π : Sh} {σ : St}  {r : Sh × St × Int}, Cl π σ → rPart π σ  = some r → ext π r.1 ∧ Cl r.1 r.2.1) (hcrPart : ∀ {g : Nat → Nat} {π : Sh} {σ : St}  {r : Sh × St × Int}, Cl π σ → rPart π σ  = some r → Mi l yX10_part (.code yX10_part cX10_part 2 (some .int) :: cWd) { frames := φ, cells := nn r.1 - nn π, slots := sw r.1 - sw π, locals := ψ } [rfv g 50] D (TYs k) (cW k z g π σ) (XV z mi aK aV (cW k z g π σ)) (Nat → Nat) (fun v u => gx (nn π) g u ∧ v = Int32.ofInt r.2.2) (fun u => cW k z u r.1 r.2.1) (nn r.1 - nn π) (sw r.1 - sw π))  {ls : Array Slot} {H : Heap} {locs : List Loc} {g : Nat → Nat} {π : Sh} {σ : St} {s0 : Int} (hC : Cl π σ) (hG : gx (nn π0) g0 g) (hX : ext π0 π) (hv_s0 : s0 < nn π) (hl : lv_has ls 2 [(0, rfv g 50)]) (h : Hp D A s.heap H locs (cW k z g π σ)) (hm : Tx_seq_7 N rPart π σ s0 = some r) : W p l e { frames := φ + 2, cells := nn r.1 - nn π0, slots := sw r.1 - sw π0, locals := ψ + 47 } s m args below meth c H locs (nn π - nn π0) (sw π - sw π0) (MQ below (va_Qi (fun v u => gx (nn π0) g0 u ∧ v = Int32.ofInt r.2.2) (fun u t => PostW D (TYs k) A (cW k z u r.1 r.2.1) t) A) args s (nn r.1 - nn π0) (sw r.1 - sw π0) A) (F0 m 7 ls [rfv g s0]) := by
  have hS := hC.1
  have hq := km_Tx_seq_7 hmrPart   hC hv_s0 hm
  rw [Tx_seq_7] at hm
  refine lv_dup C.1 C.2.1 dX10_seq_7 (rfv_cat _ _) ?_
  refine lv_iconst (v := Int32.ofInt 4) C.1 C.2.1 dX10_seq_8 (by decide) ?_
  refine z_aload_n C dX10_seq_9 rfl (lv_at hl 0 rfl) ?_
  refine cg_11_2 C h (sh_50 hS) cU_X10 (List.mem_cons_of_mem _ wl_X10_15) dX10_seq_10 ?_
  obtain ⟨r6, e7, hm⟩ := obd_s hm
  have q8 := (km_Sp_init hC hv_s0 e7)
  obtain ⟨g9, hm⟩ := grd_s hm
  have q := km_Tx_seq_16 hmrPart  q8.2 (lt_ext hv_s0 q8.1) hm
  refine c_callIvA C hE h g9 (kc_Sp_init l D k z mi aK aV g N hC hv_s0 e7) (cwI 2 C.2.2.1 (gC_X9_init _) rfl rfl rfl (C.2.2.1 _ (List.mem_cons_of_mem _ wt_X9)) (C.2.2.1 _ (List.mem_cons_of_mem _ wm_X10_51)) (C.2.2.1 _ (List.mem_cons_of_mem _ wj_X9_init)) rfl hdS_X9_init ⟨(by show 1 + 1 ≤ φ + 2; omega), (by show 8 + (3 + 11) + 30 ≤ ψ + 47; omega)⟩) rfl hl.1 rfl (by simp [rfv_cat, cat_i, cat_l]) dX10_seq_13 ⟨rcC hX q8.1 q.1, rsC hX q8.1 q.1⟩ (fun u H locs hg h => ?_)
  simp only [← gx_rfv hg (sh_50 hS).2.1, ← gx_rfv hg hv_s0] at hl
  try simp only [← gx_rfv hg (sh_50 hS).2.1, ← gx_rfv hg hv_s0]
  refine W_cast (wcC hX q8.1).symm (wsC hX q8.1).symm ?_
  exact kl_Tx_seq_16 (N := N) C hr hlk hE hφ hψ hmrPart hcrPart  q8.2 (hG.tr hg hX.1) (hX.tr q8.1) (lt_ext hv_s0 q8.1) (lv_sub hl [0] rfl) h hm
set_option maxHeartbeats 8000000 in
set_option maxRecDepth 100000 in
theorem kc_Tx_seq (l : Launch) (D : va_G) (k : Nat → ClassId) (z mi : Nat) (aK aV : Nat → Nat) (g : Nat → Nat) (N : Nat) {φ ψ : Nat} {rPart : Sh → St → Option (Sh × St × Int)} (hφ : 20 ≤ φ) (hψ : 600 ≤ ψ) (hmrPart : ∀ {π : Sh} {σ : St}  {r : Sh × St × Int}, Cl π σ → rPart π σ  = some r → ext π r.1 ∧ Cl r.1 r.2.1) (hcrPart : ∀ {g : Nat → Nat} {π : Sh} {σ : St}  {r : Sh × St × Int}, Cl π σ → rPart π σ  = some r → Mi l yX10_part (.code yX10_part cX10_part 2 (some .int) :: cWd) { frames := φ, cells := nn r.1 - nn π, slots := sw r.1 - sw π, locals := ψ } [rfv g 50] D (TYs k) (cW k z g π σ) (XV z mi aK aV (cW k z g π σ)) (Nat → Nat) (fun v u => gx (nn π) g u ∧ v = Int32.ofInt r.2.2) (fun u => cW k z u r.1 r.2.1) (nn r.1 - nn π) (sw r.1 - sw π)) {π : Sh} {σ : St}  {r : Sh × St × Int} (hC : Cl π σ)  (hm : Tx_seq N rPart π σ  = some r) : Mi l yX10_seq (.code yX10_seq cX10_seq 2 (some .int) :: cWd) { frames := φ + 2, cells := nn r.1 - nn π, slots := sw r.1 - sw π, locals := ψ + 47 } [rfv g 50] D (TYs k) (cW k z g π σ) (XV z mi aK aV (cW k z g π σ)) (Nat → Nat) (fun v u => gx (nn π) g u ∧ v = Int32.ofInt r.2.2) (fun u => cW k z u r.1 r.2.1) (nn r.1 - nn π) (sw r.1 - sw π) := by
  have hS := hC.1
  have hq := km_Tx_seq hmrPart hC  hm
  intro sz
  refine v_met (cc := cX10_seq) (maxL := 2) (ret := (some .int)) (lv := [(0, rfv g 50)]) (by decide) rfl (by simp [lg_sl, rfv_cat, cat_i, cat_l]) (by simp [lv_args, rfv_cat, cat_i, cat_l]) ?_
  intro p e s m below meth c ls C hE hr hlk hmn hl h
  generalize ([rfv g 50] : List Value).toArray = args at C ⊢
  have hG := gx.rf (nn π) g
  have hX := ext.rf π
  refine W_cast (Nat.sub_self (nn π)) (Nat.sub_self (sw π)) ?_
  rw [Tx_seq] at hm
  refine z_aload_n C dX10_seq_0 rfl (lv_at hl 0 rfl) ?_
  obtain ⟨r1, e2, hm⟩ := obd_s hm
  have q3 := (km_Tx_skipBlanks hC e2)
  refine c_callVvP C hE h (sh_50 hS) rfl (by decide) (kc_Tx_skipBlanks l D k z mi aK aV g N hS e2) (cwV 0 C.2.2.1 (gS_X10_42 _) rfl rfl rfl hd_X10_skipBlanks ⟨(by show 0 + 1 ≤ φ + 2; omega), (by show 8 + (1 + 11) + 0 ≤ ψ + 47; omega)⟩) rfl hl.1 rfl (Nat.le_of_ble_eq_true rfl) dX10_seq_1 ⟨(czz hX hq.1), (szz hX hq.1)⟩ (fun H locs h => ?_)
  have hC4 : Cl π r1 := q3
  have q := km_Tx_seq_7 hmrPart  ((cl_nO hC4 (by decide) (by decide) _)) lt_nO hm
  refine c_new C h hC4 (by decide) dX10_seq_4 rfl cU_X9 tyX9_ok (List.mem_cons_of_mem _ wn_X10_49) (List.mem_cons_of_mem _ wi_X9) (List.mem_cons_of_mem _ wt_X9) (df_X9) (dn_X9 z) (rc1 hX q.1) (rs1 hX q.1) (fun u H hg h => ?_)
  simp only [← gx_rfv hg (sh_50 hS).2.1] at hl
  try simp only [← gx_rfv hg (sh_50 hS).2.1]
  refine W_cast (wcO (c := 10) (w := 14) hX).symm (wsO (c := 10) (w := 14) hX).symm ?_
  exact kl_Tx_seq_7 (N := N) C hr hlk hE hφ hψ hmrPart hcrPart  ((cl_nO hC4 (by decide) (by decide) _)) (hG.tr hg hX.1) (hX.tr (ext_nO π 10 14)) lt_nO (lv_sub hl [0] rfl) h hm
end Z_Tx_seq
section Z_Tx_bracket
variable {p : Program} {l : Launch} {e : Env} {s : State} {m : MethodId} {args : Array Value} {below : List Frame} {meth : Method} {c : Code} {D : va_G} {A : Nat → Prop} {k : Nat → ClassId} {N : Nat} {cd : Cond} {z mi : Nat} {aK aV : Nat → Nat} {g0 : Nat → Nat} {π0 : Sh} {φ ψ : Nat}
set_option maxHeartbeats 8000000 in
set_option maxRecDepth 100000 in
theorem kl_Tx_bracket_72 {r : Sh × St × Int} (C : Cx p s m args c cX10_bracket RX10 (cd :: cWd) D (TYs k) 4) (hr : meth.sig.returnType = (some .int)) (hlk : meth.locks = false) (hE : Ev z mi aK aV A s s.heap) {rPart : Sh → St → Option (Sh × St × Int)} (hφ : 20 ≤ φ) (hψ : 600 ≤ ψ) (hmrPart : ∀ {π : Sh} {σ : St}  {r : Sh × St × Int}, Cl π σ → rPart π σ  = some r → ext π r.1 ∧ Cl r.1 r.2.1) (hcrPart : ∀ {g : Nat → Nat} {π : Sh} {σ : St}  {r : Sh × St × Int}, Cl π σ → rPart π σ  = some r → Mi l yX10_part (.code yX10_part cX10_part 2 (some .int) :: cWd) { frames := φ, cells := nn r.1 - nn π, slots := sw r.1 - sw π, locals := ψ } [rfv g 50] D (TYs k) (cW k z g π σ) (XV z mi aK aV (cW k z g π σ)) (Nat → Nat) (fun v u => gx (nn π) g u ∧ v = Int32.ofInt r.2.2) (fun u => cW k z u r.1 r.2.1) (nn r.1 - nn π) (sw r.1 - sw π)) {rec18 : Sh → St → Int → Int → Int → Option (Sh × St × Int)} (krec18 : ∀ {π : Sh} {σ : St} {x1 : Int} {x2 : Int} {x3 : Int}, Cl π σ → x1 < nn π → rec18 π σ x1 x2 x3 = some r → ext π r.1 ∧ Cl r.1 r.2.1) (hrec18 : ∀ {ls : Array Slot} {H : Heap} {locs : List Loc} {g : Nat → Nat} {π : Sh} {σ : St} {x1 : Int} {x2 : Int} {x3 : Int}, Cl π σ → gx (nn π0) g0 g → ext π0 π → x1 < nn π → lv_has ls 4 [(0, rfv g 50), (1, rfv g x1), (2, .int (Int32.ofInt x2)), (3, .int (Int32.ofInt x3))] → Hp D A s.heap H locs (cW k z g π σ) → rec18 π σ x1 x2 x3 = some r → W p l e { frames := φ + 3, cells := nn r.1 - nn π0, slots := sw r.1 - sw π0, locals := ψ + 68 } s m args below meth c H locs (nn π - nn π0) (sw π - sw π0) (MQ below (va_Qi (fun v u => gx (nn π0) g0 u ∧ v = Int32.ofInt r.2.2) (fun u t => PostW D (TYs k) A (cW k z u r.1 r.2.1) t) A) args s (nn r.1 - nn π0) (sw r.1 - sw π0) A) (F0 m 18 ls [])) {ls : Array Slot} {H : Heap} {locs : List Loc} {g : Nat → Nat} {π : Sh} {σ : St} {x1 : Int} {x3 : Int} {s0 : Int} (hC : Cl π σ) (hG : gx (nn π0) g0 g) (hX : ext π0 π) (hv_x1 : x1 < nn π) (hl : lv_has ls 4 [(0, rfv g 50), (1, rfv g x1), (3, .int (Int32.ofInt x3))]) (h : Hp D A s.heap H locs (cW k z g π σ)) (hm : Tx_bracket_72 N rPart rec18 π σ x1 x3 s0 = some r) : W p l e { frames := φ + 3, cells := nn r.1 - nn π0, slots := sw r.1 - sw π0, locals := ψ + 68 } s m args below meth c H locs (nn π - nn π0) (sw π - sw π0) (MQ below (va_Qi (fun v u => gx (nn π0) g0 u ∧ v = Int32.ofInt r.2.2) (fun u t => PostW D (TYs k) A (cW k z u r.1 r.2.1) t) A) args s (nn r.1 - nn π0) (sw r.1 - sw π0) A) (F0 m 72 ls [.int (Int32.ofInt s0)]) := by
  have hS := hC.1
  have hq := km_Tx_bracket_72 hmrPart krec18  hC hv_x1 hm
  rw [Tx_bracket_72] at hm
  refine lv_istore_n (i := 2) (lv' := [(2, .int (Int32.ofInt s0)), (0, rfv g 50), (1, rfv g x1), (3, .int (Int32.ofInt x3))]) C.1 C.2.1 dX10_bracket_72 rfl hl (by decide) (by simp [rfv_cat, cat_i, cat_l]) (fun ls hl => ?_)
  refine lv_iinc (v := Int32.ofInt (x3 + 1)) (lv' := [(3, .int (Int32.ofInt (x3 + 1))), (2, .int (Int32.ofInt s0)), (0, rfv g 50), (1, rfv g x1)]) C.1 C.2.1 dX10_bracket_73 hl (k := 3) rfl (c32_add _ _) (by decide) rfl (fun ls hl => ?_)
  refine lv_goto (tgt := 18) C.1 C.2.1 dX10_bracket_76 (by decide) ?_
  exact hrec18 hC hG hX hv_x1 (lv_sub hl [2, 3, 1, 0] rfl) h hm
set_option maxHeartbeats 8000000 in
set_option maxRecDepth 100000 in
theorem kl_Tx_bracket_57 {r : Sh × St × Int} (C : Cx p s m args c cX10_bracket RX10 (cd :: cWd) D (TYs k) 4) (hr : meth.sig.returnType = (some .int)) (hlk : meth.locks = false) (hE : Ev z mi aK aV A s s.heap) {rPart : Sh → St → Option (Sh × St × Int)} (hφ : 20 ≤ φ) (hψ : 600 ≤ ψ) (hmrPart : ∀ {π : Sh} {σ : St}  {r : Sh × St × Int}, Cl π σ → rPart π σ  = some r → ext π r.1 ∧ Cl r.1 r.2.1) (hcrPart : ∀ {g : Nat → Nat} {π : Sh} {σ : St}  {r : Sh × St × Int}, Cl π σ → rPart π σ  = some r → Mi l yX10_part (.code yX10_part cX10_part 2 (some .int) :: cWd) { frames := φ, cells := nn r.1 - nn π, slots := sw r.1 - sw π, locals := ψ } [rfv g 50] D (TYs k) (cW k z g π σ) (XV z mi aK aV (cW k z g π σ)) (Nat → Nat) (fun v u => gx (nn π) g u ∧ v = Int32.ofInt r.2.2) (fun u => cW k z u r.1 r.2.1) (nn r.1 - nn π) (sw r.1 - sw π)) {rec18 : Sh → St → Int → Int → Int → Option (Sh × St × Int)} (krec18 : ∀ {π : Sh} {σ : St} {x1 : Int} {x2 : Int} {x3 : Int}, Cl π σ → x1 < nn π → rec18 π σ x1 x2 x3 = some r → ext π r.1 ∧ Cl r.1 r.2.1) (hrec18 : ∀ {ls : Array Slot} {H : Heap} {locs : List Loc} {g : Nat → Nat} {π : Sh} {σ : St} {x1 : Int} {x2 : Int} {x3 : Int}, Cl π σ → gx (nn π0) g0 g → ext π0 π → x1 < nn π → lv_has ls 4 [(0, rfv g 50), (1, rfv g x1), (2, .int (Int32.ofInt x2)), (3, .int (Int32.ofInt x3))] → Hp D A s.heap H locs (cW k z g π σ) → rec18 π σ x1 x2 x3 = some r → W p l e { frames := φ + 3, cells := nn r.1 - nn π0, slots := sw r.1 - sw π0, locals := ψ + 68 } s m args below meth c H locs (nn π - nn π0) (sw π - sw π0) (MQ below (va_Qi (fun v u => gx (nn π0) g0 u ∧ v = Int32.ofInt r.2.2) (fun u t => PostW D (TYs k) A (cW k z u r.1 r.2.1) t) A) args s (nn r.1 - nn π0) (sw r.1 - sw π0) A) (F0 m 18 ls [])) {ls : Array Slot} {H : Heap} {locs : List Loc} {g : Nat → Nat} {π : Sh} {σ : St} {x1 : Int} {x3 : Int} {s0 : Int} (hC : Cl π σ) (hG : gx (nn π0) g0 g) (hX : ext π0 π) (hv_x1 : x1 < nn π) (hv_s0 : s0 < nn π) (hl : lv_has ls 4 [(0, rfv g 50), (1, rfv g x1), (3, .int (Int32.ofInt x3))]) (h : Hp D A s.heap H locs (cW k z g π σ)) (hm : Tx_bracket_57 N rPart rec18 π σ x1 x3 s0 = some r) : W p l e { frames := φ + 3, cells := nn r.1 - nn π0, slots := sw r.1 - sw π0, locals := ψ + 68 } s m args below meth c H locs (nn π - nn π0) (sw π - sw π0) (MQ below (va_Qi (fun v u => gx (nn π0) g0 u ∧ v = Int32.ofInt r.2.2) (fun u t => PostW D (TYs k) A (cW k z u r.1 r.2.1) t) A) args s (nn r.1 - nn π0) (sw r.1 - sw π0) A) (F0 m 57 ls [rfv g s0]) := by
  have hS := hC.1
  have hq := km_Tx_bracket_57 hmrPart krec18  hC hv_x1 hv_s0 hm
  rw [Tx_bracket_57] at hm
  refine lv_pop C.1 C.2.1 dX10_bracket_57 (rfv_cat _ _) ?_
  refine z_aload_n C dX10_bracket_58 rfl (lv_at hl 0 rfl) ?_
  obtain ⟨r40, e41, hm⟩ := obd_s hm
  have q42 := (km_Tx_here hC e41)
  refine c_callViP C hE h (sh_50 hS) rfl (by decide) (kc_Tx_here l D k z mi aK aV g N hS e41) (cwV 0 C.2.2.1 (gS_X10_45 _) rfl rfl rfl hd_X10_here ⟨(by show 0 + 1 ≤ φ + 3; omega), (by show 8 + (1 + 11) + 0 ≤ ψ + 68; omega)⟩) rfl hl.1 rfl (Nat.le_of_ble_eq_true rfl) dX10_bracket_59 ⟨(czz hX hq.1), (szz hX hq.1)⟩ (fun H locs h => ?_)
  have hC43 : Cl π r40.1 := q42
  refine lv_bipush (v := Int32.ofInt 44) C.1 C.2.1 dX10_bracket_62 (by decide) ?_
  obtain ⟨g44, hm⟩ := grd_s hm
  refine z_icmp_ne (tgt := 71) C dX10_bracket_64 (by decide) g44 (by decide) (fun c45 => ?_) (fun c45 => ?_)
  · have hm := ite_f c45 hm
    refine lv_iconst (v := Int32.ofInt 0) C.1 C.2.1 dX10_bracket_71 (by decide) ?_
    exact kl_Tx_bracket_72 (N := N) C hr hlk hE hφ hψ hmrPart hcrPart krec18 hrec18 hC43 hG hX hv_x1 (lv_sub hl [0, 1, 2] rfl) h hm
  · have hm := ite_t c45 hm
    refine lv_iconst (v := Int32.ofInt 1) C.1 C.2.1 dX10_bracket_67 (by decide) ?_
    refine lv_goto (tgt := 72) C.1 C.2.1 dX10_bracket_68 (by decide) ?_
    exact kl_Tx_bracket_72 (N := N) C hr hlk hE hφ hψ hmrPart hcrPart krec18 hrec18 hC43 hG hX hv_x1 (lv_sub hl [0, 1, 2] rfl) h hm
set_option maxHeartbeats 8000000 in
set_option maxRecDepth 100000 in
theorem kl_Tx_bracket_54 {r : Sh × St × Int} (C : Cx p s m args c cX10_bracket RX10 (cd :: cWd) D (TYs k) 4) (hr : meth.sig.returnType = (some .int)) (hlk : meth.locks = false) (hE : Ev z mi aK aV A s s.heap) {rPart : Sh → St → Option (Sh × St × Int)} (hφ : 20 ≤ φ) (hψ : 600 ≤ ψ) (hmrPart : ∀ {π : Sh} {σ : St}  {r : Sh × St × Int}, Cl π σ → rPart π σ  = some r → ext π r.1 ∧ Cl r.1 r.2.1) (hcrPart : ∀ {g : Nat → Nat} {π : Sh} {σ : St}  {r : Sh × St × Int}, Cl π σ → rPart π σ  = some r → Mi l yX10_part (.code yX10_part cX10_part 2 (some .int) :: cWd) { frames := φ, cells := nn r.1 - nn π, slots := sw r.1 - sw π, locals := ψ } [rfv g 50] D (TYs k) (cW k z g π σ) (XV z mi aK aV (cW k z g π σ)) (Nat → Nat) (fun v u => gx (nn π) g u ∧ v = Int32.ofInt r.2.2) (fun u => cW k z u r.1 r.2.1) (nn r.1 - nn π) (sw r.1 - sw π)) {rec18 : Sh → St → Int → Int → Int → Option (Sh × St × Int)} (krec18 : ∀ {π : Sh} {σ : St} {x1 : Int} {x2 : Int} {x3 : Int}, Cl π σ → x1 < nn π → rec18 π σ x1 x2 x3 = some r → ext π r.1 ∧ Cl r.1 r.2.1) (hrec18 : ∀ {ls : Array Slot} {H : Heap} {locs : List Loc} {g : Nat → Nat} {π : Sh} {σ : St} {x1 : Int} {x2 : Int} {x3 : Int}, Cl π σ → gx (nn π0) g0 g → ext π0 π → x1 < nn π → lv_has ls 4 [(0, rfv g 50), (1, rfv g x1), (2, .int (Int32.ofInt x2)), (3, .int (Int32.ofInt x3))] → Hp D A s.heap H locs (cW k z g π σ) → rec18 π σ x1 x2 x3 = some r → W p l e { frames := φ + 3, cells := nn r.1 - nn π0, slots := sw r.1 - sw π0, locals := ψ + 68 } s m args below meth c H locs (nn π - nn π0) (sw π - sw π0) (MQ below (va_Qi (fun v u => gx (nn π0) g0 u ∧ v = Int32.ofInt r.2.2) (fun u t => PostW D (TYs k) A (cW k z u r.1 r.2.1) t) A) args s (nn r.1 - nn π0) (sw r.1 - sw π0) A) (F0 m 18 ls [])) {ls : Array Slot} {H : Heap} {locs : List Loc} {g : Nat → Nat} {π : Sh} {σ : St} {x1 : Int} {x3 : Int} {s0 : Int} {s1 : Int} (hC : Cl π σ) (hG : gx (nn π0) g0 g) (hX : ext π0 π) (hv_x1 : x1 < nn π) (hv_s1 : s1 < nn π) (hl : lv_has ls 4 [(0, rfv g 50), (1, rfv g x1), (3, .int (Int32.ofInt x3))]) (h : Hp D A s.heap H locs (cW k z g π σ)) (hm : Tx_bracket_54 N rPart rec18 π σ x1 x3 s0 s1 = some r) : W p l e { frames := φ + 3, cells := nn r.1 - nn π0, slots := sw r.1 - sw π0, locals := ψ + 68 } s m args below meth c H locs (nn π - nn π0) (sw π - sw π0) (MQ below (va_Qi (fun v u => gx (nn π0) g0 u ∧ v = Int32.ofInt r.2.2) (fun u t => PostW D (TYs k) A (cW k z u r.1 r.2.1) t) A) args s (nn r.1 - nn π0) (sw r.1 - sw π0) A) (F0 m 54 ls [.int (Int32.ofInt s0), rfv g s1]) := by
  have hS := hC.1
  have hq := km_Tx_bracket_54 hmrPart krec18  hC hv_x1 hv_s1 hm
  rw [Tx_bracket_54] at hm
  obtain ⟨r36, e37, hm⟩ := obd_s hm
  have q38 := (km_Sp_give hC hv_s1 e37)
  obtain ⟨g39, hm⟩ := grd_s hm
  have q := km_Tx_bracket_57 hmrPart krec18 q38.2.1 (lt_ext hv_x1 q38.1) q38.2.2 hm
  refine c_callVqA C hE h g39 rfl (by decide) (kc_Sp_give l D k z mi aK aV g N hC hv_s1 e37) (cwV 1 C.2.2.1 (gS_X10_127 _) rfl rfl rfl hd_X9_give ⟨(by show 2 + 1 ≤ φ + 3; omega), (by show 8 + (2 + 11) + 82 ≤ ψ + 68; omega)⟩) rfl hl.1 rfl (Nat.le_of_ble_eq_true rfl) dX10_bracket_54 ⟨rcC hX q38.1 q.1, rsC hX q38.1 q.1⟩ (fun u H locs hg h => ?_)
  simp only [← gx_rfv hg (sh_50 hS).2.1, ← gx_rfv hg hv_x1] at hl
  try simp only [← gx_rfv hg (sh_50 hS).2.1, ← gx_rfv hg hv_x1]
  refine W_cast (wcC hX q38.1).symm (wsC hX q38.1).symm ?_
  exact kl_Tx_bracket_57 (N := N) C hr hlk hE hφ hψ hmrPart hcrPart krec18 hrec18 q38.2.1 (hG.tr hg hX.1) (hX.tr q38.1) (lt_ext hv_x1 q38.1) q38.2.2 (lv_sub hl [0, 1, 2] rfl) h hm
set_option maxHeartbeats 8000000 in
set_option maxRecDepth 100000 in
theorem kl_Tx_bracket_135 {r : Sh × St × Int} (C : Cx p s m args c cX10_bracket RX10 (cd :: cWd) D (TYs k) 4) (hr : meth.sig.returnType = (some .int)) (hlk : meth.locks = false) (hE : Ev z mi aK aV A s s.heap) {rPart : Sh → St → Option (Sh × St × Int)} (hφ : 20 ≤ φ) (hψ : 600 ≤ ψ) (hmrPart : ∀ {π : Sh} {σ : St}  {r : Sh × St × Int}, Cl π σ → rPart π σ  = some r → ext π r.1 ∧ Cl r.1 r.2.1) (hcrPart : ∀ {g : Nat → Nat} {π : Sh} {σ : St}  {r : Sh × St × Int}, Cl π σ → rPart π σ  = some r → Mi l yX10_part (.code yX10_part cX10_part 2 (some .int) :: cWd) { frames := φ, cells := nn r.1 - nn π, slots := sw r.1 - sw π, locals := ψ } [rfv g 50] D (TYs k) (cW k z g π σ) (XV z mi aK aV (cW k z g π σ)) (Nat → Nat) (fun v u => gx (nn π) g u ∧ v = Int32.ofInt r.2.2) (fun u => cW k z u r.1 r.2.1) (nn r.1 - nn π) (sw r.1 - sw π))  {ls : Array Slot} {H : Heap} {locs : List Loc} {g : Nat → Nat} {π : Sh} {σ : St} {s0 : Int} (hC : Cl π σ) (hG : gx (nn π0) g0 g) (hX : ext π0 π)  (hl : lv_has ls 4 []) (h : Hp D A s.heap H locs (cW k z g π σ)) (hm : Tx_bracket_135 N rPart π σ s0 = some r) : W p l e { frames := φ + 3, cells := nn r.1 - nn π0, slots := sw r.1 - sw π0, locals := ψ + 68 } s m args below meth c H locs (nn π - nn π0) (sw π - sw π0) (MQ below (va_Qi (fun v u => gx (nn π0) g0 u ∧ v = Int32.ofInt r.2.2) (fun u t => PostW D (TYs k) A (cW k z u r.1 r.2.1) t) A) args s (nn r.1 - nn π0) (sw r.1 - sw π0) A) (F0 m 135 ls [.int (Int32.ofInt s0)]) := by
  have hS := hC.1
  have hq := km_Tx_bracket_135 hmrPart   hC  hm
  rw [Tx_bracket_135] at hm
  cases hm
  exact c_iretA C hG h hr hlk dX10_bracket_135 rfl
set_option maxHeartbeats 8000000 in
set_option maxRecDepth 100000 in
theorem kl_Tx_bracket_79 {r : Sh × St × Int} (C : Cx p s m args c cX10_bracket RX10 (cd :: cWd) D (TYs k) 4) (hr : meth.sig.returnType = (some .int)) (hlk : meth.locks = false) (hE : Ev z mi aK aV A s s.heap) {rPart : Sh → St → Option (Sh × St × Int)} (hφ : 20 ≤ φ) (hψ : 600 ≤ ψ) (hmrPart : ∀ {π : Sh} {σ : St}  {r : Sh × St × Int}, Cl π σ → rPart π σ  = some r → ext π r.1 ∧ Cl r.1 r.2.1) (hcrPart : ∀ {g : Nat → Nat} {π : Sh} {σ : St}  {r : Sh × St × Int}, Cl π σ → rPart π σ  = some r → Mi l yX10_part (.code yX10_part cX10_part 2 (some .int) :: cWd) { frames := φ, cells := nn r.1 - nn π, slots := sw r.1 - sw π, locals := ψ } [rfv g 50] D (TYs k) (cW k z g π σ) (XV z mi aK aV (cW k z g π σ)) (Nat → Nat) (fun v u => gx (nn π) g u ∧ v = Int32.ofInt r.2.2) (fun u => cW k z u r.1 r.2.1) (nn r.1 - nn π) (sw r.1 - sw π))  {ls : Array Slot} {H : Heap} {locs : List Loc} {g : Nat → Nat} {π : Sh} {σ : St} {x1 : Int} (hC : Cl π σ) (hG : gx (nn π0) g0 g) (hX : ext π0 π) (hv_x1 : x1 < nn π) (hl : lv_has ls 4 [(0, rfv g 50), (1, rfv g x1)]) (h : Hp D A s.heap H locs (cW k z g π σ)) (hm : Tx_bracket_79 N rPart π σ x1 = some r) : W p l e { frames := φ + 3, cells := nn r.1 - nn π0, slots := sw r.1 - sw π0, locals := ψ + 68 } s m args below meth c H locs (nn π - nn π0) (sw π - sw π0) (MQ below (va_Qi (fun v u => gx (nn π0) g0 u ∧ v = Int32.ofInt r.2.2) (fun u t => PostW D (TYs k) A (cW k z u r.1 r.2.1) t) A) args s (nn r.1 - nn π0) (sw r.1 - sw π0) A) (F0 m 79 ls []) := by
  have hS := hC.1
  have hq := km_Tx_bracket_79 hmrPart   hC hv_x1 hm
  rw [Tx_bracket_79] at hm
  refine z_aload_n C dX10_bracket_79 rfl (lv_at hl 0 rfl) ?_
  refine lv_bipush (v := Int32.ofInt 93) C.1 C.2.1 dX10_bracket_80 (by decide) ?_
  obtain ⟨r18, e19, hm⟩ := obd_s hm
  have q20 := (km_Tx_take hC e19)
  refine c_callVvP C hE h (sh_50 hS) rfl (by decide) (kc_Tx_take l D k z mi aK aV g N hS e19) (cwV 1 C.2.2.1 (gS_X10_131 _) rfl rfl rfl hd_X10_take ⟨(by show 1 + 1 ≤ φ + 3; omega), (by show 8 + (2 + 11) + 22 ≤ ψ + 68; omega)⟩) rfl hl.1 rfl (Nat.le_of_ble_eq_true rfl) dX10_bracket_82 ⟨(czz hX hq.1), (szz hX hq.1)⟩ (fun H locs h => ?_)
  have hC21 : Cl π r18 := q20
  refine z_aload_n C dX10_bracket_85 rfl (lv_at hl 0 rfl) ?_
  refine cg_11_0 C h (sh_50 hS) cU_X10 (List.mem_cons_of_mem _ wl_X10_28) dX10_bracket_86 ?_
  refine lv_dup C.1 C.2.1 dX10_bracket_89 (rfv_cat _ _) ?_
  refine cg_9_4 C h (sh_1 hS) cU_X8 (List.mem_cons_of_mem _ wl_X10_135) dX10_bracket_90 ?_
  refine lv_iconst (v := Int32.ofInt 1) C.1 C.2.1 dX10_bracket_93 (by decide) ?_
  refine z_isub C dX10_bracket_94 ?_
  refine cp_9_4 C h (sh_1 hS) cU_X8 (List.mem_cons_of_mem _ wl_X10_135) dX10_bracket_95 (fun H locs h => ?_)
  refine z_aload_n C dX10_bracket_98 rfl (lv_at hl 0 rfl) ?_
  refine cg_11_0 C h (sh_50 hS) cU_X10 (List.mem_cons_of_mem _ wl_X10_28) dX10_bracket_99 ?_
  refine cg_9_2 C h (sh_1 hS) cU_X8 (List.mem_cons_of_mem _ wl_X10_57) dX10_bracket_102 ?_
  refine x_topi (y := Int32.ofInt (fl r18 182 1)) rfl ?_
  obtain ⟨g22, hm⟩ := grd_s hm
  refine z_if_eq (tgt := 110) C dX10_bracket_105 (by decide) g22 (fun c23 => ?_) (fun c23 => ?_)
  · have hm := ite_t c23 hm
    refine z_aload_n C dX10_bracket_110 rfl (lv_at hl 1 rfl) ?_
    obtain ⟨g24, hm⟩ := grd_s hm
    refine cg_10_9 C h g24 cU_X9 (List.mem_cons_of_mem _ wl_X10_138) dX10_bracket_111 ?_
    refine x_topi (y := Int32.ofInt (fl r18 209 x1)) rfl ?_
    refine lv_iconst (v := Int32.ofInt 1) C.1 C.2.1 dX10_bracket_114 (by decide) ?_
    obtain ⟨g25, hm⟩ := grd_s hm
    refine z_icmp_ne (tgt := 127) C dX10_bracket_115 (by decide) g25 (by decide) (fun c26 => ?_) (fun c26 => ?_)
    · have hm := ite_f c26 hm
      refine z_aload_n C dX10_bracket_127 rfl (lv_at hl 0 rfl) ?_
      refine cg_11_1 C h (sh_50 hS) cU_X10 (List.mem_cons_of_mem _ wl_X10_9) dX10_bracket_128 ?_
      refine x_topv (b := rfv g (fl r18 221 50)) rfl ?_
      refine z_aload_n C dX10_bracket_131 rfl (lv_at hl 1 rfl) ?_
      obtain ⟨σ27, e28, hm⟩ := bnd_s hm
      rw [e28] at h
      have hC29 : Cl π σ27 := e28 ▸ (cl_sfI hC21 (f := 184) rfl _ _)
      obtain ⟨r30, e31, hm⟩ := obd_s hm
      have q32 := (km_Df_add hC29 (cl_fl hC21 (f := 221) rfl 50) hv_x1 e31)
      obtain ⟨g33, hm⟩ := grd_s hm
      have q := km_Tx_bracket_135 hmrPart  q32.2  hm
      refine c_callViA C hE h g33 rfl (by decide) (kc_Df_add l D k z mi aK aV g N hC29 (cl_fl hC21 (f := 221) rfl 50) hv_x1 e31) (cwV 1 C.2.2.1 (gS_X10_60 _) rfl rfl rfl hd_X0_add ⟨(by show 7 + 1 ≤ φ + 3; omega), (by show 8 + (2 + 11) + 241 ≤ ψ + 68; omega)⟩) rfl hl.1 rfl (Nat.le_of_ble_eq_true rfl) dX10_bracket_132 ⟨rcC hX q32.1 q.1, rsC hX q32.1 q.1⟩ (fun u H locs hg h => ?_)
      simp only [← gx_rfv hg (sh_50 hS).2.1, ← gx_rfv hg hv_x1] at hl
      try simp only [← gx_rfv hg (sh_50 hS).2.1, ← gx_rfv hg hv_x1]
      refine W_cast (wcC hX q32.1).symm (wsC hX q32.1).symm ?_
      exact kl_Tx_bracket_135 (N := N) C hr hlk hE hφ hψ hmrPart hcrPart  q32.2 (hG.tr hg hX.1) (hX.tr q32.1)  (lv_sub hl [] rfl) h hm
    · have hm := ite_t c26 hm
      refine z_aload_n C dX10_bracket_118 rfl (lv_at hl 1 rfl) ?_
      refine cg_10_10 C h g24 cU_X9 (List.mem_cons_of_mem _ wl_X10_141) dX10_bracket_119 ?_
      refine x_topv (b := rfv g (fl r18 210 x1)) rfl ?_
      refine lv_iconst (v := Int32.ofInt 0) C.1 C.2.1 dX10_bracket_122 (by decide) ?_
      obtain ⟨g34, hm⟩ := grd_s hm
      obtain ⟨g35, hm⟩ := grd_s hm
      refine c_iald C h g34 g35 dX10_bracket_123 ?_
      refine x_topi (y := Int32.ofInt (el r18 (fl r18 210 x1) 0)) rfl ?_
      refine lv_goto (tgt := 135) C.1 C.2.1 dX10_bracket_124 (by decide) ?_
      exact kl_Tx_bracket_135 (N := N) C hr hlk hE hφ hψ hmrPart hcrPart (cl_sfI hC21 (f := 184) rfl _ _) hG hX (lv_sub hl [] rfl) h hm
  · have hm := ite_f c23 hm
    refine lv_iconst (v := Int32.ofInt 0) C.1 C.2.1 dX10_bracket_108 (by decide) ?_
    cases hm
    exact c_iretA C hG h hr hlk dX10_bracket_109 rfl
set_option maxHeartbeats 8000000 in
set_option maxRecDepth 100000 in
theorem kl_Tx_bracket_18 {r : Sh × St × Int} (C : Cx p s m args c cX10_bracket RX10 (cd :: cWd) D (TYs k) 4) (hr : meth.sig.returnType = (some .int)) (hlk : meth.locks = false) (hE : Ev z mi aK aV A s s.heap) {rPart : Sh → St → Option (Sh × St × Int)} (hφ : 20 ≤ φ) (hψ : 600 ≤ ψ) (hmrPart : ∀ {π : Sh} {σ : St}  {r : Sh × St × Int}, Cl π σ → rPart π σ  = some r → ext π r.1 ∧ Cl r.1 r.2.1) (hcrPart : ∀ {g : Nat → Nat} {π : Sh} {σ : St}  {r : Sh × St × Int}, Cl π σ → rPart π σ  = some r → Mi l yX10_part (.code yX10_part cX10_part 2 (some .int) :: cWd) { frames := φ, cells := nn r.1 - nn π, slots := sw r.1 - sw π, locals := ψ } [rfv g 50] D (TYs k) (cW k z g π σ) (XV z mi aK aV (cW k z g π σ)) (Nat → Nat) (fun v u => gx (nn π) g u ∧ v = Int32.ofInt r.2.2) (fun u => cW k z u r.1 r.2.1) (nn r.1 - nn π) (sw r.1 - sw π))  (n : Nat) : ∀ {ls : Array Slot} {H : Heap} {locs : List Loc} {g : Nat → Nat} {π : Sh} {σ : St} {x1 : Int} {x2 : Int} {x3 : Int}, Cl π σ → gx (nn π0) g0 g → ext π0 π → x1 < nn π → lv_has ls 4 [(0, rfv g 50), (1, rfv g x1), (2, .int (Int32.ofInt x2)), (3, .int (Int32.ofInt x3))] → Hp D A s.heap H locs (cW k z g π σ) → Tx_bracket_18 N rPart n π σ x1 x2 x3 = some r → W p l e { frames := φ + 3, cells := nn r.1 - nn π0, slots := sw r.1 - sw π0, locals := ψ + 68 } s m args below meth c H locs (nn π - nn π0) (sw π - sw π0) (MQ below (va_Qi (fun v u => gx (nn π0) g0 u ∧ v = Int32.ofInt r.2.2) (fun u t => PostW D (TYs k) A (cW k z u r.1 r.2.1) t) A) args s (nn r.1 - nn π0) (sw r.1 - sw π0) A) (F0 m 18 ls []) := by
  induction n with
  | zero => intro ls H locs g π σ x1 x2 x3 hC hG hX hv_x1 hl h hm; cases (show none = some r from hm)
  | succ n hrec18 =>
    intro ls H locs g π σ x1 x2 x3 hC hG hX hv_x1 hl h hm
    have hS := hC.1
    have hq := km_Tx_bracket_18 hmrPart  (n + 1) hC hv_x1 hm
    have krec18 : ∀ {π : Sh} {σ : St} {x1 : Int} {x2 : Int} {x3 : Int}, Cl π σ → x1 < nn π → Tx_bracket_18 N rPart n π σ x1 x2 x3 = some r → ext π r.1 ∧ Cl r.1 r.2.1 := fun {_ _} {_} {_} {_} => km_Tx_bracket_18 hmrPart  n
    rw [Tx_bracket_18] at hm
    refine lv_iload_n C.1 C.2.1 dX10_bracket_18 rfl (lv_at hl 3 rfl) ?_
    refine lv_sipush (v := Int32.ofInt 2000) C.1 C.2.1 dX10_bracket_19 (by decide) ?_
    obtain ⟨g6, hm⟩ := grd_s hm
    refine z_icmp_ge (tgt := 79) C dX10_bracket_22 (by decide) g6 (by decide) (fun c7 => ?_) (fun c7 => ?_)
    · have hm := ite_f c7 hm
      exact kl_Tx_bracket_79 (N := N) C hr hlk hE hφ hψ hmrPart hcrPart hC hG hX hv_x1 (lv_sub hl [0, 1] rfl) h hm
    · have hm := ite_t c7 hm
      refine lv_iload_n C.1 C.2.1 dX10_bracket_25 rfl (lv_at hl 2 rfl) ?_
      obtain ⟨g8, hm⟩ := grd_s hm
      refine z_if_eq (tgt := 79) C dX10_bracket_26 (by decide) g8 (fun c9 => ?_) (fun c9 => ?_)
      · have hm := ite_t c9 hm
        exact kl_Tx_bracket_79 (N := N) C hr hlk hE hφ hψ hmrPart hcrPart hC hG hX hv_x1 (lv_sub hl [0, 1] rfl) h hm
      · have hm := ite_f c9 hm
        refine z_aload_n C dX10_bracket_29 rfl (lv_at hl 0 rfl) ?_
        refine cg_11_0 C h (sh_50 hS) cU_X10 (List.mem_cons_of_mem _ wl_X10_28) dX10_bracket_30 ?_
        refine cg_9_2 C h (sh_1 hS) cU_X8 (List.mem_cons_of_mem _ wl_X10_57) dX10_bracket_33 ?_
        obtain ⟨g10, hm⟩ := grd_s hm
        refine z_if_ne (tgt := 79) C dX10_bracket_36 (by decide) g10 (fun c11 => ?_) (fun c11 => ?_)
        · have hm := ite_f c11 hm
          exact kl_Tx_bracket_79 (N := N) C hr hlk hE hφ hψ hmrPart hcrPart hC hG hX hv_x1 (lv_sub hl [0, 1] rfl) h hm
        · have hm := ite_t c11 hm
          refine z_aload_n C dX10_bracket_39 rfl (lv_at hl 0 rfl) ?_
          refine lv_dup C.1 C.2.1 dX10_bracket_40 (rfv_cat _ _) ?_
          refine cg_11_2 C h (sh_50 hS) cU_X10 (List.mem_cons_of_mem _ wl_X10_15) dX10_bracket_41 ?_
          refine lv_iconst (v := Int32.ofInt 1) C.1 C.2.1 dX10_bracket_44 (by decide) ?_
          refine z_iadd C dX10_bracket_45 ?_
          refine cp_11_2 C h (sh_50 hS) cU_X10 (List.mem_cons_of_mem _ wl_X10_15) dX10_bracket_46 (fun H locs h => ?_)
          refine z_aload_n C dX10_bracket_49 rfl (lv_at hl 1 rfl) ?_
          refine z_aload_n C dX10_bracket_50 rfl (lv_at hl 0 rfl) ?_
          obtain ⟨σ12, e13, hm⟩ := bnd_s hm
          rw [e13] at h
          have hC14 : Cl π σ12 := e13 ▸ (cl_sfI hC (f := 222) rfl _ _)
          obtain ⟨r15, e16, hm⟩ := obd_s hm
          have q17 := (km_Tx_seq hmrPart hC14 e16)
          have q := km_Tx_bracket_54 hmrPart krec18 q17.2 (lt_ext hv_x1 q17.1) (lt_ext hv_x1 q17.1) hm
          refine c_callViA C hE h (sh_50 hS) rfl (by decide) (kc_Tx_seq l D k z mi aK aV g N hφ hψ hmrPart hcrPart hC14 e16) (cwV 0 C.2.2.1 (gS_X10_124 _) rfl rfl rfl hd_X10_seq ⟨(by show φ + 2 + 1 ≤ φ + 3; omega), (by show 8 + (2 + 11) + (ψ + 47) ≤ ψ + 68; omega)⟩) rfl hl.1 rfl (by simp [rfv_cat, cat_i, cat_l]) dX10_bracket_51 ⟨rcC hX q17.1 q.1, rsC hX q17.1 q.1⟩ (fun u H locs hg h => ?_)
          simp only [← gx_rfv hg (sh_50 hS).2.1, ← gx_rfv hg hv_x1] at hl
          try simp only [← gx_rfv hg (sh_50 hS).2.1, ← gx_rfv hg hv_x1]
          refine W_cast (wcC hX q17.1).symm (wsC hX q17.1).symm ?_
          exact kl_Tx_bracket_54 (N := N) C hr hlk hE hφ hψ hmrPart hcrPart krec18 hrec18 q17.2 (hG.tr hg hX.1) (hX.tr q17.1) (lt_ext hv_x1 q17.1) (lt_ext hv_x1 q17.1) (lv_sub hl [0, 1, 3] rfl) h hm
set_option maxHeartbeats 8000000 in
set_option maxRecDepth 100000 in
theorem kl_Tx_bracket_13 {r : Sh × St × Int} (C : Cx p s m args c cX10_bracket RX10 (cd :: cWd) D (TYs k) 4) (hr : meth.sig.returnType = (some .int)) (hlk : meth.locks = false) (hE : Ev z mi aK aV A s s.heap) {rPart : Sh → St → Option (Sh × St × Int)} (hφ : 20 ≤ φ) (hψ : 600 ≤ ψ) (hmrPart : ∀ {π : Sh} {σ : St}  {r : Sh × St × Int}, Cl π σ → rPart π σ  = some r → ext π r.1 ∧ Cl r.1 r.2.1) (hcrPart : ∀ {g : Nat → Nat} {π : Sh} {σ : St}  {r : Sh × St × Int}, Cl π σ → rPart π σ  = some r → Mi l yX10_part (.code yX10_part cX10_part 2 (some .int) :: cWd) { frames := φ, cells := nn r.1 - nn π, slots := sw r.1 - sw π, locals := ψ } [rfv g 50] D (TYs k) (cW k z g π σ) (XV z mi aK aV (cW k z g π σ)) (Nat → Nat) (fun v u => gx (nn π) g u ∧ v = Int32.ofInt r.2.2) (fun u => cW k z u r.1 r.2.1) (nn r.1 - nn π) (sw r.1 - sw π))  {ls : Array Slot} {H : Heap} {locs : List Loc} {g : Nat → Nat} {π : Sh} {σ : St} {s0 : Int} (hC : Cl π σ) (hG : gx (nn π0) g0 g) (hX : ext π0 π) (hv_s0 : s0 < nn π) (hl : lv_has ls 4 [(0, rfv g 50)]) (h : Hp D A s.heap H locs (cW k z g π σ)) (hm : Tx_bracket_13 N rPart π σ s0 = some r) : W p l e { frames := φ + 3, cells := nn r.1 - nn π0, slots := sw r.1 - sw π0, locals := ψ + 68 } s m args below meth c H locs (nn π - nn π0) (sw π - sw π0) (MQ below (va_Qi (fun v u => gx (nn π0) g0 u ∧ v = Int32.ofInt r.2.2) (fun u t => PostW D (TYs k) A (cW k z u r.1 r.2.1) t) A) args s (nn r.1 - nn π0) (sw r.1 - sw π0) A) (F0 m 13 ls [rfv g s0]) := by
  have hS := hC.1
  have hq := km_Tx_bracket_13 hmrPart   hC hv_s0 hm
  rw [Tx_bracket_13] at hm
  refine z_astore_n (j := 1) (lv' := [(1, rfv g s0), (0, rfv g 50)]) C dX10_bracket_13 rfl hl (by decide) (by simp [rfv_cat, cat_i, cat_l]) (fun ls hl => ?_)
  refine lv_iconst (v := Int32.ofInt 1) C.1 C.2.1 dX10_bracket_14 (by decide) ?_
  refine lv_istore_n (i := 2) (lv' := [(2, .int (Int32.ofInt 1)), (1, rfv g s0), (0, rfv g 50)]) C.1 C.2.1 dX10_bracket_15 rfl hl (by decide) (by simp [rfv_cat, cat_i, cat_l]) (fun ls hl => ?_)
  refine lv_iconst (v := Int32.ofInt 0) C.1 C.2.1 dX10_bracket_16 (by decide) ?_
  refine lv_istore_n (lv' := [(3, .int (Int32.ofInt 0)), (2, .int (Int32.ofInt 1)), (1, rfv g s0), (0, rfv g 50)]) C.1 C.2.1 dX10_bracket_17 rfl hl (by decide) rfl (fun ls hl => ?_)
  exact kl_Tx_bracket_18 (N := N) C hr hlk hE hφ hψ hmrPart hcrPart N hC hG hX hv_s0 (lv_sub hl [3, 2, 1, 0] rfl) h hm
set_option maxHeartbeats 8000000 in
set_option maxRecDepth 100000 in
theorem kl_Tx_bracket_3 {r : Sh × St × Int} (C : Cx p s m args c cX10_bracket RX10 (cd :: cWd) D (TYs k) 4) (hr : meth.sig.returnType = (some .int)) (hlk : meth.locks = false) (hE : Ev z mi aK aV A s s.heap) {rPart : Sh → St → Option (Sh × St × Int)} (hφ : 20 ≤ φ) (hψ : 600 ≤ ψ) (hmrPart : ∀ {π : Sh} {σ : St}  {r : Sh × St × Int}, Cl π σ → rPart π σ  = some r → ext π r.1 ∧ Cl r.1 r.2.1) (hcrPart : ∀ {g : Nat → Nat} {π : Sh} {σ : St}  {r : Sh × St × Int}, Cl π σ → rPart π σ  = some r → Mi l yX10_part (.code yX10_part cX10_part 2 (some .int) :: cWd) { frames := φ, cells := nn r.1 - nn π, slots := sw r.1 - sw π, locals := ψ } [rfv g 50] D (TYs k) (cW k z g π σ) (XV z mi aK aV (cW k z g π σ)) (Nat → Nat) (fun v u => gx (nn π) g u ∧ v = Int32.ofInt r.2.2) (fun u => cW k z u r.1 r.2.1) (nn r.1 - nn π) (sw r.1 - sw π))  {ls : Array Slot} {H : Heap} {locs : List Loc} {g : Nat → Nat} {π : Sh} {σ : St} {s0 : Int} (hC : Cl π σ) (hG : gx (nn π0) g0 g) (hX : ext π0 π) (hv_s0 : s0 < nn π) (hl : lv_has ls 4 [(0, rfv g 50)]) (h : Hp D A s.heap H locs (cW k z g π σ)) (hm : Tx_bracket_3 N rPart π σ s0 = some r) : W p l e { frames := φ + 3, cells := nn r.1 - nn π0, slots := sw r.1 - sw π0, locals := ψ + 68 } s m args below meth c H locs (nn π - nn π0) (sw π - sw π0) (MQ below (va_Qi (fun v u => gx (nn π0) g0 u ∧ v = Int32.ofInt r.2.2) (fun u t => PostW D (TYs k) A (cW k z u r.1 r.2.1) t) A) args s (nn r.1 - nn π0) (sw r.1 - sw π0) A) (F0 m 3 ls [rfv g s0]) := by
  have hS := hC.1
  have hq := km_Tx_bracket_3 hmrPart   hC hv_s0 hm
  rw [Tx_bracket_3] at hm
  refine lv_dup C.1 C.2.1 dX10_bracket_3 (rfv_cat _ _) ?_
  refine lv_bipush (v := Int32.ofInt 8) C.1 C.2.1 dX10_bracket_4 (by decide) ?_
  refine z_aload_n C dX10_bracket_6 rfl (lv_at hl 0 rfl) ?_
  refine cg_11_2 C h (sh_50 hS) cU_X10 (List.mem_cons_of_mem _ wl_X10_15) dX10_bracket_7 ?_
  obtain ⟨r2, e3, hm⟩ := obd_s hm
  have q4 := (km_Sp_init hC hv_s0 e3)
  obtain ⟨g5, hm⟩ := grd_s hm
  have q := km_Tx_bracket_13 hmrPart  q4.2 (lt_ext hv_s0 q4.1) hm
  refine c_callIvA C hE h g5 (kc_Sp_init l D k z mi aK aV g N hC hv_s0 e3) (cwI 2 C.2.2.1 (gC_X9_init _) rfl rfl rfl (C.2.2.1 _ (List.mem_cons_of_mem _ wt_X9)) (C.2.2.1 _ (List.mem_cons_of_mem _ wm_X10_51)) (C.2.2.1 _ (List.mem_cons_of_mem _ wj_X9_init)) rfl hdS_X9_init ⟨(by show 1 + 1 ≤ φ + 3; omega), (by show 8 + (3 + 11) + 30 ≤ ψ + 68; omega)⟩) rfl hl.1 rfl (by simp [rfv_cat, cat_i, cat_l]) dX10_bracket_10 ⟨rcC hX q4.1 q.1, rsC hX q4.1 q.1⟩ (fun u H locs hg h => ?_)
  simp only [← gx_rfv hg (sh_50 hS).2.1, ← gx_rfv hg hv_s0] at hl
  try simp only [← gx_rfv hg (sh_50 hS).2.1, ← gx_rfv hg hv_s0]
  refine W_cast (wcC hX q4.1).symm (wsC hX q4.1).symm ?_
  exact kl_Tx_bracket_13 (N := N) C hr hlk hE hφ hψ hmrPart hcrPart  q4.2 (hG.tr hg hX.1) (hX.tr q4.1) (lt_ext hv_s0 q4.1) (lv_sub hl [0] rfl) h hm
set_option maxHeartbeats 8000000 in
set_option maxRecDepth 100000 in
theorem kc_Tx_bracket (l : Launch) (D : va_G) (k : Nat → ClassId) (z mi : Nat) (aK aV : Nat → Nat) (g : Nat → Nat) (N : Nat) {φ ψ : Nat} {rPart : Sh → St → Option (Sh × St × Int)} (hφ : 20 ≤ φ) (hψ : 600 ≤ ψ) (hmrPart : ∀ {π : Sh} {σ : St}  {r : Sh × St × Int}, Cl π σ → rPart π σ  = some r → ext π r.1 ∧ Cl r.1 r.2.1) (hcrPart : ∀ {g : Nat → Nat} {π : Sh} {σ : St}  {r : Sh × St × Int}, Cl π σ → rPart π σ  = some r → Mi l yX10_part (.code yX10_part cX10_part 2 (some .int) :: cWd) { frames := φ, cells := nn r.1 - nn π, slots := sw r.1 - sw π, locals := ψ } [rfv g 50] D (TYs k) (cW k z g π σ) (XV z mi aK aV (cW k z g π σ)) (Nat → Nat) (fun v u => gx (nn π) g u ∧ v = Int32.ofInt r.2.2) (fun u => cW k z u r.1 r.2.1) (nn r.1 - nn π) (sw r.1 - sw π)) {π : Sh} {σ : St}  {r : Sh × St × Int} (hC : Cl π σ)  (hm : Tx_bracket N rPart π σ  = some r) : Mi l yX10_bracket (.code yX10_bracket cX10_bracket 4 (some .int) :: cWd) { frames := φ + 3, cells := nn r.1 - nn π, slots := sw r.1 - sw π, locals := ψ + 68 } [rfv g 50] D (TYs k) (cW k z g π σ) (XV z mi aK aV (cW k z g π σ)) (Nat → Nat) (fun v u => gx (nn π) g u ∧ v = Int32.ofInt r.2.2) (fun u => cW k z u r.1 r.2.1) (nn r.1 - nn π) (sw r.1 - sw π) := by
  have hS := hC.1
  have hq := km_Tx_bracket hmrPart hC  hm
  intro sz
  refine v_met (cc := cX10_bracket) (maxL := 4) (ret := (some .int)) (lv := [(0, rfv g 50)]) (by decide) rfl (by simp [lg_sl, rfv_cat, cat_i, cat_l]) (by simp [lv_args, rfv_cat, cat_i, cat_l]) ?_
  intro p e s m below meth c ls C hE hr hlk hmn hl h
  generalize ([rfv g 50] : List Value).toArray = args at C ⊢
  have hG := gx.rf (nn π) g
  have hX := ext.rf π
  refine W_cast (Nat.sub_self (nn π)) (Nat.sub_self (sw π)) ?_
  rw [Tx_bracket] at hm
  have q := km_Tx_bracket_3 hmrPart  ((cl_nO hC (by decide) (by decide) _)) lt_nO hm
  refine c_new C h hC (by decide) dX10_bracket_0 rfl cU_X9 tyX9_ok (List.mem_cons_of_mem _ wn_X10_49) (List.mem_cons_of_mem _ wi_X9) (List.mem_cons_of_mem _ wt_X9) (df_X9) (dn_X9 z) (rc1 hX q.1) (rs1 hX q.1) (fun u H hg h => ?_)
  simp only [← gx_rfv hg (sh_50 hS).2.1] at hl
  try simp only [← gx_rfv hg (sh_50 hS).2.1]
  refine W_cast (wcO (c := 10) (w := 14) hX).symm (wsO (c := 10) (w := 14) hX).symm ?_
  exact kl_Tx_bracket_3 (N := N) C hr hlk hE hφ hψ hmrPart hcrPart  ((cl_nO hC (by decide) (by decide) _)) (hG.tr hg hX.1) (hX.tr (ext_nO π 10 14)) lt_nO (lv_sub hl [0] rfl) h hm
end Z_Tx_bracket
section Z_Tx_poly
variable {p : Program} {l : Launch} {e : Env} {s : State} {m : MethodId} {args : Array Value} {below : List Frame} {meth : Method} {c : Code} {D : va_G} {A : Nat → Prop} {k : Nat → ClassId} {N : Nat} {cd : Cond} {z mi : Nat} {aK aV : Nat → Nat} {g0 : Nat → Nat} {π0 : Sh} {φ ψ : Nat}
set_option maxHeartbeats 8000000 in
set_option maxRecDepth 100000 in
theorem kl_Tx_poly_97 {r : Sh × St × Int} (C : Cx p s m args c cX10_poly RX10 (cd :: cWd) D (TYs k) 2) (hr : meth.sig.returnType = (some .int)) (hlk : meth.locks = false) (hE : Ev z mi aK aV A s s.heap) {rPart : Sh → St → Option (Sh × St × Int)} (hφ : 20 ≤ φ) (hψ : 600 ≤ ψ) (hmrPart : ∀ {π : Sh} {σ : St}  {r : Sh × St × Int}, Cl π σ → rPart π σ  = some r → ext π r.1 ∧ Cl r.1 r.2.1) (hcrPart : ∀ {g : Nat → Nat} {π : Sh} {σ : St}  {r : Sh × St × Int}, Cl π σ → rPart π σ  = some r → Mi l yX10_part (.code yX10_part cX10_part 2 (some .int) :: cWd) { frames := φ, cells := nn r.1 - nn π, slots := sw r.1 - sw π, locals := ψ } [rfv g 50] D (TYs k) (cW k z g π σ) (XV z mi aK aV (cW k z g π σ)) (Nat → Nat) (fun v u => gx (nn π) g u ∧ v = Int32.ofInt r.2.2) (fun u => cW k z u r.1 r.2.1) (nn r.1 - nn π) (sw r.1 - sw π))  {ls : Array Slot} {H : Heap} {locs : List Loc} {g : Nat → Nat} {π : Sh} {σ : St} {s0 : Int} (hC : Cl π σ) (hG : gx (nn π0) g0 g) (hX : ext π0 π)  (hl : lv_has ls 2 []) (h : Hp D A s.heap H locs (cW k z g π σ)) (hm : Tx_poly_97 N rPart π σ s0 = some r) : W p l e { frames := φ + 2, cells := nn r.1 - nn π0, slots := sw r.1 - sw π0, locals := ψ + 47 } s m args below meth c H locs (nn π - nn π0) (sw π - sw π0) (MQ below (va_Qi (fun v u => gx (nn π0) g0 u ∧ v = Int32.ofInt r.2.2) (fun u t => PostW D (TYs k) A (cW k z u r.1 r.2.1) t) A) args s (nn r.1 - nn π0) (sw r.1 - sw π0) A) (F0 m 97 ls [.int (Int32.ofInt s0)]) := by
  have hS := hC.1
  have hq := km_Tx_poly_97 hmrPart   hC  hm
  rw [Tx_poly_97] at hm
  refine lv_goto (tgt := 101) C.1 C.2.1 dX10_poly_97 (by decide) ?_
  cases hm
  exact c_iretA C hG h hr hlk dX10_poly_101 rfl
set_option maxHeartbeats 8000000 in
set_option maxRecDepth 100000 in
theorem kl_Tx_poly_76 {r : Sh × St × Int} (C : Cx p s m args c cX10_poly RX10 (cd :: cWd) D (TYs k) 2) (hr : meth.sig.returnType = (some .int)) (hlk : meth.locks = false) (hE : Ev z mi aK aV A s s.heap) {rPart : Sh → St → Option (Sh × St × Int)} (hφ : 20 ≤ φ) (hψ : 600 ≤ ψ) (hmrPart : ∀ {π : Sh} {σ : St}  {r : Sh × St × Int}, Cl π σ → rPart π σ  = some r → ext π r.1 ∧ Cl r.1 r.2.1) (hcrPart : ∀ {g : Nat → Nat} {π : Sh} {σ : St}  {r : Sh × St × Int}, Cl π σ → rPart π σ  = some r → Mi l yX10_part (.code yX10_part cX10_part 2 (some .int) :: cWd) { frames := φ, cells := nn r.1 - nn π, slots := sw r.1 - sw π, locals := ψ } [rfv g 50] D (TYs k) (cW k z g π σ) (XV z mi aK aV (cW k z g π σ)) (Nat → Nat) (fun v u => gx (nn π) g u ∧ v = Int32.ofInt r.2.2) (fun u => cW k z u r.1 r.2.1) (nn r.1 - nn π) (sw r.1 - sw π))  {ls : Array Slot} {H : Heap} {locs : List Loc} {g : Nat → Nat} {π : Sh} {σ : St} {x1 : Int} {s0 : Int} {s1 : Int} (hC : Cl π σ) (hG : gx (nn π0) g0 g) (hX : ext π0 π) (hv_x1 : x1 < nn π) (hv_s1 : s1 < nn π) (hl : lv_has ls 2 [(0, rfv g 50), (1, rfv g x1)]) (h : Hp D A s.heap H locs (cW k z g π σ)) (hm : Tx_poly_76 N rPart π σ x1 s0 s1 = some r) : W p l e { frames := φ + 2, cells := nn r.1 - nn π0, slots := sw r.1 - sw π0, locals := ψ + 47 } s m args below meth c H locs (nn π - nn π0) (sw π - sw π0) (MQ below (va_Qi (fun v u => gx (nn π0) g0 u ∧ v = Int32.ofInt r.2.2) (fun u t => PostW D (TYs k) A (cW k z u r.1 r.2.1) t) A) args s (nn r.1 - nn π0) (sw r.1 - sw π0) A) (F0 m 76 ls [.int (Int32.ofInt s0), rfv g s1]) := by
  have hS := hC.1
  have hq := km_Tx_poly_76 hmrPart   hC hv_x1 hv_s1 hm
  rw [Tx_poly_76] at hm
  obtain ⟨g29, hm⟩ := grd_s hm
  refine cp_10_3 C h g29 cU_X9 (List.mem_cons_of_mem _ wl_X10_145) dX10_poly_76 (fun H locs h => ?_)
  refine z_aload_n C dX10_poly_79 rfl (lv_at hl 0 rfl) ?_
  refine cg_11_0 C h (sh_50 hS) cU_X10 (List.mem_cons_of_mem _ wl_X10_28) dX10_poly_80 ?_
  refine cg_9_2 C h (sh_1 hS) cU_X8 (List.mem_cons_of_mem _ wl_X10_57) dX10_poly_83 ?_
  refine x_topi (y := Int32.ofInt (fl σ 182 1)) rfl ?_
  obtain ⟨g30, hm⟩ := grd_s hm
  refine z_if_ne (tgt := 100) C dX10_poly_86 (by decide) g30 (fun c31 => ?_) (fun c31 => ?_)
  · have hm := ite_f c31 hm
    refine lv_iconst (v := Int32.ofInt 0) C.1 C.2.1 dX10_poly_100 (by decide) ?_
    cases hm
    exact c_iretA C hG h hr hlk dX10_poly_101 rfl
  · have hm := ite_t c31 hm
    refine z_aload_n C dX10_poly_89 rfl (lv_at hl 0 rfl) ?_
    refine cg_11_1 C h (sh_50 hS) cU_X10 (List.mem_cons_of_mem _ wl_X10_9) dX10_poly_90 ?_
    refine x_topv (b := rfv g (fl σ 221 50)) rfl ?_
    refine z_aload_n C dX10_poly_93 rfl (lv_at hl 1 rfl) ?_
    obtain ⟨σ32, e33, hm⟩ := bnd_s hm
    rw [e33] at h
    have hC34 : Cl π σ32 := e33 ▸ (cl_sfI hC (f := 203) rfl _ _)
    obtain ⟨r35, e36, hm⟩ := obd_s hm
    have q37 := (km_Df_add hC34 (cl_fl hC (f := 221) rfl 50) hv_x1 e36)
    obtain ⟨g38, hm⟩ := grd_s hm
    have q := km_Tx_poly_97 hmrPart  q37.2  hm
    refine c_callViA C hE h g38 rfl (by decide) (kc_Df_add l D k z mi aK aV g N hC34 (cl_fl hC (f := 221) rfl 50) hv_x1 e36) (cwV 1 C.2.2.1 (gS_X10_60 _) rfl rfl rfl hd_X0_add ⟨(by show 7 + 1 ≤ φ + 2; omega), (by show 8 + (2 + 11) + 241 ≤ ψ + 47; omega)⟩) rfl hl.1 rfl (Nat.le_of_ble_eq_true rfl) dX10_poly_94 ⟨rcC hX q37.1 q.1, rsC hX q37.1 q.1⟩ (fun u H locs hg h => ?_)
    simp only [← gx_rfv hg (sh_50 hS).2.1, ← gx_rfv hg hv_x1] at hl
    try simp only [← gx_rfv hg (sh_50 hS).2.1, ← gx_rfv hg hv_x1]
    refine W_cast (wcC hX q37.1).symm (wsC hX q37.1).symm ?_
    exact kl_Tx_poly_97 (N := N) C hr hlk hE hφ hψ hmrPart hcrPart  q37.2 (hG.tr hg hX.1) (hX.tr q37.1)  (lv_sub hl [] rfl) h hm
set_option maxHeartbeats 8000000 in
set_option maxRecDepth 100000 in
theorem kl_Tx_poly_29 {r : Sh × St × Int} (C : Cx p s m args c cX10_poly RX10 (cd :: cWd) D (TYs k) 2) (hr : meth.sig.returnType = (some .int)) (hlk : meth.locks = false) (hE : Ev z mi aK aV A s s.heap) {rPart : Sh → St → Option (Sh × St × Int)} (hφ : 20 ≤ φ) (hψ : 600 ≤ ψ) (hmrPart : ∀ {π : Sh} {σ : St}  {r : Sh × St × Int}, Cl π σ → rPart π σ  = some r → ext π r.1 ∧ Cl r.1 r.2.1) (hcrPart : ∀ {g : Nat → Nat} {π : Sh} {σ : St}  {r : Sh × St × Int}, Cl π σ → rPart π σ  = some r → Mi l yX10_part (.code yX10_part cX10_part 2 (some .int) :: cWd) { frames := φ, cells := nn r.1 - nn π, slots := sw r.1 - sw π, locals := ψ } [rfv g 50] D (TYs k) (cW k z g π σ) (XV z mi aK aV (cW k z g π σ)) (Nat → Nat) (fun v u => gx (nn π) g u ∧ v = Int32.ofInt r.2.2) (fun u => cW k z u r.1 r.2.1) (nn r.1 - nn π) (sw r.1 - sw π))  {ls : Array Slot} {H : Heap} {locs : List Loc} {g : Nat → Nat} {π : Sh} {σ : St} {x1 : Int} (hC : Cl π σ) (hG : gx (nn π0) g0 g) (hX : ext π0 π) (hv_x1 : x1 < nn π) (hl : lv_has ls 2 [(0, rfv g 50), (1, rfv g x1)]) (h : Hp D A s.heap H locs (cW k z g π σ)) (hm : Tx_poly_29 N rPart π σ x1 = some r) : W p l e { frames := φ + 2, cells := nn r.1 - nn π0, slots := sw r.1 - sw π0, locals := ψ + 47 } s m args below meth c H locs (nn π - nn π0) (sw π - sw π0) (MQ below (va_Qi (fun v u => gx (nn π0) g0 u ∧ v = Int32.ofInt r.2.2) (fun u t => PostW D (TYs k) A (cW k z u r.1 r.2.1) t) A) args s (nn r.1 - nn π0) (sw r.1 - sw π0) A) (F0 m 29 ls []) := by
  have hS := hC.1
  have hq := km_Tx_poly_29 hmrPart   hC hv_x1 hm
  rw [Tx_poly_29] at hm
  refine z_aload_n C dX10_poly_29 rfl (lv_at hl 0 rfl) ?_
  refine lv_bipush (v := Int32.ofInt 125) C.1 C.2.1 dX10_poly_30 (by decide) ?_
  obtain ⟨r12, e13, hm⟩ := obd_s hm
  have q14 := (km_Tx_take hC e13)
  refine c_callVvP C hE h (sh_50 hS) rfl (by decide) (kc_Tx_take l D k z mi aK aV g N hS e13) (cwV 1 C.2.2.1 (gS_X10_131 _) rfl rfl rfl hd_X10_take ⟨(by show 1 + 1 ≤ φ + 2; omega), (by show 8 + (2 + 11) + 22 ≤ ψ + 47; omega)⟩) rfl hl.1 rfl (Nat.le_of_ble_eq_true rfl) dX10_poly_32 ⟨(czz hX hq.1), (szz hX hq.1)⟩ (fun H locs h => ?_)
  have hC15 : Cl π r12 := q14
  refine z_aload_n C dX10_poly_35 rfl (lv_at hl 0 rfl) ?_
  refine cg_11_0 C h (sh_50 hS) cU_X10 (List.mem_cons_of_mem _ wl_X10_28) dX10_poly_36 ?_
  refine lv_dup C.1 C.2.1 dX10_poly_39 (rfv_cat _ _) ?_
  refine cg_9_4 C h (sh_1 hS) cU_X8 (List.mem_cons_of_mem _ wl_X10_135) dX10_poly_40 ?_
  refine lv_iconst (v := Int32.ofInt 1) C.1 C.2.1 dX10_poly_43 (by decide) ?_
  refine z_isub C dX10_poly_44 ?_
  refine cp_9_4 C h (sh_1 hS) cU_X8 (List.mem_cons_of_mem _ wl_X10_135) dX10_poly_45 (fun H locs h => ?_)
  refine z_aload_n C dX10_poly_48 rfl (lv_at hl 0 rfl) ?_
  refine lv_bipush (v := Int32.ofInt 37) C.1 C.2.1 dX10_poly_49 (by decide) ?_
  obtain ⟨σ16, e17, hm⟩ := bnd_s hm
  rw [e17] at h
  have hC18 : Cl π σ16 := e17 ▸ (cl_sfI hC15 (f := 184) rfl _ _)
  obtain ⟨r19, e20, hm⟩ := obd_s hm
  have q21 := (km_Tx_take hC18 e20)
  refine c_callVvP C hE h (sh_50 hS) rfl (by decide) (kc_Tx_take l D k z mi aK aV g N hS e20) (cwV 1 C.2.2.1 (gS_X10_131 _) rfl rfl rfl hd_X10_take ⟨(by show 1 + 1 ≤ φ + 2; omega), (by show 8 + (2 + 11) + 22 ≤ ψ + 47; omega)⟩) rfl hl.1 rfl (Nat.le_of_ble_eq_true rfl) dX10_poly_51 ⟨(czz hX hq.1), (szz hX hq.1)⟩ (fun H locs h => ?_)
  have hC22 : Cl π r19 := q21
  refine z_aload_n C dX10_poly_54 rfl (lv_at hl 1 rfl) ?_
  refine z_aload_n C dX10_poly_55 rfl (lv_at hl 0 rfl) ?_
  refine cg_11_0 C h (sh_50 hS) cU_X10 (List.mem_cons_of_mem _ wl_X10_28) dX10_poly_56 ?_
  refine cg_9_2 C h (sh_1 hS) cU_X8 (List.mem_cons_of_mem _ wl_X10_57) dX10_poly_59 ?_
  obtain ⟨g23, hm⟩ := grd_s hm
  refine z_if_ne (tgt := 75) C dX10_poly_62 (by decide) g23 (fun c24 => ?_) (fun c24 => ?_)
  · have hm := ite_f c24 hm
    refine lv_iconst (v := Int32.ofInt 1) C.1 C.2.1 dX10_poly_75 (by decide) ?_
    exact kl_Tx_poly_76 (N := N) C hr hlk hE hφ hψ hmrPart hcrPart hC22 hG hX hv_x1 hv_x1 (lv_sub hl [0, 1] rfl) h hm
  · have hm := ite_t c24 hm
    refine z_aload_n C dX10_poly_65 rfl (lv_at hl 0 rfl) ?_
    refine lv_iconst (v := Int32.ofInt 1) C.1 C.2.1 dX10_poly_66 (by decide) ?_
    refine lv_bipush (v := Int32.ofInt 32) C.1 C.2.1 dX10_poly_67 (by decide) ?_
    obtain ⟨r25, e26, hm⟩ := obd_s hm
    have q27 := (km_Tx_number hC22 e26)
    refine c_callViP C hE h (sh_50 hS) rfl (by decide) (kc_Tx_number l D k z mi aK aV g N hS e26) (cwV 2 C.2.2.1 (gS_X10_87 _) rfl rfl rfl hd_X10_number ⟨(by show 1 + 1 ≤ φ + 2; omega), (by show 8 + (4 + 11) + 24 ≤ ψ + 47; omega)⟩) rfl hl.1 rfl (by simp [rfv_cat, cat_i, cat_l]) dX10_poly_69 ⟨(czz hX hq.1), (szz hX hq.1)⟩ (fun H locs h => ?_)
    have hC28 : Cl π r25.1 := q27
    refine lv_goto (tgt := 76) C.1 C.2.1 dX10_poly_72 (by decide) ?_
    exact kl_Tx_poly_76 (N := N) C hr hlk hE hφ hψ hmrPart hcrPart hC28 hG hX hv_x1 hv_x1 (lv_sub hl [0, 1] rfl) h hm
set_option maxHeartbeats 8000000 in
set_option maxRecDepth 100000 in
theorem kl_Tx_poly_13 {r : Sh × St × Int} (C : Cx p s m args c cX10_poly RX10 (cd :: cWd) D (TYs k) 2) (hr : meth.sig.returnType = (some .int)) (hlk : meth.locks = false) (hE : Ev z mi aK aV A s s.heap) {rPart : Sh → St → Option (Sh × St × Int)} (hφ : 20 ≤ φ) (hψ : 600 ≤ ψ) (hmrPart : ∀ {π : Sh} {σ : St}  {r : Sh × St × Int}, Cl π σ → rPart π σ  = some r → ext π r.1 ∧ Cl r.1 r.2.1) (hcrPart : ∀ {g : Nat → Nat} {π : Sh} {σ : St}  {r : Sh × St × Int}, Cl π σ → rPart π σ  = some r → Mi l yX10_part (.code yX10_part cX10_part 2 (some .int) :: cWd) { frames := φ, cells := nn r.1 - nn π, slots := sw r.1 - sw π, locals := ψ } [rfv g 50] D (TYs k) (cW k z g π σ) (XV z mi aK aV (cW k z g π σ)) (Nat → Nat) (fun v u => gx (nn π) g u ∧ v = Int32.ofInt r.2.2) (fun u => cW k z u r.1 r.2.1) (nn r.1 - nn π) (sw r.1 - sw π))  {ls : Array Slot} {H : Heap} {locs : List Loc} {g : Nat → Nat} {π : Sh} {σ : St} {s0 : Int} (hC : Cl π σ) (hG : gx (nn π0) g0 g) (hX : ext π0 π) (hv_s0 : s0 < nn π) (hl : lv_has ls 2 [(0, rfv g 50)]) (h : Hp D A s.heap H locs (cW k z g π σ)) (hm : Tx_poly_13 N rPart π σ s0 = some r) : W p l e { frames := φ + 2, cells := nn r.1 - nn π0, slots := sw r.1 - sw π0, locals := ψ + 47 } s m args below meth c H locs (nn π - nn π0) (sw π - sw π0) (MQ below (va_Qi (fun v u => gx (nn π0) g0 u ∧ v = Int32.ofInt r.2.2) (fun u t => PostW D (TYs k) A (cW k z u r.1 r.2.1) t) A) args s (nn r.1 - nn π0) (sw r.1 - sw π0) A) (F0 m 13 ls [rfv g s0]) := by
  have hS := hC.1
  have hq := km_Tx_poly_13 hmrPart   hC hv_s0 hm
  rw [Tx_poly_13] at hm
  refine z_astore_n (j := 1) (lv' := [(1, rfv g s0), (0, rfv g 50)]) C dX10_poly_13 rfl hl (by decide) (by simp [rfv_cat, cat_i, cat_l]) (fun ls hl => ?_)
  refine z_aload_n C dX10_poly_14 rfl (lv_at hl 1 rfl) ?_
  refine lv_dup C.1 C.2.1 dX10_poly_15 (rfv_cat _ _) ?_
  refine cg_11_2 C h (sh_50 hS) cU_X10 (List.mem_cons_of_mem _ wl_X10_15) dX10_poly_16 ?_
  refine lv_iconst (v := Int32.ofInt 1) C.1 C.2.1 dX10_poly_19 (by decide) ?_
  refine z_iadd C dX10_poly_20 ?_
  refine cp_11_2 C h (sh_50 hS) cU_X10 (List.mem_cons_of_mem _ wl_X10_15) dX10_poly_21 (fun H locs h => ?_)
  refine z_aload_n C dX10_poly_24 rfl (lv_at hl 1 rfl) ?_
  refine z_aload_n C dX10_poly_25 rfl (lv_at hl 0 rfl) ?_
  obtain ⟨σ6, e7, hm⟩ := bnd_s hm
  rw [e7] at h
  have hC8 : Cl π σ6 := e7 ▸ (cl_sfI hC (f := 222) rfl _ _)
  obtain ⟨r9, e10, hm⟩ := obd_s hm
  have q11 := (km_Tx_steps hmrPart hC8 hv_s0 e10)
  have q := km_Tx_poly_29 hmrPart  q11.2 (lt_ext hv_s0 q11.1) hm
  refine c_callVvA C hE h (sh_50 hS) rfl (by decide) (kc_Tx_steps l D k z mi aK aV g N hφ hψ hmrPart hcrPart hC8 hv_s0 e10) (cwV 1 C.2.2.1 (gS_X10_53 _) rfl rfl rfl hd_X10_steps ⟨(by show φ + 1 + 1 ≤ φ + 2; omega), (by show 8 + (7 + 11) + (ψ + 21) ≤ ψ + 47; omega)⟩) rfl hl.1 rfl (Nat.le_of_ble_eq_true rfl) dX10_poly_26 ⟨rcC hX q11.1 q.1, rsC hX q11.1 q.1⟩ (fun u H locs hg h => ?_)
  simp only [← gx_rfv hg hv_s0, ← gx_rfv hg (sh_50 hS).2.1] at hl
  try simp only [← gx_rfv hg hv_s0, ← gx_rfv hg (sh_50 hS).2.1]
  refine W_cast (wcC hX q11.1).symm (wsC hX q11.1).symm ?_
  exact kl_Tx_poly_29 (N := N) C hr hlk hE hφ hψ hmrPart hcrPart  q11.2 (hG.tr hg hX.1) (hX.tr q11.1) (lt_ext hv_s0 q11.1) (lv_sub hl [1, 0] rfl) h hm
set_option maxHeartbeats 8000000 in
set_option maxRecDepth 100000 in
theorem kl_Tx_poly_3 {r : Sh × St × Int} (C : Cx p s m args c cX10_poly RX10 (cd :: cWd) D (TYs k) 2) (hr : meth.sig.returnType = (some .int)) (hlk : meth.locks = false) (hE : Ev z mi aK aV A s s.heap) {rPart : Sh → St → Option (Sh × St × Int)} (hφ : 20 ≤ φ) (hψ : 600 ≤ ψ) (hmrPart : ∀ {π : Sh} {σ : St}  {r : Sh × St × Int}, Cl π σ → rPart π σ  = some r → ext π r.1 ∧ Cl r.1 r.2.1) (hcrPart : ∀ {g : Nat → Nat} {π : Sh} {σ : St}  {r : Sh × St × Int}, Cl π σ → rPart π σ  = some r → Mi l yX10_part (.code yX10_part cX10_part 2 (some .int) :: cWd) { frames := φ, cells := nn r.1 - nn π, slots := sw r.1 - sw π, locals := ψ } [rfv g 50] D (TYs k) (cW k z g π σ) (XV z mi aK aV (cW k z g π σ)) (Nat → Nat) (fun v u => gx (nn π) g u ∧ v = Int32.ofInt r.2.2) (fun u => cW k z u r.1 r.2.1) (nn r.1 - nn π) (sw r.1 - sw π))  {ls : Array Slot} {H : Heap} {locs : List Loc} {g : Nat → Nat} {π : Sh} {σ : St} {s0 : Int} (hC : Cl π σ) (hG : gx (nn π0) g0 g) (hX : ext π0 π) (hv_s0 : s0 < nn π) (hl : lv_has ls 2 [(0, rfv g 50)]) (h : Hp D A s.heap H locs (cW k z g π σ)) (hm : Tx_poly_3 N rPart π σ s0 = some r) : W p l e { frames := φ + 2, cells := nn r.1 - nn π0, slots := sw r.1 - sw π0, locals := ψ + 47 } s m args below meth c H locs (nn π - nn π0) (sw π - sw π0) (MQ below (va_Qi (fun v u => gx (nn π0) g0 u ∧ v = Int32.ofInt r.2.2) (fun u t => PostW D (TYs k) A (cW k z u r.1 r.2.1) t) A) args s (nn r.1 - nn π0) (sw r.1 - sw π0) A) (F0 m 3 ls [rfv g s0]) := by
  have hS := hC.1
  have hq := km_Tx_poly_3 hmrPart   hC hv_s0 hm
  rw [Tx_poly_3] at hm
  refine lv_dup C.1 C.2.1 dX10_poly_3 (rfv_cat _ _) ?_
  refine lv_bipush (v := Int32.ofInt 6) C.1 C.2.1 dX10_poly_4 (by decide) ?_
  refine z_aload_n C dX10_poly_6 rfl (lv_at hl 0 rfl) ?_
  refine cg_11_2 C h (sh_50 hS) cU_X10 (List.mem_cons_of_mem _ wl_X10_15) dX10_poly_7 ?_
  obtain ⟨r2, e3, hm⟩ := obd_s hm
  have q4 := (km_Sp_init hC hv_s0 e3)
  obtain ⟨g5, hm⟩ := grd_s hm
  have q := km_Tx_poly_13 hmrPart  q4.2 (lt_ext hv_s0 q4.1) hm
  refine c_callIvA C hE h g5 (kc_Sp_init l D k z mi aK aV g N hC hv_s0 e3) (cwI 2 C.2.2.1 (gC_X9_init _) rfl rfl rfl (C.2.2.1 _ (List.mem_cons_of_mem _ wt_X9)) (C.2.2.1 _ (List.mem_cons_of_mem _ wm_X10_51)) (C.2.2.1 _ (List.mem_cons_of_mem _ wj_X9_init)) rfl hdS_X9_init ⟨(by show 1 + 1 ≤ φ + 2; omega), (by show 8 + (3 + 11) + 30 ≤ ψ + 47; omega)⟩) rfl hl.1 rfl (by simp [rfv_cat, cat_i, cat_l]) dX10_poly_10 ⟨rcC hX q4.1 q.1, rsC hX q4.1 q.1⟩ (fun u H locs hg h => ?_)
  simp only [← gx_rfv hg (sh_50 hS).2.1, ← gx_rfv hg hv_s0] at hl
  try simp only [← gx_rfv hg (sh_50 hS).2.1, ← gx_rfv hg hv_s0]
  refine W_cast (wcC hX q4.1).symm (wsC hX q4.1).symm ?_
  exact kl_Tx_poly_13 (N := N) C hr hlk hE hφ hψ hmrPart hcrPart  q4.2 (hG.tr hg hX.1) (hX.tr q4.1) (lt_ext hv_s0 q4.1) (lv_sub hl [0] rfl) h hm
set_option maxHeartbeats 8000000 in
set_option maxRecDepth 100000 in
theorem kc_Tx_poly (l : Launch) (D : va_G) (k : Nat → ClassId) (z mi : Nat) (aK aV : Nat → Nat) (g : Nat → Nat) (N : Nat) {φ ψ : Nat} {rPart : Sh → St → Option (Sh × St × Int)} (hφ : 20 ≤ φ) (hψ : 600 ≤ ψ) (hmrPart : ∀ {π : Sh} {σ : St}  {r : Sh × St × Int}, Cl π σ → rPart π σ  = some r → ext π r.1 ∧ Cl r.1 r.2.1) (hcrPart : ∀ {g : Nat → Nat} {π : Sh} {σ : St}  {r : Sh × St × Int}, Cl π σ → rPart π σ  = some r → Mi l yX10_part (.code yX10_part cX10_part 2 (some .int) :: cWd) { frames := φ, cells := nn r.1 - nn π, slots := sw r.1 - sw π, locals := ψ } [rfv g 50] D (TYs k) (cW k z g π σ) (XV z mi aK aV (cW k z g π σ)) (Nat → Nat) (fun v u => gx (nn π) g u ∧ v = Int32.ofInt r.2.2) (fun u => cW k z u r.1 r.2.1) (nn r.1 - nn π) (sw r.1 - sw π)) {π : Sh} {σ : St}  {r : Sh × St × Int} (hC : Cl π σ)  (hm : Tx_poly N rPart π σ  = some r) : Mi l yX10_poly (.code yX10_poly cX10_poly 2 (some .int) :: cWd) { frames := φ + 2, cells := nn r.1 - nn π, slots := sw r.1 - sw π, locals := ψ + 47 } [rfv g 50] D (TYs k) (cW k z g π σ) (XV z mi aK aV (cW k z g π σ)) (Nat → Nat) (fun v u => gx (nn π) g u ∧ v = Int32.ofInt r.2.2) (fun u => cW k z u r.1 r.2.1) (nn r.1 - nn π) (sw r.1 - sw π) := by
  have hS := hC.1
  have hq := km_Tx_poly hmrPart hC  hm
  intro sz
  refine v_met (cc := cX10_poly) (maxL := 2) (ret := (some .int)) (lv := [(0, rfv g 50)]) (by decide) rfl (by simp [lg_sl, rfv_cat, cat_i, cat_l]) (by simp [lv_args, rfv_cat, cat_i, cat_l]) ?_
  intro p e s m below meth c ls C hE hr hlk hmn hl h
  generalize ([rfv g 50] : List Value).toArray = args at C ⊢
  have hG := gx.rf (nn π) g
  have hX := ext.rf π
  refine W_cast (Nat.sub_self (nn π)) (Nat.sub_self (sw π)) ?_
  rw [Tx_poly] at hm
  have q := km_Tx_poly_3 hmrPart  ((cl_nO hC (by decide) (by decide) _)) lt_nO hm
  refine c_new C h hC (by decide) dX10_poly_0 rfl cU_X9 tyX9_ok (List.mem_cons_of_mem _ wn_X10_49) (List.mem_cons_of_mem _ wi_X9) (List.mem_cons_of_mem _ wt_X9) (df_X9) (dn_X9 z) (rc1 hX q.1) (rs1 hX q.1) (fun u H hg h => ?_)
  simp only [← gx_rfv hg (sh_50 hS).2.1] at hl
  try simp only [← gx_rfv hg (sh_50 hS).2.1]
  refine W_cast (wcO (c := 10) (w := 14) hX).symm (wsO (c := 10) (w := 14) hX).symm ?_
  exact kl_Tx_poly_3 (N := N) C hr hlk hE hφ hψ hmrPart hcrPart  ((cl_nO hC (by decide) (by decide) _)) (hG.tr hg hX.1) (hX.tr (ext_nO π 10 14)) lt_nO (lv_sub hl [0] rfl) h hm
end Z_Tx_poly
section Z_Tx_signedNumber
variable {p : Program} {l : Launch} {e : Env} {s : State} {m : MethodId} {args : Array Value} {below : List Frame} {meth : Method} {c : Code} {D : va_G} {A : Nat → Prop} {k : Nat → ClassId} {N : Nat} {cd : Cond} {z mi : Nat} {aK aV : Nat → Nat} {g0 : Nat → Nat} {π0 : Sh}
set_option maxHeartbeats 8000000 in
set_option maxRecDepth 100000 in
theorem kl_Tx_signedNumber_91 {r : Sh × St × Int} (C : Cx p s m args c cX10_signedNumber RX10 (cd :: cWd) D (TYs k) 4) (hr : meth.sig.returnType = (some .int)) (hlk : meth.locks = false) (hE : Ev z mi aK aV A s s.heap)    {ls : Array Slot} {H : Heap} {locs : List Loc} {g : Nat → Nat} {π : Sh} {σ : St} {s0 : Int} (hC : Cl π σ) (hG : gx (nn π0) g0 g) (hX : ext π0 π)  (hl : lv_has ls 4 []) (h : Hp D A s.heap H locs (cW k z g π σ)) (hm : Tx_signedNumber_91 N π σ s0 = some r) : W p l e { frames := 8, cells := nn r.1 - nn π0, slots := sw r.1 - sw π0, locals := 262 } s m args below meth c H locs (nn π - nn π0) (sw π - sw π0) (MQ below (va_Qi (fun v u => gx (nn π0) g0 u ∧ v = Int32.ofInt r.2.2) (fun u t => PostW D (TYs k) A (cW k z u r.1 r.2.1) t) A) args s (nn r.1 - nn π0) (sw r.1 - sw π0) A) (F0 m 91 ls [.int (Int32.ofInt s0)]) := by
  have hS := hC.1
  have hq := km_Tx_signedNumber_91    hC  hm
  rw [Tx_signedNumber_91] at hm
  cases hm
  exact c_iretA C hG h hr hlk dX10_signedNumber_91 rfl
set_option maxHeartbeats 8000000 in
set_option maxRecDepth 100000 in
theorem kl_Tx_signedNumber_88 {r : Sh × St × Int} (C : Cx p s m args c cX10_signedNumber RX10 (cd :: cWd) D (TYs k) 4) (hr : meth.sig.returnType = (some .int)) (hlk : meth.locks = false) (hE : Ev z mi aK aV A s s.heap)    {ls : Array Slot} {H : Heap} {locs : List Loc} {g : Nat → Nat} {π : Sh} {σ : St} {s0 : Int} {s1 : Int} (hC : Cl π σ) (hG : gx (nn π0) g0 g) (hX : ext π0 π) (hv_s0 : s0 < nn π) (hv_s1 : s1 < nn π) (hl : lv_has ls 4 []) (h : Hp D A s.heap H locs (cW k z g π σ)) (hm : Tx_signedNumber_88 N π σ s0 s1 = some r) : W p l e { frames := 8, cells := nn r.1 - nn π0, slots := sw r.1 - sw π0, locals := 262 } s m args below meth c H locs (nn π - nn π0) (sw π - sw π0) (MQ below (va_Qi (fun v u => gx (nn π0) g0 u ∧ v = Int32.ofInt r.2.2) (fun u t => PostW D (TYs k) A (cW k z u r.1 r.2.1) t) A) args s (nn r.1 - nn π0) (sw r.1 - sw π0) A) (F0 m 88 ls [rfv g s0, rfv g s1]) := by
  have hS := hC.1
  have hq := km_Tx_signedNumber_88    hC hv_s0 hv_s1 hm
  rw [Tx_signedNumber_88] at hm
  obtain ⟨r29, e30, hm⟩ := obd_s hm
  have q31 := (km_Df_add hC hv_s1 hv_s0 e30)
  obtain ⟨g32, hm⟩ := grd_s hm
  have q := km_Tx_signedNumber_91   q31.2  hm
  refine c_callViA C hE h g32 rfl (by decide) (kc_Df_add l D k z mi aK aV g N hC hv_s1 hv_s0 e30) (cwV 1 C.2.2.1 (gS_X10_60 _) rfl rfl rfl hd_X0_add ⟨Nat.le_of_ble_eq_true rfl, Nat.le_of_ble_eq_true rfl⟩) rfl hl.1 rfl (Nat.le_of_ble_eq_true rfl) dX10_signedNumber_88 ⟨rcC hX q31.1 q.1, rsC hX q31.1 q.1⟩ (fun u H locs hg h => ?_)
  refine W_cast (wcC hX q31.1).symm (wsC hX q31.1).symm ?_
  exact kl_Tx_signedNumber_91 (N := N) C hr hlk hE   q31.2 (hG.tr hg hX.1) (hX.tr q31.1)  (lv_sub hl [] rfl) h hm
set_option maxHeartbeats 8000000 in
set_option maxRecDepth 100000 in
theorem kl_Tx_signedNumber_84 {r : Sh × St × Int} (C : Cx p s m args c cX10_signedNumber RX10 (cd :: cWd) D (TYs k) 4) (hr : meth.sig.returnType = (some .int)) (hlk : meth.locks = false) (hE : Ev z mi aK aV A s s.heap)    {ls : Array Slot} {H : Heap} {locs : List Loc} {g : Nat → Nat} {π : Sh} {σ : St} {s0 : Int} {s1 : Int} {s2 : Int} {s3 : Int} {s4 : Int} {s5 : Int} (hC : Cl π σ) (hG : gx (nn π0) g0 g) (hX : ext π0 π) (hv_s3 : s3 < nn π) (hv_s4 : s4 < nn π) (hv_s5 : s5 < nn π) (hl : lv_has ls 4 []) (h : Hp D A s.heap H locs (cW k z g π σ)) (hm : Tx_signedNumber_84 N π σ s0 s1 s2 s3 s4 s5 = some r) : W p l e { frames := 8, cells := nn r.1 - nn π0, slots := sw r.1 - sw π0, locals := 262 } s m args below meth c H locs (nn π - nn π0) (sw π - sw π0) (MQ below (va_Qi (fun v u => gx (nn π0) g0 u ∧ v = Int32.ofInt r.2.2) (fun u t => PostW D (TYs k) A (cW k z u r.1 r.2.1) t) A) args s (nn r.1 - nn π0) (sw r.1 - sw π0) A) (F0 m 84 ls [.int (Int32.ofInt s0), .int (Int32.ofInt s1), .int (Int32.ofInt s2), rfv g s3, rfv g s4, rfv g s5]) := by
  have hS := hC.1
  have hq := km_Tx_signedNumber_84    hC hv_s3 hv_s4 hv_s5 hm
  rw [Tx_signedNumber_84] at hm
  refine lv_iconst (v := Int32.ofInt 0) C.1 C.2.1 dX10_signedNumber_84 (by decide) ?_
  obtain ⟨r25, e26, hm⟩ := obd_s hm
  have q27 := (km_Sp_initB hC hv_s3 e26)
  obtain ⟨g28, hm⟩ := grd_s hm
  have q := km_Tx_signedNumber_88   q27.2 (lt_ext hv_s4 q27.1) (lt_ext hv_s5 q27.1) hm
  refine c_callIvA C hE h g28 (kc_Sp_initB l D k z mi aK aV g N hC hv_s3 e26) (cwI 4 C.2.2.1 (gC_X9_init_ _) rfl rfl rfl (C.2.2.1 _ (List.mem_cons_of_mem _ wt_X9)) (C.2.2.1 _ (List.mem_cons_of_mem _ wm_X10_121)) (C.2.2.1 _ (List.mem_cons_of_mem _ wj_X9_init_)) rfl hdS_X9_init_ ⟨Nat.le_of_ble_eq_true rfl, Nat.le_of_ble_eq_true rfl⟩) rfl hl.1 rfl (by simp [rfv_cat, cat_i, cat_l]) dX10_signedNumber_85 ⟨rcC hX q27.1 q.1, rsC hX q27.1 q.1⟩ (fun u H locs hg h => ?_)
  try simp only [← gx_rfv hg hv_s4, ← gx_rfv hg hv_s5]
  refine W_cast (wcC hX q27.1).symm (wsC hX q27.1).symm ?_
  exact kl_Tx_signedNumber_88 (N := N) C hr hlk hE   q27.2 (hG.tr hg hX.1) (hX.tr q27.1) (lt_ext hv_s4 q27.1) (lt_ext hv_s5 q27.1) (lv_sub hl [] rfl) h hm
set_option maxHeartbeats 8000000 in
set_option maxRecDepth 100000 in
theorem kl_Tx_signedNumber_71 {r : Sh × St × Int} (C : Cx p s m args c cX10_signedNumber RX10 (cd :: cWd) D (TYs k) 4) (hr : meth.sig.returnType = (some .int)) (hlk : meth.locks = false) (hE : Ev z mi aK aV A s s.heap)    {ls : Array Slot} {H : Heap} {locs : List Loc} {g : Nat → Nat} {π : Sh} {σ : St} {x1 : Int} {x2 : Int} {x3 : Int} {s0 : Int} {s1 : Int} (hC : Cl π σ) (hG : gx (nn π0) g0 g) (hX : ext π0 π) (hv_s0 : s0 < nn π) (hv_s1 : s1 < nn π) (hl : lv_has ls 4 [(1, .int (Int32.ofInt x1)), (2, .int (Int32.ofInt x2)), (3, .int (Int32.ofInt x3))]) (h : Hp D A s.heap H locs (cW k z g π σ)) (hm : Tx_signedNumber_71 N π σ x1 x2 x3 s0 s1 = some r) : W p l e { frames := 8, cells := nn r.1 - nn π0, slots := sw r.1 - sw π0, locals := 262 } s m args below meth c H locs (nn π - nn π0) (sw π - sw π0) (MQ below (va_Qi (fun v u => gx (nn π0) g0 u ∧ v = Int32.ofInt r.2.2) (fun u t => PostW D (TYs k) A (cW k z u r.1 r.2.1) t) A) args s (nn r.1 - nn π0) (sw r.1 - sw π0) A) (F0 m 71 ls [rfv g s0, rfv g s1]) := by
  have hS := hC.1
  have hq := km_Tx_signedNumber_71    hC hv_s0 hv_s1 hm
  rw [Tx_signedNumber_71] at hm
  refine lv_dup C.1 C.2.1 dX10_signedNumber_71 (rfv_cat _ _) ?_
  refine lv_iconst (v := Int32.ofInt 2) C.1 C.2.1 dX10_signedNumber_72 (by decide) ?_
  refine lv_iload_n C.1 C.2.1 dX10_signedNumber_73 rfl (lv_at hl 0 rfl) ?_
  refine lv_iload_n C.1 C.2.1 dX10_signedNumber_74 rfl (lv_at hl 1 rfl) ?_
  obtain ⟨g23, hm⟩ := grd_s hm
  refine z_if_eq (tgt := 83) C dX10_signedNumber_75 (by decide) g23 (fun c24 => ?_) (fun c24 => ?_)
  · have hm := ite_t c24 hm
    refine lv_iload_n C.1 C.2.1 dX10_signedNumber_83 rfl (lv_at hl 2 rfl) ?_
    exact kl_Tx_signedNumber_84 (N := N) C hr hlk hE hC hG hX hv_s0 hv_s0 hv_s1 (lv_sub hl [] rfl) h hm
  · have hm := ite_f c24 hm
    refine lv_iload_n C.1 C.2.1 dX10_signedNumber_78 rfl (lv_at hl 2 rfl) ?_
    refine z_ineg C dX10_signedNumber_79 ?_
    refine lv_goto (tgt := 84) C.1 C.2.1 dX10_signedNumber_80 (by decide) ?_
    exact kl_Tx_signedNumber_84 (N := N) C hr hlk hE hC hG hX hv_s0 hv_s0 hv_s1 (lv_sub hl [] rfl) h hm
set_option maxHeartbeats 8000000 in
set_option maxRecDepth 100000 in
theorem kl_Tx_signedNumber_34 {r : Sh × St × Int} (C : Cx p s m args c cX10_signedNumber RX10 (cd :: cWd) D (TYs k) 4) (hr : meth.sig.returnType = (some .int)) (hlk : meth.locks = false) (hE : Ev z mi aK aV A s s.heap)    {ls : Array Slot} {H : Heap} {locs : List Loc} {g : Nat → Nat} {π : Sh} {σ : St} {x1 : Int} {x2 : Int} {s0 : Int} {s1 : Int} (hC : Cl π σ) (hG : gx (nn π0) g0 g) (hX : ext π0 π)  (hl : lv_has ls 4 [(0, rfv g 50), (1, .int (Int32.ofInt x1)), (2, .int (Int32.ofInt x2))]) (h : Hp D A s.heap H locs (cW k z g π σ)) (hm : Tx_signedNumber_34 N π σ x1 x2 s0 s1 = some r) : W p l e { frames := 8, cells := nn r.1 - nn π0, slots := sw r.1 - sw π0, locals := 262 } s m args below meth c H locs (nn π - nn π0) (sw π - sw π0) (MQ below (va_Qi (fun v u => gx (nn π0) g0 u ∧ v = Int32.ofInt r.2.2) (fun u t => PostW D (TYs k) A (cW k z u r.1 r.2.1) t) A) args s (nn r.1 - nn π0) (sw r.1 - sw π0) A) (F0 m 34 ls [.int (Int32.ofInt s0), .int (Int32.ofInt s1), rfv g 50]) := by
  have hS := hC.1
  have hq := km_Tx_signedNumber_34    hC  hm
  rw [Tx_signedNumber_34] at hm
  refine z_iadd C dX10_signedNumber_34 ?_
  refine cp_11_2 C h (sh_50 hS) cU_X10 (List.mem_cons_of_mem _ wl_X10_15) dX10_signedNumber_35 (fun H locs h => ?_)
  refine z_aload_n C dX10_signedNumber_38 rfl (lv_at hl 0 rfl) ?_
  refine lv_bipush (v := Int32.ofInt 6) C.1 C.2.1 dX10_signedNumber_39 (by decide) ?_
  obtain ⟨σ9, e10, hm⟩ := bnd_s hm
  rw [e10] at h
  have hC11 : Cl π σ9 := e10 ▸ (cl_sfI hC (f := 222) rfl _ _)
  obtain ⟨r12, e13, hm⟩ := obd_s hm
  have q14 := (km_Tx_digits hC11 e13)
  refine c_callViP C hE h (sh_50 hS) rfl (by decide) (kc_Tx_digits l D k z mi aK aV g N hS e13) (cwV 1 C.2.2.1 (gS_X10_118 _) rfl rfl rfl hd_X10_digits ⟨Nat.le_of_ble_eq_true rfl, Nat.le_of_ble_eq_true rfl⟩) rfl hl.1 rfl (Nat.le_of_ble_eq_true rfl) dX10_signedNumber_41 ⟨(czz hX hq.1), (szz hX hq.1)⟩ (fun H locs h => ?_)
  have hC15 : Cl π r12.1 := q14
  refine lv_istore_n (lv' := [(3, .int (Int32.ofInt r12.2)), (0, rfv g 50), (1, .int (Int32.ofInt x1)), (2, .int (Int32.ofInt x2))]) C.1 C.2.1 dX10_signedNumber_44 rfl hl (by decide) rfl (fun ls hl => ?_)
  refine lv_iload_n C.1 C.2.1 dX10_signedNumber_45 rfl (lv_at hl 0 rfl) ?_
  refine lv_iconst (v := Int32.ofInt (-1)) C.1 C.2.1 dX10_signedNumber_46 (by decide) ?_
  obtain ⟨g16, hm⟩ := grd_s hm
  refine z_icmp_ne (tgt := 64) C dX10_signedNumber_47 (by decide) g16 (by decide) (fun c17 => ?_) (fun c17 => ?_)
  · have hm := ite_f c17 hm
    refine z_aload_n C dX10_signedNumber_64 rfl (lv_at hl 1 rfl) ?_
    refine cg_11_1 C h (sh_50 hS) cU_X10 (List.mem_cons_of_mem _ wl_X10_9) dX10_signedNumber_65 ?_
    have q := km_Tx_signedNumber_71   ((cl_nO hC15 (by decide) (by decide) _)) lt_nO (lt_ext (cl_fl hC15 (f := 221) rfl 50) (ext_nO π 10 14)) hm
    refine c_new C h hC15 (by decide) dX10_signedNumber_68 rfl cU_X9 tyX9_ok (List.mem_cons_of_mem _ wn_X10_49) (List.mem_cons_of_mem _ wi_X9) (List.mem_cons_of_mem _ wt_X9) (df_X9) (dn_X9 z) (rc1 hX q.1) (rs1 hX q.1) (fun u H hg h => ?_)
    simp only [← gx_rfv hg (sh_50 hS).2.1, ← gx_rfv hg (cl_fl hC15 (f := 221) rfl 50)] at hl
    try simp only [← gx_rfv hg (sh_50 hS).2.1, ← gx_rfv hg (cl_fl hC15 (f := 221) rfl 50)]
    refine W_cast (wcO (c := 10) (w := 14) hX).symm (wsO (c := 10) (w := 14) hX).symm ?_
    exact kl_Tx_signedNumber_71 (N := N) C hr hlk hE   ((cl_nO hC15 (by decide) (by decide) _)) (hG.tr hg hX.1) (hX.tr (ext_nO π 10 14)) lt_nO (lt_ext (cl_fl hC15 (f := 221) rfl 50) (ext_nO π 10 14)) (lv_sub hl [2, 3, 0] rfl) h hm
  · have hm := ite_t c17 hm
    refine z_aload_n C dX10_signedNumber_50 rfl (lv_at hl 1 rfl) ?_
    refine cg_11_0 C h (sh_50 hS) cU_X10 (List.mem_cons_of_mem _ wl_X10_28) dX10_signedNumber_51 ?_
    refine lv_iconst (v := Int32.ofInt 1) C.1 C.2.1 dX10_signedNumber_54 (by decide) ?_
    refine z_aload_n C dX10_signedNumber_55 rfl (lv_at hl 1 rfl) ?_
    refine cg_11_2 C h (sh_50 hS) cU_X10 (List.mem_cons_of_mem _ wl_X10_15) dX10_signedNumber_56 ?_
    obtain ⟨r19, e20, hm⟩ := obd_s hm
    have q21 := (km_Sc_fail hC15 e20)
    refine c_callVvP C hE h (sh_1 hS) rfl (by decide) (kc_Sc_fail l D k z mi aK aV g N hS e20) (cwV 2 C.2.2.1 (gS_X10_32 _) rfl rfl rfl hd_X8_fail ⟨Nat.le_of_ble_eq_true rfl, Nat.le_of_ble_eq_true rfl⟩) rfl hl.1 rfl (Nat.le_of_ble_eq_true rfl) dX10_signedNumber_59 ⟨(czz hX hq.1), (szz hX hq.1)⟩ (fun H locs h => ?_)
    have hC22 : Cl π r19 := q21
    refine lv_iconst (v := Int32.ofInt 0) C.1 C.2.1 dX10_signedNumber_62 (by decide) ?_
    cases hm
    exact c_iretA C hG h hr hlk dX10_signedNumber_63 rfl
set_option maxHeartbeats 8000000 in
set_option maxRecDepth 100000 in
theorem kl_Tx_signedNumber_19 {r : Sh × St × Int} (C : Cx p s m args c cX10_signedNumber RX10 (cd :: cWd) D (TYs k) 4) (hr : meth.sig.returnType = (some .int)) (hlk : meth.locks = false) (hE : Ev z mi aK aV A s s.heap)    {ls : Array Slot} {H : Heap} {locs : List Loc} {g : Nat → Nat} {π : Sh} {σ : St} {x1 : Int} {s0 : Int} (hC : Cl π σ) (hG : gx (nn π0) g0 g) (hX : ext π0 π)  (hl : lv_has ls 4 [(0, rfv g 50), (1, .int (Int32.ofInt x1))]) (h : Hp D A s.heap H locs (cW k z g π σ)) (hm : Tx_signedNumber_19 N π σ x1 s0 = some r) : W p l e { frames := 8, cells := nn r.1 - nn π0, slots := sw r.1 - sw π0, locals := 262 } s m args below meth c H locs (nn π - nn π0) (sw π - sw π0) (MQ below (va_Qi (fun v u => gx (nn π0) g0 u ∧ v = Int32.ofInt r.2.2) (fun u t => PostW D (TYs k) A (cW k z u r.1 r.2.1) t) A) args s (nn r.1 - nn π0) (sw r.1 - sw π0) A) (F0 m 19 ls [.int (Int32.ofInt s0)]) := by
  have hS := hC.1
  have hq := km_Tx_signedNumber_19    hC  hm
  rw [Tx_signedNumber_19] at hm
  refine lv_istore_n (lv' := [(2, .int (Int32.ofInt s0)), (0, rfv g 50), (1, .int (Int32.ofInt x1))]) C.1 C.2.1 dX10_signedNumber_19 rfl hl (by decide) rfl (fun ls hl => ?_)
  refine z_aload_n C dX10_signedNumber_20 rfl (lv_at hl 1 rfl) ?_
  refine lv_dup C.1 C.2.1 dX10_signedNumber_21 (rfv_cat _ _) ?_
  refine cg_11_2 C h (sh_50 hS) cU_X10 (List.mem_cons_of_mem _ wl_X10_15) dX10_signedNumber_22 ?_
  refine lv_iload_n C.1 C.2.1 dX10_signedNumber_25 rfl (lv_at hl 0 rfl) ?_
  obtain ⟨g7, hm⟩ := grd_s hm
  refine z_if_eq (tgt := 33) C dX10_signedNumber_26 (by decide) g7 (fun c8 => ?_) (fun c8 => ?_)
  · have hm := ite_t c8 hm
    refine lv_iconst (v := Int32.ofInt 0) C.1 C.2.1 dX10_signedNumber_33 (by decide) ?_
    exact kl_Tx_signedNumber_34 (N := N) C hr hlk hE hC hG hX (lv_sub hl [1, 2, 0] rfl) h hm
  · have hm := ite_f c8 hm
    refine lv_iconst (v := Int32.ofInt 1) C.1 C.2.1 dX10_signedNumber_29 (by decide) ?_
    refine lv_goto (tgt := 34) C.1 C.2.1 dX10_signedNumber_30 (by decide) ?_
    exact kl_Tx_signedNumber_34 (N := N) C hr hlk hE hC hG hX (lv_sub hl [1, 2, 0] rfl) h hm
set_option maxHeartbeats 8000000 in
set_option maxRecDepth 100000 in
theorem kc_Tx_signedNumber (l : Launch) (D : va_G) (k : Nat → ClassId) (z mi : Nat) (aK aV : Nat → Nat) (g : Nat → Nat) (N : Nat)    {π : Sh} {σ : St}  {r : Sh × St × Int} (hC : Cl π σ)  (hm : Tx_signedNumber N π σ  = some r) : Mi l yX10_signedNumber (.code yX10_signedNumber cX10_signedNumber 4 (some .int) :: cWd) { frames := 8, cells := nn r.1 - nn π, slots := sw r.1 - sw π, locals := 262 } [rfv g 50] D (TYs k) (cW k z g π σ) (XV z mi aK aV (cW k z g π σ)) (Nat → Nat) (fun v u => gx (nn π) g u ∧ v = Int32.ofInt r.2.2) (fun u => cW k z u r.1 r.2.1) (nn r.1 - nn π) (sw r.1 - sw π) := by
  have hS := hC.1
  have hq := km_Tx_signedNumber  hC  hm
  intro sz
  refine v_met (cc := cX10_signedNumber) (maxL := 4) (ret := (some .int)) (lv := [(0, rfv g 50)]) (by decide) rfl (by simp [lg_sl, rfv_cat, cat_i, cat_l]) (by simp [lv_args, rfv_cat, cat_i, cat_l]) ?_
  intro p e s m below meth c ls C hE hr hlk hmn hl h
  generalize ([rfv g 50] : List Value).toArray = args at C ⊢
  have hG := gx.rf (nn π) g
  have hX := ext.rf π
  refine W_cast (Nat.sub_self (nn π)) (Nat.sub_self (sw π)) ?_
  rw [Tx_signedNumber] at hm
  refine z_aload_n C dX10_signedNumber_0 rfl (lv_at hl 0 rfl) ?_
  refine cg_11_2 C h (sh_50 hS) cU_X10 (List.mem_cons_of_mem _ wl_X10_15) dX10_signedNumber_1 ?_
  refine lv_istore_n (i := 1) (lv' := [(1, .int (Int32.ofInt (fl σ 222 50))), (0, rfv g 50)]) C.1 C.2.1 dX10_signedNumber_4 rfl hl (by decide) (by simp [rfv_cat, cat_i, cat_l]) (fun ls hl => ?_)
  refine z_aload_n C dX10_signedNumber_5 rfl (lv_at hl 1 rfl) ?_
  obtain ⟨r1, e2, hm⟩ := obd_s hm
  have q3 := (km_Tx_here hC e2)
  refine c_callViP C hE h (sh_50 hS) rfl (by decide) (kc_Tx_here l D k z mi aK aV g N hS e2) (cwV 0 C.2.2.1 (gS_X10_45 _) rfl rfl rfl hd_X10_here ⟨Nat.le_of_ble_eq_true rfl, Nat.le_of_ble_eq_true rfl⟩) rfl hl.1 rfl (Nat.le_of_ble_eq_true rfl) dX10_signedNumber_6 ⟨(czz hX hq.1), (szz hX hq.1)⟩ (fun H locs h => ?_)
  have hC4 : Cl π r1.1 := q3
  refine lv_bipush (v := Int32.ofInt 45) C.1 C.2.1 dX10_signedNumber_9 (by decide) ?_
  obtain ⟨g5, hm⟩ := grd_s hm
  refine z_icmp_ne (tgt := 18) C dX10_signedNumber_11 (by decide) g5 (by decide) (fun c6 => ?_) (fun c6 => ?_)
  · have hm := ite_f c6 hm
    refine lv_iconst (v := Int32.ofInt 0) C.1 C.2.1 dX10_signedNumber_18 (by decide) ?_
    exact kl_Tx_signedNumber_19 (N := N) C hr hlk hE hC4 hG hX (lv_sub hl [1, 0] rfl) h hm
  · have hm := ite_t c6 hm
    refine lv_iconst (v := Int32.ofInt 1) C.1 C.2.1 dX10_signedNumber_14 (by decide) ?_
    refine lv_goto (tgt := 19) C.1 C.2.1 dX10_signedNumber_15 (by decide) ?_
    exact kl_Tx_signedNumber_19 (N := N) C hr hlk hE hC4 hG hX (lv_sub hl [1, 0] rfl) h hm
end Z_Tx_signedNumber
section Z_Tx_turn
variable {p : Program} {l : Launch} {e : Env} {s : State} {m : MethodId} {args : Array Value} {below : List Frame} {meth : Method} {c : Code} {D : va_G} {A : Nat → Prop} {k : Nat → ClassId} {N : Nat} {cd : Cond} {z mi : Nat} {aK aV : Nat → Nat} {g0 : Nat → Nat} {π0 : Sh} {φ ψ : Nat}
set_option maxHeartbeats 8000000 in
set_option maxRecDepth 100000 in
theorem kl_Tx_turn_65 {r : Sh × St × Int} (C : Cx p s m args c cX10_turn RX10 (cd :: cWd) D (TYs k) 2) (hr : meth.sig.returnType = (some .int)) (hlk : meth.locks = false) (hE : Ev z mi aK aV A s s.heap) {rPart : Sh → St → Option (Sh × St × Int)} (hφ : 20 ≤ φ) (hψ : 600 ≤ ψ) (hmrPart : ∀ {π : Sh} {σ : St}  {r : Sh × St × Int}, Cl π σ → rPart π σ  = some r → ext π r.1 ∧ Cl r.1 r.2.1) (hcrPart : ∀ {g : Nat → Nat} {π : Sh} {σ : St}  {r : Sh × St × Int}, Cl π σ → rPart π σ  = some r → Mi l yX10_part (.code yX10_part cX10_part 2 (some .int) :: cWd) { frames := φ, cells := nn r.1 - nn π, slots := sw r.1 - sw π, locals := ψ } [rfv g 50] D (TYs k) (cW k z g π σ) (XV z mi aK aV (cW k z g π σ)) (Nat → Nat) (fun v u => gx (nn π) g u ∧ v = Int32.ofInt r.2.2) (fun u => cW k z u r.1 r.2.1) (nn r.1 - nn π) (sw r.1 - sw π))  {ls : Array Slot} {H : Heap} {locs : List Loc} {g : Nat → Nat} {π : Sh} {σ : St} {s0 : Int} (hC : Cl π σ) (hG : gx (nn π0) g0 g) (hX : ext π0 π)  (hl : lv_has ls 2 []) (h : Hp D A s.heap H locs (cW k z g π σ)) (hm : Tx_turn_65 N rPart π σ s0 = some r) : W p l e { frames := φ + 2, cells := nn r.1 - nn π0, slots := sw r.1 - sw π0, locals := ψ + 47 } s m args below meth c H locs (nn π - nn π0) (sw π - sw π0) (MQ below (va_Qi (fun v u => gx (nn π0) g0 u ∧ v = Int32.ofInt r.2.2) (fun u t => PostW D (TYs k) A (cW k z u r.1 r.2.1) t) A) args s (nn r.1 - nn π0) (sw r.1 - sw π0) A) (F0 m 65 ls [.int (Int32.ofInt s0)]) := by
  have hS := hC.1
  have hq := km_Tx_turn_65 hmrPart   hC  hm
  rw [Tx_turn_65] at hm
  refine lv_goto (tgt := 69) C.1 C.2.1 dX10_turn_65 (by decide) ?_
  cases hm
  exact c_iretA C hG h hr hlk dX10_turn_69 rfl
set_option maxHeartbeats 8000000 in
set_option maxRecDepth 100000 in
theorem kl_Tx_turn_28 {r : Sh × St × Int} (C : Cx p s m args c cX10_turn RX10 (cd :: cWd) D (TYs k) 2) (hr : meth.sig.returnType = (some .int)) (hlk : meth.locks = false) (hE : Ev z mi aK aV A s s.heap) {rPart : Sh → St → Option (Sh × St × Int)} (hφ : 20 ≤ φ) (hψ : 600 ≤ ψ) (hmrPart : ∀ {π : Sh} {σ : St}  {r : Sh × St × Int}, Cl π σ → rPart π σ  = some r → ext π r.1 ∧ Cl r.1 r.2.1) (hcrPart : ∀ {g : Nat → Nat} {π : Sh} {σ : St}  {r : Sh × St × Int}, Cl π σ → rPart π σ  = some r → Mi l yX10_part (.code yX10_part cX10_part 2 (some .int) :: cWd) { frames := φ, cells := nn r.1 - nn π, slots := sw r.1 - sw π, locals := ψ } [rfv g 50] D (TYs k) (cW k z g π σ) (XV z mi aK aV (cW k z g π σ)) (Nat → Nat) (fun v u => gx (nn π) g u ∧ v = Int32.ofInt r.2.2) (fun u => cW k z u r.1 r.2.1) (nn r.1 - nn π) (sw r.1 - sw π))  {ls : Array Slot} {H : Heap} {locs : List Loc} {g : Nat → Nat} {π : Sh} {σ : St} {x1 : Int} (hC : Cl π σ) (hG : gx (nn π0) g0 g) (hX : ext π0 π) (hv_x1 : x1 < nn π) (hl : lv_has ls 2 [(0, rfv g 50), (1, rfv g x1)]) (h : Hp D A s.heap H locs (cW k z g π σ)) (hm : Tx_turn_28 N rPart π σ x1 = some r) : W p l e { frames := φ + 2, cells := nn r.1 - nn π0, slots := sw r.1 - sw π0, locals := ψ + 47 } s m args below meth c H locs (nn π - nn π0) (sw π - sw π0) (MQ below (va_Qi (fun v u => gx (nn π0) g0 u ∧ v = Int32.ofInt r.2.2) (fun u t => PostW D (TYs k) A (cW k z u r.1 r.2.1) t) A) args s (nn r.1 - nn π0) (sw r.1 - sw π0) A) (F0 m 28 ls []) := by
  have hS := hC.1
  have hq := km_Tx_turn_28 hmrPart   hC hv_x1 hm
  rw [Tx_turn_28] at hm
  refine z_aload_n C dX10_turn_28 rfl (lv_at hl 0 rfl) ?_
  refine lv_bipush (v := Int32.ofInt 62) C.1 C.2.1 dX10_turn_29 (by decide) ?_
  obtain ⟨r12, e13, hm⟩ := obd_s hm
  have q14 := (km_Tx_take hC e13)
  refine c_callVvP C hE h (sh_50 hS) rfl (by decide) (kc_Tx_take l D k z mi aK aV g N hS e13) (cwV 1 C.2.2.1 (gS_X10_131 _) rfl rfl rfl hd_X10_take ⟨(by show 1 + 1 ≤ φ + 2; omega), (by show 8 + (2 + 11) + 22 ≤ ψ + 47; omega)⟩) rfl hl.1 rfl (Nat.le_of_ble_eq_true rfl) dX10_turn_31 ⟨(czz hX hq.1), (szz hX hq.1)⟩ (fun H locs h => ?_)
  have hC15 : Cl π r12 := q14
  refine z_aload_n C dX10_turn_34 rfl (lv_at hl 0 rfl) ?_
  refine cg_11_0 C h (sh_50 hS) cU_X10 (List.mem_cons_of_mem _ wl_X10_28) dX10_turn_35 ?_
  refine lv_dup C.1 C.2.1 dX10_turn_38 (rfv_cat _ _) ?_
  refine cg_9_4 C h (sh_1 hS) cU_X8 (List.mem_cons_of_mem _ wl_X10_135) dX10_turn_39 ?_
  refine lv_iconst (v := Int32.ofInt 1) C.1 C.2.1 dX10_turn_42 (by decide) ?_
  refine z_isub C dX10_turn_43 ?_
  refine cp_9_4 C h (sh_1 hS) cU_X8 (List.mem_cons_of_mem _ wl_X10_135) dX10_turn_44 (fun H locs h => ?_)
  refine z_aload_n C dX10_turn_47 rfl (lv_at hl 0 rfl) ?_
  refine cg_11_0 C h (sh_50 hS) cU_X10 (List.mem_cons_of_mem _ wl_X10_28) dX10_turn_48 ?_
  refine cg_9_2 C h (sh_1 hS) cU_X8 (List.mem_cons_of_mem _ wl_X10_57) dX10_turn_51 ?_
  refine x_topi (y := Int32.ofInt (fl r12 182 1)) rfl ?_
  obtain ⟨g16, hm⟩ := grd_s hm
  refine z_if_ne (tgt := 68) C dX10_turn_54 (by decide) g16 (fun c17 => ?_) (fun c17 => ?_)
  · have hm := ite_f c17 hm
    refine lv_iconst (v := Int32.ofInt 0) C.1 C.2.1 dX10_turn_68 (by decide) ?_
    cases hm
    exact c_iretA C hG h hr hlk dX10_turn_69 rfl
  · have hm := ite_t c17 hm
    refine z_aload_n C dX10_turn_57 rfl (lv_at hl 0 rfl) ?_
    refine cg_11_1 C h (sh_50 hS) cU_X10 (List.mem_cons_of_mem _ wl_X10_9) dX10_turn_58 ?_
    refine x_topv (b := rfv g (fl r12 221 50)) rfl ?_
    refine z_aload_n C dX10_turn_61 rfl (lv_at hl 1 rfl) ?_
    obtain ⟨σ18, e19, hm⟩ := bnd_s hm
    rw [e19] at h
    have hC20 : Cl π σ18 := e19 ▸ (cl_sfI hC15 (f := 184) rfl _ _)
    obtain ⟨r21, e22, hm⟩ := obd_s hm
    have q23 := (km_Df_add hC20 (cl_fl hC15 (f := 221) rfl 50) hv_x1 e22)
    obtain ⟨g24, hm⟩ := grd_s hm
    have q := km_Tx_turn_65 hmrPart  q23.2  hm
    refine c_callViA C hE h g24 rfl (by decide) (kc_Df_add l D k z mi aK aV g N hC20 (cl_fl hC15 (f := 221) rfl 50) hv_x1 e22) (cwV 1 C.2.2.1 (gS_X10_60 _) rfl rfl rfl hd_X0_add ⟨(by show 7 + 1 ≤ φ + 2; omega), (by show 8 + (2 + 11) + 241 ≤ ψ + 47; omega)⟩) rfl hl.1 rfl (Nat.le_of_ble_eq_true rfl) dX10_turn_62 ⟨rcC hX q23.1 q.1, rsC hX q23.1 q.1⟩ (fun u H locs hg h => ?_)
    simp only [← gx_rfv hg (sh_50 hS).2.1, ← gx_rfv hg hv_x1] at hl
    try simp only [← gx_rfv hg (sh_50 hS).2.1, ← gx_rfv hg hv_x1]
    refine W_cast (wcC hX q23.1).symm (wsC hX q23.1).symm ?_
    exact kl_Tx_turn_65 (N := N) C hr hlk hE hφ hψ hmrPart hcrPart  q23.2 (hG.tr hg hX.1) (hX.tr q23.1)  (lv_sub hl [] rfl) h hm
set_option maxHeartbeats 8000000 in
set_option maxRecDepth 100000 in
theorem kl_Tx_turn_12 {r : Sh × St × Int} (C : Cx p s m args c cX10_turn RX10 (cd :: cWd) D (TYs k) 2) (hr : meth.sig.returnType = (some .int)) (hlk : meth.locks = false) (hE : Ev z mi aK aV A s s.heap) {rPart : Sh → St → Option (Sh × St × Int)} (hφ : 20 ≤ φ) (hψ : 600 ≤ ψ) (hmrPart : ∀ {π : Sh} {σ : St}  {r : Sh × St × Int}, Cl π σ → rPart π σ  = some r → ext π r.1 ∧ Cl r.1 r.2.1) (hcrPart : ∀ {g : Nat → Nat} {π : Sh} {σ : St}  {r : Sh × St × Int}, Cl π σ → rPart π σ  = some r → Mi l yX10_part (.code yX10_part cX10_part 2 (some .int) :: cWd) { frames := φ, cells := nn r.1 - nn π, slots := sw r.1 - sw π, locals := ψ } [rfv g 50] D (TYs k) (cW k z g π σ) (XV z mi aK aV (cW k z g π σ)) (Nat → Nat) (fun v u => gx (nn π) g u ∧ v = Int32.ofInt r.2.2) (fun u => cW k z u r.1 r.2.1) (nn r.1 - nn π) (sw r.1 - sw π))  {ls : Array Slot} {H : Heap} {locs : List Loc} {g : Nat → Nat} {π : Sh} {σ : St} {s0 : Int} (hC : Cl π σ) (hG : gx (nn π0) g0 g) (hX : ext π0 π) (hv_s0 : s0 < nn π) (hl : lv_has ls 2 [(0, rfv g 50)]) (h : Hp D A s.heap H locs (cW k z g π σ)) (hm : Tx_turn_12 N rPart π σ s0 = some r) : W p l e { frames := φ + 2, cells := nn r.1 - nn π0, slots := sw r.1 - sw π0, locals := ψ + 47 } s m args below meth c H locs (nn π - nn π0) (sw π - sw π0) (MQ below (va_Qi (fun v u => gx (nn π0) g0 u ∧ v = Int32.ofInt r.2.2) (fun u t => PostW D (TYs k) A (cW k z u r.1 r.2.1) t) A) args s (nn r.1 - nn π0) (sw r.1 - sw π0) A) (F0 m 12 ls [rfv g s0]) := by
  have hS := hC.1
  have hq := km_Tx_turn_12 hmrPart   hC hv_s0 hm
  rw [Tx_turn_12] at hm
  refine z_astore_n (j := 1) (lv' := [(1, rfv g s0), (0, rfv g 50)]) C dX10_turn_12 rfl hl (by decide) (by simp [rfv_cat, cat_i, cat_l]) (fun ls hl => ?_)
  refine z_aload_n C dX10_turn_13 rfl (lv_at hl 1 rfl) ?_
  refine lv_dup C.1 C.2.1 dX10_turn_14 (rfv_cat _ _) ?_
  refine cg_11_2 C h (sh_50 hS) cU_X10 (List.mem_cons_of_mem _ wl_X10_15) dX10_turn_15 ?_
  refine lv_iconst (v := Int32.ofInt 1) C.1 C.2.1 dX10_turn_18 (by decide) ?_
  refine z_iadd C dX10_turn_19 ?_
  refine cp_11_2 C h (sh_50 hS) cU_X10 (List.mem_cons_of_mem _ wl_X10_15) dX10_turn_20 (fun H locs h => ?_)
  refine z_aload_n C dX10_turn_23 rfl (lv_at hl 1 rfl) ?_
  refine z_aload_n C dX10_turn_24 rfl (lv_at hl 0 rfl) ?_
  obtain ⟨σ6, e7, hm⟩ := bnd_s hm
  rw [e7] at h
  have hC8 : Cl π σ6 := e7 ▸ (cl_sfI hC (f := 222) rfl _ _)
  obtain ⟨r9, e10, hm⟩ := obd_s hm
  have q11 := (km_Tx_steps hmrPart hC8 hv_s0 e10)
  have q := km_Tx_turn_28 hmrPart  q11.2 (lt_ext hv_s0 q11.1) hm
  refine c_callVvA C hE h (sh_50 hS) rfl (by decide) (kc_Tx_steps l D k z mi aK aV g N hφ hψ hmrPart hcrPart hC8 hv_s0 e10) (cwV 1 C.2.2.1 (gS_X10_53 _) rfl rfl rfl hd_X10_steps ⟨(by show φ + 1 + 1 ≤ φ + 2; omega), (by show 8 + (7 + 11) + (ψ + 21) ≤ ψ + 47; omega)⟩) rfl hl.1 rfl (Nat.le_of_ble_eq_true rfl) dX10_turn_25 ⟨rcC hX q11.1 q.1, rsC hX q11.1 q.1⟩ (fun u H locs hg h => ?_)
  simp only [← gx_rfv hg hv_s0, ← gx_rfv hg (sh_50 hS).2.1] at hl
  try simp only [← gx_rfv hg hv_s0, ← gx_rfv hg (sh_50 hS).2.1]
  refine W_cast (wcC hX q11.1).symm (wsC hX q11.1).symm ?_
  exact kl_Tx_turn_28 (N := N) C hr hlk hE hφ hψ hmrPart hcrPart  q11.2 (hG.tr hg hX.1) (hX.tr q11.1) (lt_ext hv_s0 q11.1) (lv_sub hl [1, 0] rfl) h hm
set_option maxHeartbeats 8000000 in
set_option maxRecDepth 100000 in
theorem kl_Tx_turn_3 {r : Sh × St × Int} (C : Cx p s m args c cX10_turn RX10 (cd :: cWd) D (TYs k) 2) (hr : meth.sig.returnType = (some .int)) (hlk : meth.locks = false) (hE : Ev z mi aK aV A s s.heap) {rPart : Sh → St → Option (Sh × St × Int)} (hφ : 20 ≤ φ) (hψ : 600 ≤ ψ) (hmrPart : ∀ {π : Sh} {σ : St}  {r : Sh × St × Int}, Cl π σ → rPart π σ  = some r → ext π r.1 ∧ Cl r.1 r.2.1) (hcrPart : ∀ {g : Nat → Nat} {π : Sh} {σ : St}  {r : Sh × St × Int}, Cl π σ → rPart π σ  = some r → Mi l yX10_part (.code yX10_part cX10_part 2 (some .int) :: cWd) { frames := φ, cells := nn r.1 - nn π, slots := sw r.1 - sw π, locals := ψ } [rfv g 50] D (TYs k) (cW k z g π σ) (XV z mi aK aV (cW k z g π σ)) (Nat → Nat) (fun v u => gx (nn π) g u ∧ v = Int32.ofInt r.2.2) (fun u => cW k z u r.1 r.2.1) (nn r.1 - nn π) (sw r.1 - sw π))  {ls : Array Slot} {H : Heap} {locs : List Loc} {g : Nat → Nat} {π : Sh} {σ : St} {s0 : Int} (hC : Cl π σ) (hG : gx (nn π0) g0 g) (hX : ext π0 π) (hv_s0 : s0 < nn π) (hl : lv_has ls 2 [(0, rfv g 50)]) (h : Hp D A s.heap H locs (cW k z g π σ)) (hm : Tx_turn_3 N rPart π σ s0 = some r) : W p l e { frames := φ + 2, cells := nn r.1 - nn π0, slots := sw r.1 - sw π0, locals := ψ + 47 } s m args below meth c H locs (nn π - nn π0) (sw π - sw π0) (MQ below (va_Qi (fun v u => gx (nn π0) g0 u ∧ v = Int32.ofInt r.2.2) (fun u t => PostW D (TYs k) A (cW k z u r.1 r.2.1) t) A) args s (nn r.1 - nn π0) (sw r.1 - sw π0) A) (F0 m 3 ls [rfv g s0]) := by
  have hS := hC.1
  have hq := km_Tx_turn_3 hmrPart   hC hv_s0 hm
  rw [Tx_turn_3] at hm
  refine lv_dup C.1 C.2.1 dX10_turn_3 (rfv_cat _ _) ?_
  refine lv_iconst (v := Int32.ofInt 5) C.1 C.2.1 dX10_turn_4 (by decide) ?_
  refine z_aload_n C dX10_turn_5 rfl (lv_at hl 0 rfl) ?_
  refine cg_11_2 C h (sh_50 hS) cU_X10 (List.mem_cons_of_mem _ wl_X10_15) dX10_turn_6 ?_
  obtain ⟨r2, e3, hm⟩ := obd_s hm
  have q4 := (km_Sp_init hC hv_s0 e3)
  obtain ⟨g5, hm⟩ := grd_s hm
  have q := km_Tx_turn_12 hmrPart  q4.2 (lt_ext hv_s0 q4.1) hm
  refine c_callIvA C hE h g5 (kc_Sp_init l D k z mi aK aV g N hC hv_s0 e3) (cwI 2 C.2.2.1 (gC_X9_init _) rfl rfl rfl (C.2.2.1 _ (List.mem_cons_of_mem _ wt_X9)) (C.2.2.1 _ (List.mem_cons_of_mem _ wm_X10_51)) (C.2.2.1 _ (List.mem_cons_of_mem _ wj_X9_init)) rfl hdS_X9_init ⟨(by show 1 + 1 ≤ φ + 2; omega), (by show 8 + (3 + 11) + 30 ≤ ψ + 47; omega)⟩) rfl hl.1 rfl (by simp [rfv_cat, cat_i, cat_l]) dX10_turn_9 ⟨rcC hX q4.1 q.1, rsC hX q4.1 q.1⟩ (fun u H locs hg h => ?_)
  simp only [← gx_rfv hg (sh_50 hS).2.1, ← gx_rfv hg hv_s0] at hl
  try simp only [← gx_rfv hg (sh_50 hS).2.1, ← gx_rfv hg hv_s0]
  refine W_cast (wcC hX q4.1).symm (wsC hX q4.1).symm ?_
  exact kl_Tx_turn_12 (N := N) C hr hlk hE hφ hψ hmrPart hcrPart  q4.2 (hG.tr hg hX.1) (hX.tr q4.1) (lt_ext hv_s0 q4.1) (lv_sub hl [0] rfl) h hm
set_option maxHeartbeats 8000000 in
set_option maxRecDepth 100000 in
theorem kc_Tx_turn (l : Launch) (D : va_G) (k : Nat → ClassId) (z mi : Nat) (aK aV : Nat → Nat) (g : Nat → Nat) (N : Nat) {φ ψ : Nat} {rPart : Sh → St → Option (Sh × St × Int)} (hφ : 20 ≤ φ) (hψ : 600 ≤ ψ) (hmrPart : ∀ {π : Sh} {σ : St}  {r : Sh × St × Int}, Cl π σ → rPart π σ  = some r → ext π r.1 ∧ Cl r.1 r.2.1) (hcrPart : ∀ {g : Nat → Nat} {π : Sh} {σ : St}  {r : Sh × St × Int}, Cl π σ → rPart π σ  = some r → Mi l yX10_part (.code yX10_part cX10_part 2 (some .int) :: cWd) { frames := φ, cells := nn r.1 - nn π, slots := sw r.1 - sw π, locals := ψ } [rfv g 50] D (TYs k) (cW k z g π σ) (XV z mi aK aV (cW k z g π σ)) (Nat → Nat) (fun v u => gx (nn π) g u ∧ v = Int32.ofInt r.2.2) (fun u => cW k z u r.1 r.2.1) (nn r.1 - nn π) (sw r.1 - sw π)) {π : Sh} {σ : St}  {r : Sh × St × Int} (hC : Cl π σ)  (hm : Tx_turn N rPart π σ  = some r) : Mi l yX10_turn (.code yX10_turn cX10_turn 2 (some .int) :: cWd) { frames := φ + 2, cells := nn r.1 - nn π, slots := sw r.1 - sw π, locals := ψ + 47 } [rfv g 50] D (TYs k) (cW k z g π σ) (XV z mi aK aV (cW k z g π σ)) (Nat → Nat) (fun v u => gx (nn π) g u ∧ v = Int32.ofInt r.2.2) (fun u => cW k z u r.1 r.2.1) (nn r.1 - nn π) (sw r.1 - sw π) := by
  have hS := hC.1
  have hq := km_Tx_turn hmrPart hC  hm
  intro sz
  refine v_met (cc := cX10_turn) (maxL := 2) (ret := (some .int)) (lv := [(0, rfv g 50)]) (by decide) rfl (by simp [lg_sl, rfv_cat, cat_i, cat_l]) (by simp [lv_args, rfv_cat, cat_i, cat_l]) ?_
  intro p e s m below meth c ls C hE hr hlk hmn hl h
  generalize ([rfv g 50] : List Value).toArray = args at C ⊢
  have hG := gx.rf (nn π) g
  have hX := ext.rf π
  refine W_cast (Nat.sub_self (nn π)) (Nat.sub_self (sw π)) ?_
  rw [Tx_turn] at hm
  have q := km_Tx_turn_3 hmrPart  ((cl_nO hC (by decide) (by decide) _)) lt_nO hm
  refine c_new C h hC (by decide) dX10_turn_0 rfl cU_X9 tyX9_ok (List.mem_cons_of_mem _ wn_X10_49) (List.mem_cons_of_mem _ wi_X9) (List.mem_cons_of_mem _ wt_X9) (df_X9) (dn_X9 z) (rc1 hX q.1) (rs1 hX q.1) (fun u H hg h => ?_)
  simp only [← gx_rfv hg (sh_50 hS).2.1] at hl
  try simp only [← gx_rfv hg (sh_50 hS).2.1]
  refine W_cast (wcO (c := 10) (w := 14) hX).symm (wsO (c := 10) (w := 14) hX).symm ?_
  exact kl_Tx_turn_3 (N := N) C hr hlk hE hφ hψ hmrPart hcrPart  ((cl_nO hC (by decide) (by decide) _)) (hG.tr hg hX.1) (hX.tr (ext_nO π 10 14)) lt_nO (lv_sub hl [0] rfl) h hm
end Z_Tx_turn
section Z_Tx_word
variable {p : Program} {l : Launch} {e : Env} {s : State} {m : MethodId} {args : Array Value} {below : List Frame} {meth : Method} {c : Code} {D : va_G} {A : Nat → Prop} {k : Nat → ClassId} {N : Nat} {cd : Cond} {z mi : Nat} {aK aV : Nat → Nat} {g0 : Nat → Nat} {π0 : Sh}
set_option maxHeartbeats 8000000 in
set_option maxRecDepth 100000 in
theorem kl_Tx_word_94 {r : Sh × St × Int} (C : Cx p s m args c cX10_word RX10 (cd :: cWd) D (TYs k) 3) (hr : meth.sig.returnType = (some .int)) (hlk : meth.locks = false) (hE : Ev z mi aK aV A s s.heap)    {ls : Array Slot} {H : Heap} {locs : List Loc} {g : Nat → Nat} {π : Sh} {σ : St} {s0 : Int} (hC : Cl π σ) (hG : gx (nn π0) g0 g) (hX : ext π0 π)  (hl : lv_has ls 3 []) (h : Hp D A s.heap H locs (cW k z g π σ)) (hm : Tx_word_94 N π σ s0 = some r) : W p l e { frames := 8, cells := nn r.1 - nn π0, slots := sw r.1 - sw π0, locals := 262 } s m args below meth c H locs (nn π - nn π0) (sw π - sw π0) (MQ below (va_Qi (fun v u => gx (nn π0) g0 u ∧ v = Int32.ofInt r.2.2) (fun u t => PostW D (TYs k) A (cW k z u r.1 r.2.1) t) A) args s (nn r.1 - nn π0) (sw r.1 - sw π0) A) (F0 m 94 ls [.int (Int32.ofInt s0)]) := by
  have hS := hC.1
  have hq := km_Tx_word_94    hC  hm
  rw [Tx_word_94] at hm
  cases hm
  exact c_iretA C hG h hr hlk dX10_word_94 rfl
set_option maxHeartbeats 8000000 in
set_option maxRecDepth 100000 in
theorem kl_Tx_word_86 {r : Sh × St × Int} (C : Cx p s m args c cX10_word RX10 (cd :: cWd) D (TYs k) 3) (hr : meth.sig.returnType = (some .int)) (hlk : meth.locks = false) (hE : Ev z mi aK aV A s s.heap)    {ls : Array Slot} {H : Heap} {locs : List Loc} {g : Nat → Nat} {π : Sh} {σ : St} {x1 : Int} (hC : Cl π σ) (hG : gx (nn π0) g0 g) (hX : ext π0 π) (hv_x1 : x1 < nn π) (hl : lv_has ls 3 [(0, rfv g 50), (1, rfv g x1)]) (h : Hp D A s.heap H locs (cW k z g π σ)) (hm : Tx_word_86 N π σ x1 = some r) : W p l e { frames := 8, cells := nn r.1 - nn π0, slots := sw r.1 - sw π0, locals := 262 } s m args below meth c H locs (nn π - nn π0) (sw π - sw π0) (MQ below (va_Qi (fun v u => gx (nn π0) g0 u ∧ v = Int32.ofInt r.2.2) (fun u t => PostW D (TYs k) A (cW k z u r.1 r.2.1) t) A) args s (nn r.1 - nn π0) (sw r.1 - sw π0) A) (F0 m 86 ls []) := by
  have hS := hC.1
  have hq := km_Tx_word_86    hC hv_x1 hm
  rw [Tx_word_86] at hm
  refine z_aload_n C dX10_word_86 rfl (lv_at hl 0 rfl) ?_
  refine cg_11_1 C h (sh_50 hS) cU_X10 (List.mem_cons_of_mem _ wl_X10_9) dX10_word_87 ?_
  refine z_aload_n C dX10_word_90 rfl (lv_at hl 1 rfl) ?_
  obtain ⟨r27, e28, hm⟩ := obd_s hm
  have q29 := (km_Df_add hC (cl_fl hC (f := 221) rfl 50) hv_x1 e28)
  obtain ⟨g30, hm⟩ := grd_s hm
  have q := km_Tx_word_94   q29.2  hm
  refine c_callViA C hE h g30 rfl (by decide) (kc_Df_add l D k z mi aK aV g N hC (cl_fl hC (f := 221) rfl 50) hv_x1 e28) (cwV 1 C.2.2.1 (gS_X10_60 _) rfl rfl rfl hd_X0_add ⟨Nat.le_of_ble_eq_true rfl, Nat.le_of_ble_eq_true rfl⟩) rfl hl.1 rfl (Nat.le_of_ble_eq_true rfl) dX10_word_91 ⟨rcC hX q29.1 q.1, rsC hX q29.1 q.1⟩ (fun u H locs hg h => ?_)
  simp only [← gx_rfv hg (sh_50 hS).2.1, ← gx_rfv hg hv_x1] at hl
  try simp only [← gx_rfv hg (sh_50 hS).2.1, ← gx_rfv hg hv_x1]
  refine W_cast (wcC hX q29.1).symm (wsC hX q29.1).symm ?_
  exact kl_Tx_word_94 (N := N) C hr hlk hE   q29.2 (hG.tr hg hX.1) (hX.tr q29.1)  (lv_sub hl [] rfl) h hm
set_option maxHeartbeats 8000000 in
set_option maxRecDepth 100000 in
theorem kl_Tx_word_15 {r : Sh × St × Int} (C : Cx p s m args c cX10_word RX10 (cd :: cWd) D (TYs k) 3) (hr : meth.sig.returnType = (some .int)) (hlk : meth.locks = false) (hE : Ev z mi aK aV A s s.heap)    (n : Nat) : ∀ {ls : Array Slot} {H : Heap} {locs : List Loc} {g : Nat → Nat} {π : Sh} {σ : St} {x1 : Int} {x2 : Int}, Cl π σ → gx (nn π0) g0 g → ext π0 π → x1 < nn π → lv_has ls 3 [(0, rfv g 50), (1, rfv g x1), (2, .int (Int32.ofInt x2))] → Hp D A s.heap H locs (cW k z g π σ) → Tx_word_15 N n π σ x1 x2 = some r → W p l e { frames := 8, cells := nn r.1 - nn π0, slots := sw r.1 - sw π0, locals := 262 } s m args below meth c H locs (nn π - nn π0) (sw π - sw π0) (MQ below (va_Qi (fun v u => gx (nn π0) g0 u ∧ v = Int32.ofInt r.2.2) (fun u t => PostW D (TYs k) A (cW k z u r.1 r.2.1) t) A) args s (nn r.1 - nn π0) (sw r.1 - sw π0) A) (F0 m 15 ls []) := by
  induction n with
  | zero => intro ls H locs g π σ x1 x2 hC hG hX hv_x1 hl h hm; cases (show none = some r from hm)
  | succ n hrec15 =>
    intro ls H locs g π σ x1 x2 hC hG hX hv_x1 hl h hm
    have hS := hC.1
    have hq := km_Tx_word_15   (n + 1) hC hv_x1 hm
    have krec15 : ∀ {π : Sh} {σ : St} {x1 : Int} {x2 : Int}, Cl π σ → x1 < nn π → Tx_word_15 N n π σ x1 x2 = some r → ext π r.1 ∧ Cl r.1 r.2.1 := fun {_ _} {_} {_} => km_Tx_word_15   n
    rw [Tx_word_15] at hm
    refine lv_iload_n C.1 C.2.1 dX10_word_15 rfl (lv_at hl 2 rfl) ?_
    refine lv_bipush (v := Int32.ofInt 8) C.1 C.2.1 dX10_word_16 (by decide) ?_
    obtain ⟨g6, hm⟩ := grd_s hm
    refine z_icmp_gt (tgt := 86) C dX10_word_18 (by decide) g6 (by decide) (fun c7 => ?_) (fun c7 => ?_)
    · have hm := ite_t c7 hm
      exact kl_Tx_word_86 (N := N) C hr hlk hE hC hG hX hv_x1 (lv_sub hl [0, 1] rfl) h hm
    · have hm := ite_f c7 hm
      refine z_aload_n C dX10_word_21 rfl (lv_at hl 0 rfl) ?_
      obtain ⟨r8, e9, hm⟩ := obd_s hm
      have q10 := (km_Tx_here hC e9)
      refine c_callViP C hE h (sh_50 hS) rfl (by decide) (kc_Tx_here l D k z mi aK aV g N hS e9) (cwV 0 C.2.2.1 (gS_X10_45 _) rfl rfl rfl hd_X10_here ⟨Nat.le_of_ble_eq_true rfl, Nat.le_of_ble_eq_true rfl⟩) rfl hl.1 rfl (Nat.le_of_ble_eq_true rfl) dX10_word_22 ⟨(czz hX hq.1), (szz hX hq.1)⟩ (fun H locs h => ?_)
      have hC11 : Cl π r8.1 := q10
      obtain ⟨r12, e13, hm⟩ := obd_s hm
      refine v_callSi C h (kc_Sc_isLetter l D k N r8.2 r12 e13) (v_cwS 1 C.2.2.1 (gC_X8_isLetter _) rfl rfl rfl (C.2.2.1 _ (List.mem_cons_of_mem _ wt_X8)) (C.2.2.1 _ (List.mem_cons_of_mem _ wm_X10_91)) (C.2.2.1 _ (List.mem_cons_of_mem _ ws_X8_isLetter)) hdS_X8_isLetter ⟨Nat.le_of_ble_eq_true rfl, Nat.le_of_ble_eq_true rfl⟩) rfl hl.1 rfl (Nat.le_of_ble_eq_true rfl) dX10_word_25 ⟨(czz hX hq.1), (szz hX hq.1)⟩ (fun H locs h => ?_)
      obtain ⟨g14, hm⟩ := grd_s hm
      refine z_if_eq (tgt := 86) C dX10_word_28 (by decide) g14 (fun c15 => ?_) (fun c15 => ?_)
      · have hm := ite_t c15 hm
        exact kl_Tx_word_86 (N := N) C hr hlk hE hC11 hG hX hv_x1 (lv_sub hl [0, 1] rfl) h hm
      · have hm := ite_f c15 hm
        refine lv_iload_n C.1 C.2.1 dX10_word_31 rfl (lv_at hl 2 rfl) ?_
        refine lv_bipush (v := Int32.ofInt 8) C.1 C.2.1 dX10_word_32 (by decide) ?_
        refine z_icmp_ne (tgt := 51) C dX10_word_34 (by decide) g6 (by decide) (fun c16 => ?_) (fun c16 => ?_)
        · have hm := ite_f c16 hm
          refine z_aload_n C dX10_word_51 rfl (lv_at hl 1 rfl) ?_
          refine lv_dup C.1 C.2.1 dX10_word_52 (rfv_cat _ _) ?_
          obtain ⟨g17, hm⟩ := grd_s hm
          refine cg_10_7 C h g17 cU_X9 (List.mem_cons_of_mem _ wl_X10_115) dX10_word_53 ?_
          refine z_aload_n C dX10_word_56 rfl (lv_at hl 0 rfl) ?_
          obtain ⟨r18, e19, hm⟩ := obd_s hm
          have q20 := (km_Tx_here hC11 e19)
          refine c_callViP C hE h (sh_50 hS) rfl (by decide) (kc_Tx_here l D k z mi aK aV g N hS e19) (cwV 0 C.2.2.1 (gS_X10_45 _) rfl rfl rfl hd_X10_here ⟨Nat.le_of_ble_eq_true rfl, Nat.le_of_ble_eq_true rfl⟩) rfl hl.1 rfl (by simp [rfv_cat, cat_i, cat_l]) dX10_word_57 ⟨(czz hX hq.1), (szz hX hq.1)⟩ (fun H locs h => ?_)
          have hC21 : Cl π r18.1 := q20
          obtain ⟨g22, hm⟩ := grd_s hm
          refine z_i2l C dX10_word_60 g22 ?_
          refine lv_bipush (v := Int32.ofInt 8) C.1 C.2.1 dX10_word_61 (by decide) ?_
          refine lv_iload_n C.1 C.2.1 dX10_word_63 rfl (lv_at hl 2 rfl) ?_
          refine z_imul C dX10_word_64 ?_
          refine z_lshl C dX10_word_65 ?_
          refine z_lor C dX10_word_66 ?_
          refine cp_10_7 C h g17 cU_X9 (List.mem_cons_of_mem _ wl_X10_115) dX10_word_67 (fun H locs h => ?_)
          refine z_aload_n C dX10_word_70 rfl (lv_at hl 0 rfl) ?_
          refine lv_dup C.1 C.2.1 dX10_word_71 (rfv_cat _ _) ?_
          refine cg_11_2 C h (sh_50 hS) cU_X10 (List.mem_cons_of_mem _ wl_X10_15) dX10_word_72 ?_
          refine x_topi (y := Int32.ofInt (fl r18.1 222 50)) rfl ?_
          refine lv_iconst (v := Int32.ofInt 1) C.1 C.2.1 dX10_word_75 (by decide) ?_
          refine z_iadd C dX10_word_76 ?_
          refine cp_11_2 C h (sh_50 hS) cU_X10 (List.mem_cons_of_mem _ wl_X10_15) dX10_word_77 (fun H locs h => ?_)
          refine lv_iinc (v := Int32.ofInt (x2 + 1)) (lv' := [(2, .int (Int32.ofInt (x2 + 1))), (0, rfv g 50), (1, rfv g x1)]) C.1 C.2.1 dX10_word_80 hl (k := 2) rfl (c32_add _ _) (by decide) (by simp [rfv_cat, cat_i, cat_l]) (fun ls hl => ?_)
          refine lv_goto (tgt := 15) C.1 C.2.1 dX10_word_83 (by decide) ?_
          exact hrec15 (cl_sfI (cl_sfI hC21 (f := 207) rfl _ _) (f := 222) rfl _ _) hG hX hv_x1 (lv_sub hl [1, 2, 0] rfl) h hm
        · have hm := ite_t c16 hm
          refine z_aload_n C dX10_word_37 rfl (lv_at hl 0 rfl) ?_
          refine cg_11_0 C h (sh_50 hS) cU_X10 (List.mem_cons_of_mem _ wl_X10_28) dX10_word_38 ?_
          refine lv_iconst (v := Int32.ofInt 1) C.1 C.2.1 dX10_word_41 (by decide) ?_
          refine z_aload_n C dX10_word_42 rfl (lv_at hl 0 rfl) ?_
          refine cg_11_2 C h (sh_50 hS) cU_X10 (List.mem_cons_of_mem _ wl_X10_15) dX10_word_43 ?_
          obtain ⟨r23, e24, hm⟩ := obd_s hm
          have q25 := (km_Sc_fail hC11 e24)
          refine c_callVvP C hE h (sh_1 hS) rfl (by decide) (kc_Sc_fail l D k z mi aK aV g N hS e24) (cwV 2 C.2.2.1 (gS_X10_32 _) rfl rfl rfl hd_X8_fail ⟨Nat.le_of_ble_eq_true rfl, Nat.le_of_ble_eq_true rfl⟩) rfl hl.1 rfl (Nat.le_of_ble_eq_true rfl) dX10_word_46 ⟨(czz hX hq.1), (szz hX hq.1)⟩ (fun H locs h => ?_)
          have hC26 : Cl π r23 := q25
          refine lv_iconst (v := Int32.ofInt 0) C.1 C.2.1 dX10_word_49 (by decide) ?_
          cases hm
          exact c_iretA C hG h hr hlk dX10_word_50 rfl
set_option maxHeartbeats 8000000 in
set_option maxRecDepth 100000 in
theorem kl_Tx_word_12 {r : Sh × St × Int} (C : Cx p s m args c cX10_word RX10 (cd :: cWd) D (TYs k) 3) (hr : meth.sig.returnType = (some .int)) (hlk : meth.locks = false) (hE : Ev z mi aK aV A s s.heap)    {ls : Array Slot} {H : Heap} {locs : List Loc} {g : Nat → Nat} {π : Sh} {σ : St} {s0 : Int} (hC : Cl π σ) (hG : gx (nn π0) g0 g) (hX : ext π0 π) (hv_s0 : s0 < nn π) (hl : lv_has ls 3 [(0, rfv g 50)]) (h : Hp D A s.heap H locs (cW k z g π σ)) (hm : Tx_word_12 N π σ s0 = some r) : W p l e { frames := 8, cells := nn r.1 - nn π0, slots := sw r.1 - sw π0, locals := 262 } s m args below meth c H locs (nn π - nn π0) (sw π - sw π0) (MQ below (va_Qi (fun v u => gx (nn π0) g0 u ∧ v = Int32.ofInt r.2.2) (fun u t => PostW D (TYs k) A (cW k z u r.1 r.2.1) t) A) args s (nn r.1 - nn π0) (sw r.1 - sw π0) A) (F0 m 12 ls [rfv g s0]) := by
  have hS := hC.1
  have hq := km_Tx_word_12    hC hv_s0 hm
  rw [Tx_word_12] at hm
  refine z_astore_n (j := 1) (lv' := [(1, rfv g s0), (0, rfv g 50)]) C dX10_word_12 rfl hl (by decide) (by simp [rfv_cat, cat_i, cat_l]) (fun ls hl => ?_)
  refine lv_iconst (v := Int32.ofInt 0) C.1 C.2.1 dX10_word_13 (by decide) ?_
  refine lv_istore_n (i := 2) (lv' := [(2, .int (Int32.ofInt 0)), (1, rfv g s0), (0, rfv g 50)]) C.1 C.2.1 dX10_word_14 rfl hl (by decide) (by simp [rfv_cat, cat_i, cat_l]) (fun ls hl => ?_)
  exact kl_Tx_word_15 (N := N) C hr hlk hE N hC hG hX hv_s0 (lv_sub hl [2, 1, 0] rfl) h hm
set_option maxHeartbeats 8000000 in
set_option maxRecDepth 100000 in
theorem kl_Tx_word_3 {r : Sh × St × Int} (C : Cx p s m args c cX10_word RX10 (cd :: cWd) D (TYs k) 3) (hr : meth.sig.returnType = (some .int)) (hlk : meth.locks = false) (hE : Ev z mi aK aV A s s.heap)    {ls : Array Slot} {H : Heap} {locs : List Loc} {g : Nat → Nat} {π : Sh} {σ : St} {s0 : Int} (hC : Cl π σ) (hG : gx (nn π0) g0 g) (hX : ext π0 π) (hv_s0 : s0 < nn π) (hl : lv_has ls 3 [(0, rfv g 50)]) (h : Hp D A s.heap H locs (cW k z g π σ)) (hm : Tx_word_3 N π σ s0 = some r) : W p l e { frames := 8, cells := nn r.1 - nn π0, slots := sw r.1 - sw π0, locals := 262 } s m args below meth c H locs (nn π - nn π0) (sw π - sw π0) (MQ below (va_Qi (fun v u => gx (nn π0) g0 u ∧ v = Int32.ofInt r.2.2) (fun u t => PostW D (TYs k) A (cW k z u r.1 r.2.1) t) A) args s (nn r.1 - nn π0) (sw r.1 - sw π0) A) (F0 m 3 ls [rfv g s0]) := by
  have hS := hC.1
  have hq := km_Tx_word_3    hC hv_s0 hm
  rw [Tx_word_3] at hm
  refine lv_dup C.1 C.2.1 dX10_word_3 (rfv_cat _ _) ?_
  refine lv_iconst (v := Int32.ofInt 1) C.1 C.2.1 dX10_word_4 (by decide) ?_
  refine z_aload_n C dX10_word_5 rfl (lv_at hl 0 rfl) ?_
  refine cg_11_2 C h (sh_50 hS) cU_X10 (List.mem_cons_of_mem _ wl_X10_15) dX10_word_6 ?_
  obtain ⟨r2, e3, hm⟩ := obd_s hm
  have q4 := (km_Sp_init hC hv_s0 e3)
  obtain ⟨g5, hm⟩ := grd_s hm
  have q := km_Tx_word_12   q4.2 (lt_ext hv_s0 q4.1) hm
  refine c_callIvA C hE h g5 (kc_Sp_init l D k z mi aK aV g N hC hv_s0 e3) (cwI 2 C.2.2.1 (gC_X9_init _) rfl rfl rfl (C.2.2.1 _ (List.mem_cons_of_mem _ wt_X9)) (C.2.2.1 _ (List.mem_cons_of_mem _ wm_X10_51)) (C.2.2.1 _ (List.mem_cons_of_mem _ wj_X9_init)) rfl hdS_X9_init ⟨Nat.le_of_ble_eq_true rfl, Nat.le_of_ble_eq_true rfl⟩) rfl hl.1 rfl (by simp [rfv_cat, cat_i, cat_l]) dX10_word_9 ⟨rcC hX q4.1 q.1, rsC hX q4.1 q.1⟩ (fun u H locs hg h => ?_)
  simp only [← gx_rfv hg (sh_50 hS).2.1, ← gx_rfv hg hv_s0] at hl
  try simp only [← gx_rfv hg (sh_50 hS).2.1, ← gx_rfv hg hv_s0]
  refine W_cast (wcC hX q4.1).symm (wsC hX q4.1).symm ?_
  exact kl_Tx_word_12 (N := N) C hr hlk hE   q4.2 (hG.tr hg hX.1) (hX.tr q4.1) (lt_ext hv_s0 q4.1) (lv_sub hl [0] rfl) h hm
set_option maxHeartbeats 8000000 in
set_option maxRecDepth 100000 in
theorem kc_Tx_word (l : Launch) (D : va_G) (k : Nat → ClassId) (z mi : Nat) (aK aV : Nat → Nat) (g : Nat → Nat) (N : Nat)    {π : Sh} {σ : St}  {r : Sh × St × Int} (hC : Cl π σ)  (hm : Tx_word N π σ  = some r) : Mi l yX10_word (.code yX10_word cX10_word 3 (some .int) :: cWd) { frames := 8, cells := nn r.1 - nn π, slots := sw r.1 - sw π, locals := 262 } [rfv g 50] D (TYs k) (cW k z g π σ) (XV z mi aK aV (cW k z g π σ)) (Nat → Nat) (fun v u => gx (nn π) g u ∧ v = Int32.ofInt r.2.2) (fun u => cW k z u r.1 r.2.1) (nn r.1 - nn π) (sw r.1 - sw π) := by
  have hS := hC.1
  have hq := km_Tx_word  hC  hm
  intro sz
  refine v_met (cc := cX10_word) (maxL := 3) (ret := (some .int)) (lv := [(0, rfv g 50)]) (by decide) rfl (by simp [lg_sl, rfv_cat, cat_i, cat_l]) (by simp [lv_args, rfv_cat, cat_i, cat_l]) ?_
  intro p e s m below meth c ls C hE hr hlk hmn hl h
  generalize ([rfv g 50] : List Value).toArray = args at C ⊢
  have hG := gx.rf (nn π) g
  have hX := ext.rf π
  refine W_cast (Nat.sub_self (nn π)) (Nat.sub_self (sw π)) ?_
  rw [Tx_word] at hm
  have q := km_Tx_word_3   ((cl_nO hC (by decide) (by decide) _)) lt_nO hm
  refine c_new C h hC (by decide) dX10_word_0 rfl cU_X9 tyX9_ok (List.mem_cons_of_mem _ wn_X10_49) (List.mem_cons_of_mem _ wi_X9) (List.mem_cons_of_mem _ wt_X9) (df_X9) (dn_X9 z) (rc1 hX q.1) (rs1 hX q.1) (fun u H hg h => ?_)
  simp only [← gx_rfv hg (sh_50 hS).2.1] at hl
  try simp only [← gx_rfv hg (sh_50 hS).2.1]
  refine W_cast (wcO (c := 10) (w := 14) hX).symm (wsO (c := 10) (w := 14) hX).symm ?_
  exact kl_Tx_word_3 (N := N) C hr hlk hE   ((cl_nO hC (by decide) (by decide) _)) (hG.tr hg hX.1) (hX.tr (ext_nO π 10 14)) lt_nO (lv_sub hl [0] rfl) h hm
end Z_Tx_word
section Z_Tx_part
variable {p : Program} {l : Launch} {e : Env} {s : State} {m : MethodId} {args : Array Value} {below : List Frame} {meth : Method} {c : Code} {D : va_G} {A : Nat → Prop} {k : Nat → ClassId} {N : Nat} {cd : Cond} {z mi : Nat} {aK aV : Nat → Nat} {g0 : Nat → Nat} {π0 : Sh} {φ ψ : Nat}
set_option maxHeartbeats 8000000 in
set_option maxRecDepth 100000 in
theorem kl_Tx_part_16 {r : Sh × St × Int} (C : Cx p s m args c cX10_part RX10 (cd :: cWd) D (TYs k) 2) (hr : meth.sig.returnType = (some .int)) (hlk : meth.locks = false) (hE : Ev z mi aK aV A s s.heap) {rPart : Sh → St → Option (Sh × St × Int)} (hφ : 20 ≤ φ) (hψ : 600 ≤ ψ) (hmrPart : ∀ {π : Sh} {σ : St}  {r : Sh × St × Int}, Cl π σ → rPart π σ  = some r → ext π r.1 ∧ Cl r.1 r.2.1) (hcrPart : ∀ {g : Nat → Nat} {π : Sh} {σ : St}  {r : Sh × St × Int}, Cl π σ → rPart π σ  = some r → Mi l yX10_part (.code yX10_part cX10_part 2 (some .int) :: cWd) { frames := φ, cells := nn r.1 - nn π, slots := sw r.1 - sw π, locals := ψ } [rfv g 50] D (TYs k) (cW k z g π σ) (XV z mi aK aV (cW k z g π σ)) (Nat → Nat) (fun v u => gx (nn π) g u ∧ v = Int32.ofInt r.2.2) (fun u => cW k z u r.1 r.2.1) (nn r.1 - nn π) (sw r.1 - sw π))  {ls : Array Slot} {H : Heap} {locs : List Loc} {g : Nat → Nat} {π : Sh} {σ : St} {s0 : Int} (hC : Cl π σ) (hG : gx (nn π0) g0 g) (hX : ext π0 π)  (hl : lv_has ls 2 []) (h : Hp D A s.heap H locs (cW k z g π σ)) (hm : Tx_part_16 N rPart π σ s0 = some r) : W p l e { frames := φ + 8, cells := nn r.1 - nn π0, slots := sw r.1 - sw π0, locals := ψ + 400 } s m args below meth c H locs (nn π - nn π0) (sw π - sw π0) (MQ below (va_Qi (fun v u => gx (nn π0) g0 u ∧ v = Int32.ofInt r.2.2) (fun u t => PostW D (TYs k) A (cW k z u r.1 r.2.1) t) A) args s (nn r.1 - nn π0) (sw r.1 - sw π0) A) (F0 m 16 ls [.int (Int32.ofInt s0)]) := by
  have hS := hC.1
  have hq := km_Tx_part_16 hmrPart   hC  hm
  rw [Tx_part_16] at hm
  cases hm
  exact c_iretA C hG h hr hlk dX10_part_16 rfl
set_option maxHeartbeats 8000000 in
set_option maxRecDepth 100000 in
theorem kl_Tx_part_34 {r : Sh × St × Int} (C : Cx p s m args c cX10_part RX10 (cd :: cWd) D (TYs k) 2) (hr : meth.sig.returnType = (some .int)) (hlk : meth.locks = false) (hE : Ev z mi aK aV A s s.heap) {rPart : Sh → St → Option (Sh × St × Int)} (hφ : 20 ≤ φ) (hψ : 600 ≤ ψ) (hmrPart : ∀ {π : Sh} {σ : St}  {r : Sh × St × Int}, Cl π σ → rPart π σ  = some r → ext π r.1 ∧ Cl r.1 r.2.1) (hcrPart : ∀ {g : Nat → Nat} {π : Sh} {σ : St}  {r : Sh × St × Int}, Cl π σ → rPart π σ  = some r → Mi l yX10_part (.code yX10_part cX10_part 2 (some .int) :: cWd) { frames := φ, cells := nn r.1 - nn π, slots := sw r.1 - sw π, locals := ψ } [rfv g 50] D (TYs k) (cW k z g π σ) (XV z mi aK aV (cW k z g π σ)) (Nat → Nat) (fun v u => gx (nn π) g u ∧ v = Int32.ofInt r.2.2) (fun u => cW k z u r.1 r.2.1) (nn r.1 - nn π) (sw r.1 - sw π))  {ls : Array Slot} {H : Heap} {locs : List Loc} {g : Nat → Nat} {π : Sh} {σ : St} {s0 : Int} (hC : Cl π σ) (hG : gx (nn π0) g0 g) (hX : ext π0 π)  (hl : lv_has ls 2 []) (h : Hp D A s.heap H locs (cW k z g π σ)) (hm : Tx_part_34 N rPart π σ s0 = some r) : W p l e { frames := φ + 8, cells := nn r.1 - nn π0, slots := sw r.1 - sw π0, locals := ψ + 400 } s m args below meth c H locs (nn π - nn π0) (sw π - sw π0) (MQ below (va_Qi (fun v u => gx (nn π0) g0 u ∧ v = Int32.ofInt r.2.2) (fun u t => PostW D (TYs k) A (cW k z u r.1 r.2.1) t) A) args s (nn r.1 - nn π0) (sw r.1 - sw π0) A) (F0 m 34 ls [.int (Int32.ofInt s0)]) := by
  have hS := hC.1
  have hq := km_Tx_part_34 hmrPart   hC  hm
  rw [Tx_part_34] at hm
  cases hm
  exact c_iretA C hG h hr hlk dX10_part_34 rfl
set_option maxHeartbeats 8000000 in
set_option maxRecDepth 100000 in
theorem kl_Tx_part_30 {r : Sh × St × Int} (C : Cx p s m args c cX10_part RX10 (cd :: cWd) D (TYs k) 2) (hr : meth.sig.returnType = (some .int)) (hlk : meth.locks = false) (hE : Ev z mi aK aV A s s.heap) {rPart : Sh → St → Option (Sh × St × Int)} (hφ : 20 ≤ φ) (hψ : 600 ≤ ψ) (hmrPart : ∀ {π : Sh} {σ : St}  {r : Sh × St × Int}, Cl π σ → rPart π σ  = some r → ext π r.1 ∧ Cl r.1 r.2.1) (hcrPart : ∀ {g : Nat → Nat} {π : Sh} {σ : St}  {r : Sh × St × Int}, Cl π σ → rPart π σ  = some r → Mi l yX10_part (.code yX10_part cX10_part 2 (some .int) :: cWd) { frames := φ, cells := nn r.1 - nn π, slots := sw r.1 - sw π, locals := ψ } [rfv g 50] D (TYs k) (cW k z g π σ) (XV z mi aK aV (cW k z g π σ)) (Nat → Nat) (fun v u => gx (nn π) g u ∧ v = Int32.ofInt r.2.2) (fun u => cW k z u r.1 r.2.1) (nn r.1 - nn π) (sw r.1 - sw π))  {ls : Array Slot} {H : Heap} {locs : List Loc} {g : Nat → Nat} {π : Sh} {σ : St}  (hC : Cl π σ) (hG : gx (nn π0) g0 g) (hX : ext π0 π)  (hl : lv_has ls 2 [(0, rfv g 50)]) (h : Hp D A s.heap H locs (cW k z g π σ)) (hm : Tx_part_30 N rPart π σ  = some r) : W p l e { frames := φ + 8, cells := nn r.1 - nn π0, slots := sw r.1 - sw π0, locals := ψ + 400 } s m args below meth c H locs (nn π - nn π0) (sw π - sw π0) (MQ below (va_Qi (fun v u => gx (nn π0) g0 u ∧ v = Int32.ofInt r.2.2) (fun u t => PostW D (TYs k) A (cW k z u r.1 r.2.1) t) A) args s (nn r.1 - nn π0) (sw r.1 - sw π0) A) (F0 m 30 ls []) := by
  have hS := hC.1
  have hq := km_Tx_part_30 hmrPart   hC  hm
  rw [Tx_part_30] at hm
  refine z_aload_n C dX10_part_30 rfl (lv_at hl 0 rfl) ?_
  obtain ⟨r30, e31, hm⟩ := obd_s hm
  have q32 := (km_Tx_signedNumber hC e31)
  have q := km_Tx_part_34 hmrPart  q32.2  hm
  refine c_callViA C hE h (sh_50 hS) rfl (by decide) (kc_Tx_signedNumber l D k z mi aK aV g N hC e31) (cwV 0 C.2.2.1 (gS_X10_100 _) rfl rfl rfl hd_X10_signedNumber ⟨(by show 8 + 1 ≤ φ + 8; omega), (by show 8 + (4 + 11) + 262 ≤ ψ + 400; omega)⟩) rfl hl.1 rfl (Nat.le_of_ble_eq_true rfl) dX10_part_31 ⟨rcC hX q32.1 q.1, rsC hX q32.1 q.1⟩ (fun u H locs hg h => ?_)
  simp only [← gx_rfv hg (sh_50 hS).2.1] at hl
  try simp only [← gx_rfv hg (sh_50 hS).2.1]
  refine W_cast (wcC hX q32.1).symm (wsC hX q32.1).symm ?_
  exact kl_Tx_part_34 (N := N) C hr hlk hE hφ hψ hmrPart hcrPart  q32.2 (hG.tr hg hX.1) (hX.tr q32.1)  (lv_sub hl [] rfl) h hm
set_option maxHeartbeats 8000000 in
set_option maxRecDepth 100000 in
theorem kl_Tx_part_72 {r : Sh × St × Int} (C : Cx p s m args c cX10_part RX10 (cd :: cWd) D (TYs k) 2) (hr : meth.sig.returnType = (some .int)) (hlk : meth.locks = false) (hE : Ev z mi aK aV A s s.heap) {rPart : Sh → St → Option (Sh × St × Int)} (hφ : 20 ≤ φ) (hψ : 600 ≤ ψ) (hmrPart : ∀ {π : Sh} {σ : St}  {r : Sh × St × Int}, Cl π σ → rPart π σ  = some r → ext π r.1 ∧ Cl r.1 r.2.1) (hcrPart : ∀ {g : Nat → Nat} {π : Sh} {σ : St}  {r : Sh × St × Int}, Cl π σ → rPart π σ  = some r → Mi l yX10_part (.code yX10_part cX10_part 2 (some .int) :: cWd) { frames := φ, cells := nn r.1 - nn π, slots := sw r.1 - sw π, locals := ψ } [rfv g 50] D (TYs k) (cW k z g π σ) (XV z mi aK aV (cW k z g π σ)) (Nat → Nat) (fun v u => gx (nn π) g u ∧ v = Int32.ofInt r.2.2) (fun u => cW k z u r.1 r.2.1) (nn r.1 - nn π) (sw r.1 - sw π))  {ls : Array Slot} {H : Heap} {locs : List Loc} {g : Nat → Nat} {π : Sh} {σ : St} {s0 : Int} (hC : Cl π σ) (hG : gx (nn π0) g0 g) (hX : ext π0 π)  (hl : lv_has ls 2 []) (h : Hp D A s.heap H locs (cW k z g π σ)) (hm : Tx_part_72 N rPart π σ s0 = some r) : W p l e { frames := φ + 8, cells := nn r.1 - nn π0, slots := sw r.1 - sw π0, locals := ψ + 400 } s m args below meth c H locs (nn π - nn π0) (sw π - sw π0) (MQ below (va_Qi (fun v u => gx (nn π0) g0 u ∧ v = Int32.ofInt r.2.2) (fun u t => PostW D (TYs k) A (cW k z u r.1 r.2.1) t) A) args s (nn r.1 - nn π0) (sw r.1 - sw π0) A) (F0 m 72 ls [.int (Int32.ofInt s0)]) := by
  have hS := hC.1
  have hq := km_Tx_part_72 hmrPart   hC  hm
  rw [Tx_part_72] at hm
  cases hm
  exact c_iretA C hG h hr hlk dX10_part_72 rfl
set_option maxHeartbeats 8000000 in
set_option maxRecDepth 100000 in
theorem kl_Tx_part_69 {r : Sh × St × Int} (C : Cx p s m args c cX10_part RX10 (cd :: cWd) D (TYs k) 2) (hr : meth.sig.returnType = (some .int)) (hlk : meth.locks = false) (hE : Ev z mi aK aV A s s.heap) {rPart : Sh → St → Option (Sh × St × Int)} (hφ : 20 ≤ φ) (hψ : 600 ≤ ψ) (hmrPart : ∀ {π : Sh} {σ : St}  {r : Sh × St × Int}, Cl π σ → rPart π σ  = some r → ext π r.1 ∧ Cl r.1 r.2.1) (hcrPart : ∀ {g : Nat → Nat} {π : Sh} {σ : St}  {r : Sh × St × Int}, Cl π σ → rPart π σ  = some r → Mi l yX10_part (.code yX10_part cX10_part 2 (some .int) :: cWd) { frames := φ, cells := nn r.1 - nn π, slots := sw r.1 - sw π, locals := ψ } [rfv g 50] D (TYs k) (cW k z g π σ) (XV z mi aK aV (cW k z g π σ)) (Nat → Nat) (fun v u => gx (nn π) g u ∧ v = Int32.ofInt r.2.2) (fun u => cW k z u r.1 r.2.1) (nn r.1 - nn π) (sw r.1 - sw π))  {ls : Array Slot} {H : Heap} {locs : List Loc} {g : Nat → Nat} {π : Sh} {σ : St} {s0 : Int} {s1 : Int} (hC : Cl π σ) (hG : gx (nn π0) g0 g) (hX : ext π0 π) (hv_s0 : s0 < nn π) (hv_s1 : s1 < nn π) (hl : lv_has ls 2 []) (h : Hp D A s.heap H locs (cW k z g π σ)) (hm : Tx_part_69 N rPart π σ s0 s1 = some r) : W p l e { frames := φ + 8, cells := nn r.1 - nn π0, slots := sw r.1 - sw π0, locals := ψ + 400 } s m args below meth c H locs (nn π - nn π0) (sw π - sw π0) (MQ below (va_Qi (fun v u => gx (nn π0) g0 u ∧ v = Int32.ofInt r.2.2) (fun u t => PostW D (TYs k) A (cW k z u r.1 r.2.1) t) A) args s (nn r.1 - nn π0) (sw r.1 - sw π0) A) (F0 m 69 ls [rfv g s0, rfv g s1]) := by
  have hS := hC.1
  have hq := km_Tx_part_69 hmrPart   hC hv_s0 hv_s1 hm
  rw [Tx_part_69] at hm
  obtain ⟨r55, e56, hm⟩ := obd_s hm
  have q57 := (km_Df_add hC hv_s1 hv_s0 e56)
  obtain ⟨g58, hm⟩ := grd_s hm
  have q := km_Tx_part_72 hmrPart  q57.2  hm
  refine c_callViA C hE h g58 rfl (by decide) (kc_Df_add l D k z mi aK aV g N hC hv_s1 hv_s0 e56) (cwV 1 C.2.2.1 (gS_X10_60 _) rfl rfl rfl hd_X0_add ⟨(by show 7 + 1 ≤ φ + 8; omega), (by show 8 + (2 + 11) + 241 ≤ ψ + 400; omega)⟩) rfl hl.1 rfl (Nat.le_of_ble_eq_true rfl) dX10_part_69 ⟨rcC hX q57.1 q.1, rsC hX q57.1 q.1⟩ (fun u H locs hg h => ?_)
  refine W_cast (wcC hX q57.1).symm (wsC hX q57.1).symm ?_
  exact kl_Tx_part_72 (N := N) C hr hlk hE hφ hψ hmrPart hcrPart  q57.2 (hG.tr hg hX.1) (hX.tr q57.1)  (lv_sub hl [] rfl) h hm
set_option maxHeartbeats 8000000 in
set_option maxRecDepth 100000 in
theorem kl_Tx_part_58 {r : Sh × St × Int} (C : Cx p s m args c cX10_part RX10 (cd :: cWd) D (TYs k) 2) (hr : meth.sig.returnType = (some .int)) (hlk : meth.locks = false) (hE : Ev z mi aK aV A s s.heap) {rPart : Sh → St → Option (Sh × St × Int)} (hφ : 20 ≤ φ) (hψ : 600 ≤ ψ) (hmrPart : ∀ {π : Sh} {σ : St}  {r : Sh × St × Int}, Cl π σ → rPart π σ  = some r → ext π r.1 ∧ Cl r.1 r.2.1) (hcrPart : ∀ {g : Nat → Nat} {π : Sh} {σ : St}  {r : Sh × St × Int}, Cl π σ → rPart π σ  = some r → Mi l yX10_part (.code yX10_part cX10_part 2 (some .int) :: cWd) { frames := φ, cells := nn r.1 - nn π, slots := sw r.1 - sw π, locals := ψ } [rfv g 50] D (TYs k) (cW k z g π σ) (XV z mi aK aV (cW k z g π σ)) (Nat → Nat) (fun v u => gx (nn π) g u ∧ v = Int32.ofInt r.2.2) (fun u => cW k z u r.1 r.2.1) (nn r.1 - nn π) (sw r.1 - sw π))  {ls : Array Slot} {H : Heap} {locs : List Loc} {g : Nat → Nat} {π : Sh} {σ : St} {s0 : Int} {s1 : Int} (hC : Cl π σ) (hG : gx (nn π0) g0 g) (hX : ext π0 π) (hv_s0 : s0 < nn π) (hv_s1 : s1 < nn π) (hl : lv_has ls 2 [(0, rfv g 50)]) (h : Hp D A s.heap H locs (cW k z g π σ)) (hm : Tx_part_58 N rPart π σ s0 s1 = some r) : W p l e { frames := φ + 8, cells := nn r.1 - nn π0, slots := sw r.1 - sw π0, locals := ψ + 400 } s m args below meth c H locs (nn π - nn π0) (sw π - sw π0) (MQ below (va_Qi (fun v u => gx (nn π0) g0 u ∧ v = Int32.ofInt r.2.2) (fun u t => PostW D (TYs k) A (cW k z u r.1 r.2.1) t) A) args s (nn r.1 - nn π0) (sw r.1 - sw π0) A) (F0 m 58 ls [rfv g s0, rfv g s1]) := by
  have hS := hC.1
  have hq := km_Tx_part_58 hmrPart   hC hv_s0 hv_s1 hm
  rw [Tx_part_58] at hm
  refine lv_dup C.1 C.2.1 dX10_part_58 (rfv_cat _ _) ?_
  refine lv_iconst (v := Int32.ofInt 3) C.1 C.2.1 dX10_part_59 (by decide) ?_
  refine z_aload_n C dX10_part_60 rfl (lv_at hl 0 rfl) ?_
  refine cg_11_2 C h (sh_50 hS) cU_X10 (List.mem_cons_of_mem _ wl_X10_15) dX10_part_61 ?_
  refine lv_iconst (v := Int32.ofInt 1) C.1 C.2.1 dX10_part_64 (by decide) ?_
  refine z_isub C dX10_part_65 ?_
  obtain ⟨r51, e52, hm⟩ := obd_s hm
  have q53 := (km_Sp_init hC hv_s0 e52)
  obtain ⟨g54, hm⟩ := grd_s hm
  have q := km_Tx_part_69 hmrPart  q53.2 (lt_ext hv_s0 q53.1) (lt_ext hv_s1 q53.1) hm
  refine c_callIvA C hE h g54 (kc_Sp_init l D k z mi aK aV g N hC hv_s0 e52) (cwI 2 C.2.2.1 (gC_X9_init _) rfl rfl rfl (C.2.2.1 _ (List.mem_cons_of_mem _ wt_X9)) (C.2.2.1 _ (List.mem_cons_of_mem _ wm_X10_51)) (C.2.2.1 _ (List.mem_cons_of_mem _ wj_X9_init)) rfl hdS_X9_init ⟨(by show 1 + 1 ≤ φ + 8; omega), (by show 8 + (3 + 11) + 30 ≤ ψ + 400; omega)⟩) rfl hl.1 rfl (by simp [rfv_cat, cat_i, cat_l]) dX10_part_66 ⟨rcC hX q53.1 q.1, rsC hX q53.1 q.1⟩ (fun u H locs hg h => ?_)
  simp only [← gx_rfv hg (sh_50 hS).2.1, ← gx_rfv hg hv_s0, ← gx_rfv hg hv_s1] at hl
  try simp only [← gx_rfv hg (sh_50 hS).2.1, ← gx_rfv hg hv_s0, ← gx_rfv hg hv_s1]
  refine W_cast (wcC hX q53.1).symm (wsC hX q53.1).symm ?_
  exact kl_Tx_part_69 (N := N) C hr hlk hE hφ hψ hmrPart hcrPart  q53.2 (hG.tr hg hX.1) (hX.tr q53.1) (lt_ext hv_s0 q53.1) (lt_ext hv_s1 q53.1) (lv_sub hl [] rfl) h hm
set_option maxHeartbeats 8000000 in
set_option maxRecDepth 100000 in
theorem kl_Tx_part_151 {r : Sh × St × Int} (C : Cx p s m args c cX10_part RX10 (cd :: cWd) D (TYs k) 2) (hr : meth.sig.returnType = (some .int)) (hlk : meth.locks = false) (hE : Ev z mi aK aV A s s.heap) {rPart : Sh → St → Option (Sh × St × Int)} (hφ : 20 ≤ φ) (hψ : 600 ≤ ψ) (hmrPart : ∀ {π : Sh} {σ : St}  {r : Sh × St × Int}, Cl π σ → rPart π σ  = some r → ext π r.1 ∧ Cl r.1 r.2.1) (hcrPart : ∀ {g : Nat → Nat} {π : Sh} {σ : St}  {r : Sh × St × Int}, Cl π σ → rPart π σ  = some r → Mi l yX10_part (.code yX10_part cX10_part 2 (some .int) :: cWd) { frames := φ, cells := nn r.1 - nn π, slots := sw r.1 - sw π, locals := ψ } [rfv g 50] D (TYs k) (cW k z g π σ) (XV z mi aK aV (cW k z g π σ)) (Nat → Nat) (fun v u => gx (nn π) g u ∧ v = Int32.ofInt r.2.2) (fun u => cW k z u r.1 r.2.1) (nn r.1 - nn π) (sw r.1 - sw π))  {ls : Array Slot} {H : Heap} {locs : List Loc} {g : Nat → Nat} {π : Sh} {σ : St} {s0 : Int} (hC : Cl π σ) (hG : gx (nn π0) g0 g) (hX : ext π0 π)  (hl : lv_has ls 2 []) (h : Hp D A s.heap H locs (cW k z g π σ)) (hm : Tx_part_151 N rPart π σ s0 = some r) : W p l e { frames := φ + 8, cells := nn r.1 - nn π0, slots := sw r.1 - sw π0, locals := ψ + 400 } s m args below meth c H locs (nn π - nn π0) (sw π - sw π0) (MQ below (va_Qi (fun v u => gx (nn π0) g0 u ∧ v = Int32.ofInt r.2.2) (fun u t => PostW D (TYs k) A (cW k z u r.1 r.2.1) t) A) args s (nn r.1 - nn π0) (sw r.1 - sw π0) A) (F0 m 151 ls [.int (Int32.ofInt s0)]) := by
  have hS := hC.1
  have hq := km_Tx_part_151 hmrPart   hC  hm
  rw [Tx_part_151] at hm
  cases hm
  exact c_iretA C hG h hr hlk dX10_part_151 rfl
set_option maxHeartbeats 8000000 in
set_option maxRecDepth 100000 in
theorem kl_Tx_part_131 {r : Sh × St × Int} (C : Cx p s m args c cX10_part RX10 (cd :: cWd) D (TYs k) 2) (hr : meth.sig.returnType = (some .int)) (hlk : meth.locks = false) (hE : Ev z mi aK aV A s s.heap) {rPart : Sh → St → Option (Sh × St × Int)} (hφ : 20 ≤ φ) (hψ : 600 ≤ ψ) (hmrPart : ∀ {π : Sh} {σ : St}  {r : Sh × St × Int}, Cl π σ → rPart π σ  = some r → ext π r.1 ∧ Cl r.1 r.2.1) (hcrPart : ∀ {g : Nat → Nat} {π : Sh} {σ : St}  {r : Sh × St × Int}, Cl π σ → rPart π σ  = some r → Mi l yX10_part (.code yX10_part cX10_part 2 (some .int) :: cWd) { frames := φ, cells := nn r.1 - nn π, slots := sw r.1 - sw π, locals := ψ } [rfv g 50] D (TYs k) (cW k z g π σ) (XV z mi aK aV (cW k z g π σ)) (Nat → Nat) (fun v u => gx (nn π) g u ∧ v = Int32.ofInt r.2.2) (fun u => cW k z u r.1 r.2.1) (nn r.1 - nn π) (sw r.1 - sw π))  {ls : Array Slot} {H : Heap} {locs : List Loc} {g : Nat → Nat} {π : Sh} {σ : St} {s0 : Int} (hC : Cl π σ) (hG : gx (nn π0) g0 g) (hX : ext π0 π)  (hl : lv_has ls 2 []) (h : Hp D A s.heap H locs (cW k z g π σ)) (hm : Tx_part_131 N rPart π σ s0 = some r) : W p l e { frames := φ + 8, cells := nn r.1 - nn π0, slots := sw r.1 - sw π0, locals := ψ + 400 } s m args below meth c H locs (nn π - nn π0) (sw π - sw π0) (MQ below (va_Qi (fun v u => gx (nn π0) g0 u ∧ v = Int32.ofInt r.2.2) (fun u t => PostW D (TYs k) A (cW k z u r.1 r.2.1) t) A) args s (nn r.1 - nn π0) (sw r.1 - sw π0) A) (F0 m 131 ls [.int (Int32.ofInt s0)]) := by
  have hS := hC.1
  have hq := km_Tx_part_131 hmrPart   hC  hm
  rw [Tx_part_131] at hm
  refine lv_goto (tgt := 151) C.1 C.2.1 dX10_part_131 (by decide) ?_
  exact kl_Tx_part_151 (N := N) C hr hlk hE hφ hψ hmrPart hcrPart hC hG hX (lv_sub hl [] rfl) h hm
set_option maxHeartbeats 8000000 in
set_option maxRecDepth 100000 in
theorem kl_Tx_part_144 {r : Sh × St × Int} (C : Cx p s m args c cX10_part RX10 (cd :: cWd) D (TYs k) 2) (hr : meth.sig.returnType = (some .int)) (hlk : meth.locks = false) (hE : Ev z mi aK aV A s s.heap) {rPart : Sh → St → Option (Sh × St × Int)} (hφ : 20 ≤ φ) (hψ : 600 ≤ ψ) (hmrPart : ∀ {π : Sh} {σ : St}  {r : Sh × St × Int}, Cl π σ → rPart π σ  = some r → ext π r.1 ∧ Cl r.1 r.2.1) (hcrPart : ∀ {g : Nat → Nat} {π : Sh} {σ : St}  {r : Sh × St × Int}, Cl π σ → rPart π σ  = some r → Mi l yX10_part (.code yX10_part cX10_part 2 (some .int) :: cWd) { frames := φ, cells := nn r.1 - nn π, slots := sw r.1 - sw π, locals := ψ } [rfv g 50] D (TYs k) (cW k z g π σ) (XV z mi aK aV (cW k z g π σ)) (Nat → Nat) (fun v u => gx (nn π) g u ∧ v = Int32.ofInt r.2.2) (fun u => cW k z u r.1 r.2.1) (nn r.1 - nn π) (sw r.1 - sw π))  {ls : Array Slot} {H : Heap} {locs : List Loc} {g : Nat → Nat} {π : Sh} {σ : St} {s0 : Int} (hC : Cl π σ) (hG : gx (nn π0) g0 g) (hX : ext π0 π)  (hl : lv_has ls 2 []) (h : Hp D A s.heap H locs (cW k z g π σ)) (hm : Tx_part_144 N rPart π σ s0 = some r) : W p l e { frames := φ + 8, cells := nn r.1 - nn π0, slots := sw r.1 - sw π0, locals := ψ + 400 } s m args below meth c H locs (nn π - nn π0) (sw π - sw π0) (MQ below (va_Qi (fun v u => gx (nn π0) g0 u ∧ v = Int32.ofInt r.2.2) (fun u t => PostW D (TYs k) A (cW k z u r.1 r.2.1) t) A) args s (nn r.1 - nn π0) (sw r.1 - sw π0) A) (F0 m 144 ls [.int (Int32.ofInt s0)]) := by
  have hS := hC.1
  have hq := km_Tx_part_144 hmrPart   hC  hm
  rw [Tx_part_144] at hm
  refine lv_goto (tgt := 151) C.1 C.2.1 dX10_part_144 (by decide) ?_
  exact kl_Tx_part_151 (N := N) C hr hlk hE hφ hψ hmrPart hcrPart hC hG hX (lv_sub hl [] rfl) h hm
set_option maxHeartbeats 8000000 in
set_option maxRecDepth 100000 in
theorem kl_Tx_part_105 {r : Sh × St × Int} (C : Cx p s m args c cX10_part RX10 (cd :: cWd) D (TYs k) 2) (hr : meth.sig.returnType = (some .int)) (hlk : meth.locks = false) (hE : Ev z mi aK aV A s s.heap) {rPart : Sh → St → Option (Sh × St × Int)} (hφ : 20 ≤ φ) (hψ : 600 ≤ ψ) (hmrPart : ∀ {π : Sh} {σ : St}  {r : Sh × St × Int}, Cl π σ → rPart π σ  = some r → ext π r.1 ∧ Cl r.1 r.2.1) (hcrPart : ∀ {g : Nat → Nat} {π : Sh} {σ : St}  {r : Sh × St × Int}, Cl π σ → rPart π σ  = some r → Mi l yX10_part (.code yX10_part cX10_part 2 (some .int) :: cWd) { frames := φ, cells := nn r.1 - nn π, slots := sw r.1 - sw π, locals := ψ } [rfv g 50] D (TYs k) (cW k z g π σ) (XV z mi aK aV (cW k z g π σ)) (Nat → Nat) (fun v u => gx (nn π) g u ∧ v = Int32.ofInt r.2.2) (fun u => cW k z u r.1 r.2.1) (nn r.1 - nn π) (sw r.1 - sw π))  {ls : Array Slot} {H : Heap} {locs : List Loc} {g : Nat → Nat} {π : Sh} {σ : St} {x1 : Int} (hC : Cl π σ) (hG : gx (nn π0) g0 g) (hX : ext π0 π)  (hl : lv_has ls 2 [(0, rfv g 50), (1, .int (Int32.ofInt x1))]) (h : Hp D A s.heap H locs (cW k z g π σ)) (hm : Tx_part_105 N rPart π σ x1 = some r) : W p l e { frames := φ + 8, cells := nn r.1 - nn π0, slots := sw r.1 - sw π0, locals := ψ + 400 } s m args below meth c H locs (nn π - nn π0) (sw π - sw π0) (MQ below (va_Qi (fun v u => gx (nn π0) g0 u ∧ v = Int32.ofInt r.2.2) (fun u t => PostW D (TYs k) A (cW k z u r.1 r.2.1) t) A) args s (nn r.1 - nn π0) (sw r.1 - sw π0) A) (F0 m 105 ls []) := by
  have hS := hC.1
  have hq := km_Tx_part_105 hmrPart   hC  hm
  rw [Tx_part_105] at hm
  refine z_aload_n C dX10_part_105 rfl (lv_at hl 0 rfl) ?_
  refine cg_11_0 C h (sh_50 hS) cU_X10 (List.mem_cons_of_mem _ wl_X10_28) dX10_part_106 ?_
  refine z_aload_n C dX10_part_109 rfl (lv_at hl 0 rfl) ?_
  refine cg_11_2 C h (sh_50 hS) cU_X10 (List.mem_cons_of_mem _ wl_X10_15) dX10_part_110 ?_
  obtain ⟨r33, e34, hm⟩ := obd_s hm
  have q35 := (km_Sc_opens hC e34)
  refine c_callViP C hE h (sh_1 hS) rfl (by decide) (kc_Sc_opens l D k z mi aK aV g N hS e34) (cwV 1 C.2.2.1 (gS_X10_103 _) rfl rfl rfl hd_X8_opens ⟨(by show 1 + 1 ≤ φ + 8; omega), (by show 8 + (2 + 11) + 22 ≤ ψ + 400; omega)⟩) rfl hl.1 rfl (Nat.le_of_ble_eq_true rfl) dX10_part_113 ⟨(czz hX hq.1), (szz hX hq.1)⟩ (fun H locs h => ?_)
  have hC36 : Cl π r33.1 := q35
  obtain ⟨g37, hm⟩ := grd_s hm
  refine z_if_ne (tgt := 121) C dX10_part_116 (by decide) g37 (fun c38 => ?_) (fun c38 => ?_)
  · have hm := ite_f c38 hm
    refine lv_iload_n C.1 C.2.1 dX10_part_121 rfl (lv_at hl 1 rfl) ?_
    refine lv_bipush (v := Int32.ofInt 91) C.1 C.2.1 dX10_part_122 (by decide) ?_
    obtain ⟨g39, hm⟩ := grd_s hm
    refine z_icmp_ne (tgt := 134) C dX10_part_124 (by decide) g39 (by decide) (fun c40 => ?_) (fun c40 => ?_)
    · have hm := ite_f c40 hm
      refine lv_iload_n C.1 C.2.1 dX10_part_134 rfl (lv_at hl 1 rfl) ?_
      refine lv_bipush (v := Int32.ofInt 60) C.1 C.2.1 dX10_part_135 (by decide) ?_
      refine z_icmp_ne (tgt := 147) C dX10_part_137 (by decide) g39 (by decide) (fun c41 => ?_) (fun c41 => ?_)
      · have hm := ite_f c41 hm
        refine z_aload_n C dX10_part_147 rfl (lv_at hl 0 rfl) ?_
        obtain ⟨r42, e43, hm⟩ := obd_s hm
        have q44 := (km_Tx_poly hmrPart hC36 e43)
        have q := km_Tx_part_151 hmrPart  q44.2  hm
        refine c_callViA C hE h (sh_50 hS) rfl (by decide) (kc_Tx_poly l D k z mi aK aV g N hφ hψ hmrPart hcrPart hC36 e43) (cwV 0 C.2.2.1 (gS_X10_112 _) rfl rfl rfl hd_X10_poly ⟨(by show φ + 2 + 1 ≤ φ + 8; omega), (by show 8 + (2 + 11) + (ψ + 47) ≤ ψ + 400; omega)⟩) rfl hl.1 rfl (Nat.le_of_ble_eq_true rfl) dX10_part_148 ⟨rcC hX q44.1 q.1, rsC hX q44.1 q.1⟩ (fun u H locs hg h => ?_)
        simp only [← gx_rfv hg (sh_50 hS).2.1] at hl
        try simp only [← gx_rfv hg (sh_50 hS).2.1]
        refine W_cast (wcC hX q44.1).symm (wsC hX q44.1).symm ?_
        exact kl_Tx_part_151 (N := N) C hr hlk hE hφ hψ hmrPart hcrPart  q44.2 (hG.tr hg hX.1) (hX.tr q44.1)  (lv_sub hl [] rfl) h hm
      · have hm := ite_t c41 hm
        refine z_aload_n C dX10_part_140 rfl (lv_at hl 0 rfl) ?_
        obtain ⟨r45, e46, hm⟩ := obd_s hm
        have q47 := (km_Tx_turn hmrPart hC36 e46)
        have q := km_Tx_part_144 hmrPart  q47.2  hm
        refine c_callViA C hE h (sh_50 hS) rfl (by decide) (kc_Tx_turn l D k z mi aK aV g N hφ hψ hmrPart hcrPart hC36 e46) (cwV 0 C.2.2.1 (gS_X10_109 _) rfl rfl rfl hd_X10_turn ⟨(by show φ + 2 + 1 ≤ φ + 8; omega), (by show 8 + (2 + 11) + (ψ + 47) ≤ ψ + 400; omega)⟩) rfl hl.1 rfl (Nat.le_of_ble_eq_true rfl) dX10_part_141 ⟨rcC hX q47.1 q.1, rsC hX q47.1 q.1⟩ (fun u H locs hg h => ?_)
        simp only [← gx_rfv hg (sh_50 hS).2.1] at hl
        try simp only [← gx_rfv hg (sh_50 hS).2.1]
        refine W_cast (wcC hX q47.1).symm (wsC hX q47.1).symm ?_
        exact kl_Tx_part_144 (N := N) C hr hlk hE hφ hψ hmrPart hcrPart  q47.2 (hG.tr hg hX.1) (hX.tr q47.1)  (lv_sub hl [] rfl) h hm
    · have hm := ite_t c40 hm
      refine z_aload_n C dX10_part_127 rfl (lv_at hl 0 rfl) ?_
      obtain ⟨r48, e49, hm⟩ := obd_s hm
      have q50 := (km_Tx_bracket hmrPart hC36 e49)
      have q := km_Tx_part_131 hmrPart  q50.2  hm
      refine c_callViA C hE h (sh_50 hS) rfl (by decide) (kc_Tx_bracket l D k z mi aK aV g N hφ hψ hmrPart hcrPart hC36 e49) (cwV 0 C.2.2.1 (gS_X10_106 _) rfl rfl rfl hd_X10_bracket ⟨(by show φ + 3 + 1 ≤ φ + 8; omega), (by show 8 + (4 + 11) + (ψ + 68) ≤ ψ + 400; omega)⟩) rfl hl.1 rfl (Nat.le_of_ble_eq_true rfl) dX10_part_128 ⟨rcC hX q50.1 q.1, rsC hX q50.1 q.1⟩ (fun u H locs hg h => ?_)
      simp only [← gx_rfv hg (sh_50 hS).2.1] at hl
      try simp only [← gx_rfv hg (sh_50 hS).2.1]
      refine W_cast (wcC hX q50.1).symm (wsC hX q50.1).symm ?_
      exact kl_Tx_part_131 (N := N) C hr hlk hE hφ hψ hmrPart hcrPart  q50.2 (hG.tr hg hX.1) (hX.tr q50.1)  (lv_sub hl [] rfl) h hm
  · have hm := ite_t c38 hm
    refine lv_iconst (v := Int32.ofInt 0) C.1 C.2.1 dX10_part_119 (by decide) ?_
    cases hm
    exact c_iretA C hG h hr hlk dX10_part_120 rfl
set_option maxHeartbeats 8000000 in
set_option maxRecDepth 100000 in
theorem kc_Tx_part (l : Launch) (D : va_G) (k : Nat → ClassId) (z mi : Nat) (aK aV : Nat → Nat) (g : Nat → Nat) (N : Nat) {φ ψ : Nat} {rPart : Sh → St → Option (Sh × St × Int)} (hφ : 20 ≤ φ) (hψ : 600 ≤ ψ) (hmrPart : ∀ {π : Sh} {σ : St}  {r : Sh × St × Int}, Cl π σ → rPart π σ  = some r → ext π r.1 ∧ Cl r.1 r.2.1) (hcrPart : ∀ {g : Nat → Nat} {π : Sh} {σ : St}  {r : Sh × St × Int}, Cl π σ → rPart π σ  = some r → Mi l yX10_part (.code yX10_part cX10_part 2 (some .int) :: cWd) { frames := φ, cells := nn r.1 - nn π, slots := sw r.1 - sw π, locals := ψ } [rfv g 50] D (TYs k) (cW k z g π σ) (XV z mi aK aV (cW k z g π σ)) (Nat → Nat) (fun v u => gx (nn π) g u ∧ v = Int32.ofInt r.2.2) (fun u => cW k z u r.1 r.2.1) (nn r.1 - nn π) (sw r.1 - sw π)) {π : Sh} {σ : St}  {r : Sh × St × Int} (hC : Cl π σ)  (hm : Tx_part N rPart π σ  = some r) : Mi l yX10_part (.code yX10_part cX10_part 2 (some .int) :: cWd) { frames := φ + 8, cells := nn r.1 - nn π, slots := sw r.1 - sw π, locals := ψ + 400 } [rfv g 50] D (TYs k) (cW k z g π σ) (XV z mi aK aV (cW k z g π σ)) (Nat → Nat) (fun v u => gx (nn π) g u ∧ v = Int32.ofInt r.2.2) (fun u => cW k z u r.1 r.2.1) (nn r.1 - nn π) (sw r.1 - sw π) := by
  have hS := hC.1
  have hq := km_Tx_part hmrPart hC  hm
  intro sz
  refine v_met (cc := cX10_part) (maxL := 2) (ret := (some .int)) (lv := [(0, rfv g 50)]) (by decide) rfl (by simp [lg_sl, rfv_cat, cat_i, cat_l]) (by simp [lv_args, rfv_cat, cat_i, cat_l]) ?_
  intro p e s m below meth c ls C hE hr hlk hmn hl h
  generalize ([rfv g 50] : List Value).toArray = args at C ⊢
  have hG := gx.rf (nn π) g
  have hX := ext.rf π
  refine W_cast (Nat.sub_self (nn π)) (Nat.sub_self (sw π)) ?_
  rw [Tx_part] at hm
  refine z_aload_n C dX10_part_0 rfl (lv_at hl 0 rfl) ?_
  obtain ⟨r1, e2, hm⟩ := obd_s hm
  have q3 := (km_Tx_here hC e2)
  refine c_callViP C hE h (sh_50 hS) rfl (by decide) (kc_Tx_here l D k z mi aK aV g N hS e2) (cwV 0 C.2.2.1 (gS_X10_45 _) rfl rfl rfl hd_X10_here ⟨(by show 0 + 1 ≤ φ + 8; omega), (by show 8 + (1 + 11) + 0 ≤ ψ + 400; omega)⟩) rfl hl.1 rfl (Nat.le_of_ble_eq_true rfl) dX10_part_1 ⟨(czz hX hq.1), (szz hX hq.1)⟩ (fun H locs h => ?_)
  have hC4 : Cl π r1.1 := q3
  refine lv_istore_n (i := 1) (lv' := [(1, .int (Int32.ofInt r1.2)), (0, rfv g 50)]) C.1 C.2.1 dX10_part_4 rfl hl (by decide) (by simp [rfv_cat, cat_i, cat_l]) (fun ls hl => ?_)
  refine lv_iload_n C.1 C.2.1 dX10_part_5 rfl (lv_at hl 0 rfl) ?_
  obtain ⟨r5, e6, hm⟩ := obd_s hm
  refine v_callSi C h (kc_Sc_isLetter l D k N r1.2 r5 e6) (v_cwS 1 C.2.2.1 (gC_X8_isLetter _) rfl rfl rfl (C.2.2.1 _ (List.mem_cons_of_mem _ wt_X8)) (C.2.2.1 _ (List.mem_cons_of_mem _ wm_X10_91)) (C.2.2.1 _ (List.mem_cons_of_mem _ ws_X8_isLetter)) hdS_X8_isLetter ⟨(by show 0 + 1 ≤ φ + 8; omega), (by show 8 + (1 + 11) + 0 ≤ ψ + 400; omega)⟩) rfl hl.1 rfl (Nat.le_of_ble_eq_true rfl) dX10_part_6 ⟨(czz hX hq.1), (szz hX hq.1)⟩ (fun H locs h => ?_)
  obtain ⟨g7, hm⟩ := grd_s hm
  refine z_if_eq (tgt := 17) C dX10_part_9 (by decide) g7 (fun c8 => ?_) (fun c8 => ?_)
  · have hm := ite_t c8 hm
    refine lv_iload_n C.1 C.2.1 dX10_part_17 rfl (lv_at hl 0 rfl) ?_
    obtain ⟨r9, e10, hm⟩ := obd_s hm
    refine v_callSi C h (kc_Sc_isDigit l D k N r1.2 r9 e10) (v_cwS 1 C.2.2.1 (gC_X8_isDigit _) rfl rfl rfl (C.2.2.1 _ (List.mem_cons_of_mem _ wt_X8)) (C.2.2.1 _ (List.mem_cons_of_mem _ wm_X10_94)) (C.2.2.1 _ (List.mem_cons_of_mem _ ws_X8_isDigit)) hdS_X8_isDigit ⟨(by show 0 + 1 ≤ φ + 8; omega), (by show 8 + (1 + 11) + 0 ≤ ψ + 400; omega)⟩) rfl hl.1 rfl (Nat.le_of_ble_eq_true rfl) dX10_part_18 ⟨(czz hX hq.1), (szz hX hq.1)⟩ (fun H locs h => ?_)
    obtain ⟨g11, hm⟩ := grd_s hm
    refine z_if_ne (tgt := 30) C dX10_part_21 (by decide) g11 (fun c12 => ?_) (fun c12 => ?_)
    · have hm := ite_f c12 hm
      exact kl_Tx_part_30 (N := N) C hr hlk hE hφ hψ hmrPart hcrPart hC4 hG hX (lv_sub hl [1] rfl) h hm
    · have hm := ite_t c12 hm
      refine lv_iload_n C.1 C.2.1 dX10_part_24 rfl (lv_at hl 0 rfl) ?_
      refine lv_bipush (v := Int32.ofInt 45) C.1 C.2.1 dX10_part_25 (by decide) ?_
      obtain ⟨g13, hm⟩ := grd_s hm
      refine z_icmp_ne (tgt := 35) C dX10_part_27 (by decide) g13 (by decide) (fun c14 => ?_) (fun c14 => ?_)
      · have hm := ite_f c14 hm
        refine lv_iload_n C.1 C.2.1 dX10_part_35 rfl (lv_at hl 0 rfl) ?_
        refine lv_bipush (v := Int32.ofInt 126) C.1 C.2.1 dX10_part_36 (by decide) ?_
        refine z_icmp_ne (tgt := 73) C dX10_part_38 (by decide) g13 (by decide) (fun c15 => ?_) (fun c15 => ?_)
        · have hm := ite_f c15 hm
          refine lv_iload_n C.1 C.2.1 dX10_part_73 rfl (lv_at hl 0 rfl) ?_
          refine lv_bipush (v := Int32.ofInt 91) C.1 C.2.1 dX10_part_74 (by decide) ?_
          refine z_icmp_eq (tgt := 105) C dX10_part_76 (by decide) g13 (by decide) (fun c16 => ?_) (fun c16 => ?_)
          · have hm := ite_t c16 hm
            exact kl_Tx_part_105 (N := N) C hr hlk hE hφ hψ hmrPart hcrPart hC4 hG hX (lv_sub hl [1, 0] rfl) h hm
          · have hm := ite_f c16 hm
            refine lv_iload_n C.1 C.2.1 dX10_part_79 rfl (lv_at hl 0 rfl) ?_
            refine lv_bipush (v := Int32.ofInt 60) C.1 C.2.1 dX10_part_80 (by decide) ?_
            refine z_icmp_eq (tgt := 105) C dX10_part_82 (by decide) g13 (by decide) (fun c17 => ?_) (fun c17 => ?_)
            · have hm := ite_t c17 hm
              exact kl_Tx_part_105 (N := N) C hr hlk hE hφ hψ hmrPart hcrPart hC4 hG hX (lv_sub hl [1, 0] rfl) h hm
            · have hm := ite_f c17 hm
              refine lv_iload_n C.1 C.2.1 dX10_part_85 rfl (lv_at hl 0 rfl) ?_
              refine lv_bipush (v := Int32.ofInt 123) C.1 C.2.1 dX10_part_86 (by decide) ?_
              refine z_icmp_eq (tgt := 105) C dX10_part_88 (by decide) g13 (by decide) (fun c18 => ?_) (fun c18 => ?_)
              · have hm := ite_t c18 hm
                exact kl_Tx_part_105 (N := N) C hr hlk hE hφ hψ hmrPart hcrPart hC4 hG hX (lv_sub hl [1, 0] rfl) h hm
              · have hm := ite_f c18 hm
                refine z_aload_n C dX10_part_91 rfl (lv_at hl 1 rfl) ?_
                refine cg_11_0 C h (sh_50 hS) cU_X10 (List.mem_cons_of_mem _ wl_X10_28) dX10_part_92 ?_
                refine lv_iconst (v := Int32.ofInt 1) C.1 C.2.1 dX10_part_95 (by decide) ?_
                refine z_aload_n C dX10_part_96 rfl (lv_at hl 1 rfl) ?_
                refine cg_11_2 C h (sh_50 hS) cU_X10 (List.mem_cons_of_mem _ wl_X10_15) dX10_part_97 ?_
                obtain ⟨r19, e20, hm⟩ := obd_s hm
                have q21 := (km_Sc_fail hC4 e20)
                refine c_callVvP C hE h (sh_1 hS) rfl (by decide) (kc_Sc_fail l D k z mi aK aV g N hS e20) (cwV 2 C.2.2.1 (gS_X10_32 _) rfl rfl rfl hd_X8_fail ⟨(by show 0 + 1 ≤ φ + 8; omega), (by show 8 + (3 + 11) + 0 ≤ ψ + 400; omega)⟩) rfl hl.1 rfl (Nat.le_of_ble_eq_true rfl) dX10_part_100 ⟨(czz hX hq.1), (szz hX hq.1)⟩ (fun H locs h => ?_)
                have hC22 : Cl π r19 := q21
                refine lv_iconst (v := Int32.ofInt 0) C.1 C.2.1 dX10_part_103 (by decide) ?_
                cases hm
                exact c_iretA C hG h hr hlk dX10_part_104 rfl
        · have hm := ite_t c15 hm
          refine z_aload_n C dX10_part_41 rfl (lv_at hl 1 rfl) ?_
          refine lv_dup C.1 C.2.1 dX10_part_42 (rfv_cat _ _) ?_
          refine cg_11_2 C h (sh_50 hS) cU_X10 (List.mem_cons_of_mem _ wl_X10_15) dX10_part_43 ?_
          refine lv_iconst (v := Int32.ofInt 1) C.1 C.2.1 dX10_part_46 (by decide) ?_
          refine z_iadd C dX10_part_47 ?_
          refine cp_11_2 C h (sh_50 hS) cU_X10 (List.mem_cons_of_mem _ wl_X10_15) dX10_part_48 (fun H locs h => ?_)
          refine z_aload_n C dX10_part_51 rfl (lv_at hl 1 rfl) ?_
          refine cg_11_1 C h (sh_50 hS) cU_X10 (List.mem_cons_of_mem _ wl_X10_9) dX10_part_52 ?_
          refine x_topv (b := rfv g (fl r1.1 221 50)) rfl ?_
          obtain ⟨σ23, e24, hm⟩ := bnd_s hm
          rw [e24] at h
          have hC25 : Cl π σ23 := e24 ▸ (cl_sfI hC4 (f := 222) rfl _ _)
          have q := km_Tx_part_58 hmrPart  ((cl_nO hC25 (by decide) (by decide) _)) lt_nO (lt_ext (cl_fl hC4 (f := 221) rfl 50) (ext_nO π 10 14)) hm
          refine c_new C h hC25 (by decide) dX10_part_55 rfl cU_X9 tyX9_ok (List.mem_cons_of_mem _ wn_X10_49) (List.mem_cons_of_mem _ wi_X9) (List.mem_cons_of_mem _ wt_X9) (df_X9) (dn_X9 z) (rc1 hX q.1) (rs1 hX q.1) (fun u H hg h => ?_)
          simp only [← gx_rfv hg (sh_50 hS).2.1, ← gx_rfv hg (cl_fl hC4 (f := 221) rfl 50)] at hl
          try simp only [← gx_rfv hg (sh_50 hS).2.1, ← gx_rfv hg (cl_fl hC4 (f := 221) rfl 50)]
          refine W_cast (wcO (c := 10) (w := 14) hX).symm (wsO (c := 10) (w := 14) hX).symm ?_
          exact kl_Tx_part_58 (N := N) C hr hlk hE hφ hψ hmrPart hcrPart  ((cl_nO hC25 (by decide) (by decide) _)) (hG.tr hg hX.1) (hX.tr (ext_nO π 10 14)) lt_nO (lt_ext (cl_fl hC4 (f := 221) rfl 50) (ext_nO π 10 14)) (lv_sub hl [1] rfl) h hm
      · have hm := ite_t c14 hm
        exact kl_Tx_part_30 (N := N) C hr hlk hE hφ hψ hmrPart hcrPart hC4 hG hX (lv_sub hl [1] rfl) h hm
  · have hm := ite_f c8 hm
    refine z_aload_n C dX10_part_12 rfl (lv_at hl 1 rfl) ?_
    obtain ⟨r27, e28, hm⟩ := obd_s hm
    have q29 := (km_Tx_word hC4 e28)
    have q := km_Tx_part_16 hmrPart  q29.2  hm
    refine c_callViA C hE h (sh_50 hS) rfl (by decide) (kc_Tx_word l D k z mi aK aV g N hC4 e28) (cwV 0 C.2.2.1 (gS_X10_97 _) rfl rfl rfl hd_X10_word ⟨(by show 8 + 1 ≤ φ + 8; omega), (by show 8 + (3 + 11) + 262 ≤ ψ + 400; omega)⟩) rfl hl.1 rfl (Nat.le_of_ble_eq_true rfl) dX10_part_13 ⟨rcC hX q29.1 q.1, rsC hX q29.1 q.1⟩ (fun u H locs hg h => ?_)
    simp only [← gx_rfv hg (sh_50 hS).2.1] at hl
    try simp only [← gx_rfv hg (sh_50 hS).2.1]
    refine W_cast (wcC hX q29.1).symm (wsC hX q29.1).symm ?_
    exact kl_Tx_part_16 (N := N) C hr hlk hE hφ hψ hmrPart hcrPart  q29.2 (hG.tr hg hX.1) (hX.tr q29.1)  (lv_sub hl [] rfl) h hm
end Z_Tx_part
set_option maxHeartbeats 8000000 in
set_option maxRecDepth 100000 in
theorem kc_Tx_partC (l : Launch) (D : va_G) (k : Nat → ClassId) (z mi : Nat) (aK aV : Nat → Nat) (N d : Nat) : ∀ {g : Nat → Nat} {π : Sh} {σ : St}  {r : Sh × St × Int}, Cl π σ → Tx_partC N d π σ  = some r → Mi l yX10_part (.code yX10_part cX10_part 2 (some .int) :: cWd) { frames := 20 + 8 * d, cells := nn r.1 - nn π, slots := sw r.1 - sw π, locals := 600 + 400 * d } [rfv g 50] D (TYs k) (cW k z g π σ) (XV z mi aK aV (cW k z g π σ)) (Nat → Nat) (fun v u => gx (nn π) g u ∧ v = Int32.ofInt r.2.2) (fun u => cW k z u r.1 r.2.1) (nn r.1 - nn π) (sw r.1 - sw π) := by
  induction d with
  | zero => intro g π σ  r hC  hm; cases (show none = some r from hm)
  | succ d ih =>
    intro g π σ  r hC  hm
    have e1 : 20 + 8 * (d + 1) = 20 + 8 * d + 8 := by omega
    have e2 : 600 + 400 * (d + 1) = 600 + 400 * d + 400 := by omega
    rw [e1, e2]
    exact kc_Tx_part l D k z mi aK aV g N (by omega) (by omega) km_Tx_partC ih hC  hm
section Z_Tx_start
variable {p : Program} {l : Launch} {e : Env} {s : State} {m : MethodId} {args : Array Value} {below : List Frame} {meth : Method} {c : Code} {D : va_G} {A : Nat → Prop} {k : Nat → ClassId} {N : Nat} {cd : Cond} {z mi : Nat} {aK aV : Nat → Nat} {g : Nat → Nat} {π : Sh}
set_option maxHeartbeats 8000000 in
set_option maxRecDepth 100000 in
theorem kc_Tx_start (l : Launch) (D : va_G) (k : Nat → ClassId) (z mi : Nat) (aK aV : Nat → Nat) (g : Nat → Nat) (N : Nat)    {π : Sh} {σ : St} {x1 : Int} {x2 : Int} {x3 : Int} {r : St} (hS : SHs π) (hm : Tx_start N π σ x1 x2 x3 = some r) : Mv l yX10_start (.code yX10_start cX10_start 4 none :: cWd) { frames := 0, cells := 0, slots := 0, locals := 0 } [rfv g 50, rfv g x1, .int (Int32.ofInt x2), .int (Int32.ofInt x3)] D (TYs k) (cW k z g π σ) (XV z mi aK aV (cW k z g π σ)) Unit (fun _ => True) (fun _ => cW k z g π r) 0 0 := by
  intro sz
  refine v_met (cc := cX10_start) (maxL := 4) (ret := none) (lv := [(0, rfv g 50), (1, rfv g x1), (2, .int (Int32.ofInt x2)), (3, .int (Int32.ofInt x3))]) (by decide) rfl (by simp [lg_sl, rfv_cat, cat_i, cat_l]) (by simp [lv_args, rfv_cat, cat_i, cat_l]) ?_
  intro p e s m below meth c ls C hE hr hlk hmn hl h
  rw [Tx_start] at hm
  refine z_aload_n C dX10_start_0 rfl (lv_at hl 0 rfl) ?_
  refine z_aload_n C dX10_start_1 rfl (lv_at hl 1 rfl) ?_
  refine cp_11_1 C h (sh_50 hS) cU_X10 (List.mem_cons_of_mem _ wl_X10_9) dX10_start_2 (fun H locs h => ?_)
  refine z_aload_n C dX10_start_5 rfl (lv_at hl 0 rfl) ?_
  refine lv_iload_n C.1 C.2.1 dX10_start_6 rfl (lv_at hl 2 rfl) ?_
  refine lv_iconst (v := Int32.ofInt 1) C.1 C.2.1 dX10_start_7 (by decide) ?_
  refine z_iadd C dX10_start_8 ?_
  refine cp_11_2 C h (sh_50 hS) cU_X10 (List.mem_cons_of_mem _ wl_X10_15) dX10_start_9 (fun H locs h => ?_)
  refine z_aload_n C dX10_start_12 rfl (lv_at hl 0 rfl) ?_
  refine lv_iload_n C.1 C.2.1 dX10_start_13 rfl (lv_at hl 3 rfl) ?_
  refine cp_11_3 C h (sh_50 hS) cU_X10 (List.mem_cons_of_mem _ wl_X10_19) dX10_start_14 (fun H locs h => ?_)
  refine z_aload_n C dX10_start_17 rfl (lv_at hl 0 rfl) ?_
  refine lv_iconst (v := Int32.ofInt 0) C.1 C.2.1 dX10_start_18 (by decide) ?_
  refine cp_11_4 C h (sh_50 hS) cU_X10 (List.mem_cons_of_mem _ wl_X10_22) dX10_start_19 (fun H locs h => ?_)
  cases hm
  exact c_vretP C h hr hlk dX10_start_22
end Z_Tx_start
