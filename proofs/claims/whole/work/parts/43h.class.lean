section Z_Rd_cat
variable {p : Program} {l : Launch} {e : Env} {s : State} {m : MethodId} {args : Array Value} {below : List Frame} {meth : Method} {c : Code} {D : va_G} {A : Nat → Prop} {k : Nat → ClassId} {N : Nat} {cd : Cond} {z mi : Nat} {aK aV : Nat → Nat} {g0 : Nat → Nat} {π0 : Sh} {φ ψ : Nat}
set_option maxHeartbeats 8000000 in
set_option maxRecDepth 100000 in
theorem kl_Rd_cat_105 {r : Sh × St × Int} (C : Cx p s m args c cX6_cat RX6 (cd :: cWd) D (TYs k) 4) (hr : meth.sig.returnType = (some .int)) (hlk : meth.locks = false) (hE : Ev z mi aK aV A s s.heap) {rArg : Sh → St → Option (Sh × St × Int)} {rFun : Sh → St → Option (Sh × St × Int)} (hφ : 260 ≤ φ) (hψ : 12000 ≤ ψ) (hmrArg : ∀ {π : Sh} {σ : St}  {r : Sh × St × Int}, Cl π σ → rArg π σ  = some r → ext π r.1 ∧ Cl r.1 r.2.1) (hcrArg : ∀ {g : Nat → Nat} {π : Sh} {σ : St}  {r : Sh × St × Int}, Cl π σ → rArg π σ  = some r → Mi l yX6_arg (.code yX6_arg cX6_arg 3 (some .int) :: cWd) { frames := φ, cells := nn r.1 - nn π, slots := sw r.1 - sw π, locals := ψ } [rfv g 44] D (TYs k) (cW k z g π σ) (XV z mi aK aV (cW k z g π σ)) (Nat → Nat) (fun v u => gx (nn π) g u ∧ v = Int32.ofInt r.2.2) (fun u => cW k z u r.1 r.2.1) (nn r.1 - nn π) (sw r.1 - sw π)) (hmrFun : ∀ {π : Sh} {σ : St}  {r : Sh × St × Int}, Cl π σ → rFun π σ  = some r → ext π r.1 ∧ Cl r.1 r.2.1 ∧ r.2.2 < nn r.1) (hcrFun : ∀ {g : Nat → Nat} {π : Sh} {σ : St}  {r : Sh × St × Int}, Cl π σ → rFun π σ  = some r → Mq l yX6_fun (.code yX6_fun cX6_fun 5 (some (.object "CycleStudio$Piece")) :: cWd) { frames := φ, cells := nn r.1 - nn π, slots := sw r.1 - sw π, locals := ψ } [rfv g 44] D (TYs k) (cW k z g π σ) (XV z mi aK aV (cW k z g π σ)) (Nat → Nat) (fun v u => gx (nn π) g u ∧ v = rfo u r.2.2) (fun u => cW k z u r.1 r.2.1) (nn r.1 - nn π) (sw r.1 - sw π)) {rec59 : Sh → St → Int → Int → Option (Sh × St × Int)} (krec59 : ∀ {π : Sh} {σ : St} {x2 : Int} {x3 : Int}, Cl π σ → x2 < nn π → rec59 π σ x2 x3 = some r → ext π r.1 ∧ Cl r.1 r.2.1) (hrec59 : ∀ {ls : Array Slot} {H : Heap} {locs : List Loc} {g : Nat → Nat} {π : Sh} {σ : St} {x2 : Int} {x3 : Int}, Cl π σ → gx (nn π0) g0 g → ext π0 π → x2 < nn π → lv_has ls 4 [(0, rfv g 44), (2, rfv g x2), (3, .int (Int32.ofInt x3))] → Hp D A s.heap H locs (cW k z g π σ) → rec59 π σ x2 x3 = some r → W p l e { frames := φ + 5, cells := nn r.1 - nn π0, slots := sw r.1 - sw π0, locals := ψ + 118 } s m args below meth c H locs (nn π - nn π0) (sw π - sw π0) (MQ below (va_Qi (fun v u => gx (nn π0) g0 u ∧ v = Int32.ofInt r.2.2) (fun u t => PostW D (TYs k) A (cW k z u r.1 r.2.1) t) A) args s (nn r.1 - nn π0) (sw r.1 - sw π0) A) (F0 m 59 ls [])) {ls : Array Slot} {H : Heap} {locs : List Loc} {g : Nat → Nat} {π : Sh} {σ : St} {x2 : Int} {x3 : Int} (hC : Cl π σ) (hG : gx (nn π0) g0 g) (hX : ext π0 π) (hv_x2 : x2 < nn π) (hl : lv_has ls 4 [(0, rfv g 44), (2, rfv g x2), (3, .int (Int32.ofInt x3))]) (h : Hp D A s.heap H locs (cW k z g π σ)) (hm : Rd_cat_105 N rArg rFun rec59 π σ x2 x3 = some r) : W p l e { frames := φ + 5, cells := nn r.1 - nn π0, slots := sw r.1 - sw π0, locals := ψ + 118 } s m args below meth c H locs (nn π - nn π0) (sw π - sw π0) (MQ below (va_Qi (fun v u => gx (nn π0) g0 u ∧ v = Int32.ofInt r.2.2) (fun u t => PostW D (TYs k) A (cW k z u r.1 r.2.1) t) A) args s (nn r.1 - nn π0) (sw r.1 - sw π0) A) (F0 m 105 ls []) := by
  have hS := hC.1
  have hq := km_Rd_cat_105 hmrArg hmrFun krec59  hC hv_x2 hm
  rw [Rd_cat_105] at hm
  refine lv_iinc (v := Int32.ofInt (x3 + 1)) (lv' := [(3, .int (Int32.ofInt (x3 + 1))), (0, rfv g 44), (2, rfv g x2)]) C.1 C.2.1 dX6_cat_105 hl (k := 2) rfl (c32_add _ _) (by decide) (by simp [rfv_cat, cat_i, cat_l]) (fun ls hl => ?_)
  refine lv_goto (tgt := 59) C.1 C.2.1 dX6_cat_108 (by decide) ?_
  exact hrec59 hC hG hX hv_x2 (lv_sub hl [1, 2, 0] rfl) h hm
set_option maxHeartbeats 8000000 in
set_option maxRecDepth 100000 in
theorem kl_Rd_cat_100 {r : Sh × St × Int} (C : Cx p s m args c cX6_cat RX6 (cd :: cWd) D (TYs k) 4) (hr : meth.sig.returnType = (some .int)) (hlk : meth.locks = false) (hE : Ev z mi aK aV A s s.heap) {rArg : Sh → St → Option (Sh × St × Int)} {rFun : Sh → St → Option (Sh × St × Int)} (hφ : 260 ≤ φ) (hψ : 12000 ≤ ψ) (hmrArg : ∀ {π : Sh} {σ : St}  {r : Sh × St × Int}, Cl π σ → rArg π σ  = some r → ext π r.1 ∧ Cl r.1 r.2.1) (hcrArg : ∀ {g : Nat → Nat} {π : Sh} {σ : St}  {r : Sh × St × Int}, Cl π σ → rArg π σ  = some r → Mi l yX6_arg (.code yX6_arg cX6_arg 3 (some .int) :: cWd) { frames := φ, cells := nn r.1 - nn π, slots := sw r.1 - sw π, locals := ψ } [rfv g 44] D (TYs k) (cW k z g π σ) (XV z mi aK aV (cW k z g π σ)) (Nat → Nat) (fun v u => gx (nn π) g u ∧ v = Int32.ofInt r.2.2) (fun u => cW k z u r.1 r.2.1) (nn r.1 - nn π) (sw r.1 - sw π)) (hmrFun : ∀ {π : Sh} {σ : St}  {r : Sh × St × Int}, Cl π σ → rFun π σ  = some r → ext π r.1 ∧ Cl r.1 r.2.1 ∧ r.2.2 < nn r.1) (hcrFun : ∀ {g : Nat → Nat} {π : Sh} {σ : St}  {r : Sh × St × Int}, Cl π σ → rFun π σ  = some r → Mq l yX6_fun (.code yX6_fun cX6_fun 5 (some (.object "CycleStudio$Piece")) :: cWd) { frames := φ, cells := nn r.1 - nn π, slots := sw r.1 - sw π, locals := ψ } [rfv g 44] D (TYs k) (cW k z g π σ) (XV z mi aK aV (cW k z g π σ)) (Nat → Nat) (fun v u => gx (nn π) g u ∧ v = rfo u r.2.2) (fun u => cW k z u r.1 r.2.1) (nn r.1 - nn π) (sw r.1 - sw π)) {rec59 : Sh → St → Int → Int → Option (Sh × St × Int)} (krec59 : ∀ {π : Sh} {σ : St} {x2 : Int} {x3 : Int}, Cl π σ → x2 < nn π → rec59 π σ x2 x3 = some r → ext π r.1 ∧ Cl r.1 r.2.1) (hrec59 : ∀ {ls : Array Slot} {H : Heap} {locs : List Loc} {g : Nat → Nat} {π : Sh} {σ : St} {x2 : Int} {x3 : Int}, Cl π σ → gx (nn π0) g0 g → ext π0 π → x2 < nn π → lv_has ls 4 [(0, rfv g 44), (2, rfv g x2), (3, .int (Int32.ofInt x3))] → Hp D A s.heap H locs (cW k z g π σ) → rec59 π σ x2 x3 = some r → W p l e { frames := φ + 5, cells := nn r.1 - nn π0, slots := sw r.1 - sw π0, locals := ψ + 118 } s m args below meth c H locs (nn π - nn π0) (sw π - sw π0) (MQ below (va_Qi (fun v u => gx (nn π0) g0 u ∧ v = Int32.ofInt r.2.2) (fun u t => PostW D (TYs k) A (cW k z u r.1 r.2.1) t) A) args s (nn r.1 - nn π0) (sw r.1 - sw π0) A) (F0 m 59 ls [])) {ls : Array Slot} {H : Heap} {locs : List Loc} {g : Nat → Nat} {π : Sh} {σ : St} {x2 : Int} {x3 : Int} {s0 : Int} {s1 : Int} (hC : Cl π σ) (hG : gx (nn π0) g0 g) (hX : ext π0 π) (hv_x2 : x2 < nn π) (hv_s1 : s1 < nn π) (hl : lv_has ls 4 [(0, rfv g 44), (2, rfv g x2), (3, .int (Int32.ofInt x3))]) (h : Hp D A s.heap H locs (cW k z g π σ)) (hm : Rd_cat_100 N rArg rFun rec59 π σ x2 x3 s0 s1 = some r) : W p l e { frames := φ + 5, cells := nn r.1 - nn π0, slots := sw r.1 - sw π0, locals := ψ + 118 } s m args below meth c H locs (nn π - nn π0) (sw π - sw π0) (MQ below (va_Qi (fun v u => gx (nn π0) g0 u ∧ v = Int32.ofInt r.2.2) (fun u t => PostW D (TYs k) A (cW k z u r.1 r.2.1) t) A) args s (nn r.1 - nn π0) (sw r.1 - sw π0) A) (F0 m 100 ls [.int (Int32.ofInt s0), rfv g s1]) := by
  have hS := hC.1
  have hq := km_Rd_cat_100 hmrArg hmrFun krec59  hC hv_x2 hv_s1 hm
  rw [Rd_cat_100] at hm
  refine lv_iconst (v := Int32.ofInt 1) C.1 C.2.1 dX6_cat_100 (by decide) ?_
  refine lv_iconst (v := Int32.ofInt 1) C.1 C.2.1 dX6_cat_101 (by decide) ?_
  obtain ⟨r37, e38, hm⟩ := obd_s hm
  have q39 := (km_Sp_giveWeighted hC hv_s1 e38)
  obtain ⟨g40, hm⟩ := grd_s hm
  have q := km_Rd_cat_105 hmrArg hmrFun krec59 q39.2 (lt_ext hv_x2 q39.1) hm
  refine c_callVvA C hE h g40 rfl (by decide) (kc_Sp_giveWeighted l D k z mi aK aV g N hC hv_s1 e38) (cwV 3 C.2.2.1 (gS_X6_148 _) rfl rfl rfl hd_X9_giveWeighted ⟨(by show 3 + 1 ≤ φ + 5; omega), (by show 8 + (4 + 11) + 103 ≤ ψ + 118; omega)⟩) rfl hl.1 rfl (Nat.le_of_ble_eq_true rfl) dX6_cat_102 ⟨rcC hX q39.1 q.1, rsC hX q39.1 q.1⟩ (fun u H locs hg h => ?_)
  simp only [← gx_rfv hg (sh_44 hS).2.1, ← gx_rfv hg hv_x2] at hl
  try simp only [← gx_rfv hg (sh_44 hS).2.1, ← gx_rfv hg hv_x2]
  refine W_cast (wcC hX q39.1).symm (wsC hX q39.1).symm ?_
  exact kl_Rd_cat_105 (N := N) C hr hlk hE hφ hψ hmrArg hcrArg hmrFun hcrFun krec59 hrec59 q39.2 (hG.tr hg hX.1) (hX.tr q39.1) (lt_ext hv_x2 q39.1) (lv_sub hl [0, 1, 2] rfl) h hm
set_option maxHeartbeats 8000000 in
set_option maxRecDepth 100000 in
theorem kl_Rd_cat_119 {r : Sh × St × Int} (C : Cx p s m args c cX6_cat RX6 (cd :: cWd) D (TYs k) 4) (hr : meth.sig.returnType = (some .int)) (hlk : meth.locks = false) (hE : Ev z mi aK aV A s s.heap) {rArg : Sh → St → Option (Sh × St × Int)} {rFun : Sh → St → Option (Sh × St × Int)} (hφ : 260 ≤ φ) (hψ : 12000 ≤ ψ) (hmrArg : ∀ {π : Sh} {σ : St}  {r : Sh × St × Int}, Cl π σ → rArg π σ  = some r → ext π r.1 ∧ Cl r.1 r.2.1) (hcrArg : ∀ {g : Nat → Nat} {π : Sh} {σ : St}  {r : Sh × St × Int}, Cl π σ → rArg π σ  = some r → Mi l yX6_arg (.code yX6_arg cX6_arg 3 (some .int) :: cWd) { frames := φ, cells := nn r.1 - nn π, slots := sw r.1 - sw π, locals := ψ } [rfv g 44] D (TYs k) (cW k z g π σ) (XV z mi aK aV (cW k z g π σ)) (Nat → Nat) (fun v u => gx (nn π) g u ∧ v = Int32.ofInt r.2.2) (fun u => cW k z u r.1 r.2.1) (nn r.1 - nn π) (sw r.1 - sw π)) (hmrFun : ∀ {π : Sh} {σ : St}  {r : Sh × St × Int}, Cl π σ → rFun π σ  = some r → ext π r.1 ∧ Cl r.1 r.2.1 ∧ r.2.2 < nn r.1) (hcrFun : ∀ {g : Nat → Nat} {π : Sh} {σ : St}  {r : Sh × St × Int}, Cl π σ → rFun π σ  = some r → Mq l yX6_fun (.code yX6_fun cX6_fun 5 (some (.object "CycleStudio$Piece")) :: cWd) { frames := φ, cells := nn r.1 - nn π, slots := sw r.1 - sw π, locals := ψ } [rfv g 44] D (TYs k) (cW k z g π σ) (XV z mi aK aV (cW k z g π σ)) (Nat → Nat) (fun v u => gx (nn π) g u ∧ v = rfo u r.2.2) (fun u => cW k z u r.1 r.2.1) (nn r.1 - nn π) (sw r.1 - sw π))  {ls : Array Slot} {H : Heap} {locs : List Loc} {g : Nat → Nat} {π : Sh} {σ : St} {s0 : Int} (hC : Cl π σ) (hG : gx (nn π0) g0 g) (hX : ext π0 π)  (hl : lv_has ls 4 []) (h : Hp D A s.heap H locs (cW k z g π σ)) (hm : Rd_cat_119 N rArg rFun π σ s0 = some r) : W p l e { frames := φ + 5, cells := nn r.1 - nn π0, slots := sw r.1 - sw π0, locals := ψ + 118 } s m args below meth c H locs (nn π - nn π0) (sw π - sw π0) (MQ below (va_Qi (fun v u => gx (nn π0) g0 u ∧ v = Int32.ofInt r.2.2) (fun u t => PostW D (TYs k) A (cW k z u r.1 r.2.1) t) A) args s (nn r.1 - nn π0) (sw r.1 - sw π0) A) (F0 m 119 ls [.int (Int32.ofInt s0)]) := by
  have hS := hC.1
  have hq := km_Rd_cat_119 hmrArg hmrFun   hC  hm
  rw [Rd_cat_119] at hm
  cases hm
  exact c_iretA C hG h hr hlk dX6_cat_119 rfl
set_option maxHeartbeats 8000000 in
set_option maxRecDepth 100000 in
theorem kl_Rd_cat_111 {r : Sh × St × Int} (C : Cx p s m args c cX6_cat RX6 (cd :: cWd) D (TYs k) 4) (hr : meth.sig.returnType = (some .int)) (hlk : meth.locks = false) (hE : Ev z mi aK aV A s s.heap) {rArg : Sh → St → Option (Sh × St × Int)} {rFun : Sh → St → Option (Sh × St × Int)} (hφ : 260 ≤ φ) (hψ : 12000 ≤ ψ) (hmrArg : ∀ {π : Sh} {σ : St}  {r : Sh × St × Int}, Cl π σ → rArg π σ  = some r → ext π r.1 ∧ Cl r.1 r.2.1) (hcrArg : ∀ {g : Nat → Nat} {π : Sh} {σ : St}  {r : Sh × St × Int}, Cl π σ → rArg π σ  = some r → Mi l yX6_arg (.code yX6_arg cX6_arg 3 (some .int) :: cWd) { frames := φ, cells := nn r.1 - nn π, slots := sw r.1 - sw π, locals := ψ } [rfv g 44] D (TYs k) (cW k z g π σ) (XV z mi aK aV (cW k z g π σ)) (Nat → Nat) (fun v u => gx (nn π) g u ∧ v = Int32.ofInt r.2.2) (fun u => cW k z u r.1 r.2.1) (nn r.1 - nn π) (sw r.1 - sw π)) (hmrFun : ∀ {π : Sh} {σ : St}  {r : Sh × St × Int}, Cl π σ → rFun π σ  = some r → ext π r.1 ∧ Cl r.1 r.2.1 ∧ r.2.2 < nn r.1) (hcrFun : ∀ {g : Nat → Nat} {π : Sh} {σ : St}  {r : Sh × St × Int}, Cl π σ → rFun π σ  = some r → Mq l yX6_fun (.code yX6_fun cX6_fun 5 (some (.object "CycleStudio$Piece")) :: cWd) { frames := φ, cells := nn r.1 - nn π, slots := sw r.1 - sw π, locals := ψ } [rfv g 44] D (TYs k) (cW k z g π σ) (XV z mi aK aV (cW k z g π σ)) (Nat → Nat) (fun v u => gx (nn π) g u ∧ v = rfo u r.2.2) (fun u => cW k z u r.1 r.2.1) (nn r.1 - nn π) (sw r.1 - sw π))  {ls : Array Slot} {H : Heap} {locs : List Loc} {g : Nat → Nat} {π : Sh} {σ : St} {x2 : Int} (hC : Cl π σ) (hG : gx (nn π0) g0 g) (hX : ext π0 π) (hv_x2 : x2 < nn π) (hl : lv_has ls 4 [(0, rfv g 44), (2, rfv g x2)]) (h : Hp D A s.heap H locs (cW k z g π σ)) (hm : Rd_cat_111 N rArg rFun π σ x2 = some r) : W p l e { frames := φ + 5, cells := nn r.1 - nn π0, slots := sw r.1 - sw π0, locals := ψ + 118 } s m args below meth c H locs (nn π - nn π0) (sw π - sw π0) (MQ below (va_Qi (fun v u => gx (nn π0) g0 u ∧ v = Int32.ofInt r.2.2) (fun u t => PostW D (TYs k) A (cW k z u r.1 r.2.1) t) A) args s (nn r.1 - nn π0) (sw r.1 - sw π0) A) (F0 m 111 ls []) := by
  have hS := hC.1
  have hq := km_Rd_cat_111 hmrArg hmrFun   hC hv_x2 hm
  rw [Rd_cat_111] at hm
  refine z_aload_n C dX6_cat_111 rfl (lv_at hl 0 rfl) ?_
  refine cg_7_4 C h (sh_44 hS) cU_X6 (List.mem_cons_of_mem _ wl_X6_20) dX6_cat_112 ?_
  refine z_aload_n C dX6_cat_115 rfl (lv_at hl 1 rfl) ?_
  obtain ⟨r33, e34, hm⟩ := obd_s hm
  have q35 := (km_Df_add hC (cl_fl hC (f := 144) rfl 44) hv_x2 e34)
  obtain ⟨g36, hm⟩ := grd_s hm
  have q := km_Rd_cat_119 hmrArg hmrFun  q35.2  hm
  refine c_callViA C hE h g36 rfl (by decide) (kc_Df_add l D k z mi aK aV g N hC (cl_fl hC (f := 144) rfl 44) hv_x2 e34) (cwV 1 C.2.2.1 (gS_X6_141 _) rfl rfl rfl hd_X0_add ⟨(by show 7 + 1 ≤ φ + 5; omega), (by show 8 + (2 + 11) + 241 ≤ ψ + 118; omega)⟩) rfl hl.1 rfl (Nat.le_of_ble_eq_true rfl) dX6_cat_116 ⟨rcC hX q35.1 q.1, rsC hX q35.1 q.1⟩ (fun u H locs hg h => ?_)
  simp only [← gx_rfv hg (sh_44 hS).2.1, ← gx_rfv hg hv_x2] at hl
  try simp only [← gx_rfv hg (sh_44 hS).2.1, ← gx_rfv hg hv_x2]
  refine W_cast (wcC hX q35.1).symm (wsC hX q35.1).symm ?_
  exact kl_Rd_cat_119 (N := N) C hr hlk hE hφ hψ hmrArg hcrArg hmrFun hcrFun  q35.2 (hG.tr hg hX.1) (hX.tr q35.1)  (lv_sub hl [] rfl) h hm
set_option maxHeartbeats 8000000 in
set_option maxRecDepth 100000 in
theorem kl_Rd_cat_59 {r : Sh × St × Int} (C : Cx p s m args c cX6_cat RX6 (cd :: cWd) D (TYs k) 4) (hr : meth.sig.returnType = (some .int)) (hlk : meth.locks = false) (hE : Ev z mi aK aV A s s.heap) {rArg : Sh → St → Option (Sh × St × Int)} {rFun : Sh → St → Option (Sh × St × Int)} (hφ : 260 ≤ φ) (hψ : 12000 ≤ ψ) (hmrArg : ∀ {π : Sh} {σ : St}  {r : Sh × St × Int}, Cl π σ → rArg π σ  = some r → ext π r.1 ∧ Cl r.1 r.2.1) (hcrArg : ∀ {g : Nat → Nat} {π : Sh} {σ : St}  {r : Sh × St × Int}, Cl π σ → rArg π σ  = some r → Mi l yX6_arg (.code yX6_arg cX6_arg 3 (some .int) :: cWd) { frames := φ, cells := nn r.1 - nn π, slots := sw r.1 - sw π, locals := ψ } [rfv g 44] D (TYs k) (cW k z g π σ) (XV z mi aK aV (cW k z g π σ)) (Nat → Nat) (fun v u => gx (nn π) g u ∧ v = Int32.ofInt r.2.2) (fun u => cW k z u r.1 r.2.1) (nn r.1 - nn π) (sw r.1 - sw π)) (hmrFun : ∀ {π : Sh} {σ : St}  {r : Sh × St × Int}, Cl π σ → rFun π σ  = some r → ext π r.1 ∧ Cl r.1 r.2.1 ∧ r.2.2 < nn r.1) (hcrFun : ∀ {g : Nat → Nat} {π : Sh} {σ : St}  {r : Sh × St × Int}, Cl π σ → rFun π σ  = some r → Mq l yX6_fun (.code yX6_fun cX6_fun 5 (some (.object "CycleStudio$Piece")) :: cWd) { frames := φ, cells := nn r.1 - nn π, slots := sw r.1 - sw π, locals := ψ } [rfv g 44] D (TYs k) (cW k z g π σ) (XV z mi aK aV (cW k z g π σ)) (Nat → Nat) (fun v u => gx (nn π) g u ∧ v = rfo u r.2.2) (fun u => cW k z u r.1 r.2.1) (nn r.1 - nn π) (sw r.1 - sw π))  (n : Nat) : ∀ {ls : Array Slot} {H : Heap} {locs : List Loc} {g : Nat → Nat} {π : Sh} {σ : St} {x2 : Int} {x3 : Int}, Cl π σ → gx (nn π0) g0 g → ext π0 π → x2 < nn π → lv_has ls 4 [(0, rfv g 44), (2, rfv g x2), (3, .int (Int32.ofInt x3))] → Hp D A s.heap H locs (cW k z g π σ) → Rd_cat_59 N rArg rFun n π σ x2 x3 = some r → W p l e { frames := φ + 5, cells := nn r.1 - nn π0, slots := sw r.1 - sw π0, locals := ψ + 118 } s m args below meth c H locs (nn π - nn π0) (sw π - sw π0) (MQ below (va_Qi (fun v u => gx (nn π0) g0 u ∧ v = Int32.ofInt r.2.2) (fun u t => PostW D (TYs k) A (cW k z u r.1 r.2.1) t) A) args s (nn r.1 - nn π0) (sw r.1 - sw π0) A) (F0 m 59 ls []) := by
  induction n with
  | zero => intro ls H locs g π σ x2 x3 hC hG hX hv_x2 hl h hm; cases (show none = some r from hm)
  | succ n hrec59 =>
    intro ls H locs g π σ x2 x3 hC hG hX hv_x2 hl h hm
    have hS := hC.1
    have hq := km_Rd_cat_59 hmrArg hmrFun  (n + 1) hC hv_x2 hm
    have krec59 : ∀ {π : Sh} {σ : St} {x2 : Int} {x3 : Int}, Cl π σ → x2 < nn π → Rd_cat_59 N rArg rFun n π σ x2 x3 = some r → ext π r.1 ∧ Cl r.1 r.2.1 := fun {_ _} {_} {_} => km_Rd_cat_59 hmrArg hmrFun  n
    rw [Rd_cat_59] at hm
    refine lv_iload_n C.1 C.2.1 dX6_cat_59 rfl (lv_at hl 2 rfl) ?_
    refine lv_sipush (v := Int32.ofInt 2000) C.1 C.2.1 dX6_cat_60 (by decide) ?_
    obtain ⟨g20, hm⟩ := grd_s hm
    refine z_icmp_ge (tgt := 111) C dX6_cat_63 (by decide) g20 (by decide) (fun c21 => ?_) (fun c21 => ?_)
    · have hm := ite_f c21 hm
      exact kl_Rd_cat_111 (N := N) C hr hlk hE hφ hψ hmrArg hcrArg hmrFun hcrFun hC hG hX hv_x2 (lv_sub hl [0, 1] rfl) h hm
    · have hm := ite_t c21 hm
      refine z_aload_n C dX6_cat_66 rfl (lv_at hl 0 rfl) ?_
      refine cg_7_0 C h (sh_44 hS) cU_X6 (List.mem_cons_of_mem _ wl_X6_31) dX6_cat_67 ?_
      refine cg_9_2 C h (sh_1 hS) cU_X8 (List.mem_cons_of_mem _ wl_X6_72) dX6_cat_70 ?_
      obtain ⟨g22, hm⟩ := grd_s hm
      refine z_if_ne (tgt := 111) C dX6_cat_73 (by decide) g22 (fun c23 => ?_) (fun c23 => ?_)
      · have hm := ite_f c23 hm
        exact kl_Rd_cat_111 (N := N) C hr hlk hE hφ hψ hmrArg hcrArg hmrFun hcrFun hC hG hX hv_x2 (lv_sub hl [0, 1] rfl) h hm
      · have hm := ite_t c23 hm
        refine z_aload_n C dX6_cat_76 rfl (lv_at hl 0 rfl) ?_
        refine cg_7_0 C h (sh_44 hS) cU_X6 (List.mem_cons_of_mem _ wl_X6_31) dX6_cat_77 ?_
        refine cg_9_5 C h (sh_1 hS) cU_X8 (List.mem_cons_of_mem _ wl_X6_66) dX6_cat_80 ?_
        refine lv_bipush (v := Int32.ofInt 59) C.1 C.2.1 dX6_cat_83 (by decide) ?_
        obtain ⟨g24, hm⟩ := grd_s hm
        refine z_icmp_ne (tgt := 111) C dX6_cat_85 (by decide) g24 (by decide) (fun c25 => ?_) (fun c25 => ?_)
        · have hm := ite_f c25 hm
          exact kl_Rd_cat_111 (N := N) C hr hlk hE hφ hψ hmrArg hcrArg hmrFun hcrFun hC hG hX hv_x2 (lv_sub hl [0, 1] rfl) h hm
        · have hm := ite_t c25 hm
          refine z_aload_n C dX6_cat_88 rfl (lv_at hl 0 rfl) ?_
          refine cg_7_0 C h (sh_44 hS) cU_X6 (List.mem_cons_of_mem _ wl_X6_31) dX6_cat_89 ?_
          obtain ⟨r26, e27, hm⟩ := obd_s hm
          have q28 := (km_Sc_advance hC e27)
          refine c_callVvP C hE h (sh_1 hS) rfl (by decide) (kc_Sc_advance l D k z mi aK aV g N hS e27) (cwV 0 C.2.2.1 (gS_X6_88 _) rfl rfl rfl hd_X8_advance ⟨(by show 3 + 1 ≤ φ + 5; omega), (by show 8 + (2 + 11) + 67 ≤ ψ + 118; omega)⟩) rfl hl.1 rfl (Nat.le_of_ble_eq_true rfl) dX6_cat_92 ⟨(czz hX hq.1), (szz hX hq.1)⟩ (fun H locs h => ?_)
          have hC29 : Cl π r26 := q28
          refine z_aload_n C dX6_cat_95 rfl (lv_at hl 1 rfl) ?_
          refine z_aload_n C dX6_cat_96 rfl (lv_at hl 0 rfl) ?_
          obtain ⟨r30, e31, hm⟩ := obd_s hm
          have q32 := (km_Rd_sum hmrArg hmrFun hC29 e31)
          have q := km_Rd_cat_100 hmrArg hmrFun krec59 q32.2 (lt_ext hv_x2 q32.1) (lt_ext hv_x2 q32.1) hm
          refine c_callViA C hE h (sh_44 hS) rfl (by decide) (kc_Rd_sum l D k z mi aK aV g N hφ hψ hmrArg hcrArg hmrFun hcrFun hC29 e31) (cwV 0 C.2.2.1 (gS_X6_145 _) rfl rfl rfl hd_X6_sum ⟨(by show φ + 4 + 1 ≤ φ + 5; omega), (by show 8 + (4 + 11) + (ψ + 95) ≤ ψ + 118; omega)⟩) rfl hl.1 rfl (by simp [rfv_cat, cat_i, cat_l]) dX6_cat_97 ⟨rcC hX q32.1 q.1, rsC hX q32.1 q.1⟩ (fun u H locs hg h => ?_)
          simp only [← gx_rfv hg (sh_44 hS).2.1, ← gx_rfv hg hv_x2] at hl
          try simp only [← gx_rfv hg (sh_44 hS).2.1, ← gx_rfv hg hv_x2]
          refine W_cast (wcC hX q32.1).symm (wsC hX q32.1).symm ?_
          exact kl_Rd_cat_100 (N := N) C hr hlk hE hφ hψ hmrArg hcrArg hmrFun hcrFun krec59 hrec59 q32.2 (hG.tr hg hX.1) (hX.tr q32.1) (lt_ext hv_x2 q32.1) (lt_ext hv_x2 q32.1) (lv_sub hl [0, 1, 2] rfl) h hm
set_option maxHeartbeats 8000000 in
set_option maxRecDepth 100000 in
theorem kl_Rd_cat_57 {r : Sh × St × Int} (C : Cx p s m args c cX6_cat RX6 (cd :: cWd) D (TYs k) 4) (hr : meth.sig.returnType = (some .int)) (hlk : meth.locks = false) (hE : Ev z mi aK aV A s s.heap) {rArg : Sh → St → Option (Sh × St × Int)} {rFun : Sh → St → Option (Sh × St × Int)} (hφ : 260 ≤ φ) (hψ : 12000 ≤ ψ) (hmrArg : ∀ {π : Sh} {σ : St}  {r : Sh × St × Int}, Cl π σ → rArg π σ  = some r → ext π r.1 ∧ Cl r.1 r.2.1) (hcrArg : ∀ {g : Nat → Nat} {π : Sh} {σ : St}  {r : Sh × St × Int}, Cl π σ → rArg π σ  = some r → Mi l yX6_arg (.code yX6_arg cX6_arg 3 (some .int) :: cWd) { frames := φ, cells := nn r.1 - nn π, slots := sw r.1 - sw π, locals := ψ } [rfv g 44] D (TYs k) (cW k z g π σ) (XV z mi aK aV (cW k z g π σ)) (Nat → Nat) (fun v u => gx (nn π) g u ∧ v = Int32.ofInt r.2.2) (fun u => cW k z u r.1 r.2.1) (nn r.1 - nn π) (sw r.1 - sw π)) (hmrFun : ∀ {π : Sh} {σ : St}  {r : Sh × St × Int}, Cl π σ → rFun π σ  = some r → ext π r.1 ∧ Cl r.1 r.2.1 ∧ r.2.2 < nn r.1) (hcrFun : ∀ {g : Nat → Nat} {π : Sh} {σ : St}  {r : Sh × St × Int}, Cl π σ → rFun π σ  = some r → Mq l yX6_fun (.code yX6_fun cX6_fun 5 (some (.object "CycleStudio$Piece")) :: cWd) { frames := φ, cells := nn r.1 - nn π, slots := sw r.1 - sw π, locals := ψ } [rfv g 44] D (TYs k) (cW k z g π σ) (XV z mi aK aV (cW k z g π σ)) (Nat → Nat) (fun v u => gx (nn π) g u ∧ v = rfo u r.2.2) (fun u => cW k z u r.1 r.2.1) (nn r.1 - nn π) (sw r.1 - sw π))  {ls : Array Slot} {H : Heap} {locs : List Loc} {g : Nat → Nat} {π : Sh} {σ : St} {x2 : Int} (hC : Cl π σ) (hG : gx (nn π0) g0 g) (hX : ext π0 π) (hv_x2 : x2 < nn π) (hl : lv_has ls 4 [(0, rfv g 44), (2, rfv g x2)]) (h : Hp D A s.heap H locs (cW k z g π σ)) (hm : Rd_cat_57 N rArg rFun π σ x2 = some r) : W p l e { frames := φ + 5, cells := nn r.1 - nn π0, slots := sw r.1 - sw π0, locals := ψ + 118 } s m args below meth c H locs (nn π - nn π0) (sw π - sw π0) (MQ below (va_Qi (fun v u => gx (nn π0) g0 u ∧ v = Int32.ofInt r.2.2) (fun u t => PostW D (TYs k) A (cW k z u r.1 r.2.1) t) A) args s (nn r.1 - nn π0) (sw r.1 - sw π0) A) (F0 m 57 ls []) := by
  have hS := hC.1
  have hq := km_Rd_cat_57 hmrArg hmrFun   hC hv_x2 hm
  rw [Rd_cat_57] at hm
  refine lv_iconst (v := Int32.ofInt 0) C.1 C.2.1 dX6_cat_57 (by decide) ?_
  refine lv_istore_n (i := 3) (lv' := [(3, .int (Int32.ofInt 0)), (0, rfv g 44), (2, rfv g x2)]) C.1 C.2.1 dX6_cat_58 rfl hl (by decide) (by simp [rfv_cat, cat_i, cat_l]) (fun ls hl => ?_)
  exact kl_Rd_cat_59 (N := N) C hr hlk hE hφ hψ hmrArg hcrArg hmrFun hcrFun N hC hG hX hv_x2 (lv_sub hl [1, 2, 0] rfl) h hm
set_option maxHeartbeats 8000000 in
set_option maxRecDepth 100000 in
theorem kl_Rd_cat_44 {r : Sh × St × Int} (C : Cx p s m args c cX6_cat RX6 (cd :: cWd) D (TYs k) 4) (hr : meth.sig.returnType = (some .int)) (hlk : meth.locks = false) (hE : Ev z mi aK aV A s s.heap) {rArg : Sh → St → Option (Sh × St × Int)} {rFun : Sh → St → Option (Sh × St × Int)} (hφ : 260 ≤ φ) (hψ : 12000 ≤ ψ) (hmrArg : ∀ {π : Sh} {σ : St}  {r : Sh × St × Int}, Cl π σ → rArg π σ  = some r → ext π r.1 ∧ Cl r.1 r.2.1) (hcrArg : ∀ {g : Nat → Nat} {π : Sh} {σ : St}  {r : Sh × St × Int}, Cl π σ → rArg π σ  = some r → Mi l yX6_arg (.code yX6_arg cX6_arg 3 (some .int) :: cWd) { frames := φ, cells := nn r.1 - nn π, slots := sw r.1 - sw π, locals := ψ } [rfv g 44] D (TYs k) (cW k z g π σ) (XV z mi aK aV (cW k z g π σ)) (Nat → Nat) (fun v u => gx (nn π) g u ∧ v = Int32.ofInt r.2.2) (fun u => cW k z u r.1 r.2.1) (nn r.1 - nn π) (sw r.1 - sw π)) (hmrFun : ∀ {π : Sh} {σ : St}  {r : Sh × St × Int}, Cl π σ → rFun π σ  = some r → ext π r.1 ∧ Cl r.1 r.2.1 ∧ r.2.2 < nn r.1) (hcrFun : ∀ {g : Nat → Nat} {π : Sh} {σ : St}  {r : Sh × St × Int}, Cl π σ → rFun π σ  = some r → Mq l yX6_fun (.code yX6_fun cX6_fun 5 (some (.object "CycleStudio$Piece")) :: cWd) { frames := φ, cells := nn r.1 - nn π, slots := sw r.1 - sw π, locals := ψ } [rfv g 44] D (TYs k) (cW k z g π σ) (XV z mi aK aV (cW k z g π σ)) (Nat → Nat) (fun v u => gx (nn π) g u ∧ v = rfo u r.2.2) (fun u => cW k z u r.1 r.2.1) (nn r.1 - nn π) (sw r.1 - sw π))  {ls : Array Slot} {H : Heap} {locs : List Loc} {g : Nat → Nat} {π : Sh} {σ : St} {x1 : Int} {s0 : Int} (hC : Cl π σ) (hG : gx (nn π0) g0 g) (hX : ext π0 π) (hv_s0 : s0 < nn π) (hl : lv_has ls 4 [(0, rfv g 44), (1, .int (Int32.ofInt x1))]) (h : Hp D A s.heap H locs (cW k z g π σ)) (hm : Rd_cat_44 N rArg rFun π σ x1 s0 = some r) : W p l e { frames := φ + 5, cells := nn r.1 - nn π0, slots := sw r.1 - sw π0, locals := ψ + 118 } s m args below meth c H locs (nn π - nn π0) (sw π - sw π0) (MQ below (va_Qi (fun v u => gx (nn π0) g0 u ∧ v = Int32.ofInt r.2.2) (fun u t => PostW D (TYs k) A (cW k z u r.1 r.2.1) t) A) args s (nn r.1 - nn π0) (sw r.1 - sw π0) A) (F0 m 44 ls [rfv g s0]) := by
  have hS := hC.1
  have hq := km_Rd_cat_44 hmrArg hmrFun   hC hv_s0 hm
  rw [Rd_cat_44] at hm
  refine z_astore_n (lv' := [(2, rfv g s0), (0, rfv g 44), (1, .int (Int32.ofInt x1))]) C dX6_cat_44 rfl hl (by decide) rfl (fun ls hl => ?_)
  refine z_aload_n C dX6_cat_45 rfl (lv_at hl 0 rfl) ?_
  refine lv_iconst (v := Int32.ofInt 1) C.1 C.2.1 dX6_cat_46 (by decide) ?_
  obtain ⟨g13, hm⟩ := grd_s hm
  refine cp_10_6 C h g13 (by decide) cU_X9 (List.mem_cons_of_mem _ wl_X6_133) dX6_cat_47 (fun H locs h => ?_)
  refine z_aload_n C dX6_cat_50 rfl (lv_at hl 0 rfl) ?_
  refine lv_iload_n C.1 C.2.1 dX6_cat_51 rfl (lv_at hl 2 rfl) ?_
  refine lv_iconst (v := Int32.ofInt 1) C.1 C.2.1 dX6_cat_52 (by decide) ?_
  refine lv_iconst (v := Int32.ofInt 1) C.1 C.2.1 dX6_cat_53 (by decide) ?_
  obtain ⟨σ14, e15, hm⟩ := bnd_s hm
  rw [e15] at h
  have hC16 : Cl π σ14 := e15 ▸ (cl_sfI hC (f := 206) rfl _ _)
  obtain ⟨r17, e18, hm⟩ := obd_s hm
  have q19 := (km_Sp_giveWeighted hC16 hv_s0 e18)
  have q := km_Rd_cat_57 hmrArg hmrFun  q19.2 (lt_ext hv_s0 q19.1) hm
  refine c_callVvA C hE h g13 rfl (by decide) (kc_Sp_giveWeighted l D k z mi aK aV g N hC16 hv_s0 e18) (cwV 3 C.2.2.1 (gS_X6_148 _) rfl rfl rfl hd_X9_giveWeighted ⟨(by show 3 + 1 ≤ φ + 5; omega), (by show 8 + (4 + 11) + 103 ≤ ψ + 118; omega)⟩) rfl hl.1 rfl (Nat.le_of_ble_eq_true rfl) dX6_cat_54 ⟨rcC hX q19.1 q.1, rsC hX q19.1 q.1⟩ (fun u H locs hg h => ?_)
  simp only [← gx_rfv hg hv_s0, ← gx_rfv hg (sh_44 hS).2.1] at hl
  try simp only [← gx_rfv hg hv_s0, ← gx_rfv hg (sh_44 hS).2.1]
  refine W_cast (wcC hX q19.1).symm (wsC hX q19.1).symm ?_
  exact kl_Rd_cat_57 (N := N) C hr hlk hE hφ hψ hmrArg hcrArg hmrFun hcrFun  q19.2 (hG.tr hg hX.1) (hX.tr q19.1) (lt_ext hv_s0 q19.1) (lv_sub hl [1, 0] rfl) h hm
set_option maxHeartbeats 8000000 in
set_option maxRecDepth 100000 in
theorem kl_Rd_cat_32 {r : Sh × St × Int} (C : Cx p s m args c cX6_cat RX6 (cd :: cWd) D (TYs k) 4) (hr : meth.sig.returnType = (some .int)) (hlk : meth.locks = false) (hE : Ev z mi aK aV A s s.heap) {rArg : Sh → St → Option (Sh × St × Int)} {rFun : Sh → St → Option (Sh × St × Int)} (hφ : 260 ≤ φ) (hψ : 12000 ≤ ψ) (hmrArg : ∀ {π : Sh} {σ : St}  {r : Sh × St × Int}, Cl π σ → rArg π σ  = some r → ext π r.1 ∧ Cl r.1 r.2.1) (hcrArg : ∀ {g : Nat → Nat} {π : Sh} {σ : St}  {r : Sh × St × Int}, Cl π σ → rArg π σ  = some r → Mi l yX6_arg (.code yX6_arg cX6_arg 3 (some .int) :: cWd) { frames := φ, cells := nn r.1 - nn π, slots := sw r.1 - sw π, locals := ψ } [rfv g 44] D (TYs k) (cW k z g π σ) (XV z mi aK aV (cW k z g π σ)) (Nat → Nat) (fun v u => gx (nn π) g u ∧ v = Int32.ofInt r.2.2) (fun u => cW k z u r.1 r.2.1) (nn r.1 - nn π) (sw r.1 - sw π)) (hmrFun : ∀ {π : Sh} {σ : St}  {r : Sh × St × Int}, Cl π σ → rFun π σ  = some r → ext π r.1 ∧ Cl r.1 r.2.1 ∧ r.2.2 < nn r.1) (hcrFun : ∀ {g : Nat → Nat} {π : Sh} {σ : St}  {r : Sh × St × Int}, Cl π σ → rFun π σ  = some r → Mq l yX6_fun (.code yX6_fun cX6_fun 5 (some (.object "CycleStudio$Piece")) :: cWd) { frames := φ, cells := nn r.1 - nn π, slots := sw r.1 - sw π, locals := ψ } [rfv g 44] D (TYs k) (cW k z g π σ) (XV z mi aK aV (cW k z g π σ)) (Nat → Nat) (fun v u => gx (nn π) g u ∧ v = rfo u r.2.2) (fun u => cW k z u r.1 r.2.1) (nn r.1 - nn π) (sw r.1 - sw π))  {ls : Array Slot} {H : Heap} {locs : List Loc} {g : Nat → Nat} {π : Sh} {σ : St} {x1 : Int} {s0 : Int} (hC : Cl π σ) (hG : gx (nn π0) g0 g) (hX : ext π0 π) (hv_s0 : s0 < nn π) (hl : lv_has ls 4 [(0, rfv g 44), (1, .int (Int32.ofInt x1))]) (h : Hp D A s.heap H locs (cW k z g π σ)) (hm : Rd_cat_32 N rArg rFun π σ x1 s0 = some r) : W p l e { frames := φ + 5, cells := nn r.1 - nn π0, slots := sw r.1 - sw π0, locals := ψ + 118 } s m args below meth c H locs (nn π - nn π0) (sw π - sw π0) (MQ below (va_Qi (fun v u => gx (nn π0) g0 u ∧ v = Int32.ofInt r.2.2) (fun u t => PostW D (TYs k) A (cW k z u r.1 r.2.1) t) A) args s (nn r.1 - nn π0) (sw r.1 - sw π0) A) (F0 m 32 ls [rfv g s0]) := by
  have hS := hC.1
  have hq := km_Rd_cat_32 hmrArg hmrFun   hC hv_s0 hm
  rw [Rd_cat_32] at hm
  refine lv_dup C.1 C.2.1 dX6_cat_32 (rfv_cat _ _) ?_
  refine lv_iconst (v := Int32.ofInt 5) C.1 C.2.1 dX6_cat_33 (by decide) ?_
  refine z_aload_n C dX6_cat_34 rfl (lv_at hl 0 rfl) ?_
  refine cg_7_0 C h (sh_44 hS) cU_X6 (List.mem_cons_of_mem _ wl_X6_31) dX6_cat_35 ?_
  refine cg_9_6 C h (sh_1 hS) cU_X8 (List.mem_cons_of_mem _ wl_X6_81) dX6_cat_38 ?_
  obtain ⟨r9, e10, hm⟩ := obd_s hm
  have q11 := (km_Sp_init hC hv_s0 e10)
  obtain ⟨g12, hm⟩ := grd_s hm
  have q := km_Rd_cat_44 hmrArg hmrFun  q11.2 (lt_ext hv_s0 q11.1) hm
  refine c_callIvA C hE h g12 (kc_Sp_init l D k z mi aK aV g N hC hv_s0 e10) (cwI 2 C.2.2.1 (gC_X9_init _) rfl rfl rfl (C.2.2.1 _ (List.mem_cons_of_mem _ wt_X9)) (C.2.2.1 _ (List.mem_cons_of_mem _ wm_X6_131)) (C.2.2.1 _ (List.mem_cons_of_mem _ wj_X9_init)) rfl hdS_X9_init ⟨(by show 1 + 1 ≤ φ + 5; omega), (by show 8 + (3 + 11) + 30 ≤ ψ + 118; omega)⟩) rfl hl.1 rfl (by simp [rfv_cat, cat_i, cat_l]) dX6_cat_41 ⟨rcC hX q11.1 q.1, rsC hX q11.1 q.1⟩ (fun u H locs hg h => ?_)
  simp only [← gx_rfv hg (sh_44 hS).2.1, ← gx_rfv hg hv_s0] at hl
  try simp only [← gx_rfv hg (sh_44 hS).2.1, ← gx_rfv hg hv_s0]
  refine W_cast (wcC hX q11.1).symm (wsC hX q11.1).symm ?_
  exact kl_Rd_cat_44 (N := N) C hr hlk hE hφ hψ hmrArg hcrArg hmrFun hcrFun  q11.2 (hG.tr hg hX.1) (hX.tr q11.1) (lt_ext hv_s0 q11.1) (lv_sub hl [0, 1] rfl) h hm
set_option maxHeartbeats 8000000 in
set_option maxRecDepth 100000 in
theorem kl_Rd_cat_4 {r : Sh × St × Int} (C : Cx p s m args c cX6_cat RX6 (cd :: cWd) D (TYs k) 4) (hr : meth.sig.returnType = (some .int)) (hlk : meth.locks = false) (hE : Ev z mi aK aV A s s.heap) {rArg : Sh → St → Option (Sh × St × Int)} {rFun : Sh → St → Option (Sh × St × Int)} (hφ : 260 ≤ φ) (hψ : 12000 ≤ ψ) (hmrArg : ∀ {π : Sh} {σ : St}  {r : Sh × St × Int}, Cl π σ → rArg π σ  = some r → ext π r.1 ∧ Cl r.1 r.2.1) (hcrArg : ∀ {g : Nat → Nat} {π : Sh} {σ : St}  {r : Sh × St × Int}, Cl π σ → rArg π σ  = some r → Mi l yX6_arg (.code yX6_arg cX6_arg 3 (some .int) :: cWd) { frames := φ, cells := nn r.1 - nn π, slots := sw r.1 - sw π, locals := ψ } [rfv g 44] D (TYs k) (cW k z g π σ) (XV z mi aK aV (cW k z g π σ)) (Nat → Nat) (fun v u => gx (nn π) g u ∧ v = Int32.ofInt r.2.2) (fun u => cW k z u r.1 r.2.1) (nn r.1 - nn π) (sw r.1 - sw π)) (hmrFun : ∀ {π : Sh} {σ : St}  {r : Sh × St × Int}, Cl π σ → rFun π σ  = some r → ext π r.1 ∧ Cl r.1 r.2.1 ∧ r.2.2 < nn r.1) (hcrFun : ∀ {g : Nat → Nat} {π : Sh} {σ : St}  {r : Sh × St × Int}, Cl π σ → rFun π σ  = some r → Mq l yX6_fun (.code yX6_fun cX6_fun 5 (some (.object "CycleStudio$Piece")) :: cWd) { frames := φ, cells := nn r.1 - nn π, slots := sw r.1 - sw π, locals := ψ } [rfv g 44] D (TYs k) (cW k z g π σ) (XV z mi aK aV (cW k z g π σ)) (Nat → Nat) (fun v u => gx (nn π) g u ∧ v = rfo u r.2.2) (fun u => cW k z u r.1 r.2.1) (nn r.1 - nn π) (sw r.1 - sw π))  {ls : Array Slot} {H : Heap} {locs : List Loc} {g : Nat → Nat} {π : Sh} {σ : St} {s0 : Int} (hC : Cl π σ) (hG : gx (nn π0) g0 g) (hX : ext π0 π)  (hl : lv_has ls 4 [(0, rfv g 44)]) (h : Hp D A s.heap H locs (cW k z g π σ)) (hm : Rd_cat_4 N rArg rFun π σ s0 = some r) : W p l e { frames := φ + 5, cells := nn r.1 - nn π0, slots := sw r.1 - sw π0, locals := ψ + 118 } s m args below meth c H locs (nn π - nn π0) (sw π - sw π0) (MQ below (va_Qi (fun v u => gx (nn π0) g0 u ∧ v = Int32.ofInt r.2.2) (fun u t => PostW D (TYs k) A (cW k z u r.1 r.2.1) t) A) args s (nn r.1 - nn π0) (sw r.1 - sw π0) A) (F0 m 4 ls [.int (Int32.ofInt s0)]) := by
  have hS := hC.1
  have hq := km_Rd_cat_4 hmrArg hmrFun   hC  hm
  rw [Rd_cat_4] at hm
  refine lv_istore_n (i := 1) (lv' := [(1, .int (Int32.ofInt s0)), (0, rfv g 44)]) C.1 C.2.1 dX6_cat_4 rfl hl (by decide) (by simp [rfv_cat, cat_i, cat_l]) (fun ls hl => ?_)
  refine z_aload_n C dX6_cat_5 rfl (lv_at hl 1 rfl) ?_
  refine cg_7_0 C h (sh_44 hS) cU_X6 (List.mem_cons_of_mem _ wl_X6_31) dX6_cat_6 ?_
  refine cg_9_2 C h (sh_1 hS) cU_X8 (List.mem_cons_of_mem _ wl_X6_72) dX6_cat_9 ?_
  obtain ⟨g4, hm⟩ := grd_s hm
  refine z_if_ne (tgt := 27) C dX6_cat_12 (by decide) g4 (fun c5 => ?_) (fun c5 => ?_)
  · have hm := ite_f c5 hm
    refine lv_iload_n C.1 C.2.1 dX6_cat_27 rfl (lv_at hl 0 rfl) ?_
    cases hm
    exact c_iretA C hG h hr hlk dX6_cat_28 rfl
  · have hm := ite_t c5 hm
    refine z_aload_n C dX6_cat_15 rfl (lv_at hl 1 rfl) ?_
    refine cg_7_0 C h (sh_44 hS) cU_X6 (List.mem_cons_of_mem _ wl_X6_31) dX6_cat_16 ?_
    refine cg_9_5 C h (sh_1 hS) cU_X8 (List.mem_cons_of_mem _ wl_X6_66) dX6_cat_19 ?_
    refine lv_bipush (v := Int32.ofInt 59) C.1 C.2.1 dX6_cat_22 (by decide) ?_
    obtain ⟨g6, hm⟩ := grd_s hm
    refine z_icmp_eq (tgt := 29) C dX6_cat_24 (by decide) g6 (by decide) (fun c7 => ?_) (fun c7 => ?_)
    · have hm := ite_t c7 hm
      have q := km_Rd_cat_32 hmrArg hmrFun  ((cl_nO hC (by decide) (by decide) _)) lt_nO hm
      refine c_new C h hC (by decide) dX6_cat_29 rfl cU_X9 tyX9_ok (List.mem_cons_of_mem _ wn_X6_129) (List.mem_cons_of_mem _ wi_X9) (List.mem_cons_of_mem _ wt_X9) (df_X9) (dn_X9 z) (rc1 hX q.1) (rs1 hX q.1) (fun u H hg h => ?_)
      simp only [← gx_rfv hg (sh_44 hS).2.1] at hl
      try simp only [← gx_rfv hg (sh_44 hS).2.1]
      refine W_cast (wcO (c := 10) (w := 14) hX).symm (wsO (c := 10) (w := 14) hX).symm ?_
      exact kl_Rd_cat_32 (N := N) C hr hlk hE hφ hψ hmrArg hcrArg hmrFun hcrFun  ((cl_nO hC (by decide) (by decide) _)) (hG.tr hg hX.1) (hX.tr (ext_nO π 10 14)) lt_nO (lv_sub hl [1, 0] rfl) h hm
    · have hm := ite_f c7 hm
      refine lv_iload_n C.1 C.2.1 dX6_cat_27 rfl (lv_at hl 0 rfl) ?_
      cases hm
      exact c_iretA C hG h hr hlk dX6_cat_28 rfl
set_option maxHeartbeats 8000000 in
set_option maxRecDepth 100000 in
theorem kc_Rd_cat (l : Launch) (D : va_G) (k : Nat → ClassId) (z mi : Nat) (aK aV : Nat → Nat) (g : Nat → Nat) (N : Nat) {φ ψ : Nat} {rArg : Sh → St → Option (Sh × St × Int)} {rFun : Sh → St → Option (Sh × St × Int)} (hφ : 260 ≤ φ) (hψ : 12000 ≤ ψ) (hmrArg : ∀ {π : Sh} {σ : St}  {r : Sh × St × Int}, Cl π σ → rArg π σ  = some r → ext π r.1 ∧ Cl r.1 r.2.1) (hcrArg : ∀ {g : Nat → Nat} {π : Sh} {σ : St}  {r : Sh × St × Int}, Cl π σ → rArg π σ  = some r → Mi l yX6_arg (.code yX6_arg cX6_arg 3 (some .int) :: cWd) { frames := φ, cells := nn r.1 - nn π, slots := sw r.1 - sw π, locals := ψ } [rfv g 44] D (TYs k) (cW k z g π σ) (XV z mi aK aV (cW k z g π σ)) (Nat → Nat) (fun v u => gx (nn π) g u ∧ v = Int32.ofInt r.2.2) (fun u => cW k z u r.1 r.2.1) (nn r.1 - nn π) (sw r.1 - sw π)) (hmrFun : ∀ {π : Sh} {σ : St}  {r : Sh × St × Int}, Cl π σ → rFun π σ  = some r → ext π r.1 ∧ Cl r.1 r.2.1 ∧ r.2.2 < nn r.1) (hcrFun : ∀ {g : Nat → Nat} {π : Sh} {σ : St}  {r : Sh × St × Int}, Cl π σ → rFun π σ  = some r → Mq l yX6_fun (.code yX6_fun cX6_fun 5 (some (.object "CycleStudio$Piece")) :: cWd) { frames := φ, cells := nn r.1 - nn π, slots := sw r.1 - sw π, locals := ψ } [rfv g 44] D (TYs k) (cW k z g π σ) (XV z mi aK aV (cW k z g π σ)) (Nat → Nat) (fun v u => gx (nn π) g u ∧ v = rfo u r.2.2) (fun u => cW k z u r.1 r.2.1) (nn r.1 - nn π) (sw r.1 - sw π)) {π : Sh} {σ : St}  {r : Sh × St × Int} (hC : Cl π σ)  (hm : Rd_cat N rArg rFun π σ  = some r) : Mi l yX6_cat (.code yX6_cat cX6_cat 4 (some .int) :: cWd) { frames := φ + 5, cells := nn r.1 - nn π, slots := sw r.1 - sw π, locals := ψ + 118 } [rfv g 44] D (TYs k) (cW k z g π σ) (XV z mi aK aV (cW k z g π σ)) (Nat → Nat) (fun v u => gx (nn π) g u ∧ v = Int32.ofInt r.2.2) (fun u => cW k z u r.1 r.2.1) (nn r.1 - nn π) (sw r.1 - sw π) := by
  have hS := hC.1
  have hq := km_Rd_cat hmrArg hmrFun hC  hm
  intro sz
  refine v_met (cc := cX6_cat) (maxL := 4) (ret := (some .int)) (lv := [(0, rfv g 44)]) (by decide) rfl (by simp [lg_sl, rfv_cat, cat_i, cat_l]) (by simp [lv_args, rfv_cat, cat_i, cat_l]) ?_
  intro p e s m below meth c ls C hE hr hlk hmn hl h
  generalize ([rfv g 44] : List Value).toArray = args at C ⊢
  have hG := gx.rf (nn π) g
  have hX := ext.rf π
  refine W_cast (Nat.sub_self (nn π)) (Nat.sub_self (sw π)) ?_
  rw [Rd_cat] at hm
  refine z_aload_n C dX6_cat_0 rfl (lv_at hl 0 rfl) ?_
  obtain ⟨r1, e2, hm⟩ := obd_s hm
  have q3 := (km_Rd_sum hmrArg hmrFun hC e2)
  have q := km_Rd_cat_4 hmrArg hmrFun  q3.2  hm
  refine c_callViA C hE h (sh_44 hS) rfl (by decide) (kc_Rd_sum l D k z mi aK aV g N hφ hψ hmrArg hcrArg hmrFun hcrFun hC e2) (cwV 0 C.2.2.1 (gS_X6_145 _) rfl rfl rfl hd_X6_sum ⟨(by show φ + 4 + 1 ≤ φ + 5; omega), (by show 8 + (4 + 11) + (ψ + 95) ≤ ψ + 118; omega)⟩) rfl hl.1 rfl (Nat.le_of_ble_eq_true rfl) dX6_cat_1 ⟨rcC hX q3.1 q.1, rsC hX q3.1 q.1⟩ (fun u H locs hg h => ?_)
  simp only [← gx_rfv hg (sh_44 hS).2.1] at hl
  try simp only [← gx_rfv hg (sh_44 hS).2.1]
  refine W_cast (wcC hX q3.1).symm (wsC hX q3.1).symm ?_
  exact kl_Rd_cat_4 (N := N) C hr hlk hE hφ hψ hmrArg hcrArg hmrFun hcrFun  q3.2 (hG.tr hg hX.1) (hX.tr q3.1)  (lv_sub hl [0] rfl) h hm
end Z_Rd_cat
section Z_Rd_exp
variable {p : Program} {l : Launch} {e : Env} {s : State} {m : MethodId} {args : Array Value} {below : List Frame} {meth : Method} {c : Code} {D : va_G} {A : Nat → Prop} {k : Nat → ClassId} {N : Nat} {cd : Cond} {z mi : Nat} {aK aV : Nat → Nat} {g0 : Nat → Nat} {π0 : Sh} {φ ψ : Nat}
set_option maxHeartbeats 8000000 in
set_option maxRecDepth 100000 in
theorem kl_Rd_exp_103 {r : Sh × St × Int} (C : Cx p s m args c cX6_exp RX6 (cd :: cWd) D (TYs k) 4) (hr : meth.sig.returnType = (some .int)) (hlk : meth.locks = false) (hE : Ev z mi aK aV A s s.heap) {rArg : Sh → St → Option (Sh × St × Int)} {rFun : Sh → St → Option (Sh × St × Int)} (hφ : 260 ≤ φ) (hψ : 12000 ≤ ψ) (hmrArg : ∀ {π : Sh} {σ : St}  {r : Sh × St × Int}, Cl π σ → rArg π σ  = some r → ext π r.1 ∧ Cl r.1 r.2.1) (hcrArg : ∀ {g : Nat → Nat} {π : Sh} {σ : St}  {r : Sh × St × Int}, Cl π σ → rArg π σ  = some r → Mi l yX6_arg (.code yX6_arg cX6_arg 3 (some .int) :: cWd) { frames := φ, cells := nn r.1 - nn π, slots := sw r.1 - sw π, locals := ψ } [rfv g 44] D (TYs k) (cW k z g π σ) (XV z mi aK aV (cW k z g π σ)) (Nat → Nat) (fun v u => gx (nn π) g u ∧ v = Int32.ofInt r.2.2) (fun u => cW k z u r.1 r.2.1) (nn r.1 - nn π) (sw r.1 - sw π)) (hmrFun : ∀ {π : Sh} {σ : St}  {r : Sh × St × Int}, Cl π σ → rFun π σ  = some r → ext π r.1 ∧ Cl r.1 r.2.1 ∧ r.2.2 < nn r.1) (hcrFun : ∀ {g : Nat → Nat} {π : Sh} {σ : St}  {r : Sh × St × Int}, Cl π σ → rFun π σ  = some r → Mq l yX6_fun (.code yX6_fun cX6_fun 5 (some (.object "CycleStudio$Piece")) :: cWd) { frames := φ, cells := nn r.1 - nn π, slots := sw r.1 - sw π, locals := ψ } [rfv g 44] D (TYs k) (cW k z g π σ) (XV z mi aK aV (cW k z g π σ)) (Nat → Nat) (fun v u => gx (nn π) g u ∧ v = rfo u r.2.2) (fun u => cW k z u r.1 r.2.1) (nn r.1 - nn π) (sw r.1 - sw π)) {rec59 : Sh → St → Int → Int → Option (Sh × St × Int)} (krec59 : ∀ {π : Sh} {σ : St} {x2 : Int} {x3 : Int}, Cl π σ → x2 < nn π → rec59 π σ x2 x3 = some r → ext π r.1 ∧ Cl r.1 r.2.1) (hrec59 : ∀ {ls : Array Slot} {H : Heap} {locs : List Loc} {g : Nat → Nat} {π : Sh} {σ : St} {x2 : Int} {x3 : Int}, Cl π σ → gx (nn π0) g0 g → ext π0 π → x2 < nn π → lv_has ls 4 [(0, rfv g 44), (2, rfv g x2), (3, .int (Int32.ofInt x3))] → Hp D A s.heap H locs (cW k z g π σ) → rec59 π σ x2 x3 = some r → W p l e { frames := φ + 6, cells := nn r.1 - nn π0, slots := sw r.1 - sw π0, locals := ψ + 141 } s m args below meth c H locs (nn π - nn π0) (sw π - sw π0) (MQ below (va_Qi (fun v u => gx (nn π0) g0 u ∧ v = Int32.ofInt r.2.2) (fun u t => PostW D (TYs k) A (cW k z u r.1 r.2.1) t) A) args s (nn r.1 - nn π0) (sw r.1 - sw π0) A) (F0 m 59 ls [])) {ls : Array Slot} {H : Heap} {locs : List Loc} {g : Nat → Nat} {π : Sh} {σ : St} {x2 : Int} {x3 : Int} {s0 : Int} (hC : Cl π σ) (hG : gx (nn π0) g0 g) (hX : ext π0 π) (hv_x2 : x2 < nn π) (hv_s0 : s0 < nn π) (hl : lv_has ls 4 [(0, rfv g 44), (2, rfv g x2), (3, .int (Int32.ofInt x3))]) (h : Hp D A s.heap H locs (cW k z g π σ)) (hm : Rd_exp_103 N rArg rFun rec59 π σ x2 x3 s0 = some r) : W p l e { frames := φ + 6, cells := nn r.1 - nn π0, slots := sw r.1 - sw π0, locals := ψ + 141 } s m args below meth c H locs (nn π - nn π0) (sw π - sw π0) (MQ below (va_Qi (fun v u => gx (nn π0) g0 u ∧ v = Int32.ofInt r.2.2) (fun u t => PostW D (TYs k) A (cW k z u r.1 r.2.1) t) A) args s (nn r.1 - nn π0) (sw r.1 - sw π0) A) (F0 m 103 ls [rfv g s0]) := by
  have hS := hC.1
  have hq := km_Rd_exp_103 hmrArg hmrFun krec59  hC hv_x2 hv_s0 hm
  rw [Rd_exp_103] at hm
  refine lv_pop C.1 C.2.1 dX6_exp_103 (rfv_cat _ _) ?_
  refine lv_iinc (v := Int32.ofInt (x3 + 1)) (lv' := [(3, .int (Int32.ofInt (x3 + 1))), (0, rfv g 44), (2, rfv g x2)]) C.1 C.2.1 dX6_exp_104 hl (k := 2) rfl (c32_add _ _) (by decide) (by simp [rfv_cat, cat_i, cat_l]) (fun ls hl => ?_)
  refine lv_goto (tgt := 59) C.1 C.2.1 dX6_exp_107 (by decide) ?_
  exact hrec59 hC hG hX hv_x2 (lv_sub hl [1, 2, 0] rfl) h hm
set_option maxHeartbeats 8000000 in
set_option maxRecDepth 100000 in
theorem kl_Rd_exp_100 {r : Sh × St × Int} (C : Cx p s m args c cX6_exp RX6 (cd :: cWd) D (TYs k) 4) (hr : meth.sig.returnType = (some .int)) (hlk : meth.locks = false) (hE : Ev z mi aK aV A s s.heap) {rArg : Sh → St → Option (Sh × St × Int)} {rFun : Sh → St → Option (Sh × St × Int)} (hφ : 260 ≤ φ) (hψ : 12000 ≤ ψ) (hmrArg : ∀ {π : Sh} {σ : St}  {r : Sh × St × Int}, Cl π σ → rArg π σ  = some r → ext π r.1 ∧ Cl r.1 r.2.1) (hcrArg : ∀ {g : Nat → Nat} {π : Sh} {σ : St}  {r : Sh × St × Int}, Cl π σ → rArg π σ  = some r → Mi l yX6_arg (.code yX6_arg cX6_arg 3 (some .int) :: cWd) { frames := φ, cells := nn r.1 - nn π, slots := sw r.1 - sw π, locals := ψ } [rfv g 44] D (TYs k) (cW k z g π σ) (XV z mi aK aV (cW k z g π σ)) (Nat → Nat) (fun v u => gx (nn π) g u ∧ v = Int32.ofInt r.2.2) (fun u => cW k z u r.1 r.2.1) (nn r.1 - nn π) (sw r.1 - sw π)) (hmrFun : ∀ {π : Sh} {σ : St}  {r : Sh × St × Int}, Cl π σ → rFun π σ  = some r → ext π r.1 ∧ Cl r.1 r.2.1 ∧ r.2.2 < nn r.1) (hcrFun : ∀ {g : Nat → Nat} {π : Sh} {σ : St}  {r : Sh × St × Int}, Cl π σ → rFun π σ  = some r → Mq l yX6_fun (.code yX6_fun cX6_fun 5 (some (.object "CycleStudio$Piece")) :: cWd) { frames := φ, cells := nn r.1 - nn π, slots := sw r.1 - sw π, locals := ψ } [rfv g 44] D (TYs k) (cW k z g π σ) (XV z mi aK aV (cW k z g π σ)) (Nat → Nat) (fun v u => gx (nn π) g u ∧ v = rfo u r.2.2) (fun u => cW k z u r.1 r.2.1) (nn r.1 - nn π) (sw r.1 - sw π)) {rec59 : Sh → St → Int → Int → Option (Sh × St × Int)} (krec59 : ∀ {π : Sh} {σ : St} {x2 : Int} {x3 : Int}, Cl π σ → x2 < nn π → rec59 π σ x2 x3 = some r → ext π r.1 ∧ Cl r.1 r.2.1) (hrec59 : ∀ {ls : Array Slot} {H : Heap} {locs : List Loc} {g : Nat → Nat} {π : Sh} {σ : St} {x2 : Int} {x3 : Int}, Cl π σ → gx (nn π0) g0 g → ext π0 π → x2 < nn π → lv_has ls 4 [(0, rfv g 44), (2, rfv g x2), (3, .int (Int32.ofInt x3))] → Hp D A s.heap H locs (cW k z g π σ) → rec59 π σ x2 x3 = some r → W p l e { frames := φ + 6, cells := nn r.1 - nn π0, slots := sw r.1 - sw π0, locals := ψ + 141 } s m args below meth c H locs (nn π - nn π0) (sw π - sw π0) (MQ below (va_Qi (fun v u => gx (nn π0) g0 u ∧ v = Int32.ofInt r.2.2) (fun u t => PostW D (TYs k) A (cW k z u r.1 r.2.1) t) A) args s (nn r.1 - nn π0) (sw r.1 - sw π0) A) (F0 m 59 ls [])) {ls : Array Slot} {H : Heap} {locs : List Loc} {g : Nat → Nat} {π : Sh} {σ : St} {x2 : Int} {x3 : Int} {s0 : Int} {s1 : Int} (hC : Cl π σ) (hG : gx (nn π0) g0 g) (hX : ext π0 π) (hv_x2 : x2 < nn π) (hv_s1 : s1 < nn π) (hl : lv_has ls 4 [(0, rfv g 44), (2, rfv g x2), (3, .int (Int32.ofInt x3))]) (h : Hp D A s.heap H locs (cW k z g π σ)) (hm : Rd_exp_100 N rArg rFun rec59 π σ x2 x3 s0 s1 = some r) : W p l e { frames := φ + 6, cells := nn r.1 - nn π0, slots := sw r.1 - sw π0, locals := ψ + 141 } s m args below meth c H locs (nn π - nn π0) (sw π - sw π0) (MQ below (va_Qi (fun v u => gx (nn π0) g0 u ∧ v = Int32.ofInt r.2.2) (fun u t => PostW D (TYs k) A (cW k z u r.1 r.2.1) t) A) args s (nn r.1 - nn π0) (sw r.1 - sw π0) A) (F0 m 100 ls [.int (Int32.ofInt s0), rfv g s1]) := by
  have hS := hC.1
  have hq := km_Rd_exp_100 hmrArg hmrFun krec59  hC hv_x2 hv_s1 hm
  rw [Rd_exp_100] at hm
  obtain ⟨r37, e38, hm⟩ := obd_s hm
  have q39 := (km_Sp_give hC hv_s1 e38)
  obtain ⟨g40, hm⟩ := grd_s hm
  have q := km_Rd_exp_103 hmrArg hmrFun krec59 q39.2.1 (lt_ext hv_x2 q39.1) q39.2.2 hm
  refine c_callVqA C hE h g40 rfl (by decide) (kc_Sp_give l D k z mi aK aV g N hC hv_s1 e38) (cwV 1 C.2.2.1 (gS_X6_137 _) rfl rfl rfl hd_X9_give ⟨(by show 2 + 1 ≤ φ + 6; omega), (by show 8 + (2 + 11) + 82 ≤ ψ + 141; omega)⟩) rfl hl.1 rfl (Nat.le_of_ble_eq_true rfl) dX6_exp_100 ⟨rcC hX q39.1 q.1, rsC hX q39.1 q.1⟩ (fun u H locs hg h => ?_)
  simp only [← gx_rfv hg (sh_44 hS).2.1, ← gx_rfv hg hv_x2] at hl
  try simp only [← gx_rfv hg (sh_44 hS).2.1, ← gx_rfv hg hv_x2]
  refine W_cast (wcC hX q39.1).symm (wsC hX q39.1).symm ?_
  exact kl_Rd_exp_103 (N := N) C hr hlk hE hφ hψ hmrArg hcrArg hmrFun hcrFun krec59 hrec59 q39.2.1 (hG.tr hg hX.1) (hX.tr q39.1) (lt_ext hv_x2 q39.1) q39.2.2 (lv_sub hl [0, 1, 2] rfl) h hm
set_option maxHeartbeats 8000000 in
set_option maxRecDepth 100000 in
theorem kl_Rd_exp_118 {r : Sh × St × Int} (C : Cx p s m args c cX6_exp RX6 (cd :: cWd) D (TYs k) 4) (hr : meth.sig.returnType = (some .int)) (hlk : meth.locks = false) (hE : Ev z mi aK aV A s s.heap) {rArg : Sh → St → Option (Sh × St × Int)} {rFun : Sh → St → Option (Sh × St × Int)} (hφ : 260 ≤ φ) (hψ : 12000 ≤ ψ) (hmrArg : ∀ {π : Sh} {σ : St}  {r : Sh × St × Int}, Cl π σ → rArg π σ  = some r → ext π r.1 ∧ Cl r.1 r.2.1) (hcrArg : ∀ {g : Nat → Nat} {π : Sh} {σ : St}  {r : Sh × St × Int}, Cl π σ → rArg π σ  = some r → Mi l yX6_arg (.code yX6_arg cX6_arg 3 (some .int) :: cWd) { frames := φ, cells := nn r.1 - nn π, slots := sw r.1 - sw π, locals := ψ } [rfv g 44] D (TYs k) (cW k z g π σ) (XV z mi aK aV (cW k z g π σ)) (Nat → Nat) (fun v u => gx (nn π) g u ∧ v = Int32.ofInt r.2.2) (fun u => cW k z u r.1 r.2.1) (nn r.1 - nn π) (sw r.1 - sw π)) (hmrFun : ∀ {π : Sh} {σ : St}  {r : Sh × St × Int}, Cl π σ → rFun π σ  = some r → ext π r.1 ∧ Cl r.1 r.2.1 ∧ r.2.2 < nn r.1) (hcrFun : ∀ {g : Nat → Nat} {π : Sh} {σ : St}  {r : Sh × St × Int}, Cl π σ → rFun π σ  = some r → Mq l yX6_fun (.code yX6_fun cX6_fun 5 (some (.object "CycleStudio$Piece")) :: cWd) { frames := φ, cells := nn r.1 - nn π, slots := sw r.1 - sw π, locals := ψ } [rfv g 44] D (TYs k) (cW k z g π σ) (XV z mi aK aV (cW k z g π σ)) (Nat → Nat) (fun v u => gx (nn π) g u ∧ v = rfo u r.2.2) (fun u => cW k z u r.1 r.2.1) (nn r.1 - nn π) (sw r.1 - sw π))  {ls : Array Slot} {H : Heap} {locs : List Loc} {g : Nat → Nat} {π : Sh} {σ : St} {s0 : Int} (hC : Cl π σ) (hG : gx (nn π0) g0 g) (hX : ext π0 π)  (hl : lv_has ls 4 []) (h : Hp D A s.heap H locs (cW k z g π σ)) (hm : Rd_exp_118 N rArg rFun π σ s0 = some r) : W p l e { frames := φ + 6, cells := nn r.1 - nn π0, slots := sw r.1 - sw π0, locals := ψ + 141 } s m args below meth c H locs (nn π - nn π0) (sw π - sw π0) (MQ below (va_Qi (fun v u => gx (nn π0) g0 u ∧ v = Int32.ofInt r.2.2) (fun u t => PostW D (TYs k) A (cW k z u r.1 r.2.1) t) A) args s (nn r.1 - nn π0) (sw r.1 - sw π0) A) (F0 m 118 ls [.int (Int32.ofInt s0)]) := by
  have hS := hC.1
  have hq := km_Rd_exp_118 hmrArg hmrFun   hC  hm
  rw [Rd_exp_118] at hm
  cases hm
  exact c_iretA C hG h hr hlk dX6_exp_118 rfl
set_option maxHeartbeats 8000000 in
set_option maxRecDepth 100000 in
theorem kl_Rd_exp_110 {r : Sh × St × Int} (C : Cx p s m args c cX6_exp RX6 (cd :: cWd) D (TYs k) 4) (hr : meth.sig.returnType = (some .int)) (hlk : meth.locks = false) (hE : Ev z mi aK aV A s s.heap) {rArg : Sh → St → Option (Sh × St × Int)} {rFun : Sh → St → Option (Sh × St × Int)} (hφ : 260 ≤ φ) (hψ : 12000 ≤ ψ) (hmrArg : ∀ {π : Sh} {σ : St}  {r : Sh × St × Int}, Cl π σ → rArg π σ  = some r → ext π r.1 ∧ Cl r.1 r.2.1) (hcrArg : ∀ {g : Nat → Nat} {π : Sh} {σ : St}  {r : Sh × St × Int}, Cl π σ → rArg π σ  = some r → Mi l yX6_arg (.code yX6_arg cX6_arg 3 (some .int) :: cWd) { frames := φ, cells := nn r.1 - nn π, slots := sw r.1 - sw π, locals := ψ } [rfv g 44] D (TYs k) (cW k z g π σ) (XV z mi aK aV (cW k z g π σ)) (Nat → Nat) (fun v u => gx (nn π) g u ∧ v = Int32.ofInt r.2.2) (fun u => cW k z u r.1 r.2.1) (nn r.1 - nn π) (sw r.1 - sw π)) (hmrFun : ∀ {π : Sh} {σ : St}  {r : Sh × St × Int}, Cl π σ → rFun π σ  = some r → ext π r.1 ∧ Cl r.1 r.2.1 ∧ r.2.2 < nn r.1) (hcrFun : ∀ {g : Nat → Nat} {π : Sh} {σ : St}  {r : Sh × St × Int}, Cl π σ → rFun π σ  = some r → Mq l yX6_fun (.code yX6_fun cX6_fun 5 (some (.object "CycleStudio$Piece")) :: cWd) { frames := φ, cells := nn r.1 - nn π, slots := sw r.1 - sw π, locals := ψ } [rfv g 44] D (TYs k) (cW k z g π σ) (XV z mi aK aV (cW k z g π σ)) (Nat → Nat) (fun v u => gx (nn π) g u ∧ v = rfo u r.2.2) (fun u => cW k z u r.1 r.2.1) (nn r.1 - nn π) (sw r.1 - sw π))  {ls : Array Slot} {H : Heap} {locs : List Loc} {g : Nat → Nat} {π : Sh} {σ : St} {x2 : Int} (hC : Cl π σ) (hG : gx (nn π0) g0 g) (hX : ext π0 π) (hv_x2 : x2 < nn π) (hl : lv_has ls 4 [(0, rfv g 44), (2, rfv g x2)]) (h : Hp D A s.heap H locs (cW k z g π σ)) (hm : Rd_exp_110 N rArg rFun π σ x2 = some r) : W p l e { frames := φ + 6, cells := nn r.1 - nn π0, slots := sw r.1 - sw π0, locals := ψ + 141 } s m args below meth c H locs (nn π - nn π0) (sw π - sw π0) (MQ below (va_Qi (fun v u => gx (nn π0) g0 u ∧ v = Int32.ofInt r.2.2) (fun u t => PostW D (TYs k) A (cW k z u r.1 r.2.1) t) A) args s (nn r.1 - nn π0) (sw r.1 - sw π0) A) (F0 m 110 ls []) := by
  have hS := hC.1
  have hq := km_Rd_exp_110 hmrArg hmrFun   hC hv_x2 hm
  rw [Rd_exp_110] at hm
  refine z_aload_n C dX6_exp_110 rfl (lv_at hl 0 rfl) ?_
  refine cg_7_4 C h (sh_44 hS) cU_X6 (List.mem_cons_of_mem _ wl_X6_20) dX6_exp_111 ?_
  refine z_aload_n C dX6_exp_114 rfl (lv_at hl 1 rfl) ?_
  obtain ⟨r33, e34, hm⟩ := obd_s hm
  have q35 := (km_Df_add hC (cl_fl hC (f := 144) rfl 44) hv_x2 e34)
  obtain ⟨g36, hm⟩ := grd_s hm
  have q := km_Rd_exp_118 hmrArg hmrFun  q35.2  hm
  refine c_callViA C hE h g36 rfl (by decide) (kc_Df_add l D k z mi aK aV g N hC (cl_fl hC (f := 144) rfl 44) hv_x2 e34) (cwV 1 C.2.2.1 (gS_X6_141 _) rfl rfl rfl hd_X0_add ⟨(by show 7 + 1 ≤ φ + 6; omega), (by show 8 + (2 + 11) + 241 ≤ ψ + 141; omega)⟩) rfl hl.1 rfl (Nat.le_of_ble_eq_true rfl) dX6_exp_115 ⟨rcC hX q35.1 q.1, rsC hX q35.1 q.1⟩ (fun u H locs hg h => ?_)
  simp only [← gx_rfv hg (sh_44 hS).2.1, ← gx_rfv hg hv_x2] at hl
  try simp only [← gx_rfv hg (sh_44 hS).2.1, ← gx_rfv hg hv_x2]
  refine W_cast (wcC hX q35.1).symm (wsC hX q35.1).symm ?_
  exact kl_Rd_exp_118 (N := N) C hr hlk hE hφ hψ hmrArg hcrArg hmrFun hcrFun  q35.2 (hG.tr hg hX.1) (hX.tr q35.1)  (lv_sub hl [] rfl) h hm
set_option maxHeartbeats 8000000 in
set_option maxRecDepth 100000 in
theorem kl_Rd_exp_59 {r : Sh × St × Int} (C : Cx p s m args c cX6_exp RX6 (cd :: cWd) D (TYs k) 4) (hr : meth.sig.returnType = (some .int)) (hlk : meth.locks = false) (hE : Ev z mi aK aV A s s.heap) {rArg : Sh → St → Option (Sh × St × Int)} {rFun : Sh → St → Option (Sh × St × Int)} (hφ : 260 ≤ φ) (hψ : 12000 ≤ ψ) (hmrArg : ∀ {π : Sh} {σ : St}  {r : Sh × St × Int}, Cl π σ → rArg π σ  = some r → ext π r.1 ∧ Cl r.1 r.2.1) (hcrArg : ∀ {g : Nat → Nat} {π : Sh} {σ : St}  {r : Sh × St × Int}, Cl π σ → rArg π σ  = some r → Mi l yX6_arg (.code yX6_arg cX6_arg 3 (some .int) :: cWd) { frames := φ, cells := nn r.1 - nn π, slots := sw r.1 - sw π, locals := ψ } [rfv g 44] D (TYs k) (cW k z g π σ) (XV z mi aK aV (cW k z g π σ)) (Nat → Nat) (fun v u => gx (nn π) g u ∧ v = Int32.ofInt r.2.2) (fun u => cW k z u r.1 r.2.1) (nn r.1 - nn π) (sw r.1 - sw π)) (hmrFun : ∀ {π : Sh} {σ : St}  {r : Sh × St × Int}, Cl π σ → rFun π σ  = some r → ext π r.1 ∧ Cl r.1 r.2.1 ∧ r.2.2 < nn r.1) (hcrFun : ∀ {g : Nat → Nat} {π : Sh} {σ : St}  {r : Sh × St × Int}, Cl π σ → rFun π σ  = some r → Mq l yX6_fun (.code yX6_fun cX6_fun 5 (some (.object "CycleStudio$Piece")) :: cWd) { frames := φ, cells := nn r.1 - nn π, slots := sw r.1 - sw π, locals := ψ } [rfv g 44] D (TYs k) (cW k z g π σ) (XV z mi aK aV (cW k z g π σ)) (Nat → Nat) (fun v u => gx (nn π) g u ∧ v = rfo u r.2.2) (fun u => cW k z u r.1 r.2.1) (nn r.1 - nn π) (sw r.1 - sw π))  (n : Nat) : ∀ {ls : Array Slot} {H : Heap} {locs : List Loc} {g : Nat → Nat} {π : Sh} {σ : St} {x2 : Int} {x3 : Int}, Cl π σ → gx (nn π0) g0 g → ext π0 π → x2 < nn π → lv_has ls 4 [(0, rfv g 44), (2, rfv g x2), (3, .int (Int32.ofInt x3))] → Hp D A s.heap H locs (cW k z g π σ) → Rd_exp_59 N rArg rFun n π σ x2 x3 = some r → W p l e { frames := φ + 6, cells := nn r.1 - nn π0, slots := sw r.1 - sw π0, locals := ψ + 141 } s m args below meth c H locs (nn π - nn π0) (sw π - sw π0) (MQ below (va_Qi (fun v u => gx (nn π0) g0 u ∧ v = Int32.ofInt r.2.2) (fun u t => PostW D (TYs k) A (cW k z u r.1 r.2.1) t) A) args s (nn r.1 - nn π0) (sw r.1 - sw π0) A) (F0 m 59 ls []) := by
  induction n with
  | zero => intro ls H locs g π σ x2 x3 hC hG hX hv_x2 hl h hm; cases (show none = some r from hm)
  | succ n hrec59 =>
    intro ls H locs g π σ x2 x3 hC hG hX hv_x2 hl h hm
    have hS := hC.1
    have hq := km_Rd_exp_59 hmrArg hmrFun  (n + 1) hC hv_x2 hm
    have krec59 : ∀ {π : Sh} {σ : St} {x2 : Int} {x3 : Int}, Cl π σ → x2 < nn π → Rd_exp_59 N rArg rFun n π σ x2 x3 = some r → ext π r.1 ∧ Cl r.1 r.2.1 := fun {_ _} {_} {_} => km_Rd_exp_59 hmrArg hmrFun  n
    rw [Rd_exp_59] at hm
    refine lv_iload_n C.1 C.2.1 dX6_exp_59 rfl (lv_at hl 2 rfl) ?_
    refine lv_sipush (v := Int32.ofInt 2000) C.1 C.2.1 dX6_exp_60 (by decide) ?_
    obtain ⟨g20, hm⟩ := grd_s hm
    refine z_icmp_ge (tgt := 110) C dX6_exp_63 (by decide) g20 (by decide) (fun c21 => ?_) (fun c21 => ?_)
    · have hm := ite_f c21 hm
      exact kl_Rd_exp_110 (N := N) C hr hlk hE hφ hψ hmrArg hcrArg hmrFun hcrFun hC hG hX hv_x2 (lv_sub hl [0, 1] rfl) h hm
    · have hm := ite_t c21 hm
      refine z_aload_n C dX6_exp_66 rfl (lv_at hl 0 rfl) ?_
      refine cg_7_0 C h (sh_44 hS) cU_X6 (List.mem_cons_of_mem _ wl_X6_31) dX6_exp_67 ?_
      refine cg_9_2 C h (sh_1 hS) cU_X8 (List.mem_cons_of_mem _ wl_X6_72) dX6_exp_70 ?_
      obtain ⟨g22, hm⟩ := grd_s hm
      refine z_if_ne (tgt := 110) C dX6_exp_73 (by decide) g22 (fun c23 => ?_) (fun c23 => ?_)
      · have hm := ite_f c23 hm
        exact kl_Rd_exp_110 (N := N) C hr hlk hE hφ hψ hmrArg hcrArg hmrFun hcrFun hC hG hX hv_x2 (lv_sub hl [0, 1] rfl) h hm
      · have hm := ite_t c23 hm
        refine z_aload_n C dX6_exp_76 rfl (lv_at hl 0 rfl) ?_
        refine cg_7_0 C h (sh_44 hS) cU_X6 (List.mem_cons_of_mem _ wl_X6_31) dX6_exp_77 ?_
        refine cg_9_5 C h (sh_1 hS) cU_X8 (List.mem_cons_of_mem _ wl_X6_66) dX6_exp_80 ?_
        refine lv_bipush (v := Int32.ofInt 38) C.1 C.2.1 dX6_exp_83 (by decide) ?_
        obtain ⟨g24, hm⟩ := grd_s hm
        refine z_icmp_ne (tgt := 110) C dX6_exp_85 (by decide) g24 (by decide) (fun c25 => ?_) (fun c25 => ?_)
        · have hm := ite_f c25 hm
          exact kl_Rd_exp_110 (N := N) C hr hlk hE hφ hψ hmrArg hcrArg hmrFun hcrFun hC hG hX hv_x2 (lv_sub hl [0, 1] rfl) h hm
        · have hm := ite_t c25 hm
          refine z_aload_n C dX6_exp_88 rfl (lv_at hl 0 rfl) ?_
          refine cg_7_0 C h (sh_44 hS) cU_X6 (List.mem_cons_of_mem _ wl_X6_31) dX6_exp_89 ?_
          obtain ⟨r26, e27, hm⟩ := obd_s hm
          have q28 := (km_Sc_advance hC e27)
          refine c_callVvP C hE h (sh_1 hS) rfl (by decide) (kc_Sc_advance l D k z mi aK aV g N hS e27) (cwV 0 C.2.2.1 (gS_X6_88 _) rfl rfl rfl hd_X8_advance ⟨(by show 3 + 1 ≤ φ + 6; omega), (by show 8 + (2 + 11) + 67 ≤ ψ + 141; omega)⟩) rfl hl.1 rfl (Nat.le_of_ble_eq_true rfl) dX6_exp_92 ⟨(czz hX hq.1), (szz hX hq.1)⟩ (fun H locs h => ?_)
          have hC29 : Cl π r26 := q28
          refine z_aload_n C dX6_exp_95 rfl (lv_at hl 1 rfl) ?_
          refine z_aload_n C dX6_exp_96 rfl (lv_at hl 0 rfl) ?_
          obtain ⟨r30, e31, hm⟩ := obd_s hm
          have q32 := (km_Rd_cat hmrArg hmrFun hC29 e31)
          have q := km_Rd_exp_100 hmrArg hmrFun krec59 q32.2 (lt_ext hv_x2 q32.1) (lt_ext hv_x2 q32.1) hm
          refine c_callViA C hE h (sh_44 hS) rfl (by decide) (kc_Rd_cat l D k z mi aK aV g N hφ hψ hmrArg hcrArg hmrFun hcrFun hC29 e31) (cwV 0 C.2.2.1 (gS_X6_126 _) rfl rfl rfl hd_X6_cat ⟨(by show φ + 5 + 1 ≤ φ + 6; omega), (by show 8 + (4 + 11) + (ψ + 118) ≤ ψ + 141; omega)⟩) rfl hl.1 rfl (by simp [rfv_cat, cat_i, cat_l]) dX6_exp_97 ⟨rcC hX q32.1 q.1, rsC hX q32.1 q.1⟩ (fun u H locs hg h => ?_)
          simp only [← gx_rfv hg (sh_44 hS).2.1, ← gx_rfv hg hv_x2] at hl
          try simp only [← gx_rfv hg (sh_44 hS).2.1, ← gx_rfv hg hv_x2]
          refine W_cast (wcC hX q32.1).symm (wsC hX q32.1).symm ?_
          exact kl_Rd_exp_100 (N := N) C hr hlk hE hφ hψ hmrArg hcrArg hmrFun hcrFun krec59 hrec59 q32.2 (hG.tr hg hX.1) (hX.tr q32.1) (lt_ext hv_x2 q32.1) (lt_ext hv_x2 q32.1) (lv_sub hl [0, 1, 2] rfl) h hm
set_option maxHeartbeats 8000000 in
set_option maxRecDepth 100000 in
theorem kl_Rd_exp_56 {r : Sh × St × Int} (C : Cx p s m args c cX6_exp RX6 (cd :: cWd) D (TYs k) 4) (hr : meth.sig.returnType = (some .int)) (hlk : meth.locks = false) (hE : Ev z mi aK aV A s s.heap) {rArg : Sh → St → Option (Sh × St × Int)} {rFun : Sh → St → Option (Sh × St × Int)} (hφ : 260 ≤ φ) (hψ : 12000 ≤ ψ) (hmrArg : ∀ {π : Sh} {σ : St}  {r : Sh × St × Int}, Cl π σ → rArg π σ  = some r → ext π r.1 ∧ Cl r.1 r.2.1) (hcrArg : ∀ {g : Nat → Nat} {π : Sh} {σ : St}  {r : Sh × St × Int}, Cl π σ → rArg π σ  = some r → Mi l yX6_arg (.code yX6_arg cX6_arg 3 (some .int) :: cWd) { frames := φ, cells := nn r.1 - nn π, slots := sw r.1 - sw π, locals := ψ } [rfv g 44] D (TYs k) (cW k z g π σ) (XV z mi aK aV (cW k z g π σ)) (Nat → Nat) (fun v u => gx (nn π) g u ∧ v = Int32.ofInt r.2.2) (fun u => cW k z u r.1 r.2.1) (nn r.1 - nn π) (sw r.1 - sw π)) (hmrFun : ∀ {π : Sh} {σ : St}  {r : Sh × St × Int}, Cl π σ → rFun π σ  = some r → ext π r.1 ∧ Cl r.1 r.2.1 ∧ r.2.2 < nn r.1) (hcrFun : ∀ {g : Nat → Nat} {π : Sh} {σ : St}  {r : Sh × St × Int}, Cl π σ → rFun π σ  = some r → Mq l yX6_fun (.code yX6_fun cX6_fun 5 (some (.object "CycleStudio$Piece")) :: cWd) { frames := φ, cells := nn r.1 - nn π, slots := sw r.1 - sw π, locals := ψ } [rfv g 44] D (TYs k) (cW k z g π σ) (XV z mi aK aV (cW k z g π σ)) (Nat → Nat) (fun v u => gx (nn π) g u ∧ v = rfo u r.2.2) (fun u => cW k z u r.1 r.2.1) (nn r.1 - nn π) (sw r.1 - sw π))  {ls : Array Slot} {H : Heap} {locs : List Loc} {g : Nat → Nat} {π : Sh} {σ : St} {x2 : Int} {s0 : Int} (hC : Cl π σ) (hG : gx (nn π0) g0 g) (hX : ext π0 π) (hv_x2 : x2 < nn π) (hv_s0 : s0 < nn π) (hl : lv_has ls 4 [(0, rfv g 44), (2, rfv g x2)]) (h : Hp D A s.heap H locs (cW k z g π σ)) (hm : Rd_exp_56 N rArg rFun π σ x2 s0 = some r) : W p l e { frames := φ + 6, cells := nn r.1 - nn π0, slots := sw r.1 - sw π0, locals := ψ + 141 } s m args below meth c H locs (nn π - nn π0) (sw π - sw π0) (MQ below (va_Qi (fun v u => gx (nn π0) g0 u ∧ v = Int32.ofInt r.2.2) (fun u t => PostW D (TYs k) A (cW k z u r.1 r.2.1) t) A) args s (nn r.1 - nn π0) (sw r.1 - sw π0) A) (F0 m 56 ls [rfv g s0]) := by
  have hS := hC.1
  have hq := km_Rd_exp_56 hmrArg hmrFun   hC hv_x2 hv_s0 hm
  rw [Rd_exp_56] at hm
  refine lv_pop C.1 C.2.1 dX6_exp_56 (rfv_cat _ _) ?_
  refine lv_iconst (v := Int32.ofInt 0) C.1 C.2.1 dX6_exp_57 (by decide) ?_
  refine lv_istore_n (i := 3) (lv' := [(3, .int (Int32.ofInt 0)), (0, rfv g 44), (2, rfv g x2)]) C.1 C.2.1 dX6_exp_58 rfl hl (by decide) (by simp [rfv_cat, cat_i, cat_l]) (fun ls hl => ?_)
  exact kl_Rd_exp_59 (N := N) C hr hlk hE hφ hψ hmrArg hcrArg hmrFun hcrFun N hC hG hX hv_x2 (lv_sub hl [1, 2, 0] rfl) h hm
set_option maxHeartbeats 8000000 in
set_option maxRecDepth 100000 in
theorem kl_Rd_exp_45 {r : Sh × St × Int} (C : Cx p s m args c cX6_exp RX6 (cd :: cWd) D (TYs k) 4) (hr : meth.sig.returnType = (some .int)) (hlk : meth.locks = false) (hE : Ev z mi aK aV A s s.heap) {rArg : Sh → St → Option (Sh × St × Int)} {rFun : Sh → St → Option (Sh × St × Int)} (hφ : 260 ≤ φ) (hψ : 12000 ≤ ψ) (hmrArg : ∀ {π : Sh} {σ : St}  {r : Sh × St × Int}, Cl π σ → rArg π σ  = some r → ext π r.1 ∧ Cl r.1 r.2.1) (hcrArg : ∀ {g : Nat → Nat} {π : Sh} {σ : St}  {r : Sh × St × Int}, Cl π σ → rArg π σ  = some r → Mi l yX6_arg (.code yX6_arg cX6_arg 3 (some .int) :: cWd) { frames := φ, cells := nn r.1 - nn π, slots := sw r.1 - sw π, locals := ψ } [rfv g 44] D (TYs k) (cW k z g π σ) (XV z mi aK aV (cW k z g π σ)) (Nat → Nat) (fun v u => gx (nn π) g u ∧ v = Int32.ofInt r.2.2) (fun u => cW k z u r.1 r.2.1) (nn r.1 - nn π) (sw r.1 - sw π)) (hmrFun : ∀ {π : Sh} {σ : St}  {r : Sh × St × Int}, Cl π σ → rFun π σ  = some r → ext π r.1 ∧ Cl r.1 r.2.1 ∧ r.2.2 < nn r.1) (hcrFun : ∀ {g : Nat → Nat} {π : Sh} {σ : St}  {r : Sh × St × Int}, Cl π σ → rFun π σ  = some r → Mq l yX6_fun (.code yX6_fun cX6_fun 5 (some (.object "CycleStudio$Piece")) :: cWd) { frames := φ, cells := nn r.1 - nn π, slots := sw r.1 - sw π, locals := ψ } [rfv g 44] D (TYs k) (cW k z g π σ) (XV z mi aK aV (cW k z g π σ)) (Nat → Nat) (fun v u => gx (nn π) g u ∧ v = rfo u r.2.2) (fun u => cW k z u r.1 r.2.1) (nn r.1 - nn π) (sw r.1 - sw π))  {ls : Array Slot} {H : Heap} {locs : List Loc} {g : Nat → Nat} {π : Sh} {σ : St} {x1 : Int} {s0 : Int} (hC : Cl π σ) (hG : gx (nn π0) g0 g) (hX : ext π0 π) (hv_s0 : s0 < nn π) (hl : lv_has ls 4 [(0, rfv g 44), (1, .int (Int32.ofInt x1))]) (h : Hp D A s.heap H locs (cW k z g π σ)) (hm : Rd_exp_45 N rArg rFun π σ x1 s0 = some r) : W p l e { frames := φ + 6, cells := nn r.1 - nn π0, slots := sw r.1 - sw π0, locals := ψ + 141 } s m args below meth c H locs (nn π - nn π0) (sw π - sw π0) (MQ below (va_Qi (fun v u => gx (nn π0) g0 u ∧ v = Int32.ofInt r.2.2) (fun u t => PostW D (TYs k) A (cW k z u r.1 r.2.1) t) A) args s (nn r.1 - nn π0) (sw r.1 - sw π0) A) (F0 m 45 ls [rfv g s0]) := by
  have hS := hC.1
  have hq := km_Rd_exp_45 hmrArg hmrFun   hC hv_s0 hm
  rw [Rd_exp_45] at hm
  refine z_astore_n (lv' := [(2, rfv g s0), (0, rfv g 44), (1, .int (Int32.ofInt x1))]) C dX6_exp_45 rfl hl (by decide) rfl (fun ls hl => ?_)
  refine z_aload_n C dX6_exp_46 rfl (lv_at hl 0 rfl) ?_
  refine lv_iconst (v := Int32.ofInt 1) C.1 C.2.1 dX6_exp_47 (by decide) ?_
  obtain ⟨g13, hm⟩ := grd_s hm
  refine cp_10_6 C h g13 (by decide) cU_X9 (List.mem_cons_of_mem _ wl_X6_133) dX6_exp_48 (fun H locs h => ?_)
  refine z_aload_n C dX6_exp_51 rfl (lv_at hl 0 rfl) ?_
  refine lv_iload_n C.1 C.2.1 dX6_exp_52 rfl (lv_at hl 2 rfl) ?_
  obtain ⟨σ14, e15, hm⟩ := bnd_s hm
  rw [e15] at h
  have hC16 : Cl π σ14 := e15 ▸ (cl_sfI hC (f := 206) rfl _ _)
  obtain ⟨r17, e18, hm⟩ := obd_s hm
  have q19 := (km_Sp_give hC16 hv_s0 e18)
  have q := km_Rd_exp_56 hmrArg hmrFun  q19.2.1 (lt_ext hv_s0 q19.1) q19.2.2 hm
  refine c_callVqA C hE h g13 rfl (by decide) (kc_Sp_give l D k z mi aK aV g N hC16 hv_s0 e18) (cwV 1 C.2.2.1 (gS_X6_137 _) rfl rfl rfl hd_X9_give ⟨(by show 2 + 1 ≤ φ + 6; omega), (by show 8 + (2 + 11) + 82 ≤ ψ + 141; omega)⟩) rfl hl.1 rfl (Nat.le_of_ble_eq_true rfl) dX6_exp_53 ⟨rcC hX q19.1 q.1, rsC hX q19.1 q.1⟩ (fun u H locs hg h => ?_)
  simp only [← gx_rfv hg hv_s0, ← gx_rfv hg (sh_44 hS).2.1] at hl
  try simp only [← gx_rfv hg hv_s0, ← gx_rfv hg (sh_44 hS).2.1]
  refine W_cast (wcC hX q19.1).symm (wsC hX q19.1).symm ?_
  exact kl_Rd_exp_56 (N := N) C hr hlk hE hφ hψ hmrArg hcrArg hmrFun hcrFun  q19.2.1 (hG.tr hg hX.1) (hX.tr q19.1) (lt_ext hv_s0 q19.1) q19.2.2 (lv_sub hl [1, 0] rfl) h hm
set_option maxHeartbeats 8000000 in
set_option maxRecDepth 100000 in
theorem kl_Rd_exp_32 {r : Sh × St × Int} (C : Cx p s m args c cX6_exp RX6 (cd :: cWd) D (TYs k) 4) (hr : meth.sig.returnType = (some .int)) (hlk : meth.locks = false) (hE : Ev z mi aK aV A s s.heap) {rArg : Sh → St → Option (Sh × St × Int)} {rFun : Sh → St → Option (Sh × St × Int)} (hφ : 260 ≤ φ) (hψ : 12000 ≤ ψ) (hmrArg : ∀ {π : Sh} {σ : St}  {r : Sh × St × Int}, Cl π σ → rArg π σ  = some r → ext π r.1 ∧ Cl r.1 r.2.1) (hcrArg : ∀ {g : Nat → Nat} {π : Sh} {σ : St}  {r : Sh × St × Int}, Cl π σ → rArg π σ  = some r → Mi l yX6_arg (.code yX6_arg cX6_arg 3 (some .int) :: cWd) { frames := φ, cells := nn r.1 - nn π, slots := sw r.1 - sw π, locals := ψ } [rfv g 44] D (TYs k) (cW k z g π σ) (XV z mi aK aV (cW k z g π σ)) (Nat → Nat) (fun v u => gx (nn π) g u ∧ v = Int32.ofInt r.2.2) (fun u => cW k z u r.1 r.2.1) (nn r.1 - nn π) (sw r.1 - sw π)) (hmrFun : ∀ {π : Sh} {σ : St}  {r : Sh × St × Int}, Cl π σ → rFun π σ  = some r → ext π r.1 ∧ Cl r.1 r.2.1 ∧ r.2.2 < nn r.1) (hcrFun : ∀ {g : Nat → Nat} {π : Sh} {σ : St}  {r : Sh × St × Int}, Cl π σ → rFun π σ  = some r → Mq l yX6_fun (.code yX6_fun cX6_fun 5 (some (.object "CycleStudio$Piece")) :: cWd) { frames := φ, cells := nn r.1 - nn π, slots := sw r.1 - sw π, locals := ψ } [rfv g 44] D (TYs k) (cW k z g π σ) (XV z mi aK aV (cW k z g π σ)) (Nat → Nat) (fun v u => gx (nn π) g u ∧ v = rfo u r.2.2) (fun u => cW k z u r.1 r.2.1) (nn r.1 - nn π) (sw r.1 - sw π))  {ls : Array Slot} {H : Heap} {locs : List Loc} {g : Nat → Nat} {π : Sh} {σ : St} {x1 : Int} {s0 : Int} (hC : Cl π σ) (hG : gx (nn π0) g0 g) (hX : ext π0 π) (hv_s0 : s0 < nn π) (hl : lv_has ls 4 [(0, rfv g 44), (1, .int (Int32.ofInt x1))]) (h : Hp D A s.heap H locs (cW k z g π σ)) (hm : Rd_exp_32 N rArg rFun π σ x1 s0 = some r) : W p l e { frames := φ + 6, cells := nn r.1 - nn π0, slots := sw r.1 - sw π0, locals := ψ + 141 } s m args below meth c H locs (nn π - nn π0) (sw π - sw π0) (MQ below (va_Qi (fun v u => gx (nn π0) g0 u ∧ v = Int32.ofInt r.2.2) (fun u t => PostW D (TYs k) A (cW k z u r.1 r.2.1) t) A) args s (nn r.1 - nn π0) (sw r.1 - sw π0) A) (F0 m 32 ls [rfv g s0]) := by
  have hS := hC.1
  have hq := km_Rd_exp_32 hmrArg hmrFun   hC hv_s0 hm
  rw [Rd_exp_32] at hm
  refine lv_dup C.1 C.2.1 dX6_exp_32 (rfv_cat _ _) ?_
  refine lv_bipush (v := Int32.ofInt 8) C.1 C.2.1 dX6_exp_33 (by decide) ?_
  refine z_aload_n C dX6_exp_35 rfl (lv_at hl 0 rfl) ?_
  refine cg_7_0 C h (sh_44 hS) cU_X6 (List.mem_cons_of_mem _ wl_X6_31) dX6_exp_36 ?_
  refine cg_9_6 C h (sh_1 hS) cU_X8 (List.mem_cons_of_mem _ wl_X6_81) dX6_exp_39 ?_
  obtain ⟨r9, e10, hm⟩ := obd_s hm
  have q11 := (km_Sp_init hC hv_s0 e10)
  obtain ⟨g12, hm⟩ := grd_s hm
  have q := km_Rd_exp_45 hmrArg hmrFun  q11.2 (lt_ext hv_s0 q11.1) hm
  refine c_callIvA C hE h g12 (kc_Sp_init l D k z mi aK aV g N hC hv_s0 e10) (cwI 2 C.2.2.1 (gC_X9_init _) rfl rfl rfl (C.2.2.1 _ (List.mem_cons_of_mem _ wt_X9)) (C.2.2.1 _ (List.mem_cons_of_mem _ wm_X6_131)) (C.2.2.1 _ (List.mem_cons_of_mem _ wj_X9_init)) rfl hdS_X9_init ⟨(by show 1 + 1 ≤ φ + 6; omega), (by show 8 + (3 + 11) + 30 ≤ ψ + 141; omega)⟩) rfl hl.1 rfl (by simp [rfv_cat, cat_i, cat_l]) dX6_exp_42 ⟨rcC hX q11.1 q.1, rsC hX q11.1 q.1⟩ (fun u H locs hg h => ?_)
  simp only [← gx_rfv hg (sh_44 hS).2.1, ← gx_rfv hg hv_s0] at hl
  try simp only [← gx_rfv hg (sh_44 hS).2.1, ← gx_rfv hg hv_s0]
  refine W_cast (wcC hX q11.1).symm (wsC hX q11.1).symm ?_
  exact kl_Rd_exp_45 (N := N) C hr hlk hE hφ hψ hmrArg hcrArg hmrFun hcrFun  q11.2 (hG.tr hg hX.1) (hX.tr q11.1) (lt_ext hv_s0 q11.1) (lv_sub hl [0, 1] rfl) h hm
set_option maxHeartbeats 8000000 in
set_option maxRecDepth 100000 in
theorem kl_Rd_exp_4 {r : Sh × St × Int} (C : Cx p s m args c cX6_exp RX6 (cd :: cWd) D (TYs k) 4) (hr : meth.sig.returnType = (some .int)) (hlk : meth.locks = false) (hE : Ev z mi aK aV A s s.heap) {rArg : Sh → St → Option (Sh × St × Int)} {rFun : Sh → St → Option (Sh × St × Int)} (hφ : 260 ≤ φ) (hψ : 12000 ≤ ψ) (hmrArg : ∀ {π : Sh} {σ : St}  {r : Sh × St × Int}, Cl π σ → rArg π σ  = some r → ext π r.1 ∧ Cl r.1 r.2.1) (hcrArg : ∀ {g : Nat → Nat} {π : Sh} {σ : St}  {r : Sh × St × Int}, Cl π σ → rArg π σ  = some r → Mi l yX6_arg (.code yX6_arg cX6_arg 3 (some .int) :: cWd) { frames := φ, cells := nn r.1 - nn π, slots := sw r.1 - sw π, locals := ψ } [rfv g 44] D (TYs k) (cW k z g π σ) (XV z mi aK aV (cW k z g π σ)) (Nat → Nat) (fun v u => gx (nn π) g u ∧ v = Int32.ofInt r.2.2) (fun u => cW k z u r.1 r.2.1) (nn r.1 - nn π) (sw r.1 - sw π)) (hmrFun : ∀ {π : Sh} {σ : St}  {r : Sh × St × Int}, Cl π σ → rFun π σ  = some r → ext π r.1 ∧ Cl r.1 r.2.1 ∧ r.2.2 < nn r.1) (hcrFun : ∀ {g : Nat → Nat} {π : Sh} {σ : St}  {r : Sh × St × Int}, Cl π σ → rFun π σ  = some r → Mq l yX6_fun (.code yX6_fun cX6_fun 5 (some (.object "CycleStudio$Piece")) :: cWd) { frames := φ, cells := nn r.1 - nn π, slots := sw r.1 - sw π, locals := ψ } [rfv g 44] D (TYs k) (cW k z g π σ) (XV z mi aK aV (cW k z g π σ)) (Nat → Nat) (fun v u => gx (nn π) g u ∧ v = rfo u r.2.2) (fun u => cW k z u r.1 r.2.1) (nn r.1 - nn π) (sw r.1 - sw π))  {ls : Array Slot} {H : Heap} {locs : List Loc} {g : Nat → Nat} {π : Sh} {σ : St} {s0 : Int} (hC : Cl π σ) (hG : gx (nn π0) g0 g) (hX : ext π0 π)  (hl : lv_has ls 4 [(0, rfv g 44)]) (h : Hp D A s.heap H locs (cW k z g π σ)) (hm : Rd_exp_4 N rArg rFun π σ s0 = some r) : W p l e { frames := φ + 6, cells := nn r.1 - nn π0, slots := sw r.1 - sw π0, locals := ψ + 141 } s m args below meth c H locs (nn π - nn π0) (sw π - sw π0) (MQ below (va_Qi (fun v u => gx (nn π0) g0 u ∧ v = Int32.ofInt r.2.2) (fun u t => PostW D (TYs k) A (cW k z u r.1 r.2.1) t) A) args s (nn r.1 - nn π0) (sw r.1 - sw π0) A) (F0 m 4 ls [.int (Int32.ofInt s0)]) := by
  have hS := hC.1
  have hq := km_Rd_exp_4 hmrArg hmrFun   hC  hm
  rw [Rd_exp_4] at hm
  refine lv_istore_n (i := 1) (lv' := [(1, .int (Int32.ofInt s0)), (0, rfv g 44)]) C.1 C.2.1 dX6_exp_4 rfl hl (by decide) (by simp [rfv_cat, cat_i, cat_l]) (fun ls hl => ?_)
  refine z_aload_n C dX6_exp_5 rfl (lv_at hl 1 rfl) ?_
  refine cg_7_0 C h (sh_44 hS) cU_X6 (List.mem_cons_of_mem _ wl_X6_31) dX6_exp_6 ?_
  refine cg_9_2 C h (sh_1 hS) cU_X8 (List.mem_cons_of_mem _ wl_X6_72) dX6_exp_9 ?_
  obtain ⟨g4, hm⟩ := grd_s hm
  refine z_if_ne (tgt := 27) C dX6_exp_12 (by decide) g4 (fun c5 => ?_) (fun c5 => ?_)
  · have hm := ite_f c5 hm
    refine lv_iload_n C.1 C.2.1 dX6_exp_27 rfl (lv_at hl 0 rfl) ?_
    cases hm
    exact c_iretA C hG h hr hlk dX6_exp_28 rfl
  · have hm := ite_t c5 hm
    refine z_aload_n C dX6_exp_15 rfl (lv_at hl 1 rfl) ?_
    refine cg_7_0 C h (sh_44 hS) cU_X6 (List.mem_cons_of_mem _ wl_X6_31) dX6_exp_16 ?_
    refine cg_9_5 C h (sh_1 hS) cU_X8 (List.mem_cons_of_mem _ wl_X6_66) dX6_exp_19 ?_
    refine lv_bipush (v := Int32.ofInt 38) C.1 C.2.1 dX6_exp_22 (by decide) ?_
    obtain ⟨g6, hm⟩ := grd_s hm
    refine z_icmp_eq (tgt := 29) C dX6_exp_24 (by decide) g6 (by decide) (fun c7 => ?_) (fun c7 => ?_)
    · have hm := ite_t c7 hm
      have q := km_Rd_exp_32 hmrArg hmrFun  ((cl_nO hC (by decide) (by decide) _)) lt_nO hm
      refine c_new C h hC (by decide) dX6_exp_29 rfl cU_X9 tyX9_ok (List.mem_cons_of_mem _ wn_X6_129) (List.mem_cons_of_mem _ wi_X9) (List.mem_cons_of_mem _ wt_X9) (df_X9) (dn_X9 z) (rc1 hX q.1) (rs1 hX q.1) (fun u H hg h => ?_)
      simp only [← gx_rfv hg (sh_44 hS).2.1] at hl
      try simp only [← gx_rfv hg (sh_44 hS).2.1]
      refine W_cast (wcO (c := 10) (w := 14) hX).symm (wsO (c := 10) (w := 14) hX).symm ?_
      exact kl_Rd_exp_32 (N := N) C hr hlk hE hφ hψ hmrArg hcrArg hmrFun hcrFun  ((cl_nO hC (by decide) (by decide) _)) (hG.tr hg hX.1) (hX.tr (ext_nO π 10 14)) lt_nO (lv_sub hl [1, 0] rfl) h hm
    · have hm := ite_f c7 hm
      refine lv_iload_n C.1 C.2.1 dX6_exp_27 rfl (lv_at hl 0 rfl) ?_
      cases hm
      exact c_iretA C hG h hr hlk dX6_exp_28 rfl
set_option maxHeartbeats 8000000 in
set_option maxRecDepth 100000 in
theorem kc_Rd_exp (l : Launch) (D : va_G) (k : Nat → ClassId) (z mi : Nat) (aK aV : Nat → Nat) (g : Nat → Nat) (N : Nat) {φ ψ : Nat} {rArg : Sh → St → Option (Sh × St × Int)} {rFun : Sh → St → Option (Sh × St × Int)} (hφ : 260 ≤ φ) (hψ : 12000 ≤ ψ) (hmrArg : ∀ {π : Sh} {σ : St}  {r : Sh × St × Int}, Cl π σ → rArg π σ  = some r → ext π r.1 ∧ Cl r.1 r.2.1) (hcrArg : ∀ {g : Nat → Nat} {π : Sh} {σ : St}  {r : Sh × St × Int}, Cl π σ → rArg π σ  = some r → Mi l yX6_arg (.code yX6_arg cX6_arg 3 (some .int) :: cWd) { frames := φ, cells := nn r.1 - nn π, slots := sw r.1 - sw π, locals := ψ } [rfv g 44] D (TYs k) (cW k z g π σ) (XV z mi aK aV (cW k z g π σ)) (Nat → Nat) (fun v u => gx (nn π) g u ∧ v = Int32.ofInt r.2.2) (fun u => cW k z u r.1 r.2.1) (nn r.1 - nn π) (sw r.1 - sw π)) (hmrFun : ∀ {π : Sh} {σ : St}  {r : Sh × St × Int}, Cl π σ → rFun π σ  = some r → ext π r.1 ∧ Cl r.1 r.2.1 ∧ r.2.2 < nn r.1) (hcrFun : ∀ {g : Nat → Nat} {π : Sh} {σ : St}  {r : Sh × St × Int}, Cl π σ → rFun π σ  = some r → Mq l yX6_fun (.code yX6_fun cX6_fun 5 (some (.object "CycleStudio$Piece")) :: cWd) { frames := φ, cells := nn r.1 - nn π, slots := sw r.1 - sw π, locals := ψ } [rfv g 44] D (TYs k) (cW k z g π σ) (XV z mi aK aV (cW k z g π σ)) (Nat → Nat) (fun v u => gx (nn π) g u ∧ v = rfo u r.2.2) (fun u => cW k z u r.1 r.2.1) (nn r.1 - nn π) (sw r.1 - sw π)) {π : Sh} {σ : St}  {r : Sh × St × Int} (hC : Cl π σ)  (hm : Rd_exp N rArg rFun π σ  = some r) : Mi l yX6_exp (.code yX6_exp cX6_exp 4 (some .int) :: cWd) { frames := φ + 6, cells := nn r.1 - nn π, slots := sw r.1 - sw π, locals := ψ + 141 } [rfv g 44] D (TYs k) (cW k z g π σ) (XV z mi aK aV (cW k z g π σ)) (Nat → Nat) (fun v u => gx (nn π) g u ∧ v = Int32.ofInt r.2.2) (fun u => cW k z u r.1 r.2.1) (nn r.1 - nn π) (sw r.1 - sw π) := by
  have hS := hC.1
  have hq := km_Rd_exp hmrArg hmrFun hC  hm
  intro sz
  refine v_met (cc := cX6_exp) (maxL := 4) (ret := (some .int)) (lv := [(0, rfv g 44)]) (by decide) rfl (by simp [lg_sl, rfv_cat, cat_i, cat_l]) (by simp [lv_args, rfv_cat, cat_i, cat_l]) ?_
  intro p e s m below meth c ls C hE hr hlk hmn hl h
  generalize ([rfv g 44] : List Value).toArray = args at C ⊢
  have hG := gx.rf (nn π) g
  have hX := ext.rf π
  refine W_cast (Nat.sub_self (nn π)) (Nat.sub_self (sw π)) ?_
  rw [Rd_exp] at hm
  refine z_aload_n C dX6_exp_0 rfl (lv_at hl 0 rfl) ?_
  obtain ⟨r1, e2, hm⟩ := obd_s hm
  have q3 := (km_Rd_cat hmrArg hmrFun hC e2)
  have q := km_Rd_exp_4 hmrArg hmrFun  q3.2  hm
  refine c_callViA C hE h (sh_44 hS) rfl (by decide) (kc_Rd_cat l D k z mi aK aV g N hφ hψ hmrArg hcrArg hmrFun hcrFun hC e2) (cwV 0 C.2.2.1 (gS_X6_126 _) rfl rfl rfl hd_X6_cat ⟨(by show φ + 5 + 1 ≤ φ + 6; omega), (by show 8 + (4 + 11) + (ψ + 118) ≤ ψ + 141; omega)⟩) rfl hl.1 rfl (Nat.le_of_ble_eq_true rfl) dX6_exp_1 ⟨rcC hX q3.1 q.1, rsC hX q3.1 q.1⟩ (fun u H locs hg h => ?_)
  simp only [← gx_rfv hg (sh_44 hS).2.1] at hl
  try simp only [← gx_rfv hg (sh_44 hS).2.1]
  refine W_cast (wcC hX q3.1).symm (wsC hX q3.1).symm ?_
  exact kl_Rd_exp_4 (N := N) C hr hlk hE hφ hψ hmrArg hcrArg hmrFun hcrFun  q3.2 (hG.tr hg hX.1) (hX.tr q3.1)  (lv_sub hl [0] rfl) h hm
end Z_Rd_exp
section Z_Rd_expect
variable {p : Program} {l : Launch} {e : Env} {s : State} {m : MethodId} {args : Array Value} {below : List Frame} {meth : Method} {c : Code} {D : va_G} {A : Nat → Prop} {k : Nat → ClassId} {N : Nat} {cd : Cond} {z mi : Nat} {aK aV : Nat → Nat} {g : Nat → Nat} {π : Sh}
set_option maxHeartbeats 8000000 in
set_option maxRecDepth 100000 in
theorem kc_Rd_expect (l : Launch) (D : va_G) (k : Nat → ClassId) (z mi : Nat) (aK aV : Nat → Nat) (g : Nat → Nat) (N : Nat)    {π : Sh} {σ : St} {x1 : Int} {r : St} (hS : SHs π) (hm : Rd_expect N π σ x1 = some r) : Mv l yX6_expect (.code yX6_expect cX6_expect 2 none :: cWd) { frames := 4, cells := 0, slots := 0, locals := 88 } [rfv g 44, .int (Int32.ofInt x1)] D (TYs k) (cW k z g π σ) (XV z mi aK aV (cW k z g π σ)) Unit (fun _ => True) (fun _ => cW k z g π r) 0 0 := by
  intro sz
  refine v_met (cc := cX6_expect) (maxL := 2) (ret := none) (lv := [(0, rfv g 44), (1, .int (Int32.ofInt x1))]) (by decide) rfl (by simp [lg_sl, rfv_cat, cat_i, cat_l]) (by simp [lv_args, rfv_cat, cat_i, cat_l]) ?_
  intro p e s m below meth c ls C hE hr hlk hmn hl h
  rw [Rd_expect] at hm
  refine z_aload_n C dX6_expect_0 rfl (lv_at hl 0 rfl) ?_
  refine cg_7_0 C h (sh_44 hS) cU_X6 (List.mem_cons_of_mem _ wl_X6_31) dX6_expect_1 ?_
  refine cg_9_5 C h (sh_1 hS) cU_X8 (List.mem_cons_of_mem _ wl_X6_66) dX6_expect_4 ?_
  refine lv_iload_n C.1 C.2.1 dX6_expect_7 rfl (lv_at hl 1 rfl) ?_
  obtain ⟨g1, hm⟩ := grd_s hm
  obtain ⟨g2, hm⟩ := grd_s hm
  refine z_icmp_eq (tgt := 29) C dX6_expect_8 (by decide) g1 g2 (fun c3 => ?_) (fun c3 => ?_)
  · have hm := ite_t c3 hm
    refine z_aload_n C dX6_expect_29 rfl (lv_at hl 0 rfl) ?_
    refine cg_7_0 C h (sh_44 hS) cU_X6 (List.mem_cons_of_mem _ wl_X6_31) dX6_expect_30 ?_
    obtain ⟨r4, e5, hm⟩ := obd_s hm
    refine c_callVvP C hE h (sh_1 hS) rfl (by decide) (kc_Sc_advance l D k z mi aK aV g N hS e5) (cwV 0 C.2.2.1 (gS_X6_88 _) rfl rfl rfl hd_X8_advance ⟨Nat.le_of_ble_eq_true rfl, Nat.le_of_ble_eq_true rfl⟩) rfl hl.1 rfl (Nat.le_of_ble_eq_true rfl) dX6_expect_33 ⟨(Nat.le_of_ble_eq_true rfl), (Nat.le_of_ble_eq_true rfl)⟩ (fun H locs h => ?_)
    cases hm
    exact c_vretP C h hr hlk dX6_expect_36
  · have hm := ite_f c3 hm
    refine z_aload_n C dX6_expect_11 rfl (lv_at hl 0 rfl) ?_
    refine cg_7_0 C h (sh_44 hS) cU_X6 (List.mem_cons_of_mem _ wl_X6_31) dX6_expect_12 ?_
    refine lv_iconst (v := Int32.ofInt 1) C.1 C.2.1 dX6_expect_15 (by decide) ?_
    refine z_aload_n C dX6_expect_16 rfl (lv_at hl 0 rfl) ?_
    refine cg_7_0 C h (sh_44 hS) cU_X6 (List.mem_cons_of_mem _ wl_X6_31) dX6_expect_17 ?_
    refine cg_9_6 C h (sh_1 hS) cU_X8 (List.mem_cons_of_mem _ wl_X6_81) dX6_expect_20 ?_
    obtain ⟨r8, e9, hm⟩ := obd_s hm
    refine c_callVvP C hE h (sh_1 hS) rfl (by decide) (kc_Sc_fail l D k z mi aK aV g N hS e9) (cwV 2 C.2.2.1 (gS_X6_84 _) rfl rfl rfl hd_X8_fail ⟨Nat.le_of_ble_eq_true rfl, Nat.le_of_ble_eq_true rfl⟩) rfl hl.1 rfl (Nat.le_of_ble_eq_true rfl) dX6_expect_23 ⟨(Nat.le_of_ble_eq_true rfl), (Nat.le_of_ble_eq_true rfl)⟩ (fun H locs h => ?_)
    refine lv_goto (tgt := 36) C.1 C.2.1 dX6_expect_26 (by decide) ?_
    cases hm
    exact c_vretP C h hr hlk dX6_expect_36
end Z_Rd_expect
section Z_Rd_patternName
variable {p : Program} {l : Launch} {e : Env} {s : State} {m : MethodId} {args : Array Value} {below : List Frame} {meth : Method} {c : Code} {D : va_G} {A : Nat → Prop} {k : Nat → ClassId} {N : Nat} {cd : Cond} {z mi : Nat} {aK aV : Nat → Nat} {g0 : Nat → Nat} {π0 : Sh}
set_option maxHeartbeats 8000000 in
set_option maxRecDepth 100000 in
theorem kl_Rd_patternName_72 {r : Sh × St × Int} (C : Cx p s m args c cX6_patternName RX6 (cd :: cWd) D (TYs k) 2) (hr : meth.sig.returnType = (some .int)) (hlk : meth.locks = false) (hE : Ev z mi aK aV A s s.heap)    {ls : Array Slot} {H : Heap} {locs : List Loc} {g : Nat → Nat} {π : Sh} {σ : St} {s0 : Int} (hC : Cl π σ) (hG : gx (nn π0) g0 g) (hX : ext π0 π)  (hl : lv_has ls 2 []) (h : Hp D A s.heap H locs (cW k z g π σ)) (hm : Rd_patternName_72 N π σ s0 = some r) : W p l e { frames := 8, cells := nn r.1 - nn π0, slots := sw r.1 - sw π0, locals := 262 } s m args below meth c H locs (nn π - nn π0) (sw π - sw π0) (MQ below (va_Qi (fun v u => gx (nn π0) g0 u ∧ v = Int32.ofInt r.2.2) (fun u t => PostW D (TYs k) A (cW k z u r.1 r.2.1) t) A) args s (nn r.1 - nn π0) (sw r.1 - sw π0) A) (F0 m 72 ls [.int (Int32.ofInt s0)]) := by
  have hS := hC.1
  have hq := km_Rd_patternName_72    hC  hm
  rw [Rd_patternName_72] at hm
  cases hm
  exact c_iretA C hG h hr hlk dX6_patternName_72 rfl
set_option maxHeartbeats 8000000 in
set_option maxRecDepth 100000 in
theorem kl_Rd_patternName_39 {r : Sh × St × Int} (C : Cx p s m args c cX6_patternName RX6 (cd :: cWd) D (TYs k) 2) (hr : meth.sig.returnType = (some .int)) (hlk : meth.locks = false) (hE : Ev z mi aK aV A s s.heap)    {ls : Array Slot} {H : Heap} {locs : List Loc} {g : Nat → Nat} {π : Sh} {σ : St} {x1 : Int} (hC : Cl π σ) (hG : gx (nn π0) g0 g) (hX : ext π0 π)  (hl : lv_has ls 2 [(0, rfv g 44), (1, .int (Int32.ofInt x1))]) (h : Hp D A s.heap H locs (cW k z g π σ)) (hm : Rd_patternName_39 N π σ x1 = some r) : W p l e { frames := 8, cells := nn r.1 - nn π0, slots := sw r.1 - sw π0, locals := 262 } s m args below meth c H locs (nn π - nn π0) (sw π - sw π0) (MQ below (va_Qi (fun v u => gx (nn π0) g0 u ∧ v = Int32.ofInt r.2.2) (fun u t => PostW D (TYs k) A (cW k z u r.1 r.2.1) t) A) args s (nn r.1 - nn π0) (sw r.1 - sw π0) A) (F0 m 39 ls []) := by
  have hS := hC.1
  have hq := km_Rd_patternName_39    hC  hm
  rw [Rd_patternName_39] at hm
  refine z_aload_n C dX6_patternName_39 rfl (lv_at hl 0 rfl) ?_
  refine cg_7_0 C h (sh_44 hS) cU_X6 (List.mem_cons_of_mem _ wl_X6_31) dX6_patternName_40 ?_
  obtain ⟨r12, e13, hm⟩ := obd_s hm
  have q14 := (km_Sc_advance hC e13)
  refine c_callVvP C hE h (sh_1 hS) rfl (by decide) (kc_Sc_advance l D k z mi aK aV g N hS e13) (cwV 0 C.2.2.1 (gS_X6_88 _) rfl rfl rfl hd_X8_advance ⟨Nat.le_of_ble_eq_true rfl, Nat.le_of_ble_eq_true rfl⟩) rfl hl.1 rfl (Nat.le_of_ble_eq_true rfl) dX6_patternName_43 ⟨(czz hX hq.1), (szz hX hq.1)⟩ (fun H locs h => ?_)
  have hC15 : Cl π r12 := q14
  refine lv_iload_n C.1 C.2.1 dX6_patternName_46 rfl (lv_at hl 1 rfl) ?_
  refine lv_iconst (v := Int32.ofInt 1) C.1 C.2.1 dX6_patternName_47 (by decide) ?_
  obtain ⟨g16, hm⟩ := grd_s hm
  refine z_icmp_ne (tgt := 58) C dX6_patternName_48 (by decide) g16 (by decide) (fun c17 => ?_) (fun c17 => ?_)
  · have hm := ite_f c17 hm
    refine z_aload_n C dX6_patternName_58 rfl (lv_at hl 0 rfl) ?_
    refine cg_7_4 C h (sh_44 hS) cU_X6 (List.mem_cons_of_mem _ wl_X6_20) dX6_patternName_59 ?_
    refine z_aload_n C dX6_patternName_62 rfl (lv_at hl 0 rfl) ?_
    refine cg_7_6 C h (sh_44 hS) cU_X6 (List.mem_cons_of_mem _ wl_X6_28) dX6_patternName_63 ?_
    obtain ⟨g18, hm⟩ := grd_s hm
    refine cg_1_6 C h g18 cU_X0 (List.mem_cons_of_mem _ wl_X6_200) dX6_patternName_66 ?_
    obtain ⟨r19, e20, hm⟩ := obd_s hm
    have q21 := (km_Df_addKnown hC15 (cl_fl hC15 (f := 144) rfl 44) (cl_fl hC15 (f := 26) rfl (fl r12 146 44)) e20)
    obtain ⟨g22, hm⟩ := grd_s hm
    have q := km_Rd_patternName_72   q21.2  hm
    refine c_callViA C hE h g22 rfl (by decide) (kc_Df_addKnown l D k z mi aK aV g N hC15 (cl_fl hC15 (f := 144) rfl 44) (cl_fl hC15 (f := 26) rfl (fl r12 146 44)) e20) (cwV 1 C.2.2.1 (gS_X6_204 _) rfl rfl rfl hd_X0_addKnown ⟨Nat.le_of_ble_eq_true rfl, Nat.le_of_ble_eq_true rfl⟩) rfl hl.1 rfl (Nat.le_of_ble_eq_true rfl) dX6_patternName_69 ⟨rcC hX q21.1 q.1, rsC hX q21.1 q.1⟩ (fun u H locs hg h => ?_)
    simp only [← gx_rfv hg (sh_44 hS).2.1] at hl
    try simp only [← gx_rfv hg (sh_44 hS).2.1]
    refine W_cast (wcC hX q21.1).symm (wsC hX q21.1).symm ?_
    exact kl_Rd_patternName_72 (N := N) C hr hlk hE   q21.2 (hG.tr hg hX.1) (hX.tr q21.1)  (lv_sub hl [] rfl) h hm
  · have hm := ite_t c17 hm
    refine z_aload_n C dX6_patternName_51 rfl (lv_at hl 0 rfl) ?_
    refine cg_7_5 C h (sh_44 hS) cU_X6 (List.mem_cons_of_mem _ wl_X6_24) dX6_patternName_52 ?_
    refine lv_goto (tgt := 72) C.1 C.2.1 dX6_patternName_55 (by decide) ?_
    exact kl_Rd_patternName_72 (N := N) C hr hlk hE hC15 hG hX (lv_sub hl [] rfl) h hm
set_option maxHeartbeats 8000000 in
set_option maxRecDepth 100000 in
theorem kc_Rd_patternName (l : Launch) (D : va_G) (k : Nat → ClassId) (z mi : Nat) (aK aV : Nat → Nat) (g : Nat → Nat) (N : Nat)    {π : Sh} {σ : St}  {r : Sh × St × Int} (hC : Cl π σ)  (hm : Rd_patternName N π σ  = some r) : Mi l yX6_patternName (.code yX6_patternName cX6_patternName 2 (some .int) :: cWd) { frames := 8, cells := nn r.1 - nn π, slots := sw r.1 - sw π, locals := 262 } [rfv g 44] D (TYs k) (cW k z g π σ) (XV z mi aK aV (cW k z g π σ)) (Nat → Nat) (fun v u => gx (nn π) g u ∧ v = Int32.ofInt r.2.2) (fun u => cW k z u r.1 r.2.1) (nn r.1 - nn π) (sw r.1 - sw π) := by
  have hS := hC.1
  have hq := km_Rd_patternName  hC  hm
  intro sz
  refine v_met (cc := cX6_patternName) (maxL := 2) (ret := (some .int)) (lv := [(0, rfv g 44)]) (by decide) rfl (by simp [lg_sl, rfv_cat, cat_i, cat_l]) (by simp [lv_args, rfv_cat, cat_i, cat_l]) ?_
  intro p e s m below meth c ls C hE hr hlk hmn hl h
  generalize ([rfv g 44] : List Value).toArray = args at C ⊢
  have hG := gx.rf (nn π) g
  have hX := ext.rf π
  refine W_cast (Nat.sub_self (nn π)) (Nat.sub_self (sw π)) ?_
  rw [Rd_patternName] at hm
  refine z_aload_n C dX6_patternName_0 rfl (lv_at hl 0 rfl) ?_
  refine z_aload_n C dX6_patternName_1 rfl (lv_at hl 0 rfl) ?_
  refine cg_7_0 C h (sh_44 hS) cU_X6 (List.mem_cons_of_mem _ wl_X6_31) dX6_patternName_2 ?_
  refine cg_9_8 C h (sh_1 hS) cU_X8 (List.mem_cons_of_mem _ wl_X6_91) dX6_patternName_5 ?_
  obtain ⟨r1, e2, hm⟩ := obd_s hm
  have q3 := (km_Rd_kindOf hC e2)
  refine c_callViP C hE h (sh_44 hS) rfl (by decide) (kc_Rd_kindOf l D k z mi aK aV g N hS e2) (cwV 1 C.2.2.1 (gS_X6_165 _) rfl rfl rfl hd_X6_kindOf ⟨Nat.le_of_ble_eq_true rfl, Nat.le_of_ble_eq_true rfl⟩) rfl hl.1 rfl (Nat.le_of_ble_eq_true rfl) dX6_patternName_8 ⟨(czz hX hq.1), (szz hX hq.1)⟩ (fun H locs h => ?_)
  have hC4 : Cl π r1.1 := q3
  refine lv_istore_n (i := 1) (lv' := [(1, .int (Int32.ofInt r1.2)), (0, rfv g 44)]) C.1 C.2.1 dX6_patternName_11 rfl hl (by decide) (by simp [rfv_cat, cat_i, cat_l]) (fun ls hl => ?_)
  refine lv_iload_n C.1 C.2.1 dX6_patternName_12 rfl (lv_at hl 0 rfl) ?_
  refine lv_iconst (v := Int32.ofInt 1) C.1 C.2.1 dX6_patternName_13 (by decide) ?_
  obtain ⟨g5, hm⟩ := grd_s hm
  refine z_icmp_eq (tgt := 39) C dX6_patternName_14 (by decide) g5 (by decide) (fun c6 => ?_) (fun c6 => ?_)
  · have hm := ite_t c6 hm
    exact kl_Rd_patternName_39 (N := N) C hr hlk hE hC4 hG hX (lv_sub hl [1, 0] rfl) h hm
  · have hm := ite_f c6 hm
    refine lv_iload_n C.1 C.2.1 dX6_patternName_17 rfl (lv_at hl 0 rfl) ?_
    refine lv_iconst (v := Int32.ofInt 3) C.1 C.2.1 dX6_patternName_18 (by decide) ?_
    refine z_icmp_eq (tgt := 39) C dX6_patternName_19 (by decide) g5 (by decide) (fun c7 => ?_) (fun c7 => ?_)
    · have hm := ite_t c7 hm
      exact kl_Rd_patternName_39 (N := N) C hr hlk hE hC4 hG hX (lv_sub hl [1, 0] rfl) h hm
    · have hm := ite_f c7 hm
      refine z_aload_n C dX6_patternName_22 rfl (lv_at hl 1 rfl) ?_
      refine cg_7_0 C h (sh_44 hS) cU_X6 (List.mem_cons_of_mem _ wl_X6_31) dX6_patternName_23 ?_
      refine lv_iconst (v := Int32.ofInt 2) C.1 C.2.1 dX6_patternName_26 (by decide) ?_
      refine z_aload_n C dX6_patternName_27 rfl (lv_at hl 1 rfl) ?_
      refine cg_7_0 C h (sh_44 hS) cU_X6 (List.mem_cons_of_mem _ wl_X6_31) dX6_patternName_28 ?_
      refine cg_9_6 C h (sh_1 hS) cU_X8 (List.mem_cons_of_mem _ wl_X6_81) dX6_patternName_31 ?_
      obtain ⟨r8, e9, hm⟩ := obd_s hm
      have q10 := (km_Sc_fail hC4 e9)
      refine c_callVvP C hE h (sh_1 hS) rfl (by decide) (kc_Sc_fail l D k z mi aK aV g N hS e9) (cwV 2 C.2.2.1 (gS_X6_84 _) rfl rfl rfl hd_X8_fail ⟨Nat.le_of_ble_eq_true rfl, Nat.le_of_ble_eq_true rfl⟩) rfl hl.1 rfl (Nat.le_of_ble_eq_true rfl) dX6_patternName_34 ⟨(czz hX hq.1), (szz hX hq.1)⟩ (fun H locs h => ?_)
      have hC11 : Cl π r8 := q10
      refine lv_iconst (v := Int32.ofInt 0) C.1 C.2.1 dX6_patternName_37 (by decide) ?_
      cases hm
      exact c_iretA C hG h hr hlk dX6_patternName_38 rfl
end Z_Rd_patternName
section Z_Rd_arg
variable {p : Program} {l : Launch} {e : Env} {s : State} {m : MethodId} {args : Array Value} {below : List Frame} {meth : Method} {c : Code} {D : va_G} {A : Nat → Prop} {k : Nat → ClassId} {N : Nat} {cd : Cond} {z mi : Nat} {aK aV : Nat → Nat} {g0 : Nat → Nat} {π0 : Sh} {φ ψ : Nat}
set_option maxHeartbeats 8000000 in
set_option maxRecDepth 100000 in
theorem kl_Rd_arg_15 {r : Sh × St × Int} (C : Cx p s m args c cX6_arg RX6 (cd :: cWd) D (TYs k) 3) (hr : meth.sig.returnType = (some .int)) (hlk : meth.locks = false) (hE : Ev z mi aK aV A s s.heap) {rArg : Sh → St → Option (Sh × St × Int)} {rFun : Sh → St → Option (Sh × St × Int)} (hφ : 260 ≤ φ) (hψ : 12000 ≤ ψ) (hmrArg : ∀ {π : Sh} {σ : St}  {r : Sh × St × Int}, Cl π σ → rArg π σ  = some r → ext π r.1 ∧ Cl r.1 r.2.1) (hcrArg : ∀ {g : Nat → Nat} {π : Sh} {σ : St}  {r : Sh × St × Int}, Cl π σ → rArg π σ  = some r → Mi l yX6_arg (.code yX6_arg cX6_arg 3 (some .int) :: cWd) { frames := φ, cells := nn r.1 - nn π, slots := sw r.1 - sw π, locals := ψ } [rfv g 44] D (TYs k) (cW k z g π σ) (XV z mi aK aV (cW k z g π σ)) (Nat → Nat) (fun v u => gx (nn π) g u ∧ v = Int32.ofInt r.2.2) (fun u => cW k z u r.1 r.2.1) (nn r.1 - nn π) (sw r.1 - sw π)) (hmrFun : ∀ {π : Sh} {σ : St}  {r : Sh × St × Int}, Cl π σ → rFun π σ  = some r → ext π r.1 ∧ Cl r.1 r.2.1 ∧ r.2.2 < nn r.1) (hcrFun : ∀ {g : Nat → Nat} {π : Sh} {σ : St}  {r : Sh × St × Int}, Cl π σ → rFun π σ  = some r → Mq l yX6_fun (.code yX6_fun cX6_fun 5 (some (.object "CycleStudio$Piece")) :: cWd) { frames := φ, cells := nn r.1 - nn π, slots := sw r.1 - sw π, locals := ψ } [rfv g 44] D (TYs k) (cW k z g π σ) (XV z mi aK aV (cW k z g π σ)) (Nat → Nat) (fun v u => gx (nn π) g u ∧ v = rfo u r.2.2) (fun u => cW k z u r.1 r.2.1) (nn r.1 - nn π) (sw r.1 - sw π))  {ls : Array Slot} {H : Heap} {locs : List Loc} {g : Nat → Nat} {π : Sh} {σ : St} {s0 : Int} (hC : Cl π σ) (hG : gx (nn π0) g0 g) (hX : ext π0 π)  (hl : lv_has ls 3 []) (h : Hp D A s.heap H locs (cW k z g π σ)) (hm : Rd_arg_15 N rArg rFun π σ s0 = some r) : W p l e { frames := φ + 12, cells := nn r.1 - nn π0, slots := sw r.1 - sw π0, locals := ψ + 700 } s m args below meth c H locs (nn π - nn π0) (sw π - sw π0) (MQ below (va_Qi (fun v u => gx (nn π0) g0 u ∧ v = Int32.ofInt r.2.2) (fun u t => PostW D (TYs k) A (cW k z u r.1 r.2.1) t) A) args s (nn r.1 - nn π0) (sw r.1 - sw π0) A) (F0 m 15 ls [.int (Int32.ofInt s0)]) := by
  have hS := hC.1
  have hq := km_Rd_arg_15 hmrArg hmrFun   hC  hm
  rw [Rd_arg_15] at hm
  cases hm
  exact c_iretA C hG h hr hlk dX6_arg_15 rfl
set_option maxHeartbeats 8000000 in
set_option maxRecDepth 100000 in
theorem kl_Rd_arg_161 {r : Sh × St × Int} (C : Cx p s m args c cX6_arg RX6 (cd :: cWd) D (TYs k) 3) (hr : meth.sig.returnType = (some .int)) (hlk : meth.locks = false) (hE : Ev z mi aK aV A s s.heap) {rArg : Sh → St → Option (Sh × St × Int)} {rFun : Sh → St → Option (Sh × St × Int)} (hφ : 260 ≤ φ) (hψ : 12000 ≤ ψ) (hmrArg : ∀ {π : Sh} {σ : St}  {r : Sh × St × Int}, Cl π σ → rArg π σ  = some r → ext π r.1 ∧ Cl r.1 r.2.1) (hcrArg : ∀ {g : Nat → Nat} {π : Sh} {σ : St}  {r : Sh × St × Int}, Cl π σ → rArg π σ  = some r → Mi l yX6_arg (.code yX6_arg cX6_arg 3 (some .int) :: cWd) { frames := φ, cells := nn r.1 - nn π, slots := sw r.1 - sw π, locals := ψ } [rfv g 44] D (TYs k) (cW k z g π σ) (XV z mi aK aV (cW k z g π σ)) (Nat → Nat) (fun v u => gx (nn π) g u ∧ v = Int32.ofInt r.2.2) (fun u => cW k z u r.1 r.2.1) (nn r.1 - nn π) (sw r.1 - sw π)) (hmrFun : ∀ {π : Sh} {σ : St}  {r : Sh × St × Int}, Cl π σ → rFun π σ  = some r → ext π r.1 ∧ Cl r.1 r.2.1 ∧ r.2.2 < nn r.1) (hcrFun : ∀ {g : Nat → Nat} {π : Sh} {σ : St}  {r : Sh × St × Int}, Cl π σ → rFun π σ  = some r → Mq l yX6_fun (.code yX6_fun cX6_fun 5 (some (.object "CycleStudio$Piece")) :: cWd) { frames := φ, cells := nn r.1 - nn π, slots := sw r.1 - sw π, locals := ψ } [rfv g 44] D (TYs k) (cW k z g π σ) (XV z mi aK aV (cW k z g π σ)) (Nat → Nat) (fun v u => gx (nn π) g u ∧ v = rfo u r.2.2) (fun u => cW k z u r.1 r.2.1) (nn r.1 - nn π) (sw r.1 - sw π))  {ls : Array Slot} {H : Heap} {locs : List Loc} {g : Nat → Nat} {π : Sh} {σ : St} {x2 : Int} (hC : Cl π σ) (hG : gx (nn π0) g0 g) (hX : ext π0 π)  (hl : lv_has ls 3 [(0, rfv g 44), (2, .int (Int32.ofInt x2))]) (h : Hp D A s.heap H locs (cW k z g π σ)) (hm : Rd_arg_161 N rArg rFun π σ x2 = some r) : W p l e { frames := φ + 12, cells := nn r.1 - nn π0, slots := sw r.1 - sw π0, locals := ψ + 700 } s m args below meth c H locs (nn π - nn π0) (sw π - sw π0) (MQ below (va_Qi (fun v u => gx (nn π0) g0 u ∧ v = Int32.ofInt r.2.2) (fun u t => PostW D (TYs k) A (cW k z u r.1 r.2.1) t) A) args s (nn r.1 - nn π0) (sw r.1 - sw π0) A) (F0 m 161 ls []) := by
  have hS := hC.1
  have hq := km_Rd_arg_161 hmrArg hmrFun   hC  hm
  rw [Rd_arg_161] at hm
  refine z_aload_n C dX6_arg_161 rfl (lv_at hl 0 rfl) ?_
  refine cg_7_0 C h (sh_44 hS) cU_X6 (List.mem_cons_of_mem _ wl_X6_31) dX6_arg_162 ?_
  refine lv_dup C.1 C.2.1 dX6_arg_165 (rfv_cat _ _) ?_
  refine cg_9_4 C h (sh_1 hS) cU_X8 (List.mem_cons_of_mem _ wl_X6_197) dX6_arg_166 ?_
  refine lv_iconst (v := Int32.ofInt 1) C.1 C.2.1 dX6_arg_169 (by decide) ?_
  refine z_isub C dX6_arg_170 ?_
  refine cp_9_4 C h (sh_1 hS) cU_X8 (List.mem_cons_of_mem _ wl_X6_197) dX6_arg_171 (fun H locs h => ?_)
  refine lv_iload_n C.1 C.2.1 dX6_arg_174 rfl (lv_at hl 1 rfl) ?_
  cases hm
  exact c_iretA C hG h hr hlk dX6_arg_175 rfl
set_option maxHeartbeats 8000000 in
set_option maxRecDepth 100000 in
theorem kl_Rd_arg_125 {r : Sh × St × Int} (C : Cx p s m args c cX6_arg RX6 (cd :: cWd) D (TYs k) 3) (hr : meth.sig.returnType = (some .int)) (hlk : meth.locks = false) (hE : Ev z mi aK aV A s s.heap) {rArg : Sh → St → Option (Sh × St × Int)} {rFun : Sh → St → Option (Sh × St × Int)} (hφ : 260 ≤ φ) (hψ : 12000 ≤ ψ) (hmrArg : ∀ {π : Sh} {σ : St}  {r : Sh × St × Int}, Cl π σ → rArg π σ  = some r → ext π r.1 ∧ Cl r.1 r.2.1) (hcrArg : ∀ {g : Nat → Nat} {π : Sh} {σ : St}  {r : Sh × St × Int}, Cl π σ → rArg π σ  = some r → Mi l yX6_arg (.code yX6_arg cX6_arg 3 (some .int) :: cWd) { frames := φ, cells := nn r.1 - nn π, slots := sw r.1 - sw π, locals := ψ } [rfv g 44] D (TYs k) (cW k z g π σ) (XV z mi aK aV (cW k z g π σ)) (Nat → Nat) (fun v u => gx (nn π) g u ∧ v = Int32.ofInt r.2.2) (fun u => cW k z u r.1 r.2.1) (nn r.1 - nn π) (sw r.1 - sw π)) (hmrFun : ∀ {π : Sh} {σ : St}  {r : Sh × St × Int}, Cl π σ → rFun π σ  = some r → ext π r.1 ∧ Cl r.1 r.2.1 ∧ r.2.2 < nn r.1) (hcrFun : ∀ {g : Nat → Nat} {π : Sh} {σ : St}  {r : Sh × St × Int}, Cl π σ → rFun π σ  = some r → Mq l yX6_fun (.code yX6_fun cX6_fun 5 (some (.object "CycleStudio$Piece")) :: cWd) { frames := φ, cells := nn r.1 - nn π, slots := sw r.1 - sw π, locals := ψ } [rfv g 44] D (TYs k) (cW k z g π σ) (XV z mi aK aV (cW k z g π σ)) (Nat → Nat) (fun v u => gx (nn π) g u ∧ v = rfo u r.2.2) (fun u => cW k z u r.1 r.2.1) (nn r.1 - nn π) (sw r.1 - sw π))  {ls : Array Slot} {H : Heap} {locs : List Loc} {g : Nat → Nat} {π : Sh} {σ : St} {s0 : Int} (hC : Cl π σ) (hG : gx (nn π0) g0 g) (hX : ext π0 π)  (hl : lv_has ls 3 [(0, rfv g 44)]) (h : Hp D A s.heap H locs (cW k z g π σ)) (hm : Rd_arg_125 N rArg rFun π σ s0 = some r) : W p l e { frames := φ + 12, cells := nn r.1 - nn π0, slots := sw r.1 - sw π0, locals := ψ + 700 } s m args below meth c H locs (nn π - nn π0) (sw π - sw π0) (MQ below (va_Qi (fun v u => gx (nn π0) g0 u ∧ v = Int32.ofInt r.2.2) (fun u t => PostW D (TYs k) A (cW k z u r.1 r.2.1) t) A) args s (nn r.1 - nn π0) (sw r.1 - sw π0) A) (F0 m 125 ls [.int (Int32.ofInt s0)]) := by
  have hS := hC.1
  have hq := km_Rd_arg_125 hmrArg hmrFun   hC  hm
  rw [Rd_arg_125] at hm
  refine lv_istore_n (lv' := [(2, .int (Int32.ofInt s0)), (0, rfv g 44)]) C.1 C.2.1 dX6_arg_125 rfl hl (by decide) rfl (fun ls hl => ?_)
  refine z_aload_n C dX6_arg_126 rfl (lv_at hl 1 rfl) ?_
  refine cg_7_1 C h (sh_44 hS) cU_X6 (List.mem_cons_of_mem _ wl_X6_44) dX6_arg_127 ?_
  obtain ⟨r41, e42, hm⟩ := obd_s hm
  have q43 := (km_Tx_finish hC e42)
  refine c_callVvP C hE h (sh_50 hS) rfl (by decide) (kc_Tx_finish l D k z mi aK aV g N hS e42) (cwV 0 C.2.2.1 (gS_X6_194 _) rfl rfl rfl hd_X10_finish ⟨(by show 1 + 1 ≤ φ + 12; omega), (by show 8 + (1 + 11) + 22 ≤ ψ + 700; omega)⟩) rfl hl.1 rfl (Nat.le_of_ble_eq_true rfl) dX6_arg_130 ⟨(czz hX hq.1), (szz hX hq.1)⟩ (fun H locs h => ?_)
  have hC44 : Cl π r41 := q43
  refine z_aload_n C dX6_arg_133 rfl (lv_at hl 1 rfl) ?_
  refine cg_7_0 C h (sh_44 hS) cU_X6 (List.mem_cons_of_mem _ wl_X6_31) dX6_arg_134 ?_
  obtain ⟨r45, e46, hm⟩ := obd_s hm
  have q47 := (km_Sc_advance hC44 e46)
  refine c_callVvP C hE h (sh_1 hS) rfl (by decide) (kc_Sc_advance l D k z mi aK aV g N hS e46) (cwV 0 C.2.2.1 (gS_X6_88 _) rfl rfl rfl hd_X8_advance ⟨(by show 3 + 1 ≤ φ + 12; omega), (by show 8 + (2 + 11) + 67 ≤ ψ + 700; omega)⟩) rfl hl.1 rfl (Nat.le_of_ble_eq_true rfl) dX6_arg_137 ⟨(czz hX hq.1), (szz hX hq.1)⟩ (fun H locs h => ?_)
  have hC48 : Cl π r45 := q47
  refine lv_goto (tgt := 161) C.1 C.2.1 dX6_arg_140 (by decide) ?_
  exact kl_Rd_arg_161 (N := N) C hr hlk hE hφ hψ hmrArg hcrArg hmrFun hcrFun hC48 hG hX (lv_sub hl [1, 0] rfl) h hm
set_option maxHeartbeats 8000000 in
set_option maxRecDepth 100000 in
theorem kl_Rd_arg_154 {r : Sh × St × Int} (C : Cx p s m args c cX6_arg RX6 (cd :: cWd) D (TYs k) 3) (hr : meth.sig.returnType = (some .int)) (hlk : meth.locks = false) (hE : Ev z mi aK aV A s s.heap) {rArg : Sh → St → Option (Sh × St × Int)} {rFun : Sh → St → Option (Sh × St × Int)} (hφ : 260 ≤ φ) (hψ : 12000 ≤ ψ) (hmrArg : ∀ {π : Sh} {σ : St}  {r : Sh × St × Int}, Cl π σ → rArg π σ  = some r → ext π r.1 ∧ Cl r.1 r.2.1) (hcrArg : ∀ {g : Nat → Nat} {π : Sh} {σ : St}  {r : Sh × St × Int}, Cl π σ → rArg π σ  = some r → Mi l yX6_arg (.code yX6_arg cX6_arg 3 (some .int) :: cWd) { frames := φ, cells := nn r.1 - nn π, slots := sw r.1 - sw π, locals := ψ } [rfv g 44] D (TYs k) (cW k z g π σ) (XV z mi aK aV (cW k z g π σ)) (Nat → Nat) (fun v u => gx (nn π) g u ∧ v = Int32.ofInt r.2.2) (fun u => cW k z u r.1 r.2.1) (nn r.1 - nn π) (sw r.1 - sw π)) (hmrFun : ∀ {π : Sh} {σ : St}  {r : Sh × St × Int}, Cl π σ → rFun π σ  = some r → ext π r.1 ∧ Cl r.1 r.2.1 ∧ r.2.2 < nn r.1) (hcrFun : ∀ {g : Nat → Nat} {π : Sh} {σ : St}  {r : Sh × St × Int}, Cl π σ → rFun π σ  = some r → Mq l yX6_fun (.code yX6_fun cX6_fun 5 (some (.object "CycleStudio$Piece")) :: cWd) { frames := φ, cells := nn r.1 - nn π, slots := sw r.1 - sw π, locals := ψ } [rfv g 44] D (TYs k) (cW k z g π σ) (XV z mi aK aV (cW k z g π σ)) (Nat → Nat) (fun v u => gx (nn π) g u ∧ v = rfo u r.2.2) (fun u => cW k z u r.1 r.2.1) (nn r.1 - nn π) (sw r.1 - sw π))  {ls : Array Slot} {H : Heap} {locs : List Loc} {g : Nat → Nat} {π : Sh} {σ : St} {s0 : Int} (hC : Cl π σ) (hG : gx (nn π0) g0 g) (hX : ext π0 π)  (hl : lv_has ls 3 [(0, rfv g 44)]) (h : Hp D A s.heap H locs (cW k z g π σ)) (hm : Rd_arg_154 N rArg rFun π σ s0 = some r) : W p l e { frames := φ + 12, cells := nn r.1 - nn π0, slots := sw r.1 - sw π0, locals := ψ + 700 } s m args below meth c H locs (nn π - nn π0) (sw π - sw π0) (MQ below (va_Qi (fun v u => gx (nn π0) g0 u ∧ v = Int32.ofInt r.2.2) (fun u t => PostW D (TYs k) A (cW k z u r.1 r.2.1) t) A) args s (nn r.1 - nn π0) (sw r.1 - sw π0) A) (F0 m 154 ls [.int (Int32.ofInt s0)]) := by
  have hS := hC.1
  have hq := km_Rd_arg_154 hmrArg hmrFun   hC  hm
  rw [Rd_arg_154] at hm
  refine lv_istore_n (lv' := [(2, .int (Int32.ofInt s0)), (0, rfv g 44)]) C.1 C.2.1 dX6_arg_154 rfl hl (by decide) rfl (fun ls hl => ?_)
  refine z_aload_n C dX6_arg_155 rfl (lv_at hl 1 rfl) ?_
  refine lv_bipush (v := Int32.ofInt 41) C.1 C.2.1 dX6_arg_156 (by decide) ?_
  obtain ⟨r37, e38, hm⟩ := obd_s hm
  have q39 := (km_Rd_expect hC e38)
  refine c_callVvP C hE h (sh_44 hS) rfl (by decide) (kc_Rd_expect l D k z mi aK aV g N hS e38) (cwV 1 C.2.2.1 (gS_X6_109 _) rfl rfl rfl hd_X6_expect ⟨(by show 4 + 1 ≤ φ + 12; omega), (by show 8 + (2 + 11) + 88 ≤ ψ + 700; omega)⟩) rfl hl.1 rfl (Nat.le_of_ble_eq_true rfl) dX6_arg_158 ⟨(czz hX hq.1), (szz hX hq.1)⟩ (fun H locs h => ?_)
  have hC40 : Cl π r37 := q39
  exact kl_Rd_arg_161 (N := N) C hr hlk hE hφ hψ hmrArg hcrArg hmrFun hcrFun hC40 hG hX (lv_sub hl [1, 0] rfl) h hm
set_option maxHeartbeats 8000000 in
set_option maxRecDepth 100000 in
theorem kl_Rd_arg_66 {r : Sh × St × Int} (C : Cx p s m args c cX6_arg RX6 (cd :: cWd) D (TYs k) 3) (hr : meth.sig.returnType = (some .int)) (hlk : meth.locks = false) (hE : Ev z mi aK aV A s s.heap) {rArg : Sh → St → Option (Sh × St × Int)} {rFun : Sh → St → Option (Sh × St × Int)} (hφ : 260 ≤ φ) (hψ : 12000 ≤ ψ) (hmrArg : ∀ {π : Sh} {σ : St}  {r : Sh × St × Int}, Cl π σ → rArg π σ  = some r → ext π r.1 ∧ Cl r.1 r.2.1) (hcrArg : ∀ {g : Nat → Nat} {π : Sh} {σ : St}  {r : Sh × St × Int}, Cl π σ → rArg π σ  = some r → Mi l yX6_arg (.code yX6_arg cX6_arg 3 (some .int) :: cWd) { frames := φ, cells := nn r.1 - nn π, slots := sw r.1 - sw π, locals := ψ } [rfv g 44] D (TYs k) (cW k z g π σ) (XV z mi aK aV (cW k z g π σ)) (Nat → Nat) (fun v u => gx (nn π) g u ∧ v = Int32.ofInt r.2.2) (fun u => cW k z u r.1 r.2.1) (nn r.1 - nn π) (sw r.1 - sw π)) (hmrFun : ∀ {π : Sh} {σ : St}  {r : Sh × St × Int}, Cl π σ → rFun π σ  = some r → ext π r.1 ∧ Cl r.1 r.2.1 ∧ r.2.2 < nn r.1) (hcrFun : ∀ {g : Nat → Nat} {π : Sh} {σ : St}  {r : Sh × St × Int}, Cl π σ → rFun π σ  = some r → Mq l yX6_fun (.code yX6_fun cX6_fun 5 (some (.object "CycleStudio$Piece")) :: cWd) { frames := φ, cells := nn r.1 - nn π, slots := sw r.1 - sw π, locals := ψ } [rfv g 44] D (TYs k) (cW k z g π σ) (XV z mi aK aV (cW k z g π σ)) (Nat → Nat) (fun v u => gx (nn π) g u ∧ v = rfo u r.2.2) (fun u => cW k z u r.1 r.2.1) (nn r.1 - nn π) (sw r.1 - sw π))  {ls : Array Slot} {H : Heap} {locs : List Loc} {g : Nat → Nat} {π : Sh} {σ : St} {x1 : Int} (hC : Cl π σ) (hG : gx (nn π0) g0 g) (hX : ext π0 π)  (hl : lv_has ls 3 [(0, rfv g 44), (1, .int (Int32.ofInt x1))]) (h : Hp D A s.heap H locs (cW k z g π σ)) (hm : Rd_arg_66 N rArg rFun π σ x1 = some r) : W p l e { frames := φ + 12, cells := nn r.1 - nn π0, slots := sw r.1 - sw π0, locals := ψ + 700 } s m args below meth c H locs (nn π - nn π0) (sw π - sw π0) (MQ below (va_Qi (fun v u => gx (nn π0) g0 u ∧ v = Int32.ofInt r.2.2) (fun u t => PostW D (TYs k) A (cW k z u r.1 r.2.1) t) A) args s (nn r.1 - nn π0) (sw r.1 - sw π0) A) (F0 m 66 ls []) := by
  have hS := hC.1
  have hq := km_Rd_arg_66 hmrArg hmrFun   hC  hm
  rw [Rd_arg_66] at hm
  refine z_aload_n C dX6_arg_66 rfl (lv_at hl 0 rfl) ?_
  refine cg_7_0 C h (sh_44 hS) cU_X6 (List.mem_cons_of_mem _ wl_X6_31) dX6_arg_67 ?_
  refine z_aload_n C dX6_arg_70 rfl (lv_at hl 0 rfl) ?_
  refine cg_7_0 C h (sh_44 hS) cU_X6 (List.mem_cons_of_mem _ wl_X6_31) dX6_arg_71 ?_
  refine cg_9_6 C h (sh_1 hS) cU_X8 (List.mem_cons_of_mem _ wl_X6_81) dX6_arg_74 ?_
  obtain ⟨r15, e16, hm⟩ := obd_s hm
  have q17 := (km_Sc_opens hC e16)
  refine c_callViP C hE h (sh_1 hS) rfl (by decide) (kc_Sc_opens l D k z mi aK aV g N hS e16) (cwV 1 C.2.2.1 (gS_X6_181 _) rfl rfl rfl hd_X8_opens ⟨(by show 1 + 1 ≤ φ + 12; omega), (by show 8 + (2 + 11) + 22 ≤ ψ + 700; omega)⟩) rfl hl.1 rfl (Nat.le_of_ble_eq_true rfl) dX6_arg_77 ⟨(czz hX hq.1), (szz hX hq.1)⟩ (fun H locs h => ?_)
  have hC18 : Cl π r15.1 := q17
  obtain ⟨g19, hm⟩ := grd_s hm
  refine z_if_ne (tgt := 85) C dX6_arg_80 (by decide) g19 (fun c20 => ?_) (fun c20 => ?_)
  · have hm := ite_f c20 hm
    refine lv_iconst (v := Int32.ofInt 0) C.1 C.2.1 dX6_arg_85 (by decide) ?_
    refine lv_istore_n (lv' := [(2, .int (Int32.ofInt 0)), (0, rfv g 44), (1, .int (Int32.ofInt x1))]) C.1 C.2.1 dX6_arg_86 rfl hl (by decide) rfl (fun ls hl => ?_)
    refine lv_iload_n C.1 C.2.1 dX6_arg_87 rfl (lv_at hl 2 rfl) ?_
    obtain ⟨g21, hm⟩ := grd_s hm
    refine z_if_eq (tgt := 143) C dX6_arg_88 (by decide) g21 (fun c22 => ?_) (fun c22 => ?_)
    · have hm := ite_t c22 hm
      refine z_aload_n C dX6_arg_143 rfl (lv_at hl 1 rfl) ?_
      refine cg_7_0 C h (sh_44 hS) cU_X6 (List.mem_cons_of_mem _ wl_X6_31) dX6_arg_144 ?_
      obtain ⟨r23, e24, hm⟩ := obd_s hm
      have q25 := (km_Sc_advance hC18 e24)
      refine c_callVvP C hE h (sh_1 hS) rfl (by decide) (kc_Sc_advance l D k z mi aK aV g N hS e24) (cwV 0 C.2.2.1 (gS_X6_88 _) rfl rfl rfl hd_X8_advance ⟨(by show 3 + 1 ≤ φ + 12; omega), (by show 8 + (2 + 11) + 67 ≤ ψ + 700; omega)⟩) rfl hl.1 rfl (Nat.le_of_ble_eq_true rfl) dX6_arg_147 ⟨(czz hX hq.1), (szz hX hq.1)⟩ (fun H locs h => ?_)
      have hC26 : Cl π r23 := q25
      refine z_aload_n C dX6_arg_150 rfl (lv_at hl 1 rfl) ?_
      obtain ⟨r27, e28, hm⟩ := obd_s hm
      have q29 := (km_Rd_exp hmrArg hmrFun hC26 e28)
      have q := km_Rd_arg_154 hmrArg hmrFun  q29.2  hm
      refine c_callViA C hE h (sh_44 hS) rfl (by decide) (kc_Rd_exp l D k z mi aK aV g N hφ hψ hmrArg hcrArg hmrFun hcrFun hC26 e28) (cwV 0 C.2.2.1 (gS_X6_75 _) rfl rfl rfl hd_X6_exp ⟨(by show φ + 6 + 1 ≤ φ + 12; omega), (by show 8 + (4 + 11) + (ψ + 141) ≤ ψ + 700; omega)⟩) rfl hl.1 rfl (Nat.le_of_ble_eq_true rfl) dX6_arg_151 ⟨rcC hX q29.1 q.1, rsC hX q29.1 q.1⟩ (fun u H locs hg h => ?_)
      simp only [← gx_rfv hg (sh_44 hS).2.1] at hl
      try simp only [← gx_rfv hg (sh_44 hS).2.1]
      refine W_cast (wcC hX q29.1).symm (wsC hX q29.1).symm ?_
      exact kl_Rd_arg_154 (N := N) C hr hlk hE hφ hψ hmrArg hcrArg hmrFun hcrFun  q29.2 (hG.tr hg hX.1) (hX.tr q29.1)  (lv_sub hl [1] rfl) h hm
    · have hm := ite_f c22 hm
      refine z_aload_n C dX6_arg_91 rfl (lv_at hl 1 rfl) ?_
      refine cg_7_1 C h (sh_44 hS) cU_X6 (List.mem_cons_of_mem _ wl_X6_44) dX6_arg_92 ?_
      refine z_aload_n C dX6_arg_95 rfl (lv_at hl 1 rfl) ?_
      refine cg_7_4 C h (sh_44 hS) cU_X6 (List.mem_cons_of_mem _ wl_X6_20) dX6_arg_96 ?_
      refine z_aload_n C dX6_arg_99 rfl (lv_at hl 1 rfl) ?_
      refine cg_7_0 C h (sh_44 hS) cU_X6 (List.mem_cons_of_mem _ wl_X6_31) dX6_arg_100 ?_
      refine cg_9_6 C h (sh_1 hS) cU_X8 (List.mem_cons_of_mem _ wl_X6_81) dX6_arg_103 ?_
      refine z_aload_n C dX6_arg_106 rfl (lv_at hl 1 rfl) ?_
      refine cg_7_0 C h (sh_44 hS) cU_X6 (List.mem_cons_of_mem _ wl_X6_31) dX6_arg_107 ?_
      refine cg_9_7 C h (sh_1 hS) cU_X8 (List.mem_cons_of_mem _ wl_X6_184) dX6_arg_110 ?_
      refine lv_iconst (v := Int32.ofInt 1) C.1 C.2.1 dX6_arg_113 (by decide) ?_
      refine z_isub C dX6_arg_114 ?_
      obtain ⟨r30, e31, hm⟩ := obd_s hm
      have q32 := (km_Tx_start hC18 (cl_fl hC18 (f := 144) rfl 44) e31)
      refine c_callVvP C hE h (sh_50 hS) rfl (by decide) (kc_Tx_start l D k z mi aK aV g N hS e31) (cwV 3 C.2.2.1 (gS_X6_187 _) rfl rfl rfl hd_X10_start ⟨(by show 0 + 1 ≤ φ + 12; omega), (by show 8 + (4 + 11) + 0 ≤ ψ + 700; omega)⟩) rfl hl.1 rfl (Nat.le_of_ble_eq_true rfl) dX6_arg_115 ⟨(czz hX hq.1), (szz hX hq.1)⟩ (fun H locs h => ?_)
      have hC33 : Cl π r30 := q32
      refine z_aload_n C dX6_arg_118 rfl (lv_at hl 1 rfl) ?_
      refine cg_7_1 C h (sh_44 hS) cU_X6 (List.mem_cons_of_mem _ wl_X6_44) dX6_arg_119 ?_
      obtain ⟨r34, e35, hm⟩ := obd_s hm
      have q36 := (km_Tx_seq km_Tx_partC hC33 e35)
      have q := km_Rd_arg_125 hmrArg hmrFun  q36.2  hm
      refine c_callViA C hE h (sh_50 hS) rfl (by decide) (kc_Tx_seq l D k z mi aK aV g N (by decide) (by decide) km_Tx_partC (kc_Tx_partC l D k z mi aK aV N _) hC33 e35) (cwV 0 C.2.2.1 (gS_X6_191 _) rfl rfl rfl hd_X10_seq ⟨(by show 214 + 1 ≤ φ + 12; omega), (by show 8 + (2 + 11) + 10247 ≤ ψ + 700; omega)⟩) rfl hl.1 rfl (Nat.le_of_ble_eq_true rfl) dX6_arg_122 ⟨rcC hX q36.1 q.1, rsC hX q36.1 q.1⟩ (fun u H locs hg h => ?_)
      simp only [← gx_rfv hg (sh_44 hS).2.1] at hl
      try simp only [← gx_rfv hg (sh_44 hS).2.1]
      refine W_cast (wcC hX q36.1).symm (wsC hX q36.1).symm ?_
      exact kl_Rd_arg_125 (N := N) C hr hlk hE hφ hψ hmrArg hcrArg hmrFun hcrFun  q36.2 (hG.tr hg hX.1) (hX.tr q36.1)  (lv_sub hl [1] rfl) h hm
  · have hm := ite_t c20 hm
    refine lv_iconst (v := Int32.ofInt 0) C.1 C.2.1 dX6_arg_83 (by decide) ?_
    cases hm
    exact c_iretA C hG h hr hlk dX6_arg_84 rfl
set_option maxHeartbeats 8000000 in
set_option maxRecDepth 100000 in
theorem kl_Rd_arg_32 {r : Sh × St × Int} (C : Cx p s m args c cX6_arg RX6 (cd :: cWd) D (TYs k) 3) (hr : meth.sig.returnType = (some .int)) (hlk : meth.locks = false) (hE : Ev z mi aK aV A s s.heap) {rArg : Sh → St → Option (Sh × St × Int)} {rFun : Sh → St → Option (Sh × St × Int)} (hφ : 260 ≤ φ) (hψ : 12000 ≤ ψ) (hmrArg : ∀ {π : Sh} {σ : St}  {r : Sh × St × Int}, Cl π σ → rArg π σ  = some r → ext π r.1 ∧ Cl r.1 r.2.1) (hcrArg : ∀ {g : Nat → Nat} {π : Sh} {σ : St}  {r : Sh × St × Int}, Cl π σ → rArg π σ  = some r → Mi l yX6_arg (.code yX6_arg cX6_arg 3 (some .int) :: cWd) { frames := φ, cells := nn r.1 - nn π, slots := sw r.1 - sw π, locals := ψ } [rfv g 44] D (TYs k) (cW k z g π σ) (XV z mi aK aV (cW k z g π σ)) (Nat → Nat) (fun v u => gx (nn π) g u ∧ v = Int32.ofInt r.2.2) (fun u => cW k z u r.1 r.2.1) (nn r.1 - nn π) (sw r.1 - sw π)) (hmrFun : ∀ {π : Sh} {σ : St}  {r : Sh × St × Int}, Cl π σ → rFun π σ  = some r → ext π r.1 ∧ Cl r.1 r.2.1 ∧ r.2.2 < nn r.1) (hcrFun : ∀ {g : Nat → Nat} {π : Sh} {σ : St}  {r : Sh × St × Int}, Cl π σ → rFun π σ  = some r → Mq l yX6_fun (.code yX6_fun cX6_fun 5 (some (.object "CycleStudio$Piece")) :: cWd) { frames := φ, cells := nn r.1 - nn π, slots := sw r.1 - sw π, locals := ψ } [rfv g 44] D (TYs k) (cW k z g π σ) (XV z mi aK aV (cW k z g π σ)) (Nat → Nat) (fun v u => gx (nn π) g u ∧ v = rfo u r.2.2) (fun u => cW k z u r.1 r.2.1) (nn r.1 - nn π) (sw r.1 - sw π))  {ls : Array Slot} {H : Heap} {locs : List Loc} {g : Nat → Nat} {π : Sh} {σ : St} {s0 : Int} (hC : Cl π σ) (hG : gx (nn π0) g0 g) (hX : ext π0 π)  (hl : lv_has ls 3 [(0, rfv g 44)]) (h : Hp D A s.heap H locs (cW k z g π σ)) (hm : Rd_arg_32 N rArg rFun π σ s0 = some r) : W p l e { frames := φ + 12, cells := nn r.1 - nn π0, slots := sw r.1 - sw π0, locals := ψ + 700 } s m args below meth c H locs (nn π - nn π0) (sw π - sw π0) (MQ below (va_Qi (fun v u => gx (nn π0) g0 u ∧ v = Int32.ofInt r.2.2) (fun u t => PostW D (TYs k) A (cW k z u r.1 r.2.1) t) A) args s (nn r.1 - nn π0) (sw r.1 - sw π0) A) (F0 m 32 ls [.int (Int32.ofInt s0)]) := by
  have hS := hC.1
  have hq := km_Rd_arg_32 hmrArg hmrFun   hC  hm
  rw [Rd_arg_32] at hm
  refine lv_istore_n (i := 1) (lv' := [(1, .int (Int32.ofInt s0)), (0, rfv g 44)]) C.1 C.2.1 dX6_arg_32 rfl hl (by decide) (by simp [rfv_cat, cat_i, cat_l]) (fun ls hl => ?_)
  refine lv_iload_n C.1 C.2.1 dX6_arg_33 rfl (lv_at hl 0 rfl) ?_
  obtain ⟨g7, hm⟩ := grd_s hm
  refine z_if_ne (tgt := 66) C dX6_arg_34 (by decide) g7 (fun c8 => ?_) (fun c8 => ?_)
  · have hm := ite_f c8 hm
    exact kl_Rd_arg_66 (N := N) C hr hlk hE hφ hψ hmrArg hcrArg hmrFun hcrFun hC hG hX (lv_sub hl [1, 0] rfl) h hm
  · have hm := ite_t c8 hm
    refine z_aload_n C dX6_arg_37 rfl (lv_at hl 1 rfl) ?_
    refine cg_7_0 C h (sh_44 hS) cU_X6 (List.mem_cons_of_mem _ wl_X6_31) dX6_arg_38 ?_
    refine cg_9_5 C h (sh_1 hS) cU_X8 (List.mem_cons_of_mem _ wl_X6_66) dX6_arg_41 ?_
    refine lv_bipush (v := Int32.ofInt 40) C.1 C.2.1 dX6_arg_44 (by decide) ?_
    obtain ⟨g9, hm⟩ := grd_s hm
    refine z_icmp_eq (tgt := 66) C dX6_arg_46 (by decide) g9 (by decide) (fun c10 => ?_) (fun c10 => ?_)
    · have hm := ite_t c10 hm
      exact kl_Rd_arg_66 (N := N) C hr hlk hE hφ hψ hmrArg hcrArg hmrFun hcrFun hC hG hX (lv_sub hl [1, 0] rfl) h hm
    · have hm := ite_f c10 hm
      refine z_aload_n C dX6_arg_49 rfl (lv_at hl 1 rfl) ?_
      refine cg_7_0 C h (sh_44 hS) cU_X6 (List.mem_cons_of_mem _ wl_X6_31) dX6_arg_50 ?_
      refine lv_iconst (v := Int32.ofInt 1) C.1 C.2.1 dX6_arg_53 (by decide) ?_
      refine z_aload_n C dX6_arg_54 rfl (lv_at hl 1 rfl) ?_
      refine cg_7_0 C h (sh_44 hS) cU_X6 (List.mem_cons_of_mem _ wl_X6_31) dX6_arg_55 ?_
      refine cg_9_6 C h (sh_1 hS) cU_X8 (List.mem_cons_of_mem _ wl_X6_81) dX6_arg_58 ?_
      obtain ⟨r11, e12, hm⟩ := obd_s hm
      have q13 := (km_Sc_fail hC e12)
      refine c_callVvP C hE h (sh_1 hS) rfl (by decide) (kc_Sc_fail l D k z mi aK aV g N hS e12) (cwV 2 C.2.2.1 (gS_X6_84 _) rfl rfl rfl hd_X8_fail ⟨(by show 0 + 1 ≤ φ + 12; omega), (by show 8 + (3 + 11) + 0 ≤ ψ + 700; omega)⟩) rfl hl.1 rfl (Nat.le_of_ble_eq_true rfl) dX6_arg_61 ⟨(czz hX hq.1), (szz hX hq.1)⟩ (fun H locs h => ?_)
      have hC14 : Cl π r11 := q13
      refine lv_iconst (v := Int32.ofInt 0) C.1 C.2.1 dX6_arg_64 (by decide) ?_
      cases hm
      exact c_iretA C hG h hr hlk dX6_arg_65 rfl
set_option maxHeartbeats 8000000 in
set_option maxRecDepth 100000 in
theorem kc_Rd_arg (l : Launch) (D : va_G) (k : Nat → ClassId) (z mi : Nat) (aK aV : Nat → Nat) (g : Nat → Nat) (N : Nat) {φ ψ : Nat} {rArg : Sh → St → Option (Sh × St × Int)} {rFun : Sh → St → Option (Sh × St × Int)} (hφ : 260 ≤ φ) (hψ : 12000 ≤ ψ) (hmrArg : ∀ {π : Sh} {σ : St}  {r : Sh × St × Int}, Cl π σ → rArg π σ  = some r → ext π r.1 ∧ Cl r.1 r.2.1) (hcrArg : ∀ {g : Nat → Nat} {π : Sh} {σ : St}  {r : Sh × St × Int}, Cl π σ → rArg π σ  = some r → Mi l yX6_arg (.code yX6_arg cX6_arg 3 (some .int) :: cWd) { frames := φ, cells := nn r.1 - nn π, slots := sw r.1 - sw π, locals := ψ } [rfv g 44] D (TYs k) (cW k z g π σ) (XV z mi aK aV (cW k z g π σ)) (Nat → Nat) (fun v u => gx (nn π) g u ∧ v = Int32.ofInt r.2.2) (fun u => cW k z u r.1 r.2.1) (nn r.1 - nn π) (sw r.1 - sw π)) (hmrFun : ∀ {π : Sh} {σ : St}  {r : Sh × St × Int}, Cl π σ → rFun π σ  = some r → ext π r.1 ∧ Cl r.1 r.2.1 ∧ r.2.2 < nn r.1) (hcrFun : ∀ {g : Nat → Nat} {π : Sh} {σ : St}  {r : Sh × St × Int}, Cl π σ → rFun π σ  = some r → Mq l yX6_fun (.code yX6_fun cX6_fun 5 (some (.object "CycleStudio$Piece")) :: cWd) { frames := φ, cells := nn r.1 - nn π, slots := sw r.1 - sw π, locals := ψ } [rfv g 44] D (TYs k) (cW k z g π σ) (XV z mi aK aV (cW k z g π σ)) (Nat → Nat) (fun v u => gx (nn π) g u ∧ v = rfo u r.2.2) (fun u => cW k z u r.1 r.2.1) (nn r.1 - nn π) (sw r.1 - sw π)) {π : Sh} {σ : St}  {r : Sh × St × Int} (hC : Cl π σ)  (hm : Rd_arg N rArg rFun π σ  = some r) : Mi l yX6_arg (.code yX6_arg cX6_arg 3 (some .int) :: cWd) { frames := φ + 12, cells := nn r.1 - nn π, slots := sw r.1 - sw π, locals := ψ + 700 } [rfv g 44] D (TYs k) (cW k z g π σ) (XV z mi aK aV (cW k z g π σ)) (Nat → Nat) (fun v u => gx (nn π) g u ∧ v = Int32.ofInt r.2.2) (fun u => cW k z u r.1 r.2.1) (nn r.1 - nn π) (sw r.1 - sw π) := by
  have hS := hC.1
  have hq := km_Rd_arg hmrArg hmrFun hC  hm
  intro sz
  refine v_met (cc := cX6_arg) (maxL := 3) (ret := (some .int)) (lv := [(0, rfv g 44)]) (by decide) rfl (by simp [lg_sl, rfv_cat, cat_i, cat_l]) (by simp [lv_args, rfv_cat, cat_i, cat_l]) ?_
  intro p e s m below meth c ls C hE hr hlk hmn hl h
  generalize ([rfv g 44] : List Value).toArray = args at C ⊢
  have hG := gx.rf (nn π) g
  have hX := ext.rf π
  refine W_cast (Nat.sub_self (nn π)) (Nat.sub_self (sw π)) ?_
  rw [Rd_arg] at hm
  refine z_aload_n C dX6_arg_0 rfl (lv_at hl 0 rfl) ?_
  refine cg_7_0 C h (sh_44 hS) cU_X6 (List.mem_cons_of_mem _ wl_X6_31) dX6_arg_1 ?_
  refine cg_9_5 C h (sh_1 hS) cU_X8 (List.mem_cons_of_mem _ wl_X6_66) dX6_arg_4 ?_
  refine lv_iconst (v := Int32.ofInt 1) C.1 C.2.1 dX6_arg_7 (by decide) ?_
  obtain ⟨g1, hm⟩ := grd_s hm
  refine z_icmp_ne (tgt := 16) C dX6_arg_8 (by decide) g1 (by decide) (fun c2 => ?_) (fun c2 => ?_)
  · have hm := ite_f c2 hm
    refine z_aload_n C dX6_arg_16 rfl (lv_at hl 0 rfl) ?_
    refine cg_7_0 C h (sh_44 hS) cU_X6 (List.mem_cons_of_mem _ wl_X6_31) dX6_arg_17 ?_
    refine cg_9_5 C h (sh_1 hS) cU_X8 (List.mem_cons_of_mem _ wl_X6_66) dX6_arg_20 ?_
    refine lv_iconst (v := Int32.ofInt 4) C.1 C.2.1 dX6_arg_23 (by decide) ?_
    refine z_icmp_ne (tgt := 31) C dX6_arg_24 (by decide) g1 (by decide) (fun c3 => ?_) (fun c3 => ?_)
    · have hm := ite_f c3 hm
      refine lv_iconst (v := Int32.ofInt 0) C.1 C.2.1 dX6_arg_31 (by decide) ?_
      exact kl_Rd_arg_32 (N := N) C hr hlk hE hφ hψ hmrArg hcrArg hmrFun hcrFun hC hG hX (lv_sub hl [0] rfl) h hm
    · have hm := ite_t c3 hm
      refine lv_iconst (v := Int32.ofInt 1) C.1 C.2.1 dX6_arg_27 (by decide) ?_
      refine lv_goto (tgt := 32) C.1 C.2.1 dX6_arg_28 (by decide) ?_
      exact kl_Rd_arg_32 (N := N) C hr hlk hE hφ hψ hmrArg hcrArg hmrFun hcrFun hC hG hX (lv_sub hl [0] rfl) h hm
  · have hm := ite_t c2 hm
    refine z_aload_n C dX6_arg_11 rfl (lv_at hl 0 rfl) ?_
    obtain ⟨r4, e5, hm⟩ := obd_s hm
    have q6 := (km_Rd_patternName hC e5)
    have q := km_Rd_arg_15 hmrArg hmrFun  q6.2  hm
    refine c_callViA C hE h (sh_44 hS) rfl (by decide) (kc_Rd_patternName l D k z mi aK aV g N hC e5) (cwV 0 C.2.2.1 (gS_X6_178 _) rfl rfl rfl hd_X6_patternName ⟨(by show 8 + 1 ≤ φ + 12; omega), (by show 8 + (2 + 11) + 262 ≤ ψ + 700; omega)⟩) rfl hl.1 rfl (Nat.le_of_ble_eq_true rfl) dX6_arg_12 ⟨rcC hX q6.1 q.1, rsC hX q6.1 q.1⟩ (fun u H locs hg h => ?_)
    simp only [← gx_rfv hg (sh_44 hS).2.1] at hl
    try simp only [← gx_rfv hg (sh_44 hS).2.1]
    refine W_cast (wcC hX q6.1).symm (wsC hX q6.1).symm ?_
    exact kl_Rd_arg_15 (N := N) C hr hlk hE hφ hψ hmrArg hcrArg hmrFun hcrFun  q6.2 (hG.tr hg hX.1) (hX.tr q6.1)  (lv_sub hl [] rfl) h hm
end Z_Rd_arg
section Z_Rd_funName
variable {p : Program} {l : Launch} {e : Env} {s : State} {m : MethodId} {args : Array Value} {below : List Frame} {meth : Method} {c : Code} {D : va_G} {A : Nat → Prop} {k : Nat → ClassId} {N : Nat} {cd : Cond} {z mi : Nat} {aK aV : Nat → Nat} {g0 : Nat → Nat} {π0 : Sh} {φ ψ : Nat}
set_option maxHeartbeats 8000000 in
set_option maxRecDepth 100000 in
theorem kl_Rd_funName_83 {r : Sh × St × Int} (C : Cx p s m args c cX6_funName RX6 (cd :: cWd) D (TYs k) 4) (hr : meth.sig.returnType = (some (.object "CycleStudio$Piece"))) (hlk : meth.locks = false) (hE : Ev z mi aK aV A s s.heap) {rArg : Sh → St → Option (Sh × St × Int)} {rFun : Sh → St → Option (Sh × St × Int)} (hφ : 260 ≤ φ) (hψ : 12000 ≤ ψ) (hmrArg : ∀ {π : Sh} {σ : St}  {r : Sh × St × Int}, Cl π σ → rArg π σ  = some r → ext π r.1 ∧ Cl r.1 r.2.1) (hcrArg : ∀ {g : Nat → Nat} {π : Sh} {σ : St}  {r : Sh × St × Int}, Cl π σ → rArg π σ  = some r → Mi l yX6_arg (.code yX6_arg cX6_arg 3 (some .int) :: cWd) { frames := φ, cells := nn r.1 - nn π, slots := sw r.1 - sw π, locals := ψ } [rfv g 44] D (TYs k) (cW k z g π σ) (XV z mi aK aV (cW k z g π σ)) (Nat → Nat) (fun v u => gx (nn π) g u ∧ v = Int32.ofInt r.2.2) (fun u => cW k z u r.1 r.2.1) (nn r.1 - nn π) (sw r.1 - sw π)) (hmrFun : ∀ {π : Sh} {σ : St}  {r : Sh × St × Int}, Cl π σ → rFun π σ  = some r → ext π r.1 ∧ Cl r.1 r.2.1 ∧ r.2.2 < nn r.1) (hcrFun : ∀ {g : Nat → Nat} {π : Sh} {σ : St}  {r : Sh × St × Int}, Cl π σ → rFun π σ  = some r → Mq l yX6_fun (.code yX6_fun cX6_fun 5 (some (.object "CycleStudio$Piece")) :: cWd) { frames := φ, cells := nn r.1 - nn π, slots := sw r.1 - sw π, locals := ψ } [rfv g 44] D (TYs k) (cW k z g π σ) (XV z mi aK aV (cW k z g π σ)) (Nat → Nat) (fun v u => gx (nn π) g u ∧ v = rfo u r.2.2) (fun u => cW k z u r.1 r.2.1) (nn r.1 - nn π) (sw r.1 - sw π))  {ls : Array Slot} {H : Heap} {locs : List Loc} {g : Nat → Nat} {π : Sh} {σ : St} {s0 : Int} (hC : Cl π σ) (hG : gx (nn π0) g0 g) (hX : ext π0 π) (hv_s0 : s0 < nn π) (hl : lv_has ls 4 []) (h : Hp D A s.heap H locs (cW k z g π σ)) (hm : Rd_funName_83 N rArg rFun π σ s0 = some r) : W p l e { frames := φ + 3, cells := nn r.1 - nn π0, slots := sw r.1 - sw π0, locals := ψ + 72 } s m args below meth c H locs (nn π - nn π0) (sw π - sw π0) (MQ below (va_Qq (fun v u => gx (nn π0) g0 u ∧ v = rfo u r.2.2) (fun u t => PostW D (TYs k) A (cW k z u r.1 r.2.1) t) A) args s (nn r.1 - nn π0) (sw r.1 - sw π0) A) (F0 m 83 ls [rfv g s0]) := by
  have hS := hC.1
  have hq := km_Rd_funName_83 hmrArg hmrFun   hC hv_s0 hm
  rw [Rd_funName_83] at hm
  cases hm
  exact c_aretA C hG h hr hlk (Or.inl ⟨_, rfl⟩) dX6_funName_83
set_option maxHeartbeats 8000000 in
set_option maxRecDepth 100000 in
theorem kl_Rd_funName_78 {r : Sh × St × Int} (C : Cx p s m args c cX6_funName RX6 (cd :: cWd) D (TYs k) 4) (hr : meth.sig.returnType = (some (.object "CycleStudio$Piece"))) (hlk : meth.locks = false) (hE : Ev z mi aK aV A s s.heap) {rArg : Sh → St → Option (Sh × St × Int)} {rFun : Sh → St → Option (Sh × St × Int)} (hφ : 260 ≤ φ) (hψ : 12000 ≤ ψ) (hmrArg : ∀ {π : Sh} {σ : St}  {r : Sh × St × Int}, Cl π σ → rArg π σ  = some r → ext π r.1 ∧ Cl r.1 r.2.1) (hcrArg : ∀ {g : Nat → Nat} {π : Sh} {σ : St}  {r : Sh × St × Int}, Cl π σ → rArg π σ  = some r → Mi l yX6_arg (.code yX6_arg cX6_arg 3 (some .int) :: cWd) { frames := φ, cells := nn r.1 - nn π, slots := sw r.1 - sw π, locals := ψ } [rfv g 44] D (TYs k) (cW k z g π σ) (XV z mi aK aV (cW k z g π σ)) (Nat → Nat) (fun v u => gx (nn π) g u ∧ v = Int32.ofInt r.2.2) (fun u => cW k z u r.1 r.2.1) (nn r.1 - nn π) (sw r.1 - sw π)) (hmrFun : ∀ {π : Sh} {σ : St}  {r : Sh × St × Int}, Cl π σ → rFun π σ  = some r → ext π r.1 ∧ Cl r.1 r.2.1 ∧ r.2.2 < nn r.1) (hcrFun : ∀ {g : Nat → Nat} {π : Sh} {σ : St}  {r : Sh × St × Int}, Cl π σ → rFun π σ  = some r → Mq l yX6_fun (.code yX6_fun cX6_fun 5 (some (.object "CycleStudio$Piece")) :: cWd) { frames := φ, cells := nn r.1 - nn π, slots := sw r.1 - sw π, locals := ψ } [rfv g 44] D (TYs k) (cW k z g π σ) (XV z mi aK aV (cW k z g π σ)) (Nat → Nat) (fun v u => gx (nn π) g u ∧ v = rfo u r.2.2) (fun u => cW k z u r.1 r.2.1) (nn r.1 - nn π) (sw r.1 - sw π))  {ls : Array Slot} {H : Heap} {locs : List Loc} {g : Nat → Nat} {π : Sh} {σ : St} {x1 : Int} (hC : Cl π σ) (hG : gx (nn π0) g0 g) (hX : ext π0 π)  (hl : lv_has ls 4 [(0, rfv g 44), (1, .int (Int32.ofInt x1))]) (h : Hp D A s.heap H locs (cW k z g π σ)) (hm : Rd_funName_78 N rArg rFun π σ x1 = some r) : W p l e { frames := φ + 3, cells := nn r.1 - nn π0, slots := sw r.1 - sw π0, locals := ψ + 72 } s m args below meth c H locs (nn π - nn π0) (sw π - sw π0) (MQ below (va_Qq (fun v u => gx (nn π0) g0 u ∧ v = rfo u r.2.2) (fun u t => PostW D (TYs k) A (cW k z u r.1 r.2.1) t) A) args s (nn r.1 - nn π0) (sw r.1 - sw π0) A) (F0 m 78 ls []) := by
  have hS := hC.1
  have hq := km_Rd_funName_78 hmrArg hmrFun   hC  hm
  rw [Rd_funName_78] at hm
  refine z_aload_n C dX6_funName_78 rfl (lv_at hl 0 rfl) ?_
  refine lv_iload_n C.1 C.2.1 dX6_funName_79 rfl (lv_at hl 1 rfl) ?_
  obtain ⟨r22, e23, hm⟩ := obd_s hm
  have q24 := (km_Rd_named hmrArg hmrFun hC e23)
  have q := km_Rd_funName_83 hmrArg hmrFun  q24.2.1 q24.2.2 hm
  refine c_callVqA C hE h (sh_44 hS) rfl (by decide) (kc_Rd_named l D k z mi aK aV g N hφ hψ hmrArg hcrArg hmrFun hcrFun hC e23) (cwV 1 C.2.2.1 (gS_X6_168 _) rfl rfl rfl hd_X6_named ⟨(by show φ + 2 + 1 ≤ φ + 3; omega), (by show 8 + (5 + 11) + (ψ + 48) ≤ ψ + 72; omega)⟩) rfl hl.1 rfl (Nat.le_of_ble_eq_true rfl) dX6_funName_80 ⟨rcC hX q24.1 q.1, rsC hX q24.1 q.1⟩ (fun u H locs hg h => ?_)
  simp only [← gx_rfv hg (sh_44 hS).2.1] at hl
  try simp only [← gx_rfv hg (sh_44 hS).2.1]
  refine W_cast (wcC hX q24.1).symm (wsC hX q24.1).symm ?_
  exact kl_Rd_funName_83 (N := N) C hr hlk hE hφ hψ hmrArg hcrArg hmrFun hcrFun  q24.2.1 (hG.tr hg hX.1) (hX.tr q24.1) q24.2.2 (lv_sub hl [] rfl) h hm
set_option maxHeartbeats 8000000 in
set_option maxRecDepth 100000 in
theorem kl_Rd_funName_52 {r : Sh × St × Int} (C : Cx p s m args c cX6_funName RX6 (cd :: cWd) D (TYs k) 4) (hr : meth.sig.returnType = (some (.object "CycleStudio$Piece"))) (hlk : meth.locks = false) (hE : Ev z mi aK aV A s s.heap) {rArg : Sh → St → Option (Sh × St × Int)} {rFun : Sh → St → Option (Sh × St × Int)} (hφ : 260 ≤ φ) (hψ : 12000 ≤ ψ) (hmrArg : ∀ {π : Sh} {σ : St}  {r : Sh × St × Int}, Cl π σ → rArg π σ  = some r → ext π r.1 ∧ Cl r.1 r.2.1) (hcrArg : ∀ {g : Nat → Nat} {π : Sh} {σ : St}  {r : Sh × St × Int}, Cl π σ → rArg π σ  = some r → Mi l yX6_arg (.code yX6_arg cX6_arg 3 (some .int) :: cWd) { frames := φ, cells := nn r.1 - nn π, slots := sw r.1 - sw π, locals := ψ } [rfv g 44] D (TYs k) (cW k z g π σ) (XV z mi aK aV (cW k z g π σ)) (Nat → Nat) (fun v u => gx (nn π) g u ∧ v = Int32.ofInt r.2.2) (fun u => cW k z u r.1 r.2.1) (nn r.1 - nn π) (sw r.1 - sw π)) (hmrFun : ∀ {π : Sh} {σ : St}  {r : Sh × St × Int}, Cl π σ → rFun π σ  = some r → ext π r.1 ∧ Cl r.1 r.2.1 ∧ r.2.2 < nn r.1) (hcrFun : ∀ {g : Nat → Nat} {π : Sh} {σ : St}  {r : Sh × St × Int}, Cl π σ → rFun π σ  = some r → Mq l yX6_fun (.code yX6_fun cX6_fun 5 (some (.object "CycleStudio$Piece")) :: cWd) { frames := φ, cells := nn r.1 - nn π, slots := sw r.1 - sw π, locals := ψ } [rfv g 44] D (TYs k) (cW k z g π σ) (XV z mi aK aV (cW k z g π σ)) (Nat → Nat) (fun v u => gx (nn π) g u ∧ v = rfo u r.2.2) (fun u => cW k z u r.1 r.2.1) (nn r.1 - nn π) (sw r.1 - sw π))  {ls : Array Slot} {H : Heap} {locs : List Loc} {g : Nat → Nat} {π : Sh} {σ : St} {x1 : Int} {x2 : Int} {s0 : Int} (hC : Cl π σ) (hG : gx (nn π0) g0 g) (hX : ext π0 π)  (hl : lv_has ls 4 [(0, rfv g 44), (1, .int (Int32.ofInt x1)), (2, .int (Int32.ofInt x2))]) (h : Hp D A s.heap H locs (cW k z g π σ)) (hm : Rd_funName_52 N rArg rFun π σ x1 x2 s0 = some r) : W p l e { frames := φ + 3, cells := nn r.1 - nn π0, slots := sw r.1 - sw π0, locals := ψ + 72 } s m args below meth c H locs (nn π - nn π0) (sw π - sw π0) (MQ below (va_Qq (fun v u => gx (nn π0) g0 u ∧ v = rfo u r.2.2) (fun u t => PostW D (TYs k) A (cW k z u r.1 r.2.1) t) A) args s (nn r.1 - nn π0) (sw r.1 - sw π0) A) (F0 m 52 ls [.int (Int32.ofInt s0)]) := by
  have hS := hC.1
  have hq := km_Rd_funName_52 hmrArg hmrFun   hC  hm
  rw [Rd_funName_52] at hm
  refine lv_istore_n (lv' := [(3, .int (Int32.ofInt s0)), (0, rfv g 44), (1, .int (Int32.ofInt x1)), (2, .int (Int32.ofInt x2))]) C.1 C.2.1 dX6_funName_52 rfl hl (by decide) rfl (fun ls hl => ?_)
  refine lv_iload_n C.1 C.2.1 dX6_funName_53 rfl (lv_at hl 3 rfl) ?_
  obtain ⟨g14, hm⟩ := grd_s hm
  refine z_if_ne (tgt := 78) C dX6_funName_54 (by decide) g14 (fun c15 => ?_) (fun c15 => ?_)
  · have hm := ite_f c15 hm
    exact kl_Rd_funName_78 (N := N) C hr hlk hE hφ hψ hmrArg hcrArg hmrFun hcrFun hC hG hX (lv_sub hl [1, 2] rfl) h hm
  · have hm := ite_t c15 hm
    refine lv_iload_n C.1 C.2.1 dX6_funName_57 rfl (lv_at hl 0 rfl) ?_
    obtain ⟨g16, hm⟩ := grd_s hm
    refine z_if_ne (tgt := 78) C dX6_funName_58 (by decide) g16 (fun c17 => ?_) (fun c17 => ?_)
    · have hm := ite_f c17 hm
      exact kl_Rd_funName_78 (N := N) C hr hlk hE hφ hψ hmrArg hcrArg hmrFun hcrFun hC hG hX (lv_sub hl [1, 2] rfl) h hm
    · have hm := ite_t c17 hm
      refine z_aload_n C dX6_funName_61 rfl (lv_at hl 1 rfl) ?_
      refine cg_7_0 C h (sh_44 hS) cU_X6 (List.mem_cons_of_mem _ wl_X6_31) dX6_funName_62 ?_
      refine lv_iconst (v := Int32.ofInt 2) C.1 C.2.1 dX6_funName_65 (by decide) ?_
      refine z_aload_n C dX6_funName_66 rfl (lv_at hl 1 rfl) ?_
      refine cg_7_0 C h (sh_44 hS) cU_X6 (List.mem_cons_of_mem _ wl_X6_31) dX6_funName_67 ?_
      refine cg_9_6 C h (sh_1 hS) cU_X8 (List.mem_cons_of_mem _ wl_X6_81) dX6_funName_70 ?_
      obtain ⟨r18, e19, hm⟩ := obd_s hm
      have q20 := (km_Sc_fail hC e19)
      refine c_callVvP C hE h (sh_1 hS) rfl (by decide) (kc_Sc_fail l D k z mi aK aV g N hS e19) (cwV 2 C.2.2.1 (gS_X6_84 _) rfl rfl rfl hd_X8_fail ⟨(by show 0 + 1 ≤ φ + 3; omega), (by show 8 + (3 + 11) + 0 ≤ ψ + 72; omega)⟩) rfl hl.1 rfl (Nat.le_of_ble_eq_true rfl) dX6_funName_73 ⟨(czz hX hq.1), (szz hX hq.1)⟩ (fun H locs h => ?_)
      have hC21 : Cl π r18 := q20
      refine z_null (g := g) C dX6_funName_76 ?_
      cases hm
      exact c_aretA C hG h hr hlk (Or.inl ⟨_, rfl⟩) dX6_funName_77
set_option maxHeartbeats 8000000 in
set_option maxRecDepth 100000 in
theorem kl_Rd_funName_51 {r : Sh × St × Int} (C : Cx p s m args c cX6_funName RX6 (cd :: cWd) D (TYs k) 4) (hr : meth.sig.returnType = (some (.object "CycleStudio$Piece"))) (hlk : meth.locks = false) (hE : Ev z mi aK aV A s s.heap) {rArg : Sh → St → Option (Sh × St × Int)} {rFun : Sh → St → Option (Sh × St × Int)} (hφ : 260 ≤ φ) (hψ : 12000 ≤ ψ) (hmrArg : ∀ {π : Sh} {σ : St}  {r : Sh × St × Int}, Cl π σ → rArg π σ  = some r → ext π r.1 ∧ Cl r.1 r.2.1) (hcrArg : ∀ {g : Nat → Nat} {π : Sh} {σ : St}  {r : Sh × St × Int}, Cl π σ → rArg π σ  = some r → Mi l yX6_arg (.code yX6_arg cX6_arg 3 (some .int) :: cWd) { frames := φ, cells := nn r.1 - nn π, slots := sw r.1 - sw π, locals := ψ } [rfv g 44] D (TYs k) (cW k z g π σ) (XV z mi aK aV (cW k z g π σ)) (Nat → Nat) (fun v u => gx (nn π) g u ∧ v = Int32.ofInt r.2.2) (fun u => cW k z u r.1 r.2.1) (nn r.1 - nn π) (sw r.1 - sw π)) (hmrFun : ∀ {π : Sh} {σ : St}  {r : Sh × St × Int}, Cl π σ → rFun π σ  = some r → ext π r.1 ∧ Cl r.1 r.2.1 ∧ r.2.2 < nn r.1) (hcrFun : ∀ {g : Nat → Nat} {π : Sh} {σ : St}  {r : Sh × St × Int}, Cl π σ → rFun π σ  = some r → Mq l yX6_fun (.code yX6_fun cX6_fun 5 (some (.object "CycleStudio$Piece")) :: cWd) { frames := φ, cells := nn r.1 - nn π, slots := sw r.1 - sw π, locals := ψ } [rfv g 44] D (TYs k) (cW k z g π σ) (XV z mi aK aV (cW k z g π σ)) (Nat → Nat) (fun v u => gx (nn π) g u ∧ v = rfo u r.2.2) (fun u => cW k z u r.1 r.2.1) (nn r.1 - nn π) (sw r.1 - sw π))  {ls : Array Slot} {H : Heap} {locs : List Loc} {g : Nat → Nat} {π : Sh} {σ : St} {x1 : Int} {x2 : Int} (hC : Cl π σ) (hG : gx (nn π0) g0 g) (hX : ext π0 π)  (hl : lv_has ls 4 [(0, rfv g 44), (1, .int (Int32.ofInt x1)), (2, .int (Int32.ofInt x2))]) (h : Hp D A s.heap H locs (cW k z g π σ)) (hm : Rd_funName_51 N rArg rFun π σ x1 x2 = some r) : W p l e { frames := φ + 3, cells := nn r.1 - nn π0, slots := sw r.1 - sw π0, locals := ψ + 72 } s m args below meth c H locs (nn π - nn π0) (sw π - sw π0) (MQ below (va_Qq (fun v u => gx (nn π0) g0 u ∧ v = rfo u r.2.2) (fun u t => PostW D (TYs k) A (cW k z u r.1 r.2.1) t) A) args s (nn r.1 - nn π0) (sw r.1 - sw π0) A) (F0 m 51 ls []) := by
  have hS := hC.1
  have hq := km_Rd_funName_51 hmrArg hmrFun   hC  hm
  rw [Rd_funName_51] at hm
  refine lv_iconst (v := Int32.ofInt 0) C.1 C.2.1 dX6_funName_51 (by decide) ?_
  exact kl_Rd_funName_52 (N := N) C hr hlk hE hφ hψ hmrArg hcrArg hmrFun hcrFun hC hG hX (lv_sub hl [0, 1, 2] rfl) h hm
set_option maxHeartbeats 8000000 in
set_option maxRecDepth 100000 in
theorem kl_Rd_funName_30 {r : Sh × St × Int} (C : Cx p s m args c cX6_funName RX6 (cd :: cWd) D (TYs k) 4) (hr : meth.sig.returnType = (some (.object "CycleStudio$Piece"))) (hlk : meth.locks = false) (hE : Ev z mi aK aV A s s.heap) {rArg : Sh → St → Option (Sh × St × Int)} {rFun : Sh → St → Option (Sh × St × Int)} (hφ : 260 ≤ φ) (hψ : 12000 ≤ ψ) (hmrArg : ∀ {π : Sh} {σ : St}  {r : Sh × St × Int}, Cl π σ → rArg π σ  = some r → ext π r.1 ∧ Cl r.1 r.2.1) (hcrArg : ∀ {g : Nat → Nat} {π : Sh} {σ : St}  {r : Sh × St × Int}, Cl π σ → rArg π σ  = some r → Mi l yX6_arg (.code yX6_arg cX6_arg 3 (some .int) :: cWd) { frames := φ, cells := nn r.1 - nn π, slots := sw r.1 - sw π, locals := ψ } [rfv g 44] D (TYs k) (cW k z g π σ) (XV z mi aK aV (cW k z g π σ)) (Nat → Nat) (fun v u => gx (nn π) g u ∧ v = Int32.ofInt r.2.2) (fun u => cW k z u r.1 r.2.1) (nn r.1 - nn π) (sw r.1 - sw π)) (hmrFun : ∀ {π : Sh} {σ : St}  {r : Sh × St × Int}, Cl π σ → rFun π σ  = some r → ext π r.1 ∧ Cl r.1 r.2.1 ∧ r.2.2 < nn r.1) (hcrFun : ∀ {g : Nat → Nat} {π : Sh} {σ : St}  {r : Sh × St × Int}, Cl π σ → rFun π σ  = some r → Mq l yX6_fun (.code yX6_fun cX6_fun 5 (some (.object "CycleStudio$Piece")) :: cWd) { frames := φ, cells := nn r.1 - nn π, slots := sw r.1 - sw π, locals := ψ } [rfv g 44] D (TYs k) (cW k z g π σ) (XV z mi aK aV (cW k z g π σ)) (Nat → Nat) (fun v u => gx (nn π) g u ∧ v = rfo u r.2.2) (fun u => cW k z u r.1 r.2.1) (nn r.1 - nn π) (sw r.1 - sw π))  {ls : Array Slot} {H : Heap} {locs : List Loc} {g : Nat → Nat} {π : Sh} {σ : St} {x1 : Int} {s0 : Int} (hC : Cl π σ) (hG : gx (nn π0) g0 g) (hX : ext π0 π)  (hl : lv_has ls 4 [(0, rfv g 44), (1, .int (Int32.ofInt x1))]) (h : Hp D A s.heap H locs (cW k z g π σ)) (hm : Rd_funName_30 N rArg rFun π σ x1 s0 = some r) : W p l e { frames := φ + 3, cells := nn r.1 - nn π0, slots := sw r.1 - sw π0, locals := ψ + 72 } s m args below meth c H locs (nn π - nn π0) (sw π - sw π0) (MQ below (va_Qq (fun v u => gx (nn π0) g0 u ∧ v = rfo u r.2.2) (fun u t => PostW D (TYs k) A (cW k z u r.1 r.2.1) t) A) args s (nn r.1 - nn π0) (sw r.1 - sw π0) A) (F0 m 30 ls [.int (Int32.ofInt s0)]) := by
  have hS := hC.1
  have hq := km_Rd_funName_30 hmrArg hmrFun   hC  hm
  rw [Rd_funName_30] at hm
  refine lv_istore_n (lv' := [(2, .int (Int32.ofInt s0)), (0, rfv g 44), (1, .int (Int32.ofInt x1))]) C.1 C.2.1 dX6_funName_30 rfl hl (by decide) rfl (fun ls hl => ?_)
  refine lv_iload_n C.1 C.2.1 dX6_funName_31 rfl (lv_at hl 2 rfl) ?_
  refine lv_iconst (v := Int32.ofInt 4) C.1 C.2.1 dX6_funName_32 (by decide) ?_
  obtain ⟨g9, hm⟩ := grd_s hm
  refine z_icmp_ne (tgt := 51) C dX6_funName_33 (by decide) g9 (by decide) (fun c10 => ?_) (fun c10 => ?_)
  · have hm := ite_f c10 hm
    exact kl_Rd_funName_51 (N := N) C hr hlk hE hφ hψ hmrArg hcrArg hmrFun hcrFun hC hG hX (lv_sub hl [1, 2, 0] rfl) h hm
  · have hm := ite_t c10 hm
    refine z_aload_n C dX6_funName_36 rfl (lv_at hl 1 rfl) ?_
    refine cg_7_6 C h (sh_44 hS) cU_X6 (List.mem_cons_of_mem _ wl_X6_28) dX6_funName_37 ?_
    obtain ⟨g11, hm⟩ := grd_s hm
    refine cg_1_2 C h g11 cU_X0 (List.mem_cons_of_mem _ wl_X6_103) dX6_funName_40 ?_
    refine lv_iconst (v := Int32.ofInt 1) C.1 C.2.1 dX6_funName_43 (by decide) ?_
    obtain ⟨g12, hm⟩ := grd_s hm
    refine z_icmp_ne (tgt := 51) C dX6_funName_44 (by decide) g12 (by decide) (fun c13 => ?_) (fun c13 => ?_)
    · have hm := ite_f c13 hm
      exact kl_Rd_funName_51 (N := N) C hr hlk hE hφ hψ hmrArg hcrArg hmrFun hcrFun hC hG hX (lv_sub hl [1, 2, 0] rfl) h hm
    · have hm := ite_t c13 hm
      refine lv_iconst (v := Int32.ofInt 1) C.1 C.2.1 dX6_funName_47 (by decide) ?_
      refine lv_goto (tgt := 52) C.1 C.2.1 dX6_funName_48 (by decide) ?_
      exact kl_Rd_funName_52 (N := N) C hr hlk hE hφ hψ hmrArg hcrArg hmrFun hcrFun hC hG hX (lv_sub hl [1, 2, 0] rfl) h hm
set_option maxHeartbeats 8000000 in
set_option maxRecDepth 100000 in
theorem kl_Rd_funName_29 {r : Sh × St × Int} (C : Cx p s m args c cX6_funName RX6 (cd :: cWd) D (TYs k) 4) (hr : meth.sig.returnType = (some (.object "CycleStudio$Piece"))) (hlk : meth.locks = false) (hE : Ev z mi aK aV A s s.heap) {rArg : Sh → St → Option (Sh × St × Int)} {rFun : Sh → St → Option (Sh × St × Int)} (hφ : 260 ≤ φ) (hψ : 12000 ≤ ψ) (hmrArg : ∀ {π : Sh} {σ : St}  {r : Sh × St × Int}, Cl π σ → rArg π σ  = some r → ext π r.1 ∧ Cl r.1 r.2.1) (hcrArg : ∀ {g : Nat → Nat} {π : Sh} {σ : St}  {r : Sh × St × Int}, Cl π σ → rArg π σ  = some r → Mi l yX6_arg (.code yX6_arg cX6_arg 3 (some .int) :: cWd) { frames := φ, cells := nn r.1 - nn π, slots := sw r.1 - sw π, locals := ψ } [rfv g 44] D (TYs k) (cW k z g π σ) (XV z mi aK aV (cW k z g π σ)) (Nat → Nat) (fun v u => gx (nn π) g u ∧ v = Int32.ofInt r.2.2) (fun u => cW k z u r.1 r.2.1) (nn r.1 - nn π) (sw r.1 - sw π)) (hmrFun : ∀ {π : Sh} {σ : St}  {r : Sh × St × Int}, Cl π σ → rFun π σ  = some r → ext π r.1 ∧ Cl r.1 r.2.1 ∧ r.2.2 < nn r.1) (hcrFun : ∀ {g : Nat → Nat} {π : Sh} {σ : St}  {r : Sh × St × Int}, Cl π σ → rFun π σ  = some r → Mq l yX6_fun (.code yX6_fun cX6_fun 5 (some (.object "CycleStudio$Piece")) :: cWd) { frames := φ, cells := nn r.1 - nn π, slots := sw r.1 - sw π, locals := ψ } [rfv g 44] D (TYs k) (cW k z g π σ) (XV z mi aK aV (cW k z g π σ)) (Nat → Nat) (fun v u => gx (nn π) g u ∧ v = rfo u r.2.2) (fun u => cW k z u r.1 r.2.1) (nn r.1 - nn π) (sw r.1 - sw π))  {ls : Array Slot} {H : Heap} {locs : List Loc} {g : Nat → Nat} {π : Sh} {σ : St} {x1 : Int} (hC : Cl π σ) (hG : gx (nn π0) g0 g) (hX : ext π0 π)  (hl : lv_has ls 4 [(0, rfv g 44), (1, .int (Int32.ofInt x1))]) (h : Hp D A s.heap H locs (cW k z g π σ)) (hm : Rd_funName_29 N rArg rFun π σ x1 = some r) : W p l e { frames := φ + 3, cells := nn r.1 - nn π0, slots := sw r.1 - sw π0, locals := ψ + 72 } s m args below meth c H locs (nn π - nn π0) (sw π - sw π0) (MQ below (va_Qq (fun v u => gx (nn π0) g0 u ∧ v = rfo u r.2.2) (fun u t => PostW D (TYs k) A (cW k z u r.1 r.2.1) t) A) args s (nn r.1 - nn π0) (sw r.1 - sw π0) A) (F0 m 29 ls []) := by
  have hS := hC.1
  have hq := km_Rd_funName_29 hmrArg hmrFun   hC  hm
  rw [Rd_funName_29] at hm
  refine lv_iconst (v := Int32.ofInt 0) C.1 C.2.1 dX6_funName_29 (by decide) ?_
  exact kl_Rd_funName_30 (N := N) C hr hlk hE hφ hψ hmrArg hcrArg hmrFun hcrFun hC hG hX (lv_sub hl [0, 1] rfl) h hm
set_option maxHeartbeats 8000000 in
set_option maxRecDepth 100000 in
theorem kc_Rd_funName (l : Launch) (D : va_G) (k : Nat → ClassId) (z mi : Nat) (aK aV : Nat → Nat) (g : Nat → Nat) (N : Nat) {φ ψ : Nat} {rArg : Sh → St → Option (Sh × St × Int)} {rFun : Sh → St → Option (Sh × St × Int)} (hφ : 260 ≤ φ) (hψ : 12000 ≤ ψ) (hmrArg : ∀ {π : Sh} {σ : St}  {r : Sh × St × Int}, Cl π σ → rArg π σ  = some r → ext π r.1 ∧ Cl r.1 r.2.1) (hcrArg : ∀ {g : Nat → Nat} {π : Sh} {σ : St}  {r : Sh × St × Int}, Cl π σ → rArg π σ  = some r → Mi l yX6_arg (.code yX6_arg cX6_arg 3 (some .int) :: cWd) { frames := φ, cells := nn r.1 - nn π, slots := sw r.1 - sw π, locals := ψ } [rfv g 44] D (TYs k) (cW k z g π σ) (XV z mi aK aV (cW k z g π σ)) (Nat → Nat) (fun v u => gx (nn π) g u ∧ v = Int32.ofInt r.2.2) (fun u => cW k z u r.1 r.2.1) (nn r.1 - nn π) (sw r.1 - sw π)) (hmrFun : ∀ {π : Sh} {σ : St}  {r : Sh × St × Int}, Cl π σ → rFun π σ  = some r → ext π r.1 ∧ Cl r.1 r.2.1 ∧ r.2.2 < nn r.1) (hcrFun : ∀ {g : Nat → Nat} {π : Sh} {σ : St}  {r : Sh × St × Int}, Cl π σ → rFun π σ  = some r → Mq l yX6_fun (.code yX6_fun cX6_fun 5 (some (.object "CycleStudio$Piece")) :: cWd) { frames := φ, cells := nn r.1 - nn π, slots := sw r.1 - sw π, locals := ψ } [rfv g 44] D (TYs k) (cW k z g π σ) (XV z mi aK aV (cW k z g π σ)) (Nat → Nat) (fun v u => gx (nn π) g u ∧ v = rfo u r.2.2) (fun u => cW k z u r.1 r.2.1) (nn r.1 - nn π) (sw r.1 - sw π)) {π : Sh} {σ : St}  {r : Sh × St × Int} (hC : Cl π σ)  (hm : Rd_funName N rArg rFun π σ  = some r) : Mq l yX6_funName (.code yX6_funName cX6_funName 4 (some (.object "CycleStudio$Piece")) :: cWd) { frames := φ + 3, cells := nn r.1 - nn π, slots := sw r.1 - sw π, locals := ψ + 72 } [rfv g 44] D (TYs k) (cW k z g π σ) (XV z mi aK aV (cW k z g π σ)) (Nat → Nat) (fun v u => gx (nn π) g u ∧ v = rfo u r.2.2) (fun u => cW k z u r.1 r.2.1) (nn r.1 - nn π) (sw r.1 - sw π) := by
  have hS := hC.1
  have hq := km_Rd_funName hmrArg hmrFun hC  hm
  intro sz
  refine v_met (cc := cX6_funName) (maxL := 4) (ret := (some (.object "CycleStudio$Piece"))) (lv := [(0, rfv g 44)]) (by decide) rfl (by simp [lg_sl, rfv_cat, cat_i, cat_l]) (by simp [lv_args, rfv_cat, cat_i, cat_l]) ?_
  intro p e s m below meth c ls C hE hr hlk hmn hl h
  generalize ([rfv g 44] : List Value).toArray = args at C ⊢
  have hG := gx.rf (nn π) g
  have hX := ext.rf π
  refine W_cast (Nat.sub_self (nn π)) (Nat.sub_self (sw π)) ?_
  rw [Rd_funName] at hm
  refine z_aload_n C dX6_funName_0 rfl (lv_at hl 0 rfl) ?_
  refine z_aload_n C dX6_funName_1 rfl (lv_at hl 0 rfl) ?_
  refine cg_7_0 C h (sh_44 hS) cU_X6 (List.mem_cons_of_mem _ wl_X6_31) dX6_funName_2 ?_
  refine cg_9_8 C h (sh_1 hS) cU_X8 (List.mem_cons_of_mem _ wl_X6_91) dX6_funName_5 ?_
  obtain ⟨r1, e2, hm⟩ := obd_s hm
  have q3 := (km_Rd_kindOf hC e2)
  refine c_callViP C hE h (sh_44 hS) rfl (by decide) (kc_Rd_kindOf l D k z mi aK aV g N hS e2) (cwV 1 C.2.2.1 (gS_X6_165 _) rfl rfl rfl hd_X6_kindOf ⟨(by show 3 + 1 ≤ φ + 3; omega), (by show 8 + (4 + 11) + 81 ≤ ψ + 72; omega)⟩) rfl hl.1 rfl (Nat.le_of_ble_eq_true rfl) dX6_funName_8 ⟨(czz hX hq.1), (szz hX hq.1)⟩ (fun H locs h => ?_)
  have hC4 : Cl π r1.1 := q3
  refine lv_istore_n (i := 1) (lv' := [(1, .int (Int32.ofInt r1.2)), (0, rfv g 44)]) C.1 C.2.1 dX6_funName_11 rfl hl (by decide) (by simp [rfv_cat, cat_i, cat_l]) (fun ls hl => ?_)
  refine lv_iload_n C.1 C.2.1 dX6_funName_12 rfl (lv_at hl 0 rfl) ?_
  refine lv_iconst (v := Int32.ofInt 2) C.1 C.2.1 dX6_funName_13 (by decide) ?_
  obtain ⟨g5, hm⟩ := grd_s hm
  refine z_icmp_ne (tgt := 29) C dX6_funName_14 (by decide) g5 (by decide) (fun c6 => ?_) (fun c6 => ?_)
  · have hm := ite_f c6 hm
    exact kl_Rd_funName_29 (N := N) C hr hlk hE hφ hψ hmrArg hcrArg hmrFun hcrFun hC4 hG hX (lv_sub hl [1, 0] rfl) h hm
  · have hm := ite_t c6 hm
    refine z_aload_n C dX6_funName_17 rfl (lv_at hl 1 rfl) ?_
    refine cg_7_5 C h (sh_44 hS) cU_X6 (List.mem_cons_of_mem _ wl_X6_24) dX6_funName_18 ?_
    refine lv_iconst (v := Int32.ofInt 4) C.1 C.2.1 dX6_funName_21 (by decide) ?_
    obtain ⟨g7, hm⟩ := grd_s hm
    refine z_icmp_ne (tgt := 29) C dX6_funName_22 (by decide) g7 (by decide) (fun c8 => ?_) (fun c8 => ?_)
    · have hm := ite_f c8 hm
      exact kl_Rd_funName_29 (N := N) C hr hlk hE hφ hψ hmrArg hcrArg hmrFun hcrFun hC4 hG hX (lv_sub hl [1, 0] rfl) h hm
    · have hm := ite_t c8 hm
      refine lv_iconst (v := Int32.ofInt 1) C.1 C.2.1 dX6_funName_25 (by decide) ?_
      refine lv_goto (tgt := 30) C.1 C.2.1 dX6_funName_26 (by decide) ?_
      exact kl_Rd_funName_30 (N := N) C hr hlk hE hφ hψ hmrArg hcrArg hmrFun hcrFun hC4 hG hX (lv_sub hl [1, 0] rfl) h hm
end Z_Rd_funName
section Z_Rd_piece
variable {p : Program} {l : Launch} {e : Env} {s : State} {m : MethodId} {args : Array Value} {below : List Frame} {meth : Method} {c : Code} {D : va_G} {A : Nat → Prop} {k : Nat → ClassId} {N : Nat} {cd : Cond} {z mi : Nat} {aK aV : Nat → Nat} {g0 : Nat → Nat} {π0 : Sh} {φ ψ : Nat}
set_option maxHeartbeats 8000000 in
set_option maxRecDepth 100000 in
theorem kl_Rd_piece_46 {r : Sh × St × Int} (C : Cx p s m args c cX6_piece RX6 (cd :: cWd) D (TYs k) 3) (hr : meth.sig.returnType = (some (.object "CycleStudio$Piece"))) (hlk : meth.locks = false) (hE : Ev z mi aK aV A s s.heap) {rArg : Sh → St → Option (Sh × St × Int)} {rFun : Sh → St → Option (Sh × St × Int)} (hφ : 260 ≤ φ) (hψ : 12000 ≤ ψ) (hmrArg : ∀ {π : Sh} {σ : St}  {r : Sh × St × Int}, Cl π σ → rArg π σ  = some r → ext π r.1 ∧ Cl r.1 r.2.1) (hcrArg : ∀ {g : Nat → Nat} {π : Sh} {σ : St}  {r : Sh × St × Int}, Cl π σ → rArg π σ  = some r → Mi l yX6_arg (.code yX6_arg cX6_arg 3 (some .int) :: cWd) { frames := φ, cells := nn r.1 - nn π, slots := sw r.1 - sw π, locals := ψ } [rfv g 44] D (TYs k) (cW k z g π σ) (XV z mi aK aV (cW k z g π σ)) (Nat → Nat) (fun v u => gx (nn π) g u ∧ v = Int32.ofInt r.2.2) (fun u => cW k z u r.1 r.2.1) (nn r.1 - nn π) (sw r.1 - sw π)) (hmrFun : ∀ {π : Sh} {σ : St}  {r : Sh × St × Int}, Cl π σ → rFun π σ  = some r → ext π r.1 ∧ Cl r.1 r.2.1 ∧ r.2.2 < nn r.1) (hcrFun : ∀ {g : Nat → Nat} {π : Sh} {σ : St}  {r : Sh × St × Int}, Cl π σ → rFun π σ  = some r → Mq l yX6_fun (.code yX6_fun cX6_fun 5 (some (.object "CycleStudio$Piece")) :: cWd) { frames := φ, cells := nn r.1 - nn π, slots := sw r.1 - sw π, locals := ψ } [rfv g 44] D (TYs k) (cW k z g π σ) (XV z mi aK aV (cW k z g π σ)) (Nat → Nat) (fun v u => gx (nn π) g u ∧ v = rfo u r.2.2) (fun u => cW k z u r.1 r.2.1) (nn r.1 - nn π) (sw r.1 - sw π))  {ls : Array Slot} {H : Heap} {locs : List Loc} {g : Nat → Nat} {π : Sh} {σ : St} {s0 : Int} (hC : Cl π σ) (hG : gx (nn π0) g0 g) (hX : ext π0 π) (hv_s0 : s0 < nn π) (hl : lv_has ls 3 []) (h : Hp D A s.heap H locs (cW k z g π σ)) (hm : Rd_piece_46 N rArg rFun π σ s0 = some r) : W p l e { frames := φ + 3, cells := nn r.1 - nn π0, slots := sw r.1 - sw π0, locals := ψ + 72 } s m args below meth c H locs (nn π - nn π0) (sw π - sw π0) (MQ below (va_Qq (fun v u => gx (nn π0) g0 u ∧ v = rfo u r.2.2) (fun u t => PostW D (TYs k) A (cW k z u r.1 r.2.1) t) A) args s (nn r.1 - nn π0) (sw r.1 - sw π0) A) (F0 m 46 ls [rfv g s0]) := by
  have hS := hC.1
  have hq := km_Rd_piece_46 hmrArg hmrFun   hC hv_s0 hm
  rw [Rd_piece_46] at hm
  cases hm
  exact c_aretA C hG h hr hlk (Or.inl ⟨_, rfl⟩) dX6_piece_46
set_option maxHeartbeats 8000000 in
set_option maxRecDepth 100000 in
theorem kl_Rd_piece_41 {r : Sh × St × Int} (C : Cx p s m args c cX6_piece RX6 (cd :: cWd) D (TYs k) 3) (hr : meth.sig.returnType = (some (.object "CycleStudio$Piece"))) (hlk : meth.locks = false) (hE : Ev z mi aK aV A s s.heap) {rArg : Sh → St → Option (Sh × St × Int)} {rFun : Sh → St → Option (Sh × St × Int)} (hφ : 260 ≤ φ) (hψ : 12000 ≤ ψ) (hmrArg : ∀ {π : Sh} {σ : St}  {r : Sh × St × Int}, Cl π σ → rArg π σ  = some r → ext π r.1 ∧ Cl r.1 r.2.1) (hcrArg : ∀ {g : Nat → Nat} {π : Sh} {σ : St}  {r : Sh × St × Int}, Cl π σ → rArg π σ  = some r → Mi l yX6_arg (.code yX6_arg cX6_arg 3 (some .int) :: cWd) { frames := φ, cells := nn r.1 - nn π, slots := sw r.1 - sw π, locals := ψ } [rfv g 44] D (TYs k) (cW k z g π σ) (XV z mi aK aV (cW k z g π σ)) (Nat → Nat) (fun v u => gx (nn π) g u ∧ v = Int32.ofInt r.2.2) (fun u => cW k z u r.1 r.2.1) (nn r.1 - nn π) (sw r.1 - sw π)) (hmrFun : ∀ {π : Sh} {σ : St}  {r : Sh × St × Int}, Cl π σ → rFun π σ  = some r → ext π r.1 ∧ Cl r.1 r.2.1 ∧ r.2.2 < nn r.1) (hcrFun : ∀ {g : Nat → Nat} {π : Sh} {σ : St}  {r : Sh × St × Int}, Cl π σ → rFun π σ  = some r → Mq l yX6_fun (.code yX6_fun cX6_fun 5 (some (.object "CycleStudio$Piece")) :: cWd) { frames := φ, cells := nn r.1 - nn π, slots := sw r.1 - sw π, locals := ψ } [rfv g 44] D (TYs k) (cW k z g π σ) (XV z mi aK aV (cW k z g π σ)) (Nat → Nat) (fun v u => gx (nn π) g u ∧ v = rfo u r.2.2) (fun u => cW k z u r.1 r.2.1) (nn r.1 - nn π) (sw r.1 - sw π))  {ls : Array Slot} {H : Heap} {locs : List Loc} {g : Nat → Nat} {π : Sh} {σ : St} {x2 : Int} (hC : Cl π σ) (hG : gx (nn π0) g0 g) (hX : ext π0 π)  (hl : lv_has ls 3 [(0, rfv g 44), (2, .int (Int32.ofInt x2))]) (h : Hp D A s.heap H locs (cW k z g π σ)) (hm : Rd_piece_41 N rArg rFun π σ x2 = some r) : W p l e { frames := φ + 3, cells := nn r.1 - nn π0, slots := sw r.1 - sw π0, locals := ψ + 72 } s m args below meth c H locs (nn π - nn π0) (sw π - sw π0) (MQ below (va_Qq (fun v u => gx (nn π0) g0 u ∧ v = rfo u r.2.2) (fun u t => PostW D (TYs k) A (cW k z u r.1 r.2.1) t) A) args s (nn r.1 - nn π0) (sw r.1 - sw π0) A) (F0 m 41 ls []) := by
  have hS := hC.1
  have hq := km_Rd_piece_41 hmrArg hmrFun   hC  hm
  rw [Rd_piece_41] at hm
  refine z_aload_n C dX6_piece_41 rfl (lv_at hl 0 rfl) ?_
  refine lv_iload_n C.1 C.2.1 dX6_piece_42 rfl (lv_at hl 1 rfl) ?_
  obtain ⟨r33, e34, hm⟩ := obd_s hm
  have q35 := (km_Rd_named hmrArg hmrFun hC e34)
  have q := km_Rd_piece_46 hmrArg hmrFun  q35.2.1 q35.2.2 hm
  refine c_callVqA C hE h (sh_44 hS) rfl (by decide) (kc_Rd_named l D k z mi aK aV g N hφ hψ hmrArg hcrArg hmrFun hcrFun hC e34) (cwV 1 C.2.2.1 (gS_X6_168 _) rfl rfl rfl hd_X6_named ⟨(by show φ + 2 + 1 ≤ φ + 3; omega), (by show 8 + (5 + 11) + (ψ + 48) ≤ ψ + 72; omega)⟩) rfl hl.1 rfl (Nat.le_of_ble_eq_true rfl) dX6_piece_43 ⟨rcC hX q35.1 q.1, rsC hX q35.1 q.1⟩ (fun u H locs hg h => ?_)
  simp only [← gx_rfv hg (sh_44 hS).2.1] at hl
  try simp only [← gx_rfv hg (sh_44 hS).2.1]
  refine W_cast (wcC hX q35.1).symm (wsC hX q35.1).symm ?_
  exact kl_Rd_piece_46 (N := N) C hr hlk hE hφ hψ hmrArg hcrArg hmrFun hcrFun  q35.2.1 (hG.tr hg hX.1) (hX.tr q35.1) q35.2.2 (lv_sub hl [] rfl) h hm
set_option maxHeartbeats 8000000 in
set_option maxRecDepth 100000 in
theorem kl_Rd_piece_86 {r : Sh × St × Int} (C : Cx p s m args c cX6_piece RX6 (cd :: cWd) D (TYs k) 3) (hr : meth.sig.returnType = (some (.object "CycleStudio$Piece"))) (hlk : meth.locks = false) (hE : Ev z mi aK aV A s s.heap) {rArg : Sh → St → Option (Sh × St × Int)} {rFun : Sh → St → Option (Sh × St × Int)} (hφ : 260 ≤ φ) (hψ : 12000 ≤ ψ) (hmrArg : ∀ {π : Sh} {σ : St}  {r : Sh × St × Int}, Cl π σ → rArg π σ  = some r → ext π r.1 ∧ Cl r.1 r.2.1) (hcrArg : ∀ {g : Nat → Nat} {π : Sh} {σ : St}  {r : Sh × St × Int}, Cl π σ → rArg π σ  = some r → Mi l yX6_arg (.code yX6_arg cX6_arg 3 (some .int) :: cWd) { frames := φ, cells := nn r.1 - nn π, slots := sw r.1 - sw π, locals := ψ } [rfv g 44] D (TYs k) (cW k z g π σ) (XV z mi aK aV (cW k z g π σ)) (Nat → Nat) (fun v u => gx (nn π) g u ∧ v = Int32.ofInt r.2.2) (fun u => cW k z u r.1 r.2.1) (nn r.1 - nn π) (sw r.1 - sw π)) (hmrFun : ∀ {π : Sh} {σ : St}  {r : Sh × St × Int}, Cl π σ → rFun π σ  = some r → ext π r.1 ∧ Cl r.1 r.2.1 ∧ r.2.2 < nn r.1) (hcrFun : ∀ {g : Nat → Nat} {π : Sh} {σ : St}  {r : Sh × St × Int}, Cl π σ → rFun π σ  = some r → Mq l yX6_fun (.code yX6_fun cX6_fun 5 (some (.object "CycleStudio$Piece")) :: cWd) { frames := φ, cells := nn r.1 - nn π, slots := sw r.1 - sw π, locals := ψ } [rfv g 44] D (TYs k) (cW k z g π σ) (XV z mi aK aV (cW k z g π σ)) (Nat → Nat) (fun v u => gx (nn π) g u ∧ v = rfo u r.2.2) (fun u => cW k z u r.1 r.2.1) (nn r.1 - nn π) (sw r.1 - sw π))  {ls : Array Slot} {H : Heap} {locs : List Loc} {g : Nat → Nat} {π : Sh} {σ : St} {x2 : Int} {s0 : Int} {s1 : Int} (hC : Cl π σ) (hG : gx (nn π0) g0 g) (hX : ext π0 π) (hv_x2 : x2 < nn π) (hv_s0 : s0 < nn π) (hv_s1 : s1 < nn π) (hl : lv_has ls 3 [(2, rfv g x2)]) (h : Hp D A s.heap H locs (cW k z g π σ)) (hm : Rd_piece_86 N rArg rFun π σ x2 s0 s1 = some r) : W p l e { frames := φ + 3, cells := nn r.1 - nn π0, slots := sw r.1 - sw π0, locals := ψ + 72 } s m args below meth c H locs (nn π - nn π0) (sw π - sw π0) (MQ below (va_Qq (fun v u => gx (nn π0) g0 u ∧ v = rfo u r.2.2) (fun u t => PostW D (TYs k) A (cW k z u r.1 r.2.1) t) A) args s (nn r.1 - nn π0) (sw r.1 - sw π0) A) (F0 m 86 ls [rfv g s0, rfv g s1]) := by
  have hS := hC.1
  have hq := km_Rd_piece_86 hmrArg hmrFun   hC hv_x2 hv_s0 hv_s1 hm
  rw [Rd_piece_86] at hm
  obtain ⟨g55, hm⟩ := grd_s hm
  refine cp_6_6 C h g55 cU_X5 (List.mem_cons_of_mem _ wl_X6_232) dX6_piece_86 (fun H locs h => ?_)
  refine z_aload_n C dX6_piece_89 rfl (lv_at hl 0 rfl) ?_
  cases hm
  exact c_aretA C hG h hr hlk (Or.inl ⟨_, rfl⟩) dX6_piece_90
set_option maxHeartbeats 8000000 in
set_option maxRecDepth 100000 in
theorem kl_Rd_piece_80 {r : Sh × St × Int} (C : Cx p s m args c cX6_piece RX6 (cd :: cWd) D (TYs k) 3) (hr : meth.sig.returnType = (some (.object "CycleStudio$Piece"))) (hlk : meth.locks = false) (hE : Ev z mi aK aV A s s.heap) {rArg : Sh → St → Option (Sh × St × Int)} {rFun : Sh → St → Option (Sh × St × Int)} (hφ : 260 ≤ φ) (hψ : 12000 ≤ ψ) (hmrArg : ∀ {π : Sh} {σ : St}  {r : Sh × St × Int}, Cl π σ → rArg π σ  = some r → ext π r.1 ∧ Cl r.1 r.2.1) (hcrArg : ∀ {g : Nat → Nat} {π : Sh} {σ : St}  {r : Sh × St × Int}, Cl π σ → rArg π σ  = some r → Mi l yX6_arg (.code yX6_arg cX6_arg 3 (some .int) :: cWd) { frames := φ, cells := nn r.1 - nn π, slots := sw r.1 - sw π, locals := ψ } [rfv g 44] D (TYs k) (cW k z g π σ) (XV z mi aK aV (cW k z g π σ)) (Nat → Nat) (fun v u => gx (nn π) g u ∧ v = Int32.ofInt r.2.2) (fun u => cW k z u r.1 r.2.1) (nn r.1 - nn π) (sw r.1 - sw π)) (hmrFun : ∀ {π : Sh} {σ : St}  {r : Sh × St × Int}, Cl π σ → rFun π σ  = some r → ext π r.1 ∧ Cl r.1 r.2.1 ∧ r.2.2 < nn r.1) (hcrFun : ∀ {g : Nat → Nat} {π : Sh} {σ : St}  {r : Sh × St × Int}, Cl π σ → rFun π σ  = some r → Mq l yX6_fun (.code yX6_fun cX6_fun 5 (some (.object "CycleStudio$Piece")) :: cWd) { frames := φ, cells := nn r.1 - nn π, slots := sw r.1 - sw π, locals := ψ } [rfv g 44] D (TYs k) (cW k z g π σ) (XV z mi aK aV (cW k z g π σ)) (Nat → Nat) (fun v u => gx (nn π) g u ∧ v = rfo u r.2.2) (fun u => cW k z u r.1 r.2.1) (nn r.1 - nn π) (sw r.1 - sw π))  {ls : Array Slot} {H : Heap} {locs : List Loc} {g : Nat → Nat} {π : Sh} {σ : St} {s0 : Int} (hC : Cl π σ) (hG : gx (nn π0) g0 g) (hX : ext π0 π) (hv_s0 : s0 < nn π) (hl : lv_has ls 3 [(0, rfv g 44)]) (h : Hp D A s.heap H locs (cW k z g π σ)) (hm : Rd_piece_80 N rArg rFun π σ s0 = some r) : W p l e { frames := φ + 3, cells := nn r.1 - nn π0, slots := sw r.1 - sw π0, locals := ψ + 72 } s m args below meth c H locs (nn π - nn π0) (sw π - sw π0) (MQ below (va_Qq (fun v u => gx (nn π0) g0 u ∧ v = rfo u r.2.2) (fun u t => PostW D (TYs k) A (cW k z u r.1 r.2.1) t) A) args s (nn r.1 - nn π0) (sw r.1 - sw π0) A) (F0 m 80 ls [rfv g s0]) := by
  have hS := hC.1
  have hq := km_Rd_piece_80 hmrArg hmrFun   hC hv_s0 hm
  rw [Rd_piece_80] at hm
  refine z_astore_n (lv' := [(2, rfv g s0), (0, rfv g 44)]) C dX6_piece_80 rfl hl (by decide) rfl (fun ls hl => ?_)
  refine z_aload_n C dX6_piece_81 rfl (lv_at hl 0 rfl) ?_
  refine z_aload_n C dX6_piece_82 rfl (lv_at hl 1 rfl) ?_
  obtain ⟨r47, e48, hm⟩ := obd_s hm
  have q49 := (hmrFun hC e48)
  have q := km_Rd_piece_86 hmrArg hmrFun  q49.2.1 (lt_ext hv_s0 q49.1) q49.2.2 (lt_ext hv_s0 q49.1) hm
  refine c_callVqA C hE h (sh_44 hS) rfl (by decide) (hcrFun hC e48) (cwV 0 C.2.2.1 (gS_X6_228 _) rfl rfl rfl hd_X6_fun ⟨(by show φ + 1 ≤ φ + 3; omega), (by show 8 + (5 + 11) + ψ ≤ ψ + 72; omega)⟩) rfl hl.1 rfl (by simp [rfv_cat, cat_i, cat_l]) dX6_piece_83 ⟨rcC hX q49.1 q.1, rsC hX q49.1 q.1⟩ (fun u H locs hg h => ?_)
  simp only [← gx_rfv hg hv_s0, ← gx_rfv hg (sh_44 hS).2.1] at hl
  try simp only [← gx_rfv hg hv_s0, ← gx_rfv hg (sh_44 hS).2.1]
  refine W_cast (wcC hX q49.1).symm (wsC hX q49.1).symm ?_
  exact kl_Rd_piece_86 (N := N) C hr hlk hE hφ hψ hmrArg hcrArg hmrFun hcrFun  q49.2.1 (hG.tr hg hX.1) (hX.tr q49.1) (lt_ext hv_s0 q49.1) q49.2.2 (lt_ext hv_s0 q49.1) (lv_sub hl [0] rfl) h hm
set_option maxHeartbeats 8000000 in
set_option maxRecDepth 100000 in
theorem kl_Rd_piece_73 {r : Sh × St × Int} (C : Cx p s m args c cX6_piece RX6 (cd :: cWd) D (TYs k) 3) (hr : meth.sig.returnType = (some (.object "CycleStudio$Piece"))) (hlk : meth.locks = false) (hE : Ev z mi aK aV A s s.heap) {rArg : Sh → St → Option (Sh × St × Int)} {rFun : Sh → St → Option (Sh × St × Int)} (hφ : 260 ≤ φ) (hψ : 12000 ≤ ψ) (hmrArg : ∀ {π : Sh} {σ : St}  {r : Sh × St × Int}, Cl π σ → rArg π σ  = some r → ext π r.1 ∧ Cl r.1 r.2.1) (hcrArg : ∀ {g : Nat → Nat} {π : Sh} {σ : St}  {r : Sh × St × Int}, Cl π σ → rArg π σ  = some r → Mi l yX6_arg (.code yX6_arg cX6_arg 3 (some .int) :: cWd) { frames := φ, cells := nn r.1 - nn π, slots := sw r.1 - sw π, locals := ψ } [rfv g 44] D (TYs k) (cW k z g π σ) (XV z mi aK aV (cW k z g π σ)) (Nat → Nat) (fun v u => gx (nn π) g u ∧ v = Int32.ofInt r.2.2) (fun u => cW k z u r.1 r.2.1) (nn r.1 - nn π) (sw r.1 - sw π)) (hmrFun : ∀ {π : Sh} {σ : St}  {r : Sh × St × Int}, Cl π σ → rFun π σ  = some r → ext π r.1 ∧ Cl r.1 r.2.1 ∧ r.2.2 < nn r.1) (hcrFun : ∀ {g : Nat → Nat} {π : Sh} {σ : St}  {r : Sh × St × Int}, Cl π σ → rFun π σ  = some r → Mq l yX6_fun (.code yX6_fun cX6_fun 5 (some (.object "CycleStudio$Piece")) :: cWd) { frames := φ, cells := nn r.1 - nn π, slots := sw r.1 - sw π, locals := ψ } [rfv g 44] D (TYs k) (cW k z g π σ) (XV z mi aK aV (cW k z g π σ)) (Nat → Nat) (fun v u => gx (nn π) g u ∧ v = rfo u r.2.2) (fun u => cW k z u r.1 r.2.1) (nn r.1 - nn π) (sw r.1 - sw π))  {ls : Array Slot} {H : Heap} {locs : List Loc} {g : Nat → Nat} {π : Sh} {σ : St} {x1 : Int} {s0 : Int} (hC : Cl π σ) (hG : gx (nn π0) g0 g) (hX : ext π0 π) (hv_s0 : s0 < nn π) (hl : lv_has ls 3 [(0, rfv g 44), (1, .int (Int32.ofInt x1))]) (h : Hp D A s.heap H locs (cW k z g π σ)) (hm : Rd_piece_73 N rArg rFun π σ x1 s0 = some r) : W p l e { frames := φ + 3, cells := nn r.1 - nn π0, slots := sw r.1 - sw π0, locals := ψ + 72 } s m args below meth c H locs (nn π - nn π0) (sw π - sw π0) (MQ below (va_Qq (fun v u => gx (nn π0) g0 u ∧ v = rfo u r.2.2) (fun u t => PostW D (TYs k) A (cW k z u r.1 r.2.1) t) A) args s (nn r.1 - nn π0) (sw r.1 - sw π0) A) (F0 m 73 ls [rfv g s0]) := by
  have hS := hC.1
  have hq := km_Rd_piece_73 hmrArg hmrFun   hC hv_s0 hm
  rw [Rd_piece_73] at hm
  refine lv_dup C.1 C.2.1 dX6_piece_73 (rfv_cat _ _) ?_
  refine lv_bipush (v := Int32.ofInt 23) C.1 C.2.1 dX6_piece_74 (by decide) ?_
  refine lv_iload_n C.1 C.2.1 dX6_piece_76 rfl (lv_at hl 1 rfl) ?_
  obtain ⟨r29, e30, hm⟩ := obd_s hm
  have q31 := (km_Pc_init hC hv_s0 e30)
  obtain ⟨g32, hm⟩ := grd_s hm
  have q := km_Rd_piece_80 hmrArg hmrFun  q31.2 (lt_ext hv_s0 q31.1) hm
  refine c_callIvA C hE h g32 (kc_Pc_init l D k z mi aK aV g N hC hv_s0 e30) (cwI 2 C.2.2.1 (gC_X5_init _) rfl rfl rfl (C.2.2.1 _ (List.mem_cons_of_mem _ wt_X5)) (C.2.2.1 _ (List.mem_cons_of_mem _ wm_X6_208)) (C.2.2.1 _ (List.mem_cons_of_mem _ wj_X5_init)) rfl hdS_X5_init ⟨(by show 1 + 1 ≤ φ + 3; omega), (by show 8 + (3 + 11) + 30 ≤ ψ + 72; omega)⟩) rfl hl.1 rfl (by simp [rfv_cat, cat_i, cat_l]) dX6_piece_77 ⟨rcC hX q31.1 q.1, rsC hX q31.1 q.1⟩ (fun u H locs hg h => ?_)
  simp only [← gx_rfv hg (sh_44 hS).2.1, ← gx_rfv hg hv_s0] at hl
  try simp only [← gx_rfv hg (sh_44 hS).2.1, ← gx_rfv hg hv_s0]
  refine W_cast (wcC hX q31.1).symm (wsC hX q31.1).symm ?_
  exact kl_Rd_piece_80 (N := N) C hr hlk hE hφ hψ hmrArg hcrArg hmrFun hcrFun  q31.2 (hG.tr hg hX.1) (hX.tr q31.1) (lt_ext hv_s0 q31.1) (lv_sub hl [0] rfl) h hm
set_option maxHeartbeats 8000000 in
set_option maxRecDepth 100000 in
theorem kl_Rd_piece_149 {r : Sh × St × Int} (C : Cx p s m args c cX6_piece RX6 (cd :: cWd) D (TYs k) 3) (hr : meth.sig.returnType = (some (.object "CycleStudio$Piece"))) (hlk : meth.locks = false) (hE : Ev z mi aK aV A s s.heap) {rArg : Sh → St → Option (Sh × St × Int)} {rFun : Sh → St → Option (Sh × St × Int)} (hφ : 260 ≤ φ) (hψ : 12000 ≤ ψ) (hmrArg : ∀ {π : Sh} {σ : St}  {r : Sh × St × Int}, Cl π σ → rArg π σ  = some r → ext π r.1 ∧ Cl r.1 r.2.1) (hcrArg : ∀ {g : Nat → Nat} {π : Sh} {σ : St}  {r : Sh × St × Int}, Cl π σ → rArg π σ  = some r → Mi l yX6_arg (.code yX6_arg cX6_arg 3 (some .int) :: cWd) { frames := φ, cells := nn r.1 - nn π, slots := sw r.1 - sw π, locals := ψ } [rfv g 44] D (TYs k) (cW k z g π σ) (XV z mi aK aV (cW k z g π σ)) (Nat → Nat) (fun v u => gx (nn π) g u ∧ v = Int32.ofInt r.2.2) (fun u => cW k z u r.1 r.2.1) (nn r.1 - nn π) (sw r.1 - sw π)) (hmrFun : ∀ {π : Sh} {σ : St}  {r : Sh × St × Int}, Cl π σ → rFun π σ  = some r → ext π r.1 ∧ Cl r.1 r.2.1 ∧ r.2.2 < nn r.1) (hcrFun : ∀ {g : Nat → Nat} {π : Sh} {σ : St}  {r : Sh × St × Int}, Cl π σ → rFun π σ  = some r → Mq l yX6_fun (.code yX6_fun cX6_fun 5 (some (.object "CycleStudio$Piece")) :: cWd) { frames := φ, cells := nn r.1 - nn π, slots := sw r.1 - sw π, locals := ψ } [rfv g 44] D (TYs k) (cW k z g π σ) (XV z mi aK aV (cW k z g π σ)) (Nat → Nat) (fun v u => gx (nn π) g u ∧ v = rfo u r.2.2) (fun u => cW k z u r.1 r.2.1) (nn r.1 - nn π) (sw r.1 - sw π))  {ls : Array Slot} {H : Heap} {locs : List Loc} {g : Nat → Nat} {π : Sh} {σ : St} {x2 : Int} {s0 : Int} {s1 : Int} (hC : Cl π σ) (hG : gx (nn π0) g0 g) (hX : ext π0 π) (hv_x2 : x2 < nn π) (hv_s1 : s1 < nn π) (hl : lv_has ls 3 [(2, rfv g x2)]) (h : Hp D A s.heap H locs (cW k z g π σ)) (hm : Rd_piece_149 N rArg rFun π σ x2 s0 s1 = some r) : W p l e { frames := φ + 3, cells := nn r.1 - nn π0, slots := sw r.1 - sw π0, locals := ψ + 72 } s m args below meth c H locs (nn π - nn π0) (sw π - sw π0) (MQ below (va_Qq (fun v u => gx (nn π0) g0 u ∧ v = rfo u r.2.2) (fun u t => PostW D (TYs k) A (cW k z u r.1 r.2.1) t) A) args s (nn r.1 - nn π0) (sw r.1 - sw π0) A) (F0 m 149 ls [.int (Int32.ofInt s0), rfv g s1]) := by
  have hS := hC.1
  have hq := km_Rd_piece_149 hmrArg hmrFun   hC hv_x2 hv_s1 hm
  rw [Rd_piece_149] at hm
  obtain ⟨r50, e51, hm⟩ := obd_s hm
  have q52 := (km_Pc_give hC hv_s1 e51)
  obtain ⟨g53, hm⟩ := grd_s hm
  refine c_callVvP C hE h g53 rfl (by decide) (kc_Pc_give l D k z mi aK aV g N hS e51) (cwV 1 C.2.2.1 (gS_X6_216 _) rfl rfl rfl hd_X5_give ⟨(by show 0 + 1 ≤ φ + 3; omega), (by show 8 + (2 + 11) + 0 ≤ ψ + 72; omega)⟩) rfl hl.1 rfl (Nat.le_of_ble_eq_true rfl) dX6_piece_149 ⟨(czz hX hq.1), (szz hX hq.1)⟩ (fun H locs h => ?_)
  have hC54 : Cl π r50 := q52
  refine z_aload_n C dX6_piece_152 rfl (lv_at hl 0 rfl) ?_
  cases hm
  exact c_aretA C hG h hr hlk (Or.inl ⟨_, rfl⟩) dX6_piece_153
set_option maxHeartbeats 8000000 in
set_option maxRecDepth 100000 in
theorem kl_Rd_piece_125 {r : Sh × St × Int} (C : Cx p s m args c cX6_piece RX6 (cd :: cWd) D (TYs k) 3) (hr : meth.sig.returnType = (some (.object "CycleStudio$Piece"))) (hlk : meth.locks = false) (hE : Ev z mi aK aV A s s.heap) {rArg : Sh → St → Option (Sh × St × Int)} {rFun : Sh → St → Option (Sh × St × Int)} (hφ : 260 ≤ φ) (hψ : 12000 ≤ ψ) (hmrArg : ∀ {π : Sh} {σ : St}  {r : Sh × St × Int}, Cl π σ → rArg π σ  = some r → ext π r.1 ∧ Cl r.1 r.2.1) (hcrArg : ∀ {g : Nat → Nat} {π : Sh} {σ : St}  {r : Sh × St × Int}, Cl π σ → rArg π σ  = some r → Mi l yX6_arg (.code yX6_arg cX6_arg 3 (some .int) :: cWd) { frames := φ, cells := nn r.1 - nn π, slots := sw r.1 - sw π, locals := ψ } [rfv g 44] D (TYs k) (cW k z g π σ) (XV z mi aK aV (cW k z g π σ)) (Nat → Nat) (fun v u => gx (nn π) g u ∧ v = Int32.ofInt r.2.2) (fun u => cW k z u r.1 r.2.1) (nn r.1 - nn π) (sw r.1 - sw π)) (hmrFun : ∀ {π : Sh} {σ : St}  {r : Sh × St × Int}, Cl π σ → rFun π σ  = some r → ext π r.1 ∧ Cl r.1 r.2.1 ∧ r.2.2 < nn r.1) (hcrFun : ∀ {g : Nat → Nat} {π : Sh} {σ : St}  {r : Sh × St × Int}, Cl π σ → rFun π σ  = some r → Mq l yX6_fun (.code yX6_fun cX6_fun 5 (some (.object "CycleStudio$Piece")) :: cWd) { frames := φ, cells := nn r.1 - nn π, slots := sw r.1 - sw π, locals := ψ } [rfv g 44] D (TYs k) (cW k z g π σ) (XV z mi aK aV (cW k z g π σ)) (Nat → Nat) (fun v u => gx (nn π) g u ∧ v = rfo u r.2.2) (fun u => cW k z u r.1 r.2.1) (nn r.1 - nn π) (sw r.1 - sw π))  {ls : Array Slot} {H : Heap} {locs : List Loc} {g : Nat → Nat} {π : Sh} {σ : St} {s0 : Int} (hC : Cl π σ) (hG : gx (nn π0) g0 g) (hX : ext π0 π) (hv_s0 : s0 < nn π) (hl : lv_has ls 3 [(0, rfv g 44)]) (h : Hp D A s.heap H locs (cW k z g π σ)) (hm : Rd_piece_125 N rArg rFun π σ s0 = some r) : W p l e { frames := φ + 3, cells := nn r.1 - nn π0, slots := sw r.1 - sw π0, locals := ψ + 72 } s m args below meth c H locs (nn π - nn π0) (sw π - sw π0) (MQ below (va_Qq (fun v u => gx (nn π0) g0 u ∧ v = rfo u r.2.2) (fun u t => PostW D (TYs k) A (cW k z u r.1 r.2.1) t) A) args s (nn r.1 - nn π0) (sw r.1 - sw π0) A) (F0 m 125 ls [rfv g s0]) := by
  have hS := hC.1
  have hq := km_Rd_piece_125 hmrArg hmrFun   hC hv_s0 hm
  rw [Rd_piece_125] at hm
  refine z_astore_n (lv' := [(2, rfv g s0), (0, rfv g 44)]) C dX6_piece_125 rfl hl (by decide) rfl (fun ls hl => ?_)
  refine z_aload_n C dX6_piece_126 rfl (lv_at hl 0 rfl) ?_
  refine z_aload_n C dX6_piece_127 rfl (lv_at hl 1 rfl) ?_
  refine cg_7_0 C h (sh_44 hS) cU_X6 (List.mem_cons_of_mem _ wl_X6_31) dX6_piece_128 ?_
  refine cg_9_5 C h (sh_1 hS) cU_X8 (List.mem_cons_of_mem _ wl_X6_66) dX6_piece_131 ?_
  obtain ⟨g36, hm⟩ := grd_s hm
  refine cp_6_2 C h g36 cU_X5 (List.mem_cons_of_mem _ wl_X6_244) dX6_piece_134 (fun H locs h => ?_)
  refine z_aload_n C dX6_piece_137 rfl (lv_at hl 1 rfl) ?_
  refine cg_7_0 C h (sh_44 hS) cU_X6 (List.mem_cons_of_mem _ wl_X6_31) dX6_piece_138 ?_
  obtain ⟨σ37, e38, hm⟩ := bnd_s hm
  rw [e38] at h
  have hC39 : Cl π σ37 := e38 ▸ (cl_sfI hC (f := 122) rfl _ _)
  obtain ⟨r40, e41, hm⟩ := obd_s hm
  have q42 := (km_Sc_advance hC39 e41)
  refine c_callVvP C hE h (sh_1 hS) rfl (by decide) (kc_Sc_advance l D k z mi aK aV g N hS e41) (cwV 0 C.2.2.1 (gS_X6_88 _) rfl rfl rfl hd_X8_advance ⟨(by show 3 + 1 ≤ φ + 3; omega), (by show 8 + (2 + 11) + 67 ≤ ψ + 72; omega)⟩) rfl hl.1 rfl (Nat.le_of_ble_eq_true rfl) dX6_piece_141 ⟨(czz hX hq.1), (szz hX hq.1)⟩ (fun H locs h => ?_)
  have hC43 : Cl π r40 := q42
  refine z_aload_n C dX6_piece_144 rfl (lv_at hl 0 rfl) ?_
  refine z_aload_n C dX6_piece_145 rfl (lv_at hl 1 rfl) ?_
  obtain ⟨r44, e45, hm⟩ := obd_s hm
  have q46 := (hmrArg hC43 e45)
  have q := km_Rd_piece_149 hmrArg hmrFun  q46.2 (lt_ext hv_s0 q46.1) (lt_ext hv_s0 q46.1) hm
  refine c_callViA C hE h (sh_44 hS) rfl (by decide) (hcrArg hC43 e45) (cwV 0 C.2.2.1 (gS_X6_162 _) rfl rfl rfl hd_X6_arg ⟨(by show φ + 1 ≤ φ + 3; omega), (by show 8 + (3 + 11) + ψ ≤ ψ + 72; omega)⟩) rfl hl.1 rfl (by simp [rfv_cat, cat_i, cat_l]) dX6_piece_146 ⟨rcC hX q46.1 q.1, rsC hX q46.1 q.1⟩ (fun u H locs hg h => ?_)
  simp only [← gx_rfv hg hv_s0, ← gx_rfv hg (sh_44 hS).2.1] at hl
  try simp only [← gx_rfv hg hv_s0, ← gx_rfv hg (sh_44 hS).2.1]
  refine W_cast (wcC hX q46.1).symm (wsC hX q46.1).symm ?_
  exact kl_Rd_piece_149 (N := N) C hr hlk hE hφ hψ hmrArg hcrArg hmrFun hcrFun  q46.2 (hG.tr hg hX.1) (hX.tr q46.1) (lt_ext hv_s0 q46.1) (lt_ext hv_s0 q46.1) (lv_sub hl [0] rfl) h hm
set_option maxHeartbeats 8000000 in
set_option maxRecDepth 100000 in
theorem kl_Rd_piece_118 {r : Sh × St × Int} (C : Cx p s m args c cX6_piece RX6 (cd :: cWd) D (TYs k) 3) (hr : meth.sig.returnType = (some (.object "CycleStudio$Piece"))) (hlk : meth.locks = false) (hE : Ev z mi aK aV A s s.heap) {rArg : Sh → St → Option (Sh × St × Int)} {rFun : Sh → St → Option (Sh × St × Int)} (hφ : 260 ≤ φ) (hψ : 12000 ≤ ψ) (hmrArg : ∀ {π : Sh} {σ : St}  {r : Sh × St × Int}, Cl π σ → rArg π σ  = some r → ext π r.1 ∧ Cl r.1 r.2.1) (hcrArg : ∀ {g : Nat → Nat} {π : Sh} {σ : St}  {r : Sh × St × Int}, Cl π σ → rArg π σ  = some r → Mi l yX6_arg (.code yX6_arg cX6_arg 3 (some .int) :: cWd) { frames := φ, cells := nn r.1 - nn π, slots := sw r.1 - sw π, locals := ψ } [rfv g 44] D (TYs k) (cW k z g π σ) (XV z mi aK aV (cW k z g π σ)) (Nat → Nat) (fun v u => gx (nn π) g u ∧ v = Int32.ofInt r.2.2) (fun u => cW k z u r.1 r.2.1) (nn r.1 - nn π) (sw r.1 - sw π)) (hmrFun : ∀ {π : Sh} {σ : St}  {r : Sh × St × Int}, Cl π σ → rFun π σ  = some r → ext π r.1 ∧ Cl r.1 r.2.1 ∧ r.2.2 < nn r.1) (hcrFun : ∀ {g : Nat → Nat} {π : Sh} {σ : St}  {r : Sh × St × Int}, Cl π σ → rFun π σ  = some r → Mq l yX6_fun (.code yX6_fun cX6_fun 5 (some (.object "CycleStudio$Piece")) :: cWd) { frames := φ, cells := nn r.1 - nn π, slots := sw r.1 - sw π, locals := ψ } [rfv g 44] D (TYs k) (cW k z g π σ) (XV z mi aK aV (cW k z g π σ)) (Nat → Nat) (fun v u => gx (nn π) g u ∧ v = rfo u r.2.2) (fun u => cW k z u r.1 r.2.1) (nn r.1 - nn π) (sw r.1 - sw π))  {ls : Array Slot} {H : Heap} {locs : List Loc} {g : Nat → Nat} {π : Sh} {σ : St} {x1 : Int} {s0 : Int} (hC : Cl π σ) (hG : gx (nn π0) g0 g) (hX : ext π0 π) (hv_s0 : s0 < nn π) (hl : lv_has ls 3 [(0, rfv g 44), (1, .int (Int32.ofInt x1))]) (h : Hp D A s.heap H locs (cW k z g π σ)) (hm : Rd_piece_118 N rArg rFun π σ x1 s0 = some r) : W p l e { frames := φ + 3, cells := nn r.1 - nn π0, slots := sw r.1 - sw π0, locals := ψ + 72 } s m args below meth c H locs (nn π - nn π0) (sw π - sw π0) (MQ below (va_Qq (fun v u => gx (nn π0) g0 u ∧ v = rfo u r.2.2) (fun u t => PostW D (TYs k) A (cW k z u r.1 r.2.1) t) A) args s (nn r.1 - nn π0) (sw r.1 - sw π0) A) (F0 m 118 ls [rfv g s0]) := by
  have hS := hC.1
  have hq := km_Rd_piece_118 hmrArg hmrFun   hC hv_s0 hm
  rw [Rd_piece_118] at hm
  refine lv_dup C.1 C.2.1 dX6_piece_118 (rfv_cat _ _) ?_
  refine lv_bipush (v := Int32.ofInt 21) C.1 C.2.1 dX6_piece_119 (by decide) ?_
  refine lv_iload_n C.1 C.2.1 dX6_piece_121 rfl (lv_at hl 1 rfl) ?_
  obtain ⟨r25, e26, hm⟩ := obd_s hm
  have q27 := (km_Pc_init hC hv_s0 e26)
  obtain ⟨g28, hm⟩ := grd_s hm
  have q := km_Rd_piece_125 hmrArg hmrFun  q27.2 (lt_ext hv_s0 q27.1) hm
  refine c_callIvA C hE h g28 (kc_Pc_init l D k z mi aK aV g N hC hv_s0 e26) (cwI 2 C.2.2.1 (gC_X5_init _) rfl rfl rfl (C.2.2.1 _ (List.mem_cons_of_mem _ wt_X5)) (C.2.2.1 _ (List.mem_cons_of_mem _ wm_X6_208)) (C.2.2.1 _ (List.mem_cons_of_mem _ wj_X5_init)) rfl hdS_X5_init ⟨(by show 1 + 1 ≤ φ + 3; omega), (by show 8 + (3 + 11) + 30 ≤ ψ + 72; omega)⟩) rfl hl.1 rfl (by simp [rfv_cat, cat_i, cat_l]) dX6_piece_122 ⟨rcC hX q27.1 q.1, rsC hX q27.1 q.1⟩ (fun u H locs hg h => ?_)
  simp only [← gx_rfv hg (sh_44 hS).2.1, ← gx_rfv hg hv_s0] at hl
  try simp only [← gx_rfv hg (sh_44 hS).2.1, ← gx_rfv hg hv_s0]
  refine W_cast (wcC hX q27.1).symm (wsC hX q27.1).symm ?_
  exact kl_Rd_piece_125 (N := N) C hr hlk hE hφ hψ hmrArg hcrArg hmrFun hcrFun  q27.2 (hG.tr hg hX.1) (hX.tr q27.1) (lt_ext hv_s0 q27.1) (lv_sub hl [0] rfl) h hm
set_option maxHeartbeats 8000000 in
set_option maxRecDepth 100000 in
theorem kc_Rd_piece (l : Launch) (D : va_G) (k : Nat → ClassId) (z mi : Nat) (aK aV : Nat → Nat) (g : Nat → Nat) (N : Nat) {φ ψ : Nat} {rArg : Sh → St → Option (Sh × St × Int)} {rFun : Sh → St → Option (Sh × St × Int)} (hφ : 260 ≤ φ) (hψ : 12000 ≤ ψ) (hmrArg : ∀ {π : Sh} {σ : St}  {r : Sh × St × Int}, Cl π σ → rArg π σ  = some r → ext π r.1 ∧ Cl r.1 r.2.1) (hcrArg : ∀ {g : Nat → Nat} {π : Sh} {σ : St}  {r : Sh × St × Int}, Cl π σ → rArg π σ  = some r → Mi l yX6_arg (.code yX6_arg cX6_arg 3 (some .int) :: cWd) { frames := φ, cells := nn r.1 - nn π, slots := sw r.1 - sw π, locals := ψ } [rfv g 44] D (TYs k) (cW k z g π σ) (XV z mi aK aV (cW k z g π σ)) (Nat → Nat) (fun v u => gx (nn π) g u ∧ v = Int32.ofInt r.2.2) (fun u => cW k z u r.1 r.2.1) (nn r.1 - nn π) (sw r.1 - sw π)) (hmrFun : ∀ {π : Sh} {σ : St}  {r : Sh × St × Int}, Cl π σ → rFun π σ  = some r → ext π r.1 ∧ Cl r.1 r.2.1 ∧ r.2.2 < nn r.1) (hcrFun : ∀ {g : Nat → Nat} {π : Sh} {σ : St}  {r : Sh × St × Int}, Cl π σ → rFun π σ  = some r → Mq l yX6_fun (.code yX6_fun cX6_fun 5 (some (.object "CycleStudio$Piece")) :: cWd) { frames := φ, cells := nn r.1 - nn π, slots := sw r.1 - sw π, locals := ψ } [rfv g 44] D (TYs k) (cW k z g π σ) (XV z mi aK aV (cW k z g π σ)) (Nat → Nat) (fun v u => gx (nn π) g u ∧ v = rfo u r.2.2) (fun u => cW k z u r.1 r.2.1) (nn r.1 - nn π) (sw r.1 - sw π)) {π : Sh} {σ : St}  {r : Sh × St × Int} (hC : Cl π σ)  (hm : Rd_piece N rArg rFun π σ  = some r) : Mq l yX6_piece (.code yX6_piece cX6_piece 3 (some (.object "CycleStudio$Piece")) :: cWd) { frames := φ + 3, cells := nn r.1 - nn π, slots := sw r.1 - sw π, locals := ψ + 72 } [rfv g 44] D (TYs k) (cW k z g π σ) (XV z mi aK aV (cW k z g π σ)) (Nat → Nat) (fun v u => gx (nn π) g u ∧ v = rfo u r.2.2) (fun u => cW k z u r.1 r.2.1) (nn r.1 - nn π) (sw r.1 - sw π) := by
  have hS := hC.1
  have hq := km_Rd_piece hmrArg hmrFun hC  hm
  intro sz
  refine v_met (cc := cX6_piece) (maxL := 3) (ret := (some (.object "CycleStudio$Piece"))) (lv := [(0, rfv g 44)]) (by decide) rfl (by simp [lg_sl, rfv_cat, cat_i, cat_l]) (by simp [lv_args, rfv_cat, cat_i, cat_l]) ?_
  intro p e s m below meth c ls C hE hr hlk hmn hl h
  generalize ([rfv g 44] : List Value).toArray = args at C ⊢
  have hG := gx.rf (nn π) g
  have hX := ext.rf π
  refine W_cast (Nat.sub_self (nn π)) (Nat.sub_self (sw π)) ?_
  rw [Rd_piece] at hm
  refine z_aload_n C dX6_piece_0 rfl (lv_at hl 0 rfl) ?_
  refine cg_7_0 C h (sh_44 hS) cU_X6 (List.mem_cons_of_mem _ wl_X6_31) dX6_piece_1 ?_
  refine cg_9_6 C h (sh_1 hS) cU_X8 (List.mem_cons_of_mem _ wl_X6_81) dX6_piece_4 ?_
  refine lv_istore_n (i := 1) (lv' := [(1, .int (Int32.ofInt (fl σ 186 1))), (0, rfv g 44)]) C.1 C.2.1 dX6_piece_7 rfl hl (by decide) (by simp [rfv_cat, cat_i, cat_l]) (fun ls hl => ?_)
  refine z_aload_n C dX6_piece_8 rfl (lv_at hl 1 rfl) ?_
  refine cg_7_0 C h (sh_44 hS) cU_X6 (List.mem_cons_of_mem _ wl_X6_31) dX6_piece_9 ?_
  refine cg_9_5 C h (sh_1 hS) cU_X8 (List.mem_cons_of_mem _ wl_X6_66) dX6_piece_12 ?_
  refine lv_iconst (v := Int32.ofInt 1) C.1 C.2.1 dX6_piece_15 (by decide) ?_
  obtain ⟨g1, hm⟩ := grd_s hm
  refine z_icmp_ne (tgt := 58) C dX6_piece_16 (by decide) g1 (by decide) (fun c2 => ?_) (fun c2 => ?_)
  · have hm := ite_f c2 hm
    refine z_aload_n C dX6_piece_58 rfl (lv_at hl 1 rfl) ?_
    refine cg_7_0 C h (sh_44 hS) cU_X6 (List.mem_cons_of_mem _ wl_X6_31) dX6_piece_59 ?_
    refine cg_9_5 C h (sh_1 hS) cU_X8 (List.mem_cons_of_mem _ wl_X6_66) dX6_piece_62 ?_
    refine lv_bipush (v := Int32.ofInt 40) C.1 C.2.1 dX6_piece_65 (by decide) ?_
    refine z_icmp_ne (tgt := 91) C dX6_piece_67 (by decide) g1 (by decide) (fun c3 => ?_) (fun c3 => ?_)
    · have hm := ite_f c3 hm
      refine z_aload_n C dX6_piece_91 rfl (lv_at hl 1 rfl) ?_
      refine cg_7_0 C h (sh_44 hS) cU_X6 (List.mem_cons_of_mem _ wl_X6_31) dX6_piece_92 ?_
      refine cg_9_5 C h (sh_1 hS) cU_X8 (List.mem_cons_of_mem _ wl_X6_66) dX6_piece_95 ?_
      obtain ⟨r4, e5, hm⟩ := obd_s hm
      refine v_callSi C h (kc_Sc_isOp l D k N (fl σ 185 1) r4 e5) (v_cwS 1 C.2.2.1 (gC_X8_isOp _) rfl rfl rfl (C.2.2.1 _ (List.mem_cons_of_mem _ wt_X8)) (C.2.2.1 _ (List.mem_cons_of_mem _ wm_X6_155)) (C.2.2.1 _ (List.mem_cons_of_mem _ ws_X8_isOp)) hdS_X8_isOp ⟨(by show 0 + 1 ≤ φ + 3; omega), (by show 8 + (1 + 11) + 0 ≤ ψ + 72; omega)⟩) rfl hl.1 rfl (Nat.le_of_ble_eq_true rfl) dX6_piece_98 ⟨(czz hX hq.1), (szz hX hq.1)⟩ (fun H locs h => ?_)
      obtain ⟨g6, hm⟩ := grd_s hm
      refine z_if_ne (tgt := 115) C dX6_piece_101 (by decide) g6 (fun c7 => ?_) (fun c7 => ?_)
      · have hm := ite_f c7 hm
        have q := km_Rd_piece_118 hmrArg hmrFun  ((cl_nO hC (by decide) (by decide) _)) lt_nO hm
        refine c_new C h hC (by decide) dX6_piece_115 rfl cU_X5 tyX5_ok (List.mem_cons_of_mem _ wn_X6_173) (List.mem_cons_of_mem _ wi_X5) (List.mem_cons_of_mem _ wt_X5) (df_X5) (dn_X5 z) (rc1 hX q.1) (rs1 hX q.1) (fun u H hg h => ?_)
        simp only [← gx_rfv hg (sh_44 hS).2.1] at hl
        try simp only [← gx_rfv hg (sh_44 hS).2.1]
        refine W_cast (wcO (c := 6) (w := 11) hX).symm (wsO (c := 6) (w := 11) hX).symm ?_
        exact kl_Rd_piece_118 (N := N) C hr hlk hE hφ hψ hmrArg hcrArg hmrFun hcrFun  ((cl_nO hC (by decide) (by decide) _)) (hG.tr hg hX.1) (hX.tr (ext_nO π 6 11)) lt_nO (lv_sub hl [1, 0] rfl) h hm
      · have hm := ite_t c7 hm
        refine z_aload_n C dX6_piece_104 rfl (lv_at hl 1 rfl) ?_
        refine cg_7_0 C h (sh_44 hS) cU_X6 (List.mem_cons_of_mem _ wl_X6_31) dX6_piece_105 ?_
        refine lv_iconst (v := Int32.ofInt 1) C.1 C.2.1 dX6_piece_108 (by decide) ?_
        refine lv_iload_n C.1 C.2.1 dX6_piece_109 rfl (lv_at hl 0 rfl) ?_
        obtain ⟨r9, e10, hm⟩ := obd_s hm
        have q11 := (km_Sc_fail hC e10)
        refine c_callVvP C hE h (sh_1 hS) rfl (by decide) (kc_Sc_fail l D k z mi aK aV g N hS e10) (cwV 2 C.2.2.1 (gS_X6_84 _) rfl rfl rfl hd_X8_fail ⟨(by show 0 + 1 ≤ φ + 3; omega), (by show 8 + (3 + 11) + 0 ≤ ψ + 72; omega)⟩) rfl hl.1 rfl (Nat.le_of_ble_eq_true rfl) dX6_piece_110 ⟨(czz hX hq.1), (szz hX hq.1)⟩ (fun H locs h => ?_)
        have hC12 : Cl π r9 := q11
        refine z_null (g := g) C dX6_piece_113 ?_
        cases hm
        exact c_aretA C hG h hr hlk (Or.inl ⟨_, rfl⟩) dX6_piece_114
    · have hm := ite_t c3 hm
      have q := km_Rd_piece_73 hmrArg hmrFun  ((cl_nO hC (by decide) (by decide) _)) lt_nO hm
      refine c_new C h hC (by decide) dX6_piece_70 rfl cU_X5 tyX5_ok (List.mem_cons_of_mem _ wn_X6_173) (List.mem_cons_of_mem _ wi_X5) (List.mem_cons_of_mem _ wt_X5) (df_X5) (dn_X5 z) (rc1 hX q.1) (rs1 hX q.1) (fun u H hg h => ?_)
      simp only [← gx_rfv hg (sh_44 hS).2.1] at hl
      try simp only [← gx_rfv hg (sh_44 hS).2.1]
      refine W_cast (wcO (c := 6) (w := 11) hX).symm (wsO (c := 6) (w := 11) hX).symm ?_
      exact kl_Rd_piece_73 (N := N) C hr hlk hE hφ hψ hmrArg hcrArg hmrFun hcrFun  ((cl_nO hC (by decide) (by decide) _)) (hG.tr hg hX.1) (hX.tr (ext_nO π 6 11)) lt_nO (lv_sub hl [1, 0] rfl) h hm
  · have hm := ite_t c2 hm
    refine z_aload_n C dX6_piece_19 rfl (lv_at hl 1 rfl) ?_
    refine z_aload_n C dX6_piece_20 rfl (lv_at hl 1 rfl) ?_
    refine cg_7_0 C h (sh_44 hS) cU_X6 (List.mem_cons_of_mem _ wl_X6_31) dX6_piece_21 ?_
    refine cg_9_8 C h (sh_1 hS) cU_X8 (List.mem_cons_of_mem _ wl_X6_91) dX6_piece_24 ?_
    obtain ⟨r14, e15, hm⟩ := obd_s hm
    have q16 := (km_Rd_kindOf hC e15)
    refine c_callViP C hE h (sh_44 hS) rfl (by decide) (kc_Rd_kindOf l D k z mi aK aV g N hS e15) (cwV 1 C.2.2.1 (gS_X6_165 _) rfl rfl rfl hd_X6_kindOf ⟨(by show 3 + 1 ≤ φ + 3; omega), (by show 8 + (4 + 11) + 81 ≤ ψ + 72; omega)⟩) rfl hl.1 rfl (Nat.le_of_ble_eq_true rfl) dX6_piece_27 ⟨(czz hX hq.1), (szz hX hq.1)⟩ (fun H locs h => ?_)
    have hC17 : Cl π r14.1 := q16
    refine lv_istore_n (lv' := [(2, .int (Int32.ofInt r14.2)), (1, .int (Int32.ofInt (fl σ 186 1))), (0, rfv g 44)]) C.1 C.2.1 dX6_piece_30 rfl hl (by decide) rfl (fun ls hl => ?_)
    refine lv_iload_n C.1 C.2.1 dX6_piece_31 rfl (lv_at hl 0 rfl) ?_
    refine lv_iconst (v := Int32.ofInt 2) C.1 C.2.1 dX6_piece_32 (by decide) ?_
    obtain ⟨g18, hm⟩ := grd_s hm
    refine z_icmp_eq (tgt := 41) C dX6_piece_33 (by decide) g18 (by decide) (fun c19 => ?_) (fun c19 => ?_)
    · have hm := ite_t c19 hm
      exact kl_Rd_piece_41 (N := N) C hr hlk hE hφ hψ hmrArg hcrArg hmrFun hcrFun hC17 hG hX (lv_sub hl [2, 0] rfl) h hm
    · have hm := ite_f c19 hm
      refine lv_iload_n C.1 C.2.1 dX6_piece_36 rfl (lv_at hl 0 rfl) ?_
      refine lv_iconst (v := Int32.ofInt 4) C.1 C.2.1 dX6_piece_37 (by decide) ?_
      refine z_icmp_ne (tgt := 47) C dX6_piece_38 (by decide) g18 (by decide) (fun c20 => ?_) (fun c20 => ?_)
      · have hm := ite_f c20 hm
        refine z_aload_n C dX6_piece_47 rfl (lv_at hl 2 rfl) ?_
        refine cg_7_0 C h (sh_44 hS) cU_X6 (List.mem_cons_of_mem _ wl_X6_31) dX6_piece_48 ?_
        refine lv_iconst (v := Int32.ofInt 2) C.1 C.2.1 dX6_piece_51 (by decide) ?_
        refine lv_iload_n C.1 C.2.1 dX6_piece_52 rfl (lv_at hl 1 rfl) ?_
        obtain ⟨r21, e22, hm⟩ := obd_s hm
        have q23 := (km_Sc_fail hC17 e22)
        refine c_callVvP C hE h (sh_1 hS) rfl (by decide) (kc_Sc_fail l D k z mi aK aV g N hS e22) (cwV 2 C.2.2.1 (gS_X6_84 _) rfl rfl rfl hd_X8_fail ⟨(by show 0 + 1 ≤ φ + 3; omega), (by show 8 + (3 + 11) + 0 ≤ ψ + 72; omega)⟩) rfl hl.1 rfl (Nat.le_of_ble_eq_true rfl) dX6_piece_53 ⟨(czz hX hq.1), (szz hX hq.1)⟩ (fun H locs h => ?_)
        have hC24 : Cl π r21 := q23
        refine z_null (g := g) C dX6_piece_56 ?_
        cases hm
        exact c_aretA C hG h hr hlk (Or.inl ⟨_, rfl⟩) dX6_piece_57
      · have hm := ite_t c20 hm
        exact kl_Rd_piece_41 (N := N) C hr hlk hE hφ hψ hmrArg hcrArg hmrFun hcrFun hC17 hG hX (lv_sub hl [2, 0] rfl) h hm
end Z_Rd_piece
section Z_Rd_fun
variable {p : Program} {l : Launch} {e : Env} {s : State} {m : MethodId} {args : Array Value} {below : List Frame} {meth : Method} {c : Code} {D : va_G} {A : Nat → Prop} {k : Nat → ClassId} {N : Nat} {cd : Cond} {z mi : Nat} {aK aV : Nat → Nat} {g0 : Nat → Nat} {π0 : Sh} {φ ψ : Nat}
set_option maxHeartbeats 8000000 in
set_option maxRecDepth 100000 in
theorem kl_Rd_fun_15 {r : Sh × St × Int} (C : Cx p s m args c cX6_fun RX6 (cd :: cWd) D (TYs k) 5) (hr : meth.sig.returnType = (some (.object "CycleStudio$Piece"))) (hlk : meth.locks = false) (hE : Ev z mi aK aV A s s.heap) {rArg : Sh → St → Option (Sh × St × Int)} {rFun : Sh → St → Option (Sh × St × Int)} (hφ : 260 ≤ φ) (hψ : 12000 ≤ ψ) (hmrArg : ∀ {π : Sh} {σ : St}  {r : Sh × St × Int}, Cl π σ → rArg π σ  = some r → ext π r.1 ∧ Cl r.1 r.2.1) (hcrArg : ∀ {g : Nat → Nat} {π : Sh} {σ : St}  {r : Sh × St × Int}, Cl π σ → rArg π σ  = some r → Mi l yX6_arg (.code yX6_arg cX6_arg 3 (some .int) :: cWd) { frames := φ, cells := nn r.1 - nn π, slots := sw r.1 - sw π, locals := ψ } [rfv g 44] D (TYs k) (cW k z g π σ) (XV z mi aK aV (cW k z g π σ)) (Nat → Nat) (fun v u => gx (nn π) g u ∧ v = Int32.ofInt r.2.2) (fun u => cW k z u r.1 r.2.1) (nn r.1 - nn π) (sw r.1 - sw π)) (hmrFun : ∀ {π : Sh} {σ : St}  {r : Sh × St × Int}, Cl π σ → rFun π σ  = some r → ext π r.1 ∧ Cl r.1 r.2.1 ∧ r.2.2 < nn r.1) (hcrFun : ∀ {g : Nat → Nat} {π : Sh} {σ : St}  {r : Sh × St × Int}, Cl π σ → rFun π σ  = some r → Mq l yX6_fun (.code yX6_fun cX6_fun 5 (some (.object "CycleStudio$Piece")) :: cWd) { frames := φ, cells := nn r.1 - nn π, slots := sw r.1 - sw π, locals := ψ } [rfv g 44] D (TYs k) (cW k z g π σ) (XV z mi aK aV (cW k z g π σ)) (Nat → Nat) (fun v u => gx (nn π) g u ∧ v = rfo u r.2.2) (fun u => cW k z u r.1 r.2.1) (nn r.1 - nn π) (sw r.1 - sw π))  {ls : Array Slot} {H : Heap} {locs : List Loc} {g : Nat → Nat} {π : Sh} {σ : St} {s0 : Int} (hC : Cl π σ) (hG : gx (nn π0) g0 g) (hX : ext π0 π) (hv_s0 : s0 < nn π) (hl : lv_has ls 5 []) (h : Hp D A s.heap H locs (cW k z g π σ)) (hm : Rd_fun_15 N rArg rFun π σ s0 = some r) : W p l e { frames := φ + 12, cells := nn r.1 - nn π0, slots := sw r.1 - sw π0, locals := ψ + 700 } s m args below meth c H locs (nn π - nn π0) (sw π - sw π0) (MQ below (va_Qq (fun v u => gx (nn π0) g0 u ∧ v = rfo u r.2.2) (fun u t => PostW D (TYs k) A (cW k z u r.1 r.2.1) t) A) args s (nn r.1 - nn π0) (sw r.1 - sw π0) A) (F0 m 15 ls [rfv g s0]) := by
  have hS := hC.1
  have hq := km_Rd_fun_15 hmrArg hmrFun   hC hv_s0 hm
  rw [Rd_fun_15] at hm
  cases hm
  exact c_aretA C hG h hr hlk (Or.inl ⟨_, rfl⟩) dX6_fun_15
set_option maxHeartbeats 8000000 in
set_option maxRecDepth 100000 in
theorem kl_Rd_fun_135 {r : Sh × St × Int} (C : Cx p s m args c cX6_fun RX6 (cd :: cWd) D (TYs k) 5) (hr : meth.sig.returnType = (some (.object "CycleStudio$Piece"))) (hlk : meth.locks = false) (hE : Ev z mi aK aV A s s.heap) {rArg : Sh → St → Option (Sh × St × Int)} {rFun : Sh → St → Option (Sh × St × Int)} (hφ : 260 ≤ φ) (hψ : 12000 ≤ ψ) (hmrArg : ∀ {π : Sh} {σ : St}  {r : Sh × St × Int}, Cl π σ → rArg π σ  = some r → ext π r.1 ∧ Cl r.1 r.2.1) (hcrArg : ∀ {g : Nat → Nat} {π : Sh} {σ : St}  {r : Sh × St × Int}, Cl π σ → rArg π σ  = some r → Mi l yX6_arg (.code yX6_arg cX6_arg 3 (some .int) :: cWd) { frames := φ, cells := nn r.1 - nn π, slots := sw r.1 - sw π, locals := ψ } [rfv g 44] D (TYs k) (cW k z g π σ) (XV z mi aK aV (cW k z g π σ)) (Nat → Nat) (fun v u => gx (nn π) g u ∧ v = Int32.ofInt r.2.2) (fun u => cW k z u r.1 r.2.1) (nn r.1 - nn π) (sw r.1 - sw π)) (hmrFun : ∀ {π : Sh} {σ : St}  {r : Sh × St × Int}, Cl π σ → rFun π σ  = some r → ext π r.1 ∧ Cl r.1 r.2.1 ∧ r.2.2 < nn r.1) (hcrFun : ∀ {g : Nat → Nat} {π : Sh} {σ : St}  {r : Sh × St × Int}, Cl π σ → rFun π σ  = some r → Mq l yX6_fun (.code yX6_fun cX6_fun 5 (some (.object "CycleStudio$Piece")) :: cWd) { frames := φ, cells := nn r.1 - nn π, slots := sw r.1 - sw π, locals := ψ } [rfv g 44] D (TYs k) (cW k z g π σ) (XV z mi aK aV (cW k z g π σ)) (Nat → Nat) (fun v u => gx (nn π) g u ∧ v = rfo u r.2.2) (fun u => cW k z u r.1 r.2.1) (nn r.1 - nn π) (sw r.1 - sw π)) {rec70 : Sh → St → Int → Int → Int → Option (Sh × St × Int)} (krec70 : ∀ {π : Sh} {σ : St} {x1 : Int} {x2 : Int} {x3 : Int}, Cl π σ → x1 < nn π → rec70 π σ x1 x2 x3 = some r → ext π r.1 ∧ Cl r.1 r.2.1 ∧ r.2.2 < nn r.1) (hrec70 : ∀ {ls : Array Slot} {H : Heap} {locs : List Loc} {g : Nat → Nat} {π : Sh} {σ : St} {x1 : Int} {x2 : Int} {x3 : Int}, Cl π σ → gx (nn π0) g0 g → ext π0 π → x1 < nn π → lv_has ls 5 [(0, rfv g 44), (1, rfv g x1), (2, .int (Int32.ofInt x2)), (3, .int (Int32.ofInt x3))] → Hp D A s.heap H locs (cW k z g π σ) → rec70 π σ x1 x2 x3 = some r → W p l e { frames := φ + 12, cells := nn r.1 - nn π0, slots := sw r.1 - sw π0, locals := ψ + 700 } s m args below meth c H locs (nn π - nn π0) (sw π - sw π0) (MQ below (va_Qq (fun v u => gx (nn π0) g0 u ∧ v = rfo u r.2.2) (fun u t => PostW D (TYs k) A (cW k z u r.1 r.2.1) t) A) args s (nn r.1 - nn π0) (sw r.1 - sw π0) A) (F0 m 70 ls [])) {ls : Array Slot} {H : Heap} {locs : List Loc} {g : Nat → Nat} {π : Sh} {σ : St} {x1 : Int} {x3 : Int} {s0 : Int} (hC : Cl π σ) (hG : gx (nn π0) g0 g) (hX : ext π0 π) (hv_x1 : x1 < nn π) (hl : lv_has ls 5 [(0, rfv g 44), (1, rfv g x1), (3, .int (Int32.ofInt x3))]) (h : Hp D A s.heap H locs (cW k z g π σ)) (hm : Rd_fun_135 N rArg rFun rec70 π σ x1 x3 s0 = some r) : W p l e { frames := φ + 12, cells := nn r.1 - nn π0, slots := sw r.1 - sw π0, locals := ψ + 700 } s m args below meth c H locs (nn π - nn π0) (sw π - sw π0) (MQ below (va_Qq (fun v u => gx (nn π0) g0 u ∧ v = rfo u r.2.2) (fun u t => PostW D (TYs k) A (cW k z u r.1 r.2.1) t) A) args s (nn r.1 - nn π0) (sw r.1 - sw π0) A) (F0 m 135 ls [.int (Int32.ofInt s0)]) := by
  have hS := hC.1
  have hq := km_Rd_fun_135 hmrArg hmrFun krec70  hC hv_x1 hm
  rw [Rd_fun_135] at hm
  refine lv_istore_n (i := 2) (lv' := [(2, .int (Int32.ofInt s0)), (0, rfv g 44), (1, rfv g x1), (3, .int (Int32.ofInt x3))]) C.1 C.2.1 dX6_fun_135 rfl hl (by decide) (by simp [rfv_cat, cat_i, cat_l]) (fun ls hl => ?_)
  refine lv_iinc (v := Int32.ofInt (x3 + 1)) (lv' := [(3, .int (Int32.ofInt (x3 + 1))), (2, .int (Int32.ofInt s0)), (0, rfv g 44), (1, rfv g x1)]) C.1 C.2.1 dX6_fun_136 hl (k := 3) rfl (c32_add _ _) (by decide) rfl (fun ls hl => ?_)
  refine lv_goto (tgt := 70) C.1 C.2.1 dX6_fun_139 (by decide) ?_
  exact hrec70 hC hG hX hv_x1 (lv_sub hl [2, 3, 1, 0] rfl) h hm
set_option maxHeartbeats 8000000 in
set_option maxRecDepth 100000 in
theorem kl_Rd_fun_118 {r : Sh × St × Int} (C : Cx p s m args c cX6_fun RX6 (cd :: cWd) D (TYs k) 5) (hr : meth.sig.returnType = (some (.object "CycleStudio$Piece"))) (hlk : meth.locks = false) (hE : Ev z mi aK aV A s s.heap) {rArg : Sh → St → Option (Sh × St × Int)} {rFun : Sh → St → Option (Sh × St × Int)} (hφ : 260 ≤ φ) (hψ : 12000 ≤ ψ) (hmrArg : ∀ {π : Sh} {σ : St}  {r : Sh × St × Int}, Cl π σ → rArg π σ  = some r → ext π r.1 ∧ Cl r.1 r.2.1) (hcrArg : ∀ {g : Nat → Nat} {π : Sh} {σ : St}  {r : Sh × St × Int}, Cl π σ → rArg π σ  = some r → Mi l yX6_arg (.code yX6_arg cX6_arg 3 (some .int) :: cWd) { frames := φ, cells := nn r.1 - nn π, slots := sw r.1 - sw π, locals := ψ } [rfv g 44] D (TYs k) (cW k z g π σ) (XV z mi aK aV (cW k z g π σ)) (Nat → Nat) (fun v u => gx (nn π) g u ∧ v = Int32.ofInt r.2.2) (fun u => cW k z u r.1 r.2.1) (nn r.1 - nn π) (sw r.1 - sw π)) (hmrFun : ∀ {π : Sh} {σ : St}  {r : Sh × St × Int}, Cl π σ → rFun π σ  = some r → ext π r.1 ∧ Cl r.1 r.2.1 ∧ r.2.2 < nn r.1) (hcrFun : ∀ {g : Nat → Nat} {π : Sh} {σ : St}  {r : Sh × St × Int}, Cl π σ → rFun π σ  = some r → Mq l yX6_fun (.code yX6_fun cX6_fun 5 (some (.object "CycleStudio$Piece")) :: cWd) { frames := φ, cells := nn r.1 - nn π, slots := sw r.1 - sw π, locals := ψ } [rfv g 44] D (TYs k) (cW k z g π σ) (XV z mi aK aV (cW k z g π σ)) (Nat → Nat) (fun v u => gx (nn π) g u ∧ v = rfo u r.2.2) (fun u => cW k z u r.1 r.2.1) (nn r.1 - nn π) (sw r.1 - sw π)) {rec70 : Sh → St → Int → Int → Int → Option (Sh × St × Int)} (krec70 : ∀ {π : Sh} {σ : St} {x1 : Int} {x2 : Int} {x3 : Int}, Cl π σ → x1 < nn π → rec70 π σ x1 x2 x3 = some r → ext π r.1 ∧ Cl r.1 r.2.1 ∧ r.2.2 < nn r.1) (hrec70 : ∀ {ls : Array Slot} {H : Heap} {locs : List Loc} {g : Nat → Nat} {π : Sh} {σ : St} {x1 : Int} {x2 : Int} {x3 : Int}, Cl π σ → gx (nn π0) g0 g → ext π0 π → x1 < nn π → lv_has ls 5 [(0, rfv g 44), (1, rfv g x1), (2, .int (Int32.ofInt x2)), (3, .int (Int32.ofInt x3))] → Hp D A s.heap H locs (cW k z g π σ) → rec70 π σ x1 x2 x3 = some r → W p l e { frames := φ + 12, cells := nn r.1 - nn π0, slots := sw r.1 - sw π0, locals := ψ + 700 } s m args below meth c H locs (nn π - nn π0) (sw π - sw π0) (MQ below (va_Qq (fun v u => gx (nn π0) g0 u ∧ v = rfo u r.2.2) (fun u t => PostW D (TYs k) A (cW k z u r.1 r.2.1) t) A) args s (nn r.1 - nn π0) (sw r.1 - sw π0) A) (F0 m 70 ls [])) {ls : Array Slot} {H : Heap} {locs : List Loc} {g : Nat → Nat} {π : Sh} {σ : St} {x1 : Int} {x3 : Int} (hC : Cl π σ) (hG : gx (nn π0) g0 g) (hX : ext π0 π) (hv_x1 : x1 < nn π) (hl : lv_has ls 5 [(0, rfv g 44), (1, rfv g x1), (3, .int (Int32.ofInt x3))]) (h : Hp D A s.heap H locs (cW k z g π σ)) (hm : Rd_fun_118 N rArg rFun rec70 π σ x1 x3 = some r) : W p l e { frames := φ + 12, cells := nn r.1 - nn π0, slots := sw r.1 - sw π0, locals := ψ + 700 } s m args below meth c H locs (nn π - nn π0) (sw π - sw π0) (MQ below (va_Qq (fun v u => gx (nn π0) g0 u ∧ v = rfo u r.2.2) (fun u t => PostW D (TYs k) A (cW k z u r.1 r.2.1) t) A) args s (nn r.1 - nn π0) (sw r.1 - sw π0) A) (F0 m 118 ls []) := by
  have hS := hC.1
  have hq := km_Rd_fun_118 hmrArg hmrFun krec70  hC hv_x1 hm
  rw [Rd_fun_118] at hm
  refine z_aload_n C dX6_fun_118 rfl (lv_at hl 0 rfl) ?_
  refine cg_7_0 C h (sh_44 hS) cU_X6 (List.mem_cons_of_mem _ wl_X6_31) dX6_fun_119 ?_
  refine cg_9_5 C h (sh_1 hS) cU_X8 (List.mem_cons_of_mem _ wl_X6_66) dX6_fun_122 ?_
  refine lv_bipush (v := Int32.ofInt 46) C.1 C.2.1 dX6_fun_125 (by decide) ?_
  obtain ⟨g36, hm⟩ := grd_s hm
  refine z_icmp_ne (tgt := 134) C dX6_fun_127 (by decide) g36 (by decide) (fun c37 => ?_) (fun c37 => ?_)
  · have hm := ite_f c37 hm
    refine lv_iconst (v := Int32.ofInt 0) C.1 C.2.1 dX6_fun_134 (by decide) ?_
    exact kl_Rd_fun_135 (N := N) C hr hlk hE hφ hψ hmrArg hcrArg hmrFun hcrFun krec70 hrec70 hC hG hX hv_x1 (lv_sub hl [0, 1, 2] rfl) h hm
  · have hm := ite_t c37 hm
    refine lv_iconst (v := Int32.ofInt 1) C.1 C.2.1 dX6_fun_130 (by decide) ?_
    refine lv_goto (tgt := 135) C.1 C.2.1 dX6_fun_131 (by decide) ?_
    exact kl_Rd_fun_135 (N := N) C hr hlk hE hφ hψ hmrArg hcrArg hmrFun hcrFun krec70 hrec70 hC hG hX hv_x1 (lv_sub hl [0, 1, 2] rfl) h hm
set_option maxHeartbeats 8000000 in
set_option maxRecDepth 100000 in
theorem kl_Rd_fun_102 {r : Sh × St × Int} (C : Cx p s m args c cX6_fun RX6 (cd :: cWd) D (TYs k) 5) (hr : meth.sig.returnType = (some (.object "CycleStudio$Piece"))) (hlk : meth.locks = false) (hE : Ev z mi aK aV A s s.heap) {rArg : Sh → St → Option (Sh × St × Int)} {rFun : Sh → St → Option (Sh × St × Int)} (hφ : 260 ≤ φ) (hψ : 12000 ≤ ψ) (hmrArg : ∀ {π : Sh} {σ : St}  {r : Sh × St × Int}, Cl π σ → rArg π σ  = some r → ext π r.1 ∧ Cl r.1 r.2.1) (hcrArg : ∀ {g : Nat → Nat} {π : Sh} {σ : St}  {r : Sh × St × Int}, Cl π σ → rArg π σ  = some r → Mi l yX6_arg (.code yX6_arg cX6_arg 3 (some .int) :: cWd) { frames := φ, cells := nn r.1 - nn π, slots := sw r.1 - sw π, locals := ψ } [rfv g 44] D (TYs k) (cW k z g π σ) (XV z mi aK aV (cW k z g π σ)) (Nat → Nat) (fun v u => gx (nn π) g u ∧ v = Int32.ofInt r.2.2) (fun u => cW k z u r.1 r.2.1) (nn r.1 - nn π) (sw r.1 - sw π)) (hmrFun : ∀ {π : Sh} {σ : St}  {r : Sh × St × Int}, Cl π σ → rFun π σ  = some r → ext π r.1 ∧ Cl r.1 r.2.1 ∧ r.2.2 < nn r.1) (hcrFun : ∀ {g : Nat → Nat} {π : Sh} {σ : St}  {r : Sh × St × Int}, Cl π σ → rFun π σ  = some r → Mq l yX6_fun (.code yX6_fun cX6_fun 5 (some (.object "CycleStudio$Piece")) :: cWd) { frames := φ, cells := nn r.1 - nn π, slots := sw r.1 - sw π, locals := ψ } [rfv g 44] D (TYs k) (cW k z g π σ) (XV z mi aK aV (cW k z g π σ)) (Nat → Nat) (fun v u => gx (nn π) g u ∧ v = rfo u r.2.2) (fun u => cW k z u r.1 r.2.1) (nn r.1 - nn π) (sw r.1 - sw π)) {rec70 : Sh → St → Int → Int → Int → Option (Sh × St × Int)} (krec70 : ∀ {π : Sh} {σ : St} {x1 : Int} {x2 : Int} {x3 : Int}, Cl π σ → x1 < nn π → rec70 π σ x1 x2 x3 = some r → ext π r.1 ∧ Cl r.1 r.2.1 ∧ r.2.2 < nn r.1) (hrec70 : ∀ {ls : Array Slot} {H : Heap} {locs : List Loc} {g : Nat → Nat} {π : Sh} {σ : St} {x1 : Int} {x2 : Int} {x3 : Int}, Cl π σ → gx (nn π0) g0 g → ext π0 π → x1 < nn π → lv_has ls 5 [(0, rfv g 44), (1, rfv g x1), (2, .int (Int32.ofInt x2)), (3, .int (Int32.ofInt x3))] → Hp D A s.heap H locs (cW k z g π σ) → rec70 π σ x1 x2 x3 = some r → W p l e { frames := φ + 12, cells := nn r.1 - nn π0, slots := sw r.1 - sw π0, locals := ψ + 700 } s m args below meth c H locs (nn π - nn π0) (sw π - sw π0) (MQ below (va_Qq (fun v u => gx (nn π0) g0 u ∧ v = rfo u r.2.2) (fun u t => PostW D (TYs k) A (cW k z u r.1 r.2.1) t) A) args s (nn r.1 - nn π0) (sw r.1 - sw π0) A) (F0 m 70 ls [])) {ls : Array Slot} {H : Heap} {locs : List Loc} {g : Nat → Nat} {π : Sh} {σ : St} {x1 : Int} {x3 : Int} {s0 : Int} (hC : Cl π σ) (hG : gx (nn π0) g0 g) (hX : ext π0 π) (hv_x1 : x1 < nn π) (hv_s0 : s0 < nn π) (hl : lv_has ls 5 [(0, rfv g 44), (1, rfv g x1), (3, .int (Int32.ofInt x3))]) (h : Hp D A s.heap H locs (cW k z g π σ)) (hm : Rd_fun_102 N rArg rFun rec70 π σ x1 x3 s0 = some r) : W p l e { frames := φ + 12, cells := nn r.1 - nn π0, slots := sw r.1 - sw π0, locals := ψ + 700 } s m args below meth c H locs (nn π - nn π0) (sw π - sw π0) (MQ below (va_Qq (fun v u => gx (nn π0) g0 u ∧ v = rfo u r.2.2) (fun u t => PostW D (TYs k) A (cW k z u r.1 r.2.1) t) A) args s (nn r.1 - nn π0) (sw r.1 - sw π0) A) (F0 m 102 ls [rfv g s0]) := by
  have hS := hC.1
  have hq := km_Rd_fun_102 hmrArg hmrFun krec70  hC hv_x1 hv_s0 hm
  rw [Rd_fun_102] at hm
  refine z_astore (lv' := [(4, rfv g s0), (0, rfv g 44), (1, rfv g x1), (3, .int (Int32.ofInt x3))]) C dX6_fun_102 hl (by decide) rfl (fun ls hl => ?_)
  refine z_aload C dX6_fun_104 (lv_at hl 0 rfl) ?_
  refine z_ifnull (tgt := 118) C dX6_fun_106 (by decide) (fun c34 => ?_) (fun c34 => ?_)
  · have hm := ite_t c34 hm
    exact kl_Rd_fun_118 (N := N) C hr hlk hE hφ hψ hmrArg hcrArg hmrFun hcrFun krec70 hrec70 hC hG hX hv_x1 (lv_sub hl [1, 2, 3] rfl) h hm
  · have hm := ite_f c34 hm
    refine z_aload C dX6_fun_109 (lv_at hl 0 rfl) ?_
    refine z_aload_n C dX6_fun_111 rfl (lv_at hl 2 rfl) ?_
    obtain ⟨g35, hm⟩ := grd_s hm
    refine cp_6_7 C h g35 cU_X5 (List.mem_cons_of_mem _ wl_X6_265) dX6_fun_112 (fun H locs h => ?_)
    refine z_aload C dX6_fun_115 (lv_at hl 0 rfl) ?_
    refine z_astore_n (j := 1) (lv' := [(1, rfv g s0), (4, rfv g s0), (0, rfv g 44), (3, .int (Int32.ofInt x3))]) C dX6_fun_117 rfl hl (by decide) (by simp [rfv_cat, cat_i, cat_l]) (fun ls hl => ?_)
    exact kl_Rd_fun_118 (N := N) C hr hlk hE hφ hψ hmrArg hcrArg hmrFun hcrFun krec70 hrec70 (cl_sfR hC _ _ hv_x1) hG hX hv_s0 (lv_sub hl [2, 0, 3] rfl) h hm
set_option maxHeartbeats 8000000 in
set_option maxRecDepth 100000 in
theorem kl_Rd_fun_142 {r : Sh × St × Int} (C : Cx p s m args c cX6_fun RX6 (cd :: cWd) D (TYs k) 5) (hr : meth.sig.returnType = (some (.object "CycleStudio$Piece"))) (hlk : meth.locks = false) (hE : Ev z mi aK aV A s s.heap) {rArg : Sh → St → Option (Sh × St × Int)} {rFun : Sh → St → Option (Sh × St × Int)} (hφ : 260 ≤ φ) (hψ : 12000 ≤ ψ) (hmrArg : ∀ {π : Sh} {σ : St}  {r : Sh × St × Int}, Cl π σ → rArg π σ  = some r → ext π r.1 ∧ Cl r.1 r.2.1) (hcrArg : ∀ {g : Nat → Nat} {π : Sh} {σ : St}  {r : Sh × St × Int}, Cl π σ → rArg π σ  = some r → Mi l yX6_arg (.code yX6_arg cX6_arg 3 (some .int) :: cWd) { frames := φ, cells := nn r.1 - nn π, slots := sw r.1 - sw π, locals := ψ } [rfv g 44] D (TYs k) (cW k z g π σ) (XV z mi aK aV (cW k z g π σ)) (Nat → Nat) (fun v u => gx (nn π) g u ∧ v = Int32.ofInt r.2.2) (fun u => cW k z u r.1 r.2.1) (nn r.1 - nn π) (sw r.1 - sw π)) (hmrFun : ∀ {π : Sh} {σ : St}  {r : Sh × St × Int}, Cl π σ → rFun π σ  = some r → ext π r.1 ∧ Cl r.1 r.2.1 ∧ r.2.2 < nn r.1) (hcrFun : ∀ {g : Nat → Nat} {π : Sh} {σ : St}  {r : Sh × St × Int}, Cl π σ → rFun π σ  = some r → Mq l yX6_fun (.code yX6_fun cX6_fun 5 (some (.object "CycleStudio$Piece")) :: cWd) { frames := φ, cells := nn r.1 - nn π, slots := sw r.1 - sw π, locals := ψ } [rfv g 44] D (TYs k) (cW k z g π σ) (XV z mi aK aV (cW k z g π σ)) (Nat → Nat) (fun v u => gx (nn π) g u ∧ v = rfo u r.2.2) (fun u => cW k z u r.1 r.2.1) (nn r.1 - nn π) (sw r.1 - sw π))  {ls : Array Slot} {H : Heap} {locs : List Loc} {g : Nat → Nat} {π : Sh} {σ : St} {x1 : Int} (hC : Cl π σ) (hG : gx (nn π0) g0 g) (hX : ext π0 π) (hv_x1 : x1 < nn π) (hl : lv_has ls 5 [(0, rfv g 44), (1, rfv g x1)]) (h : Hp D A s.heap H locs (cW k z g π σ)) (hm : Rd_fun_142 N rArg rFun π σ x1 = some r) : W p l e { frames := φ + 12, cells := nn r.1 - nn π0, slots := sw r.1 - sw π0, locals := ψ + 700 } s m args below meth c H locs (nn π - nn π0) (sw π - sw π0) (MQ below (va_Qq (fun v u => gx (nn π0) g0 u ∧ v = rfo u r.2.2) (fun u t => PostW D (TYs k) A (cW k z u r.1 r.2.1) t) A) args s (nn r.1 - nn π0) (sw r.1 - sw π0) A) (F0 m 142 ls []) := by
  have hS := hC.1
  have hq := km_Rd_fun_142 hmrArg hmrFun   hC hv_x1 hm
  rw [Rd_fun_142] at hm
  refine z_aload_n C dX6_fun_142 rfl (lv_at hl 0 rfl) ?_
  refine lv_bipush (v := Int32.ofInt 41) C.1 C.2.1 dX6_fun_143 (by decide) ?_
  obtain ⟨r30, e31, hm⟩ := obd_s hm
  have q32 := (km_Rd_expect hC e31)
  refine c_callVvP C hE h (sh_44 hS) rfl (by decide) (kc_Rd_expect l D k z mi aK aV g N hS e31) (cwV 1 C.2.2.1 (gS_X6_109 _) rfl rfl rfl hd_X6_expect ⟨(by show 4 + 1 ≤ φ + 12; omega), (by show 8 + (2 + 11) + 88 ≤ ψ + 700; omega)⟩) rfl hl.1 rfl (Nat.le_of_ble_eq_true rfl) dX6_fun_145 ⟨(czz hX hq.1), (szz hX hq.1)⟩ (fun H locs h => ?_)
  have hC33 : Cl π r30 := q32
  refine z_aload_n C dX6_fun_148 rfl (lv_at hl 0 rfl) ?_
  refine cg_7_0 C h (sh_44 hS) cU_X6 (List.mem_cons_of_mem _ wl_X6_31) dX6_fun_149 ?_
  refine lv_dup C.1 C.2.1 dX6_fun_152 (rfv_cat _ _) ?_
  refine cg_9_4 C h (sh_1 hS) cU_X8 (List.mem_cons_of_mem _ wl_X6_197) dX6_fun_153 ?_
  refine lv_iconst (v := Int32.ofInt 1) C.1 C.2.1 dX6_fun_156 (by decide) ?_
  refine z_isub C dX6_fun_157 ?_
  refine cp_9_4 C h (sh_1 hS) cU_X8 (List.mem_cons_of_mem _ wl_X6_197) dX6_fun_158 (fun H locs h => ?_)
  refine z_aload_n C dX6_fun_161 rfl (lv_at hl 1 rfl) ?_
  cases hm
  exact c_aretA C hG h hr hlk (Or.inl ⟨_, rfl⟩) dX6_fun_162
set_option maxHeartbeats 8000000 in
set_option maxRecDepth 100000 in
theorem kl_Rd_fun_70 {r : Sh × St × Int} (C : Cx p s m args c cX6_fun RX6 (cd :: cWd) D (TYs k) 5) (hr : meth.sig.returnType = (some (.object "CycleStudio$Piece"))) (hlk : meth.locks = false) (hE : Ev z mi aK aV A s s.heap) {rArg : Sh → St → Option (Sh × St × Int)} {rFun : Sh → St → Option (Sh × St × Int)} (hφ : 260 ≤ φ) (hψ : 12000 ≤ ψ) (hmrArg : ∀ {π : Sh} {σ : St}  {r : Sh × St × Int}, Cl π σ → rArg π σ  = some r → ext π r.1 ∧ Cl r.1 r.2.1) (hcrArg : ∀ {g : Nat → Nat} {π : Sh} {σ : St}  {r : Sh × St × Int}, Cl π σ → rArg π σ  = some r → Mi l yX6_arg (.code yX6_arg cX6_arg 3 (some .int) :: cWd) { frames := φ, cells := nn r.1 - nn π, slots := sw r.1 - sw π, locals := ψ } [rfv g 44] D (TYs k) (cW k z g π σ) (XV z mi aK aV (cW k z g π σ)) (Nat → Nat) (fun v u => gx (nn π) g u ∧ v = Int32.ofInt r.2.2) (fun u => cW k z u r.1 r.2.1) (nn r.1 - nn π) (sw r.1 - sw π)) (hmrFun : ∀ {π : Sh} {σ : St}  {r : Sh × St × Int}, Cl π σ → rFun π σ  = some r → ext π r.1 ∧ Cl r.1 r.2.1 ∧ r.2.2 < nn r.1) (hcrFun : ∀ {g : Nat → Nat} {π : Sh} {σ : St}  {r : Sh × St × Int}, Cl π σ → rFun π σ  = some r → Mq l yX6_fun (.code yX6_fun cX6_fun 5 (some (.object "CycleStudio$Piece")) :: cWd) { frames := φ, cells := nn r.1 - nn π, slots := sw r.1 - sw π, locals := ψ } [rfv g 44] D (TYs k) (cW k z g π σ) (XV z mi aK aV (cW k z g π σ)) (Nat → Nat) (fun v u => gx (nn π) g u ∧ v = rfo u r.2.2) (fun u => cW k z u r.1 r.2.1) (nn r.1 - nn π) (sw r.1 - sw π))  (n : Nat) : ∀ {ls : Array Slot} {H : Heap} {locs : List Loc} {g : Nat → Nat} {π : Sh} {σ : St} {x1 : Int} {x2 : Int} {x3 : Int}, Cl π σ → gx (nn π0) g0 g → ext π0 π → x1 < nn π → lv_has ls 5 [(0, rfv g 44), (1, rfv g x1), (2, .int (Int32.ofInt x2)), (3, .int (Int32.ofInt x3))] → Hp D A s.heap H locs (cW k z g π σ) → Rd_fun_70 N rArg rFun n π σ x1 x2 x3 = some r → W p l e { frames := φ + 12, cells := nn r.1 - nn π0, slots := sw r.1 - sw π0, locals := ψ + 700 } s m args below meth c H locs (nn π - nn π0) (sw π - sw π0) (MQ below (va_Qq (fun v u => gx (nn π0) g0 u ∧ v = rfo u r.2.2) (fun u t => PostW D (TYs k) A (cW k z u r.1 r.2.1) t) A) args s (nn r.1 - nn π0) (sw r.1 - sw π0) A) (F0 m 70 ls []) := by
  induction n with
  | zero => intro ls H locs g π σ x1 x2 x3 hC hG hX hv_x1 hl h hm; cases (show none = some r from hm)
  | succ n hrec70 =>
    intro ls H locs g π σ x1 x2 x3 hC hG hX hv_x1 hl h hm
    have hS := hC.1
    have hq := km_Rd_fun_70 hmrArg hmrFun  (n + 1) hC hv_x1 hm
    have krec70 : ∀ {π : Sh} {σ : St} {x1 : Int} {x2 : Int} {x3 : Int}, Cl π σ → x1 < nn π → Rd_fun_70 N rArg rFun n π σ x1 x2 x3 = some r → ext π r.1 ∧ Cl r.1 r.2.1 ∧ r.2.2 < nn r.1 := fun {_ _} {_} {_} {_} => km_Rd_fun_70 hmrArg hmrFun  n
    rw [Rd_fun_70] at hm
    refine lv_iload_n C.1 C.2.1 dX6_fun_70 rfl (lv_at hl 3 rfl) ?_
    refine lv_sipush (v := Int32.ofInt 2000) C.1 C.2.1 dX6_fun_71 (by decide) ?_
    obtain ⟨g17, hm⟩ := grd_s hm
    refine z_icmp_ge (tgt := 142) C dX6_fun_74 (by decide) g17 (by decide) (fun c18 => ?_) (fun c18 => ?_)
    · have hm := ite_f c18 hm
      exact kl_Rd_fun_142 (N := N) C hr hlk hE hφ hψ hmrArg hcrArg hmrFun hcrFun hC hG hX hv_x1 (lv_sub hl [0, 1] rfl) h hm
    · have hm := ite_t c18 hm
      refine lv_iload_n C.1 C.2.1 dX6_fun_77 rfl (lv_at hl 2 rfl) ?_
      obtain ⟨g19, hm⟩ := grd_s hm
      refine z_if_eq (tgt := 142) C dX6_fun_78 (by decide) g19 (fun c20 => ?_) (fun c20 => ?_)
      · have hm := ite_t c20 hm
        exact kl_Rd_fun_142 (N := N) C hr hlk hE hφ hψ hmrArg hcrArg hmrFun hcrFun hC hG hX hv_x1 (lv_sub hl [0, 1] rfl) h hm
      · have hm := ite_f c20 hm
        refine z_aload_n C dX6_fun_81 rfl (lv_at hl 0 rfl) ?_
        refine cg_7_0 C h (sh_44 hS) cU_X6 (List.mem_cons_of_mem _ wl_X6_31) dX6_fun_82 ?_
        refine cg_9_2 C h (sh_1 hS) cU_X8 (List.mem_cons_of_mem _ wl_X6_72) dX6_fun_85 ?_
        obtain ⟨g21, hm⟩ := grd_s hm
        refine z_if_ne (tgt := 142) C dX6_fun_88 (by decide) g21 (fun c22 => ?_) (fun c22 => ?_)
        · have hm := ite_f c22 hm
          exact kl_Rd_fun_142 (N := N) C hr hlk hE hφ hψ hmrArg hcrArg hmrFun hcrFun hC hG hX hv_x1 (lv_sub hl [0, 1] rfl) h hm
        · have hm := ite_t c22 hm
          refine z_aload_n C dX6_fun_91 rfl (lv_at hl 0 rfl) ?_
          refine cg_7_0 C h (sh_44 hS) cU_X6 (List.mem_cons_of_mem _ wl_X6_31) dX6_fun_92 ?_
          obtain ⟨r23, e24, hm⟩ := obd_s hm
          have q25 := (km_Sc_advance hC e24)
          refine c_callVvP C hE h (sh_1 hS) rfl (by decide) (kc_Sc_advance l D k z mi aK aV g N hS e24) (cwV 0 C.2.2.1 (gS_X6_88 _) rfl rfl rfl hd_X8_advance ⟨(by show 3 + 1 ≤ φ + 12; omega), (by show 8 + (2 + 11) + 67 ≤ ψ + 700; omega)⟩) rfl hl.1 rfl (Nat.le_of_ble_eq_true rfl) dX6_fun_95 ⟨(czz hX hq.1), (szz hX hq.1)⟩ (fun H locs h => ?_)
          have hC26 : Cl π r23 := q25
          refine z_aload_n C dX6_fun_98 rfl (lv_at hl 0 rfl) ?_
          obtain ⟨r27, e28, hm⟩ := obd_s hm
          have q29 := (km_Rd_piece hmrArg hmrFun hC26 e28)
          have q := km_Rd_fun_102 hmrArg hmrFun krec70 q29.2.1 (lt_ext hv_x1 q29.1) q29.2.2 hm
          refine c_callVqA C hE h (sh_44 hS) rfl (by decide) (kc_Rd_piece l D k z mi aK aV g N hφ hψ hmrArg hcrArg hmrFun hcrFun hC26 e28) (cwV 0 C.2.2.1 (gS_X6_262 _) rfl rfl rfl hd_X6_piece ⟨(by show φ + 3 + 1 ≤ φ + 12; omega), (by show 8 + (3 + 11) + (ψ + 72) ≤ ψ + 700; omega)⟩) rfl hl.1 rfl (Nat.le_of_ble_eq_true rfl) dX6_fun_99 ⟨rcC hX q29.1 q.1, rsC hX q29.1 q.1⟩ (fun u H locs hg h => ?_)
          simp only [← gx_rfv hg (sh_44 hS).2.1, ← gx_rfv hg hv_x1] at hl
          try simp only [← gx_rfv hg (sh_44 hS).2.1, ← gx_rfv hg hv_x1]
          refine W_cast (wcC hX q29.1).symm (wsC hX q29.1).symm ?_
          exact kl_Rd_fun_102 (N := N) C hr hlk hE hφ hψ hmrArg hcrArg hmrFun hcrFun krec70 hrec70 q29.2.1 (hG.tr hg hX.1) (hX.tr q29.1) (lt_ext hv_x1 q29.1) q29.2.2 (lv_sub hl [0, 1, 3] rfl) h hm
set_option maxHeartbeats 8000000 in
set_option maxRecDepth 100000 in
theorem kc_Rd_fun (l : Launch) (D : va_G) (k : Nat → ClassId) (z mi : Nat) (aK aV : Nat → Nat) (g : Nat → Nat) (N : Nat) {φ ψ : Nat} {rArg : Sh → St → Option (Sh × St × Int)} {rFun : Sh → St → Option (Sh × St × Int)} (hφ : 260 ≤ φ) (hψ : 12000 ≤ ψ) (hmrArg : ∀ {π : Sh} {σ : St}  {r : Sh × St × Int}, Cl π σ → rArg π σ  = some r → ext π r.1 ∧ Cl r.1 r.2.1) (hcrArg : ∀ {g : Nat → Nat} {π : Sh} {σ : St}  {r : Sh × St × Int}, Cl π σ → rArg π σ  = some r → Mi l yX6_arg (.code yX6_arg cX6_arg 3 (some .int) :: cWd) { frames := φ, cells := nn r.1 - nn π, slots := sw r.1 - sw π, locals := ψ } [rfv g 44] D (TYs k) (cW k z g π σ) (XV z mi aK aV (cW k z g π σ)) (Nat → Nat) (fun v u => gx (nn π) g u ∧ v = Int32.ofInt r.2.2) (fun u => cW k z u r.1 r.2.1) (nn r.1 - nn π) (sw r.1 - sw π)) (hmrFun : ∀ {π : Sh} {σ : St}  {r : Sh × St × Int}, Cl π σ → rFun π σ  = some r → ext π r.1 ∧ Cl r.1 r.2.1 ∧ r.2.2 < nn r.1) (hcrFun : ∀ {g : Nat → Nat} {π : Sh} {σ : St}  {r : Sh × St × Int}, Cl π σ → rFun π σ  = some r → Mq l yX6_fun (.code yX6_fun cX6_fun 5 (some (.object "CycleStudio$Piece")) :: cWd) { frames := φ, cells := nn r.1 - nn π, slots := sw r.1 - sw π, locals := ψ } [rfv g 44] D (TYs k) (cW k z g π σ) (XV z mi aK aV (cW k z g π σ)) (Nat → Nat) (fun v u => gx (nn π) g u ∧ v = rfo u r.2.2) (fun u => cW k z u r.1 r.2.1) (nn r.1 - nn π) (sw r.1 - sw π)) {π : Sh} {σ : St}  {r : Sh × St × Int} (hC : Cl π σ)  (hm : Rd_fun N rArg rFun π σ  = some r) : Mq l yX6_fun (.code yX6_fun cX6_fun 5 (some (.object "CycleStudio$Piece")) :: cWd) { frames := φ + 12, cells := nn r.1 - nn π, slots := sw r.1 - sw π, locals := ψ + 700 } [rfv g 44] D (TYs k) (cW k z g π σ) (XV z mi aK aV (cW k z g π σ)) (Nat → Nat) (fun v u => gx (nn π) g u ∧ v = rfo u r.2.2) (fun u => cW k z u r.1 r.2.1) (nn r.1 - nn π) (sw r.1 - sw π) := by
  have hS := hC.1
  have hq := km_Rd_fun hmrArg hmrFun hC  hm
  intro sz
  refine v_met (cc := cX6_fun) (maxL := 5) (ret := (some (.object "CycleStudio$Piece"))) (lv := [(0, rfv g 44)]) (by decide) rfl (by simp [lg_sl, rfv_cat, cat_i, cat_l]) (by simp [lv_args, rfv_cat, cat_i, cat_l]) ?_
  intro p e s m below meth c ls C hE hr hlk hmn hl h
  generalize ([rfv g 44] : List Value).toArray = args at C ⊢
  have hG := gx.rf (nn π) g
  have hX := ext.rf π
  refine W_cast (Nat.sub_self (nn π)) (Nat.sub_self (sw π)) ?_
  rw [Rd_fun] at hm
  refine z_aload_n C dX6_fun_0 rfl (lv_at hl 0 rfl) ?_
  refine cg_7_0 C h (sh_44 hS) cU_X6 (List.mem_cons_of_mem _ wl_X6_31) dX6_fun_1 ?_
  refine cg_9_5 C h (sh_1 hS) cU_X8 (List.mem_cons_of_mem _ wl_X6_66) dX6_fun_4 ?_
  refine lv_iconst (v := Int32.ofInt 1) C.1 C.2.1 dX6_fun_7 (by decide) ?_
  obtain ⟨g1, hm⟩ := grd_s hm
  refine z_icmp_ne (tgt := 16) C dX6_fun_8 (by decide) g1 (by decide) (fun c2 => ?_) (fun c2 => ?_)
  · have hm := ite_f c2 hm
    refine z_aload_n C dX6_fun_16 rfl (lv_at hl 0 rfl) ?_
    refine cg_7_0 C h (sh_44 hS) cU_X6 (List.mem_cons_of_mem _ wl_X6_31) dX6_fun_17 ?_
    refine cg_9_5 C h (sh_1 hS) cU_X8 (List.mem_cons_of_mem _ wl_X6_66) dX6_fun_20 ?_
    refine lv_bipush (v := Int32.ofInt 40) C.1 C.2.1 dX6_fun_23 (by decide) ?_
    refine z_icmp_eq (tgt := 45) C dX6_fun_25 (by decide) g1 (by decide) (fun c3 => ?_) (fun c3 => ?_)
    · have hm := ite_t c3 hm
      refine z_aload_n C dX6_fun_45 rfl (lv_at hl 0 rfl) ?_
      refine cg_7_0 C h (sh_44 hS) cU_X6 (List.mem_cons_of_mem _ wl_X6_31) dX6_fun_46 ?_
      refine z_aload_n C dX6_fun_49 rfl (lv_at hl 0 rfl) ?_
      refine cg_7_0 C h (sh_44 hS) cU_X6 (List.mem_cons_of_mem _ wl_X6_31) dX6_fun_50 ?_
      refine cg_9_6 C h (sh_1 hS) cU_X8 (List.mem_cons_of_mem _ wl_X6_81) dX6_fun_53 ?_
      obtain ⟨r4, e5, hm⟩ := obd_s hm
      have q6 := (km_Sc_opens hC e5)
      refine c_callViP C hE h (sh_1 hS) rfl (by decide) (kc_Sc_opens l D k z mi aK aV g N hS e5) (cwV 1 C.2.2.1 (gS_X6_181 _) rfl rfl rfl hd_X8_opens ⟨(by show 1 + 1 ≤ φ + 12; omega), (by show 8 + (2 + 11) + 22 ≤ ψ + 700; omega)⟩) rfl hl.1 rfl (Nat.le_of_ble_eq_true rfl) dX6_fun_56 ⟨(czz hX hq.1), (szz hX hq.1)⟩ (fun H locs h => ?_)
      have hC7 : Cl π r4.1 := q6
      obtain ⟨g8, hm⟩ := grd_s hm
      refine z_if_ne (tgt := 64) C dX6_fun_59 (by decide) g8 (fun c9 => ?_) (fun c9 => ?_)
      · have hm := ite_f c9 hm
        refine z_null (g := g) C dX6_fun_64 ?_
        refine z_astore_n (j := 1) (lv' := [(1, rfv g (-1)), (0, rfv g 44)]) C dX6_fun_65 rfl hl (by decide) (by simp [rfv_cat, cat_i, cat_l]) (fun ls hl => ?_)
        refine lv_iconst (v := Int32.ofInt 1) C.1 C.2.1 dX6_fun_66 (by decide) ?_
        refine lv_istore_n (i := 2) (lv' := [(2, .int (Int32.ofInt 1)), (1, rfv g (-1)), (0, rfv g 44)]) C.1 C.2.1 dX6_fun_67 rfl hl (by decide) (by simp [rfv_cat, cat_i, cat_l]) (fun ls hl => ?_)
        refine lv_iconst (v := Int32.ofInt 0) C.1 C.2.1 dX6_fun_68 (by decide) ?_
        refine lv_istore_n (lv' := [(3, .int (Int32.ofInt 0)), (2, .int (Int32.ofInt 1)), (1, rfv g (-1)), (0, rfv g 44)]) C.1 C.2.1 dX6_fun_69 rfl hl (by decide) rfl (fun ls hl => ?_)
        exact kl_Rd_fun_70 (N := N) C hr hlk hE hφ hψ hmrArg hcrArg hmrFun hcrFun N hC7 hG hX (lt_m1 π) (lv_sub hl [3, 2, 1, 0] rfl) h hm
      · have hm := ite_t c9 hm
        refine z_null (g := g) C dX6_fun_62 ?_
        cases hm
        exact c_aretA C hG h hr hlk (Or.inl ⟨_, rfl⟩) dX6_fun_63
    · have hm := ite_f c3 hm
      refine z_aload_n C dX6_fun_28 rfl (lv_at hl 0 rfl) ?_
      refine cg_7_0 C h (sh_44 hS) cU_X6 (List.mem_cons_of_mem _ wl_X6_31) dX6_fun_29 ?_
      refine lv_iconst (v := Int32.ofInt 1) C.1 C.2.1 dX6_fun_32 (by decide) ?_
      refine z_aload_n C dX6_fun_33 rfl (lv_at hl 0 rfl) ?_
      refine cg_7_0 C h (sh_44 hS) cU_X6 (List.mem_cons_of_mem _ wl_X6_31) dX6_fun_34 ?_
      refine cg_9_6 C h (sh_1 hS) cU_X8 (List.mem_cons_of_mem _ wl_X6_81) dX6_fun_37 ?_
      obtain ⟨r10, e11, hm⟩ := obd_s hm
      have q12 := (km_Sc_fail hC e11)
      refine c_callVvP C hE h (sh_1 hS) rfl (by decide) (kc_Sc_fail l D k z mi aK aV g N hS e11) (cwV 2 C.2.2.1 (gS_X6_84 _) rfl rfl rfl hd_X8_fail ⟨(by show 0 + 1 ≤ φ + 12; omega), (by show 8 + (3 + 11) + 0 ≤ ψ + 700; omega)⟩) rfl hl.1 rfl (Nat.le_of_ble_eq_true rfl) dX6_fun_40 ⟨(czz hX hq.1), (szz hX hq.1)⟩ (fun H locs h => ?_)
      have hC13 : Cl π r10 := q12
      refine z_null (g := g) C dX6_fun_43 ?_
      cases hm
      exact c_aretA C hG h hr hlk (Or.inl ⟨_, rfl⟩) dX6_fun_44
  · have hm := ite_t c2 hm
    refine z_aload_n C dX6_fun_11 rfl (lv_at hl 0 rfl) ?_
    obtain ⟨r14, e15, hm⟩ := obd_s hm
    have q16 := (km_Rd_funName hmrArg hmrFun hC e15)
    have q := km_Rd_fun_15 hmrArg hmrFun  q16.2.1 q16.2.2 hm
    refine c_callVqA C hE h (sh_44 hS) rfl (by decide) (kc_Rd_funName l D k z mi aK aV g N hφ hψ hmrArg hcrArg hmrFun hcrFun hC e15) (cwV 0 C.2.2.1 (gS_X6_259 _) rfl rfl rfl hd_X6_funName ⟨(by show φ + 3 + 1 ≤ φ + 12; omega), (by show 8 + (4 + 11) + (ψ + 72) ≤ ψ + 700; omega)⟩) rfl hl.1 rfl (Nat.le_of_ble_eq_true rfl) dX6_fun_12 ⟨rcC hX q16.1 q.1, rsC hX q16.1 q.1⟩ (fun u H locs hg h => ?_)
    simp only [← gx_rfv hg (sh_44 hS).2.1] at hl
    try simp only [← gx_rfv hg (sh_44 hS).2.1]
    refine W_cast (wcC hX q16.1).symm (wsC hX q16.1).symm ?_
    exact kl_Rd_fun_15 (N := N) C hr hlk hE hφ hψ hmrArg hcrArg hmrFun hcrFun  q16.2.1 (hG.tr hg hX.1) (hX.tr q16.1) q16.2.2 (lv_sub hl [] rfl) h hm
end Z_Rd_fun
set_option maxHeartbeats 8000000 in
set_option maxRecDepth 100000 in
theorem kc_RdC (l : Launch) (D : va_G) (k : Nat → ClassId) (z mi : Nat) (aK aV : Nat → Nat) (N d : Nat) : (∀ {g : Nat → Nat} {π : Sh} {σ : St} {r : Sh × St × Int}, Cl π σ → (RdC N d).1 π σ = some r → Mi l yX6_arg (.code yX6_arg cX6_arg 3 (some .int) :: cWd) { frames := 260 + 12 * d, cells := nn r.1 - nn π, slots := sw r.1 - sw π, locals := 12000 + 700 * d } [rfv g 44] D (TYs k) (cW k z g π σ) (XV z mi aK aV (cW k z g π σ)) (Nat → Nat) (fun v u => gx (nn π) g u ∧ v = Int32.ofInt r.2.2) (fun u => cW k z u r.1 r.2.1) (nn r.1 - nn π) (sw r.1 - sw π)) ∧ (∀ {g : Nat → Nat} {π : Sh} {σ : St} {r : Sh × St × Int}, Cl π σ → (RdC N d).2 π σ = some r → Mq l yX6_fun (.code yX6_fun cX6_fun 5 (some (.object "CycleStudio$Piece")) :: cWd) { frames := 260 + 12 * d, cells := nn r.1 - nn π, slots := sw r.1 - sw π, locals := 12000 + 700 * d } [rfv g 44] D (TYs k) (cW k z g π σ) (XV z mi aK aV (cW k z g π σ)) (Nat → Nat) (fun v u => gx (nn π) g u ∧ v = rfo u r.2.2) (fun u => cW k z u r.1 r.2.1) (nn r.1 - nn π) (sw r.1 - sw π)) := by
  induction d with
  | zero => exact ⟨(fun {g π σ r} _ hm => by cases (show none = some r from hm)), (fun {g π σ r} _ hm => by cases (show none = some r from hm))⟩
  | succ d ih =>
    have e1 : 260 + 12 * (d + 1) = 260 + 12 * d + 12 := by omega
    have e2 : 12000 + 700 * (d + 1) = 12000 + 700 * d + 700 := by omega
    rw [e1, e2]
    exact ⟨fun {g π σ r} hC hm => kc_Rd_arg l D k z mi aK aV g N (by omega) (by omega) km_RdC.1 ih.1 km_RdC.2 ih.2 hC hm, fun {g π σ r} hC hm => kc_Rd_fun l D k z mi aK aV g N (by omega) (by omega) km_RdC.1 ih.1 km_RdC.2 ih.2 hC hm⟩
theorem kc_Rd_argC (l : Launch) (D : va_G) (k : Nat → ClassId) (z mi : Nat) (aK aV : Nat → Nat) (N d : Nat) {g : Nat → Nat} {π : Sh} {σ : St} {r : Sh × St × Int} (hC : Cl π σ) (hm : Rd_argC N d π σ = some r) : Mi l yX6_arg (.code yX6_arg cX6_arg 3 (some .int) :: cWd) { frames := 260 + 12 * d, cells := nn r.1 - nn π, slots := sw r.1 - sw π, locals := 12000 + 700 * d } [rfv g 44] D (TYs k) (cW k z g π σ) (XV z mi aK aV (cW k z g π σ)) (Nat → Nat) (fun v u => gx (nn π) g u ∧ v = Int32.ofInt r.2.2) (fun u => cW k z u r.1 r.2.1) (nn r.1 - nn π) (sw r.1 - sw π) := (kc_RdC l D k z mi aK aV N d).1 hC hm
theorem kc_Rd_funC (l : Launch) (D : va_G) (k : Nat → ClassId) (z mi : Nat) (aK aV : Nat → Nat) (N d : Nat) {g : Nat → Nat} {π : Sh} {σ : St} {r : Sh × St × Int} (hC : Cl π σ) (hm : Rd_funC N d π σ = some r) : Mq l yX6_fun (.code yX6_fun cX6_fun 5 (some (.object "CycleStudio$Piece")) :: cWd) { frames := 260 + 12 * d, cells := nn r.1 - nn π, slots := sw r.1 - sw π, locals := 12000 + 700 * d } [rfv g 44] D (TYs k) (cW k z g π σ) (XV z mi aK aV (cW k z g π σ)) (Nat → Nat) (fun v u => gx (nn π) g u ∧ v = rfo u r.2.2) (fun u => cW k z u r.1 r.2.1) (nn r.1 - nn π) (sw r.1 - sw π) := (kc_RdC l D k z mi aK aV N d).2 hC hm
section Z_Rd_header
variable {p : Program} {l : Launch} {e : Env} {s : State} {m : MethodId} {args : Array Value} {below : List Frame} {meth : Method} {c : Code} {D : va_G} {A : Nat → Prop} {k : Nat → ClassId} {N : Nat} {cd : Cond} {z mi : Nat} {aK aV : Nat → Nat} {g0 : Nat → Nat} {π0 : Sh}
set_option maxHeartbeats 8000000 in
set_option maxRecDepth 100000 in
theorem kl_Rd_header_144 {r : Sh × St} (C : Cx p s m args c cX6_header RX6 (cd :: cWd) D (TYs k) 2) (hr : meth.sig.returnType = none) (hlk : meth.locks = false) (hE : Ev z mi aK aV A s s.heap)    {ls : Array Slot} {H : Heap} {locs : List Loc} {g : Nat → Nat} {π : Sh} {σ : St}  (hC : Cl π σ) (hG : gx (nn π0) g0 g) (hX : ext π0 π)  (hl : lv_has ls 2 [(0, rfv g 44)]) (h : Hp D A s.heap H locs (cW k z g π σ)) (hm : Rd_header_144 N π σ  = some r) : W p l e { frames := 7, cells := nn r.1 - nn π0, slots := sw r.1 - sw π0, locals := 142 } s m args below meth c H locs (nn π - nn π0) (sw π - sw π0) (MQ below (va_Qv (fun u => gx (nn π0) g0 u) (fun u t => PostW D (TYs k) A (cW k z u r.1 r.2) t) A) args s (nn r.1 - nn π0) (sw r.1 - sw π0) A) (F0 m 144 ls []) := by
  have hS := hC.1
  have hq := km_Rd_header_144    hC  hm
  rw [Rd_header_144] at hm
  refine z_aload_n C dX6_header_144 rfl (lv_at hl 0 rfl) ?_
  refine cg_7_0 C h (sh_44 hS) cU_X6 (List.mem_cons_of_mem _ wl_X6_31) dX6_header_145 ?_
  refine lv_iconst (v := Int32.ofInt 2) C.1 C.2.1 dX6_header_148 (by decide) ?_
  refine z_aload_n C dX6_header_149 rfl (lv_at hl 0 rfl) ?_
  refine cg_7_0 C h (sh_44 hS) cU_X6 (List.mem_cons_of_mem _ wl_X6_31) dX6_header_150 ?_
  refine cg_9_6 C h (sh_1 hS) cU_X8 (List.mem_cons_of_mem _ wl_X6_81) dX6_header_153 ?_
  obtain ⟨r62, e63, hm⟩ := obd_s hm
  have q64 := (km_Sc_fail hC e63)
  refine c_callVvP C hE h (sh_1 hS) rfl (by decide) (kc_Sc_fail l D k z mi aK aV g N hS e63) (cwV 2 C.2.2.1 (gS_X6_84 _) rfl rfl rfl hd_X8_fail ⟨Nat.le_of_ble_eq_true rfl, Nat.le_of_ble_eq_true rfl⟩) rfl hl.1 rfl (Nat.le_of_ble_eq_true rfl) dX6_header_156 ⟨(czz hX hq.1), (szz hX hq.1)⟩ (fun H locs h => ?_)
  have hC65 : Cl π r62 := q64
  cases hm
  exact c_vretA C hG h hr hlk dX6_header_159
set_option maxHeartbeats 8000000 in
set_option maxRecDepth 100000 in
theorem kl_Rd_header_208 {r : Sh × St} (C : Cx p s m args c cX6_header RX6 (cd :: cWd) D (TYs k) 2) (hr : meth.sig.returnType = none) (hlk : meth.locks = false) (hE : Ev z mi aK aV A s s.heap)    {ls : Array Slot} {H : Heap} {locs : List Loc} {g : Nat → Nat} {π : Sh} {σ : St}  (hC : Cl π σ) (hG : gx (nn π0) g0 g) (hX : ext π0 π)  (hl : lv_has ls 2 [(0, rfv g 44)]) (h : Hp D A s.heap H locs (cW k z g π σ)) (hm : Rd_header_208 N π σ  = some r) : W p l e { frames := 7, cells := nn r.1 - nn π0, slots := sw r.1 - sw π0, locals := 142 } s m args below meth c H locs (nn π - nn π0) (sw π - sw π0) (MQ below (va_Qv (fun u => gx (nn π0) g0 u) (fun u t => PostW D (TYs k) A (cW k z u r.1 r.2) t) A) args s (nn r.1 - nn π0) (sw r.1 - sw π0) A) (F0 m 208 ls []) := by
  have hS := hC.1
  have hq := km_Rd_header_208    hC  hm
  rw [Rd_header_208] at hm
  refine z_aload_n C dX6_header_208 rfl (lv_at hl 0 rfl) ?_
  refine lv_bipush (v := Int32.ofInt 61) C.1 C.2.1 dX6_header_209 (by decide) ?_
  obtain ⟨r58, e59, hm⟩ := obd_s hm
  have q60 := (km_Rd_expect hC e59)
  refine c_callVvP C hE h (sh_44 hS) rfl (by decide) (kc_Rd_expect l D k z mi aK aV g N hS e59) (cwV 1 C.2.2.1 (gS_X6_109 _) rfl rfl rfl hd_X6_expect ⟨Nat.le_of_ble_eq_true rfl, Nat.le_of_ble_eq_true rfl⟩) rfl hl.1 rfl (Nat.le_of_ble_eq_true rfl) dX6_header_211 ⟨(czz hX hq.1), (szz hX hq.1)⟩ (fun H locs h => ?_)
  have hC61 : Cl π r58 := q60
  cases hm
  exact c_vretA C hG h hr hlk dX6_header_214
set_option maxHeartbeats 8000000 in
set_option maxRecDepth 100000 in
theorem kl_Rd_header_84 {r : Sh × St} (C : Cx p s m args c cX6_header RX6 (cd :: cWd) D (TYs k) 2) (hr : meth.sig.returnType = none) (hlk : meth.locks = false) (hE : Ev z mi aK aV A s s.heap)    (n : Nat) : ∀ {ls : Array Slot} {H : Heap} {locs : List Loc} {g : Nat → Nat} {π : Sh} {σ : St} {x1 : Int}, Cl π σ → gx (nn π0) g0 g → ext π0 π → lv_has ls 2 [(0, rfv g 44), (1, .int (Int32.ofInt x1))] → Hp D A s.heap H locs (cW k z g π σ) → Rd_header_84 N n π σ x1 = some r → W p l e { frames := 7, cells := nn r.1 - nn π0, slots := sw r.1 - sw π0, locals := 142 } s m args below meth c H locs (nn π - nn π0) (sw π - sw π0) (MQ below (va_Qv (fun u => gx (nn π0) g0 u) (fun u t => PostW D (TYs k) A (cW k z u r.1 r.2) t) A) args s (nn r.1 - nn π0) (sw r.1 - sw π0) A) (F0 m 84 ls []) := by
  induction n with
  | zero => intro ls H locs g π σ x1 hC hG hX  hl h hm; cases (show none = some r from hm)
  | succ n hrec84 =>
    intro ls H locs g π σ x1 hC hG hX  hl h hm
    have hS := hC.1
    have hq := km_Rd_header_84   (n + 1) hC  hm
    have krec84 : ∀ {π : Sh} {σ : St} {x1 : Int}, Cl π σ → Rd_header_84 N n π σ x1 = some r → ext π r.1 ∧ Cl r.1 r.2 := fun {_ _} {_} => km_Rd_header_84   n
    rw [Rd_header_84] at hm
    refine lv_iload_n C.1 C.2.1 dX6_header_84 rfl (lv_at hl 1 rfl) ?_
    refine lv_sipush (v := Int32.ofInt 2000) C.1 C.2.1 dX6_header_85 (by decide) ?_
    obtain ⟨g29, hm⟩ := grd_s hm
    refine z_icmp_ge (tgt := 208) C dX6_header_88 (by decide) g29 (by decide) (fun c30 => ?_) (fun c30 => ?_)
    · have hm := ite_f c30 hm
      exact kl_Rd_header_208 (N := N) C hr hlk hE hC hG hX (lv_sub hl [0] rfl) h hm
    · have hm := ite_t c30 hm
      refine z_aload_n C dX6_header_91 rfl (lv_at hl 0 rfl) ?_
      refine cg_7_0 C h (sh_44 hS) cU_X6 (List.mem_cons_of_mem _ wl_X6_31) dX6_header_92 ?_
      refine cg_9_5 C h (sh_1 hS) cU_X8 (List.mem_cons_of_mem _ wl_X6_66) dX6_header_95 ?_
      refine lv_iconst (v := Int32.ofInt 1) C.1 C.2.1 dX6_header_98 (by decide) ?_
      obtain ⟨g31, hm⟩ := grd_s hm
      refine z_icmp_ne (tgt := 208) C dX6_header_99 (by decide) g31 (by decide) (fun c32 => ?_) (fun c32 => ?_)
      · have hm := ite_f c32 hm
        exact kl_Rd_header_208 (N := N) C hr hlk hE hC hG hX (lv_sub hl [0] rfl) h hm
      · have hm := ite_t c32 hm
        refine z_aload_n C dX6_header_102 rfl (lv_at hl 0 rfl) ?_
        refine z_aload_n C dX6_header_103 rfl (lv_at hl 0 rfl) ?_
        refine cg_7_0 C h (sh_44 hS) cU_X6 (List.mem_cons_of_mem _ wl_X6_31) dX6_header_104 ?_
        refine cg_9_8 C h (sh_1 hS) cU_X8 (List.mem_cons_of_mem _ wl_X6_91) dX6_header_107 ?_
        obtain ⟨r33, e34, hm⟩ := obd_s hm
        have q35 := (km_Rd_functionOf hC e34)
        refine c_callViP C hE h (sh_44 hS) rfl (by decide) (kc_Rd_functionOf l D k z mi aK aV g N hS e34) (cwV 1 C.2.2.1 (gS_X6_95 _) rfl rfl rfl hd_X6_functionOf ⟨Nat.le_of_ble_eq_true rfl, Nat.le_of_ble_eq_true rfl⟩) rfl hl.1 rfl (Nat.le_of_ble_eq_true rfl) dX6_header_110 ⟨(czz hX hq.1), (szz hX hq.1)⟩ (fun H locs h => ?_)
        have hC36 : Cl π r33.1 := q35
        obtain ⟨g37, hm⟩ := grd_s hm
        refine z_if_ge (tgt := 144) C dX6_header_113 (by decide) g37 (fun c38 => ?_) (fun c38 => ?_)
        · have hm := ite_f c38 hm
          exact kl_Rd_header_144 (N := N) C hr hlk hE hC36 hG hX (lv_sub hl [0] rfl) h hm
        · have hm := ite_t c38 hm
          refine z_aload_n C dX6_header_116 rfl (lv_at hl 0 rfl) ?_
          refine cg_7_4 C h (sh_44 hS) cU_X6 (List.mem_cons_of_mem _ wl_X6_20) dX6_header_117 ?_
          refine z_aload_n C dX6_header_120 rfl (lv_at hl 0 rfl) ?_
          refine cg_7_0 C h (sh_44 hS) cU_X6 (List.mem_cons_of_mem _ wl_X6_31) dX6_header_121 ?_
          refine cg_9_8 C h (sh_1 hS) cU_X8 (List.mem_cons_of_mem _ wl_X6_91) dX6_header_124 ?_
          obtain ⟨r39, e40, hm⟩ := obd_s hm
          have q41 := (km_Df_hasName hC36 (cl_fl hC36 (f := 144) rfl 44) e40)
          obtain ⟨g42, hm⟩ := grd_s hm
          refine c_callViP C hE h g42 rfl (by decide) (kc_Df_hasName l D k z mi aK aV g N hS e40) (cwV 1 C.2.2.1 (gS_X6_99 _) rfl rfl rfl hd_X0_hasName ⟨Nat.le_of_ble_eq_true rfl, Nat.le_of_ble_eq_true rfl⟩) rfl hl.1 rfl (Nat.le_of_ble_eq_true rfl) dX6_header_127 ⟨(czz hX hq.1), (szz hX hq.1)⟩ (fun H locs h => ?_)
          have hC43 : Cl π r39.1 := q41
          obtain ⟨g44, hm⟩ := grd_s hm
          refine z_if_ne (tgt := 144) C dX6_header_130 (by decide) g44 (fun c45 => ?_) (fun c45 => ?_)
          · have hm := ite_f c45 hm
            exact kl_Rd_header_144 (N := N) C hr hlk hE hC43 hG hX (lv_sub hl [0] rfl) h hm
          · have hm := ite_t c45 hm
            refine z_aload_n C dX6_header_133 rfl (lv_at hl 0 rfl) ?_
            refine cg_7_4 C h (sh_44 hS) cU_X6 (List.mem_cons_of_mem _ wl_X6_20) dX6_header_134 ?_
            obtain ⟨g46, hm⟩ := grd_s hm
            refine cg_1_2 C h g46 cU_X0 (List.mem_cons_of_mem _ wl_X6_103) dX6_header_137 ?_
            refine lv_iconst (v := Int32.ofInt 4) C.1 C.2.1 dX6_header_140 (by decide) ?_
            obtain ⟨g47, hm⟩ := grd_s hm
            refine z_icmp_lt (tgt := 160) C dX6_header_141 (by decide) g47 (by decide) (fun c48 => ?_) (fun c48 => ?_)
            · have hm := ite_t c48 hm
              refine z_aload_n C dX6_header_160 rfl (lv_at hl 0 rfl) ?_
              refine cg_7_4 C h (sh_44 hS) cU_X6 (List.mem_cons_of_mem _ wl_X6_20) dX6_header_161 ?_
              refine cg_1_1 C h g46 cU_X0 (List.mem_cons_of_mem _ wl_X6_106) dX6_header_164 ?_
              refine z_aload_n C dX6_header_167 rfl (lv_at hl 0 rfl) ?_
              refine cg_7_4 C h (sh_44 hS) cU_X6 (List.mem_cons_of_mem _ wl_X6_20) dX6_header_168 ?_
              refine cg_1_2 C h g46 cU_X0 (List.mem_cons_of_mem _ wl_X6_103) dX6_header_171 ?_
              refine z_aload_n C dX6_header_174 rfl (lv_at hl 0 rfl) ?_
              refine cg_7_0 C h (sh_44 hS) cU_X6 (List.mem_cons_of_mem _ wl_X6_31) dX6_header_175 ?_
              refine cg_9_8 C h (sh_1 hS) cU_X8 (List.mem_cons_of_mem _ wl_X6_91) dX6_header_178 ?_
              obtain ⟨g49, hm⟩ := grd_s hm
              obtain ⟨g50, hm⟩ := grd_s hm
              refine c_last C h g49 g50 dX6_header_181 (fun H locs h => ?_)
              refine z_aload_n C dX6_header_182 rfl (lv_at hl 0 rfl) ?_
              refine cg_7_4 C h (sh_44 hS) cU_X6 (List.mem_cons_of_mem _ wl_X6_20) dX6_header_183 ?_
              refine x_topv (b := rfv g (fl r39.1 144 44)) rfl ?_
              refine lv_dup C.1 C.2.1 dX6_header_186 (rfv_cat _ _) ?_
              refine cg_1_2 C h g46 cU_X0 (List.mem_cons_of_mem _ wl_X6_103) dX6_header_187 ?_
              refine x_topi (y := Int32.ofInt (fl r39.1 22 (fl r39.1 144 44))) rfl ?_
              refine lv_iconst (v := Int32.ofInt 1) C.1 C.2.1 dX6_header_190 (by decide) ?_
              refine z_iadd C dX6_header_191 ?_
              refine cp_1_2 C h g46 cU_X0 (List.mem_cons_of_mem _ wl_X6_103) dX6_header_192 (fun H locs h => ?_)
              refine z_aload_n C dX6_header_195 rfl (lv_at hl 0 rfl) ?_
              refine cg_7_0 C h (sh_44 hS) cU_X6 (List.mem_cons_of_mem _ wl_X6_31) dX6_header_196 ?_
              obtain ⟨σ51, e52, hm⟩ := bnd_s hm
              rw [e52] at h
              have hC53 : Cl π σ51 := e52 ▸ (cl_sfI (cl_seI hC43 g49 (by decide) _ _) (f := 22) rfl _ _)
              obtain ⟨r54, e55, hm⟩ := obd_s hm
              have q56 := (km_Sc_advance hC53 e55)
              refine c_callVvP C hE h (sh_1 hS) rfl (by decide) (kc_Sc_advance l D k z mi aK aV g N hS e55) (cwV 0 C.2.2.1 (gS_X6_88 _) rfl rfl rfl hd_X8_advance ⟨Nat.le_of_ble_eq_true rfl, Nat.le_of_ble_eq_true rfl⟩) rfl hl.1 rfl (Nat.le_of_ble_eq_true rfl) dX6_header_199 ⟨(czz hX hq.1), (szz hX hq.1)⟩ (fun H locs h => ?_)
              have hC57 : Cl π r54 := q56
              refine lv_iinc (v := Int32.ofInt (x1 + 1)) (lv' := [(1, .int (Int32.ofInt (x1 + 1))), (0, rfv g 44)]) C.1 C.2.1 dX6_header_202 hl (k := 1) rfl (c32_add _ _) (by decide) (by simp [rfv_cat, cat_i, cat_l]) (fun ls hl => ?_)
              refine lv_goto (tgt := 84) C.1 C.2.1 dX6_header_205 (by decide) ?_
              exact hrec84 hC57 hG hX (lv_sub hl [1, 0] rfl) h hm
            · have hm := ite_f c48 hm
              exact kl_Rd_header_144 (N := N) C hr hlk hE hC43 hG hX (lv_sub hl [0] rfl) h hm
set_option maxHeartbeats 8000000 in
set_option maxRecDepth 100000 in
theorem kl_Rd_header_72 {r : Sh × St} (C : Cx p s m args c cX6_header RX6 (cd :: cWd) D (TYs k) 2) (hr : meth.sig.returnType = none) (hlk : meth.locks = false) (hE : Ev z mi aK aV A s s.heap)    {ls : Array Slot} {H : Heap} {locs : List Loc} {g : Nat → Nat} {π : Sh} {σ : St} {s0 : Int} (hC : Cl π σ) (hG : gx (nn π0) g0 g) (hX : ext π0 π) (hv_s0 : s0 < nn π) (hl : lv_has ls 2 [(0, rfv g 44)]) (h : Hp D A s.heap H locs (cW k z g π σ)) (hm : Rd_header_72 N π σ s0 = some r) : W p l e { frames := 7, cells := nn r.1 - nn π0, slots := sw r.1 - sw π0, locals := 142 } s m args below meth c H locs (nn π - nn π0) (sw π - sw π0) (MQ below (va_Qv (fun u => gx (nn π0) g0 u) (fun u t => PostW D (TYs k) A (cW k z u r.1 r.2) t) A) args s (nn r.1 - nn π0) (sw r.1 - sw π0) A) (F0 m 72 ls [rfv g s0, rfv g 44]) := by
  have hS := hC.1
  have hq := km_Rd_header_72    hC hv_s0 hm
  rw [Rd_header_72] at hm
  refine cp_7_4 C h (sh_44 hS) cU_X6 (List.mem_cons_of_mem _ wl_X6_20) dX6_header_72 (fun H locs h => ?_)
  refine z_aload_n C dX6_header_75 rfl (lv_at hl 0 rfl) ?_
  refine cg_7_0 C h (sh_44 hS) cU_X6 (List.mem_cons_of_mem _ wl_X6_31) dX6_header_76 ?_
  obtain ⟨σ22, e23, hm⟩ := bnd_s hm
  rw [e23] at h
  have hC24 : Cl π σ22 := e23 ▸ (cl_sfR hC _ _ hv_s0)
  obtain ⟨r25, e26, hm⟩ := obd_s hm
  have q27 := (km_Sc_advance hC24 e26)
  refine c_callVvP C hE h (sh_1 hS) rfl (by decide) (kc_Sc_advance l D k z mi aK aV g N hS e26) (cwV 0 C.2.2.1 (gS_X6_88 _) rfl rfl rfl hd_X8_advance ⟨Nat.le_of_ble_eq_true rfl, Nat.le_of_ble_eq_true rfl⟩) rfl hl.1 rfl (Nat.le_of_ble_eq_true rfl) dX6_header_79 ⟨(czz hX hq.1), (szz hX hq.1)⟩ (fun H locs h => ?_)
  have hC28 : Cl π r25 := q27
  refine lv_iconst (v := Int32.ofInt 0) C.1 C.2.1 dX6_header_82 (by decide) ?_
  refine lv_istore_n (i := 1) (lv' := [(1, .int (Int32.ofInt 0)), (0, rfv g 44)]) C.1 C.2.1 dX6_header_83 rfl hl (by decide) (by simp [rfv_cat, cat_i, cat_l]) (fun ls hl => ?_)
  exact kl_Rd_header_84 (N := N) C hr hlk hE N hC28 hG hX (lv_sub hl [1, 0] rfl) h hm
set_option maxHeartbeats 8000000 in
set_option maxRecDepth 100000 in
theorem kl_Rd_header_61 {r : Sh × St} (C : Cx p s m args c cX6_header RX6 (cd :: cWd) D (TYs k) 2) (hr : meth.sig.returnType = none) (hlk : meth.locks = false) (hE : Ev z mi aK aV A s s.heap)    {ls : Array Slot} {H : Heap} {locs : List Loc} {g : Nat → Nat} {π : Sh} {σ : St} {s0 : Int} (hC : Cl π σ) (hG : gx (nn π0) g0 g) (hX : ext π0 π) (hv_s0 : s0 < nn π) (hl : lv_has ls 2 [(0, rfv g 44)]) (h : Hp D A s.heap H locs (cW k z g π σ)) (hm : Rd_header_61 N π σ s0 = some r) : W p l e { frames := 7, cells := nn r.1 - nn π0, slots := sw r.1 - sw π0, locals := 142 } s m args below meth c H locs (nn π - nn π0) (sw π - sw π0) (MQ below (va_Qv (fun u => gx (nn π0) g0 u) (fun u t => PostW D (TYs k) A (cW k z u r.1 r.2) t) A) args s (nn r.1 - nn π0) (sw r.1 - sw π0) A) (F0 m 61 ls [rfv g s0, rfv g 44]) := by
  have hS := hC.1
  have hq := km_Rd_header_61    hC hv_s0 hm
  rw [Rd_header_61] at hm
  refine lv_dup C.1 C.2.1 dX6_header_61 (rfv_cat _ _) ?_
  refine z_aload_n C dX6_header_62 rfl (lv_at hl 0 rfl) ?_
  refine cg_7_0 C h (sh_44 hS) cU_X6 (List.mem_cons_of_mem _ wl_X6_31) dX6_header_63 ?_
  refine cg_9_8 C h (sh_1 hS) cU_X8 (List.mem_cons_of_mem _ wl_X6_91) dX6_header_66 ?_
  obtain ⟨r18, e19, hm⟩ := obd_s hm
  have q20 := (km_Df_init hC hv_s0 e19)
  obtain ⟨g21, hm⟩ := grd_s hm
  have q := km_Rd_header_72   q20.2 (lt_ext hv_s0 q20.1) hm
  refine c_callIvA C hE h g21 (kc_Df_init l D k z mi aK aV g N hC hv_s0 e19) (cwI 1 C.2.2.1 (gC_X0_init _) rfl rfl rfl (C.2.2.1 _ (List.mem_cons_of_mem _ wt_X0)) (C.2.2.1 _ (List.mem_cons_of_mem _ wm_X6_17)) (C.2.2.1 _ (List.mem_cons_of_mem _ wj_X0_init)) rfl hdS_X0_init ⟨Nat.le_of_ble_eq_true rfl, Nat.le_of_ble_eq_true rfl⟩) rfl hl.1 rfl (by simp [rfv_cat, cat_i, cat_l]) dX6_header_69 ⟨rcC hX q20.1 q.1, rsC hX q20.1 q.1⟩ (fun u H locs hg h => ?_)
  simp only [← gx_rfv hg (sh_44 hS).2.1, ← gx_rfv hg hv_s0] at hl
  try simp only [← gx_rfv hg (sh_44 hS).2.1, ← gx_rfv hg hv_s0]
  refine W_cast (wcC hX q20.1).symm (wsC hX q20.1).symm ?_
  exact kl_Rd_header_72 (N := N) C hr hlk hE   q20.2 (hG.tr hg hX.1) (hX.tr q20.1) (lt_ext hv_s0 q20.1) (lv_sub hl [0] rfl) h hm
set_option maxHeartbeats 8000000 in
set_option maxRecDepth 100000 in
theorem kc_Rd_header (l : Launch) (D : va_G) (k : Nat → ClassId) (z mi : Nat) (aK aV : Nat → Nat) (g : Nat → Nat) (N : Nat)    {π : Sh} {σ : St}  {r : Sh × St} (hC : Cl π σ)  (hm : Rd_header N π σ  = some r) : Mv l yX6_header (.code yX6_header cX6_header 2 none :: cWd) { frames := 7, cells := nn r.1 - nn π, slots := sw r.1 - sw π, locals := 142 } [rfv g 44] D (TYs k) (cW k z g π σ) (XV z mi aK aV (cW k z g π σ)) (Nat → Nat) (fun u => gx (nn π) g u) (fun u => cW k z u r.1 r.2) (nn r.1 - nn π) (sw r.1 - sw π) := by
  have hS := hC.1
  have hq := km_Rd_header  hC  hm
  intro sz
  refine v_met (cc := cX6_header) (maxL := 2) (ret := none) (lv := [(0, rfv g 44)]) (by decide) rfl (by simp [lg_sl, rfv_cat, cat_i, cat_l]) (by simp [lv_args, rfv_cat, cat_i, cat_l]) ?_
  intro p e s m below meth c ls C hE hr hlk hmn hl h
  generalize ([rfv g 44] : List Value).toArray = args at C ⊢
  have hG := gx.rf (nn π) g
  have hX := ext.rf π
  refine W_cast (Nat.sub_self (nn π)) (Nat.sub_self (sw π)) ?_
  rw [Rd_header] at hm
  refine z_aload_n C dX6_header_0 rfl (lv_at hl 0 rfl) ?_
  refine cg_7_0 C h (sh_44 hS) cU_X6 (List.mem_cons_of_mem _ wl_X6_31) dX6_header_1 ?_
  refine cg_9_5 C h (sh_1 hS) cU_X8 (List.mem_cons_of_mem _ wl_X6_66) dX6_header_4 ?_
  refine lv_iconst (v := Int32.ofInt 1) C.1 C.2.1 dX6_header_7 (by decide) ?_
  obtain ⟨g1, hm⟩ := grd_s hm
  refine z_icmp_eq (tgt := 27) C dX6_header_8 (by decide) g1 (by decide) (fun c2 => ?_) (fun c2 => ?_)
  · have hm := ite_t c2 hm
    refine z_aload_n C dX6_header_27 rfl (lv_at hl 0 rfl) ?_
    refine z_aload_n C dX6_header_28 rfl (lv_at hl 0 rfl) ?_
    refine cg_7_0 C h (sh_44 hS) cU_X6 (List.mem_cons_of_mem _ wl_X6_31) dX6_header_29 ?_
    refine cg_9_8 C h (sh_1 hS) cU_X8 (List.mem_cons_of_mem _ wl_X6_91) dX6_header_32 ?_
    obtain ⟨r3, e4, hm⟩ := obd_s hm
    have q5 := (km_Rd_functionOf hC e4)
    refine c_callViP C hE h (sh_44 hS) rfl (by decide) (kc_Rd_functionOf l D k z mi aK aV g N hS e4) (cwV 1 C.2.2.1 (gS_X6_95 _) rfl rfl rfl hd_X6_functionOf ⟨Nat.le_of_ble_eq_true rfl, Nat.le_of_ble_eq_true rfl⟩) rfl hl.1 rfl (Nat.le_of_ble_eq_true rfl) dX6_header_35 ⟨(czz hX hq.1), (szz hX hq.1)⟩ (fun H locs h => ?_)
    have hC6 : Cl π r3.1 := q5
    obtain ⟨g7, hm⟩ := grd_s hm
    refine z_if_lt (tgt := 57) C dX6_header_38 (by decide) g7 (fun c8 => ?_) (fun c8 => ?_)
    · have hm := ite_t c8 hm
      refine z_aload_n C dX6_header_57 rfl (lv_at hl 0 rfl) ?_
      have q := km_Rd_header_61   ((cl_nO hC6 (by decide) (by decide) _)) lt_nO hm
      refine c_new C h hC6 (by decide) dX6_header_58 rfl cU_X0 tyX0_ok (List.mem_cons_of_mem _ wn_X6_15) (List.mem_cons_of_mem _ wi_X0) (List.mem_cons_of_mem _ wt_X0) (df_X0) (dn_X0 z) (rc1 hX q.1) (rs1 hX q.1) (fun u H hg h => ?_)
      simp only [← gx_rfv hg (sh_44 hS).2.1] at hl
      try simp only [← gx_rfv hg (sh_44 hS).2.1]
      refine W_cast (wcO (c := 1) (w := 7) hX).symm (wsO (c := 1) (w := 7) hX).symm ?_
      exact kl_Rd_header_61 (N := N) C hr hlk hE   ((cl_nO hC6 (by decide) (by decide) _)) (hG.tr hg hX.1) (hX.tr (ext_nO π 1 7)) lt_nO (lv_sub hl [0] rfl) h hm
    · have hm := ite_f c8 hm
      refine z_aload_n C dX6_header_41 rfl (lv_at hl 0 rfl) ?_
      refine cg_7_0 C h (sh_44 hS) cU_X6 (List.mem_cons_of_mem _ wl_X6_31) dX6_header_42 ?_
      refine lv_iconst (v := Int32.ofInt 2) C.1 C.2.1 dX6_header_45 (by decide) ?_
      refine z_aload_n C dX6_header_46 rfl (lv_at hl 0 rfl) ?_
      refine cg_7_0 C h (sh_44 hS) cU_X6 (List.mem_cons_of_mem _ wl_X6_31) dX6_header_47 ?_
      refine cg_9_6 C h (sh_1 hS) cU_X8 (List.mem_cons_of_mem _ wl_X6_81) dX6_header_50 ?_
      obtain ⟨r10, e11, hm⟩ := obd_s hm
      have q12 := (km_Sc_fail hC6 e11)
      refine c_callVvP C hE h (sh_1 hS) rfl (by decide) (kc_Sc_fail l D k z mi aK aV g N hS e11) (cwV 2 C.2.2.1 (gS_X6_84 _) rfl rfl rfl hd_X8_fail ⟨Nat.le_of_ble_eq_true rfl, Nat.le_of_ble_eq_true rfl⟩) rfl hl.1 rfl (Nat.le_of_ble_eq_true rfl) dX6_header_53 ⟨(czz hX hq.1), (szz hX hq.1)⟩ (fun H locs h => ?_)
      have hC13 : Cl π r10 := q12
      cases hm
      exact c_vretA C hG h hr hlk dX6_header_56
  · have hm := ite_f c2 hm
    refine z_aload_n C dX6_header_11 rfl (lv_at hl 0 rfl) ?_
    refine cg_7_0 C h (sh_44 hS) cU_X6 (List.mem_cons_of_mem _ wl_X6_31) dX6_header_12 ?_
    refine lv_iconst (v := Int32.ofInt 1) C.1 C.2.1 dX6_header_15 (by decide) ?_
    refine z_aload_n C dX6_header_16 rfl (lv_at hl 0 rfl) ?_
    refine cg_7_0 C h (sh_44 hS) cU_X6 (List.mem_cons_of_mem _ wl_X6_31) dX6_header_17 ?_
    refine cg_9_6 C h (sh_1 hS) cU_X8 (List.mem_cons_of_mem _ wl_X6_81) dX6_header_20 ?_
    obtain ⟨r14, e15, hm⟩ := obd_s hm
    have q16 := (km_Sc_fail hC e15)
    refine c_callVvP C hE h (sh_1 hS) rfl (by decide) (kc_Sc_fail l D k z mi aK aV g N hS e15) (cwV 2 C.2.2.1 (gS_X6_84 _) rfl rfl rfl hd_X8_fail ⟨Nat.le_of_ble_eq_true rfl, Nat.le_of_ble_eq_true rfl⟩) rfl hl.1 rfl (Nat.le_of_ble_eq_true rfl) dX6_header_23 ⟨(czz hX hq.1), (szz hX hq.1)⟩ (fun H locs h => ?_)
    have hC17 : Cl π r14 := q16
    cases hm
    exact c_vretA C hG h hr hlk dX6_header_26
end Z_Rd_header
section Z_Rd_line
variable {p : Program} {l : Launch} {e : Env} {s : State} {m : MethodId} {args : Array Value} {below : List Frame} {meth : Method} {c : Code} {D : va_G} {A : Nat → Prop} {k : Nat → ClassId} {N : Nat} {cd : Cond} {z mi : Nat} {aK aV : Nat → Nat} {g0 : Nat → Nat} {π0 : Sh}
set_option maxHeartbeats 8000000 in
set_option maxRecDepth 100000 in
theorem kl_Rd_line_84 {r : Sh × St × Int} (C : Cx p s m args c cX6_line RX6 (cd :: cWd) D (TYs k) 1) (hr : meth.sig.returnType = (some (.object "CycleStudio$Definition"))) (hlk : meth.locks = false) (hE : Ev z mi aK aV A s s.heap)    {ls : Array Slot} {H : Heap} {locs : List Loc} {g : Nat → Nat} {π : Sh} {σ : St}  (hC : Cl π σ) (hG : gx (nn π0) g0 g) (hX : ext π0 π)  (hl : lv_has ls 1 [(0, rfv g 44)]) (h : Hp D A s.heap H locs (cW k z g π σ)) (hm : Rd_line_84 N π σ  = some r) : W p l e { frames := 555, cells := nn r.1 - nn π0, slots := sw r.1 - sw π0, locals := 28964 } s m args below meth c H locs (nn π - nn π0) (sw π - sw π0) (MQ below (va_Qq (fun v u => gx (nn π0) g0 u ∧ v = rfo u r.2.2) (fun u t => PostW D (TYs k) A (cW k z u r.1 r.2.1) t) A) args s (nn r.1 - nn π0) (sw r.1 - sw π0) A) (F0 m 84 ls []) := by
  have hS := hC.1
  have hq := km_Rd_line_84    hC  hm
  rw [Rd_line_84] at hm
  refine z_aload_n C dX6_line_84 rfl (lv_at hl 0 rfl) ?_
  refine cg_7_0 C h (sh_44 hS) cU_X6 (List.mem_cons_of_mem _ wl_X6_31) dX6_line_85 ?_
  refine cg_9_2 C h (sh_1 hS) cU_X8 (List.mem_cons_of_mem _ wl_X6_72) dX6_line_88 ?_
  obtain ⟨g6, hm⟩ := grd_s hm
  refine z_if_eq (tgt := 96) C dX6_line_91 (by decide) g6 (fun c7 => ?_) (fun c7 => ?_)
  · have hm := ite_t c7 hm
    refine z_aload_n C dX6_line_96 rfl (lv_at hl 0 rfl) ?_
    refine cg_7_0 C h (sh_44 hS) cU_X6 (List.mem_cons_of_mem _ wl_X6_31) dX6_line_97 ?_
    obtain ⟨r8, e9, hm⟩ := obd_s hm
    have q10 := (km_Sc_advance hC e9)
    refine c_callVvP C hE h (sh_1 hS) rfl (by decide) (kc_Sc_advance l D k z mi aK aV g N hS e9) (cwV 0 C.2.2.1 (gS_X6_88 _) rfl rfl rfl hd_X8_advance ⟨Nat.le_of_ble_eq_true rfl, Nat.le_of_ble_eq_true rfl⟩) rfl hl.1 rfl (Nat.le_of_ble_eq_true rfl) dX6_line_100 ⟨(czz hX hq.1), (szz hX hq.1)⟩ (fun H locs h => ?_)
    have hC11 : Cl π r8 := q10
    refine z_aload_n C dX6_line_103 rfl (lv_at hl 0 rfl) ?_
    refine cg_7_4 C h (sh_44 hS) cU_X6 (List.mem_cons_of_mem _ wl_X6_20) dX6_line_104 ?_
    cases hm
    exact c_aretA C hG h hr hlk (Or.inl ⟨_, rfl⟩) dX6_line_107
  · have hm := ite_f c7 hm
    refine z_null (g := g) C dX6_line_94 ?_
    cases hm
    exact c_aretA C hG h hr hlk (Or.inl ⟨_, rfl⟩) dX6_line_95
set_option maxHeartbeats 8000000 in
set_option maxRecDepth 100000 in
theorem kl_Rd_line_37 {r : Sh × St × Int} (C : Cx p s m args c cX6_line RX6 (cd :: cWd) D (TYs k) 1) (hr : meth.sig.returnType = (some (.object "CycleStudio$Definition"))) (hlk : meth.locks = false) (hE : Ev z mi aK aV A s s.heap)    {ls : Array Slot} {H : Heap} {locs : List Loc} {g : Nat → Nat} {π : Sh} {σ : St}  (hC : Cl π σ) (hG : gx (nn π0) g0 g) (hX : ext π0 π)  (hl : lv_has ls 1 [(0, rfv g 44)]) (h : Hp D A s.heap H locs (cW k z g π σ)) (hm : Rd_line_37 N π σ  = some r) : W p l e { frames := 555, cells := nn r.1 - nn π0, slots := sw r.1 - sw π0, locals := 28964 } s m args below meth c H locs (nn π - nn π0) (sw π - sw π0) (MQ below (va_Qq (fun v u => gx (nn π0) g0 u ∧ v = rfo u r.2.2) (fun u t => PostW D (TYs k) A (cW k z u r.1 r.2.1) t) A) args s (nn r.1 - nn π0) (sw r.1 - sw π0) A) (F0 m 37 ls []) := by
  have hS := hC.1
  have hq := km_Rd_line_37    hC  hm
  rw [Rd_line_37] at hm
  refine z_aload_n C dX6_line_37 rfl (lv_at hl 0 rfl) ?_
  refine cg_7_0 C h (sh_44 hS) cU_X6 (List.mem_cons_of_mem _ wl_X6_31) dX6_line_38 ?_
  refine cg_9_5 C h (sh_1 hS) cU_X8 (List.mem_cons_of_mem _ wl_X6_66) dX6_line_41 ?_
  refine lv_bipush (v := Int32.ofInt 10) C.1 C.2.1 dX6_line_44 (by decide) ?_
  obtain ⟨g17, hm⟩ := grd_s hm
  refine z_icmp_eq (tgt := 84) C dX6_line_46 (by decide) g17 (by decide) (fun c18 => ?_) (fun c18 => ?_)
  · have hm := ite_t c18 hm
    exact kl_Rd_line_84 (N := N) C hr hlk hE hC hG hX (lv_sub hl [0] rfl) h hm
  · have hm := ite_f c18 hm
    refine z_aload_n C dX6_line_49 rfl (lv_at hl 0 rfl) ?_
    refine cg_7_0 C h (sh_44 hS) cU_X6 (List.mem_cons_of_mem _ wl_X6_31) dX6_line_50 ?_
    refine cg_9_5 C h (sh_1 hS) cU_X8 (List.mem_cons_of_mem _ wl_X6_66) dX6_line_53 ?_
    refine lv_bipush (v := Int32.ofInt 6) C.1 C.2.1 dX6_line_56 (by decide) ?_
    refine z_icmp_eq (tgt := 84) C dX6_line_58 (by decide) g17 (by decide) (fun c19 => ?_) (fun c19 => ?_)
    · have hm := ite_t c19 hm
      exact kl_Rd_line_84 (N := N) C hr hlk hE hC hG hX (lv_sub hl [0] rfl) h hm
    · have hm := ite_f c19 hm
      refine z_aload_n C dX6_line_61 rfl (lv_at hl 0 rfl) ?_
      refine cg_7_0 C h (sh_44 hS) cU_X6 (List.mem_cons_of_mem _ wl_X6_31) dX6_line_62 ?_
      refine lv_iconst (v := Int32.ofInt 1) C.1 C.2.1 dX6_line_65 (by decide) ?_
      refine z_aload_n C dX6_line_66 rfl (lv_at hl 0 rfl) ?_
      refine cg_7_0 C h (sh_44 hS) cU_X6 (List.mem_cons_of_mem _ wl_X6_31) dX6_line_67 ?_
      refine cg_9_6 C h (sh_1 hS) cU_X8 (List.mem_cons_of_mem _ wl_X6_81) dX6_line_70 ?_
      obtain ⟨r20, e21, hm⟩ := obd_s hm
      have q22 := (km_Sc_fail hC e21)
      refine c_callVvP C hE h (sh_1 hS) rfl (by decide) (kc_Sc_fail l D k z mi aK aV g N hS e21) (cwV 2 C.2.2.1 (gS_X6_84 _) rfl rfl rfl hd_X8_fail ⟨Nat.le_of_ble_eq_true rfl, Nat.le_of_ble_eq_true rfl⟩) rfl hl.1 rfl (Nat.le_of_ble_eq_true rfl) dX6_line_73 ⟨(czz hX hq.1), (szz hX hq.1)⟩ (fun H locs h => ?_)
      have hC23 : Cl π r20 := q22
      refine lv_goto (tgt := 84) C.1 C.2.1 dX6_line_76 (by decide) ?_
      exact kl_Rd_line_84 (N := N) C hr hlk hE hC23 hG hX (lv_sub hl [0] rfl) h hm
set_option maxHeartbeats 8000000 in
set_option maxRecDepth 100000 in
theorem kl_Rd_line_34 {r : Sh × St × Int} (C : Cx p s m args c cX6_line RX6 (cd :: cWd) D (TYs k) 1) (hr : meth.sig.returnType = (some (.object "CycleStudio$Definition"))) (hlk : meth.locks = false) (hE : Ev z mi aK aV A s s.heap)    {ls : Array Slot} {H : Heap} {locs : List Loc} {g : Nat → Nat} {π : Sh} {σ : St} {s0 : Int} {s1 : Int} (hC : Cl π σ) (hG : gx (nn π0) g0 g) (hX : ext π0 π) (hv_s1 : s1 < nn π) (hl : lv_has ls 1 [(0, rfv g 44)]) (h : Hp D A s.heap H locs (cW k z g π σ)) (hm : Rd_line_34 N π σ s0 s1 = some r) : W p l e { frames := 555, cells := nn r.1 - nn π0, slots := sw r.1 - sw π0, locals := 28964 } s m args below meth c H locs (nn π - nn π0) (sw π - sw π0) (MQ below (va_Qq (fun v u => gx (nn π0) g0 u ∧ v = rfo u r.2.2) (fun u t => PostW D (TYs k) A (cW k z u r.1 r.2.1) t) A) args s (nn r.1 - nn π0) (sw r.1 - sw π0) A) (F0 m 34 ls [.int (Int32.ofInt s0), rfv g s1]) := by
  have hS := hC.1
  have hq := km_Rd_line_34    hC hv_s1 hm
  rw [Rd_line_34] at hm
  obtain ⟨g24, hm⟩ := grd_s hm
  refine cp_1_5 C h g24 cU_X0 (List.mem_cons_of_mem _ wl_X6_78) dX6_line_34 (fun H locs h => ?_)
  exact kl_Rd_line_37 (N := N) C hr hlk hE (cl_sfI hC (f := 25) rfl _ _) hG hX (lv_sub hl [0] rfl) h hm
set_option maxHeartbeats 8000000 in
set_option maxRecDepth 100000 in
theorem kl_Rd_line_16 {r : Sh × St × Int} (C : Cx p s m args c cX6_line RX6 (cd :: cWd) D (TYs k) 1) (hr : meth.sig.returnType = (some (.object "CycleStudio$Definition"))) (hlk : meth.locks = false) (hE : Ev z mi aK aV A s s.heap)    {ls : Array Slot} {H : Heap} {locs : List Loc} {g : Nat → Nat} {π : Sh} {σ : St}  (hC : Cl π σ) (hG : gx (nn π0) g0 g) (hX : ext π0 π)  (hl : lv_has ls 1 [(0, rfv g 44)]) (h : Hp D A s.heap H locs (cW k z g π σ)) (hm : Rd_line_16 N π σ  = some r) : W p l e { frames := 555, cells := nn r.1 - nn π0, slots := sw r.1 - sw π0, locals := 28964 } s m args below meth c H locs (nn π - nn π0) (sw π - sw π0) (MQ below (va_Qq (fun v u => gx (nn π0) g0 u ∧ v = rfo u r.2.2) (fun u t => PostW D (TYs k) A (cW k z u r.1 r.2.1) t) A) args s (nn r.1 - nn π0) (sw r.1 - sw π0) A) (F0 m 16 ls []) := by
  have hS := hC.1
  have hq := km_Rd_line_16    hC  hm
  rw [Rd_line_16] at hm
  refine z_aload_n C dX6_line_16 rfl (lv_at hl 0 rfl) ?_
  refine cg_7_0 C h (sh_44 hS) cU_X6 (List.mem_cons_of_mem _ wl_X6_31) dX6_line_17 ?_
  refine cg_9_2 C h (sh_1 hS) cU_X8 (List.mem_cons_of_mem _ wl_X6_72) dX6_line_20 ?_
  obtain ⟨g12, hm⟩ := grd_s hm
  refine z_if_ne (tgt := 37) C dX6_line_23 (by decide) g12 (fun c13 => ?_) (fun c13 => ?_)
  · have hm := ite_f c13 hm
    exact kl_Rd_line_37 (N := N) C hr hlk hE hC hG hX (lv_sub hl [0] rfl) h hm
  · have hm := ite_t c13 hm
    refine z_aload_n C dX6_line_26 rfl (lv_at hl 0 rfl) ?_
    refine cg_7_4 C h (sh_44 hS) cU_X6 (List.mem_cons_of_mem _ wl_X6_20) dX6_line_27 ?_
    refine z_aload_n C dX6_line_30 rfl (lv_at hl 0 rfl) ?_
    obtain ⟨r14, e15, hm⟩ := obd_s hm
    have q16 := (km_Rd_exp km_Rd_argC km_Rd_funC hC e15)
    have q := km_Rd_line_34   q16.2 (lt_ext (cl_fl hC (f := 144) rfl 44) q16.1) hm
    refine c_callViA C hE h (sh_44 hS) rfl (by decide) (kc_Rd_exp l D k z mi aK aV g N (by decide) (by decide) km_Rd_argC (kc_Rd_argC l D k z mi aK aV N _) km_Rd_funC (kc_Rd_funC l D k z mi aK aV N _) hC e15) (cwV 0 C.2.2.1 (gS_X6_75 _) rfl rfl rfl hd_X6_exp ⟨Nat.le_of_ble_eq_true rfl, Nat.le_of_ble_eq_true rfl⟩) rfl hl.1 rfl (by simp [rfv_cat, cat_i, cat_l]) dX6_line_31 ⟨rcC hX q16.1 q.1, rsC hX q16.1 q.1⟩ (fun u H locs hg h => ?_)
    simp only [← gx_rfv hg (sh_44 hS).2.1, ← gx_rfv hg (cl_fl hC (f := 144) rfl 44)] at hl
    try simp only [← gx_rfv hg (sh_44 hS).2.1, ← gx_rfv hg (cl_fl hC (f := 144) rfl 44)]
    refine W_cast (wcC hX q16.1).symm (wsC hX q16.1).symm ?_
    exact kl_Rd_line_34 (N := N) C hr hlk hE   q16.2 (hG.tr hg hX.1) (hX.tr q16.1) (lt_ext (cl_fl hC (f := 144) rfl 44) q16.1) (lv_sub hl [0] rfl) h hm
set_option maxHeartbeats 8000000 in
set_option maxRecDepth 100000 in
theorem kc_Rd_line (l : Launch) (D : va_G) (k : Nat → ClassId) (z mi : Nat) (aK aV : Nat → Nat) (g : Nat → Nat) (N : Nat)    {π : Sh} {σ : St}  {r : Sh × St × Int} (hC : Cl π σ)  (hm : Rd_line N π σ  = some r) : Mq l yX6_line (.code yX6_line cX6_line 1 (some (.object "CycleStudio$Definition")) :: cWd) { frames := 555, cells := nn r.1 - nn π, slots := sw r.1 - sw π, locals := 28964 } [rfv g 44] D (TYs k) (cW k z g π σ) (XV z mi aK aV (cW k z g π σ)) (Nat → Nat) (fun v u => gx (nn π) g u ∧ v = rfo u r.2.2) (fun u => cW k z u r.1 r.2.1) (nn r.1 - nn π) (sw r.1 - sw π) := by
  have hS := hC.1
  have hq := km_Rd_line  hC  hm
  intro sz
  refine v_met (cc := cX6_line) (maxL := 1) (ret := (some (.object "CycleStudio$Definition"))) (lv := [(0, rfv g 44)]) (by decide) rfl (by simp [lg_sl, rfv_cat, cat_i, cat_l]) (by simp [lv_args, rfv_cat, cat_i, cat_l]) ?_
  intro p e s m below meth c ls C hE hr hlk hmn hl h
  generalize ([rfv g 44] : List Value).toArray = args at C ⊢
  have hG := gx.rf (nn π) g
  have hX := ext.rf π
  refine W_cast (Nat.sub_self (nn π)) (Nat.sub_self (sw π)) ?_
  rw [Rd_line] at hm
  refine z_aload_n C dX6_line_0 rfl (lv_at hl 0 rfl) ?_
  refine cg_7_0 C h (sh_44 hS) cU_X6 (List.mem_cons_of_mem _ wl_X6_31) dX6_line_1 ?_
  refine cg_9_5 C h (sh_1 hS) cU_X8 (List.mem_cons_of_mem _ wl_X6_66) dX6_line_4 ?_
  refine lv_bipush (v := Int32.ofInt 10) C.1 C.2.1 dX6_line_7 (by decide) ?_
  obtain ⟨g1, hm⟩ := grd_s hm
  refine z_icmp_eq (tgt := 79) C dX6_line_9 (by decide) g1 (by decide) (fun c2 => ?_) (fun c2 => ?_)
  · have hm := ite_t c2 hm
    refine z_aload_n C dX6_line_79 rfl (lv_at hl 0 rfl) ?_
    refine z_null (g := g) C dX6_line_80 ?_
    refine cp_7_4 C h (sh_44 hS) cU_X6 (List.mem_cons_of_mem _ wl_X6_20) dX6_line_81 (fun H locs h => ?_)
    exact kl_Rd_line_84 (N := N) C hr hlk hE (cl_sfR hC _ _ (lt_m1 π)) hG hX (lv_sub hl [0] rfl) h hm
  · have hm := ite_f c2 hm
    refine z_aload_n C dX6_line_12 rfl (lv_at hl 0 rfl) ?_
    obtain ⟨r3, e4, hm⟩ := obd_s hm
    have q5 := (km_Rd_header hC e4)
    have q := km_Rd_line_16   q5.2  hm
    refine c_callVvA C hE h (sh_44 hS) rfl (by decide) (kc_Rd_header l D k z mi aK aV g N hC e4) (cwV 0 C.2.2.1 (gS_X6_69 _) rfl rfl rfl hd_X6_header ⟨Nat.le_of_ble_eq_true rfl, Nat.le_of_ble_eq_true rfl⟩) rfl hl.1 rfl (Nat.le_of_ble_eq_true rfl) dX6_line_13 ⟨rcC hX q5.1 q.1, rsC hX q5.1 q.1⟩ (fun u H locs hg h => ?_)
    simp only [← gx_rfv hg (sh_44 hS).2.1] at hl
    try simp only [← gx_rfv hg (sh_44 hS).2.1]
    refine W_cast (wcC hX q5.1).symm (wsC hX q5.1).symm ?_
    exact kl_Rd_line_16 (N := N) C hr hlk hE   q5.2 (hG.tr hg hX.1) (hX.tr q5.1)  (lv_sub hl [0] rfl) h hm
end Z_Rd_line
section Z_Rd_wholeExp
variable {p : Program} {l : Launch} {e : Env} {s : State} {m : MethodId} {args : Array Value} {below : List Frame} {meth : Method} {c : Code} {D : va_G} {A : Nat → Prop} {k : Nat → ClassId} {N : Nat} {cd : Cond} {z mi : Nat} {aK aV : Nat → Nat} {g0 : Nat → Nat} {π0 : Sh}
set_option maxHeartbeats 8000000 in
set_option maxRecDepth 100000 in
theorem kl_Rd_wholeExp_94 {r : Sh × St × Int} (C : Cx p s m args c cX6_wholeExp RX6 (cd :: cWd) D (TYs k) 2) (hr : meth.sig.returnType = (some (.object "CycleStudio$Definition"))) (hlk : meth.locks = false) (hE : Ev z mi aK aV A s s.heap)    {ls : Array Slot} {H : Heap} {locs : List Loc} {g : Nat → Nat} {π : Sh} {σ : St}  (hC : Cl π σ) (hG : gx (nn π0) g0 g) (hX : ext π0 π)  (hl : lv_has ls 2 [(0, rfv g 44)]) (h : Hp D A s.heap H locs (cW k z g π σ)) (hm : Rd_wholeExp_94 N π σ  = some r) : W p l e { frames := 555, cells := nn r.1 - nn π0, slots := sw r.1 - sw π0, locals := 28964 } s m args below meth c H locs (nn π - nn π0) (sw π - sw π0) (MQ below (va_Qq (fun v u => gx (nn π0) g0 u ∧ v = rfo u r.2.2) (fun u t => PostW D (TYs k) A (cW k z u r.1 r.2.1) t) A) args s (nn r.1 - nn π0) (sw r.1 - sw π0) A) (F0 m 94 ls []) := by
  have hS := hC.1
  have hq := km_Rd_wholeExp_94    hC  hm
  rw [Rd_wholeExp_94] at hm
  refine z_aload_n C dX6_wholeExp_94 rfl (lv_at hl 0 rfl) ?_
  refine cg_7_4 C h (sh_44 hS) cU_X6 (List.mem_cons_of_mem _ wl_X6_20) dX6_wholeExp_95 ?_
  cases hm
  exact c_aretA C hG h hr hlk (Or.inl ⟨_, rfl⟩) dX6_wholeExp_98
set_option maxHeartbeats 8000000 in
set_option maxRecDepth 100000 in
theorem kl_Rd_wholeExp_67 {r : Sh × St × Int} (C : Cx p s m args c cX6_wholeExp RX6 (cd :: cWd) D (TYs k) 2) (hr : meth.sig.returnType = (some (.object "CycleStudio$Definition"))) (hlk : meth.locks = false) (hE : Ev z mi aK aV A s s.heap)    {ls : Array Slot} {H : Heap} {locs : List Loc} {g : Nat → Nat} {π : Sh} {σ : St}  (hC : Cl π σ) (hG : gx (nn π0) g0 g) (hX : ext π0 π)  (hl : lv_has ls 2 [(0, rfv g 44)]) (h : Hp D A s.heap H locs (cW k z g π σ)) (hm : Rd_wholeExp_67 N π σ  = some r) : W p l e { frames := 555, cells := nn r.1 - nn π0, slots := sw r.1 - sw π0, locals := 28964 } s m args below meth c H locs (nn π - nn π0) (sw π - sw π0) (MQ below (va_Qq (fun v u => gx (nn π0) g0 u ∧ v = rfo u r.2.2) (fun u t => PostW D (TYs k) A (cW k z u r.1 r.2.1) t) A) args s (nn r.1 - nn π0) (sw r.1 - sw π0) A) (F0 m 67 ls []) := by
  have hS := hC.1
  have hq := km_Rd_wholeExp_67    hC  hm
  rw [Rd_wholeExp_67] at hm
  refine z_aload_n C dX6_wholeExp_67 rfl (lv_at hl 0 rfl) ?_
  refine cg_7_0 C h (sh_44 hS) cU_X6 (List.mem_cons_of_mem _ wl_X6_31) dX6_wholeExp_68 ?_
  refine cg_9_5 C h (sh_1 hS) cU_X8 (List.mem_cons_of_mem _ wl_X6_66) dX6_wholeExp_71 ?_
  refine lv_bipush (v := Int32.ofInt 6) C.1 C.2.1 dX6_wholeExp_74 (by decide) ?_
  obtain ⟨g23, hm⟩ := grd_s hm
  refine z_icmp_eq (tgt := 94) C dX6_wholeExp_76 (by decide) g23 (by decide) (fun c24 => ?_) (fun c24 => ?_)
  · have hm := ite_t c24 hm
    exact kl_Rd_wholeExp_94 (N := N) C hr hlk hE hC hG hX (lv_sub hl [0] rfl) h hm
  · have hm := ite_f c24 hm
    refine z_aload_n C dX6_wholeExp_79 rfl (lv_at hl 0 rfl) ?_
    refine cg_7_0 C h (sh_44 hS) cU_X6 (List.mem_cons_of_mem _ wl_X6_31) dX6_wholeExp_80 ?_
    refine lv_iconst (v := Int32.ofInt 1) C.1 C.2.1 dX6_wholeExp_83 (by decide) ?_
    refine z_aload_n C dX6_wholeExp_84 rfl (lv_at hl 0 rfl) ?_
    refine cg_7_0 C h (sh_44 hS) cU_X6 (List.mem_cons_of_mem _ wl_X6_31) dX6_wholeExp_85 ?_
    refine cg_9_6 C h (sh_1 hS) cU_X8 (List.mem_cons_of_mem _ wl_X6_81) dX6_wholeExp_88 ?_
    obtain ⟨r25, e26, hm⟩ := obd_s hm
    have q27 := (km_Sc_fail hC e26)
    refine c_callVvP C hE h (sh_1 hS) rfl (by decide) (kc_Sc_fail l D k z mi aK aV g N hS e26) (cwV 2 C.2.2.1 (gS_X6_84 _) rfl rfl rfl hd_X8_fail ⟨Nat.le_of_ble_eq_true rfl, Nat.le_of_ble_eq_true rfl⟩) rfl hl.1 rfl (Nat.le_of_ble_eq_true rfl) dX6_wholeExp_91 ⟨(czz hX hq.1), (szz hX hq.1)⟩ (fun H locs h => ?_)
    have hC28 : Cl π r25 := q27
    exact kl_Rd_wholeExp_94 (N := N) C hr hlk hE hC28 hG hX (lv_sub hl [0] rfl) h hm
set_option maxHeartbeats 8000000 in
set_option maxRecDepth 100000 in
theorem kl_Rd_wholeExp_25 {r : Sh × St × Int} (C : Cx p s m args c cX6_wholeExp RX6 (cd :: cWd) D (TYs k) 2) (hr : meth.sig.returnType = (some (.object "CycleStudio$Definition"))) (hlk : meth.locks = false) (hE : Ev z mi aK aV A s s.heap)    (n : Nat) : ∀ {ls : Array Slot} {H : Heap} {locs : List Loc} {g : Nat → Nat} {π : Sh} {σ : St} {x1 : Int}, Cl π σ → gx (nn π0) g0 g → ext π0 π → lv_has ls 2 [(0, rfv g 44), (1, .int (Int32.ofInt x1))] → Hp D A s.heap H locs (cW k z g π σ) → Rd_wholeExp_25 N n π σ x1 = some r → W p l e { frames := 555, cells := nn r.1 - nn π0, slots := sw r.1 - sw π0, locals := 28964 } s m args below meth c H locs (nn π - nn π0) (sw π - sw π0) (MQ below (va_Qq (fun v u => gx (nn π0) g0 u ∧ v = rfo u r.2.2) (fun u t => PostW D (TYs k) A (cW k z u r.1 r.2.1) t) A) args s (nn r.1 - nn π0) (sw r.1 - sw π0) A) (F0 m 25 ls []) := by
  induction n with
  | zero => intro ls H locs g π σ x1 hC hG hX  hl h hm; cases (show none = some r from hm)
  | succ n hrec25 =>
    intro ls H locs g π σ x1 hC hG hX  hl h hm
    have hS := hC.1
    have hq := km_Rd_wholeExp_25   (n + 1) hC  hm
    have krec25 : ∀ {π : Sh} {σ : St} {x1 : Int}, Cl π σ → Rd_wholeExp_25 N n π σ x1 = some r → ext π r.1 ∧ Cl r.1 r.2.1 ∧ r.2.2 < nn r.1 := fun {_ _} {_} => km_Rd_wholeExp_25   n
    rw [Rd_wholeExp_25] at hm
    refine lv_iload_n C.1 C.2.1 dX6_wholeExp_25 rfl (lv_at hl 1 rfl) ?_
    refine lv_sipush (v := Int32.ofInt 2000) C.1 C.2.1 dX6_wholeExp_26 (by decide) ?_
    obtain ⟨g13, hm⟩ := grd_s hm
    refine z_icmp_ge (tgt := 67) C dX6_wholeExp_29 (by decide) g13 (by decide) (fun c14 => ?_) (fun c14 => ?_)
    · have hm := ite_f c14 hm
      exact kl_Rd_wholeExp_67 (N := N) C hr hlk hE hC hG hX (lv_sub hl [0] rfl) h hm
    · have hm := ite_t c14 hm
      refine z_aload_n C dX6_wholeExp_32 rfl (lv_at hl 0 rfl) ?_
      refine cg_7_0 C h (sh_44 hS) cU_X6 (List.mem_cons_of_mem _ wl_X6_31) dX6_wholeExp_33 ?_
      refine cg_9_2 C h (sh_1 hS) cU_X8 (List.mem_cons_of_mem _ wl_X6_72) dX6_wholeExp_36 ?_
      obtain ⟨g15, hm⟩ := grd_s hm
      refine z_if_ne (tgt := 67) C dX6_wholeExp_39 (by decide) g15 (fun c16 => ?_) (fun c16 => ?_)
      · have hm := ite_f c16 hm
        exact kl_Rd_wholeExp_67 (N := N) C hr hlk hE hC hG hX (lv_sub hl [0] rfl) h hm
      · have hm := ite_t c16 hm
        refine z_aload_n C dX6_wholeExp_42 rfl (lv_at hl 0 rfl) ?_
        refine cg_7_0 C h (sh_44 hS) cU_X6 (List.mem_cons_of_mem _ wl_X6_31) dX6_wholeExp_43 ?_
        refine cg_9_5 C h (sh_1 hS) cU_X8 (List.mem_cons_of_mem _ wl_X6_66) dX6_wholeExp_46 ?_
        refine lv_bipush (v := Int32.ofInt 10) C.1 C.2.1 dX6_wholeExp_49 (by decide) ?_
        obtain ⟨g17, hm⟩ := grd_s hm
        refine z_icmp_ne (tgt := 67) C dX6_wholeExp_51 (by decide) g17 (by decide) (fun c18 => ?_) (fun c18 => ?_)
        · have hm := ite_f c18 hm
          exact kl_Rd_wholeExp_67 (N := N) C hr hlk hE hC hG hX (lv_sub hl [0] rfl) h hm
        · have hm := ite_t c18 hm
          refine z_aload_n C dX6_wholeExp_54 rfl (lv_at hl 0 rfl) ?_
          refine cg_7_0 C h (sh_44 hS) cU_X6 (List.mem_cons_of_mem _ wl_X6_31) dX6_wholeExp_55 ?_
          obtain ⟨r19, e20, hm⟩ := obd_s hm
          have q21 := (km_Sc_advance hC e20)
          refine c_callVvP C hE h (sh_1 hS) rfl (by decide) (kc_Sc_advance l D k z mi aK aV g N hS e20) (cwV 0 C.2.2.1 (gS_X6_88 _) rfl rfl rfl hd_X8_advance ⟨Nat.le_of_ble_eq_true rfl, Nat.le_of_ble_eq_true rfl⟩) rfl hl.1 rfl (Nat.le_of_ble_eq_true rfl) dX6_wholeExp_58 ⟨(czz hX hq.1), (szz hX hq.1)⟩ (fun H locs h => ?_)
          have hC22 : Cl π r19 := q21
          refine lv_iinc (v := Int32.ofInt (x1 + 1)) (lv' := [(1, .int (Int32.ofInt (x1 + 1))), (0, rfv g 44)]) C.1 C.2.1 dX6_wholeExp_61 hl (k := 1) rfl (c32_add _ _) (by decide) (by simp [rfv_cat, cat_i, cat_l]) (fun ls hl => ?_)
          refine lv_goto (tgt := 25) C.1 C.2.1 dX6_wholeExp_64 (by decide) ?_
          exact hrec25 hC22 hG hX (lv_sub hl [1, 0] rfl) h hm
set_option maxHeartbeats 8000000 in
set_option maxRecDepth 100000 in
theorem kl_Rd_wholeExp_20 {r : Sh × St × Int} (C : Cx p s m args c cX6_wholeExp RX6 (cd :: cWd) D (TYs k) 2) (hr : meth.sig.returnType = (some (.object "CycleStudio$Definition"))) (hlk : meth.locks = false) (hE : Ev z mi aK aV A s s.heap)    {ls : Array Slot} {H : Heap} {locs : List Loc} {g : Nat → Nat} {π : Sh} {σ : St} {s0 : Int} {s1 : Int} (hC : Cl π σ) (hG : gx (nn π0) g0 g) (hX : ext π0 π) (hv_s1 : s1 < nn π) (hl : lv_has ls 2 [(0, rfv g 44)]) (h : Hp D A s.heap H locs (cW k z g π σ)) (hm : Rd_wholeExp_20 N π σ s0 s1 = some r) : W p l e { frames := 555, cells := nn r.1 - nn π0, slots := sw r.1 - sw π0, locals := 28964 } s m args below meth c H locs (nn π - nn π0) (sw π - sw π0) (MQ below (va_Qq (fun v u => gx (nn π0) g0 u ∧ v = rfo u r.2.2) (fun u t => PostW D (TYs k) A (cW k z u r.1 r.2.1) t) A) args s (nn r.1 - nn π0) (sw r.1 - sw π0) A) (F0 m 20 ls [.int (Int32.ofInt s0), rfv g s1]) := by
  have hS := hC.1
  have hq := km_Rd_wholeExp_20    hC hv_s1 hm
  rw [Rd_wholeExp_20] at hm
  obtain ⟨g12, hm⟩ := grd_s hm
  refine cp_1_5 C h g12 cU_X0 (List.mem_cons_of_mem _ wl_X6_78) dX6_wholeExp_20 (fun H locs h => ?_)
  refine lv_iconst (v := Int32.ofInt 0) C.1 C.2.1 dX6_wholeExp_23 (by decide) ?_
  refine lv_istore_n (i := 1) (lv' := [(1, .int (Int32.ofInt 0)), (0, rfv g 44)]) C.1 C.2.1 dX6_wholeExp_24 rfl hl (by decide) (by simp [rfv_cat, cat_i, cat_l]) (fun ls hl => ?_)
  exact kl_Rd_wholeExp_25 (N := N) C hr hlk hE N (cl_sfI hC (f := 25) rfl _ _) hG hX (lv_sub hl [1, 0] rfl) h hm
set_option maxHeartbeats 8000000 in
set_option maxRecDepth 100000 in
theorem kl_Rd_wholeExp_9 {r : Sh × St × Int} (C : Cx p s m args c cX6_wholeExp RX6 (cd :: cWd) D (TYs k) 2) (hr : meth.sig.returnType = (some (.object "CycleStudio$Definition"))) (hlk : meth.locks = false) (hE : Ev z mi aK aV A s s.heap)    {ls : Array Slot} {H : Heap} {locs : List Loc} {g : Nat → Nat} {π : Sh} {σ : St} {s0 : Int} (hC : Cl π σ) (hG : gx (nn π0) g0 g) (hX : ext π0 π) (hv_s0 : s0 < nn π) (hl : lv_has ls 2 [(0, rfv g 44)]) (h : Hp D A s.heap H locs (cW k z g π σ)) (hm : Rd_wholeExp_9 N π σ s0 = some r) : W p l e { frames := 555, cells := nn r.1 - nn π0, slots := sw r.1 - sw π0, locals := 28964 } s m args below meth c H locs (nn π - nn π0) (sw π - sw π0) (MQ below (va_Qq (fun v u => gx (nn π0) g0 u ∧ v = rfo u r.2.2) (fun u t => PostW D (TYs k) A (cW k z u r.1 r.2.1) t) A) args s (nn r.1 - nn π0) (sw r.1 - sw π0) A) (F0 m 9 ls [rfv g s0, rfv g 44]) := by
  have hS := hC.1
  have hq := km_Rd_wholeExp_9    hC hv_s0 hm
  rw [Rd_wholeExp_9] at hm
  refine cp_7_4 C h (sh_44 hS) cU_X6 (List.mem_cons_of_mem _ wl_X6_20) dX6_wholeExp_9 (fun H locs h => ?_)
  refine z_aload_n C dX6_wholeExp_12 rfl (lv_at hl 0 rfl) ?_
  refine cg_7_4 C h (sh_44 hS) cU_X6 (List.mem_cons_of_mem _ wl_X6_20) dX6_wholeExp_13 ?_
  refine x_topv (b := rfv g s0) (congrArg (rfv g) (by simp [fl, sf, se])) ?_
  refine z_aload_n C dX6_wholeExp_16 rfl (lv_at hl 0 rfl) ?_
  obtain ⟨σ6, e7, hm⟩ := bnd_s hm
  rw [e7] at h
  have hC8 : Cl π σ6 := e7 ▸ (cl_sfR hC _ _ hv_s0)
  obtain ⟨r9, e10, hm⟩ := obd_s hm
  have q11 := (km_Rd_exp km_Rd_argC km_Rd_funC hC8 e10)
  have q := km_Rd_wholeExp_20   q11.2 (lt_ext hv_s0 q11.1) hm
  refine c_callViA C hE h (sh_44 hS) rfl (by decide) (kc_Rd_exp l D k z mi aK aV g N (by decide) (by decide) km_Rd_argC (kc_Rd_argC l D k z mi aK aV N _) km_Rd_funC (kc_Rd_funC l D k z mi aK aV N _) hC8 e10) (cwV 0 C.2.2.1 (gS_X6_75 _) rfl rfl rfl hd_X6_exp ⟨Nat.le_of_ble_eq_true rfl, Nat.le_of_ble_eq_true rfl⟩) rfl hl.1 rfl (by simp [rfv_cat, cat_i, cat_l]) dX6_wholeExp_17 ⟨rcC hX q11.1 q.1, rsC hX q11.1 q.1⟩ (fun u H locs hg h => ?_)
  simp only [← gx_rfv hg (sh_44 hS).2.1, ← gx_rfv hg hv_s0] at hl
  try simp only [← gx_rfv hg (sh_44 hS).2.1, ← gx_rfv hg hv_s0]
  refine W_cast (wcC hX q11.1).symm (wsC hX q11.1).symm ?_
  exact kl_Rd_wholeExp_20 (N := N) C hr hlk hE   q11.2 (hG.tr hg hX.1) (hX.tr q11.1) (lt_ext hv_s0 q11.1) (lv_sub hl [0] rfl) h hm
set_option maxHeartbeats 8000000 in
set_option maxRecDepth 100000 in
theorem kl_Rd_wholeExp_4 {r : Sh × St × Int} (C : Cx p s m args c cX6_wholeExp RX6 (cd :: cWd) D (TYs k) 2) (hr : meth.sig.returnType = (some (.object "CycleStudio$Definition"))) (hlk : meth.locks = false) (hE : Ev z mi aK aV A s s.heap)    {ls : Array Slot} {H : Heap} {locs : List Loc} {g : Nat → Nat} {π : Sh} {σ : St} {s0 : Int} (hC : Cl π σ) (hG : gx (nn π0) g0 g) (hX : ext π0 π) (hv_s0 : s0 < nn π) (hl : lv_has ls 2 [(0, rfv g 44)]) (h : Hp D A s.heap H locs (cW k z g π σ)) (hm : Rd_wholeExp_4 N π σ s0 = some r) : W p l e { frames := 555, cells := nn r.1 - nn π0, slots := sw r.1 - sw π0, locals := 28964 } s m args below meth c H locs (nn π - nn π0) (sw π - sw π0) (MQ below (va_Qq (fun v u => gx (nn π0) g0 u ∧ v = rfo u r.2.2) (fun u t => PostW D (TYs k) A (cW k z u r.1 r.2.1) t) A) args s (nn r.1 - nn π0) (sw r.1 - sw π0) A) (F0 m 4 ls [rfv g s0, rfv g 44]) := by
  have hS := hC.1
  have hq := km_Rd_wholeExp_4    hC hv_s0 hm
  rw [Rd_wholeExp_4] at hm
  refine lv_dup C.1 C.2.1 dX6_wholeExp_4 (rfv_cat _ _) ?_
  refine lv_lconst (v := Int64.ofInt 0) C.1 C.2.1 dX6_wholeExp_5 (by decide) ?_
  obtain ⟨r2, e3, hm⟩ := obd_s hm
  have q4 := (km_Df_init hC hv_s0 e3)
  obtain ⟨g5, hm⟩ := grd_s hm
  have q := km_Rd_wholeExp_9   q4.2 (lt_ext hv_s0 q4.1) hm
  refine c_callIvA C hE h g5 (kc_Df_init l D k z mi aK aV g N hC hv_s0 e3) (cwI 1 C.2.2.1 (gC_X0_init _) rfl rfl rfl (C.2.2.1 _ (List.mem_cons_of_mem _ wt_X0)) (C.2.2.1 _ (List.mem_cons_of_mem _ wm_X6_17)) (C.2.2.1 _ (List.mem_cons_of_mem _ wj_X0_init)) rfl hdS_X0_init ⟨Nat.le_of_ble_eq_true rfl, Nat.le_of_ble_eq_true rfl⟩) rfl hl.1 rfl (by simp [rfv_cat, cat_i, cat_l]) dX6_wholeExp_6 ⟨rcC hX q4.1 q.1, rsC hX q4.1 q.1⟩ (fun u H locs hg h => ?_)
  simp only [← gx_rfv hg (sh_44 hS).2.1, ← gx_rfv hg hv_s0] at hl
  try simp only [← gx_rfv hg (sh_44 hS).2.1, ← gx_rfv hg hv_s0]
  refine W_cast (wcC hX q4.1).symm (wsC hX q4.1).symm ?_
  exact kl_Rd_wholeExp_9 (N := N) C hr hlk hE   q4.2 (hG.tr hg hX.1) (hX.tr q4.1) (lt_ext hv_s0 q4.1) (lv_sub hl [0] rfl) h hm
set_option maxHeartbeats 8000000 in
set_option maxRecDepth 100000 in
theorem kc_Rd_wholeExp (l : Launch) (D : va_G) (k : Nat → ClassId) (z mi : Nat) (aK aV : Nat → Nat) (g : Nat → Nat) (N : Nat)    {π : Sh} {σ : St}  {r : Sh × St × Int} (hC : Cl π σ)  (hm : Rd_wholeExp N π σ  = some r) : Mq l yX6_wholeExp (.code yX6_wholeExp cX6_wholeExp 2 (some (.object "CycleStudio$Definition")) :: cWd) { frames := 555, cells := nn r.1 - nn π, slots := sw r.1 - sw π, locals := 28964 } [rfv g 44] D (TYs k) (cW k z g π σ) (XV z mi aK aV (cW k z g π σ)) (Nat → Nat) (fun v u => gx (nn π) g u ∧ v = rfo u r.2.2) (fun u => cW k z u r.1 r.2.1) (nn r.1 - nn π) (sw r.1 - sw π) := by
  have hS := hC.1
  have hq := km_Rd_wholeExp  hC  hm
  intro sz
  refine v_met (cc := cX6_wholeExp) (maxL := 2) (ret := (some (.object "CycleStudio$Definition"))) (lv := [(0, rfv g 44)]) (by decide) rfl (by simp [lg_sl, rfv_cat, cat_i, cat_l]) (by simp [lv_args, rfv_cat, cat_i, cat_l]) ?_
  intro p e s m below meth c ls C hE hr hlk hmn hl h
  generalize ([rfv g 44] : List Value).toArray = args at C ⊢
  have hG := gx.rf (nn π) g
  have hX := ext.rf π
  refine W_cast (Nat.sub_self (nn π)) (Nat.sub_self (sw π)) ?_
  rw [Rd_wholeExp] at hm
  refine z_aload_n C dX6_wholeExp_0 rfl (lv_at hl 0 rfl) ?_
  have q := km_Rd_wholeExp_4   ((cl_nO hC (by decide) (by decide) _)) lt_nO hm
  refine c_new C h hC (by decide) dX6_wholeExp_1 rfl cU_X0 tyX0_ok (List.mem_cons_of_mem _ wn_X6_15) (List.mem_cons_of_mem _ wi_X0) (List.mem_cons_of_mem _ wt_X0) (df_X0) (dn_X0 z) (rc1 hX q.1) (rs1 hX q.1) (fun u H hg h => ?_)
  simp only [← gx_rfv hg (sh_44 hS).2.1] at hl
  try simp only [← gx_rfv hg (sh_44 hS).2.1]
  refine W_cast (wcO (c := 1) (w := 7) hX).symm (wsO (c := 1) (w := 7) hX).symm ?_
  exact kl_Rd_wholeExp_4 (N := N) C hr hlk hE   ((cl_nO hC (by decide) (by decide) _)) (hG.tr hg hX.1) (hX.tr (ext_nO π 1 7)) lt_nO (lv_sub hl [0] rfl) h hm
end Z_Rd_wholeExp
section Z_M_floorMod
variable {p : Program} {l : Launch} {e : Env} {s : State} {m : MethodId} {args : Array Value} {below : List Frame} {meth : Method} {c : Code} {D : va_G} {A : Nat → Prop} {k : Nat → ClassId} {N : Nat} {cd : Cond}
set_option maxHeartbeats 8000000 in
set_option maxRecDepth 100000 in
theorem kc_M_floorMod (l : Launch) (D : va_G) (k : Nat → ClassId) (N : Nat) (x0 : Int) (x2 : Int) (r : Int) (hm : M_floorMod N x0 x2 = some r) : Ml l yJ9_floorMod_f86c9 (.code yJ9_floorMod_f86c9 cJ9_floorMod_f86c9 6 (some .long) :: cWd) { frames := 0, cells := 0, slots := 0, locals := 0 } [.long (Int64.ofInt x0), .long (Int64.ofInt x2)] D (TYs k) [] (fun _ => True) Unit (fun v _ => v = Int64.ofInt r) (fun _ => []) 0 0 := by
  intro sz
  refine x_metF (cc := cJ9_floorMod_f86c9) (maxL := 6) (ret := (some .long)) (by decide +kernel) rfl (Nat.le_of_ble_eq_true rfl) ?_
  intro p e s m below meth c ls C hX hsz hr hlk hmn hl h
  have hl : lv_has ls 6 [(0, .long (Int64.ofInt x0)), (2, .long (Int64.ofInt x2))] := hl
  rw [M_floorMod] at hm
  refine lv_lload_n C.1 C.2.1 dJ9_floorMod_f86c9_0 rfl (lv_at hl 0 rfl) ?_
  refine lv_lload_n C.1 C.2.1 dJ9_floorMod_f86c9_1 rfl (lv_at hl 1 rfl) ?_
  obtain ⟨g1, hm⟩ := grd_s hm
  obtain ⟨g2, hm⟩ := grd_s hm
  obtain ⟨g3, hm⟩ := grd_s hm
  refine z_lrem C dJ9_floorMod_f86c9_2 g1 g2 g3 ?_
  obtain ⟨v4, e5, hm⟩ := bnd_s hm
  rw [e5]
  refine lv_lstore (lv' := [(4, .long (Int64.ofInt v4)), (0, .long (Int64.ofInt x0)), (2, .long (Int64.ofInt x2))]) C.1 C.2.1 dJ9_floorMod_f86c9_3 hl (by decide) rfl (fun ls hl => ?_)
  refine lv_lload_n C.1 C.2.1 dJ9_floorMod_f86c9_5 rfl (lv_at hl 1 rfl) ?_
  refine lv_lload_n C.1 C.2.1 dJ9_floorMod_f86c9_6 rfl (lv_at hl 2 rfl) ?_
  refine z_lxor C dJ9_floorMod_f86c9_7 ?_
  refine lv_lconst (v := Int64.ofInt 0) C.1 C.2.1 dJ9_floorMod_f86c9_8 (by decide) ?_
  obtain ⟨g6, hm⟩ := grd_s hm
  refine W.lcmp C.1 C.2.1 dJ9_floorMod_f86c9_9 ?_
  refine z_lcmp_ge (tgt := 25) C dJ9_floorMod_f86c9_10 (by decide) g6 (by decide) (fun c7 => ?_) (fun c7 => ?_)
  · have hm := ite_f c7 hm
    refine lv_lload C.1 C.2.1 dJ9_floorMod_f86c9_25 (lv_at hl 0 rfl) ?_
    cases hm
    exact v_lretS C h hr hlk dJ9_floorMod_f86c9_27
  · have hm := ite_t c7 hm
    refine lv_lload C.1 C.2.1 dJ9_floorMod_f86c9_13 (lv_at hl 0 rfl) ?_
    refine lv_lconst (v := Int64.ofInt 0) C.1 C.2.1 dJ9_floorMod_f86c9_15 (by decide) ?_
    obtain ⟨g8, hm⟩ := grd_s hm
    refine W.lcmp C.1 C.2.1 dJ9_floorMod_f86c9_16 ?_
    refine z_lcmp_eq (tgt := 25) C dJ9_floorMod_f86c9_17 (by decide) g8 (by decide) (fun c9 => ?_) (fun c9 => ?_)
    · have hm := ite_t c9 hm
      refine lv_lload C.1 C.2.1 dJ9_floorMod_f86c9_25 (lv_at hl 0 rfl) ?_
      cases hm
      exact v_lretS C h hr hlk dJ9_floorMod_f86c9_27
    · have hm := ite_f c9 hm
      refine lv_lload C.1 C.2.1 dJ9_floorMod_f86c9_20 (lv_at hl 0 rfl) ?_
      refine lv_lload_n C.1 C.2.1 dJ9_floorMod_f86c9_22 rfl (lv_at hl 2 rfl) ?_
      refine z_ladd C dJ9_floorMod_f86c9_23 ?_
      cases hm
      exact v_lretS C h hr hlk dJ9_floorMod_f86c9_24
end Z_M_floorMod
section Z_Rw_within
variable {p : Program} {l : Launch} {e : Env} {s : State} {m : MethodId} {args : Array Value} {below : List Frame} {meth : Method} {c : Code} {D : va_G} {A : Nat → Prop} {k : Nat → ClassId} {N : Nat} {cd : Cond} {z mi : Nat} {aK aV : Nat → Nat} {g : Nat → Nat} {π : Sh} {φ ψ : Nat}
set_option maxHeartbeats 8000000 in
set_option maxRecDepth 100000 in
theorem kc_Rw_within (l : Launch) (D : va_G) (k : Nat → ClassId) (z mi : Nat) (aK aV : Nat → Nat) (g : Nat → Nat) (N : Nat) {φ ψ : Nat} {rRow : Sh → St → Int → Int → Option St} (hφ : 12 ≤ φ) (hψ : 400 ≤ ψ) (hmrRow : ∀ {π : Sh} {σ : St} {y1 : Int} {y2 : Int} {r : St}, Cl π σ → y1 < nn π → rRow π σ y1 y2 = some r → Cl π r) (hcrRow : ∀ {g : Nat → Nat} {π : Sh} {σ : St} {y1 : Int} {y2 : Int} {r : St}, SHs π → rRow π σ y1 y2 = some r → Mv l yX7_row (.code yX7_row cX7_row 5 none :: cWd) { frames := φ, cells := 0, slots := 0, locals := ψ } [rfv g 9, rfv g y1, .long (Int64.ofInt y2)] D (TYs k) (cW k z g π σ) (XV z mi aK aV (cW k z g π σ)) Unit (fun _ => True) (fun _ => cW k z g π r) 0 0) {π : Sh} {σ : St} {x1 : Int} {x2 : Int} {x4 : Int} {x6 : Int} {r : St} (hS : SHs π) (hm : Rw_within N rRow π σ x1 x2 x4 x6 = some r) : Mv l yX7_within (.code yX7_within cX7_within 10 none :: cWd) { frames := φ + 1, cells := 0, slots := 0, locals := ψ + 24 } [rfv g 9, rfv g x1, .long (Int64.ofInt x2), .long (Int64.ofInt x4), .long (Int64.ofInt x6)] D (TYs k) (cW k z g π σ) (XV z mi aK aV (cW k z g π σ)) Unit (fun _ => True) (fun _ => cW k z g π r) 0 0 := by
  intro sz
  refine v_met (cc := cX7_within) (maxL := 10) (ret := none) (lv := [(0, rfv g 9), (1, rfv g x1), (2, .long (Int64.ofInt x2)), (4, .long (Int64.ofInt x4)), (6, .long (Int64.ofInt x6))]) (by decide) rfl (by simp [lg_sl, rfv_cat, cat_i, cat_l]) (by simp [lv_args, rfv_cat, cat_i, cat_l]) ?_
  intro p e s m below meth c ls C hE hr hlk hmn hl h
  rw [Rw_within] at hm
  refine z_aload_n C dX7_within_0 rfl (lv_at hl 0 rfl) ?_
  refine cg_8_0 C h (sh_9 hS) cU_X7 (List.mem_cons_of_mem _ wl_X7_12) dX7_within_1 ?_
  refine cg_2_6 C h (sh_10 hS) cU_X1 (List.mem_cons_of_mem _ wl_X7_28) dX7_within_4 ?_
  refine lv_istore (lv' := [(8, .int (Int32.ofInt (fl σ 46 10))), (0, rfv g 9), (1, rfv g x1), (2, .long (Int64.ofInt x2)), (4, .long (Int64.ofInt x4)), (6, .long (Int64.ofInt x6))]) C.1 C.2.1 dX7_within_7 hl (by decide) rfl (fun ls hl => ?_)
  refine z_aload_n C dX7_within_9 rfl (lv_at hl 1 rfl) ?_
  refine z_aload_n C dX7_within_10 rfl (lv_at hl 2 rfl) ?_
  obtain ⟨g1, hm⟩ := grd_s hm
  refine cg_5_1 C h g1 cU_X4 (List.mem_cons_of_mem _ wl_X7_125) dX7_within_11 ?_
  refine lv_iconst (v := Int32.ofInt 0) C.1 C.2.1 dX7_within_14 (by decide) ?_
  obtain ⟨g2, hm⟩ := grd_s hm
  obtain ⟨g3, hm⟩ := grd_s hm
  refine c_qald C h (t := 6) (by decide) rfl g2 g3 dX7_within_15 ?_
  refine lv_lload_n C.1 C.2.1 dX7_within_16 rfl (lv_at hl 3 rfl) ?_
  obtain ⟨r4, e5, hm⟩ := obd_s hm
  refine c_callVvP C hE h (sh_9 hS) rfl (by decide) (hcrRow hS e5) (cwV 2 C.2.2.1 (gS_X7_31 _) rfl rfl rfl hd_X7_row ⟨(by show φ + 1 ≤ φ + 1; omega), (by show 8 + (5 + 11) + ψ ≤ ψ + 24; omega)⟩) rfl hl.1 rfl (Nat.le_of_ble_eq_true rfl) dX7_within_17 ⟨(Nat.le_of_ble_eq_true rfl), (Nat.le_of_ble_eq_true rfl)⟩ (fun H locs h => ?_)
  refine z_aload_n C dX7_within_20 rfl (lv_at hl 1 rfl) ?_
  refine cg_8_0 C h (sh_9 hS) cU_X7 (List.mem_cons_of_mem _ wl_X7_12) dX7_within_21 ?_
  refine lv_iload C.1 C.2.1 dX7_within_24 (lv_at hl 0 rfl) ?_
  refine z_aload_n C dX7_within_26 rfl (lv_at hl 2 rfl) ?_
  refine cg_5_2 C h g1 cU_X4 (List.mem_cons_of_mem _ wl_X7_101) dX7_within_27 ?_
  refine z_aload_n C dX7_within_30 rfl (lv_at hl 2 rfl) ?_
  refine cg_5_1 C h g1 cU_X4 (List.mem_cons_of_mem _ wl_X7_125) dX7_within_31 ?_
  refine lv_iconst (v := Int32.ofInt 0) C.1 C.2.1 dX7_within_34 (by decide) ?_
  obtain ⟨g8, hm⟩ := grd_s hm
  obtain ⟨g9, hm⟩ := grd_s hm
  refine c_qald C h (t := 6) (by decide) rfl g8 g9 dX7_within_35 ?_
  obtain ⟨g10, hm⟩ := grd_s hm
  refine cg_5_2 C h g10 cU_X4 (List.mem_cons_of_mem _ wl_X7_101) dX7_within_36 ?_
  obtain ⟨g11, hm⟩ := grd_s hm
  obtain ⟨g12, hm⟩ := grd_s hm
  obtain ⟨g13, hm⟩ := grd_s hm
  refine z_ldiv C dX7_within_39 g11 g12 g13 ?_
  refine lv_lconst (v := Int64.ofInt 0) C.1 C.2.1 dX7_within_40 (by decide) ?_
  obtain ⟨r14, e15, hm⟩ := obd_s hm
  refine c_callVvP C hE h (sh_10 hS) rfl (by decide) (kc_Es_scale l D k z mi aK aV g N hS e15) (cwV 3 C.2.2.1 (gS_X7_162 _) rfl rfl rfl hd_X1_scale ⟨(by show 0 + 1 ≤ φ + 1; omega), (by show 8 + (7 + 11) + 0 ≤ ψ + 24; omega)⟩) rfl hl.1 rfl (Nat.le_of_ble_eq_true rfl) dX7_within_41 ⟨(Nat.le_of_ble_eq_true rfl), (Nat.le_of_ble_eq_true rfl)⟩ (fun H locs h => ?_)
  refine z_aload_n C dX7_within_44 rfl (lv_at hl 1 rfl) ?_
  refine cg_8_0 C h (sh_9 hS) cU_X7 (List.mem_cons_of_mem _ wl_X7_12) dX7_within_45 ?_
  refine lv_iload C.1 C.2.1 dX7_within_48 (lv_at hl 0 rfl) ?_
  refine lv_lload C.1 C.2.1 dX7_within_50 (lv_at hl 4 rfl) ?_
  refine lv_lload C.1 C.2.1 dX7_within_52 (lv_at hl 5 rfl) ?_
  refine lv_iconst (v := Int32.ofInt 0) C.1 C.2.1 dX7_within_54 (by decide) ?_
  obtain ⟨r18, e19, hm⟩ := obd_s hm
  refine c_callVvP C hE h (sh_10 hS) rfl (by decide) (kc_Es_choose l D k z mi aK aV g N hS e19) (cwV 4 C.2.2.1 (gS_X7_172 _) rfl rfl rfl hd_X1_choose ⟨(by show 1 + 1 ≤ φ + 1; omega), (by show 8 + (9 + 11) + 22 ≤ ψ + 24; omega)⟩) rfl hl.1 rfl (Nat.le_of_ble_eq_true rfl) dX7_within_55 ⟨(Nat.le_of_ble_eq_true rfl), (Nat.le_of_ble_eq_true rfl)⟩ (fun H locs h => ?_)
  refine z_aload_n C dX7_within_58 rfl (lv_at hl 1 rfl) ?_
  refine cg_8_0 C h (sh_9 hS) cU_X7 (List.mem_cons_of_mem _ wl_X7_12) dX7_within_59 ?_
  refine cg_2_6 C h (sh_10 hS) cU_X1 (List.mem_cons_of_mem _ wl_X7_28) dX7_within_62 ?_
  refine lv_istore (lv' := [(9, .int (Int32.ofInt (fl r18 46 10))), (8, .int (Int32.ofInt (fl σ 46 10))), (0, rfv g 9), (1, rfv g x1), (2, .long (Int64.ofInt x2)), (4, .long (Int64.ofInt x4)), (6, .long (Int64.ofInt x6))]) C.1 C.2.1 dX7_within_65 hl (by decide) rfl (fun ls hl => ?_)
  refine z_aload_n C dX7_within_67 rfl (lv_at hl 2 rfl) ?_
  refine z_aload_n C dX7_within_68 rfl (lv_at hl 3 rfl) ?_
  refine cg_5_1 C h g1 cU_X4 (List.mem_cons_of_mem _ wl_X7_125) dX7_within_69 ?_
  refine lv_iconst (v := Int32.ofInt 1) C.1 C.2.1 dX7_within_72 (by decide) ?_
  obtain ⟨g22, hm⟩ := grd_s hm
  obtain ⟨g23, hm⟩ := grd_s hm
  refine c_qald C h (t := 6) (by decide) rfl g22 g23 dX7_within_73 ?_
  refine lv_lload_n C.1 C.2.1 dX7_within_74 rfl (lv_at hl 4 rfl) ?_
  obtain ⟨r24, e25, hm⟩ := obd_s hm
  refine c_callVvP C hE h (sh_9 hS) rfl (by decide) (hcrRow hS e25) (cwV 2 C.2.2.1 (gS_X7_31 _) rfl rfl rfl hd_X7_row ⟨(by show φ + 1 ≤ φ + 1; omega), (by show 8 + (5 + 11) + ψ ≤ ψ + 24; omega)⟩) rfl hl.1 rfl (Nat.le_of_ble_eq_true rfl) dX7_within_75 ⟨(Nat.le_of_ble_eq_true rfl), (Nat.le_of_ble_eq_true rfl)⟩ (fun H locs h => ?_)
  refine z_aload_n C dX7_within_78 rfl (lv_at hl 2 rfl) ?_
  refine cg_8_0 C h (sh_9 hS) cU_X7 (List.mem_cons_of_mem _ wl_X7_12) dX7_within_79 ?_
  refine lv_iload C.1 C.2.1 dX7_within_82 (lv_at hl 0 rfl) ?_
  refine z_aload_n C dX7_within_84 rfl (lv_at hl 3 rfl) ?_
  refine cg_5_2 C h g1 cU_X4 (List.mem_cons_of_mem _ wl_X7_101) dX7_within_85 ?_
  refine z_aload_n C dX7_within_88 rfl (lv_at hl 3 rfl) ?_
  refine cg_5_1 C h g1 cU_X4 (List.mem_cons_of_mem _ wl_X7_125) dX7_within_89 ?_
  refine lv_iconst (v := Int32.ofInt 1) C.1 C.2.1 dX7_within_92 (by decide) ?_
  obtain ⟨g28, hm⟩ := grd_s hm
  obtain ⟨g29, hm⟩ := grd_s hm
  refine c_qald C h (t := 6) (by decide) rfl g28 g29 dX7_within_93 ?_
  obtain ⟨g30, hm⟩ := grd_s hm
  refine cg_5_2 C h g30 cU_X4 (List.mem_cons_of_mem _ wl_X7_101) dX7_within_94 ?_
  obtain ⟨g31, hm⟩ := grd_s hm
  obtain ⟨g32, hm⟩ := grd_s hm
  obtain ⟨g33, hm⟩ := grd_s hm
  refine z_ldiv C dX7_within_97 g31 g32 g33 ?_
  refine lv_lconst (v := Int64.ofInt 0) C.1 C.2.1 dX7_within_98 (by decide) ?_
  obtain ⟨r34, e35, hm⟩ := obd_s hm
  refine c_callVvP C hE h (sh_10 hS) rfl (by decide) (kc_Es_scale l D k z mi aK aV g N hS e35) (cwV 3 C.2.2.1 (gS_X7_162 _) rfl rfl rfl hd_X1_scale ⟨(by show 0 + 1 ≤ φ + 1; omega), (by show 8 + (7 + 11) + 0 ≤ ψ + 24; omega)⟩) rfl hl.1 rfl (Nat.le_of_ble_eq_true rfl) dX7_within_99 ⟨(Nat.le_of_ble_eq_true rfl), (Nat.le_of_ble_eq_true rfl)⟩ (fun H locs h => ?_)
  refine z_aload_n C dX7_within_102 rfl (lv_at hl 2 rfl) ?_
  refine cg_8_0 C h (sh_9 hS) cU_X7 (List.mem_cons_of_mem _ wl_X7_12) dX7_within_103 ?_
  refine lv_iload C.1 C.2.1 dX7_within_106 (lv_at hl 0 rfl) ?_
  refine lv_lload C.1 C.2.1 dX7_within_108 (lv_at hl 5 rfl) ?_
  refine lv_lload C.1 C.2.1 dX7_within_110 (lv_at hl 6 rfl) ?_
  refine lv_iconst (v := Int32.ofInt 1) C.1 C.2.1 dX7_within_112 (by decide) ?_
  obtain ⟨r38, e39, hm⟩ := obd_s hm
  refine c_callVvP C hE h (sh_10 hS) rfl (by decide) (kc_Es_choose l D k z mi aK aV g N hS e39) (cwV 4 C.2.2.1 (gS_X7_172 _) rfl rfl rfl hd_X1_choose ⟨(by show 1 + 1 ≤ φ + 1; omega), (by show 8 + (9 + 11) + 22 ≤ ψ + 24; omega)⟩) rfl hl.1 rfl (Nat.le_of_ble_eq_true rfl) dX7_within_113 ⟨(Nat.le_of_ble_eq_true rfl), (Nat.le_of_ble_eq_true rfl)⟩ (fun H locs h => ?_)
  refine z_aload_n C dX7_within_116 rfl (lv_at hl 2 rfl) ?_
  refine cg_8_0 C h (sh_9 hS) cU_X7 (List.mem_cons_of_mem _ wl_X7_12) dX7_within_117 ?_
  refine lv_iload C.1 C.2.1 dX7_within_120 (lv_at hl 1 rfl) ?_
  obtain ⟨r42, e43, hm⟩ := obd_s hm
  refine c_callVvP C hE h (sh_10 hS) rfl (by decide) (kc_Es_sort l D k z mi aK aV g N hS e43) (cwV 1 C.2.2.1 (gS_X7_168 _) rfl rfl rfl hd_X1_sort ⟨(by show 3 + 1 ≤ φ + 1; omega), (by show 8 + (5 + 11) + 88 ≤ ψ + 24; omega)⟩) rfl hl.1 rfl (Nat.le_of_ble_eq_true rfl) dX7_within_122 ⟨(Nat.le_of_ble_eq_true rfl), (Nat.le_of_ble_eq_true rfl)⟩ (fun H locs h => ?_)
  cases hm
  exact c_vretP C h hr hlk dX7_within_125
end Z_Rw_within
section Z_Rw_chunk
variable {p : Program} {l : Launch} {e : Env} {s : State} {m : MethodId} {args : Array Value} {below : List Frame} {meth : Method} {c : Code} {D : va_G} {A : Nat → Prop} {k : Nat → ClassId} {N : Nat} {cd : Cond} {z mi : Nat} {aK aV : Nat → Nat} {g : Nat → Nat} {π : Sh} {φ ψ : Nat}
set_option maxHeartbeats 8000000 in
set_option maxRecDepth 100000 in
theorem kc_Rw_chunk (l : Launch) (D : va_G) (k : Nat → ClassId) (z mi : Nat) (aK aV : Nat → Nat) (g : Nat → Nat) (N : Nat) {φ ψ : Nat} {rRow : Sh → St → Int → Int → Option St} (hφ : 12 ≤ φ) (hψ : 400 ≤ ψ) (hmrRow : ∀ {π : Sh} {σ : St} {y1 : Int} {y2 : Int} {r : St}, Cl π σ → y1 < nn π → rRow π σ y1 y2 = some r → Cl π r) (hcrRow : ∀ {g : Nat → Nat} {π : Sh} {σ : St} {y1 : Int} {y2 : Int} {r : St}, SHs π → rRow π σ y1 y2 = some r → Mv l yX7_row (.code yX7_row cX7_row 5 none :: cWd) { frames := φ, cells := 0, slots := 0, locals := ψ } [rfv g 9, rfv g y1, .long (Int64.ofInt y2)] D (TYs k) (cW k z g π σ) (XV z mi aK aV (cW k z g π σ)) Unit (fun _ => True) (fun _ => cW k z g π r) 0 0) {π : Sh} {σ : St} {x1 : Int} {x2 : Int} {r : St} (hS : SHs π) (hm : Rw_chunk N rRow π σ x1 x2 = some r) : Mv l yX7_chunk (.code yX7_chunk cX7_chunk 8 none :: cWd) { frames := φ + 2, cells := 0, slots := 0, locals := ψ + 53 } [rfv g 9, rfv g x1, .long (Int64.ofInt x2)] D (TYs k) (cW k z g π σ) (XV z mi aK aV (cW k z g π σ)) Unit (fun _ => True) (fun _ => cW k z g π r) 0 0 := by
  intro sz
  refine v_met (cc := cX7_chunk) (maxL := 8) (ret := none) (lv := [(0, rfv g 9), (1, rfv g x1), (2, .long (Int64.ofInt x2))]) (by decide) rfl (by simp [lg_sl, rfv_cat, cat_i, cat_l]) (by simp [lv_args, rfv_cat, cat_i, cat_l]) ?_
  intro p e s m below meth c ls C hE hr hlk hmn hl h
  rw [Rw_chunk] at hm
  refine lv_iconst (v := Int32.ofInt 1) C.1 C.2.1 dX7_chunk_0 (by decide) ?_
  refine z_aload_n C dX7_chunk_1 rfl (lv_at hl 1 rfl) ?_
  obtain ⟨g1, hm⟩ := grd_s hm
  refine cg_5_0 C h g1 cU_X4 (List.mem_cons_of_mem _ wl_X7_41) dX7_chunk_2 ?_
  obtain ⟨g2, hm⟩ := grd_s hm
  refine cg_10_2 C h g2 cU_X9 (List.mem_cons_of_mem _ wl_X7_57) dX7_chunk_5 ?_
  obtain ⟨g3, hm⟩ := grd_s hm
  refine v_max C hl.1 dX7_chunk_8 (by decide) g3 (List.mem_cons_of_mem _ wx_X7_133) (List.mem_cons_of_mem _ wxs_max) (List.mem_cons_of_mem _ wxc_max) (List.mem_cons_of_mem _ wt_Math) (by show 1 ≤ φ + 2; omega) (by simp [rfv_cat, cat_i, cat_l] <;> omega) (Nat.le_of_ble_eq_true rfl) (Nat.le_of_ble_eq_true rfl) ?_
  obtain ⟨g4, hm⟩ := grd_s hm
  refine z_i2l C dX7_chunk_11 g4 ?_
  obtain ⟨v5, e6, hm⟩ := bnd_s hm
  rw [e6]
  refine lv_lstore (lv' := [(4, .long (Int64.ofInt v5)), (0, rfv g 9), (1, rfv g x1), (2, .long (Int64.ofInt x2))]) C.1 C.2.1 dX7_chunk_12 hl (by decide) rfl (fun ls hl => ?_)
  refine lv_lload_n C.1 C.2.1 dX7_chunk_14 rfl (lv_at hl 3 rfl) ?_
  refine lv_lload C.1 C.2.1 dX7_chunk_15 (lv_at hl 0 rfl) ?_
  obtain ⟨r7, e8, hm⟩ := obd_s hm
  refine v_callSl C h (kc_M_floorMod l D k N x2 v5 r7 e8) (v_cwS 2 C.2.2.1 (gC_J9_floorMod_f86c9 _) rfl rfl rfl (C.2.2.1 _ (List.mem_cons_of_mem _ wt_J9)) (C.2.2.1 _ (List.mem_cons_of_mem _ wm_X7_88)) (C.2.2.1 _ (List.mem_cons_of_mem _ ws_J9_floorMod_f86c9)) hdS_J9_floorMod_f86c9 ⟨(by show 0 + 1 ≤ φ + 2; omega), (by show 8 + (6 + 11) + 0 ≤ ψ + 53; omega)⟩) rfl hl.1 rfl (Nat.le_of_ble_eq_true rfl) dX7_chunk_17 ⟨(Nat.le_of_ble_eq_true rfl), (Nat.le_of_ble_eq_true rfl)⟩ (fun H locs h => ?_)
  refine lv_lstore (lv' := [(6, .long (Int64.ofInt r7)), (4, .long (Int64.ofInt v5)), (0, rfv g 9), (1, rfv g x1), (2, .long (Int64.ofInt x2))]) C.1 C.2.1 dX7_chunk_20 hl (by decide) rfl (fun ls hl => ?_)
  refine z_aload_n C dX7_chunk_22 rfl (lv_at hl 2 rfl) ?_
  refine z_aload_n C dX7_chunk_23 rfl (lv_at hl 3 rfl) ?_
  refine lv_lload_n C.1 C.2.1 dX7_chunk_24 rfl (lv_at hl 4 rfl) ?_
  refine lv_lload C.1 C.2.1 dX7_chunk_25 (lv_at hl 0 rfl) ?_
  refine z_aload_n C dX7_chunk_27 rfl (lv_at hl 3 rfl) ?_
  refine cg_5_2 C h g1 cU_X4 (List.mem_cons_of_mem _ wl_X7_101) dX7_chunk_28 ?_
  refine z_lmul C dX7_chunk_31 ?_
  refine lv_lload C.1 C.2.1 dX7_chunk_32 (lv_at hl 1 rfl) ?_
  obtain ⟨r9, e10, hm⟩ := obd_s hm
  refine v_callSl C h (kc_Rw_ceiling l D k N (r7 * (fl σ 102 x1)) v5 r9 e10) (v_cwS 2 C.2.2.1 (gC_X7_ceiling _) rfl rfl rfl (C.2.2.1 _ (List.mem_cons_of_mem _ wt_X7)) (C.2.2.1 _ (List.mem_cons_of_mem _ wm_X7_104)) (C.2.2.1 _ (List.mem_cons_of_mem _ ws_X7_ceiling)) hdS_X7_ceiling ⟨(by show 1 + 1 ≤ φ + 2; omega), (by show 8 + (4 + 11) + 25 ≤ ψ + 53; omega)⟩) rfl hl.1 rfl (by simp [rfv_cat, cat_i, cat_l]) dX7_chunk_34 ⟨(Nat.le_of_ble_eq_true rfl), (Nat.le_of_ble_eq_true rfl)⟩ (fun H locs h => ?_)
  refine lv_lload C.1 C.2.1 dX7_chunk_37 (lv_at hl 0 rfl) ?_
  refine lv_lconst (v := Int64.ofInt 1) C.1 C.2.1 dX7_chunk_39 (by decide) ?_
  refine z_ladd C dX7_chunk_40 ?_
  refine z_aload_n C dX7_chunk_41 rfl (lv_at hl 3 rfl) ?_
  refine cg_5_2 C h g1 cU_X4 (List.mem_cons_of_mem _ wl_X7_101) dX7_chunk_42 ?_
  refine z_lmul C dX7_chunk_45 ?_
  refine lv_lload C.1 C.2.1 dX7_chunk_46 (lv_at hl 1 rfl) ?_
  obtain ⟨r11, e12, hm⟩ := obd_s hm
  refine v_callSl C h (kc_Rw_ceiling l D k N ((r7 + 1) * (fl σ 102 x1)) v5 r11 e12) (v_cwS 2 C.2.2.1 (gC_X7_ceiling _) rfl rfl rfl (C.2.2.1 _ (List.mem_cons_of_mem _ wt_X7)) (C.2.2.1 _ (List.mem_cons_of_mem _ wm_X7_104)) (C.2.2.1 _ (List.mem_cons_of_mem _ ws_X7_ceiling)) hdS_X7_ceiling ⟨(by show 1 + 1 ≤ φ + 2; omega), (by show 8 + (4 + 11) + 25 ≤ ψ + 53; omega)⟩) rfl hl.1 rfl (by simp [rfv_cat, cat_i, cat_l]) dX7_chunk_48 ⟨(Nat.le_of_ble_eq_true rfl), (Nat.le_of_ble_eq_true rfl)⟩ (fun H locs h => ?_)
  obtain ⟨r13, e14, hm⟩ := obd_s hm
  refine c_callVvP C hE h (sh_9 hS) rfl (by decide) (kc_Rw_within l D k z mi aK aV g N hφ hψ hmrRow hcrRow hS e14) (cwV 4 C.2.2.1 (gS_X7_113 _) rfl rfl rfl hd_X7_within ⟨(by show φ + 1 + 1 ≤ φ + 2; omega), (by show 8 + (10 + 11) + (ψ + 24) ≤ ψ + 53; omega)⟩) rfl hl.1 rfl (Nat.le_of_ble_eq_true rfl) dX7_chunk_51 ⟨(Nat.le_of_ble_eq_true rfl), (Nat.le_of_ble_eq_true rfl)⟩ (fun H locs h => ?_)
  cases hm
  exact c_vretP C h hr hlk dX7_chunk_54
end Z_Rw_chunk
section Z_Rw_draw
variable {p : Program} {l : Launch} {e : Env} {s : State} {m : MethodId} {args : Array Value} {below : List Frame} {meth : Method} {c : Code} {D : va_G} {A : Nat → Prop} {k : Nat → ClassId} {N : Nat} {cd : Cond} {z mi : Nat} {aK aV : Nat → Nat} {g : Nat → Nat} {π : Sh}
set_option maxHeartbeats 8000000 in
set_option maxRecDepth 100000 in
theorem kc_Rw_draw (l : Launch) (D : va_G) (k : Nat → ClassId) (z mi : Nat) (aK aV : Nat → Nat) (g : Nat → Nat) (N : Nat)    {π : Sh} {σ : St} {x1 : Int} {x3 : Int} {x5 : Int} {x7 : Int} {r : St × Int} (hS : SHs π) (hm : Rw_draw N π σ x1 x3 x5 x7 = some r) : Mi l yX7_draw (.code yX7_draw cX7_draw 15 (some .int) :: cWd) { frames := 1, cells := 0, slots := 0, locals := 30 } [rfv g 9, .long (Int64.ofInt x1), .long (Int64.ofInt x3), .long (Int64.ofInt x5), .int (Int32.ofInt x7)] D (TYs k) (cW k z g π σ) (XV z mi aK aV (cW k z g π σ)) Unit (fun v _ => v = Int32.ofInt r.2) (fun _ => cW k z g π r.1) 0 0 := by
  intro sz
  refine v_met (cc := cX7_draw) (maxL := 15) (ret := (some .int)) (lv := [(0, rfv g 9), (1, .long (Int64.ofInt x1)), (3, .long (Int64.ofInt x3)), (5, .long (Int64.ofInt x5)), (7, .int (Int32.ofInt x7))]) (by decide) rfl (by simp [lg_sl, rfv_cat, cat_i, cat_l]) (by simp [lv_args, rfv_cat, cat_i, cat_l]) ?_
  intro p e s m below meth c ls C hE hr hlk hmn hl h
  rw [Rw_draw] at hm
  refine lv_lload_n C.1 C.2.1 dX7_draw_0 rfl (lv_at hl 2 rfl) ?_
  refine lv_lload C.1 C.2.1 dX7_draw_1 (lv_at hl 3 rfl) ?_
  obtain ⟨r1, e2, hm⟩ := obd_s hm
  refine v_callSl C h (kc_Pt_gcd l D k N x3 x5 r1 e2) (v_cwS 2 C.2.2.1 (gC_X4_gcd _) rfl rfl rfl (C.2.2.1 _ (List.mem_cons_of_mem _ wt_X4)) (C.2.2.1 _ (List.mem_cons_of_mem _ wm_X7_220)) (C.2.2.1 _ (List.mem_cons_of_mem _ ws_X4_gcd)) hdS_X4_gcd ⟨Nat.le_of_ble_eq_true rfl, Nat.le_of_ble_eq_true rfl⟩) rfl hl.1 rfl (Nat.le_of_ble_eq_true rfl) dX7_draw_3 ⟨(Nat.le_of_ble_eq_true rfl), (Nat.le_of_ble_eq_true rfl)⟩ (fun H locs h => ?_)
  refine lv_lstore (lv' := [(8, .long (Int64.ofInt r1)), (0, rfv g 9), (1, .long (Int64.ofInt x1)), (3, .long (Int64.ofInt x3)), (5, .long (Int64.ofInt x5)), (7, .int (Int32.ofInt x7))]) C.1 C.2.1 dX7_draw_6 hl (by decide) rfl (fun ls hl => ?_)
  refine lv_lload_n C.1 C.2.1 dX7_draw_8 rfl (lv_at hl 3 rfl) ?_
  refine lv_lload C.1 C.2.1 dX7_draw_9 (lv_at hl 0 rfl) ?_
  obtain ⟨g3, hm⟩ := grd_s hm
  obtain ⟨g4, hm⟩ := grd_s hm
  obtain ⟨g5, hm⟩ := grd_s hm
  refine z_ldiv C dX7_draw_11 g3 g4 g5 ?_
  obtain ⟨v6, e7, hm⟩ := bnd_s hm
  rw [e7]
  refine lv_lstore (lv' := [(10, .long (Int64.ofInt v6)), (8, .long (Int64.ofInt r1)), (0, rfv g 9), (1, .long (Int64.ofInt x1)), (3, .long (Int64.ofInt x3)), (5, .long (Int64.ofInt x5)), (7, .int (Int32.ofInt x7))]) C.1 C.2.1 dX7_draw_12 hl (by decide) rfl (fun ls hl => ?_)
  refine lv_lload C.1 C.2.1 dX7_draw_14 (lv_at hl 5 rfl) ?_
  refine lv_lload C.1 C.2.1 dX7_draw_16 (lv_at hl 1 rfl) ?_
  obtain ⟨g8, hm⟩ := grd_s hm
  refine z_ldiv C dX7_draw_18 g8 g4 g5 ?_
  obtain ⟨v9, e10, hm⟩ := bnd_s hm
  rw [e10]
  refine lv_lstore (lv' := [(12, .long (Int64.ofInt v9)), (10, .long (Int64.ofInt v6)), (8, .long (Int64.ofInt r1)), (0, rfv g 9), (1, .long (Int64.ofInt x1)), (3, .long (Int64.ofInt x3)), (5, .long (Int64.ofInt x5)), (7, .int (Int32.ofInt x7))]) C.1 C.2.1 dX7_draw_19 hl (by decide) rfl (fun ls hl => ?_)
  refine z_aload_n C dX7_draw_21 rfl (lv_at hl 3 rfl) ?_
  refine cg_8_1 C h (sh_9 hS) cU_X7 (List.mem_cons_of_mem _ wl_X7_18) dX7_draw_22 ?_
  obtain ⟨g11, hm⟩ := grd_s hm
  refine z_i2l C dX7_draw_25 g11 ?_
  refine lv_ldc2 (v := 9973) C.1 C.2.1 C.2.2.2.1 (C.2.2.1 _ (List.mem_cons_of_mem _ wk_X7_223)) dX7_draw_26 ?_
  refine x_topl (y := Int64.ofInt 9973) (by decide) ?_
  refine lv_lload_n C.1 C.2.1 dX7_draw_29 rfl (lv_at hl 4 rfl) ?_
  refine z_lmul C dX7_draw_30 ?_
  refine z_ladd C dX7_draw_31 ?_
  refine lv_ldc2 (v := 7919) C.1 C.2.1 C.2.2.2.1 (C.2.2.1 _ (List.mem_cons_of_mem _ wk_X7_225)) dX7_draw_32 ?_
  refine x_topl (y := Int64.ofInt 7919) (by decide) ?_
  refine lv_lload C.1 C.2.1 dX7_draw_35 (lv_at hl 1 rfl) ?_
  refine z_lmul C dX7_draw_37 ?_
  refine z_ladd C dX7_draw_38 ?_
  refine lv_ldc2 (v := 104729) C.1 C.2.1 C.2.2.2.1 (C.2.2.1 _ (List.mem_cons_of_mem _ wk_X7_227)) dX7_draw_39 ?_
  refine x_topl (y := Int64.ofInt 104729) (by decide) ?_
  refine lv_lload C.1 C.2.1 dX7_draw_42 (lv_at hl 0 rfl) ?_
  refine z_lmul C dX7_draw_44 ?_
  refine z_ladd C dX7_draw_45 ?_
  refine lv_iload C.1 C.2.1 dX7_draw_46 (lv_at hl 7 rfl) ?_
  obtain ⟨g12, hm⟩ := grd_s hm
  refine z_i2l C dX7_draw_48 g12 ?_
  refine z_ladd C dX7_draw_49 ?_
  refine z_l2i C dX7_draw_50 ?_
  obtain ⟨v13, e14, hm⟩ := bnd_s hm
  rw [e14]
  refine lv_istore (lv' := [(14, .int (Int32.ofInt v13)), (12, .long (Int64.ofInt v9)), (10, .long (Int64.ofInt v6)), (8, .long (Int64.ofInt r1)), (0, rfv g 9), (1, .long (Int64.ofInt x1)), (3, .long (Int64.ofInt x3)), (5, .long (Int64.ofInt x5)), (7, .int (Int32.ofInt x7))]) C.1 C.2.1 dX7_draw_51 hl (by decide) rfl (fun ls hl => ?_)
  refine lv_iload C.1 C.2.1 dX7_draw_53 (lv_at hl 0 rfl) ?_
  refine lv_iload C.1 C.2.1 dX7_draw_55 (lv_at hl 0 rfl) ?_
  refine lv_bipush (v := Int32.ofInt 15) C.1 C.2.1 dX7_draw_57 (by decide) ?_
  refine z_iushr C dX7_draw_59 ?_
  refine z_ixor C dX7_draw_60 ?_
  obtain ⟨v15, e16, hm⟩ := bnd_s hm
  rw [e16]
  refine lv_istore (lv' := [(14, .int (Int32.ofInt v15)), (12, .long (Int64.ofInt v9)), (10, .long (Int64.ofInt v6)), (8, .long (Int64.ofInt r1)), (0, rfv g 9), (1, .long (Int64.ofInt x1)), (3, .long (Int64.ofInt x3)), (5, .long (Int64.ofInt x5)), (7, .int (Int32.ofInt x7))]) C.1 C.2.1 dX7_draw_61 hl (by decide) rfl (fun ls hl => ?_)
  refine lv_iload C.1 C.2.1 dX7_draw_63 (lv_at hl 0 rfl) ?_
  refine lv_ldc (v := 668265263) C.1 C.2.1 C.2.2.2.1 (C.2.2.1 _ (List.mem_cons_of_mem _ wk_X7_229)) dX7_draw_65 ?_
  refine x_topi (y := Int32.ofInt 668265263) (by decide) ?_
  refine z_imul C dX7_draw_67 ?_
  obtain ⟨v17, e18, hm⟩ := bnd_s hm
  rw [e18]
  refine lv_istore (lv' := [(14, .int (Int32.ofInt v17)), (12, .long (Int64.ofInt v9)), (10, .long (Int64.ofInt v6)), (8, .long (Int64.ofInt r1)), (0, rfv g 9), (1, .long (Int64.ofInt x1)), (3, .long (Int64.ofInt x3)), (5, .long (Int64.ofInt x5)), (7, .int (Int32.ofInt x7))]) C.1 C.2.1 dX7_draw_68 hl (by decide) rfl (fun ls hl => ?_)
  refine lv_iload C.1 C.2.1 dX7_draw_70 (lv_at hl 0 rfl) ?_
  refine lv_iload C.1 C.2.1 dX7_draw_72 (lv_at hl 0 rfl) ?_
  refine lv_bipush (v := Int32.ofInt 13) C.1 C.2.1 dX7_draw_74 (by decide) ?_
  refine z_iushr C dX7_draw_76 ?_
  refine z_ixor C dX7_draw_77 ?_
  obtain ⟨v19, e20, hm⟩ := bnd_s hm
  rw [e20]
  refine lv_istore (lv' := [(14, .int (Int32.ofInt v19)), (12, .long (Int64.ofInt v9)), (10, .long (Int64.ofInt v6)), (8, .long (Int64.ofInt r1)), (0, rfv g 9), (1, .long (Int64.ofInt x1)), (3, .long (Int64.ofInt x3)), (5, .long (Int64.ofInt x5)), (7, .int (Int32.ofInt x7))]) C.1 C.2.1 dX7_draw_78 hl (by decide) rfl (fun ls hl => ?_)
  refine lv_iload C.1 C.2.1 dX7_draw_80 (lv_at hl 0 rfl) ?_
  refine lv_ldc (v := 1048575) C.1 C.2.1 C.2.2.2.1 (C.2.2.1 _ (List.mem_cons_of_mem _ wk_X7_230)) dX7_draw_82 ?_
  refine x_topi (y := Int32.ofInt 1048575) (by decide) ?_
  refine z_iand C dX7_draw_84 ?_
  refine lv_sipush (v := Int32.ofInt 1000) C.1 C.2.1 dX7_draw_85 (by decide) ?_
  obtain ⟨g21, hm⟩ := grd_s hm
  refine z_irem C dX7_draw_88 g21 (by decide) (by decide) ?_
  cases hm
  exact c_iretP C h hr hlk dX7_draw_89 rfl
end Z_Rw_draw
