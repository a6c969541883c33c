section Z_Rw_draws
variable {p : Program} {l : Launch} {e : Env} {s : State} {m : MethodId} {args : Array Value} {below : List Frame} {meth : Method} {c : Code} {D : va_G} {A : Nat → Prop} {k : Nat → ClassId} {N : Nat} {cd : Cond} {z mi : Nat} {aK aV : Nat → Nat} {g : Nat → Nat} {π : Sh} {φ ψ : Nat}
set_option maxHeartbeats 8000000 in
set_option maxRecDepth 100000 in
theorem kl_Rw_draws_119 {r : St} (C : Cx p s m args c cX7_draws RX7 (cd :: cWd) D (TYs k) 8) (hr : meth.sig.returnType = none) (hlk : meth.locks = false) (hE : Ev z mi aK aV A s s.heap) (hS : SHs π) {rRow : Sh → St → Int → Int → Option St} (hφ : 12 ≤ φ) (hψ : 400 ≤ ψ) (hmrRow : ∀ {π : Sh} {σ : St} {y1 : Int} {y2 : Int} {r : St}, Cl π σ → y1 < nn π → rRow π σ y1 y2 = some r → Cl π r) (hcrRow : ∀ {g : Nat → Nat} {π : Sh} {σ : St} {y1 : Int} {y2 : Int} {r : St}, SHs π → rRow π σ y1 y2 = some r → Mv l yX7_row (.code yX7_row cX7_row 5 none :: cWd) { frames := φ, cells := 0, slots := 0, locals := ψ } [rfv g 9, rfv g y1, .long (Int64.ofInt y2)] D (TYs k) (cW k z g π σ) (XV z mi aK aV (cW k z g π σ)) Unit (fun _ => True) (fun _ => cW k z g π r) 0 0) {rec43 : St → Int → Int → Int → Int → Int → Option St} (hrec43 : ∀ {ls : Array Slot} {H : Heap} {locs : List Loc} {σ : St} {x1 : Int} {x2 : Int} {x4 : Int} {x5 : Int} {x6 : Int}, lv_has ls 8 [(0, rfv g 9), (1, rfv g x1), (2, .long (Int64.ofInt x2)), (4, .int (Int32.ofInt x4)), (5, .int (Int32.ofInt x5)), (6, .int (Int32.ofInt x6))] → Hp D A s.heap H locs (cW k z g π σ) → rec43 σ x1 x2 x4 x5 x6 = some r → W p l e { frames := φ + 1, cells := 0, slots := 0, locals := ψ + 24 } s m args below meth c H locs 0 0 (MQ below (va_Qv (fun (_ : Unit) => True) (fun _ t => PostW D (TYs k) A (cW k z g π r) t) A) args s 0 0 A) (F0 m 43 ls [])) {ls : Array Slot} {H : Heap} {locs : List Loc} {σ : St} {x1 : Int} {x2 : Int} {x4 : Int} {x5 : Int} {x6 : Int} {s0 : Int} {s1 : Int}  (hl : lv_has ls 8 [(0, rfv g 9), (1, rfv g x1), (2, .long (Int64.ofInt x2)), (4, .int (Int32.ofInt x4)), (5, .int (Int32.ofInt x5)), (6, .int (Int32.ofInt x6))]) (h : Hp D A s.heap H locs (cW k z g π σ)) (hm : Rw_draws_119 N rRow π rec43 σ x1 x2 x4 x5 x6 s0 s1 = some r) : W p l e { frames := φ + 1, cells := 0, slots := 0, locals := ψ + 24 } s m args below meth c H locs 0 0 (MQ below (va_Qv (fun (_ : Unit) => True) (fun _ t => PostW D (TYs k) A (cW k z g π r) t) A) args s 0 0 A) (F0 m 119 ls [.int (Int32.ofInt s0), .int (Int32.ofInt s1), rfv g 16]) := by
  rw [Rw_draws_119] at hm
  obtain ⟨g32, hm⟩ := grd_s hm
  refine c_iast C h (sh_16 hS) (ina_inb (n := 6000) (sl_16 hS) (Nat.le_of_ble_eq_true rfl) g32) dX7_draws_119 (fun H locs h => ?_)
  refine lv_iinc (v := Int32.ofInt (x6 + 1)) (lv' := [(6, .int (Int32.ofInt (x6 + 1))), (0, rfv g 9), (1, rfv g x1), (2, .long (Int64.ofInt x2)), (4, .int (Int32.ofInt x4)), (5, .int (Int32.ofInt x5))]) C.1 C.2.1 dX7_draws_120 hl (k := 5) rfl (c32_add _ _) (by decide) rfl (fun ls hl => ?_)
  refine lv_goto (tgt := 43) C.1 C.2.1 dX7_draws_123 (by decide) ?_
  exact hrec43 (lv_sub hl [1, 2, 3, 4, 5, 0] rfl) h hm
set_option maxHeartbeats 8000000 in
set_option maxRecDepth 100000 in
theorem kl_Rw_draws_96 {r : St} (C : Cx p s m args c cX7_draws RX7 (cd :: cWd) D (TYs k) 8) (hr : meth.sig.returnType = none) (hlk : meth.locks = false) (hE : Ev z mi aK aV A s s.heap) (hS : SHs π) {rRow : Sh → St → Int → Int → Option St} (hφ : 12 ≤ φ) (hψ : 400 ≤ ψ) (hmrRow : ∀ {π : Sh} {σ : St} {y1 : Int} {y2 : Int} {r : St}, Cl π σ → y1 < nn π → rRow π σ y1 y2 = some r → Cl π r) (hcrRow : ∀ {g : Nat → Nat} {π : Sh} {σ : St} {y1 : Int} {y2 : Int} {r : St}, SHs π → rRow π σ y1 y2 = some r → Mv l yX7_row (.code yX7_row cX7_row 5 none :: cWd) { frames := φ, cells := 0, slots := 0, locals := ψ } [rfv g 9, rfv g y1, .long (Int64.ofInt y2)] D (TYs k) (cW k z g π σ) (XV z mi aK aV (cW k z g π σ)) Unit (fun _ => True) (fun _ => cW k z g π r) 0 0) {rec43 : St → Int → Int → Int → Int → Int → Option St} (hrec43 : ∀ {ls : Array Slot} {H : Heap} {locs : List Loc} {σ : St} {x1 : Int} {x2 : Int} {x4 : Int} {x5 : Int} {x6 : Int}, lv_has ls 8 [(0, rfv g 9), (1, rfv g x1), (2, .long (Int64.ofInt x2)), (4, .int (Int32.ofInt x4)), (5, .int (Int32.ofInt x5)), (6, .int (Int32.ofInt x6))] → Hp D A s.heap H locs (cW k z g π σ) → rec43 σ x1 x2 x4 x5 x6 = some r → W p l e { frames := φ + 1, cells := 0, slots := 0, locals := ψ + 24 } s m args below meth c H locs 0 0 (MQ below (va_Qv (fun (_ : Unit) => True) (fun _ t => PostW D (TYs k) A (cW k z g π r) t) A) args s 0 0 A) (F0 m 43 ls [])) {ls : Array Slot} {H : Heap} {locs : List Loc} {σ : St} {x1 : Int} {x2 : Int} {x4 : Int} {x5 : Int} {x6 : Int} {s0 : Int}  (hl : lv_has ls 8 [(0, rfv g 9), (1, rfv g x1), (2, .long (Int64.ofInt x2)), (4, .int (Int32.ofInt x4)), (5, .int (Int32.ofInt x5)), (6, .int (Int32.ofInt x6))]) (h : Hp D A s.heap H locs (cW k z g π σ)) (hm : Rw_draws_96 N rRow π rec43 σ x1 x2 x4 x5 x6 s0 = some r) : W p l e { frames := φ + 1, cells := 0, slots := 0, locals := ψ + 24 } s m args below meth c H locs 0 0 (MQ below (va_Qv (fun (_ : Unit) => True) (fun _ t => PostW D (TYs k) A (cW k z g π r) t) A) args s 0 0 A) (F0 m 96 ls [.int (Int32.ofInt s0)]) := by
  rw [Rw_draws_96] at hm
  refine lv_istore (lv' := [(7, .int (Int32.ofInt s0)), (0, rfv g 9), (1, rfv g x1), (2, .long (Int64.ofInt x2)), (4, .int (Int32.ofInt x4)), (5, .int (Int32.ofInt x5)), (6, .int (Int32.ofInt x6))]) C.1 C.2.1 dX7_draws_96 hl (by decide) rfl (fun ls hl => ?_)
  refine z_aload_n C dX7_draws_98 rfl (lv_at hl 1 rfl) ?_
  refine cg_8_0 C h (sh_9 hS) cU_X7 (List.mem_cons_of_mem _ wl_X7_12) dX7_draws_99 ?_
  refine cg_2_5 C h (sh_10 hS) cU_X1 (List.mem_cons_of_mem _ wl_X7_214) dX7_draws_102 ?_
  refine lv_iload C.1 C.2.1 dX7_draws_105 (lv_at hl 6 rfl) ?_
  refine lv_iload C.1 C.2.1 dX7_draws_107 (lv_at hl 0 rfl) ?_
  refine lv_iload C.1 C.2.1 dX7_draws_109 (lv_at hl 5 rfl) ?_
  obtain ⟨g29, hm⟩ := grd_s hm
  obtain ⟨g30, hm⟩ := grd_s hm
  refine z_icmp_ne (tgt := 118) C dX7_draws_111 (by decide) g29 g30 (fun c31 => ?_) (fun c31 => ?_)
  · have hm := ite_f c31 hm
    refine lv_iconst (v := Int32.ofInt 2) C.1 C.2.1 dX7_draws_118 (by decide) ?_
    exact kl_Rw_draws_119 (N := N) C hr hlk hE hS hφ hψ hmrRow hcrRow hrec43 (lv_sub hl [1, 2, 3, 4, 5, 6] rfl) h hm
  · have hm := ite_t c31 hm
    refine lv_iconst (v := Int32.ofInt 1) C.1 C.2.1 dX7_draws_114 (by decide) ?_
    refine lv_goto (tgt := 119) C.1 C.2.1 dX7_draws_115 (by decide) ?_
    exact kl_Rw_draws_119 (N := N) C hr hlk hE hS hφ hψ hmrRow hcrRow hrec43 (lv_sub hl [1, 2, 3, 4, 5, 6] rfl) h hm
set_option maxHeartbeats 8000000 in
set_option maxRecDepth 100000 in
theorem kl_Rw_draws_43 {r : St} (C : Cx p s m args c cX7_draws RX7 (cd :: cWd) D (TYs k) 8) (hr : meth.sig.returnType = none) (hlk : meth.locks = false) (hE : Ev z mi aK aV A s s.heap) (hS : SHs π) {rRow : Sh → St → Int → Int → Option St} (hφ : 12 ≤ φ) (hψ : 400 ≤ ψ) (hmrRow : ∀ {π : Sh} {σ : St} {y1 : Int} {y2 : Int} {r : St}, Cl π σ → y1 < nn π → rRow π σ y1 y2 = some r → Cl π r) (hcrRow : ∀ {g : Nat → Nat} {π : Sh} {σ : St} {y1 : Int} {y2 : Int} {r : St}, SHs π → rRow π σ y1 y2 = some r → Mv l yX7_row (.code yX7_row cX7_row 5 none :: cWd) { frames := φ, cells := 0, slots := 0, locals := ψ } [rfv g 9, rfv g y1, .long (Int64.ofInt y2)] D (TYs k) (cW k z g π σ) (XV z mi aK aV (cW k z g π σ)) Unit (fun _ => True) (fun _ => cW k z g π r) 0 0)  (n : Nat) : ∀ {ls : Array Slot} {H : Heap} {locs : List Loc} {σ : St} {x1 : Int} {x2 : Int} {x4 : Int} {x5 : Int} {x6 : Int}, lv_has ls 8 [(0, rfv g 9), (1, rfv g x1), (2, .long (Int64.ofInt x2)), (4, .int (Int32.ofInt x4)), (5, .int (Int32.ofInt x5)), (6, .int (Int32.ofInt x6))] → Hp D A s.heap H locs (cW k z g π σ) → Rw_draws_43 N rRow π n σ x1 x2 x4 x5 x6 = some r → W p l e { frames := φ + 1, cells := 0, slots := 0, locals := ψ + 24 } s m args below meth c H locs 0 0 (MQ below (va_Qv (fun (_ : Unit) => True) (fun _ t => PostW D (TYs k) A (cW k z g π r) t) A) args s 0 0 A) (F0 m 43 ls []) := by
  induction n with
  | zero => intro ls H locs σ x1 x2 x4 x5 x6  hl h hm; cases (show none = some r from hm)
  | succ n hrec43 =>
    intro ls H locs σ x1 x2 x4 x5 x6  hl h hm
    rw [Rw_draws_43] at hm
    refine lv_iload C.1 C.2.1 dX7_draws_43 (lv_at hl 5 rfl) ?_
    refine z_aload_n C dX7_draws_45 rfl (lv_at hl 0 rfl) ?_
    refine cg_8_0 C h (sh_9 hS) cU_X7 (List.mem_cons_of_mem _ wl_X7_12) dX7_draws_46 ?_
    refine cg_2_6 C h (sh_10 hS) cU_X1 (List.mem_cons_of_mem _ wl_X7_28) dX7_draws_49 ?_
    obtain ⟨g11, hm⟩ := grd_s hm
    obtain ⟨g12, hm⟩ := grd_s hm
    refine z_icmp_ge (tgt := 126) C dX7_draws_52 (by decide) g11 g12 (fun c13 => ?_) (fun c13 => ?_)
    · have hm := ite_f c13 hm
      refine z_aload_n C dX7_draws_126 rfl (lv_at hl 0 rfl) ?_
      refine cg_8_0 C h (sh_9 hS) cU_X7 (List.mem_cons_of_mem _ wl_X7_12) dX7_draws_127 ?_
      refine lv_iload C.1 C.2.1 dX7_draws_130 (lv_at hl 3 rfl) ?_
      refine lv_iconst (v := Int32.ofInt 1) C.1 C.2.1 dX7_draws_132 (by decide) ?_
      obtain ⟨r14, e15, hm⟩ := obd_s hm
      refine c_callVvP C hE h (sh_10 hS) rfl (by decide) (kc_Es_chooseMarked l D k z mi aK aV g N hS e15) (cwV 2 C.2.2.1 (gS_X7_217 _) rfl rfl rfl hd_X1_chooseMarked ⟨(by show 1 + 1 ≤ φ + 1; omega), (by show 8 + (5 + 11) + 22 ≤ ψ + 24; omega)⟩) rfl hl.1 rfl (Nat.le_of_ble_eq_true rfl) dX7_draws_133 ⟨(Nat.le_of_ble_eq_true rfl), (Nat.le_of_ble_eq_true rfl)⟩ (fun H locs h => ?_)
      cases hm
      exact c_vretP C h hr hlk dX7_draws_136
    · have hm := ite_t c13 hm
      refine z_aload_n C dX7_draws_55 rfl (lv_at hl 0 rfl) ?_
      refine lv_lload_n C.1 C.2.1 dX7_draws_56 rfl (lv_at hl 2 rfl) ?_
      refine z_aload_n C dX7_draws_57 rfl (lv_at hl 0 rfl) ?_
      refine cg_8_0 C h (sh_9 hS) cU_X7 (List.mem_cons_of_mem _ wl_X7_12) dX7_draws_58 ?_
      refine cg_2_0 C h (sh_10 hS) cU_X1 (List.mem_cons_of_mem _ wl_X7_148) dX7_draws_61 ?_
      refine lv_iload C.1 C.2.1 dX7_draws_64 (lv_at hl 5 rfl) ?_
      obtain ⟨g18, hm⟩ := grd_s hm
      refine c_lald C h (sh_11 hS) (ina_inb (n := 6000) (sl_11 hS) (Nat.le_of_ble_eq_true rfl) g18) dX7_draws_66 ?_
      refine z_aload_n C dX7_draws_67 rfl (lv_at hl 1 rfl) ?_
      obtain ⟨g19, hm⟩ := grd_s hm
      refine cg_5_2 C h g19 cU_X4 (List.mem_cons_of_mem _ wl_X7_101) dX7_draws_68 ?_
      refine z_aload_n C dX7_draws_71 rfl (lv_at hl 1 rfl) ?_
      refine cg_5_0 C h g19 cU_X4 (List.mem_cons_of_mem _ wl_X7_41) dX7_draws_72 ?_
      obtain ⟨g20, hm⟩ := grd_s hm
      refine cg_10_3 C h g20 cU_X9 (List.mem_cons_of_mem _ wl_X7_78) dX7_draws_75 ?_
      obtain ⟨r21, e22, hm⟩ := obd_s hm
      refine c_callViP C hE h (sh_9 hS) rfl (by decide) (kc_Rw_draw l D k z mi aK aV g N hS e22) (cwV 4 C.2.2.1 (gS_X7_210 _) rfl rfl rfl hd_X7_draw ⟨(by show 1 + 1 ≤ φ + 1; omega), (by show 8 + (15 + 11) + 30 ≤ ψ + 24; omega)⟩) rfl hl.1 rfl (Nat.le_of_ble_eq_true rfl) dX7_draws_78 ⟨(Nat.le_of_ble_eq_true rfl), (Nat.le_of_ble_eq_true rfl)⟩ (fun H locs h => ?_)
      refine z_aload_n C dX7_draws_81 rfl (lv_at hl 1 rfl) ?_
      refine cg_5_0 C h g19 cU_X4 (List.mem_cons_of_mem _ wl_X7_41) dX7_draws_82 ?_
      obtain ⟨g25, hm⟩ := grd_s hm
      refine cg_10_2 C h g25 cU_X9 (List.mem_cons_of_mem _ wl_X7_57) dX7_draws_85 ?_
      obtain ⟨g26, hm⟩ := grd_s hm
      obtain ⟨g27, hm⟩ := grd_s hm
      refine z_icmp_ge (tgt := 95) C dX7_draws_88 (by decide) g26 g27 (fun c28 => ?_) (fun c28 => ?_)
      · have hm := ite_f c28 hm
        refine lv_iconst (v := Int32.ofInt 0) C.1 C.2.1 dX7_draws_95 (by decide) ?_
        exact kl_Rw_draws_96 (N := N) C hr hlk hE hS hφ hψ hmrRow hcrRow hrec43 (lv_sub hl [0, 1, 2, 3, 4, 5] rfl) h hm
      · have hm := ite_t c28 hm
        refine lv_iconst (v := Int32.ofInt 1) C.1 C.2.1 dX7_draws_91 (by decide) ?_
        refine lv_goto (tgt := 96) C.1 C.2.1 dX7_draws_92 (by decide) ?_
        exact kl_Rw_draws_96 (N := N) C hr hlk hE hS hφ hψ hmrRow hcrRow hrec43 (lv_sub hl [0, 1, 2, 3, 4, 5] rfl) h hm
set_option maxHeartbeats 8000000 in
set_option maxRecDepth 100000 in
theorem kl_Rw_draws_37 {r : St} (C : Cx p s m args c cX7_draws RX7 (cd :: cWd) D (TYs k) 8) (hr : meth.sig.returnType = none) (hlk : meth.locks = false) (hE : Ev z mi aK aV A s s.heap) (hS : SHs π) {rRow : Sh → St → Int → Int → Option St} (hφ : 12 ≤ φ) (hψ : 400 ≤ ψ) (hmrRow : ∀ {π : Sh} {σ : St} {y1 : Int} {y2 : Int} {r : St}, Cl π σ → y1 < nn π → rRow π σ y1 y2 = some r → Cl π r) (hcrRow : ∀ {g : Nat → Nat} {π : Sh} {σ : St} {y1 : Int} {y2 : Int} {r : St}, SHs π → rRow π σ y1 y2 = some r → Mv l yX7_row (.code yX7_row cX7_row 5 none :: cWd) { frames := φ, cells := 0, slots := 0, locals := ψ } [rfv g 9, rfv g y1, .long (Int64.ofInt y2)] D (TYs k) (cW k z g π σ) (XV z mi aK aV (cW k z g π σ)) Unit (fun _ => True) (fun _ => cW k z g π r) 0 0)  {ls : Array Slot} {H : Heap} {locs : List Loc} {σ : St} {x1 : Int} {x2 : Int} {x4 : Int} {s0 : Int}  (hl : lv_has ls 8 [(0, rfv g 9), (1, rfv g x1), (2, .long (Int64.ofInt x2)), (4, .int (Int32.ofInt x4))]) (h : Hp D A s.heap H locs (cW k z g π σ)) (hm : Rw_draws_37 N rRow π σ x1 x2 x4 s0 = some r) : W p l e { frames := φ + 1, cells := 0, slots := 0, locals := ψ + 24 } s m args below meth c H locs 0 0 (MQ below (va_Qv (fun (_ : Unit) => True) (fun _ t => PostW D (TYs k) A (cW k z g π r) t) A) args s 0 0 A) (F0 m 37 ls [.int (Int32.ofInt s0)]) := by
  rw [Rw_draws_37] at hm
  refine lv_istore (lv' := [(5, .int (Int32.ofInt s0)), (0, rfv g 9), (1, rfv g x1), (2, .long (Int64.ofInt x2)), (4, .int (Int32.ofInt x4))]) C.1 C.2.1 dX7_draws_37 hl (by decide) rfl (fun ls hl => ?_)
  refine lv_iload C.1 C.2.1 dX7_draws_39 (lv_at hl 4 rfl) ?_
  refine lv_istore (lv' := [(6, .int (Int32.ofInt x4)), (5, .int (Int32.ofInt s0)), (0, rfv g 9), (1, rfv g x1), (2, .long (Int64.ofInt x2)), (4, .int (Int32.ofInt x4))]) C.1 C.2.1 dX7_draws_41 hl (by decide) rfl (fun ls hl => ?_)
  exact kl_Rw_draws_43 (N := N) C hr hlk hE hS hφ hψ hmrRow hcrRow N (lv_sub hl [2, 3, 4, 5, 1, 0] rfl) h hm
set_option maxHeartbeats 8000000 in
set_option maxRecDepth 100000 in
theorem kc_Rw_draws (l : Launch) (D : va_G) (k : Nat → ClassId) (z mi : Nat) (aK aV : Nat → Nat) (g : Nat → Nat) (N : Nat) {φ ψ : Nat} {rRow : Sh → St → Int → Int → Option St} (hφ : 12 ≤ φ) (hψ : 400 ≤ ψ) (hmrRow : ∀ {π : Sh} {σ : St} {y1 : Int} {y2 : Int} {r : St}, Cl π σ → y1 < nn π → rRow π σ y1 y2 = some r → Cl π r) (hcrRow : ∀ {g : Nat → Nat} {π : Sh} {σ : St} {y1 : Int} {y2 : Int} {r : St}, SHs π → rRow π σ y1 y2 = some r → Mv l yX7_row (.code yX7_row cX7_row 5 none :: cWd) { frames := φ, cells := 0, slots := 0, locals := ψ } [rfv g 9, rfv g y1, .long (Int64.ofInt y2)] D (TYs k) (cW k z g π σ) (XV z mi aK aV (cW k z g π σ)) Unit (fun _ => True) (fun _ => cW k z g π r) 0 0) {π : Sh} {σ : St} {x1 : Int} {x2 : Int} {r : St} (hS : SHs π) (hm : Rw_draws N rRow π σ x1 x2 = some r) : Mv l yX7_draws (.code yX7_draws cX7_draws 8 none :: cWd) { frames := φ + 1, cells := 0, slots := 0, locals := ψ + 24 } [rfv g 9, rfv g x1, .long (Int64.ofInt x2)] D (TYs k) (cW k z g π σ) (XV z mi aK aV (cW k z g π σ)) Unit (fun _ => True) (fun _ => cW k z g π r) 0 0 := by
  intro sz
  refine v_met (cc := cX7_draws) (maxL := 8) (ret := none) (lv := [(0, rfv g 9), (1, rfv g x1), (2, .long (Int64.ofInt x2))]) (by decide) rfl (by simp [lg_sl, rfv_cat, cat_i, cat_l]) (by simp [lv_args, rfv_cat, cat_i, cat_l]) ?_
  intro p e s m below meth c ls C hE hr hlk hmn hl h
  rw [Rw_draws] at hm
  refine z_aload_n C dX7_draws_0 rfl (lv_at hl 0 rfl) ?_
  refine cg_8_0 C h (sh_9 hS) cU_X7 (List.mem_cons_of_mem _ wl_X7_12) dX7_draws_1 ?_
  refine cg_2_6 C h (sh_10 hS) cU_X1 (List.mem_cons_of_mem _ wl_X7_28) dX7_draws_4 ?_
  refine lv_istore (lv' := [(4, .int (Int32.ofInt (fl σ 46 10))), (0, rfv g 9), (1, rfv g x1), (2, .long (Int64.ofInt x2))]) C.1 C.2.1 dX7_draws_7 hl (by decide) rfl (fun ls hl => ?_)
  refine z_aload_n C dX7_draws_9 rfl (lv_at hl 1 rfl) ?_
  refine z_aload_n C dX7_draws_10 rfl (lv_at hl 2 rfl) ?_
  obtain ⟨g1, hm⟩ := grd_s hm
  refine cg_5_1 C h g1 cU_X4 (List.mem_cons_of_mem _ wl_X7_125) dX7_draws_11 ?_
  refine lv_iconst (v := Int32.ofInt 0) C.1 C.2.1 dX7_draws_14 (by decide) ?_
  obtain ⟨g2, hm⟩ := grd_s hm
  obtain ⟨g3, hm⟩ := grd_s hm
  refine c_qald C h (t := 6) (by decide) rfl g2 g3 dX7_draws_15 ?_
  refine lv_lload_n C.1 C.2.1 dX7_draws_16 rfl (lv_at hl 3 rfl) ?_
  obtain ⟨r4, e5, hm⟩ := obd_s hm
  refine c_callVvP C hE h (sh_9 hS) rfl (by decide) (hcrRow hS e5) (cwV 2 C.2.2.1 (gS_X7_31 _) rfl rfl rfl hd_X7_row ⟨(by show φ + 1 ≤ φ + 1; omega), (by show 8 + (5 + 11) + ψ ≤ ψ + 24; omega)⟩) rfl hl.1 rfl (Nat.le_of_ble_eq_true rfl) dX7_draws_17 ⟨(Nat.le_of_ble_eq_true rfl), (Nat.le_of_ble_eq_true rfl)⟩ (fun H locs h => ?_)
  refine z_aload_n C dX7_draws_20 rfl (lv_at hl 2 rfl) ?_
  refine cg_5_0 C h g1 cU_X4 (List.mem_cons_of_mem _ wl_X7_41) dX7_draws_21 ?_
  obtain ⟨g8, hm⟩ := grd_s hm
  refine cg_10_0 C h g8 cU_X9 (List.mem_cons_of_mem _ wl_X7_45) dX7_draws_24 ?_
  refine lv_bipush (v := Int32.ofInt 23) C.1 C.2.1 dX7_draws_27 (by decide) ?_
  obtain ⟨g9, hm⟩ := grd_s hm
  refine z_icmp_ne (tgt := 36) C dX7_draws_29 (by decide) g9 (by decide) (fun c10 => ?_) (fun c10 => ?_)
  · have hm := ite_f c10 hm
    refine lv_iconst (v := Int32.ofInt 0) C.1 C.2.1 dX7_draws_36 (by decide) ?_
    exact kl_Rw_draws_37 (N := N) C hr hlk hE hS hφ hψ hmrRow hcrRow (lv_sub hl [1, 2, 3, 0] rfl) h hm
  · have hm := ite_t c10 hm
    refine lv_iconst (v := Int32.ofInt 1) C.1 C.2.1 dX7_draws_32 (by decide) ?_
    refine lv_goto (tgt := 37) C.1 C.2.1 dX7_draws_33 (by decide) ?_
    exact kl_Rw_draws_37 (N := N) C hr hlk hE hS hφ hψ hmrRow hcrRow (lv_sub hl [1, 2, 3, 0] rfl) h hm
end Z_Rw_draws
section Z_Rw_either
variable {p : Program} {l : Launch} {e : Env} {s : State} {m : MethodId} {args : Array Value} {below : List Frame} {meth : Method} {c : Code} {D : va_G} {A : Nat → Prop} {k : Nat → ClassId} {N : Nat} {cd : Cond} {z mi : Nat} {aK aV : Nat → Nat} {g : Nat → Nat} {π : Sh} {φ ψ : Nat}
set_option maxHeartbeats 8000000 in
set_option maxRecDepth 100000 in
theorem kl_Rw_either_20 {r : St} (C : Cx p s m args c cX7_either RX7 (cd :: cWd) D (TYs k) 7) (hr : meth.sig.returnType = none) (hlk : meth.locks = false) (hE : Ev z mi aK aV A s s.heap) (hS : SHs π) {rRow : Sh → St → Int → Int → Option St} (hφ : 12 ≤ φ) (hψ : 400 ≤ ψ) (hmrRow : ∀ {π : Sh} {σ : St} {y1 : Int} {y2 : Int} {r : St}, Cl π σ → y1 < nn π → rRow π σ y1 y2 = some r → Cl π r) (hcrRow : ∀ {g : Nat → Nat} {π : Sh} {σ : St} {y1 : Int} {y2 : Int} {r : St}, SHs π → rRow π σ y1 y2 = some r → Mv l yX7_row (.code yX7_row cX7_row 5 none :: cWd) { frames := φ, cells := 0, slots := 0, locals := ψ } [rfv g 9, rfv g y1, .long (Int64.ofInt y2)] D (TYs k) (cW k z g π σ) (XV z mi aK aV (cW k z g π σ)) Unit (fun _ => True) (fun _ => cW k z g π r) 0 0)  {ls : Array Slot} {H : Heap} {locs : List Loc} {σ : St} {x1 : Int} {x2 : Int} {s0 : Int}  (hl : lv_has ls 7 [(0, rfv g 9), (1, rfv g x1), (2, .long (Int64.ofInt x2))]) (h : Hp D A s.heap H locs (cW k z g π σ)) (hm : Rw_either_20 N rRow π σ x1 x2 s0 = some r) : W p l e { frames := φ + 1, cells := 0, slots := 0, locals := ψ + 24 } s m args below meth c H locs 0 0 (MQ below (va_Qv (fun (_ : Unit) => True) (fun _ t => PostW D (TYs k) A (cW k z g π r) t) A) args s 0 0 A) (F0 m 20 ls [rfv g s0]) := by
  rw [Rw_either_20] at hm
  refine z_astore (lv' := [(5, rfv g s0), (0, rfv g 9), (1, rfv g x1), (2, .long (Int64.ofInt x2))]) C dX7_either_20 hl (by decide) rfl (fun ls hl => ?_)
  refine z_aload_n C dX7_either_22 rfl (lv_at hl 1 rfl) ?_
  refine cg_8_0 C h (sh_9 hS) cU_X7 (List.mem_cons_of_mem _ wl_X7_12) dX7_either_23 ?_
  refine cg_2_6 C h (sh_10 hS) cU_X1 (List.mem_cons_of_mem _ wl_X7_28) dX7_either_26 ?_
  refine lv_istore (lv' := [(6, .int (Int32.ofInt (fl σ 46 10))), (5, rfv g s0), (0, rfv g 9), (1, rfv g x1), (2, .long (Int64.ofInt x2))]) C.1 C.2.1 dX7_either_29 hl (by decide) (by simp [rfv_cat, cat_i, cat_l]) (fun ls hl => ?_)
  refine z_aload_n C dX7_either_31 rfl (lv_at hl 2 rfl) ?_
  refine z_aload C dX7_either_32 (lv_at hl 1 rfl) ?_
  refine lv_lload_n C.1 C.2.1 dX7_either_34 rfl (lv_at hl 4 rfl) ?_
  obtain ⟨r9, e10, hm⟩ := obd_s hm
  refine c_callVvP C hE h (sh_9 hS) rfl (by decide) (hcrRow hS e10) (cwV 2 C.2.2.1 (gS_X7_31 _) rfl rfl rfl hd_X7_row ⟨(by show φ + 1 ≤ φ + 1; omega), (by show 8 + (5 + 11) + ψ ≤ ψ + 24; omega)⟩) rfl hl.1 rfl (Nat.le_of_ble_eq_true rfl) dX7_either_35 ⟨(Nat.le_of_ble_eq_true rfl), (Nat.le_of_ble_eq_true rfl)⟩ (fun H locs h => ?_)
  refine z_aload_n C dX7_either_38 rfl (lv_at hl 2 rfl) ?_
  refine cg_8_0 C h (sh_9 hS) cU_X7 (List.mem_cons_of_mem _ wl_X7_12) dX7_either_39 ?_
  refine lv_iload C.1 C.2.1 dX7_either_42 (lv_at hl 0 rfl) ?_
  refine z_aload_n C dX7_either_44 rfl (lv_at hl 3 rfl) ?_
  obtain ⟨g13, hm⟩ := grd_s hm
  refine cg_5_2 C h g13 cU_X4 (List.mem_cons_of_mem _ wl_X7_101) dX7_either_45 ?_
  refine z_aload C dX7_either_48 (lv_at hl 1 rfl) ?_
  obtain ⟨g14, hm⟩ := grd_s hm
  refine cg_5_2 C h g14 cU_X4 (List.mem_cons_of_mem _ wl_X7_101) dX7_either_50 ?_
  obtain ⟨g15, hm⟩ := grd_s hm
  obtain ⟨g16, hm⟩ := grd_s hm
  obtain ⟨g17, hm⟩ := grd_s hm
  refine z_ldiv C dX7_either_53 g15 g16 g17 ?_
  refine lv_lconst (v := Int64.ofInt 0) C.1 C.2.1 dX7_either_54 (by decide) ?_
  obtain ⟨r18, e19, hm⟩ := obd_s hm
  refine c_callVvP C hE h (sh_10 hS) rfl (by decide) (kc_Es_scale l D k z mi aK aV g N hS e19) (cwV 3 C.2.2.1 (gS_X7_162 _) rfl rfl rfl hd_X1_scale ⟨(by show 0 + 1 ≤ φ + 1; omega), (by show 8 + (7 + 11) + 0 ≤ ψ + 24; omega)⟩) rfl hl.1 rfl (Nat.le_of_ble_eq_true rfl) dX7_either_55 ⟨(Nat.le_of_ble_eq_true rfl), (Nat.le_of_ble_eq_true rfl)⟩ (fun H locs h => ?_)
  cases hm
  exact c_vretP C h hr hlk dX7_either_58
set_option maxHeartbeats 8000000 in
set_option maxRecDepth 100000 in
theorem kc_Rw_either (l : Launch) (D : va_G) (k : Nat → ClassId) (z mi : Nat) (aK aV : Nat → Nat) (g : Nat → Nat) (N : Nat) {φ ψ : Nat} {rRow : Sh → St → Int → Int → Option St} (hφ : 12 ≤ φ) (hψ : 400 ≤ ψ) (hmrRow : ∀ {π : Sh} {σ : St} {y1 : Int} {y2 : Int} {r : St}, Cl π σ → y1 < nn π → rRow π σ y1 y2 = some r → Cl π r) (hcrRow : ∀ {g : Nat → Nat} {π : Sh} {σ : St} {y1 : Int} {y2 : Int} {r : St}, SHs π → rRow π σ y1 y2 = some r → Mv l yX7_row (.code yX7_row cX7_row 5 none :: cWd) { frames := φ, cells := 0, slots := 0, locals := ψ } [rfv g 9, rfv g y1, .long (Int64.ofInt y2)] D (TYs k) (cW k z g π σ) (XV z mi aK aV (cW k z g π σ)) Unit (fun _ => True) (fun _ => cW k z g π r) 0 0) {π : Sh} {σ : St} {x1 : Int} {x2 : Int} {x4 : Int} {r : St} (hS : SHs π) (hm : Rw_either N rRow π σ x1 x2 x4 = some r) : Mv l yX7_either (.code yX7_either cX7_either 7 none :: cWd) { frames := φ + 1, cells := 0, slots := 0, locals := ψ + 24 } [rfv g 9, rfv g x1, .long (Int64.ofInt x2), .int (Int32.ofInt x4)] D (TYs k) (cW k z g π σ) (XV z mi aK aV (cW k z g π σ)) Unit (fun _ => True) (fun _ => cW k z g π r) 0 0 := by
  intro sz
  refine v_met (cc := cX7_either) (maxL := 7) (ret := none) (lv := [(0, rfv g 9), (1, rfv g x1), (2, .long (Int64.ofInt x2)), (4, .int (Int32.ofInt x4))]) (by decide) rfl (by simp [lg_sl, rfv_cat, cat_i, cat_l]) (by simp [lv_args, rfv_cat, cat_i, cat_l]) ?_
  intro p e s m below meth c ls C hE hr hlk hmn hl h
  rw [Rw_either] at hm
  refine lv_iload C.1 C.2.1 dX7_either_0 (lv_at hl 3 rfl) ?_
  obtain ⟨g1, hm⟩ := grd_s hm
  refine z_if_eq (tgt := 14) C dX7_either_2 (by decide) g1 (fun c2 => ?_) (fun c2 => ?_)
  · have hm := ite_t c2 hm
    refine z_aload_n C dX7_either_14 rfl (lv_at hl 1 rfl) ?_
    obtain ⟨g3, hm⟩ := grd_s hm
    refine cg_5_1 C h g3 cU_X4 (List.mem_cons_of_mem _ wl_X7_125) dX7_either_15 ?_
    refine lv_iconst (v := Int32.ofInt 0) C.1 C.2.1 dX7_either_18 (by decide) ?_
    obtain ⟨g4, hm⟩ := grd_s hm
    obtain ⟨g5, hm⟩ := grd_s hm
    refine c_qald C h (t := 6) (by decide) rfl g4 g5 dX7_either_19 ?_
    exact kl_Rw_either_20 (N := N) C hr hlk hE hS hφ hψ hmrRow hcrRow (lv_sub hl [0, 1, 2] rfl) h hm
  · have hm := ite_f c2 hm
    refine z_aload_n C dX7_either_5 rfl (lv_at hl 1 rfl) ?_
    obtain ⟨g6, hm⟩ := grd_s hm
    refine cg_5_1 C h g6 cU_X4 (List.mem_cons_of_mem _ wl_X7_125) dX7_either_6 ?_
    refine lv_iconst (v := Int32.ofInt 1) C.1 C.2.1 dX7_either_9 (by decide) ?_
    obtain ⟨g7, hm⟩ := grd_s hm
    obtain ⟨g8, hm⟩ := grd_s hm
    refine c_qald C h (t := 6) (by decide) rfl g7 g8 dX7_either_10 ?_
    refine lv_goto (tgt := 20) C.1 C.2.1 dX7_either_11 (by decide) ?_
    exact kl_Rw_either_20 (N := N) C hr hlk hE hS hφ hψ hmrRow hcrRow (lv_sub hl [0, 1, 2] rfl) h hm
end Z_Rw_either
section Z_Rw_euclid
variable {p : Program} {l : Launch} {e : Env} {s : State} {m : MethodId} {args : Array Value} {below : List Frame} {meth : Method} {c : Code} {D : va_G} {A : Nat → Prop} {k : Nat → ClassId} {N : Nat} {cd : Cond} {z mi : Nat} {aK aV : Nat → Nat} {g : Nat → Nat} {π : Sh} {φ ψ : Nat}
set_option maxHeartbeats 8000000 in
set_option maxRecDepth 100000 in
theorem kl_Rw_euclid_136 {r : St} (C : Cx p s m args c cX7_euclid RX7 (cd :: cWd) D (TYs k) 12) (hr : meth.sig.returnType = none) (hlk : meth.locks = false) (hE : Ev z mi aK aV A s s.heap) (hS : SHs π) {rRow : Sh → St → Int → Int → Option St} (hφ : 12 ≤ φ) (hψ : 400 ≤ ψ) (hmrRow : ∀ {π : Sh} {σ : St} {y1 : Int} {y2 : Int} {r : St}, Cl π σ → y1 < nn π → rRow π σ y1 y2 = some r → Cl π r) (hcrRow : ∀ {g : Nat → Nat} {π : Sh} {σ : St} {y1 : Int} {y2 : Int} {r : St}, SHs π → rRow π σ y1 y2 = some r → Mv l yX7_row (.code yX7_row cX7_row 5 none :: cWd) { frames := φ, cells := 0, slots := 0, locals := ψ } [rfv g 9, rfv g y1, .long (Int64.ofInt y2)] D (TYs k) (cW k z g π σ) (XV z mi aK aV (cW k z g π σ)) Unit (fun _ => True) (fun _ => cW k z g π r) 0 0) {rec46 : St → Int → Int → Int → Int → Int → Int → Int → Int → Option St} (hrec46 : ∀ {ls : Array Slot} {H : Heap} {locs : List Loc} {σ : St} {x2 : Int} {x4 : Int} {x5 : Int} {x6 : Int} {x7 : Int} {x8 : Int} {x9 : Int} {x11 : Int}, lv_has ls 12 [(0, rfv g 9), (2, .long (Int64.ofInt x2)), (4, rfv g x4), (5, rfv g x5), (6, .int (Int32.ofInt x6)), (7, .int (Int32.ofInt x7)), (8, .int (Int32.ofInt x8)), (9, .long (Int64.ofInt x9)), (11, .int (Int32.ofInt x11))] → Hp D A s.heap H locs (cW k z g π σ) → rec46 σ x2 x4 x5 x6 x7 x8 x9 x11 = some r → W p l e { frames := φ + 1, cells := 0, slots := 0, locals := ψ + 24 } s m args below meth c H locs 0 0 (MQ below (va_Qv (fun (_ : Unit) => True) (fun _ t => PostW D (TYs k) A (cW k z g π r) t) A) args s 0 0 A) (F0 m 46 ls [])) {ls : Array Slot} {H : Heap} {locs : List Loc} {σ : St} {x2 : Int} {x4 : Int} {x5 : Int} {x6 : Int} {x7 : Int} {x8 : Int} {x9 : Int} {x11 : Int}  (hl : lv_has ls 12 [(0, rfv g 9), (2, .long (Int64.ofInt x2)), (4, rfv g x4), (5, rfv g x5), (6, .int (Int32.ofInt x6)), (7, .int (Int32.ofInt x7)), (8, .int (Int32.ofInt x8)), (9, .long (Int64.ofInt x9)), (11, .int (Int32.ofInt x11))]) (h : Hp D A s.heap H locs (cW k z g π σ)) (hm : Rw_euclid_136 N rRow π rec46 σ x2 x4 x5 x6 x7 x8 x9 x11 = some r) : W p l e { frames := φ + 1, cells := 0, slots := 0, locals := ψ + 24 } s m args below meth c H locs 0 0 (MQ below (va_Qv (fun (_ : Unit) => True) (fun _ t => PostW D (TYs k) A (cW k z g π r) t) A) args s 0 0 A) (F0 m 136 ls []) := by
  rw [Rw_euclid_136] at hm
  refine lv_iinc (v := Int32.ofInt (x11 + 1)) (lv' := [(11, .int (Int32.ofInt (x11 + 1))), (0, rfv g 9), (2, .long (Int64.ofInt x2)), (4, rfv g x4), (5, rfv g x5), (6, .int (Int32.ofInt x6)), (7, .int (Int32.ofInt x7)), (8, .int (Int32.ofInt x8)), (9, .long (Int64.ofInt x9))]) C.1 C.2.1 dX7_euclid_136 hl (k := 8) rfl (c32_add _ _) (by decide) rfl (fun ls hl => ?_)
  refine lv_goto (tgt := 46) C.1 C.2.1 dX7_euclid_139 (by decide) ?_
  exact hrec46 (lv_sub hl [1, 2, 3, 4, 5, 6, 7, 8, 0] rfl) h hm
set_option maxHeartbeats 8000000 in
set_option maxRecDepth 100000 in
theorem kl_Rw_euclid_146 {r : St} (C : Cx p s m args c cX7_euclid RX7 (cd :: cWd) D (TYs k) 12) (hr : meth.sig.returnType = none) (hlk : meth.locks = false) (hE : Ev z mi aK aV A s s.heap) (hS : SHs π) {rRow : Sh → St → Int → Int → Option St} (hφ : 12 ≤ φ) (hψ : 400 ≤ ψ) (hmrRow : ∀ {π : Sh} {σ : St} {y1 : Int} {y2 : Int} {r : St}, Cl π σ → y1 < nn π → rRow π σ y1 y2 = some r → Cl π r) (hcrRow : ∀ {g : Nat → Nat} {π : Sh} {σ : St} {y1 : Int} {y2 : Int} {r : St}, SHs π → rRow π σ y1 y2 = some r → Mv l yX7_row (.code yX7_row cX7_row 5 none :: cWd) { frames := φ, cells := 0, slots := 0, locals := ψ } [rfv g 9, rfv g y1, .long (Int64.ofInt y2)] D (TYs k) (cW k z g π σ) (XV z mi aK aV (cW k z g π σ)) Unit (fun _ => True) (fun _ => cW k z g π r) 0 0)  (n : Nat) : ∀ {ls : Array Slot} {H : Heap} {locs : List Loc} {σ : St} {x5 : Int} {x8 : Int} {x9 : Int} {x11 : Int}, lv_has ls 12 [(0, rfv g 9), (5, rfv g x5), (8, .int (Int32.ofInt x8)), (9, .long (Int64.ofInt x9)), (11, .int (Int32.ofInt x11))] → Hp D A s.heap H locs (cW k z g π σ) → Rw_euclid_146 N rRow π n σ x5 x8 x9 x11 = some r → W p l e { frames := φ + 1, cells := 0, slots := 0, locals := ψ + 24 } s m args below meth c H locs 0 0 (MQ below (va_Qv (fun (_ : Unit) => True) (fun _ t => PostW D (TYs k) A (cW k z g π r) t) A) args s 0 0 A) (F0 m 146 ls []) := by
  induction n with
  | zero => intro ls H locs σ x5 x8 x9 x11  hl h hm; cases (show none = some r from hm)
  | succ n hrec146 =>
    intro ls H locs σ x5 x8 x9 x11  hl h hm
    rw [Rw_euclid_146] at hm
    refine lv_iload C.1 C.2.1 dX7_euclid_146 (lv_at hl 4 rfl) ?_
    refine lv_iload C.1 C.2.1 dX7_euclid_148 (lv_at hl 2 rfl) ?_
    obtain ⟨g31, hm⟩ := grd_s hm
    obtain ⟨g32, hm⟩ := grd_s hm
    refine z_icmp_ge (tgt := 180) C dX7_euclid_150 (by decide) g31 g32 (fun c33 => ?_) (fun c33 => ?_)
    · have hm := ite_f c33 hm
      cases hm
      exact c_vretP C h hr hlk dX7_euclid_180
    · have hm := ite_t c33 hm
      refine z_aload_n C dX7_euclid_153 rfl (lv_at hl 0 rfl) ?_
      refine cg_8_0 C h (sh_9 hS) cU_X7 (List.mem_cons_of_mem _ wl_X7_12) dX7_euclid_154 ?_
      refine cg_2_0 C h (sh_10 hS) cU_X1 (List.mem_cons_of_mem _ wl_X7_148) dX7_euclid_157 ?_
      refine lv_iload C.1 C.2.1 dX7_euclid_160 (lv_at hl 4 rfl) ?_
      refine lv_dup2_11 C.1 C.2.1 dX7_euclid_162 rfl (rfv_cat _ _) ?_
      obtain ⟨g34, hm⟩ := grd_s hm
      refine c_lald C h (sh_11 hS) (ina_inb (n := 6000) (sl_11 hS) (Nat.le_of_ble_eq_true rfl) g34) dX7_euclid_163 ?_
      refine lv_lload C.1 C.2.1 dX7_euclid_164 (lv_at hl 3 rfl) ?_
      refine z_aload C dX7_euclid_166 (lv_at hl 1 rfl) ?_
      obtain ⟨g35, hm⟩ := grd_s hm
      refine cg_5_2 C h g35 cU_X4 (List.mem_cons_of_mem _ wl_X7_101) dX7_euclid_168 ?_
      refine z_lmul C dX7_euclid_171 ?_
      refine z_ladd C dX7_euclid_172 ?_
      refine c_last C h (sh_11 hS) (ina_inb (n := 6000) (sl_11 hS) (Nat.le_of_ble_eq_true rfl) g34) dX7_euclid_173 (fun H locs h => ?_)
      refine lv_iinc (v := Int32.ofInt (x11 + 1)) (lv' := [(11, .int (Int32.ofInt (x11 + 1))), (0, rfv g 9), (5, rfv g x5), (8, .int (Int32.ofInt x8)), (9, .long (Int64.ofInt x9))]) C.1 C.2.1 dX7_euclid_174 hl (k := 4) rfl (c32_add _ _) (by decide) rfl (fun ls hl => ?_)
      refine lv_goto (tgt := 146) C.1 C.2.1 dX7_euclid_177 (by decide) ?_
      exact hrec146 (lv_sub hl [1, 2, 3, 4, 0] rfl) h hm
set_option maxHeartbeats 8000000 in
set_option maxRecDepth 100000 in
theorem kl_Rw_euclid_46 {r : St} (C : Cx p s m args c cX7_euclid RX7 (cd :: cWd) D (TYs k) 12) (hr : meth.sig.returnType = none) (hlk : meth.locks = false) (hE : Ev z mi aK aV A s s.heap) (hS : SHs π) {rRow : Sh → St → Int → Int → Option St} (hφ : 12 ≤ φ) (hψ : 400 ≤ ψ) (hmrRow : ∀ {π : Sh} {σ : St} {y1 : Int} {y2 : Int} {r : St}, Cl π σ → y1 < nn π → rRow π σ y1 y2 = some r → Cl π r) (hcrRow : ∀ {g : Nat → Nat} {π : Sh} {σ : St} {y1 : Int} {y2 : Int} {r : St}, SHs π → rRow π σ y1 y2 = some r → Mv l yX7_row (.code yX7_row cX7_row 5 none :: cWd) { frames := φ, cells := 0, slots := 0, locals := ψ } [rfv g 9, rfv g y1, .long (Int64.ofInt y2)] D (TYs k) (cW k z g π σ) (XV z mi aK aV (cW k z g π σ)) Unit (fun _ => True) (fun _ => cW k z g π r) 0 0)  (n : Nat) : ∀ {ls : Array Slot} {H : Heap} {locs : List Loc} {σ : St} {x2 : Int} {x4 : Int} {x5 : Int} {x6 : Int} {x7 : Int} {x8 : Int} {x9 : Int} {x11 : Int}, lv_has ls 12 [(0, rfv g 9), (2, .long (Int64.ofInt x2)), (4, rfv g x4), (5, rfv g x5), (6, .int (Int32.ofInt x6)), (7, .int (Int32.ofInt x7)), (8, .int (Int32.ofInt x8)), (9, .long (Int64.ofInt x9)), (11, .int (Int32.ofInt x11))] → Hp D A s.heap H locs (cW k z g π σ) → Rw_euclid_46 N rRow π n σ x2 x4 x5 x6 x7 x8 x9 x11 = some r → W p l e { frames := φ + 1, cells := 0, slots := 0, locals := ψ + 24 } s m args below meth c H locs 0 0 (MQ below (va_Qv (fun (_ : Unit) => True) (fun _ t => PostW D (TYs k) A (cW k z g π r) t) A) args s 0 0 A) (F0 m 46 ls []) := by
  induction n with
  | zero => intro ls H locs σ x2 x4 x5 x6 x7 x8 x9 x11  hl h hm; cases (show none = some r from hm)
  | succ n hrec46 =>
    intro ls H locs σ x2 x4 x5 x6 x7 x8 x9 x11  hl h hm
    rw [Rw_euclid_46] at hm
    refine lv_iload C.1 C.2.1 dX7_euclid_46 (lv_at hl 8 rfl) ?_
    refine lv_iload C.1 C.2.1 dX7_euclid_48 (lv_at hl 4 rfl) ?_
    obtain ⟨g10, hm⟩ := grd_s hm
    obtain ⟨g11, hm⟩ := grd_s hm
    refine z_icmp_ge (tgt := 142) C dX7_euclid_50 (by decide) g10 g11 (fun c12 => ?_) (fun c12 => ?_)
    · have hm := ite_f c12 hm
      refine lv_iload C.1 C.2.1 dX7_euclid_142 (lv_at hl 5 rfl) ?_
      refine lv_istore (lv' := [(11, .int (Int32.ofInt x7)), (0, rfv g 9), (2, .long (Int64.ofInt x2)), (4, rfv g x4), (5, rfv g x5), (6, .int (Int32.ofInt x6)), (7, .int (Int32.ofInt x7)), (8, .int (Int32.ofInt x8)), (9, .long (Int64.ofInt x9))]) C.1 C.2.1 dX7_euclid_144 hl (by decide) rfl (fun ls hl => ?_)
      exact kl_Rw_euclid_146 (N := N) C hr hlk hE hS hφ hψ hmrRow hcrRow N (lv_sub hl [1, 4, 7, 8, 0] rfl) h hm
    · have hm := ite_t c12 hm
      refine lv_iload C.1 C.2.1 dX7_euclid_53 (lv_at hl 8 rfl) ?_
      refine z_aload C dX7_euclid_55 (lv_at hl 2 rfl) ?_
      obtain ⟨g13, hm⟩ := grd_s hm
      refine cg_10_4 C h g13 cU_X9 (List.mem_cons_of_mem _ wl_X7_107) dX7_euclid_57 ?_
      refine z_iadd C dX7_euclid_60 ?_
      refine lv_iload C.1 C.2.1 dX7_euclid_61 (lv_at hl 4 rfl) ?_
      obtain ⟨g14, hm⟩ := grd_s hm
      obtain ⟨g15, hm⟩ := grd_s hm
      refine z_irem C dX7_euclid_63 g14 g11 g15 ?_
      refine z_aload C dX7_euclid_64 (lv_at hl 2 rfl) ?_
      refine cg_10_2 C h g13 cU_X9 (List.mem_cons_of_mem _ wl_X7_57) dX7_euclid_66 ?_
      refine z_imul C dX7_euclid_69 ?_
      refine lv_iload C.1 C.2.1 dX7_euclid_70 (lv_at hl 4 rfl) ?_
      obtain ⟨g16, hm⟩ := grd_s hm
      refine z_irem C dX7_euclid_72 g16 g11 g15 ?_
      refine z_aload C dX7_euclid_73 (lv_at hl 2 rfl) ?_
      refine cg_10_2 C h g13 cU_X9 (List.mem_cons_of_mem _ wl_X7_57) dX7_euclid_75 ?_
      obtain ⟨g17, hm⟩ := grd_s hm
      obtain ⟨g18, hm⟩ := grd_s hm
      refine z_icmp_lt (tgt := 84) C dX7_euclid_78 (by decide) g17 g18 (fun c19 => ?_) (fun c19 => ?_)
      · have hm := ite_t c19 hm
        refine lv_lload C.1 C.2.1 dX7_euclid_84 (lv_at hl 7 rfl) ?_
        refine lv_lconst (v := Int64.ofInt 0) C.1 C.2.1 dX7_euclid_86 (by decide) ?_
        obtain ⟨g20, hm⟩ := grd_s hm
        refine W.lcmp C.1 C.2.1 dX7_euclid_87 ?_
        refine z_lcmp_ge (tgt := 115) C dX7_euclid_88 (by decide) g20 (by decide) (fun c21 => ?_) (fun c21 => ?_)
        · have hm := ite_f c21 hm
          refine z_aload_n C dX7_euclid_115 rfl (lv_at hl 0 rfl) ?_
          refine cg_8_0 C h (sh_9 hS) cU_X7 (List.mem_cons_of_mem _ wl_X7_12) dX7_euclid_116 ?_
          refine lv_iload C.1 C.2.1 dX7_euclid_119 (lv_at hl 5 rfl) ?_
          refine lv_iload C.1 C.2.1 dX7_euclid_121 (lv_at hl 6 rfl) ?_
          refine lv_lconst (v := Int64.ofInt 1) C.1 C.2.1 dX7_euclid_123 (by decide) ?_
          refine lv_iload C.1 C.2.1 dX7_euclid_124 (lv_at hl 8 rfl) ?_
          refine z_i2l C dX7_euclid_126 g10 ?_
          refine z_aload C dX7_euclid_127 (lv_at hl 3 rfl) ?_
          obtain ⟨g22, hm⟩ := grd_s hm
          refine cg_5_2 C h g22 cU_X4 (List.mem_cons_of_mem _ wl_X7_101) dX7_euclid_129 ?_
          refine z_lmul C dX7_euclid_132 ?_
          obtain ⟨r23, e24, hm⟩ := obd_s hm
          refine c_callVvP C hE h (sh_10 hS) rfl (by decide) (kc_Es_pushAgain l D k z mi aK aV g N hS e24) (cwV 4 C.2.2.1 (gS_X7_144 _) rfl rfl rfl hd_X1_pushAgain ⟨(by show 1 + 1 ≤ φ + 1; omega), (by show 8 + (8 + 11) + 28 ≤ ψ + 24; omega)⟩) rfl hl.1 rfl (Nat.le_of_ble_eq_true rfl) dX7_euclid_133 ⟨(Nat.le_of_ble_eq_true rfl), (Nat.le_of_ble_eq_true rfl)⟩ (fun H locs h => ?_)
          exact kl_Rw_euclid_136 (N := N) C hr hlk hE hS hφ hψ hmrRow hcrRow hrec46 (lv_sub hl [0, 1, 2, 3, 4, 5, 6, 7, 8] rfl) h hm
        · have hm := ite_t c21 hm
          refine lv_iload C.1 C.2.1 dX7_euclid_91 (lv_at hl 8 rfl) ?_
          refine z_i2l C dX7_euclid_93 g10 ?_
          refine lv_lstore (lv' := [(9, .long (Int64.ofInt x11)), (0, rfv g 9), (2, .long (Int64.ofInt x2)), (4, rfv g x4), (5, rfv g x5), (6, .int (Int32.ofInt x6)), (7, .int (Int32.ofInt x7)), (8, .int (Int32.ofInt x8)), (11, .int (Int32.ofInt x11))]) C.1 C.2.1 dX7_euclid_94 hl (by decide) rfl (fun ls hl => ?_)
          refine z_aload_n C dX7_euclid_96 rfl (lv_at hl 1 rfl) ?_
          refine z_aload C dX7_euclid_97 (lv_at hl 4 rfl) ?_
          refine lv_lload_n C.1 C.2.1 dX7_euclid_99 rfl (lv_at hl 2 rfl) ?_
          obtain ⟨r27, e28, hm⟩ := obd_s hm
          refine c_callVvP C hE h (sh_9 hS) rfl (by decide) (hcrRow hS e28) (cwV 2 C.2.2.1 (gS_X7_31 _) rfl rfl rfl hd_X7_row ⟨(by show φ + 1 ≤ φ + 1; omega), (by show 8 + (5 + 11) + ψ ≤ ψ + 24; omega)⟩) rfl hl.1 rfl (Nat.le_of_ble_eq_true rfl) dX7_euclid_100 ⟨(Nat.le_of_ble_eq_true rfl), (Nat.le_of_ble_eq_true rfl)⟩ (fun H locs h => ?_)
          refine z_aload_n C dX7_euclid_103 rfl (lv_at hl 1 rfl) ?_
          refine cg_8_0 C h (sh_9 hS) cU_X7 (List.mem_cons_of_mem _ wl_X7_12) dX7_euclid_104 ?_
          refine cg_2_6 C h (sh_10 hS) cU_X1 (List.mem_cons_of_mem _ wl_X7_28) dX7_euclid_107 ?_
          refine lv_istore (lv' := [(8, .int (Int32.ofInt (fl r27 46 10))), (9, .long (Int64.ofInt x11)), (0, rfv g 9), (2, .long (Int64.ofInt x2)), (4, rfv g x4), (5, rfv g x5), (6, .int (Int32.ofInt x6)), (7, .int (Int32.ofInt x7)), (11, .int (Int32.ofInt x11))]) C.1 C.2.1 dX7_euclid_110 hl (by decide) rfl (fun ls hl => ?_)
          refine lv_goto (tgt := 136) C.1 C.2.1 dX7_euclid_112 (by decide) ?_
          exact kl_Rw_euclid_136 (N := N) C hr hlk hE hS hφ hψ hmrRow hcrRow hrec46 (lv_sub hl [2, 3, 4, 5, 6, 7, 0, 1, 8] rfl) h hm
      · have hm := ite_f c19 hm
        refine lv_goto (tgt := 136) C.1 C.2.1 dX7_euclid_81 (by decide) ?_
        exact kl_Rw_euclid_136 (N := N) C hr hlk hE hS hφ hψ hmrRow hcrRow hrec46 (lv_sub hl [0, 1, 2, 3, 4, 5, 6, 7, 8] rfl) h hm
set_option maxHeartbeats 8000000 in
set_option maxRecDepth 100000 in
theorem kc_Rw_euclid (l : Launch) (D : va_G) (k : Nat → ClassId) (z mi : Nat) (aK aV : Nat → Nat) (g : Nat → Nat) (N : Nat) {φ ψ : Nat} {rRow : Sh → St → Int → Int → Option St} (hφ : 12 ≤ φ) (hψ : 400 ≤ ψ) (hmrRow : ∀ {π : Sh} {σ : St} {y1 : Int} {y2 : Int} {r : St}, Cl π σ → y1 < nn π → rRow π σ y1 y2 = some r → Cl π r) (hcrRow : ∀ {g : Nat → Nat} {π : Sh} {σ : St} {y1 : Int} {y2 : Int} {r : St}, SHs π → rRow π σ y1 y2 = some r → Mv l yX7_row (.code yX7_row cX7_row 5 none :: cWd) { frames := φ, cells := 0, slots := 0, locals := ψ } [rfv g 9, rfv g y1, .long (Int64.ofInt y2)] D (TYs k) (cW k z g π σ) (XV z mi aK aV (cW k z g π σ)) Unit (fun _ => True) (fun _ => cW k z g π r) 0 0) {π : Sh} {σ : St} {x1 : Int} {x2 : Int} {r : St} (hS : SHs π) (hm : Rw_euclid N rRow π σ x1 x2 = some r) : Mv l yX7_euclid (.code yX7_euclid cX7_euclid 12 none :: cWd) { frames := φ + 1, cells := 0, slots := 0, locals := ψ + 24 } [rfv g 9, rfv g x1, .long (Int64.ofInt x2)] D (TYs k) (cW k z g π σ) (XV z mi aK aV (cW k z g π σ)) Unit (fun _ => True) (fun _ => cW k z g π r) 0 0 := by
  intro sz
  refine v_met (cc := cX7_euclid) (maxL := 12) (ret := none) (lv := [(0, rfv g 9), (1, rfv g x1), (2, .long (Int64.ofInt x2))]) (by decide) rfl (by simp [lg_sl, rfv_cat, cat_i, cat_l]) (by simp [lv_args, rfv_cat, cat_i, cat_l]) ?_
  intro p e s m below meth c ls C hE hr hlk hmn hl h
  rw [Rw_euclid] at hm
  refine z_aload_n C dX7_euclid_0 rfl (lv_at hl 1 rfl) ?_
  obtain ⟨g1, hm⟩ := grd_s hm
  refine cg_5_0 C h g1 cU_X4 (List.mem_cons_of_mem _ wl_X7_41) dX7_euclid_1 ?_
  refine z_astore (lv' := [(4, rfv g (fl σ 100 x1)), (0, rfv g 9), (1, rfv g x1), (2, .long (Int64.ofInt x2))]) C dX7_euclid_4 hl (by decide) rfl (fun ls hl => ?_)
  refine z_aload_n C dX7_euclid_6 rfl (lv_at hl 2 rfl) ?_
  refine cg_5_1 C h g1 cU_X4 (List.mem_cons_of_mem _ wl_X7_125) dX7_euclid_7 ?_
  refine lv_iconst (v := Int32.ofInt 0) C.1 C.2.1 dX7_euclid_10 (by decide) ?_
  obtain ⟨g2, hm⟩ := grd_s hm
  obtain ⟨g3, hm⟩ := grd_s hm
  refine c_qald C h (t := 6) (by decide) rfl g2 g3 dX7_euclid_11 ?_
  obtain ⟨v4, e5, hm⟩ := bnd_s hm
  rw [e5]
  refine z_astore (lv' := [(5, rfv g v4), (4, rfv g (fl σ 100 x1)), (0, rfv g 9), (1, rfv g x1), (2, .long (Int64.ofInt x2))]) C dX7_euclid_12 hl (by decide) (by simp [rfv_cat, cat_i, cat_l]) (fun ls hl => ?_)
  refine lv_iconst (v := Int32.ofInt 1) C.1 C.2.1 dX7_euclid_14 (by decide) ?_
  refine z_aload C dX7_euclid_15 (lv_at hl 1 rfl) ?_
  obtain ⟨g6, hm⟩ := grd_s hm
  refine cg_10_3 C h g6 cU_X9 (List.mem_cons_of_mem _ wl_X7_78) dX7_euclid_17 ?_
  obtain ⟨g7, hm⟩ := grd_s hm
  refine v_max C hl.1 dX7_euclid_20 (by decide) g7 (List.mem_cons_of_mem _ wx_X7_133) (List.mem_cons_of_mem _ wxs_max) (List.mem_cons_of_mem _ wxc_max) (List.mem_cons_of_mem _ wt_Math) (by show 1 ≤ φ + 1; omega) (by simp [rfv_cat, cat_i, cat_l] <;> omega) (Nat.le_of_ble_eq_true rfl) (Nat.le_of_ble_eq_true rfl) ?_
  obtain ⟨v8, e9, hm⟩ := bnd_s hm
  rw [e9]
  refine lv_istore (lv' := [(6, .int (Int32.ofInt v8)), (5, rfv g v4), (4, rfv g (fl σ 100 x1)), (0, rfv g 9), (1, rfv g x1), (2, .long (Int64.ofInt x2))]) C.1 C.2.1 dX7_euclid_23 hl (by decide) (by simp [rfv_cat, cat_i, cat_l]) (fun ls hl => ?_)
  refine z_aload_n C dX7_euclid_25 rfl (lv_at hl 3 rfl) ?_
  refine cg_8_0 C h (sh_9 hS) cU_X7 (List.mem_cons_of_mem _ wl_X7_12) dX7_euclid_26 ?_
  refine cg_2_6 C h (sh_10 hS) cU_X1 (List.mem_cons_of_mem _ wl_X7_28) dX7_euclid_29 ?_
  refine lv_istore (lv' := [(7, .int (Int32.ofInt (fl σ 46 10))), (6, .int (Int32.ofInt v8)), (5, rfv g v4), (4, rfv g (fl σ 100 x1)), (0, rfv g 9), (1, rfv g x1), (2, .long (Int64.ofInt x2))]) C.1 C.2.1 dX7_euclid_32 hl (by decide) rfl (fun ls hl => ?_)
  refine lv_iload C.1 C.2.1 dX7_euclid_34 (lv_at hl 0 rfl) ?_
  refine lv_istore (lv' := [(8, .int (Int32.ofInt (fl σ 46 10))), (7, .int (Int32.ofInt (fl σ 46 10))), (6, .int (Int32.ofInt v8)), (5, rfv g v4), (4, rfv g (fl σ 100 x1)), (0, rfv g 9), (1, rfv g x1), (2, .long (Int64.ofInt x2))]) C.1 C.2.1 dX7_euclid_36 hl (by decide) rfl (fun ls hl => ?_)
  refine lv_ldc2 (v := (-1)) C.1 C.2.1 C.2.2.2.1 (C.2.2.1 _ (List.mem_cons_of_mem _ wk_X7_166)) dX7_euclid_38 ?_
  refine x_topl (y := Int64.ofInt (-1)) (by decide) ?_
  refine lv_lstore (lv' := [(9, .long (Int64.ofInt (-1))), (8, .int (Int32.ofInt (fl σ 46 10))), (7, .int (Int32.ofInt (fl σ 46 10))), (6, .int (Int32.ofInt v8)), (5, rfv g v4), (4, rfv g (fl σ 100 x1)), (0, rfv g 9), (1, rfv g x1), (2, .long (Int64.ofInt x2))]) C.1 C.2.1 dX7_euclid_41 hl (by decide) rfl (fun ls hl => ?_)
  refine lv_iconst (v := Int32.ofInt 0) C.1 C.2.1 dX7_euclid_43 (by decide) ?_
  refine lv_istore (lv' := [(11, .int (Int32.ofInt 0)), (9, .long (Int64.ofInt (-1))), (8, .int (Int32.ofInt (fl σ 46 10))), (7, .int (Int32.ofInt (fl σ 46 10))), (6, .int (Int32.ofInt v8)), (5, rfv g v4), (4, rfv g (fl σ 100 x1)), (0, rfv g 9), (1, rfv g x1), (2, .long (Int64.ofInt x2))]) C.1 C.2.1 dX7_euclid_44 hl (by decide) rfl (fun ls hl => ?_)
  exact kl_Rw_euclid_46 (N := N) C hr hlk hE hS hφ hψ hmrRow hcrRow N (lv_sub hl [7, 9, 6, 5, 4, 3, 2, 1, 0] rfl) h hm
end Z_Rw_euclid
section Z_Rw_fast
variable {p : Program} {l : Launch} {e : Env} {s : State} {m : MethodId} {args : Array Value} {below : List Frame} {meth : Method} {c : Code} {D : va_G} {A : Nat → Prop} {k : Nat → ClassId} {N : Nat} {cd : Cond} {z mi : Nat} {aK aV : Nat → Nat} {g : Nat → Nat} {π : Sh} {φ ψ : Nat}
set_option maxHeartbeats 8000000 in
set_option maxRecDepth 100000 in
theorem kl_Rw_fast_62 {r : St} (C : Cx p s m args c cX7_fast RX7 (cd :: cWd) D (TYs k) 14) (hr : meth.sig.returnType = none) (hlk : meth.locks = false) (hE : Ev z mi aK aV A s s.heap) (hS : SHs π) {rRow : Sh → St → Int → Int → Option St} (hφ : 12 ≤ φ) (hψ : 400 ≤ ψ) (hmrRow : ∀ {π : Sh} {σ : St} {y1 : Int} {y2 : Int} {r : St}, Cl π σ → y1 < nn π → rRow π σ y1 y2 = some r → Cl π r) (hcrRow : ∀ {g : Nat → Nat} {π : Sh} {σ : St} {y1 : Int} {y2 : Int} {r : St}, SHs π → rRow π σ y1 y2 = some r → Mv l yX7_row (.code yX7_row cX7_row 5 none :: cWd) { frames := φ, cells := 0, slots := 0, locals := ψ } [rfv g 9, rfv g y1, .long (Int64.ofInt y2)] D (TYs k) (cW k z g π σ) (XV z mi aK aV (cW k z g π σ)) Unit (fun _ => True) (fun _ => cW k z g π r) 0 0)  (n : Nat) : ∀ {ls : Array Slot} {H : Heap} {locs : List Loc} {σ : St} {x1 : Int} {x2 : Int} {x4 : Int} {x5 : Int} {x7 : Int} {x9 : Int} {x11 : Int}, lv_has ls 14 [(0, rfv g 9), (1, rfv g x1), (2, .long (Int64.ofInt x2)), (4, rfv g x4), (5, .long (Int64.ofInt x5)), (7, .long (Int64.ofInt x7)), (9, .long (Int64.ofInt x9)), (11, .long (Int64.ofInt x11))] → Hp D A s.heap H locs (cW k z g π σ) → Rw_fast_62 N rRow π n σ x1 x2 x4 x5 x7 x9 x11 = some r → W p l e { frames := φ + 1, cells := 0, slots := 0, locals := ψ + 24 } s m args below meth c H locs 0 0 (MQ below (va_Qv (fun (_ : Unit) => True) (fun _ t => PostW D (TYs k) A (cW k z g π r) t) A) args s 0 0 A) (F0 m 62 ls []) := by
  induction n with
  | zero => intro ls H locs σ x1 x2 x4 x5 x7 x9 x11  hl h hm; cases (show none = some r from hm)
  | succ n hrec62 =>
    intro ls H locs σ x1 x2 x4 x5 x7 x9 x11  hl h hm
    rw [Rw_fast_62] at hm
    refine lv_lload C.1 C.2.1 dX7_fast_62 (lv_at hl 7 rfl) ?_
    refine lv_lload C.1 C.2.1 dX7_fast_64 (lv_at hl 6 rfl) ?_
    obtain ⟨g19, hm⟩ := grd_s hm
    obtain ⟨g20, hm⟩ := grd_s hm
    refine W.lcmp C.1 C.2.1 dX7_fast_66 ?_
    refine z_lcmp_gt (tgt := 138) C dX7_fast_67 (by decide) g19 g20 (fun c21 => ?_) (fun c21 => ?_)
    · have hm := ite_t c21 hm
      cases hm
      exact c_vretP C h hr hlk dX7_fast_138
    · have hm := ite_f c21 hm
      refine z_aload_n C dX7_fast_70 rfl (lv_at hl 0 rfl) ?_
      refine cg_8_0 C h (sh_9 hS) cU_X7 (List.mem_cons_of_mem _ wl_X7_12) dX7_fast_71 ?_
      refine cg_2_6 C h (sh_10 hS) cU_X1 (List.mem_cons_of_mem _ wl_X7_28) dX7_fast_74 ?_
      refine lv_istore (lv' := [(13, .int (Int32.ofInt (fl σ 46 10))), (0, rfv g 9), (1, rfv g x1), (2, .long (Int64.ofInt x2)), (4, rfv g x4), (5, .long (Int64.ofInt x5)), (7, .long (Int64.ofInt x7)), (9, .long (Int64.ofInt x9)), (11, .long (Int64.ofInt x11))]) C.1 C.2.1 dX7_fast_77 hl (by decide) rfl (fun ls hl => ?_)
      refine z_aload_n C dX7_fast_79 rfl (lv_at hl 1 rfl) ?_
      refine z_aload C dX7_fast_80 (lv_at hl 4 rfl) ?_
      refine lv_lload C.1 C.2.1 dX7_fast_82 (lv_at hl 8 rfl) ?_
      obtain ⟨r22, e23, hm⟩ := obd_s hm
      refine c_callVvP C hE h (sh_9 hS) rfl (by decide) (hcrRow hS e23) (cwV 2 C.2.2.1 (gS_X7_31 _) rfl rfl rfl hd_X7_row ⟨(by show φ + 1 ≤ φ + 1; omega), (by show 8 + (5 + 11) + ψ ≤ ψ + 24; omega)⟩) rfl hl.1 rfl (Nat.le_of_ble_eq_true rfl) dX7_fast_84 ⟨(Nat.le_of_ble_eq_true rfl), (Nat.le_of_ble_eq_true rfl)⟩ (fun H locs h => ?_)
      refine z_aload_n C dX7_fast_87 rfl (lv_at hl 1 rfl) ?_
      refine cg_8_0 C h (sh_9 hS) cU_X7 (List.mem_cons_of_mem _ wl_X7_12) dX7_fast_88 ?_
      refine lv_iload C.1 C.2.1 dX7_fast_91 (lv_at hl 0 rfl) ?_
      refine lv_lload C.1 C.2.1 dX7_fast_93 (lv_at hl 6 rfl) ?_
      refine lv_lload C.1 C.2.1 dX7_fast_95 (lv_at hl 8 rfl) ?_
      refine lv_lload C.1 C.2.1 dX7_fast_97 (lv_at hl 6 rfl) ?_
      refine z_lmul C dX7_fast_99 ?_
      refine lv_lload_n C.1 C.2.1 dX7_fast_100 rfl (lv_at hl 3 rfl) ?_
      refine lv_lload C.1 C.2.1 dX7_fast_101 (lv_at hl 5 rfl) ?_
      refine z_lmul C dX7_fast_103 ?_
      refine z_lsub C dX7_fast_104 ?_
      refine z_aload C dX7_fast_105 (lv_at hl 4 rfl) ?_
      obtain ⟨g26, hm⟩ := grd_s hm
      refine cg_5_2 C h g26 cU_X4 (List.mem_cons_of_mem _ wl_X7_101) dX7_fast_107 ?_
      refine z_lmul C dX7_fast_110 ?_
      obtain ⟨r27, e28, hm⟩ := obd_s hm
      refine c_callVvP C hE h (sh_10 hS) rfl (by decide) (kc_Es_scale l D k z mi aK aV g N hS e28) (cwV 3 C.2.2.1 (gS_X7_162 _) rfl rfl rfl hd_X1_scale ⟨(by show 0 + 1 ≤ φ + 1; omega), (by show 8 + (7 + 11) + 0 ≤ ψ + 24; omega)⟩) rfl hl.1 rfl (Nat.le_of_ble_eq_true rfl) dX7_fast_111 ⟨(Nat.le_of_ble_eq_true rfl), (Nat.le_of_ble_eq_true rfl)⟩ (fun H locs h => ?_)
      refine z_aload_n C dX7_fast_114 rfl (lv_at hl 1 rfl) ?_
      refine cg_8_0 C h (sh_9 hS) cU_X7 (List.mem_cons_of_mem _ wl_X7_12) dX7_fast_115 ?_
      refine lv_iload C.1 C.2.1 dX7_fast_118 (lv_at hl 0 rfl) ?_
      refine lv_lconst (v := Int64.ofInt 0) C.1 C.2.1 dX7_fast_120 (by decide) ?_
      refine z_aload_n C dX7_fast_121 rfl (lv_at hl 2 rfl) ?_
      obtain ⟨g31, hm⟩ := grd_s hm
      refine cg_5_2 C h g31 cU_X4 (List.mem_cons_of_mem _ wl_X7_101) dX7_fast_122 ?_
      refine lv_iconst (v := Int32.ofInt 1) C.1 C.2.1 dX7_fast_125 (by decide) ?_
      obtain ⟨r32, e33, hm⟩ := obd_s hm
      refine c_callVvP C hE h (sh_10 hS) rfl (by decide) (kc_Es_choose l D k z mi aK aV g N hS e33) (cwV 4 C.2.2.1 (gS_X7_172 _) rfl rfl rfl hd_X1_choose ⟨(by show 1 + 1 ≤ φ + 1; omega), (by show 8 + (9 + 11) + 22 ≤ ψ + 24; omega)⟩) rfl hl.1 rfl (Nat.le_of_ble_eq_true rfl) dX7_fast_126 ⟨(Nat.le_of_ble_eq_true rfl), (Nat.le_of_ble_eq_true rfl)⟩ (fun H locs h => ?_)
      refine lv_lload C.1 C.2.1 dX7_fast_129 (lv_at hl 8 rfl) ?_
      refine lv_lconst (v := Int64.ofInt 1) C.1 C.2.1 dX7_fast_131 (by decide) ?_
      refine z_ladd C dX7_fast_132 ?_
      obtain ⟨v36, e37, hm⟩ := bnd_s hm
      rw [e37]
      refine lv_lstore (lv' := [(11, .long (Int64.ofInt v36)), (13, .int (Int32.ofInt (fl σ 46 10))), (0, rfv g 9), (1, rfv g x1), (2, .long (Int64.ofInt x2)), (4, rfv g x4), (5, .long (Int64.ofInt x5)), (7, .long (Int64.ofInt x7)), (9, .long (Int64.ofInt x9))]) C.1 C.2.1 dX7_fast_133 hl (by decide) rfl (fun ls hl => ?_)
      refine lv_goto (tgt := 62) C.1 C.2.1 dX7_fast_135 (by decide) ?_
      exact hrec62 (lv_sub hl [2, 3, 4, 5, 6, 7, 8, 0] rfl) h hm
set_option maxHeartbeats 8000000 in
set_option maxRecDepth 100000 in
theorem kc_Rw_fast (l : Launch) (D : va_G) (k : Nat → ClassId) (z mi : Nat) (aK aV : Nat → Nat) (g : Nat → Nat) (N : Nat) {φ ψ : Nat} {rRow : Sh → St → Int → Int → Option St} (hφ : 12 ≤ φ) (hψ : 400 ≤ ψ) (hmrRow : ∀ {π : Sh} {σ : St} {y1 : Int} {y2 : Int} {r : St}, Cl π σ → y1 < nn π → rRow π σ y1 y2 = some r → Cl π r) (hcrRow : ∀ {g : Nat → Nat} {π : Sh} {σ : St} {y1 : Int} {y2 : Int} {r : St}, SHs π → rRow π σ y1 y2 = some r → Mv l yX7_row (.code yX7_row cX7_row 5 none :: cWd) { frames := φ, cells := 0, slots := 0, locals := ψ } [rfv g 9, rfv g y1, .long (Int64.ofInt y2)] D (TYs k) (cW k z g π σ) (XV z mi aK aV (cW k z g π σ)) Unit (fun _ => True) (fun _ => cW k z g π r) 0 0) {π : Sh} {σ : St} {x1 : Int} {x2 : Int} {r : St} (hS : SHs π) (hm : Rw_fast N rRow π σ x1 x2 = some r) : Mv l yX7_fast (.code yX7_fast cX7_fast 14 none :: cWd) { frames := φ + 1, cells := 0, slots := 0, locals := ψ + 24 } [rfv g 9, rfv g x1, .long (Int64.ofInt x2)] D (TYs k) (cW k z g π σ) (XV z mi aK aV (cW k z g π σ)) Unit (fun _ => True) (fun _ => cW k z g π r) 0 0 := by
  intro sz
  refine v_met (cc := cX7_fast) (maxL := 14) (ret := none) (lv := [(0, rfv g 9), (1, rfv g x1), (2, .long (Int64.ofInt x2))]) (by decide) rfl (by simp [lg_sl, rfv_cat, cat_i, cat_l]) (by simp [lv_args, rfv_cat, cat_i, cat_l]) ?_
  intro p e s m below meth c ls C hE hr hlk hmn hl h
  rw [Rw_fast] at hm
  refine z_aload_n C dX7_fast_0 rfl (lv_at hl 1 rfl) ?_
  obtain ⟨g1, hm⟩ := grd_s hm
  refine cg_5_1 C h g1 cU_X4 (List.mem_cons_of_mem _ wl_X7_125) dX7_fast_1 ?_
  refine lv_iconst (v := Int32.ofInt 0) C.1 C.2.1 dX7_fast_4 (by decide) ?_
  obtain ⟨g2, hm⟩ := grd_s hm
  obtain ⟨g3, hm⟩ := grd_s hm
  refine c_qald C h (t := 6) (by decide) rfl g2 g3 dX7_fast_5 ?_
  obtain ⟨v4, e5, hm⟩ := bnd_s hm
  rw [e5]
  refine z_astore (lv' := [(4, rfv g v4), (0, rfv g 9), (1, rfv g x1), (2, .long (Int64.ofInt x2))]) C dX7_fast_6 hl (by decide) rfl (fun ls hl => ?_)
  refine lv_iconst (v := Int32.ofInt 1) C.1 C.2.1 dX7_fast_8 (by decide) ?_
  refine z_aload_n C dX7_fast_9 rfl (lv_at hl 2 rfl) ?_
  refine cg_5_0 C h g1 cU_X4 (List.mem_cons_of_mem _ wl_X7_41) dX7_fast_10 ?_
  obtain ⟨g6, hm⟩ := grd_s hm
  refine cg_10_2 C h g6 cU_X9 (List.mem_cons_of_mem _ wl_X7_57) dX7_fast_13 ?_
  obtain ⟨g7, hm⟩ := grd_s hm
  refine v_max C hl.1 dX7_fast_16 (by decide) g7 (List.mem_cons_of_mem _ wx_X7_133) (List.mem_cons_of_mem _ wxs_max) (List.mem_cons_of_mem _ wxc_max) (List.mem_cons_of_mem _ wt_Math) (by show 1 ≤ φ + 1; omega) (by simp [rfv_cat, cat_i, cat_l] <;> omega) (Nat.le_of_ble_eq_true rfl) (Nat.le_of_ble_eq_true rfl) ?_
  obtain ⟨g8, hm⟩ := grd_s hm
  refine z_i2l C dX7_fast_19 g8 ?_
  obtain ⟨v9, e10, hm⟩ := bnd_s hm
  rw [e10]
  refine lv_lstore (lv' := [(5, .long (Int64.ofInt v9)), (4, rfv g v4), (0, rfv g 9), (1, rfv g x1), (2, .long (Int64.ofInt x2))]) C.1 C.2.1 dX7_fast_20 hl (by decide) (by simp [rfv_cat, cat_i, cat_l]) (fun ls hl => ?_)
  refine lv_iconst (v := Int32.ofInt 1) C.1 C.2.1 dX7_fast_22 (by decide) ?_
  refine z_aload_n C dX7_fast_23 rfl (lv_at hl 3 rfl) ?_
  refine cg_5_0 C h g1 cU_X4 (List.mem_cons_of_mem _ wl_X7_41) dX7_fast_24 ?_
  refine cg_10_3 C h g6 cU_X9 (List.mem_cons_of_mem _ wl_X7_78) dX7_fast_27 ?_
  obtain ⟨g11, hm⟩ := grd_s hm
  refine v_max C hl.1 dX7_fast_30 (by decide) g11 (List.mem_cons_of_mem _ wx_X7_133) (List.mem_cons_of_mem _ wxs_max) (List.mem_cons_of_mem _ wxc_max) (List.mem_cons_of_mem _ wt_Math) (by show 1 ≤ φ + 1; omega) (by simp [rfv_cat, cat_i, cat_l] <;> omega) (Nat.le_of_ble_eq_true rfl) (Nat.le_of_ble_eq_true rfl) ?_
  obtain ⟨g12, hm⟩ := grd_s hm
  refine z_i2l C dX7_fast_33 g12 ?_
  obtain ⟨v13, e14, hm⟩ := bnd_s hm
  rw [e14]
  refine lv_lstore (lv' := [(7, .long (Int64.ofInt v13)), (5, .long (Int64.ofInt v9)), (4, rfv g v4), (0, rfv g 9), (1, rfv g x1), (2, .long (Int64.ofInt x2))]) C.1 C.2.1 dX7_fast_34 hl (by decide) rfl (fun ls hl => ?_)
  refine lv_lload_n C.1 C.2.1 dX7_fast_36 rfl (lv_at hl 5 rfl) ?_
  refine lv_lconst (v := Int64.ofInt 1) C.1 C.2.1 dX7_fast_37 (by decide) ?_
  refine z_ladd C dX7_fast_38 ?_
  refine lv_lload C.1 C.2.1 dX7_fast_39 (lv_at hl 1 rfl) ?_
  refine z_lmul C dX7_fast_41 ?_
  refine lv_lconst (v := Int64.ofInt 1) C.1 C.2.1 dX7_fast_42 (by decide) ?_
  refine z_lsub C dX7_fast_43 ?_
  refine lv_lload C.1 C.2.1 dX7_fast_44 (lv_at hl 0 rfl) ?_
  obtain ⟨r15, e16, hm⟩ := obd_s hm
  refine v_callSl C h (kc_M_floorDiv l D k N (((x2 + 1) * v9) - 1) v13 r15 e16) (v_cwS 2 C.2.2.1 (gC_J9_floorDiv_f86c9 _) rfl rfl rfl (C.2.2.1 _ (List.mem_cons_of_mem _ wt_J9)) (C.2.2.1 _ (List.mem_cons_of_mem _ wm_X7_22)) (C.2.2.1 _ (List.mem_cons_of_mem _ ws_J9_floorDiv_f86c9)) hdS_J9_floorDiv_f86c9 ⟨(by show 0 + 1 ≤ φ + 1; omega), (by show 8 + (6 + 11) + 0 ≤ ψ + 24; omega)⟩) rfl hl.1 rfl (Nat.le_of_ble_eq_true rfl) dX7_fast_46 ⟨(Nat.le_of_ble_eq_true rfl), (Nat.le_of_ble_eq_true rfl)⟩ (fun H locs h => ?_)
  refine lv_lstore (lv' := [(9, .long (Int64.ofInt r15)), (7, .long (Int64.ofInt v13)), (5, .long (Int64.ofInt v9)), (4, rfv g v4), (0, rfv g 9), (1, rfv g x1), (2, .long (Int64.ofInt x2))]) C.1 C.2.1 dX7_fast_49 hl (by decide) rfl (fun ls hl => ?_)
  refine lv_lload_n C.1 C.2.1 dX7_fast_51 rfl (lv_at hl 6 rfl) ?_
  refine lv_lload C.1 C.2.1 dX7_fast_52 (lv_at hl 2 rfl) ?_
  refine z_lmul C dX7_fast_54 ?_
  refine lv_lload C.1 C.2.1 dX7_fast_55 (lv_at hl 1 rfl) ?_
  obtain ⟨r17, e18, hm⟩ := obd_s hm
  refine v_callSl C h (kc_M_floorDiv l D k N (x2 * v9) v13 r17 e18) (v_cwS 2 C.2.2.1 (gC_J9_floorDiv_f86c9 _) rfl rfl rfl (C.2.2.1 _ (List.mem_cons_of_mem _ wt_J9)) (C.2.2.1 _ (List.mem_cons_of_mem _ wm_X7_22)) (C.2.2.1 _ (List.mem_cons_of_mem _ ws_J9_floorDiv_f86c9)) hdS_J9_floorDiv_f86c9 ⟨(by show 0 + 1 ≤ φ + 1; omega), (by show 8 + (6 + 11) + 0 ≤ ψ + 24; omega)⟩) rfl hl.1 rfl (Nat.le_of_ble_eq_true rfl) dX7_fast_57 ⟨(Nat.le_of_ble_eq_true rfl), (Nat.le_of_ble_eq_true rfl)⟩ (fun H locs h => ?_)
  refine lv_lstore (lv' := [(11, .long (Int64.ofInt r17)), (9, .long (Int64.ofInt r15)), (7, .long (Int64.ofInt v13)), (5, .long (Int64.ofInt v9)), (4, rfv g v4), (0, rfv g 9), (1, rfv g x1), (2, .long (Int64.ofInt x2))]) C.1 C.2.1 dX7_fast_60 hl (by decide) rfl (fun ls hl => ?_)
  exact kl_Rw_fast_62 (N := N) C hr hlk hE hS hφ hψ hmrRow hcrRow N (lv_sub hl [5, 6, 7, 4, 3, 2, 1, 0] rfl) h hm
end Z_Rw_fast
section Z_Rw_layer
variable {p : Program} {l : Launch} {e : Env} {s : State} {m : MethodId} {args : Array Value} {below : List Frame} {meth : Method} {c : Code} {D : va_G} {A : Nat → Prop} {k : Nat → ClassId} {N : Nat} {cd : Cond} {z mi : Nat} {aK aV : Nat → Nat} {g : Nat → Nat} {π : Sh} {φ ψ : Nat}
set_option maxHeartbeats 8000000 in
set_option maxRecDepth 100000 in
theorem kl_Rw_layer_12 {r : St} (C : Cx p s m args c cX7_layer RX7 (cd :: cWd) D (TYs k) 7) (hr : meth.sig.returnType = none) (hlk : meth.locks = false) (hE : Ev z mi aK aV A s s.heap) (hS : SHs π) {rRow : Sh → St → Int → Int → Option St} (hφ : 12 ≤ φ) (hψ : 400 ≤ ψ) (hmrRow : ∀ {π : Sh} {σ : St} {y1 : Int} {y2 : Int} {r : St}, Cl π σ → y1 < nn π → rRow π σ y1 y2 = some r → Cl π r) (hcrRow : ∀ {g : Nat → Nat} {π : Sh} {σ : St} {y1 : Int} {y2 : Int} {r : St}, SHs π → rRow π σ y1 y2 = some r → Mv l yX7_row (.code yX7_row cX7_row 5 none :: cWd) { frames := φ, cells := 0, slots := 0, locals := ψ } [rfv g 9, rfv g y1, .long (Int64.ofInt y2)] D (TYs k) (cW k z g π σ) (XV z mi aK aV (cW k z g π σ)) Unit (fun _ => True) (fun _ => cW k z g π r) 0 0)  (n : Nat) : ∀ {ls : Array Slot} {H : Heap} {locs : List Loc} {σ : St} {x1 : Int} {x2 : Int} {x4 : Int} {x5 : Int}, lv_has ls 7 [(0, rfv g 9), (1, rfv g x1), (2, .long (Int64.ofInt x2)), (4, .int (Int32.ofInt x4)), (5, .int (Int32.ofInt x5))] → Hp D A s.heap H locs (cW k z g π σ) → Rw_layer_12 N rRow π n σ x1 x2 x4 x5 = some r → W p l e { frames := φ + 1, cells := 0, slots := 0, locals := ψ + 24 } s m args below meth c H locs 0 0 (MQ below (va_Qv (fun (_ : Unit) => True) (fun _ t => PostW D (TYs k) A (cW k z g π r) t) A) args s 0 0 A) (F0 m 12 ls []) := by
  induction n with
  | zero => intro ls H locs σ x1 x2 x4 x5  hl h hm; cases (show none = some r from hm)
  | succ n hrec12 =>
    intro ls H locs σ x1 x2 x4 x5  hl h hm
    rw [Rw_layer_12] at hm
    refine lv_iload C.1 C.2.1 dX7_layer_12 (lv_at hl 4 rfl) ?_
    refine z_aload_n C dX7_layer_14 rfl (lv_at hl 1 rfl) ?_
    obtain ⟨g1, hm⟩ := grd_s hm
    refine cg_5_1 C h g1 cU_X4 (List.mem_cons_of_mem _ wl_X7_125) dX7_layer_15 ?_
    obtain ⟨g2, hm⟩ := grd_s hm
    obtain ⟨g3, hm⟩ := grd_s hm
    refine c_alen C h (t := 6) rfl g2 g3 dX7_layer_18 ?_
    obtain ⟨g4, hm⟩ := grd_s hm
    obtain ⟨g5, hm⟩ := grd_s hm
    refine z_icmp_ge (tgt := 74) C dX7_layer_19 (by decide) g4 g5 (fun c6 => ?_) (fun c6 => ?_)
    · have hm := ite_f c6 hm
      refine z_aload_n C dX7_layer_74 rfl (lv_at hl 0 rfl) ?_
      refine cg_8_0 C h (sh_9 hS) cU_X7 (List.mem_cons_of_mem _ wl_X7_12) dX7_layer_75 ?_
      refine lv_iload C.1 C.2.1 dX7_layer_78 (lv_at hl 3 rfl) ?_
      obtain ⟨r7, e8, hm⟩ := obd_s hm
      refine c_callVvP C hE h (sh_10 hS) rfl (by decide) (kc_Es_sort l D k z mi aK aV g N hS e8) (cwV 1 C.2.2.1 (gS_X7_168 _) rfl rfl rfl hd_X1_sort ⟨(by show 3 + 1 ≤ φ + 1; omega), (by show 8 + (5 + 11) + 88 ≤ ψ + 24; omega)⟩) rfl hl.1 rfl (Nat.le_of_ble_eq_true rfl) dX7_layer_80 ⟨(Nat.le_of_ble_eq_true rfl), (Nat.le_of_ble_eq_true rfl)⟩ (fun H locs h => ?_)
      cases hm
      exact c_vretP C h hr hlk dX7_layer_83
    · have hm := ite_t c6 hm
      refine z_aload_n C dX7_layer_22 rfl (lv_at hl 0 rfl) ?_
      refine cg_8_0 C h (sh_9 hS) cU_X7 (List.mem_cons_of_mem _ wl_X7_12) dX7_layer_23 ?_
      refine cg_2_6 C h (sh_10 hS) cU_X1 (List.mem_cons_of_mem _ wl_X7_28) dX7_layer_26 ?_
      refine lv_istore (lv' := [(6, .int (Int32.ofInt (fl σ 46 10))), (0, rfv g 9), (1, rfv g x1), (2, .long (Int64.ofInt x2)), (4, .int (Int32.ofInt x4)), (5, .int (Int32.ofInt x5))]) C.1 C.2.1 dX7_layer_29 hl (by decide) rfl (fun ls hl => ?_)
      refine z_aload_n C dX7_layer_31 rfl (lv_at hl 1 rfl) ?_
      refine z_aload_n C dX7_layer_32 rfl (lv_at hl 2 rfl) ?_
      refine cg_5_1 C h g1 cU_X4 (List.mem_cons_of_mem _ wl_X7_125) dX7_layer_33 ?_
      refine lv_iload C.1 C.2.1 dX7_layer_36 (lv_at hl 5 rfl) ?_
      obtain ⟨g11, hm⟩ := grd_s hm
      refine c_qald C h (t := 6) (by decide) rfl g2 g11 dX7_layer_38 ?_
      refine lv_lload_n C.1 C.2.1 dX7_layer_39 rfl (lv_at hl 3 rfl) ?_
      obtain ⟨r12, e13, hm⟩ := obd_s hm
      refine c_callVvP C hE h (sh_9 hS) rfl (by decide) (hcrRow hS e13) (cwV 2 C.2.2.1 (gS_X7_31 _) rfl rfl rfl hd_X7_row ⟨(by show φ + 1 ≤ φ + 1; omega), (by show 8 + (5 + 11) + ψ ≤ ψ + 24; omega)⟩) rfl hl.1 rfl (Nat.le_of_ble_eq_true rfl) dX7_layer_40 ⟨(Nat.le_of_ble_eq_true rfl), (Nat.le_of_ble_eq_true rfl)⟩ (fun H locs h => ?_)
      refine z_aload_n C dX7_layer_43 rfl (lv_at hl 1 rfl) ?_
      refine cg_8_0 C h (sh_9 hS) cU_X7 (List.mem_cons_of_mem _ wl_X7_12) dX7_layer_44 ?_
      refine lv_iload C.1 C.2.1 dX7_layer_47 (lv_at hl 0 rfl) ?_
      refine z_aload_n C dX7_layer_49 rfl (lv_at hl 2 rfl) ?_
      refine cg_5_2 C h g1 cU_X4 (List.mem_cons_of_mem _ wl_X7_101) dX7_layer_50 ?_
      refine z_aload_n C dX7_layer_53 rfl (lv_at hl 2 rfl) ?_
      refine cg_5_1 C h g1 cU_X4 (List.mem_cons_of_mem _ wl_X7_125) dX7_layer_54 ?_
      refine lv_iload C.1 C.2.1 dX7_layer_57 (lv_at hl 5 rfl) ?_
      obtain ⟨g16, hm⟩ := grd_s hm
      obtain ⟨g17, hm⟩ := grd_s hm
      refine c_qald C h (t := 6) (by decide) rfl g16 g17 dX7_layer_59 ?_
      obtain ⟨g18, hm⟩ := grd_s hm
      refine cg_5_2 C h g18 cU_X4 (List.mem_cons_of_mem _ wl_X7_101) dX7_layer_60 ?_
      obtain ⟨g19, hm⟩ := grd_s hm
      obtain ⟨g20, hm⟩ := grd_s hm
      obtain ⟨g21, hm⟩ := grd_s hm
      refine z_ldiv C dX7_layer_63 g19 g20 g21 ?_
      refine lv_lconst (v := Int64.ofInt 0) C.1 C.2.1 dX7_layer_64 (by decide) ?_
      obtain ⟨r22, e23, hm⟩ := obd_s hm
      refine c_callVvP C hE h (sh_10 hS) rfl (by decide) (kc_Es_scale l D k z mi aK aV g N hS e23) (cwV 3 C.2.2.1 (gS_X7_162 _) rfl rfl rfl hd_X1_scale ⟨(by show 0 + 1 ≤ φ + 1; omega), (by show 8 + (7 + 11) + 0 ≤ ψ + 24; omega)⟩) rfl hl.1 rfl (Nat.le_of_ble_eq_true rfl) dX7_layer_65 ⟨(Nat.le_of_ble_eq_true rfl), (Nat.le_of_ble_eq_true rfl)⟩ (fun H locs h => ?_)
      refine lv_iinc (v := Int32.ofInt (x5 + 1)) (lv' := [(5, .int (Int32.ofInt (x5 + 1))), (6, .int (Int32.ofInt (fl σ 46 10))), (0, rfv g 9), (1, rfv g x1), (2, .long (Int64.ofInt x2)), (4, .int (Int32.ofInt x4))]) C.1 C.2.1 dX7_layer_68 hl (k := 5) rfl (c32_add _ _) (by decide) rfl (fun ls hl => ?_)
      refine lv_goto (tgt := 12) C.1 C.2.1 dX7_layer_71 (by decide) ?_
      exact hrec12 (lv_sub hl [2, 3, 4, 5, 0] rfl) h hm
set_option maxHeartbeats 8000000 in
set_option maxRecDepth 100000 in
theorem kc_Rw_layer (l : Launch) (D : va_G) (k : Nat → ClassId) (z mi : Nat) (aK aV : Nat → Nat) (g : Nat → Nat) (N : Nat) {φ ψ : Nat} {rRow : Sh → St → Int → Int → Option St} (hφ : 12 ≤ φ) (hψ : 400 ≤ ψ) (hmrRow : ∀ {π : Sh} {σ : St} {y1 : Int} {y2 : Int} {r : St}, Cl π σ → y1 < nn π → rRow π σ y1 y2 = some r → Cl π r) (hcrRow : ∀ {g : Nat → Nat} {π : Sh} {σ : St} {y1 : Int} {y2 : Int} {r : St}, SHs π → rRow π σ y1 y2 = some r → Mv l yX7_row (.code yX7_row cX7_row 5 none :: cWd) { frames := φ, cells := 0, slots := 0, locals := ψ } [rfv g 9, rfv g y1, .long (Int64.ofInt y2)] D (TYs k) (cW k z g π σ) (XV z mi aK aV (cW k z g π σ)) Unit (fun _ => True) (fun _ => cW k z g π r) 0 0) {π : Sh} {σ : St} {x1 : Int} {x2 : Int} {r : St} (hS : SHs π) (hm : Rw_layer N rRow π σ x1 x2 = some r) : Mv l yX7_layer (.code yX7_layer cX7_layer 7 none :: cWd) { frames := φ + 1, cells := 0, slots := 0, locals := ψ + 24 } [rfv g 9, rfv g x1, .long (Int64.ofInt x2)] D (TYs k) (cW k z g π σ) (XV z mi aK aV (cW k z g π σ)) Unit (fun _ => True) (fun _ => cW k z g π r) 0 0 := by
  intro sz
  refine v_met (cc := cX7_layer) (maxL := 7) (ret := none) (lv := [(0, rfv g 9), (1, rfv g x1), (2, .long (Int64.ofInt x2))]) (by decide) rfl (by simp [lg_sl, rfv_cat, cat_i, cat_l]) (by simp [lv_args, rfv_cat, cat_i, cat_l]) ?_
  intro p e s m below meth c ls C hE hr hlk hmn hl h
  rw [Rw_layer] at hm
  refine z_aload_n C dX7_layer_0 rfl (lv_at hl 0 rfl) ?_
  refine cg_8_0 C h (sh_9 hS) cU_X7 (List.mem_cons_of_mem _ wl_X7_12) dX7_layer_1 ?_
  refine cg_2_6 C h (sh_10 hS) cU_X1 (List.mem_cons_of_mem _ wl_X7_28) dX7_layer_4 ?_
  refine lv_istore (lv' := [(4, .int (Int32.ofInt (fl σ 46 10))), (0, rfv g 9), (1, rfv g x1), (2, .long (Int64.ofInt x2))]) C.1 C.2.1 dX7_layer_7 hl (by decide) rfl (fun ls hl => ?_)
  refine lv_iconst (v := Int32.ofInt 0) C.1 C.2.1 dX7_layer_9 (by decide) ?_
  refine lv_istore (lv' := [(5, .int (Int32.ofInt 0)), (4, .int (Int32.ofInt (fl σ 46 10))), (0, rfv g 9), (1, rfv g x1), (2, .long (Int64.ofInt x2))]) C.1 C.2.1 dX7_layer_10 hl (by decide) rfl (fun ls hl => ?_)
  exact kl_Rw_layer_12 (N := N) C hr hlk hE hS hφ hψ hmrRow hcrRow N (lv_sub hl [2, 3, 4, 1, 0] rfl) h hm
end Z_Rw_layer
section Z_Rw_overwrite
variable {p : Program} {l : Launch} {e : Env} {s : State} {m : MethodId} {args : Array Value} {below : List Frame} {meth : Method} {c : Code} {D : va_G} {A : Nat → Prop} {k : Nat → ClassId} {N : Nat} {cd : Cond} {z mi : Nat} {aK aV : Nat → Nat} {g : Nat → Nat} {π : Sh}
set_option maxHeartbeats 8000000 in
set_option maxRecDepth 100000 in
theorem kl_Rw_overwrite_32 {r : St} (C : Cx p s m args c cX7_overwrite RX7 (cd :: cWd) D (TYs k) 3) (hr : meth.sig.returnType = none) (hlk : meth.locks = false) (hE : Ev z mi aK aV A s s.heap) (hS : SHs π)    {ls : Array Slot} {H : Heap} {locs : List Loc} {σ : St} {x1 : Int} {x2 : Int}  (hl : lv_has ls 3 [(0, rfv g 9), (1, .int (Int32.ofInt x1)), (2, .int (Int32.ofInt x2))]) (h : Hp D A s.heap H locs (cW k z g π σ)) (hm : Rw_overwrite_32 N π σ x1 x2 = some r) : W p l e { frames := 0, cells := 0, slots := 0, locals := 0 } s m args below meth c H locs 0 0 (MQ below (va_Qv (fun (_ : Unit) => True) (fun _ t => PostW D (TYs k) A (cW k z g π r) t) A) args s 0 0 A) (F0 m 32 ls []) := by
  rw [Rw_overwrite_32] at hm
  refine z_aload_n C dX7_overwrite_32 rfl (lv_at hl 0 rfl) ?_
  refine cg_8_0 C h (sh_9 hS) cU_X7 (List.mem_cons_of_mem _ wl_X7_12) dX7_overwrite_33 ?_
  refine cg_2_4 C h (sh_10 hS) cU_X1 (List.mem_cons_of_mem _ wl_X7_196) dX7_overwrite_36 ?_
  refine lv_iload_n C.1 C.2.1 dX7_overwrite_39 rfl (lv_at hl 2 rfl) ?_
  obtain ⟨g5, hm⟩ := grd_s hm
  refine c_zald C h (sh_15 hS) (ina_inb (n := 6000) (sl_15 hS) (Nat.le_of_ble_eq_true rfl) g5) dX7_overwrite_40 ?_
  obtain ⟨g6, hm⟩ := grd_s hm
  refine z_if_eq (tgt := 72) C dX7_overwrite_41 (by decide) g6 (fun c7 => ?_) (fun c7 => ?_)
  · have hm := ite_t c7 hm
    cases hm
    exact c_vretP C h hr hlk dX7_overwrite_72
  · have hm := ite_f c7 hm
    refine z_aload_n C dX7_overwrite_44 rfl (lv_at hl 0 rfl) ?_
    refine cg_8_0 C h (sh_9 hS) cU_X7 (List.mem_cons_of_mem _ wl_X7_12) dX7_overwrite_45 ?_
    refine cg_2_3 C h (sh_10 hS) cU_X1 (List.mem_cons_of_mem _ wl_X7_193) dX7_overwrite_48 ?_
    refine lv_iload_n C.1 C.2.1 dX7_overwrite_51 rfl (lv_at hl 1 rfl) ?_
    refine z_aload_n C dX7_overwrite_52 rfl (lv_at hl 0 rfl) ?_
    refine cg_8_0 C h (sh_9 hS) cU_X7 (List.mem_cons_of_mem _ wl_X7_12) dX7_overwrite_53 ?_
    refine cg_2_3 C h (sh_10 hS) cU_X1 (List.mem_cons_of_mem _ wl_X7_193) dX7_overwrite_56 ?_
    refine lv_iload_n C.1 C.2.1 dX7_overwrite_59 rfl (lv_at hl 2 rfl) ?_
    refine c_iald C h (sh_14 hS) (ina_inb (n := 6000) (sl_14 hS) (Nat.le_of_ble_eq_true rfl) g5) dX7_overwrite_60 ?_
    obtain ⟨g8, hm⟩ := grd_s hm
    refine c_iast C h (sh_14 hS) (ina_inb (n := 6000) (sl_14 hS) (Nat.le_of_ble_eq_true rfl) g8) dX7_overwrite_61 (fun H locs h => ?_)
    refine z_aload_n C dX7_overwrite_62 rfl (lv_at hl 0 rfl) ?_
    refine cg_8_0 C h (sh_9 hS) cU_X7 (List.mem_cons_of_mem _ wl_X7_12) dX7_overwrite_63 ?_
    refine cg_2_4 C h (sh_10 hS) cU_X1 (List.mem_cons_of_mem _ wl_X7_196) dX7_overwrite_66 ?_
    refine lv_iload_n C.1 C.2.1 dX7_overwrite_69 rfl (lv_at hl 1 rfl) ?_
    refine lv_iconst (v := Int32.ofInt 1) C.1 C.2.1 dX7_overwrite_70 (by decide) ?_
    refine c_zast C h (sh_15 hS) (ina_inb (n := 6000) (sl_15 hS) (Nat.le_of_ble_eq_true rfl) g8) (by decide) dX7_overwrite_71 (fun H locs h => ?_)
    cases hm
    exact c_vretP C h hr hlk dX7_overwrite_72
set_option maxHeartbeats 8000000 in
set_option maxRecDepth 100000 in
theorem kc_Rw_overwrite (l : Launch) (D : va_G) (k : Nat → ClassId) (z mi : Nat) (aK aV : Nat → Nat) (g : Nat → Nat) (N : Nat)    {π : Sh} {σ : St} {x1 : Int} {x2 : Int} {r : St} (hS : SHs π) (hm : Rw_overwrite N π σ x1 x2 = some r) : Mv l yX7_overwrite (.code yX7_overwrite cX7_overwrite 3 none :: cWd) { frames := 0, cells := 0, slots := 0, locals := 0 } [rfv g 9, .int (Int32.ofInt x1), .int (Int32.ofInt x2)] D (TYs k) (cW k z g π σ) (XV z mi aK aV (cW k z g π σ)) Unit (fun _ => True) (fun _ => cW k z g π r) 0 0 := by
  intro sz
  refine v_met (cc := cX7_overwrite) (maxL := 3) (ret := none) (lv := [(0, rfv g 9), (1, .int (Int32.ofInt x1)), (2, .int (Int32.ofInt x2))]) (by decide) rfl (by simp [lg_sl, rfv_cat, cat_i, cat_l]) (by simp [lv_args, rfv_cat, cat_i, cat_l]) ?_
  intro p e s m below meth c ls C hE hr hlk hmn hl h
  rw [Rw_overwrite] at hm
  refine z_aload_n C dX7_overwrite_0 rfl (lv_at hl 0 rfl) ?_
  refine cg_8_0 C h (sh_9 hS) cU_X7 (List.mem_cons_of_mem _ wl_X7_12) dX7_overwrite_1 ?_
  refine cg_2_2 C h (sh_10 hS) cU_X1 (List.mem_cons_of_mem _ wl_X7_191) dX7_overwrite_4 ?_
  refine lv_iload_n C.1 C.2.1 dX7_overwrite_7 rfl (lv_at hl 2 rfl) ?_
  obtain ⟨g1, hm⟩ := grd_s hm
  refine c_lald C h (sh_13 hS) (ina_inb (n := 6000) (sl_13 hS) (Nat.le_of_ble_eq_true rfl) g1) dX7_overwrite_8 ?_
  refine lv_lconst (v := Int64.ofInt 0) C.1 C.2.1 dX7_overwrite_9 (by decide) ?_
  obtain ⟨g2, hm⟩ := grd_s hm
  refine W.lcmp C.1 C.2.1 dX7_overwrite_10 ?_
  refine z_lcmp_eq (tgt := 32) C dX7_overwrite_11 (by decide) g2 (by decide) (fun c3 => ?_) (fun c3 => ?_)
  · have hm := ite_t c3 hm
    exact kl_Rw_overwrite_32 (N := N) C hr hlk hE hS (lv_sub hl [0, 1, 2] rfl) h hm
  · have hm := ite_f c3 hm
    refine z_aload_n C dX7_overwrite_14 rfl (lv_at hl 0 rfl) ?_
    refine cg_8_0 C h (sh_9 hS) cU_X7 (List.mem_cons_of_mem _ wl_X7_12) dX7_overwrite_15 ?_
    refine cg_2_2 C h (sh_10 hS) cU_X1 (List.mem_cons_of_mem _ wl_X7_191) dX7_overwrite_18 ?_
    refine lv_iload_n C.1 C.2.1 dX7_overwrite_21 rfl (lv_at hl 1 rfl) ?_
    refine z_aload_n C dX7_overwrite_22 rfl (lv_at hl 0 rfl) ?_
    refine cg_8_0 C h (sh_9 hS) cU_X7 (List.mem_cons_of_mem _ wl_X7_12) dX7_overwrite_23 ?_
    refine cg_2_2 C h (sh_10 hS) cU_X1 (List.mem_cons_of_mem _ wl_X7_191) dX7_overwrite_26 ?_
    refine lv_iload_n C.1 C.2.1 dX7_overwrite_29 rfl (lv_at hl 2 rfl) ?_
    refine c_lald C h (sh_13 hS) (ina_inb (n := 6000) (sl_13 hS) (Nat.le_of_ble_eq_true rfl) g1) dX7_overwrite_30 ?_
    obtain ⟨g4, hm⟩ := grd_s hm
    refine c_last C h (sh_13 hS) (ina_inb (n := 6000) (sl_13 hS) (Nat.le_of_ble_eq_true rfl) g4) dX7_overwrite_31 (fun H locs h => ?_)
    exact kl_Rw_overwrite_32 (N := N) C hr hlk hE hS (lv_sub hl [0, 1, 2] rfl) h hm
end Z_Rw_overwrite
section Z_Rw_reckon
variable {p : Program} {l : Launch} {e : Env} {s : State} {m : MethodId} {args : Array Value} {below : List Frame} {meth : Method} {c : Code} {D : va_G} {A : Nat → Prop} {k : Nat → ClassId} {N : Nat} {cd : Cond}
set_option maxHeartbeats 8000000 in
set_option maxRecDepth 100000 in
theorem kc_Rw_reckon (l : Launch) (D : va_G) (k : Nat → ClassId) (N : Nat) (x0 : Int) (x1 : Int) (x2 : Int) (r : Int) (hm : Rw_reckon N x0 x1 x2 = some r) : Mi l yX7_reckon (.code yX7_reckon cX7_reckon 3 (some .int) :: cWd) { frames := 0, cells := 0, slots := 0, locals := 0 } [.int (Int32.ofInt x0), .int (Int32.ofInt x1), .int (Int32.ofInt x2)] D (TYs k) [] (fun _ => True) Unit (fun v _ => v = Int32.ofInt r) (fun _ => []) 0 0 := by
  intro sz
  refine x_met (cc := cX7_reckon) (maxL := 3) (ret := (some .int)) (by decide) rfl (Nat.le_of_ble_eq_true rfl) ?_
  intro p e s m below meth c ls C hX hsz hr hlk hmn hl h
  have hl : lv_has ls 3 [(0, .int (Int32.ofInt x0)), (1, .int (Int32.ofInt x1)), (2, .int (Int32.ofInt x2))] := hl
  rw [Rw_reckon] at hm
  refine lv_iload_n C.1 C.2.1 dX7_reckon_0 rfl (lv_at hl 0 rfl) ?_
  refine lv_bipush (v := Int32.ofInt 43) C.1 C.2.1 dX7_reckon_1 (by decide) ?_
  obtain ⟨g1, hm⟩ := grd_s hm
  refine z_icmp_ne (tgt := 12) C dX7_reckon_3 (by decide) g1 (by decide) (fun c2 => ?_) (fun c2 => ?_)
  · have hm := ite_f c2 hm
    refine lv_iload_n C.1 C.2.1 dX7_reckon_12 rfl (lv_at hl 0 rfl) ?_
    refine lv_bipush (v := Int32.ofInt 45) C.1 C.2.1 dX7_reckon_13 (by decide) ?_
    refine z_icmp_ne (tgt := 24) C dX7_reckon_15 (by decide) g1 (by decide) (fun c3 => ?_) (fun c3 => ?_)
    · have hm := ite_f c3 hm
      refine lv_iload_n C.1 C.2.1 dX7_reckon_24 rfl (lv_at hl 1 rfl) ?_
      refine lv_iload_n C.1 C.2.1 dX7_reckon_25 rfl (lv_at hl 2 rfl) ?_
      refine z_imul C dX7_reckon_26 ?_
      cases hm
      rw [← c32_w (x1 * x2)]
      exact v_iretS C h hr hlk dX7_reckon_27 rfl
    · have hm := ite_t c3 hm
      refine lv_iload_n C.1 C.2.1 dX7_reckon_18 rfl (lv_at hl 1 rfl) ?_
      refine lv_iload_n C.1 C.2.1 dX7_reckon_19 rfl (lv_at hl 2 rfl) ?_
      refine z_isub C dX7_reckon_20 ?_
      refine lv_goto (tgt := 27) C.1 C.2.1 dX7_reckon_21 (by decide) ?_
      cases hm
      rw [← c32_w (x1 - x2)]
      exact v_iretS C h hr hlk dX7_reckon_27 rfl
  · have hm := ite_t c2 hm
    refine lv_iload_n C.1 C.2.1 dX7_reckon_6 rfl (lv_at hl 1 rfl) ?_
    refine lv_iload_n C.1 C.2.1 dX7_reckon_7 rfl (lv_at hl 2 rfl) ?_
    refine z_iadd C dX7_reckon_8 ?_
    refine lv_goto (tgt := 27) C.1 C.2.1 dX7_reckon_9 (by decide) ?_
    cases hm
    rw [← c32_w (x1 + x2)]
    exact v_iretS C h hr hlk dX7_reckon_27 rfl
end Z_Rw_reckon
section Z_Rw_join
variable {p : Program} {l : Launch} {e : Env} {s : State} {m : MethodId} {args : Array Value} {below : List Frame} {meth : Method} {c : Code} {D : va_G} {A : Nat → Prop} {k : Nat → ClassId} {N : Nat} {cd : Cond} {z mi : Nat} {aK aV : Nat → Nat} {g : Nat → Nat} {π : Sh}
set_option maxHeartbeats 8000000 in
set_option maxRecDepth 100000 in
theorem kl_Rw_join_127 {r : St} (C : Cx p s m args c cX7_join RX7 (cd :: cWd) D (TYs k) 4) (hr : meth.sig.returnType = none) (hlk : meth.locks = false) (hE : Ev z mi aK aV A s s.heap) (hS : SHs π)    {ls : Array Slot} {H : Heap} {locs : List Loc} {σ : St} {x1 : Int} {x2 : Int} {x3 : Int}  (hl : lv_has ls 4 [(0, rfv g 9), (1, rfv g x1), (2, .int (Int32.ofInt x2)), (3, .int (Int32.ofInt x3))]) (h : Hp D A s.heap H locs (cW k z g π σ)) (hm : Rw_join_127 N π σ x1 x2 x3 = some r) : W p l e { frames := 1, cells := 0, slots := 0, locals := 22 } s m args below meth c H locs 0 0 (MQ below (va_Qv (fun (_ : Unit) => True) (fun _ t => PostW D (TYs k) A (cW k z g π r) t) A) args s 0 0 A) (F0 m 127 ls []) := by
  rw [Rw_join_127] at hm
  refine z_aload_n C dX7_join_127 rfl (lv_at hl 1 rfl) ?_
  obtain ⟨g27, hm⟩ := grd_s hm
  refine cg_10_0 C h g27 cU_X9 (List.mem_cons_of_mem _ wl_X7_45) dX7_join_128 ?_
  refine lv_bipush (v := Int32.ofInt 21) C.1 C.2.1 dX7_join_131 (by decide) ?_
  obtain ⟨g28, hm⟩ := grd_s hm
  refine z_icmp_ne (tgt := 194) C dX7_join_133 (by decide) g28 (by decide) (fun c29 => ?_) (fun c29 => ?_)
  · have hm := ite_f c29 hm
    cases hm
    exact c_vretP C h hr hlk dX7_join_194
  · have hm := ite_t c29 hm
    refine z_aload_n C dX7_join_136 rfl (lv_at hl 0 rfl) ?_
    refine cg_8_0 C h (sh_9 hS) cU_X7 (List.mem_cons_of_mem _ wl_X7_12) dX7_join_137 ?_
    refine cg_2_4 C h (sh_10 hS) cU_X1 (List.mem_cons_of_mem _ wl_X7_196) dX7_join_140 ?_
    refine lv_iload_n C.1 C.2.1 dX7_join_143 rfl (lv_at hl 2 rfl) ?_
    obtain ⟨g30, hm⟩ := grd_s hm
    refine c_zald C h (sh_15 hS) (ina_inb (n := 6000) (sl_15 hS) (Nat.le_of_ble_eq_true rfl) g30) dX7_join_144 ?_
    obtain ⟨g31, hm⟩ := grd_s hm
    refine z_if_eq (tgt := 194) C dX7_join_145 (by decide) g31 (fun c32 => ?_) (fun c32 => ?_)
    · have hm := ite_t c32 hm
      cases hm
      exact c_vretP C h hr hlk dX7_join_194
    · have hm := ite_f c32 hm
      refine z_aload_n C dX7_join_148 rfl (lv_at hl 0 rfl) ?_
      refine cg_8_0 C h (sh_9 hS) cU_X7 (List.mem_cons_of_mem _ wl_X7_12) dX7_join_149 ?_
      refine cg_2_4 C h (sh_10 hS) cU_X1 (List.mem_cons_of_mem _ wl_X7_196) dX7_join_152 ?_
      refine lv_iload_n C.1 C.2.1 dX7_join_155 rfl (lv_at hl 3 rfl) ?_
      obtain ⟨g33, hm⟩ := grd_s hm
      refine c_zald C h (sh_15 hS) (ina_inb (n := 6000) (sl_15 hS) (Nat.le_of_ble_eq_true rfl) g33) dX7_join_156 ?_
      obtain ⟨g34, hm⟩ := grd_s hm
      refine z_if_eq (tgt := 194) C dX7_join_157 (by decide) g34 (fun c35 => ?_) (fun c35 => ?_)
      · have hm := ite_t c35 hm
        cases hm
        exact c_vretP C h hr hlk dX7_join_194
      · have hm := ite_f c35 hm
        refine z_aload_n C dX7_join_160 rfl (lv_at hl 0 rfl) ?_
        refine cg_8_0 C h (sh_9 hS) cU_X7 (List.mem_cons_of_mem _ wl_X7_12) dX7_join_161 ?_
        refine cg_2_3 C h (sh_10 hS) cU_X1 (List.mem_cons_of_mem _ wl_X7_193) dX7_join_164 ?_
        refine lv_iload_n C.1 C.2.1 dX7_join_167 rfl (lv_at hl 2 rfl) ?_
        refine z_aload_n C dX7_join_168 rfl (lv_at hl 1 rfl) ?_
        refine cg_10_2 C h g27 cU_X9 (List.mem_cons_of_mem _ wl_X7_57) dX7_join_169 ?_
        refine z_aload_n C dX7_join_172 rfl (lv_at hl 0 rfl) ?_
        refine cg_8_0 C h (sh_9 hS) cU_X7 (List.mem_cons_of_mem _ wl_X7_12) dX7_join_173 ?_
        refine cg_2_3 C h (sh_10 hS) cU_X1 (List.mem_cons_of_mem _ wl_X7_193) dX7_join_176 ?_
        refine lv_iload_n C.1 C.2.1 dX7_join_179 rfl (lv_at hl 2 rfl) ?_
        refine c_iald C h (sh_14 hS) (ina_inb (n := 6000) (sl_14 hS) (Nat.le_of_ble_eq_true rfl) g30) dX7_join_180 ?_
        refine z_aload_n C dX7_join_181 rfl (lv_at hl 0 rfl) ?_
        refine cg_8_0 C h (sh_9 hS) cU_X7 (List.mem_cons_of_mem _ wl_X7_12) dX7_join_182 ?_
        refine cg_2_3 C h (sh_10 hS) cU_X1 (List.mem_cons_of_mem _ wl_X7_193) dX7_join_185 ?_
        refine lv_iload_n C.1 C.2.1 dX7_join_188 rfl (lv_at hl 3 rfl) ?_
        refine c_iald C h (sh_14 hS) (ina_inb (n := 6000) (sl_14 hS) (Nat.le_of_ble_eq_true rfl) g33) dX7_join_189 ?_
        obtain ⟨r36, e37, hm⟩ := obd_s hm
        refine v_callSi C h (kc_Rw_reckon l D k N (fl σ 202 x1) (el σ 14 x2) (el σ 14 x3) r36 e37) (v_cwS 3 C.2.2.1 (gC_X7_reckon _) rfl rfl rfl (C.2.2.1 _ (List.mem_cons_of_mem _ wt_X7)) (C.2.2.1 _ (List.mem_cons_of_mem _ wm_X7_246)) (C.2.2.1 _ (List.mem_cons_of_mem _ ws_X7_reckon)) hdS_X7_reckon ⟨Nat.le_of_ble_eq_true rfl, Nat.le_of_ble_eq_true rfl⟩) rfl hl.1 rfl (by simp [rfv_cat, cat_i, cat_l]) dX7_join_190 ⟨(Nat.le_of_ble_eq_true rfl), (Nat.le_of_ble_eq_true rfl)⟩ (fun H locs h => ?_)
        refine c_iast C h (sh_14 hS) (ina_inb (n := 6000) (sl_14 hS) (Nat.le_of_ble_eq_true rfl) g30) dX7_join_193 (fun H locs h => ?_)
        cases hm
        exact c_vretP C h hr hlk dX7_join_194
set_option maxHeartbeats 8000000 in
set_option maxRecDepth 100000 in
theorem kl_Rw_join_33 {r : St} (C : Cx p s m args c cX7_join RX7 (cd :: cWd) D (TYs k) 4) (hr : meth.sig.returnType = none) (hlk : meth.locks = false) (hE : Ev z mi aK aV A s s.heap) (hS : SHs π)    {ls : Array Slot} {H : Heap} {locs : List Loc} {σ : St} {x1 : Int} {x2 : Int} {x3 : Int} {s0 : Int} {s1 : Int}  (hl : lv_has ls 4 [(0, rfv g 9), (1, rfv g x1), (2, .int (Int32.ofInt x2)), (3, .int (Int32.ofInt x3))]) (h : Hp D A s.heap H locs (cW k z g π σ)) (hm : Rw_join_33 N π σ x1 x2 x3 s0 s1 = some r) : W p l e { frames := 1, cells := 0, slots := 0, locals := 22 } s m args below meth c H locs 0 0 (MQ below (va_Qv (fun (_ : Unit) => True) (fun _ t => PostW D (TYs k) A (cW k z g π r) t) A) args s 0 0 A) (F0 m 33 ls [.int (Int32.ofInt s0), .int (Int32.ofInt s1), rfv g 16]) := by
  rw [Rw_join_33] at hm
  obtain ⟨g10, hm⟩ := grd_s hm
  refine c_iast C h (sh_16 hS) (ina_inb (n := 6000) (sl_16 hS) (Nat.le_of_ble_eq_true rfl) g10) dX7_join_33 (fun H locs h => ?_)
  refine z_aload_n C dX7_join_34 rfl (lv_at hl 1 rfl) ?_
  obtain ⟨g11, hm⟩ := grd_s hm
  refine cg_10_0 C h g11 cU_X9 (List.mem_cons_of_mem _ wl_X7_45) dX7_join_35 ?_
  refine x_topi (y := Int32.ofInt (fl σ 200 x1)) rfl ?_
  refine lv_bipush (v := Int32.ofInt 19) C.1 C.2.1 dX7_join_38 (by decide) ?_
  obtain ⟨g12, hm⟩ := grd_s hm
  refine z_icmp_ne (tgt := 100) C dX7_join_40 (by decide) g12 (by decide) (fun c13 => ?_) (fun c13 => ?_)
  · have hm := ite_f c13 hm
    refine z_aload_n C dX7_join_100 rfl (lv_at hl 1 rfl) ?_
    refine cg_10_0 C h g11 cU_X9 (List.mem_cons_of_mem _ wl_X7_45) dX7_join_101 ?_
    refine x_topi (y := Int32.ofInt (fl σ 200 x1)) rfl ?_
    refine lv_bipush (v := Int32.ofInt 21) C.1 C.2.1 dX7_join_104 (by decide) ?_
    refine z_icmp_ne (tgt := 127) C dX7_join_106 (by decide) g12 (by decide) (fun c14 => ?_) (fun c14 => ?_)
    · have hm := ite_f c14 hm
      exact kl_Rw_join_127 (N := N) C hr hlk hE hS (lv_sub hl [0, 1, 2, 3] rfl) h hm
    · have hm := ite_t c14 hm
      refine z_aload_n C dX7_join_109 rfl (lv_at hl 1 rfl) ?_
      refine cg_10_2 C h g11 cU_X9 (List.mem_cons_of_mem _ wl_X7_57) dX7_join_110 ?_
      refine x_topi (y := Int32.ofInt (fl σ 202 x1)) rfl ?_
      refine lv_bipush (v := Int32.ofInt 35) C.1 C.2.1 dX7_join_113 (by decide) ?_
      obtain ⟨g15, hm⟩ := grd_s hm
      refine z_icmp_ne (tgt := 127) C dX7_join_115 (by decide) g15 (by decide) (fun c16 => ?_) (fun c16 => ?_)
      · have hm := ite_f c16 hm
        exact kl_Rw_join_127 (N := N) C hr hlk hE hS (lv_sub hl [0, 1, 2, 3] rfl) h hm
      · have hm := ite_t c16 hm
        refine z_aload_n C dX7_join_118 rfl (lv_at hl 0 rfl) ?_
        refine lv_iload_n C.1 C.2.1 dX7_join_119 rfl (lv_at hl 2 rfl) ?_
        refine lv_iload_n C.1 C.2.1 dX7_join_120 rfl (lv_at hl 3 rfl) ?_
        obtain ⟨σ17, e18, hm⟩ := bnd_s hm
        rw [e18] at h
        obtain ⟨r20, e21, hm⟩ := obd_s hm
        refine c_callVvP C hE h (sh_9 hS) rfl (by decide) (kc_Rw_overwrite l D k z mi aK aV g N hS e21) (cwV 2 C.2.2.1 (gS_X7_243 _) rfl rfl rfl hd_X7_overwrite ⟨Nat.le_of_ble_eq_true rfl, Nat.le_of_ble_eq_true rfl⟩) rfl hl.1 rfl (Nat.le_of_ble_eq_true rfl) dX7_join_121 ⟨(Nat.le_of_ble_eq_true rfl), (Nat.le_of_ble_eq_true rfl)⟩ (fun H locs h => ?_)
        refine lv_goto (tgt := 194) C.1 C.2.1 dX7_join_124 (by decide) ?_
        cases hm
        exact c_vretP C h hr hlk dX7_join_194
  · have hm := ite_t c13 hm
    refine z_aload_n C dX7_join_43 rfl (lv_at hl 0 rfl) ?_
    refine cg_8_0 C h (sh_9 hS) cU_X7 (List.mem_cons_of_mem _ wl_X7_12) dX7_join_44 ?_
    refine cg_2_2 C h (sh_10 hS) cU_X1 (List.mem_cons_of_mem _ wl_X7_191) dX7_join_47 ?_
    refine lv_iload_n C.1 C.2.1 dX7_join_50 rfl (lv_at hl 2 rfl) ?_
    refine z_aload_n C dX7_join_51 rfl (lv_at hl 0 rfl) ?_
    refine cg_8_0 C h (sh_9 hS) cU_X7 (List.mem_cons_of_mem _ wl_X7_12) dX7_join_52 ?_
    refine cg_2_2 C h (sh_10 hS) cU_X1 (List.mem_cons_of_mem _ wl_X7_191) dX7_join_55 ?_
    refine lv_iload_n C.1 C.2.1 dX7_join_58 rfl (lv_at hl 3 rfl) ?_
    obtain ⟨g24, hm⟩ := grd_s hm
    refine c_lald C h (sh_13 hS) (ina_inb (n := 6000) (sl_13 hS) (Nat.le_of_ble_eq_true rfl) g24) dX7_join_59 ?_
    refine x_topl (y := Int64.ofInt (el σ 13 x3)) (by simp [fl, el, se, sf]) ?_
    obtain ⟨g25, hm⟩ := grd_s hm
    refine c_last C h (sh_13 hS) (ina_inb (n := 6000) (sl_13 hS) (Nat.le_of_ble_eq_true rfl) g25) dX7_join_60 (fun H locs h => ?_)
    refine z_aload_n C dX7_join_61 rfl (lv_at hl 0 rfl) ?_
    refine cg_8_0 C h (sh_9 hS) cU_X7 (List.mem_cons_of_mem _ wl_X7_12) dX7_join_62 ?_
    refine cg_2_3 C h (sh_10 hS) cU_X1 (List.mem_cons_of_mem _ wl_X7_193) dX7_join_65 ?_
    refine lv_iload_n C.1 C.2.1 dX7_join_68 rfl (lv_at hl 2 rfl) ?_
    refine z_aload_n C dX7_join_69 rfl (lv_at hl 0 rfl) ?_
    refine cg_8_0 C h (sh_9 hS) cU_X7 (List.mem_cons_of_mem _ wl_X7_12) dX7_join_70 ?_
    refine cg_2_3 C h (sh_10 hS) cU_X1 (List.mem_cons_of_mem _ wl_X7_193) dX7_join_73 ?_
    refine lv_iload_n C.1 C.2.1 dX7_join_76 rfl (lv_at hl 3 rfl) ?_
    refine c_iald C h (sh_14 hS) (ina_inb (n := 6000) (sl_14 hS) (Nat.le_of_ble_eq_true rfl) g24) dX7_join_77 ?_
    refine x_topi (y := Int32.ofInt (el σ 14 x3)) (by simp [fl, el, se, sf]) ?_
    refine c_iast C h (sh_14 hS) (ina_inb (n := 6000) (sl_14 hS) (Nat.le_of_ble_eq_true rfl) g25) dX7_join_78 (fun H locs h => ?_)
    refine z_aload_n C dX7_join_79 rfl (lv_at hl 0 rfl) ?_
    refine cg_8_0 C h (sh_9 hS) cU_X7 (List.mem_cons_of_mem _ wl_X7_12) dX7_join_80 ?_
    refine cg_2_4 C h (sh_10 hS) cU_X1 (List.mem_cons_of_mem _ wl_X7_196) dX7_join_83 ?_
    refine lv_iload_n C.1 C.2.1 dX7_join_86 rfl (lv_at hl 2 rfl) ?_
    refine z_aload_n C dX7_join_87 rfl (lv_at hl 0 rfl) ?_
    refine cg_8_0 C h (sh_9 hS) cU_X7 (List.mem_cons_of_mem _ wl_X7_12) dX7_join_88 ?_
    refine cg_2_4 C h (sh_10 hS) cU_X1 (List.mem_cons_of_mem _ wl_X7_196) dX7_join_91 ?_
    refine lv_iload_n C.1 C.2.1 dX7_join_94 rfl (lv_at hl 3 rfl) ?_
    refine c_zald C h (sh_15 hS) (ina_inb (n := 6000) (sl_15 hS) (Nat.le_of_ble_eq_true rfl) g24) dX7_join_95 ?_
    refine x_topi (y := Int32.ofInt (el σ 15 x3)) (by simp [fl, el, se, sf]) ?_
    obtain ⟨g26, hm⟩ := grd_s hm
    refine c_zast C h (sh_15 hS) (ina_inb (n := 6000) (sl_15 hS) (Nat.le_of_ble_eq_true rfl) g25) g26 dX7_join_96 (fun H locs h => ?_)
    refine lv_goto (tgt := 194) C.1 C.2.1 dX7_join_97 (by decide) ?_
    cases hm
    exact c_vretP C h hr hlk dX7_join_194
set_option maxHeartbeats 8000000 in
set_option maxRecDepth 100000 in
theorem kl_Rw_join_32 {r : St} (C : Cx p s m args c cX7_join RX7 (cd :: cWd) D (TYs k) 4) (hr : meth.sig.returnType = none) (hlk : meth.locks = false) (hE : Ev z mi aK aV A s s.heap) (hS : SHs π)    {ls : Array Slot} {H : Heap} {locs : List Loc} {σ : St} {x1 : Int} {x2 : Int} {x3 : Int} {s0 : Int}  (hl : lv_has ls 4 [(0, rfv g 9), (1, rfv g x1), (2, .int (Int32.ofInt x2)), (3, .int (Int32.ofInt x3))]) (h : Hp D A s.heap H locs (cW k z g π σ)) (hm : Rw_join_32 N π σ x1 x2 x3 s0 = some r) : W p l e { frames := 1, cells := 0, slots := 0, locals := 22 } s m args below meth c H locs 0 0 (MQ below (va_Qv (fun (_ : Unit) => True) (fun _ t => PostW D (TYs k) A (cW k z g π r) t) A) args s 0 0 A) (F0 m 32 ls [.int (Int32.ofInt s0), rfv g 16]) := by
  rw [Rw_join_32] at hm
  refine lv_iconst (v := Int32.ofInt 1) C.1 C.2.1 dX7_join_32 (by decide) ?_
  exact kl_Rw_join_33 (N := N) C hr hlk hE hS (lv_sub hl [0, 1, 2, 3] rfl) h hm
set_option maxHeartbeats 8000000 in
set_option maxRecDepth 100000 in
theorem kc_Rw_join (l : Launch) (D : va_G) (k : Nat → ClassId) (z mi : Nat) (aK aV : Nat → Nat) (g : Nat → Nat) (N : Nat)    {π : Sh} {σ : St} {x1 : Int} {x2 : Int} {x3 : Int} {r : St} (hS : SHs π) (hm : Rw_join N π σ x1 x2 x3 = some r) : Mv l yX7_join (.code yX7_join cX7_join 4 none :: cWd) { frames := 1, cells := 0, slots := 0, locals := 22 } [rfv g 9, rfv g x1, .int (Int32.ofInt x2), .int (Int32.ofInt x3)] D (TYs k) (cW k z g π σ) (XV z mi aK aV (cW k z g π σ)) Unit (fun _ => True) (fun _ => cW k z g π r) 0 0 := by
  intro sz
  refine v_met (cc := cX7_join) (maxL := 4) (ret := none) (lv := [(0, rfv g 9), (1, rfv g x1), (2, .int (Int32.ofInt x2)), (3, .int (Int32.ofInt x3))]) (by decide) rfl (by simp [lg_sl, rfv_cat, cat_i, cat_l]) (by simp [lv_args, rfv_cat, cat_i, cat_l]) ?_
  intro p e s m below meth c ls C hE hr hlk hmn hl h
  rw [Rw_join] at hm
  refine z_aload_n C dX7_join_0 rfl (lv_at hl 0 rfl) ?_
  refine cg_8_0 C h (sh_9 hS) cU_X7 (List.mem_cons_of_mem _ wl_X7_12) dX7_join_1 ?_
  refine cg_2_5 C h (sh_10 hS) cU_X1 (List.mem_cons_of_mem _ wl_X7_214) dX7_join_4 ?_
  refine lv_iload_n C.1 C.2.1 dX7_join_7 rfl (lv_at hl 2 rfl) ?_
  refine z_aload_n C dX7_join_8 rfl (lv_at hl 1 rfl) ?_
  obtain ⟨g1, hm⟩ := grd_s hm
  refine cg_10_0 C h g1 cU_X9 (List.mem_cons_of_mem _ wl_X7_45) dX7_join_9 ?_
  refine lv_bipush (v := Int32.ofInt 20) C.1 C.2.1 dX7_join_12 (by decide) ?_
  obtain ⟨g2, hm⟩ := grd_s hm
  refine z_icmp_ne (tgt := 32) C dX7_join_14 (by decide) g2 (by decide) (fun c3 => ?_) (fun c3 => ?_)
  · have hm := ite_f c3 hm
    exact kl_Rw_join_32 (N := N) C hr hlk hE hS (lv_sub hl [0, 1, 2, 3] rfl) h hm
  · have hm := ite_t c3 hm
    refine z_aload_n C dX7_join_17 rfl (lv_at hl 0 rfl) ?_
    refine cg_8_0 C h (sh_9 hS) cU_X7 (List.mem_cons_of_mem _ wl_X7_12) dX7_join_18 ?_
    refine lv_iload_n C.1 C.2.1 dX7_join_21 rfl (lv_at hl 3 rfl) ?_
    obtain ⟨r4, e5, hm⟩ := obd_s hm
    refine c_callViP C hE h (sh_10 hS) rfl (by decide) (kc_Es_isLoud l D k z mi aK aV g N hS e5) (cwV 1 C.2.2.1 (gS_X7_231 _) rfl rfl rfl hd_X1_isLoud ⟨Nat.le_of_ble_eq_true rfl, Nat.le_of_ble_eq_true rfl⟩) rfl hl.1 rfl (by simp [rfv_cat, cat_i, cat_l]) dX7_join_22 ⟨(Nat.le_of_ble_eq_true rfl), (Nat.le_of_ble_eq_true rfl)⟩ (fun H locs h => ?_)
    obtain ⟨g8, hm⟩ := grd_s hm
    refine z_if_ne (tgt := 32) C dX7_join_25 (by decide) g8 (fun c9 => ?_) (fun c9 => ?_)
    · have hm := ite_f c9 hm
      exact kl_Rw_join_32 (N := N) C hr hlk hE hS (lv_sub hl [0, 1, 2, 3] rfl) h hm
    · have hm := ite_t c9 hm
      refine lv_iconst (v := Int32.ofInt 2) C.1 C.2.1 dX7_join_28 (by decide) ?_
      refine lv_goto (tgt := 33) C.1 C.2.1 dX7_join_29 (by decide) ?_
      exact kl_Rw_join_33 (N := N) C hr hlk hE hS (lv_sub hl [0, 1, 2, 3] rfl) h hm
end Z_Rw_join
section Z_Rw_meetRow
variable {p : Program} {l : Launch} {e : Env} {s : State} {m : MethodId} {args : Array Value} {below : List Frame} {meth : Method} {c : Code} {D : va_G} {A : Nat → Prop} {k : Nat → ClassId} {N : Nat} {cd : Cond} {z mi : Nat} {aK aV : Nat → Nat} {g : Nat → Nat} {π : Sh}
set_option maxHeartbeats 8000000 in
set_option maxRecDepth 100000 in
theorem kl_Rw_meetRow_155 {r : St × Int} (C : Cx p s m args c cX7_meetRow RX7 (cd :: cWd) D (TYs k) 16) (hr : meth.sig.returnType = (some .int)) (hlk : meth.locks = false) (hE : Ev z mi aK aV A s s.heap) (hS : SHs π)   {rec9 : St → Int → Int → Int → Int → Int → Int → Int → Int → Option (St × Int)} (hrec9 : ∀ {ls : Array Slot} {H : Heap} {locs : List Loc} {σ : St} {x1 : Int} {x3 : Int} {x4 : Int} {x6 : Int} {x8 : Int} {x10 : Int} {x11 : Int} {x12 : Int}, lv_has ls 16 [(0, rfv g 9), (1, rfv g x1), (3, .int (Int32.ofInt x3)), (4, .long (Int64.ofInt x4)), (6, .long (Int64.ofInt x6)), (8, .long (Int64.ofInt x8)), (10, .int (Int32.ofInt x10)), (11, .int (Int32.ofInt x11)), (12, .int (Int32.ofInt x12))] → Hp D A s.heap H locs (cW k z g π σ) → rec9 σ x1 x3 x4 x6 x8 x10 x11 x12 = some r → W p l e { frames := 2, cells := 0, slots := 0, locals := 45 } s m args below meth c H locs 0 0 (MQ below (va_Qi (fun v (_ : Unit) => v = Int32.ofInt r.2) (fun _ t => PostW D (TYs k) A (cW k z g π r.1) t) A) args s 0 0 A) (F0 m 9 ls [])) {ls : Array Slot} {H : Heap} {locs : List Loc} {σ : St} {x1 : Int} {x3 : Int} {x4 : Int} {x6 : Int} {x8 : Int} {x10 : Int} {x11 : Int} {x12 : Int}  (hl : lv_has ls 16 [(0, rfv g 9), (1, rfv g x1), (3, .int (Int32.ofInt x3)), (4, .long (Int64.ofInt x4)), (6, .long (Int64.ofInt x6)), (8, .long (Int64.ofInt x8)), (10, .int (Int32.ofInt x10)), (11, .int (Int32.ofInt x11)), (12, .int (Int32.ofInt x12))]) (h : Hp D A s.heap H locs (cW k z g π σ)) (hm : Rw_meetRow_155 N π rec9 σ x1 x3 x4 x6 x8 x10 x11 x12 = some r) : W p l e { frames := 2, cells := 0, slots := 0, locals := 45 } s m args below meth c H locs 0 0 (MQ below (va_Qi (fun v (_ : Unit) => v = Int32.ofInt r.2) (fun _ t => PostW D (TYs k) A (cW k z g π r.1) t) A) args s 0 0 A) (F0 m 155 ls []) := by
  rw [Rw_meetRow_155] at hm
  refine lv_iinc (v := Int32.ofInt (x12 + 1)) (lv' := [(12, .int (Int32.ofInt (x12 + 1))), (0, rfv g 9), (1, rfv g x1), (3, .int (Int32.ofInt x3)), (4, .long (Int64.ofInt x4)), (6, .long (Int64.ofInt x6)), (8, .long (Int64.ofInt x8)), (10, .int (Int32.ofInt x10)), (11, .int (Int32.ofInt x11))]) C.1 C.2.1 dX7_meetRow_155 hl (k := 8) rfl (c32_add _ _) (by decide) rfl (fun ls hl => ?_)
  refine lv_goto (tgt := 9) C.1 C.2.1 dX7_meetRow_158 (by decide) ?_
  exact hrec9 (lv_sub hl [1, 2, 3, 4, 5, 6, 7, 8, 0] rfl) h hm
set_option maxHeartbeats 8000000 in
set_option maxRecDepth 100000 in
theorem kl_Rw_meetRow_137 {r : St × Int} (C : Cx p s m args c cX7_meetRow RX7 (cd :: cWd) D (TYs k) 16) (hr : meth.sig.returnType = (some .int)) (hlk : meth.locks = false) (hE : Ev z mi aK aV A s s.heap) (hS : SHs π)   {rec9 : St → Int → Int → Int → Int → Int → Int → Int → Int → Option (St × Int)} (hrec9 : ∀ {ls : Array Slot} {H : Heap} {locs : List Loc} {σ : St} {x1 : Int} {x3 : Int} {x4 : Int} {x6 : Int} {x8 : Int} {x10 : Int} {x11 : Int} {x12 : Int}, lv_has ls 16 [(0, rfv g 9), (1, rfv g x1), (3, .int (Int32.ofInt x3)), (4, .long (Int64.ofInt x4)), (6, .long (Int64.ofInt x6)), (8, .long (Int64.ofInt x8)), (10, .int (Int32.ofInt x10)), (11, .int (Int32.ofInt x11)), (12, .int (Int32.ofInt x12))] → Hp D A s.heap H locs (cW k z g π σ) → rec9 σ x1 x3 x4 x6 x8 x10 x11 x12 = some r → W p l e { frames := 2, cells := 0, slots := 0, locals := 45 } s m args below meth c H locs 0 0 (MQ below (va_Qi (fun v (_ : Unit) => v = Int32.ofInt r.2) (fun _ t => PostW D (TYs k) A (cW k z g π r.1) t) A) args s 0 0 A) (F0 m 9 ls [])) {ls : Array Slot} {H : Heap} {locs : List Loc} {σ : St} {x1 : Int} {x3 : Int} {x4 : Int} {x6 : Int} {x8 : Int} {x10 : Int} {x11 : Int} {x12 : Int} {x15 : Int}  (hl : lv_has ls 16 [(0, rfv g 9), (1, rfv g x1), (3, .int (Int32.ofInt x3)), (4, .long (Int64.ofInt x4)), (6, .long (Int64.ofInt x6)), (8, .long (Int64.ofInt x8)), (10, .int (Int32.ofInt x10)), (11, .int (Int32.ofInt x11)), (12, .int (Int32.ofInt x12)), (15, .int (Int32.ofInt x15))]) (h : Hp D A s.heap H locs (cW k z g π σ)) (hm : Rw_meetRow_137 N π rec9 σ x1 x3 x4 x6 x8 x10 x11 x12 x15 = some r) : W p l e { frames := 2, cells := 0, slots := 0, locals := 45 } s m args below meth c H locs 0 0 (MQ below (va_Qi (fun v (_ : Unit) => v = Int32.ofInt r.2) (fun _ t => PostW D (TYs k) A (cW k z g π r.1) t) A) args s 0 0 A) (F0 m 137 ls []) := by
  rw [Rw_meetRow_137] at hm
  refine lv_iload C.1 C.2.1 dX7_meetRow_137 (lv_at hl 9 rfl) ?_
  refine lv_iload_n C.1 C.2.1 dX7_meetRow_139 rfl (lv_at hl 2 rfl) ?_
  obtain ⟨g25, hm⟩ := grd_s hm
  obtain ⟨g26, hm⟩ := grd_s hm
  refine z_icmp_lt (tgt := 155) C dX7_meetRow_140 (by decide) g25 g26 (fun c27 => ?_) (fun c27 => ?_)
  · have hm := ite_t c27 hm
    exact kl_Rw_meetRow_155 (N := N) C hr hlk hE hS hrec9 (lv_sub hl [0, 1, 2, 3, 4, 5, 6, 7, 8] rfl) h hm
  · have hm := ite_f c27 hm
    refine z_aload_n C dX7_meetRow_143 rfl (lv_at hl 0 rfl) ?_
    refine z_aload_n C dX7_meetRow_144 rfl (lv_at hl 1 rfl) ?_
    refine lv_iload C.1 C.2.1 dX7_meetRow_145 (lv_at hl 8 rfl) ?_
    refine lv_iload C.1 C.2.1 dX7_meetRow_147 (lv_at hl 9 rfl) ?_
    obtain ⟨r28, e29, hm⟩ := obd_s hm
    refine c_callVvP C hE h (sh_9 hS) rfl (by decide) (kc_Rw_join l D k z mi aK aV g N hS e29) (cwV 3 C.2.2.1 (gS_X7_239 _) rfl rfl rfl hd_X7_join ⟨Nat.le_of_ble_eq_true rfl, Nat.le_of_ble_eq_true rfl⟩) rfl hl.1 rfl (Nat.le_of_ble_eq_true rfl) dX7_meetRow_149 ⟨(Nat.le_of_ble_eq_true rfl), (Nat.le_of_ble_eq_true rfl)⟩ (fun H locs h => ?_)
    refine lv_iinc (v := Int32.ofInt (x10 + 1)) (lv' := [(10, .int (Int32.ofInt (x10 + 1))), (0, rfv g 9), (1, rfv g x1), (3, .int (Int32.ofInt x3)), (4, .long (Int64.ofInt x4)), (6, .long (Int64.ofInt x6)), (8, .long (Int64.ofInt x8)), (11, .int (Int32.ofInt x11)), (12, .int (Int32.ofInt x12)), (15, .int (Int32.ofInt x15))]) C.1 C.2.1 dX7_meetRow_152 hl (k := 6) rfl (c32_add _ _) (by decide) rfl (fun ls hl => ?_)
    exact kl_Rw_meetRow_155 (N := N) C hr hlk hE hS hrec9 (lv_sub hl [1, 2, 3, 4, 5, 6, 0, 7, 8] rfl) h hm
set_option maxHeartbeats 8000000 in
set_option maxRecDepth 100000 in
theorem kl_Rw_meetRow_92 {r : St × Int} (C : Cx p s m args c cX7_meetRow RX7 (cd :: cWd) D (TYs k) 16) (hr : meth.sig.returnType = (some .int)) (hlk : meth.locks = false) (hE : Ev z mi aK aV A s s.heap) (hS : SHs π)   {rec9 : St → Int → Int → Int → Int → Int → Int → Int → Int → Option (St × Int)} (hrec9 : ∀ {ls : Array Slot} {H : Heap} {locs : List Loc} {σ : St} {x1 : Int} {x3 : Int} {x4 : Int} {x6 : Int} {x8 : Int} {x10 : Int} {x11 : Int} {x12 : Int}, lv_has ls 16 [(0, rfv g 9), (1, rfv g x1), (3, .int (Int32.ofInt x3)), (4, .long (Int64.ofInt x4)), (6, .long (Int64.ofInt x6)), (8, .long (Int64.ofInt x8)), (10, .int (Int32.ofInt x10)), (11, .int (Int32.ofInt x11)), (12, .int (Int32.ofInt x12))] → Hp D A s.heap H locs (cW k z g π σ) → rec9 σ x1 x3 x4 x6 x8 x10 x11 x12 = some r → W p l e { frames := 2, cells := 0, slots := 0, locals := 45 } s m args below meth c H locs 0 0 (MQ below (va_Qi (fun v (_ : Unit) => v = Int32.ofInt r.2) (fun _ t => PostW D (TYs k) A (cW k z g π r.1) t) A) args s 0 0 A) (F0 m 9 ls [])) (n : Nat) : ∀ {ls : Array Slot} {H : Heap} {locs : List Loc} {σ : St} {x1 : Int} {x3 : Int} {x4 : Int} {x6 : Int} {x8 : Int} {x10 : Int} {x11 : Int} {x12 : Int} {x13 : Int} {x15 : Int}, lv_has ls 16 [(0, rfv g 9), (1, rfv g x1), (3, .int (Int32.ofInt x3)), (4, .long (Int64.ofInt x4)), (6, .long (Int64.ofInt x6)), (8, .long (Int64.ofInt x8)), (10, .int (Int32.ofInt x10)), (11, .int (Int32.ofInt x11)), (12, .int (Int32.ofInt x12)), (13, .long (Int64.ofInt x13)), (15, .int (Int32.ofInt x15))] → Hp D A s.heap H locs (cW k z g π σ) → Rw_meetRow_92 N π rec9 n σ x1 x3 x4 x6 x8 x10 x11 x12 x13 x15 = some r → W p l e { frames := 2, cells := 0, slots := 0, locals := 45 } s m args below meth c H locs 0 0 (MQ below (va_Qi (fun v (_ : Unit) => v = Int32.ofInt r.2) (fun _ t => PostW D (TYs k) A (cW k z g π r.1) t) A) args s 0 0 A) (F0 m 92 ls []) := by
  induction n with
  | zero => intro ls H locs σ x1 x3 x4 x6 x8 x10 x11 x12 x13 x15  hl h hm; cases (show none = some r from hm)
  | succ n hrec92 =>
    intro ls H locs σ x1 x3 x4 x6 x8 x10 x11 x12 x13 x15  hl h hm
    rw [Rw_meetRow_92] at hm
    refine lv_iload C.1 C.2.1 dX7_meetRow_92 (lv_at hl 10 rfl) ?_
    refine lv_iload_n C.1 C.2.1 dX7_meetRow_94 rfl (lv_at hl 2 rfl) ?_
    obtain ⟨g18, hm⟩ := grd_s hm
    obtain ⟨g19, hm⟩ := grd_s hm
    refine z_icmp_lt (tgt := 137) C dX7_meetRow_95 (by decide) g18 g19 (fun c20 => ?_) (fun c20 => ?_)
    · have hm := ite_t c20 hm
      exact kl_Rw_meetRow_137 (N := N) C hr hlk hE hS hrec9 (lv_sub hl [0, 1, 2, 3, 4, 5, 6, 7, 8, 10] rfl) h hm
    · have hm := ite_f c20 hm
      refine z_aload_n C dX7_meetRow_98 rfl (lv_at hl 0 rfl) ?_
      refine cg_8_0 C h (sh_9 hS) cU_X7 (List.mem_cons_of_mem _ wl_X7_12) dX7_meetRow_99 ?_
      refine cg_2_0 C h (sh_10 hS) cU_X1 (List.mem_cons_of_mem _ wl_X7_148) dX7_meetRow_102 ?_
      refine lv_iload C.1 C.2.1 dX7_meetRow_105 (lv_at hl 10 rfl) ?_
      obtain ⟨g21, hm⟩ := grd_s hm
      refine c_lald C h (sh_11 hS) (ina_inb (n := 6000) (sl_11 hS) (Nat.le_of_ble_eq_true rfl) g21) dX7_meetRow_107 ?_
      refine z_aload_n C dX7_meetRow_108 rfl (lv_at hl 0 rfl) ?_
      refine cg_8_0 C h (sh_9 hS) cU_X7 (List.mem_cons_of_mem _ wl_X7_12) dX7_meetRow_109 ?_
      refine cg_2_1 C h (sh_10 hS) cU_X1 (List.mem_cons_of_mem _ wl_X7_152) dX7_meetRow_112 ?_
      refine lv_iload C.1 C.2.1 dX7_meetRow_115 (lv_at hl 10 rfl) ?_
      refine c_lald C h (sh_12 hS) (ina_inb (n := 6000) (sl_12 hS) (Nat.le_of_ble_eq_true rfl) g21) dX7_meetRow_117 ?_
      refine z_ladd C dX7_meetRow_118 ?_
      refine lv_lload C.1 C.2.1 dX7_meetRow_119 (lv_at hl 5 rfl) ?_
      refine z_ladd C dX7_meetRow_121 ?_
      refine lv_lload C.1 C.2.1 dX7_meetRow_122 (lv_at hl 3 rfl) ?_
      refine z_lmul C dX7_meetRow_124 ?_
      refine lv_lload C.1 C.2.1 dX7_meetRow_125 (lv_at hl 9 rfl) ?_
      obtain ⟨g22, hm⟩ := grd_s hm
      obtain ⟨g23, hm⟩ := grd_s hm
      refine W.lcmp C.1 C.2.1 dX7_meetRow_127 ?_
      refine z_lcmp_gt (tgt := 137) C dX7_meetRow_128 (by decide) g22 g23 (fun c24 => ?_) (fun c24 => ?_)
      · have hm := ite_t c24 hm
        exact kl_Rw_meetRow_137 (N := N) C hr hlk hE hS hrec9 (lv_sub hl [0, 1, 2, 3, 4, 5, 6, 7, 8, 10] rfl) h hm
      · have hm := ite_f c24 hm
        refine lv_iinc (v := Int32.ofInt (x15 + (-1))) (lv' := [(15, .int (Int32.ofInt (x15 + (-1)))), (0, rfv g 9), (1, rfv g x1), (3, .int (Int32.ofInt x3)), (4, .long (Int64.ofInt x4)), (6, .long (Int64.ofInt x6)), (8, .long (Int64.ofInt x8)), (10, .int (Int32.ofInt x10)), (11, .int (Int32.ofInt x11)), (12, .int (Int32.ofInt x12)), (13, .long (Int64.ofInt x13))]) C.1 C.2.1 dX7_meetRow_131 hl (k := 10) rfl (c32_add _ _) (by decide) rfl (fun ls hl => ?_)
        refine lv_goto (tgt := 92) C.1 C.2.1 dX7_meetRow_134 (by decide) ?_
        exact hrec92 (lv_sub hl [1, 2, 3, 4, 5, 6, 7, 8, 9, 10, 0] rfl) h hm
set_option maxHeartbeats 8000000 in
set_option maxRecDepth 100000 in
theorem kl_Rw_meetRow_86 {r : St × Int} (C : Cx p s m args c cX7_meetRow RX7 (cd :: cWd) D (TYs k) 16) (hr : meth.sig.returnType = (some .int)) (hlk : meth.locks = false) (hE : Ev z mi aK aV A s s.heap) (hS : SHs π)   {rec9 : St → Int → Int → Int → Int → Int → Int → Int → Int → Option (St × Int)} (hrec9 : ∀ {ls : Array Slot} {H : Heap} {locs : List Loc} {σ : St} {x1 : Int} {x3 : Int} {x4 : Int} {x6 : Int} {x8 : Int} {x10 : Int} {x11 : Int} {x12 : Int}, lv_has ls 16 [(0, rfv g 9), (1, rfv g x1), (3, .int (Int32.ofInt x3)), (4, .long (Int64.ofInt x4)), (6, .long (Int64.ofInt x6)), (8, .long (Int64.ofInt x8)), (10, .int (Int32.ofInt x10)), (11, .int (Int32.ofInt x11)), (12, .int (Int32.ofInt x12))] → Hp D A s.heap H locs (cW k z g π σ) → rec9 σ x1 x3 x4 x6 x8 x10 x11 x12 = some r → W p l e { frames := 2, cells := 0, slots := 0, locals := 45 } s m args below meth c H locs 0 0 (MQ below (va_Qi (fun v (_ : Unit) => v = Int32.ofInt r.2) (fun _ t => PostW D (TYs k) A (cW k z g π r.1) t) A) args s 0 0 A) (F0 m 9 ls [])) {ls : Array Slot} {H : Heap} {locs : List Loc} {σ : St} {x1 : Int} {x3 : Int} {x4 : Int} {x6 : Int} {x8 : Int} {x10 : Int} {x11 : Int} {x12 : Int} {x13 : Int}  (hl : lv_has ls 16 [(0, rfv g 9), (1, rfv g x1), (3, .int (Int32.ofInt x3)), (4, .long (Int64.ofInt x4)), (6, .long (Int64.ofInt x6)), (8, .long (Int64.ofInt x8)), (10, .int (Int32.ofInt x10)), (11, .int (Int32.ofInt x11)), (12, .int (Int32.ofInt x12)), (13, .long (Int64.ofInt x13))]) (h : Hp D A s.heap H locs (cW k z g π σ)) (hm : Rw_meetRow_86 N π rec9 σ x1 x3 x4 x6 x8 x10 x11 x12 x13 = some r) : W p l e { frames := 2, cells := 0, slots := 0, locals := 45 } s m args below meth c H locs 0 0 (MQ below (va_Qi (fun v (_ : Unit) => v = Int32.ofInt r.2) (fun _ t => PostW D (TYs k) A (cW k z g π r.1) t) A) args s 0 0 A) (F0 m 86 ls []) := by
  rw [Rw_meetRow_86] at hm
  refine lv_iload C.1 C.2.1 dX7_meetRow_86 (lv_at hl 7 rfl) ?_
  refine lv_iconst (v := Int32.ofInt 1) C.1 C.2.1 dX7_meetRow_88 (by decide) ?_
  refine z_isub C dX7_meetRow_89 ?_
  obtain ⟨v16, e17, hm⟩ := bnd_s hm
  rw [e17]
  refine lv_istore (lv' := [(15, .int (Int32.ofInt v16)), (0, rfv g 9), (1, rfv g x1), (3, .int (Int32.ofInt x3)), (4, .long (Int64.ofInt x4)), (6, .long (Int64.ofInt x6)), (8, .long (Int64.ofInt x8)), (10, .int (Int32.ofInt x10)), (11, .int (Int32.ofInt x11)), (12, .int (Int32.ofInt x12)), (13, .long (Int64.ofInt x13))]) C.1 C.2.1 dX7_meetRow_90 hl (by decide) rfl (fun ls hl => ?_)
  exact kl_Rw_meetRow_92 (N := N) C hr hlk hE hS hrec9 N (lv_sub hl [1, 2, 3, 4, 5, 6, 7, 8, 9, 10, 0] rfl) h hm
set_option maxHeartbeats 8000000 in
set_option maxRecDepth 100000 in
theorem kl_Rw_meetRow_46 {r : St × Int} (C : Cx p s m args c cX7_meetRow RX7 (cd :: cWd) D (TYs k) 16) (hr : meth.sig.returnType = (some .int)) (hlk : meth.locks = false) (hE : Ev z mi aK aV A s s.heap) (hS : SHs π)   {rec9 : St → Int → Int → Int → Int → Int → Int → Int → Int → Option (St × Int)} (hrec9 : ∀ {ls : Array Slot} {H : Heap} {locs : List Loc} {σ : St} {x1 : Int} {x3 : Int} {x4 : Int} {x6 : Int} {x8 : Int} {x10 : Int} {x11 : Int} {x12 : Int}, lv_has ls 16 [(0, rfv g 9), (1, rfv g x1), (3, .int (Int32.ofInt x3)), (4, .long (Int64.ofInt x4)), (6, .long (Int64.ofInt x6)), (8, .long (Int64.ofInt x8)), (10, .int (Int32.ofInt x10)), (11, .int (Int32.ofInt x11)), (12, .int (Int32.ofInt x12))] → Hp D A s.heap H locs (cW k z g π σ) → rec9 σ x1 x3 x4 x6 x8 x10 x11 x12 = some r → W p l e { frames := 2, cells := 0, slots := 0, locals := 45 } s m args below meth c H locs 0 0 (MQ below (va_Qi (fun v (_ : Unit) => v = Int32.ofInt r.2) (fun _ t => PostW D (TYs k) A (cW k z g π r.1) t) A) args s 0 0 A) (F0 m 9 ls [])) (n : Nat) : ∀ {ls : Array Slot} {H : Heap} {locs : List Loc} {σ : St} {x1 : Int} {x3 : Int} {x4 : Int} {x6 : Int} {x8 : Int} {x10 : Int} {x11 : Int} {x12 : Int} {x13 : Int}, lv_has ls 16 [(0, rfv g 9), (1, rfv g x1), (3, .int (Int32.ofInt x3)), (4, .long (Int64.ofInt x4)), (6, .long (Int64.ofInt x6)), (8, .long (Int64.ofInt x8)), (10, .int (Int32.ofInt x10)), (11, .int (Int32.ofInt x11)), (12, .int (Int32.ofInt x12)), (13, .long (Int64.ofInt x13))] → Hp D A s.heap H locs (cW k z g π σ) → Rw_meetRow_46 N π rec9 n σ x1 x3 x4 x6 x8 x10 x11 x12 x13 = some r → W p l e { frames := 2, cells := 0, slots := 0, locals := 45 } s m args below meth c H locs 0 0 (MQ below (va_Qi (fun v (_ : Unit) => v = Int32.ofInt r.2) (fun _ t => PostW D (TYs k) A (cW k z g π r.1) t) A) args s 0 0 A) (F0 m 46 ls []) := by
  induction n with
  | zero => intro ls H locs σ x1 x3 x4 x6 x8 x10 x11 x12 x13  hl h hm; cases (show none = some r from hm)
  | succ n hrec46 =>
    intro ls H locs σ x1 x3 x4 x6 x8 x10 x11 x12 x13  hl h hm
    rw [Rw_meetRow_46] at hm
    refine lv_iload C.1 C.2.1 dX7_meetRow_46 (lv_at hl 7 rfl) ?_
    refine z_aload_n C dX7_meetRow_48 rfl (lv_at hl 0 rfl) ?_
    refine cg_8_0 C h (sh_9 hS) cU_X7 (List.mem_cons_of_mem _ wl_X7_12) dX7_meetRow_49 ?_
    refine cg_2_6 C h (sh_10 hS) cU_X1 (List.mem_cons_of_mem _ wl_X7_28) dX7_meetRow_52 ?_
    obtain ⟨g9, hm⟩ := grd_s hm
    obtain ⟨g10, hm⟩ := grd_s hm
    refine z_icmp_ge (tgt := 86) C dX7_meetRow_55 (by decide) g9 g10 (fun c11 => ?_) (fun c11 => ?_)
    · have hm := ite_f c11 hm
      exact kl_Rw_meetRow_86 (N := N) C hr hlk hE hS hrec9 (lv_sub hl [0, 1, 2, 3, 4, 5, 6, 7, 8, 9] rfl) h hm
    · have hm := ite_t c11 hm
      refine z_aload_n C dX7_meetRow_58 rfl (lv_at hl 0 rfl) ?_
      refine cg_8_0 C h (sh_9 hS) cU_X7 (List.mem_cons_of_mem _ wl_X7_12) dX7_meetRow_59 ?_
      refine cg_2_0 C h (sh_10 hS) cU_X1 (List.mem_cons_of_mem _ wl_X7_148) dX7_meetRow_62 ?_
      refine lv_iload C.1 C.2.1 dX7_meetRow_65 (lv_at hl 7 rfl) ?_
      obtain ⟨g12, hm⟩ := grd_s hm
      refine c_lald C h (sh_11 hS) (ina_inb (n := 6000) (sl_11 hS) (Nat.le_of_ble_eq_true rfl) g12) dX7_meetRow_67 ?_
      refine lv_lload C.1 C.2.1 dX7_meetRow_68 (lv_at hl 5 rfl) ?_
      refine z_ladd C dX7_meetRow_70 ?_
      refine lv_lload C.1 C.2.1 dX7_meetRow_71 (lv_at hl 3 rfl) ?_
      refine z_lmul C dX7_meetRow_73 ?_
      refine lv_lload C.1 C.2.1 dX7_meetRow_74 (lv_at hl 9 rfl) ?_
      obtain ⟨g13, hm⟩ := grd_s hm
      obtain ⟨g14, hm⟩ := grd_s hm
      refine W.lcmp C.1 C.2.1 dX7_meetRow_76 ?_
      refine z_lcmp_gt (tgt := 86) C dX7_meetRow_77 (by decide) g13 g14 (fun c15 => ?_) (fun c15 => ?_)
      · have hm := ite_t c15 hm
        exact kl_Rw_meetRow_86 (N := N) C hr hlk hE hS hrec9 (lv_sub hl [0, 1, 2, 3, 4, 5, 6, 7, 8, 9] rfl) h hm
      · have hm := ite_f c15 hm
        refine lv_iinc (v := Int32.ofInt (x11 + 1)) (lv' := [(11, .int (Int32.ofInt (x11 + 1))), (0, rfv g 9), (1, rfv g x1), (3, .int (Int32.ofInt x3)), (4, .long (Int64.ofInt x4)), (6, .long (Int64.ofInt x6)), (8, .long (Int64.ofInt x8)), (10, .int (Int32.ofInt x10)), (12, .int (Int32.ofInt x12)), (13, .long (Int64.ofInt x13))]) C.1 C.2.1 dX7_meetRow_80 hl (k := 7) rfl (c32_add _ _) (by decide) rfl (fun ls hl => ?_)
        refine lv_goto (tgt := 46) C.1 C.2.1 dX7_meetRow_83 (by decide) ?_
        exact hrec46 (lv_sub hl [1, 2, 3, 4, 5, 6, 7, 0, 8, 9] rfl) h hm
set_option maxHeartbeats 8000000 in
set_option maxRecDepth 100000 in
theorem kl_Rw_meetRow_9 {r : St × Int} (C : Cx p s m args c cX7_meetRow RX7 (cd :: cWd) D (TYs k) 16) (hr : meth.sig.returnType = (some .int)) (hlk : meth.locks = false) (hE : Ev z mi aK aV A s s.heap) (hS : SHs π)    (n : Nat) : ∀ {ls : Array Slot} {H : Heap} {locs : List Loc} {σ : St} {x1 : Int} {x3 : Int} {x4 : Int} {x6 : Int} {x8 : Int} {x10 : Int} {x11 : Int} {x12 : Int}, lv_has ls 16 [(0, rfv g 9), (1, rfv g x1), (3, .int (Int32.ofInt x3)), (4, .long (Int64.ofInt x4)), (6, .long (Int64.ofInt x6)), (8, .long (Int64.ofInt x8)), (10, .int (Int32.ofInt x10)), (11, .int (Int32.ofInt x11)), (12, .int (Int32.ofInt x12))] → Hp D A s.heap H locs (cW k z g π σ) → Rw_meetRow_9 N π n σ x1 x3 x4 x6 x8 x10 x11 x12 = some r → W p l e { frames := 2, cells := 0, slots := 0, locals := 45 } s m args below meth c H locs 0 0 (MQ below (va_Qi (fun v (_ : Unit) => v = Int32.ofInt r.2) (fun _ t => PostW D (TYs k) A (cW k z g π r.1) t) A) args s 0 0 A) (F0 m 9 ls []) := by
  induction n with
  | zero => intro ls H locs σ x1 x3 x4 x6 x8 x10 x11 x12  hl h hm; cases (show none = some r from hm)
  | succ n hrec9 =>
    intro ls H locs σ x1 x3 x4 x6 x8 x10 x11 x12  hl h hm
    rw [Rw_meetRow_9] at hm
    refine lv_iload C.1 C.2.1 dX7_meetRow_9 (lv_at hl 8 rfl) ?_
    refine lv_iload_n C.1 C.2.1 dX7_meetRow_11 rfl (lv_at hl 2 rfl) ?_
    obtain ⟨g1, hm⟩ := grd_s hm
    obtain ⟨g2, hm⟩ := grd_s hm
    refine z_icmp_ge (tgt := 161) C dX7_meetRow_12 (by decide) g1 g2 (fun c3 => ?_) (fun c3 => ?_)
    · have hm := ite_f c3 hm
      refine lv_iload C.1 C.2.1 dX7_meetRow_161 (lv_at hl 6 rfl) ?_
      cases hm
      exact c_iretP C h hr hlk dX7_meetRow_163 rfl
    · have hm := ite_t c3 hm
      refine z_aload_n C dX7_meetRow_15 rfl (lv_at hl 0 rfl) ?_
      refine cg_8_0 C h (sh_9 hS) cU_X7 (List.mem_cons_of_mem _ wl_X7_12) dX7_meetRow_16 ?_
      refine cg_2_5 C h (sh_10 hS) cU_X1 (List.mem_cons_of_mem _ wl_X7_214) dX7_meetRow_19 ?_
      refine lv_iload C.1 C.2.1 dX7_meetRow_22 (lv_at hl 8 rfl) ?_
      obtain ⟨g4, hm⟩ := grd_s hm
      refine c_iald C h (sh_16 hS) (ina_inb (n := 6000) (sl_16 hS) (Nat.le_of_ble_eq_true rfl) g4) dX7_meetRow_24 ?_
      obtain ⟨g5, hm⟩ := grd_s hm
      refine z_if_eq (tgt := 31) C dX7_meetRow_25 (by decide) g5 (fun c6 => ?_) (fun c6 => ?_)
      · have hm := ite_t c6 hm
        refine z_aload_n C dX7_meetRow_31 rfl (lv_at hl 0 rfl) ?_
        refine cg_8_0 C h (sh_9 hS) cU_X7 (List.mem_cons_of_mem _ wl_X7_12) dX7_meetRow_32 ?_
        refine cg_2_0 C h (sh_10 hS) cU_X1 (List.mem_cons_of_mem _ wl_X7_148) dX7_meetRow_35 ?_
        refine lv_iload C.1 C.2.1 dX7_meetRow_38 (lv_at hl 8 rfl) ?_
        refine c_lald C h (sh_11 hS) (ina_inb (n := 6000) (sl_11 hS) (Nat.le_of_ble_eq_true rfl) g4) dX7_meetRow_40 ?_
        refine lv_lload C.1 C.2.1 dX7_meetRow_41 (lv_at hl 4 rfl) ?_
        refine z_lmul C dX7_meetRow_43 ?_
        obtain ⟨v7, e8, hm⟩ := bnd_s hm
        rw [e8]
        refine lv_lstore (lv' := [(13, .long (Int64.ofInt v7)), (0, rfv g 9), (1, rfv g x1), (3, .int (Int32.ofInt x3)), (4, .long (Int64.ofInt x4)), (6, .long (Int64.ofInt x6)), (8, .long (Int64.ofInt x8)), (10, .int (Int32.ofInt x10)), (11, .int (Int32.ofInt x11)), (12, .int (Int32.ofInt x12))]) C.1 C.2.1 dX7_meetRow_44 hl (by decide) rfl (fun ls hl => ?_)
        exact kl_Rw_meetRow_46 (N := N) C hr hlk hE hS hrec9 N (lv_sub hl [1, 2, 3, 4, 5, 6, 7, 8, 9, 0] rfl) h hm
      · have hm := ite_f c6 hm
        refine lv_goto (tgt := 155) C.1 C.2.1 dX7_meetRow_28 (by decide) ?_
        exact kl_Rw_meetRow_155 (N := N) C hr hlk hE hS hrec9 (lv_sub hl [0, 1, 2, 3, 4, 5, 6, 7, 8] rfl) h hm
set_option maxHeartbeats 8000000 in
set_option maxRecDepth 100000 in
theorem kc_Rw_meetRow (l : Launch) (D : va_G) (k : Nat → ClassId) (z mi : Nat) (aK aV : Nat → Nat) (g : Nat → Nat) (N : Nat)    {π : Sh} {σ : St} {x1 : Int} {x2 : Int} {x3 : Int} {x4 : Int} {x6 : Int} {x8 : Int} {r : St × Int} (hS : SHs π) (hm : Rw_meetRow N π σ x1 x2 x3 x4 x6 x8 = some r) : Mi l yX7_meetRow (.code yX7_meetRow cX7_meetRow 16 (some .int) :: cWd) { frames := 2, cells := 0, slots := 0, locals := 45 } [rfv g 9, rfv g x1, .int (Int32.ofInt x2), .int (Int32.ofInt x3), .long (Int64.ofInt x4), .long (Int64.ofInt x6), .long (Int64.ofInt x8)] D (TYs k) (cW k z g π σ) (XV z mi aK aV (cW k z g π σ)) Unit (fun v _ => v = Int32.ofInt r.2) (fun _ => cW k z g π r.1) 0 0 := by
  intro sz
  refine v_met (cc := cX7_meetRow) (maxL := 16) (ret := (some .int)) (lv := [(0, rfv g 9), (1, rfv g x1), (2, .int (Int32.ofInt x2)), (3, .int (Int32.ofInt x3)), (4, .long (Int64.ofInt x4)), (6, .long (Int64.ofInt x6)), (8, .long (Int64.ofInt x8))]) (by decide) rfl (by simp [lg_sl, rfv_cat, cat_i, cat_l]) (by simp [lv_args, rfv_cat, cat_i, cat_l]) ?_
  intro p e s m below meth c ls C hE hr hlk hmn hl h
  rw [Rw_meetRow] at hm
  refine lv_iconst (v := Int32.ofInt 0) C.1 C.2.1 dX7_meetRow_0 (by decide) ?_
  refine lv_istore (lv' := [(10, .int (Int32.ofInt 0)), (0, rfv g 9), (1, rfv g x1), (2, .int (Int32.ofInt x2)), (3, .int (Int32.ofInt x3)), (4, .long (Int64.ofInt x4)), (6, .long (Int64.ofInt x6)), (8, .long (Int64.ofInt x8))]) C.1 C.2.1 dX7_meetRow_1 hl (by decide) rfl (fun ls hl => ?_)
  refine lv_iload_n C.1 C.2.1 dX7_meetRow_3 rfl (lv_at hl 4 rfl) ?_
  refine lv_istore (lv' := [(11, .int (Int32.ofInt x3)), (10, .int (Int32.ofInt 0)), (0, rfv g 9), (1, rfv g x1), (2, .int (Int32.ofInt x2)), (3, .int (Int32.ofInt x3)), (4, .long (Int64.ofInt x4)), (6, .long (Int64.ofInt x6)), (8, .long (Int64.ofInt x8))]) C.1 C.2.1 dX7_meetRow_4 hl (by decide) rfl (fun ls hl => ?_)
  refine lv_iload_n C.1 C.2.1 dX7_meetRow_6 rfl (lv_at hl 4 rfl) ?_
  refine lv_istore (lv' := [(12, .int (Int32.ofInt x2)), (11, .int (Int32.ofInt x3)), (10, .int (Int32.ofInt 0)), (0, rfv g 9), (1, rfv g x1), (2, .int (Int32.ofInt x2)), (3, .int (Int32.ofInt x3)), (4, .long (Int64.ofInt x4)), (6, .long (Int64.ofInt x6)), (8, .long (Int64.ofInt x8))]) C.1 C.2.1 dX7_meetRow_7 hl (by decide) rfl (fun ls hl => ?_)
  exact kl_Rw_meetRow_9 (N := N) C hr hlk hE hS N (lv_sub hl [3, 4, 6, 7, 8, 9, 2, 1, 0] rfl) h hm
end Z_Rw_meetRow
section Z_Rw_meet
variable {p : Program} {l : Launch} {e : Env} {s : State} {m : MethodId} {args : Array Value} {below : List Frame} {meth : Method} {c : Code} {D : va_G} {A : Nat → Prop} {k : Nat → ClassId} {N : Nat} {cd : Cond} {z mi : Nat} {aK aV : Nat → Nat} {g : Nat → Nat} {π : Sh} {φ ψ : Nat}
set_option maxHeartbeats 8000000 in
set_option maxRecDepth 100000 in
theorem kl_Rw_meet_74 {r : St} (C : Cx p s m args c cX7_meet RX7 (cd :: cWd) D (TYs k) 12) (hr : meth.sig.returnType = none) (hlk : meth.locks = false) (hE : Ev z mi aK aV A s s.heap) (hS : SHs π) {rRow : Sh → St → Int → Int → Option St} (hφ : 12 ≤ φ) (hψ : 400 ≤ ψ) (hmrRow : ∀ {π : Sh} {σ : St} {y1 : Int} {y2 : Int} {r : St}, Cl π σ → y1 < nn π → rRow π σ y1 y2 = some r → Cl π r) (hcrRow : ∀ {g : Nat → Nat} {π : Sh} {σ : St} {y1 : Int} {y2 : Int} {r : St}, SHs π → rRow π σ y1 y2 = some r → Mv l yX7_row (.code yX7_row cX7_row 5 none :: cWd) { frames := φ, cells := 0, slots := 0, locals := ψ } [rfv g 9, rfv g y1, .long (Int64.ofInt y2)] D (TYs k) (cW k z g π σ) (XV z mi aK aV (cW k z g π σ)) Unit (fun _ => True) (fun _ => cW k z g π r) 0 0) {rec29 : St → Int → Int → Int → Int → Int → Int → Int → Option St} (hrec29 : ∀ {ls : Array Slot} {H : Heap} {locs : List Loc} {σ : St} {x1 : Int} {x2 : Int} {x4 : Int} {x5 : Int} {x6 : Int} {x7 : Int} {x8 : Int}, lv_has ls 12 [(0, rfv g 9), (1, rfv g x1), (2, .long (Int64.ofInt x2)), (4, rfv g x4), (5, rfv g x5), (6, .int (Int32.ofInt x6)), (7, .int (Int32.ofInt x7)), (8, .int (Int32.ofInt x8))] → Hp D A s.heap H locs (cW k z g π σ) → rec29 σ x1 x2 x4 x5 x6 x7 x8 = some r → W p l e { frames := φ + 1, cells := 0, slots := 0, locals := ψ + 24 } s m args below meth c H locs 0 0 (MQ below (va_Qv (fun (_ : Unit) => True) (fun _ t => PostW D (TYs k) A (cW k z g π r) t) A) args s 0 0 A) (F0 m 29 ls [])) {ls : Array Slot} {H : Heap} {locs : List Loc} {σ : St} {x1 : Int} {x2 : Int} {x4 : Int} {x5 : Int} {x6 : Int} {x7 : Int} {x8 : Int} {s0 : Int} {s1 : Int}  (hl : lv_has ls 12 [(0, rfv g 9), (1, rfv g x1), (2, .long (Int64.ofInt x2)), (4, rfv g x4), (5, rfv g x5), (6, .int (Int32.ofInt x6)), (7, .int (Int32.ofInt x7)), (8, .int (Int32.ofInt x8))]) (h : Hp D A s.heap H locs (cW k z g π σ)) (hm : Rw_meet_74 N rRow π rec29 σ x1 x2 x4 x5 x6 x7 x8 s0 s1 = some r) : W p l e { frames := φ + 1, cells := 0, slots := 0, locals := ψ + 24 } s m args below meth c H locs 0 0 (MQ below (va_Qv (fun (_ : Unit) => True) (fun _ t => PostW D (TYs k) A (cW k z g π r) t) A) args s 0 0 A) (F0 m 74 ls [.int (Int32.ofInt s0), .int (Int32.ofInt s1), rfv g 16]) := by
  rw [Rw_meet_74] at hm
  obtain ⟨g28, hm⟩ := grd_s hm
  refine c_iast C h (sh_16 hS) (ina_inb (n := 6000) (sl_16 hS) (Nat.le_of_ble_eq_true rfl) g28) dX7_meet_74 (fun H locs h => ?_)
  refine lv_iinc (v := Int32.ofInt (x8 + 1)) (lv' := [(8, .int (Int32.ofInt (x8 + 1))), (0, rfv g 9), (1, rfv g x1), (2, .long (Int64.ofInt x2)), (4, rfv g x4), (5, rfv g x5), (6, .int (Int32.ofInt x6)), (7, .int (Int32.ofInt x7))]) C.1 C.2.1 dX7_meet_75 hl (k := 7) rfl (c32_add _ _) (by decide) rfl (fun ls hl => ?_)
  refine lv_goto (tgt := 29) C.1 C.2.1 dX7_meet_78 (by decide) ?_
  exact hrec29 (lv_sub hl [1, 2, 3, 4, 5, 6, 7, 0] rfl) h hm
set_option maxHeartbeats 8000000 in
set_option maxRecDepth 100000 in
theorem kl_Rw_meet_73 {r : St} (C : Cx p s m args c cX7_meet RX7 (cd :: cWd) D (TYs k) 12) (hr : meth.sig.returnType = none) (hlk : meth.locks = false) (hE : Ev z mi aK aV A s s.heap) (hS : SHs π) {rRow : Sh → St → Int → Int → Option St} (hφ : 12 ≤ φ) (hψ : 400 ≤ ψ) (hmrRow : ∀ {π : Sh} {σ : St} {y1 : Int} {y2 : Int} {r : St}, Cl π σ → y1 < nn π → rRow π σ y1 y2 = some r → Cl π r) (hcrRow : ∀ {g : Nat → Nat} {π : Sh} {σ : St} {y1 : Int} {y2 : Int} {r : St}, SHs π → rRow π σ y1 y2 = some r → Mv l yX7_row (.code yX7_row cX7_row 5 none :: cWd) { frames := φ, cells := 0, slots := 0, locals := ψ } [rfv g 9, rfv g y1, .long (Int64.ofInt y2)] D (TYs k) (cW k z g π σ) (XV z mi aK aV (cW k z g π σ)) Unit (fun _ => True) (fun _ => cW k z g π r) 0 0) {rec29 : St → Int → Int → Int → Int → Int → Int → Int → Option St} (hrec29 : ∀ {ls : Array Slot} {H : Heap} {locs : List Loc} {σ : St} {x1 : Int} {x2 : Int} {x4 : Int} {x5 : Int} {x6 : Int} {x7 : Int} {x8 : Int}, lv_has ls 12 [(0, rfv g 9), (1, rfv g x1), (2, .long (Int64.ofInt x2)), (4, rfv g x4), (5, rfv g x5), (6, .int (Int32.ofInt x6)), (7, .int (Int32.ofInt x7)), (8, .int (Int32.ofInt x8))] → Hp D A s.heap H locs (cW k z g π σ) → rec29 σ x1 x2 x4 x5 x6 x7 x8 = some r → W p l e { frames := φ + 1, cells := 0, slots := 0, locals := ψ + 24 } s m args below meth c H locs 0 0 (MQ below (va_Qv (fun (_ : Unit) => True) (fun _ t => PostW D (TYs k) A (cW k z g π r) t) A) args s 0 0 A) (F0 m 29 ls [])) {ls : Array Slot} {H : Heap} {locs : List Loc} {σ : St} {x1 : Int} {x2 : Int} {x4 : Int} {x5 : Int} {x6 : Int} {x7 : Int} {x8 : Int} {s0 : Int}  (hl : lv_has ls 12 [(0, rfv g 9), (1, rfv g x1), (2, .long (Int64.ofInt x2)), (4, rfv g x4), (5, rfv g x5), (6, .int (Int32.ofInt x6)), (7, .int (Int32.ofInt x7)), (8, .int (Int32.ofInt x8))]) (h : Hp D A s.heap H locs (cW k z g π σ)) (hm : Rw_meet_73 N rRow π rec29 σ x1 x2 x4 x5 x6 x7 x8 s0 = some r) : W p l e { frames := φ + 1, cells := 0, slots := 0, locals := ψ + 24 } s m args below meth c H locs 0 0 (MQ below (va_Qv (fun (_ : Unit) => True) (fun _ t => PostW D (TYs k) A (cW k z g π r) t) A) args s 0 0 A) (F0 m 73 ls [.int (Int32.ofInt s0), rfv g 16]) := by
  rw [Rw_meet_73] at hm
  refine lv_iconst (v := Int32.ofInt 0) C.1 C.2.1 dX7_meet_73 (by decide) ?_
  exact kl_Rw_meet_74 (N := N) C hr hlk hE hS hφ hψ hmrRow hcrRow hrec29 (lv_sub hl [0, 1, 2, 3, 4, 5, 6, 7] rfl) h hm
set_option maxHeartbeats 8000000 in
set_option maxRecDepth 100000 in
theorem kl_Rw_meet_198 {r : St} (C : Cx p s m args c cX7_meet RX7 (cd :: cWd) D (TYs k) 12) (hr : meth.sig.returnType = none) (hlk : meth.locks = false) (hE : Ev z mi aK aV A s s.heap) (hS : SHs π) {rRow : Sh → St → Int → Int → Option St} (hφ : 12 ≤ φ) (hψ : 400 ≤ ψ) (hmrRow : ∀ {π : Sh} {σ : St} {y1 : Int} {y2 : Int} {r : St}, Cl π σ → y1 < nn π → rRow π σ y1 y2 = some r → Cl π r) (hcrRow : ∀ {g : Nat → Nat} {π : Sh} {σ : St} {y1 : Int} {y2 : Int} {r : St}, SHs π → rRow π σ y1 y2 = some r → Mv l yX7_row (.code yX7_row cX7_row 5 none :: cWd) { frames := φ, cells := 0, slots := 0, locals := ψ } [rfv g 9, rfv g y1, .long (Int64.ofInt y2)] D (TYs k) (cW k z g π σ) (XV z mi aK aV (cW k z g π σ)) Unit (fun _ => True) (fun _ => cW k z g π r) 0 0)  {ls : Array Slot} {H : Heap} {locs : List Loc} {σ : St} {x6 : Int} {x7 : Int}  (hl : lv_has ls 12 [(0, rfv g 9), (6, .int (Int32.ofInt x6)), (7, .int (Int32.ofInt x7))]) (h : Hp D A s.heap H locs (cW k z g π σ)) (hm : Rw_meet_198 N rRow π σ x6 x7 = some r) : W p l e { frames := φ + 1, cells := 0, slots := 0, locals := ψ + 24 } s m args below meth c H locs 0 0 (MQ below (va_Qv (fun (_ : Unit) => True) (fun _ t => PostW D (TYs k) A (cW k z g π r) t) A) args s 0 0 A) (F0 m 198 ls []) := by
  rw [Rw_meet_198] at hm
  refine lv_iload C.1 C.2.1 dX7_meet_198 (lv_at hl 1 rfl) ?_
  refine lv_bipush (v := Int32.ofInt 21) C.1 C.2.1 dX7_meet_200 (by decide) ?_
  obtain ⟨g49, hm⟩ := grd_s hm
  refine z_icmp_eq (tgt := 215) C dX7_meet_202 (by decide) g49 (by decide) (fun c50 => ?_) (fun c50 => ?_)
  · have hm := ite_t c50 hm
    cases hm
    exact c_vretP C h hr hlk dX7_meet_215
  · have hm := ite_f c50 hm
    refine z_aload_n C dX7_meet_205 rfl (lv_at hl 0 rfl) ?_
    refine cg_8_0 C h (sh_9 hS) cU_X7 (List.mem_cons_of_mem _ wl_X7_12) dX7_meet_206 ?_
    refine lv_iload C.1 C.2.1 dX7_meet_209 (lv_at hl 2 rfl) ?_
    refine lv_iconst (v := Int32.ofInt 1) C.1 C.2.1 dX7_meet_211 (by decide) ?_
    obtain ⟨r51, e52, hm⟩ := obd_s hm
    refine c_callVvP C hE h (sh_10 hS) rfl (by decide) (kc_Es_chooseMarked l D k z mi aK aV g N hS e52) (cwV 2 C.2.2.1 (gS_X7_217 _) rfl rfl rfl hd_X1_chooseMarked ⟨(by show 1 + 1 ≤ φ + 1; omega), (by show 8 + (5 + 11) + 22 ≤ ψ + 24; omega)⟩) rfl hl.1 rfl (Nat.le_of_ble_eq_true rfl) dX7_meet_212 ⟨(Nat.le_of_ble_eq_true rfl), (Nat.le_of_ble_eq_true rfl)⟩ (fun H locs h => ?_)
    cases hm
    exact c_vretP C h hr hlk dX7_meet_215
set_option maxHeartbeats 8000000 in
set_option maxRecDepth 100000 in
theorem kl_Rw_meet_117 {r : St} (C : Cx p s m args c cX7_meet RX7 (cd :: cWd) D (TYs k) 12) (hr : meth.sig.returnType = none) (hlk : meth.locks = false) (hE : Ev z mi aK aV A s s.heap) (hS : SHs π) {rRow : Sh → St → Int → Int → Option St} (hφ : 12 ≤ φ) (hψ : 400 ≤ ψ) (hmrRow : ∀ {π : Sh} {σ : St} {y1 : Int} {y2 : Int} {r : St}, Cl π σ → y1 < nn π → rRow π σ y1 y2 = some r → Cl π r) (hcrRow : ∀ {g : Nat → Nat} {π : Sh} {σ : St} {y1 : Int} {y2 : Int} {r : St}, SHs π → rRow π σ y1 y2 = some r → Mv l yX7_row (.code yX7_row cX7_row 5 none :: cWd) { frames := φ, cells := 0, slots := 0, locals := ψ } [rfv g 9, rfv g y1, .long (Int64.ofInt y2)] D (TYs k) (cW k z g π σ) (XV z mi aK aV (cW k z g π σ)) Unit (fun _ => True) (fun _ => cW k z g π r) 0 0)  (n : Nat) : ∀ {ls : Array Slot} {H : Heap} {locs : List Loc} {σ : St} {x1 : Int} {x2 : Int} {x4 : Int} {x5 : Int} {x6 : Int} {x7 : Int} {x8 : Int} {x9 : Int} {x10 : Int}, lv_has ls 12 [(0, rfv g 9), (1, rfv g x1), (2, .long (Int64.ofInt x2)), (4, rfv g x4), (5, rfv g x5), (6, .int (Int32.ofInt x6)), (7, .int (Int32.ofInt x7)), (8, .int (Int32.ofInt x8)), (9, .int (Int32.ofInt x9)), (10, .long (Int64.ofInt x10))] → Hp D A s.heap H locs (cW k z g π σ) → Rw_meet_117 N rRow π n σ x1 x2 x4 x5 x6 x7 x8 x9 x10 = some r → W p l e { frames := φ + 1, cells := 0, slots := 0, locals := ψ + 24 } s m args below meth c H locs 0 0 (MQ below (va_Qv (fun (_ : Unit) => True) (fun _ t => PostW D (TYs k) A (cW k z g π r) t) A) args s 0 0 A) (F0 m 117 ls []) := by
  induction n with
  | zero => intro ls H locs σ x1 x2 x4 x5 x6 x7 x8 x9 x10  hl h hm; cases (show none = some r from hm)
  | succ n hrec117 =>
    intro ls H locs σ x1 x2 x4 x5 x6 x7 x8 x9 x10  hl h hm
    rw [Rw_meet_117] at hm
    refine lv_lload C.1 C.2.1 dX7_meet_117 (lv_at hl 9 rfl) ?_
    refine lv_lload_n C.1 C.2.1 dX7_meet_119 rfl (lv_at hl 2 rfl) ?_
    refine z_aload C dX7_meet_120 (lv_at hl 4 rfl) ?_
    obtain ⟨g29, hm⟩ := grd_s hm
    refine cg_5_4 C h g29 cU_X4 (List.mem_cons_of_mem _ wl_X7_181) dX7_meet_122 ?_
    refine z_lsub C dX7_meet_125 ?_
    obtain ⟨g30, hm⟩ := grd_s hm
    obtain ⟨g31, hm⟩ := grd_s hm
    refine W.lcmp C.1 C.2.1 dX7_meet_126 ?_
    refine z_lcmp_lt (tgt := 198) C dX7_meet_127 (by decide) g30 g31 (fun c32 => ?_) (fun c32 => ?_)
    · have hm := ite_t c32 hm
      exact kl_Rw_meet_198 (N := N) C hr hlk hE hS hφ hψ hmrRow hcrRow (lv_sub hl [0, 5, 6] rfl) h hm
    · have hm := ite_f c32 hm
      refine lv_iload C.1 C.2.1 dX7_meet_130 (lv_at hl 8 rfl) ?_
      obtain ⟨g33, hm⟩ := grd_s hm
      refine z_if_le (tgt := 198) C dX7_meet_132 (by decide) g33 (fun c34 => ?_) (fun c34 => ?_)
      · have hm := ite_f c34 hm
        exact kl_Rw_meet_198 (N := N) C hr hlk hE hS hφ hψ hmrRow hcrRow (lv_sub hl [0, 5, 6] rfl) h hm
      · have hm := ite_t c34 hm
        refine z_aload_n C dX7_meet_135 rfl (lv_at hl 0 rfl) ?_
        refine z_aload C dX7_meet_136 (lv_at hl 4 rfl) ?_
        refine lv_lload C.1 C.2.1 dX7_meet_138 (lv_at hl 9 rfl) ?_
        obtain ⟨r35, e36, hm⟩ := obd_s hm
        refine c_callVvP C hE h (sh_9 hS) rfl (by decide) (hcrRow hS e36) (cwV 2 C.2.2.1 (gS_X7_31 _) rfl rfl rfl hd_X7_row ⟨(by show φ + 1 ≤ φ + 1; omega), (by show 8 + (5 + 11) + ψ ≤ ψ + 24; omega)⟩) rfl hl.1 rfl (Nat.le_of_ble_eq_true rfl) dX7_meet_140 ⟨(Nat.le_of_ble_eq_true rfl), (Nat.le_of_ble_eq_true rfl)⟩ (fun H locs h => ?_)
        refine lv_iload C.1 C.2.1 dX7_meet_143 (lv_at hl 8 rfl) ?_
        refine z_aload_n C dX7_meet_145 rfl (lv_at hl 0 rfl) ?_
        refine z_aload_n C dX7_meet_146 rfl (lv_at hl 1 rfl) ?_
        obtain ⟨g39, hm⟩ := grd_s hm
        refine cg_5_0 C h g39 cU_X4 (List.mem_cons_of_mem _ wl_X7_41) dX7_meet_147 ?_
        refine lv_iload C.1 C.2.1 dX7_meet_150 (lv_at hl 6 rfl) ?_
        refine lv_iload C.1 C.2.1 dX7_meet_152 (lv_at hl 7 rfl) ?_
        refine z_aload C dX7_meet_154 (lv_at hl 3 rfl) ?_
        obtain ⟨g40, hm⟩ := grd_s hm
        refine cg_5_2 C h g40 cU_X4 (List.mem_cons_of_mem _ wl_X7_101) dX7_meet_156 ?_
        refine z_aload C dX7_meet_159 (lv_at hl 4 rfl) ?_
        refine cg_5_2 C h g29 cU_X4 (List.mem_cons_of_mem _ wl_X7_101) dX7_meet_161 ?_
        refine lv_lload C.1 C.2.1 dX7_meet_164 (lv_at hl 9 rfl) ?_
        refine lv_lload_n C.1 C.2.1 dX7_meet_166 rfl (lv_at hl 2 rfl) ?_
        refine z_lsub C dX7_meet_167 ?_
        refine z_aload C dX7_meet_168 (lv_at hl 4 rfl) ?_
        refine cg_5_2 C h g29 cU_X4 (List.mem_cons_of_mem _ wl_X7_101) dX7_meet_170 ?_
        refine z_lmul C dX7_meet_173 ?_
        obtain ⟨r41, e42, hm⟩ := obd_s hm
        refine c_callViP C hE h (sh_9 hS) rfl (by decide) (kc_Rw_meetRow l D k z mi aK aV g N hS e42) (cwV 6 C.2.2.1 (gS_X7_235 _) rfl rfl rfl hd_X7_meetRow ⟨(by show 2 + 1 ≤ φ + 1; omega), (by show 8 + (16 + 11) + 45 ≤ ψ + 24; omega)⟩) rfl hl.1 rfl (Nat.le_of_ble_eq_true rfl) dX7_meet_174 ⟨(Nat.le_of_ble_eq_true rfl), (Nat.le_of_ble_eq_true rfl)⟩ (fun H locs h => ?_)
        refine z_isub C dX7_meet_177 ?_
        obtain ⟨v45, e46, hm⟩ := bnd_s hm
        rw [e46]
        refine lv_istore (lv' := [(9, .int (Int32.ofInt v45)), (0, rfv g 9), (1, rfv g x1), (2, .long (Int64.ofInt x2)), (4, rfv g x4), (5, rfv g x5), (6, .int (Int32.ofInt x6)), (7, .int (Int32.ofInt x7)), (8, .int (Int32.ofInt x8)), (10, .long (Int64.ofInt x10))]) C.1 C.2.1 dX7_meet_178 hl (by decide) rfl (fun ls hl => ?_)
        refine z_aload_n C dX7_meet_180 rfl (lv_at hl 1 rfl) ?_
        refine cg_8_0 C h (sh_9 hS) cU_X7 (List.mem_cons_of_mem _ wl_X7_12) dX7_meet_181 ?_
        refine lv_iload C.1 C.2.1 dX7_meet_184 (lv_at hl 8 rfl) ?_
        refine cp_2_6 C h (sh_10 hS) cU_X1 (List.mem_cons_of_mem _ wl_X7_28) dX7_meet_186 (fun H locs h => ?_)
        refine lv_lload C.1 C.2.1 dX7_meet_189 (lv_at hl 9 rfl) ?_
        refine lv_lconst (v := Int64.ofInt 1) C.1 C.2.1 dX7_meet_191 (by decide) ?_
        refine z_lsub C dX7_meet_192 ?_
        obtain ⟨v47, e48, hm⟩ := bnd_s hm
        rw [e48]
        refine lv_lstore (lv' := [(10, .long (Int64.ofInt v47)), (9, .int (Int32.ofInt v45)), (0, rfv g 9), (1, rfv g x1), (2, .long (Int64.ofInt x2)), (4, rfv g x4), (5, rfv g x5), (6, .int (Int32.ofInt x6)), (7, .int (Int32.ofInt x7)), (8, .int (Int32.ofInt x8))]) C.1 C.2.1 dX7_meet_193 hl (by decide) rfl (fun ls hl => ?_)
        refine lv_goto (tgt := 117) C.1 C.2.1 dX7_meet_195 (by decide) ?_
        exact hrec117 (lv_sub hl [2, 3, 4, 5, 6, 7, 8, 9, 1, 0] rfl) h hm
set_option maxHeartbeats 8000000 in
set_option maxRecDepth 100000 in
theorem kl_Rw_meet_98 {r : St} (C : Cx p s m args c cX7_meet RX7 (cd :: cWd) D (TYs k) 12) (hr : meth.sig.returnType = none) (hlk : meth.locks = false) (hE : Ev z mi aK aV A s s.heap) (hS : SHs π) {rRow : Sh → St → Int → Int → Option St} (hφ : 12 ≤ φ) (hψ : 400 ≤ ψ) (hmrRow : ∀ {π : Sh} {σ : St} {y1 : Int} {y2 : Int} {r : St}, Cl π σ → y1 < nn π → rRow π σ y1 y2 = some r → Cl π r) (hcrRow : ∀ {g : Nat → Nat} {π : Sh} {σ : St} {y1 : Int} {y2 : Int} {r : St}, SHs π → rRow π σ y1 y2 = some r → Mv l yX7_row (.code yX7_row cX7_row 5 none :: cWd) { frames := φ, cells := 0, slots := 0, locals := ψ } [rfv g 9, rfv g y1, .long (Int64.ofInt y2)] D (TYs k) (cW k z g π σ) (XV z mi aK aV (cW k z g π σ)) Unit (fun _ => True) (fun _ => cW k z g π r) 0 0)  {ls : Array Slot} {H : Heap} {locs : List Loc} {σ : St} {x1 : Int} {x2 : Int} {x4 : Int} {x5 : Int} {x6 : Int} {x7 : Int}  (hl : lv_has ls 12 [(0, rfv g 9), (1, rfv g x1), (2, .long (Int64.ofInt x2)), (4, rfv g x4), (5, rfv g x5), (6, .int (Int32.ofInt x6)), (7, .int (Int32.ofInt x7))]) (h : Hp D A s.heap H locs (cW k z g π σ)) (hm : Rw_meet_98 N rRow π σ x1 x2 x4 x5 x6 x7 = some r) : W p l e { frames := φ + 1, cells := 0, slots := 0, locals := ψ + 24 } s m args below meth c H locs 0 0 (MQ below (va_Qv (fun (_ : Unit) => True) (fun _ t => PostW D (TYs k) A (cW k z g π r) t) A) args s 0 0 A) (F0 m 98 ls []) := by
  rw [Rw_meet_98] at hm
  refine z_aload_n C dX7_meet_98 rfl (lv_at hl 0 rfl) ?_
  refine cg_8_0 C h (sh_9 hS) cU_X7 (List.mem_cons_of_mem _ wl_X7_12) dX7_meet_99 ?_
  refine cg_2_6 C h (sh_10 hS) cU_X1 (List.mem_cons_of_mem _ wl_X7_28) dX7_meet_102 ?_
  refine lv_istore (lv' := [(8, .int (Int32.ofInt (fl σ 46 10))), (0, rfv g 9), (1, rfv g x1), (2, .long (Int64.ofInt x2)), (4, rfv g x4), (5, rfv g x5), (6, .int (Int32.ofInt x6)), (7, .int (Int32.ofInt x7))]) C.1 C.2.1 dX7_meet_105 hl (by decide) rfl (fun ls hl => ?_)
  refine lv_iload C.1 C.2.1 dX7_meet_107 (lv_at hl 0 rfl) ?_
  refine lv_iload C.1 C.2.1 dX7_meet_109 (lv_at hl 7 rfl) ?_
  refine z_isub C dX7_meet_111 ?_
  obtain ⟨v26, e27, hm⟩ := bnd_s hm
  rw [e27]
  refine lv_istore (lv' := [(9, .int (Int32.ofInt v26)), (8, .int (Int32.ofInt (fl σ 46 10))), (0, rfv g 9), (1, rfv g x1), (2, .long (Int64.ofInt x2)), (4, rfv g x4), (5, rfv g x5), (6, .int (Int32.ofInt x6)), (7, .int (Int32.ofInt x7))]) C.1 C.2.1 dX7_meet_112 hl (by decide) rfl (fun ls hl => ?_)
  refine lv_lload_n C.1 C.2.1 dX7_meet_114 rfl (lv_at hl 4 rfl) ?_
  refine lv_lstore (lv' := [(10, .long (Int64.ofInt x2)), (9, .int (Int32.ofInt v26)), (8, .int (Int32.ofInt (fl σ 46 10))), (0, rfv g 9), (1, rfv g x1), (2, .long (Int64.ofInt x2)), (4, rfv g x4), (5, rfv g x5), (6, .int (Int32.ofInt x6)), (7, .int (Int32.ofInt x7))]) C.1 C.2.1 dX7_meet_115 hl (by decide) rfl (fun ls hl => ?_)
  exact kl_Rw_meet_117 (N := N) C hr hlk hE hS hφ hψ hmrRow hcrRow N (lv_sub hl [3, 4, 5, 6, 7, 8, 9, 2, 1, 0] rfl) h hm
set_option maxHeartbeats 8000000 in
set_option maxRecDepth 100000 in
theorem kl_Rw_meet_29 {r : St} (C : Cx p s m args c cX7_meet RX7 (cd :: cWd) D (TYs k) 12) (hr : meth.sig.returnType = none) (hlk : meth.locks = false) (hE : Ev z mi aK aV A s s.heap) (hS : SHs π) {rRow : Sh → St → Int → Int → Option St} (hφ : 12 ≤ φ) (hψ : 400 ≤ ψ) (hmrRow : ∀ {π : Sh} {σ : St} {y1 : Int} {y2 : Int} {r : St}, Cl π σ → y1 < nn π → rRow π σ y1 y2 = some r → Cl π r) (hcrRow : ∀ {g : Nat → Nat} {π : Sh} {σ : St} {y1 : Int} {y2 : Int} {r : St}, SHs π → rRow π σ y1 y2 = some r → Mv l yX7_row (.code yX7_row cX7_row 5 none :: cWd) { frames := φ, cells := 0, slots := 0, locals := ψ } [rfv g 9, rfv g y1, .long (Int64.ofInt y2)] D (TYs k) (cW k z g π σ) (XV z mi aK aV (cW k z g π σ)) Unit (fun _ => True) (fun _ => cW k z g π r) 0 0)  (n : Nat) : ∀ {ls : Array Slot} {H : Heap} {locs : List Loc} {σ : St} {x1 : Int} {x2 : Int} {x4 : Int} {x5 : Int} {x6 : Int} {x7 : Int} {x8 : Int}, lv_has ls 12 [(0, rfv g 9), (1, rfv g x1), (2, .long (Int64.ofInt x2)), (4, rfv g x4), (5, rfv g x5), (6, .int (Int32.ofInt x6)), (7, .int (Int32.ofInt x7)), (8, .int (Int32.ofInt x8))] → Hp D A s.heap H locs (cW k z g π σ) → Rw_meet_29 N rRow π n σ x1 x2 x4 x5 x6 x7 x8 = some r → W p l e { frames := φ + 1, cells := 0, slots := 0, locals := ψ + 24 } s m args below meth c H locs 0 0 (MQ below (va_Qv (fun (_ : Unit) => True) (fun _ t => PostW D (TYs k) A (cW k z g π r) t) A) args s 0 0 A) (F0 m 29 ls []) := by
  induction n with
  | zero => intro ls H locs σ x1 x2 x4 x5 x6 x7 x8  hl h hm; cases (show none = some r from hm)
  | succ n hrec29 =>
    intro ls H locs σ x1 x2 x4 x5 x6 x7 x8  hl h hm
    rw [Rw_meet_29] at hm
    refine lv_iload C.1 C.2.1 dX7_meet_29 (lv_at hl 7 rfl) ?_
    refine z_aload_n C dX7_meet_31 rfl (lv_at hl 0 rfl) ?_
    refine cg_8_0 C h (sh_9 hS) cU_X7 (List.mem_cons_of_mem _ wl_X7_12) dX7_meet_32 ?_
    refine cg_2_6 C h (sh_10 hS) cU_X1 (List.mem_cons_of_mem _ wl_X7_28) dX7_meet_35 ?_
    obtain ⟨g9, hm⟩ := grd_s hm
    obtain ⟨g10, hm⟩ := grd_s hm
    refine z_icmp_ge (tgt := 81) C dX7_meet_38 (by decide) g9 g10 (fun c11 => ?_) (fun c11 => ?_)
    · have hm := ite_f c11 hm
      refine lv_iload C.1 C.2.1 dX7_meet_81 (lv_at hl 5 rfl) ?_
      refine lv_bipush (v := Int32.ofInt 19) C.1 C.2.1 dX7_meet_83 (by decide) ?_
      obtain ⟨g12, hm⟩ := grd_s hm
      refine z_icmp_ne (tgt := 98) C dX7_meet_85 (by decide) g12 (by decide) (fun c13 => ?_) (fun c13 => ?_)
      · have hm := ite_f c13 hm
        exact kl_Rw_meet_98 (N := N) C hr hlk hE hS hφ hψ hmrRow hcrRow (lv_sub hl [0, 1, 2, 3, 4, 5, 6] rfl) h hm
      · have hm := ite_t c13 hm
        refine z_aload_n C dX7_meet_88 rfl (lv_at hl 0 rfl) ?_
        refine cg_8_0 C h (sh_9 hS) cU_X7 (List.mem_cons_of_mem _ wl_X7_12) dX7_meet_89 ?_
        refine lv_iload C.1 C.2.1 dX7_meet_92 (lv_at hl 6 rfl) ?_
        refine lv_iconst (v := Int32.ofInt 0) C.1 C.2.1 dX7_meet_94 (by decide) ?_
        obtain ⟨r14, e15, hm⟩ := obd_s hm
        refine c_callVvP C hE h (sh_10 hS) rfl (by decide) (kc_Es_chooseMarked l D k z mi aK aV g N hS e15) (cwV 2 C.2.2.1 (gS_X7_217 _) rfl rfl rfl hd_X1_chooseMarked ⟨(by show 1 + 1 ≤ φ + 1; omega), (by show 8 + (5 + 11) + 22 ≤ ψ + 24; omega)⟩) rfl hl.1 rfl (Nat.le_of_ble_eq_true rfl) dX7_meet_95 ⟨(Nat.le_of_ble_eq_true rfl), (Nat.le_of_ble_eq_true rfl)⟩ (fun H locs h => ?_)
        exact kl_Rw_meet_98 (N := N) C hr hlk hE hS hφ hψ hmrRow hcrRow (lv_sub hl [0, 1, 2, 3, 4, 5, 6] rfl) h hm
    · have hm := ite_t c11 hm
      refine z_aload_n C dX7_meet_41 rfl (lv_at hl 0 rfl) ?_
      refine cg_8_0 C h (sh_9 hS) cU_X7 (List.mem_cons_of_mem _ wl_X7_12) dX7_meet_42 ?_
      refine cg_2_5 C h (sh_10 hS) cU_X1 (List.mem_cons_of_mem _ wl_X7_214) dX7_meet_45 ?_
      refine lv_iload C.1 C.2.1 dX7_meet_48 (lv_at hl 7 rfl) ?_
      refine lv_iload C.1 C.2.1 dX7_meet_50 (lv_at hl 5 rfl) ?_
      refine lv_bipush (v := Int32.ofInt 19) C.1 C.2.1 dX7_meet_52 (by decide) ?_
      obtain ⟨g18, hm⟩ := grd_s hm
      refine z_icmp_ne (tgt := 73) C dX7_meet_54 (by decide) g18 (by decide) (fun c19 => ?_) (fun c19 => ?_)
      · have hm := ite_f c19 hm
        exact kl_Rw_meet_73 (N := N) C hr hlk hE hS hφ hψ hmrRow hcrRow hrec29 (lv_sub hl [0, 1, 2, 3, 4, 5, 6, 7] rfl) h hm
      · have hm := ite_t c19 hm
        refine z_aload_n C dX7_meet_57 rfl (lv_at hl 0 rfl) ?_
        refine cg_8_0 C h (sh_9 hS) cU_X7 (List.mem_cons_of_mem _ wl_X7_12) dX7_meet_58 ?_
        refine lv_iload C.1 C.2.1 dX7_meet_61 (lv_at hl 7 rfl) ?_
        obtain ⟨r20, e21, hm⟩ := obd_s hm
        refine c_callViP C hE h (sh_10 hS) rfl (by decide) (kc_Es_isLoud l D k z mi aK aV g N hS e21) (cwV 1 C.2.2.1 (gS_X7_231 _) rfl rfl rfl hd_X1_isLoud ⟨(by show 0 + 1 ≤ φ + 1; omega), (by show 8 + (2 + 11) + 0 ≤ ψ + 24; omega)⟩) rfl hl.1 rfl (by simp [rfv_cat, cat_i, cat_l]) dX7_meet_63 ⟨(Nat.le_of_ble_eq_true rfl), (Nat.le_of_ble_eq_true rfl)⟩ (fun H locs h => ?_)
        obtain ⟨g24, hm⟩ := grd_s hm
        refine z_if_ne (tgt := 73) C dX7_meet_66 (by decide) g24 (fun c25 => ?_) (fun c25 => ?_)
        · have hm := ite_f c25 hm
          exact kl_Rw_meet_73 (N := N) C hr hlk hE hS hφ hψ hmrRow hcrRow hrec29 (lv_sub hl [0, 1, 2, 3, 4, 5, 6, 7] rfl) h hm
        · have hm := ite_t c25 hm
          refine lv_iconst (v := Int32.ofInt 2) C.1 C.2.1 dX7_meet_69 (by decide) ?_
          refine lv_goto (tgt := 74) C.1 C.2.1 dX7_meet_70 (by decide) ?_
          exact kl_Rw_meet_74 (N := N) C hr hlk hE hS hφ hψ hmrRow hcrRow hrec29 (lv_sub hl [0, 1, 2, 3, 4, 5, 6, 7] rfl) h hm
set_option maxHeartbeats 8000000 in
set_option maxRecDepth 100000 in
theorem kc_Rw_meet (l : Launch) (D : va_G) (k : Nat → ClassId) (z mi : Nat) (aK aV : Nat → Nat) (g : Nat → Nat) (N : Nat) {φ ψ : Nat} {rRow : Sh → St → Int → Int → Option St} (hφ : 12 ≤ φ) (hψ : 400 ≤ ψ) (hmrRow : ∀ {π : Sh} {σ : St} {y1 : Int} {y2 : Int} {r : St}, Cl π σ → y1 < nn π → rRow π σ y1 y2 = some r → Cl π r) (hcrRow : ∀ {g : Nat → Nat} {π : Sh} {σ : St} {y1 : Int} {y2 : Int} {r : St}, SHs π → rRow π σ y1 y2 = some r → Mv l yX7_row (.code yX7_row cX7_row 5 none :: cWd) { frames := φ, cells := 0, slots := 0, locals := ψ } [rfv g 9, rfv g y1, .long (Int64.ofInt y2)] D (TYs k) (cW k z g π σ) (XV z mi aK aV (cW k z g π σ)) Unit (fun _ => True) (fun _ => cW k z g π r) 0 0) {π : Sh} {σ : St} {x1 : Int} {x2 : Int} {x4 : Int} {x5 : Int} {r : St} (hS : SHs π) (hm : Rw_meet N rRow π σ x1 x2 x4 x5 = some r) : Mv l yX7_meet (.code yX7_meet cX7_meet 12 none :: cWd) { frames := φ + 1, cells := 0, slots := 0, locals := ψ + 24 } [rfv g 9, rfv g x1, .long (Int64.ofInt x2), rfv g x4, rfv g x5] D (TYs k) (cW k z g π σ) (XV z mi aK aV (cW k z g π σ)) Unit (fun _ => True) (fun _ => cW k z g π r) 0 0 := by
  intro sz
  refine v_met (cc := cX7_meet) (maxL := 12) (ret := none) (lv := [(0, rfv g 9), (1, rfv g x1), (2, .long (Int64.ofInt x2)), (4, rfv g x4), (5, rfv g x5)]) (by decide) rfl (by simp [lg_sl, rfv_cat, cat_i, cat_l]) (by simp [lv_args, rfv_cat, cat_i, cat_l]) ?_
  intro p e s m below meth c ls C hE hr hlk hmn hl h
  rw [Rw_meet] at hm
  refine z_aload_n C dX7_meet_0 rfl (lv_at hl 1 rfl) ?_
  obtain ⟨g1, hm⟩ := grd_s hm
  refine cg_5_0 C h g1 cU_X4 (List.mem_cons_of_mem _ wl_X7_41) dX7_meet_1 ?_
  obtain ⟨g2, hm⟩ := grd_s hm
  refine cg_10_0 C h g2 cU_X9 (List.mem_cons_of_mem _ wl_X7_45) dX7_meet_4 ?_
  obtain ⟨v3, e4, hm⟩ := bnd_s hm
  rw [e4]
  refine lv_istore (lv' := [(6, .int (Int32.ofInt v3)), (0, rfv g 9), (1, rfv g x1), (2, .long (Int64.ofInt x2)), (4, rfv g x4), (5, rfv g x5)]) C.1 C.2.1 dX7_meet_7 hl (by decide) (by simp [rfv_cat, cat_i, cat_l]) (fun ls hl => ?_)
  refine z_aload_n C dX7_meet_9 rfl (lv_at hl 1 rfl) ?_
  refine cg_8_0 C h (sh_9 hS) cU_X7 (List.mem_cons_of_mem _ wl_X7_12) dX7_meet_10 ?_
  refine cg_2_6 C h (sh_10 hS) cU_X1 (List.mem_cons_of_mem _ wl_X7_28) dX7_meet_13 ?_
  refine lv_istore (lv' := [(7, .int (Int32.ofInt (fl σ 46 10))), (6, .int (Int32.ofInt v3)), (0, rfv g 9), (1, rfv g x1), (2, .long (Int64.ofInt x2)), (4, rfv g x4), (5, rfv g x5)]) C.1 C.2.1 dX7_meet_16 hl (by decide) rfl (fun ls hl => ?_)
  refine z_aload_n C dX7_meet_18 rfl (lv_at hl 2 rfl) ?_
  refine z_aload C dX7_meet_19 (lv_at hl 5 rfl) ?_
  refine lv_lload_n C.1 C.2.1 dX7_meet_21 rfl (lv_at hl 4 rfl) ?_
  obtain ⟨r5, e6, hm⟩ := obd_s hm
  refine c_callVvP C hE h (sh_9 hS) rfl (by decide) (hcrRow hS e6) (cwV 2 C.2.2.1 (gS_X7_31 _) rfl rfl rfl hd_X7_row ⟨(by show φ + 1 ≤ φ + 1; omega), (by show 8 + (5 + 11) + ψ ≤ ψ + 24; omega)⟩) rfl hl.1 rfl (Nat.le_of_ble_eq_true rfl) dX7_meet_22 ⟨(Nat.le_of_ble_eq_true rfl), (Nat.le_of_ble_eq_true rfl)⟩ (fun H locs h => ?_)
  refine lv_iload C.1 C.2.1 dX7_meet_25 (lv_at hl 0 rfl) ?_
  refine lv_istore (lv' := [(8, .int (Int32.ofInt (fl σ 46 10))), (7, .int (Int32.ofInt (fl σ 46 10))), (6, .int (Int32.ofInt v3)), (0, rfv g 9), (1, rfv g x1), (2, .long (Int64.ofInt x2)), (4, rfv g x4), (5, rfv g x5)]) C.1 C.2.1 dX7_meet_27 hl (by decide) rfl (fun ls hl => ?_)
  exact kl_Rw_meet_29 (N := N) C hr hlk hE hS hφ hψ hmrRow hcrRow N (lv_sub hl [3, 4, 5, 6, 7, 2, 1, 0] rfl) h hm
end Z_Rw_meet
section Z_Rw_plyOne
variable {p : Program} {l : Launch} {e : Env} {s : State} {m : MethodId} {args : Array Value} {below : List Frame} {meth : Method} {c : Code} {D : va_G} {A : Nat → Prop} {k : Nat → ClassId} {N : Nat} {cd : Cond} {z mi : Nat} {aK aV : Nat → Nat} {g : Nat → Nat} {π : Sh}
set_option maxHeartbeats 8000000 in
set_option maxRecDepth 100000 in
theorem kl_Rw_plyOne_89 {r : St} (C : Cx p s m args c cX7_plyOne RX7 (cd :: cWd) D (TYs k) 12) (hr : meth.sig.returnType = none) (hlk : meth.locks = false) (hE : Ev z mi aK aV A s s.heap) (hS : SHs π)   {rec30 : St → Int → Int → Int → Int → Int → Int → Option St} (hrec30 : ∀ {ls : Array Slot} {H : Heap} {locs : List Loc} {σ : St} {x1 : Int} {x2 : Int} {x5 : Int} {x7 : Int} {x9 : Int} {x11 : Int}, lv_has ls 12 [(0, rfv g 9), (1, .int (Int32.ofInt x1)), (2, .int (Int32.ofInt x2)), (5, .long (Int64.ofInt x5)), (7, .long (Int64.ofInt x7)), (9, .long (Int64.ofInt x9)), (11, .int (Int32.ofInt x11))] → Hp D A s.heap H locs (cW k z g π σ) → rec30 σ x1 x2 x5 x7 x9 x11 = some r → W p l e { frames := 1, cells := 0, slots := 0, locals := 28 } s m args below meth c H locs 0 0 (MQ below (va_Qv (fun (_ : Unit) => True) (fun _ t => PostW D (TYs k) A (cW k z g π r) t) A) args s 0 0 A) (F0 m 30 ls [])) {ls : Array Slot} {H : Heap} {locs : List Loc} {σ : St} {x1 : Int} {x2 : Int} {x5 : Int} {x7 : Int} {x9 : Int} {x11 : Int}  (hl : lv_has ls 12 [(0, rfv g 9), (1, .int (Int32.ofInt x1)), (2, .int (Int32.ofInt x2)), (5, .long (Int64.ofInt x5)), (7, .long (Int64.ofInt x7)), (9, .long (Int64.ofInt x9)), (11, .int (Int32.ofInt x11))]) (h : Hp D A s.heap H locs (cW k z g π σ)) (hm : Rw_plyOne_89 N π rec30 σ x1 x2 x5 x7 x9 x11 = some r) : W p l e { frames := 1, cells := 0, slots := 0, locals := 28 } s m args below meth c H locs 0 0 (MQ below (va_Qv (fun (_ : Unit) => True) (fun _ t => PostW D (TYs k) A (cW k z g π r) t) A) args s 0 0 A) (F0 m 89 ls []) := by
  rw [Rw_plyOne_89] at hm
  refine lv_lload C.1 C.2.1 dX7_plyOne_89 (lv_at hl 5 rfl) ?_
  refine lv_lload C.1 C.2.1 dX7_plyOne_91 (lv_at hl 4 rfl) ?_
  refine z_ladd C dX7_plyOne_93 ?_
  obtain ⟨v19, e20, hm⟩ := bnd_s hm
  rw [e20]
  refine lv_lstore (lv' := [(9, .long (Int64.ofInt v19)), (0, rfv g 9), (1, .int (Int32.ofInt x1)), (2, .int (Int32.ofInt x2)), (5, .long (Int64.ofInt x5)), (7, .long (Int64.ofInt x7)), (11, .int (Int32.ofInt x11))]) C.1 C.2.1 dX7_plyOne_94 hl (by decide) rfl (fun ls hl => ?_)
  refine lv_iinc (v := Int32.ofInt (x11 + 1)) (lv' := [(11, .int (Int32.ofInt (x11 + 1))), (9, .long (Int64.ofInt v19)), (0, rfv g 9), (1, .int (Int32.ofInt x1)), (2, .int (Int32.ofInt x2)), (5, .long (Int64.ofInt x5)), (7, .long (Int64.ofInt x7))]) C.1 C.2.1 dX7_plyOne_96 hl (k := 6) rfl (c32_add _ _) (by decide) rfl (fun ls hl => ?_)
  refine lv_goto (tgt := 30) C.1 C.2.1 dX7_plyOne_99 (by decide) ?_
  exact hrec30 (lv_sub hl [2, 3, 4, 5, 6, 1, 0] rfl) h hm
set_option maxHeartbeats 8000000 in
set_option maxRecDepth 100000 in
theorem kl_Rw_plyOne_30 {r : St} (C : Cx p s m args c cX7_plyOne RX7 (cd :: cWd) D (TYs k) 12) (hr : meth.sig.returnType = none) (hlk : meth.locks = false) (hE : Ev z mi aK aV A s s.heap) (hS : SHs π)    (n : Nat) : ∀ {ls : Array Slot} {H : Heap} {locs : List Loc} {σ : St} {x1 : Int} {x2 : Int} {x5 : Int} {x7 : Int} {x9 : Int} {x11 : Int}, lv_has ls 12 [(0, rfv g 9), (1, .int (Int32.ofInt x1)), (2, .int (Int32.ofInt x2)), (5, .long (Int64.ofInt x5)), (7, .long (Int64.ofInt x7)), (9, .long (Int64.ofInt x9)), (11, .int (Int32.ofInt x11))] → Hp D A s.heap H locs (cW k z g π σ) → Rw_plyOne_30 N π n σ x1 x2 x5 x7 x9 x11 = some r → W p l e { frames := 1, cells := 0, slots := 0, locals := 28 } s m args below meth c H locs 0 0 (MQ below (va_Qv (fun (_ : Unit) => True) (fun _ t => PostW D (TYs k) A (cW k z g π r) t) A) args s 0 0 A) (F0 m 30 ls []) := by
  induction n with
  | zero => intro ls H locs σ x1 x2 x5 x7 x9 x11  hl h hm; cases (show none = some r from hm)
  | succ n hrec30 =>
    intro ls H locs σ x1 x2 x5 x7 x9 x11  hl h hm
    rw [Rw_plyOne_30] at hm
    refine lv_iload C.1 C.2.1 dX7_plyOne_30 (lv_at hl 6 rfl) ?_
    refine lv_iload_n C.1 C.2.1 dX7_plyOne_32 rfl (lv_at hl 2 rfl) ?_
    obtain ⟨g7, hm⟩ := grd_s hm
    obtain ⟨g8, hm⟩ := grd_s hm
    refine z_icmp_ge (tgt := 102) C dX7_plyOne_33 (by decide) g7 g8 (fun c9 => ?_) (fun c9 => ?_)
    · have hm := ite_f c9 hm
      cases hm
      exact c_vretP C h hr hlk dX7_plyOne_102
    · have hm := ite_t c9 hm
      refine lv_lload C.1 C.2.1 dX7_plyOne_36 (lv_at hl 5 rfl) ?_
      refine lv_lconst (v := Int64.ofInt 0) C.1 C.2.1 dX7_plyOne_38 (by decide) ?_
      obtain ⟨g10, hm⟩ := grd_s hm
      refine W.lcmp C.1 C.2.1 dX7_plyOne_39 ?_
      refine z_lcmp_lt (tgt := 89) C dX7_plyOne_40 (by decide) g10 (by decide) (fun c11 => ?_) (fun c11 => ?_)
      · have hm := ite_t c11 hm
        exact kl_Rw_plyOne_89 (N := N) C hr hlk hE hS hrec30 (lv_sub hl [0, 1, 2, 3, 4, 5, 6] rfl) h hm
      · have hm := ite_f c11 hm
        refine lv_lload C.1 C.2.1 dX7_plyOne_43 (lv_at hl 5 rfl) ?_
        refine lv_lload C.1 C.2.1 dX7_plyOne_45 (lv_at hl 3 rfl) ?_
        obtain ⟨g12, hm⟩ := grd_s hm
        refine W.lcmp C.1 C.2.1 dX7_plyOne_47 ?_
        refine z_lcmp_ge (tgt := 89) C dX7_plyOne_48 (by decide) g10 g12 (fun c13 => ?_) (fun c13 => ?_)
        · have hm := ite_f c13 hm
          exact kl_Rw_plyOne_89 (N := N) C hr hlk hE hS hrec30 (lv_sub hl [0, 1, 2, 3, 4, 5, 6] rfl) h hm
        · have hm := ite_t c13 hm
          refine z_aload_n C dX7_plyOne_51 rfl (lv_at hl 0 rfl) ?_
          refine cg_8_0 C h (sh_9 hS) cU_X7 (List.mem_cons_of_mem _ wl_X7_12) dX7_plyOne_52 ?_
          refine lv_lload C.1 C.2.1 dX7_plyOne_55 (lv_at hl 5 rfl) ?_
          refine lv_lload C.1 C.2.1 dX7_plyOne_57 (lv_at hl 4 rfl) ?_
          refine z_aload_n C dX7_plyOne_59 rfl (lv_at hl 0 rfl) ?_
          refine cg_8_0 C h (sh_9 hS) cU_X7 (List.mem_cons_of_mem _ wl_X7_12) dX7_plyOne_60 ?_
          refine cg_2_2 C h (sh_10 hS) cU_X1 (List.mem_cons_of_mem _ wl_X7_191) dX7_plyOne_63 ?_
          refine lv_iload_n C.1 C.2.1 dX7_plyOne_66 rfl (lv_at hl 1 rfl) ?_
          obtain ⟨g14, hm⟩ := grd_s hm
          refine c_lald C h (sh_13 hS) (ina_inb (n := 6000) (sl_13 hS) (Nat.le_of_ble_eq_true rfl) g14) dX7_plyOne_67 ?_
          refine z_aload_n C dX7_plyOne_68 rfl (lv_at hl 0 rfl) ?_
          refine cg_8_0 C h (sh_9 hS) cU_X7 (List.mem_cons_of_mem _ wl_X7_12) dX7_plyOne_69 ?_
          refine cg_2_3 C h (sh_10 hS) cU_X1 (List.mem_cons_of_mem _ wl_X7_193) dX7_plyOne_72 ?_
          refine lv_iload_n C.1 C.2.1 dX7_plyOne_75 rfl (lv_at hl 1 rfl) ?_
          refine c_iald C h (sh_14 hS) (ina_inb (n := 6000) (sl_14 hS) (Nat.le_of_ble_eq_true rfl) g14) dX7_plyOne_76 ?_
          refine z_aload_n C dX7_plyOne_77 rfl (lv_at hl 0 rfl) ?_
          refine cg_8_0 C h (sh_9 hS) cU_X7 (List.mem_cons_of_mem _ wl_X7_12) dX7_plyOne_78 ?_
          refine cg_2_4 C h (sh_10 hS) cU_X1 (List.mem_cons_of_mem _ wl_X7_196) dX7_plyOne_81 ?_
          refine lv_iload_n C.1 C.2.1 dX7_plyOne_84 rfl (lv_at hl 1 rfl) ?_
          refine c_zald C h (sh_15 hS) (ina_inb (n := 6000) (sl_15 hS) (Nat.le_of_ble_eq_true rfl) g14) dX7_plyOne_85 ?_
          obtain ⟨r15, e16, hm⟩ := obd_s hm
          refine c_callVvP C hE h (sh_10 hS) rfl (by decide) (kc_Es_push l D k z mi aK aV g N hS e16) (cwV 5 C.2.2.1 (gS_X7_53 _) rfl rfl rfl hd_X1_push ⟨Nat.le_of_ble_eq_true rfl, Nat.le_of_ble_eq_true rfl⟩) rfl hl.1 rfl (Nat.le_of_ble_eq_true rfl) dX7_plyOne_86 ⟨(Nat.le_of_ble_eq_true rfl), (Nat.le_of_ble_eq_true rfl)⟩ (fun H locs h => ?_)
          exact kl_Rw_plyOne_89 (N := N) C hr hlk hE hS hrec30 (lv_sub hl [0, 1, 2, 3, 4, 5, 6] rfl) h hm
set_option maxHeartbeats 8000000 in
set_option maxRecDepth 100000 in
theorem kc_Rw_plyOne (l : Launch) (D : va_G) (k : Nat → ClassId) (z mi : Nat) (aK aV : Nat → Nat) (g : Nat → Nat) (N : Nat)    {π : Sh} {σ : St} {x1 : Int} {x2 : Int} {x3 : Int} {x5 : Int} {r : St} (hS : SHs π) (hm : Rw_plyOne N π σ x1 x2 x3 x5 = some r) : Mv l yX7_plyOne (.code yX7_plyOne cX7_plyOne 12 none :: cWd) { frames := 1, cells := 0, slots := 0, locals := 28 } [rfv g 9, .int (Int32.ofInt x1), .int (Int32.ofInt x2), .long (Int64.ofInt x3), .long (Int64.ofInt x5)] D (TYs k) (cW k z g π σ) (XV z mi aK aV (cW k z g π σ)) Unit (fun _ => True) (fun _ => cW k z g π r) 0 0 := by
  intro sz
  refine v_met (cc := cX7_plyOne) (maxL := 12) (ret := none) (lv := [(0, rfv g 9), (1, .int (Int32.ofInt x1)), (2, .int (Int32.ofInt x2)), (3, .long (Int64.ofInt x3)), (5, .long (Int64.ofInt x5))]) (by decide) rfl (by simp [lg_sl, rfv_cat, cat_i, cat_l]) (by simp [lv_args, rfv_cat, cat_i, cat_l]) ?_
  intro p e s m below meth c ls C hE hr hlk hmn hl h
  rw [Rw_plyOne] at hm
  refine z_aload_n C dX7_plyOne_0 rfl (lv_at hl 0 rfl) ?_
  refine cg_8_0 C h (sh_9 hS) cU_X7 (List.mem_cons_of_mem _ wl_X7_12) dX7_plyOne_1 ?_
  refine cg_2_1 C h (sh_10 hS) cU_X1 (List.mem_cons_of_mem _ wl_X7_152) dX7_plyOne_4 ?_
  refine lv_iload_n C.1 C.2.1 dX7_plyOne_7 rfl (lv_at hl 1 rfl) ?_
  obtain ⟨g1, hm⟩ := grd_s hm
  refine c_lald C h (sh_12 hS) (ina_inb (n := 6000) (sl_12 hS) (Nat.le_of_ble_eq_true rfl) g1) dX7_plyOne_8 ?_
  obtain ⟨v2, e3, hm⟩ := bnd_s hm
  rw [e3]
  refine lv_lstore (lv' := [(7, .long (Int64.ofInt v2)), (0, rfv g 9), (1, .int (Int32.ofInt x1)), (2, .int (Int32.ofInt x2)), (3, .long (Int64.ofInt x3)), (5, .long (Int64.ofInt x5))]) C.1 C.2.1 dX7_plyOne_9 hl (by decide) rfl (fun ls hl => ?_)
  refine z_aload_n C dX7_plyOne_11 rfl (lv_at hl 1 rfl) ?_
  refine cg_8_0 C h (sh_9 hS) cU_X7 (List.mem_cons_of_mem _ wl_X7_12) dX7_plyOne_12 ?_
  refine cg_2_0 C h (sh_10 hS) cU_X1 (List.mem_cons_of_mem _ wl_X7_148) dX7_plyOne_15 ?_
  refine lv_iload_n C.1 C.2.1 dX7_plyOne_18 rfl (lv_at hl 2 rfl) ?_
  refine c_lald C h (sh_11 hS) (ina_inb (n := 6000) (sl_11 hS) (Nat.le_of_ble_eq_true rfl) g1) dX7_plyOne_19 ?_
  refine lv_iload_n C.1 C.2.1 dX7_plyOne_20 rfl (lv_at hl 3 rfl) ?_
  obtain ⟨g4, hm⟩ := grd_s hm
  refine z_i2l C dX7_plyOne_21 g4 ?_
  refine z_lmul C dX7_plyOne_22 ?_
  refine lv_lload_n C.1 C.2.1 dX7_plyOne_23 rfl (lv_at hl 4 rfl) ?_
  refine z_ladd C dX7_plyOne_24 ?_
  obtain ⟨v5, e6, hm⟩ := bnd_s hm
  rw [e6]
  refine lv_lstore (lv' := [(9, .long (Int64.ofInt v5)), (7, .long (Int64.ofInt v2)), (0, rfv g 9), (1, .int (Int32.ofInt x1)), (2, .int (Int32.ofInt x2)), (3, .long (Int64.ofInt x3)), (5, .long (Int64.ofInt x5))]) C.1 C.2.1 dX7_plyOne_25 hl (by decide) rfl (fun ls hl => ?_)
  refine lv_iconst (v := Int32.ofInt 0) C.1 C.2.1 dX7_plyOne_27 (by decide) ?_
  refine lv_istore (lv' := [(11, .int (Int32.ofInt 0)), (9, .long (Int64.ofInt v5)), (7, .long (Int64.ofInt v2)), (0, rfv g 9), (1, .int (Int32.ofInt x1)), (2, .int (Int32.ofInt x2)), (3, .long (Int64.ofInt x3)), (5, .long (Int64.ofInt x5))]) C.1 C.2.1 dX7_plyOne_28 hl (by decide) rfl (fun ls hl => ?_)
  exact kl_Rw_plyOne_30 (N := N) C hr hlk hE hS N (lv_sub hl [3, 4, 5, 7, 2, 1, 0] rfl) h hm
end Z_Rw_plyOne
section Z_Rw_ply
variable {p : Program} {l : Launch} {e : Env} {s : State} {m : MethodId} {args : Array Value} {below : List Frame} {meth : Method} {c : Code} {D : va_G} {A : Nat → Prop} {k : Nat → ClassId} {N : Nat} {cd : Cond} {z mi : Nat} {aK aV : Nat → Nat} {g : Nat → Nat} {π : Sh} {φ ψ : Nat}
set_option maxHeartbeats 8000000 in
set_option maxRecDepth 100000 in
theorem kl_Rw_ply_72 {r : St} (C : Cx p s m args c cX7_ply RX7 (cd :: cWd) D (TYs k) 12) (hr : meth.sig.returnType = none) (hlk : meth.locks = false) (hE : Ev z mi aK aV A s s.heap) (hS : SHs π) {rRow : Sh → St → Int → Int → Option St} (hφ : 12 ≤ φ) (hψ : 400 ≤ ψ) (hmrRow : ∀ {π : Sh} {σ : St} {y1 : Int} {y2 : Int} {r : St}, Cl π σ → y1 < nn π → rRow π σ y1 y2 = some r → Cl π r) (hcrRow : ∀ {g : Nat → Nat} {π : Sh} {σ : St} {y1 : Int} {y2 : Int} {r : St}, SHs π → rRow π σ y1 y2 = some r → Mv l yX7_row (.code yX7_row cX7_row 5 none :: cWd) { frames := φ, cells := 0, slots := 0, locals := ψ } [rfv g 9, rfv g y1, .long (Int64.ofInt y2)] D (TYs k) (cW k z g π σ) (XV z mi aK aV (cW k z g π σ)) Unit (fun _ => True) (fun _ => cW k z g π r) 0 0) {rec35 : St → Int → Int → Int → Int → Int → Int → Option St} (hrec35 : ∀ {ls : Array Slot} {H : Heap} {locs : List Loc} {σ : St} {x1 : Int} {x2 : Int} {x4 : Int} {x5 : Int} {x6 : Int} {x7 : Int}, lv_has ls 12 [(0, rfv g 9), (1, rfv g x1), (2, .long (Int64.ofInt x2)), (4, rfv g x4), (5, .int (Int32.ofInt x5)), (6, .int (Int32.ofInt x6)), (7, .long (Int64.ofInt x7))] → Hp D A s.heap H locs (cW k z g π σ) → rec35 σ x1 x2 x4 x5 x6 x7 = some r → W p l e { frames := φ + 1, cells := 0, slots := 0, locals := ψ + 24 } s m args below meth c H locs 0 0 (MQ below (va_Qv (fun (_ : Unit) => True) (fun _ t => PostW D (TYs k) A (cW k z g π r) t) A) args s 0 0 A) (F0 m 35 ls [])) (n : Nat) : ∀ {ls : Array Slot} {H : Heap} {locs : List Loc} {σ : St} {x1 : Int} {x2 : Int} {x4 : Int} {x5 : Int} {x6 : Int} {x7 : Int} {x9 : Int} {x10 : Int} {x11 : Int}, lv_has ls 12 [(0, rfv g 9), (1, rfv g x1), (2, .long (Int64.ofInt x2)), (4, rfv g x4), (5, .int (Int32.ofInt x5)), (6, .int (Int32.ofInt x6)), (7, .long (Int64.ofInt x7)), (9, .int (Int32.ofInt x9)), (10, .int (Int32.ofInt x10)), (11, .int (Int32.ofInt x11))] → Hp D A s.heap H locs (cW k z g π σ) → Rw_ply_72 N rRow π rec35 n σ x1 x2 x4 x5 x6 x7 x9 x10 x11 = some r → W p l e { frames := φ + 1, cells := 0, slots := 0, locals := ψ + 24 } s m args below meth c H locs 0 0 (MQ below (va_Qv (fun (_ : Unit) => True) (fun _ t => PostW D (TYs k) A (cW k z g π r) t) A) args s 0 0 A) (F0 m 72 ls []) := by
  induction n with
  | zero => intro ls H locs σ x1 x2 x4 x5 x6 x7 x9 x10 x11  hl h hm; cases (show none = some r from hm)
  | succ n hrec72 =>
    intro ls H locs σ x1 x2 x4 x5 x6 x7 x9 x10 x11  hl h hm
    rw [Rw_ply_72] at hm
    refine lv_iload C.1 C.2.1 dX7_ply_72 (lv_at hl 9 rfl) ?_
    refine lv_iload C.1 C.2.1 dX7_ply_74 (lv_at hl 8 rfl) ?_
    obtain ⟨g23, hm⟩ := grd_s hm
    obtain ⟨g24, hm⟩ := grd_s hm
    refine z_icmp_ge (tgt := 106) C dX7_ply_76 (by decide) g23 g24 (fun c25 => ?_) (fun c25 => ?_)
    · have hm := ite_f c25 hm
      refine z_aload_n C dX7_ply_106 rfl (lv_at hl 0 rfl) ?_
      refine cg_8_0 C h (sh_9 hS) cU_X7 (List.mem_cons_of_mem _ wl_X7_12) dX7_ply_107 ?_
      refine lv_iload C.1 C.2.1 dX7_ply_110 (lv_at hl 7 rfl) ?_
      refine lv_iload C.1 C.2.1 dX7_ply_112 (lv_at hl 8 rfl) ?_
      obtain ⟨r26, e27, hm⟩ := obd_s hm
      refine c_callVvP C hE h (sh_10 hS) rfl (by decide) (kc_Es_remove l D k z mi aK aV g N hS e27) (cwV 2 C.2.2.1 (gS_X7_187 _) rfl rfl rfl hd_X1_remove ⟨(by show 1 + 1 ≤ φ + 1; omega), (by show 8 + (5 + 11) + 22 ≤ ψ + 24; omega)⟩) rfl hl.1 rfl (Nat.le_of_ble_eq_true rfl) dX7_ply_114 ⟨(Nat.le_of_ble_eq_true rfl), (Nat.le_of_ble_eq_true rfl)⟩ (fun H locs h => ?_)
      refine lv_lload C.1 C.2.1 dX7_ply_117 (lv_at hl 6 rfl) ?_
      refine lv_lconst (v := Int64.ofInt 1) C.1 C.2.1 dX7_ply_119 (by decide) ?_
      refine z_ladd C dX7_ply_120 ?_
      obtain ⟨v30, e31, hm⟩ := bnd_s hm
      rw [e31]
      refine lv_lstore (lv' := [(7, .long (Int64.ofInt v30)), (0, rfv g 9), (1, rfv g x1), (2, .long (Int64.ofInt x2)), (4, rfv g x4), (5, .int (Int32.ofInt x5)), (6, .int (Int32.ofInt x6)), (9, .int (Int32.ofInt x9)), (10, .int (Int32.ofInt x10)), (11, .int (Int32.ofInt x11))]) C.1 C.2.1 dX7_ply_121 hl (by decide) rfl (fun ls hl => ?_)
      refine lv_goto (tgt := 35) C.1 C.2.1 dX7_ply_123 (by decide) ?_
      exact hrec35 (lv_sub hl [1, 2, 3, 4, 5, 6, 0] rfl) h hm
    · have hm := ite_t c25 hm
      refine z_aload_n C dX7_ply_79 rfl (lv_at hl 0 rfl) ?_
      refine lv_iload C.1 C.2.1 dX7_ply_80 (lv_at hl 9 rfl) ?_
      refine lv_iload C.1 C.2.1 dX7_ply_82 (lv_at hl 4 rfl) ?_
      refine lv_lload C.1 C.2.1 dX7_ply_84 (lv_at hl 6 rfl) ?_
      refine lv_lload_n C.1 C.2.1 dX7_ply_86 rfl (lv_at hl 2 rfl) ?_
      refine z_lsub C dX7_ply_87 ?_
      refine z_aload_n C dX7_ply_88 rfl (lv_at hl 1 rfl) ?_
      obtain ⟨g32, hm⟩ := grd_s hm
      refine cg_5_2 C h g32 cU_X4 (List.mem_cons_of_mem _ wl_X7_101) dX7_ply_89 ?_
      refine z_lmul C dX7_ply_92 ?_
      refine z_aload_n C dX7_ply_93 rfl (lv_at hl 1 rfl) ?_
      refine cg_5_2 C h g32 cU_X4 (List.mem_cons_of_mem _ wl_X7_101) dX7_ply_94 ?_
      obtain ⟨r33, e34, hm⟩ := obd_s hm
      refine c_callVvP C hE h (sh_9 hS) rfl (by decide) (kc_Rw_plyOne l D k z mi aK aV g N hS e34) (cwV 4 C.2.2.1 (gS_X7_184 _) rfl rfl rfl hd_X7_plyOne ⟨(by show 1 + 1 ≤ φ + 1; omega), (by show 8 + (12 + 11) + 28 ≤ ψ + 24; omega)⟩) rfl hl.1 rfl (Nat.le_of_ble_eq_true rfl) dX7_ply_97 ⟨(Nat.le_of_ble_eq_true rfl), (Nat.le_of_ble_eq_true rfl)⟩ (fun H locs h => ?_)
      refine lv_iinc (v := Int32.ofInt (x11 + 1)) (lv' := [(11, .int (Int32.ofInt (x11 + 1))), (0, rfv g 9), (1, rfv g x1), (2, .long (Int64.ofInt x2)), (4, rfv g x4), (5, .int (Int32.ofInt x5)), (6, .int (Int32.ofInt x6)), (7, .long (Int64.ofInt x7)), (9, .int (Int32.ofInt x9)), (10, .int (Int32.ofInt x10))]) C.1 C.2.1 dX7_ply_100 hl (k := 9) rfl (c32_add _ _) (by decide) rfl (fun ls hl => ?_)
      refine lv_goto (tgt := 72) C.1 C.2.1 dX7_ply_103 (by decide) ?_
      exact hrec72 (lv_sub hl [1, 2, 3, 4, 5, 6, 7, 8, 9, 0] rfl) h hm
set_option maxHeartbeats 8000000 in
set_option maxRecDepth 100000 in
theorem kl_Rw_ply_35 {r : St} (C : Cx p s m args c cX7_ply RX7 (cd :: cWd) D (TYs k) 12) (hr : meth.sig.returnType = none) (hlk : meth.locks = false) (hE : Ev z mi aK aV A s s.heap) (hS : SHs π) {rRow : Sh → St → Int → Int → Option St} (hφ : 12 ≤ φ) (hψ : 400 ≤ ψ) (hmrRow : ∀ {π : Sh} {σ : St} {y1 : Int} {y2 : Int} {r : St}, Cl π σ → y1 < nn π → rRow π σ y1 y2 = some r → Cl π r) (hcrRow : ∀ {g : Nat → Nat} {π : Sh} {σ : St} {y1 : Int} {y2 : Int} {r : St}, SHs π → rRow π σ y1 y2 = some r → Mv l yX7_row (.code yX7_row cX7_row 5 none :: cWd) { frames := φ, cells := 0, slots := 0, locals := ψ } [rfv g 9, rfv g y1, .long (Int64.ofInt y2)] D (TYs k) (cW k z g π σ) (XV z mi aK aV (cW k z g π σ)) Unit (fun _ => True) (fun _ => cW k z g π r) 0 0)  (n : Nat) : ∀ {ls : Array Slot} {H : Heap} {locs : List Loc} {σ : St} {x1 : Int} {x2 : Int} {x4 : Int} {x5 : Int} {x6 : Int} {x7 : Int}, lv_has ls 12 [(0, rfv g 9), (1, rfv g x1), (2, .long (Int64.ofInt x2)), (4, rfv g x4), (5, .int (Int32.ofInt x5)), (6, .int (Int32.ofInt x6)), (7, .long (Int64.ofInt x7))] → Hp D A s.heap H locs (cW k z g π σ) → Rw_ply_35 N rRow π n σ x1 x2 x4 x5 x6 x7 = some r → W p l e { frames := φ + 1, cells := 0, slots := 0, locals := ψ + 24 } s m args below meth c H locs 0 0 (MQ below (va_Qv (fun (_ : Unit) => True) (fun _ t => PostW D (TYs k) A (cW k z g π r) t) A) args s 0 0 A) (F0 m 35 ls []) := by
  induction n with
  | zero => intro ls H locs σ x1 x2 x4 x5 x6 x7  hl h hm; cases (show none = some r from hm)
  | succ n hrec35 =>
    intro ls H locs σ x1 x2 x4 x5 x6 x7  hl h hm
    rw [Rw_ply_35] at hm
    refine lv_lload C.1 C.2.1 dX7_ply_35 (lv_at hl 6 rfl) ?_
    refine lv_lload_n C.1 C.2.1 dX7_ply_37 rfl (lv_at hl 2 rfl) ?_
    obtain ⟨g12, hm⟩ := grd_s hm
    obtain ⟨g13, hm⟩ := grd_s hm
    refine W.lcmp C.1 C.2.1 dX7_ply_38 ?_
    refine z_lcmp_gt (tgt := 126) C dX7_ply_39 (by decide) g12 g13 (fun c14 => ?_) (fun c14 => ?_)
    · have hm := ite_t c14 hm
      refine z_aload_n C dX7_ply_126 rfl (lv_at hl 0 rfl) ?_
      refine cg_8_0 C h (sh_9 hS) cU_X7 (List.mem_cons_of_mem _ wl_X7_12) dX7_ply_127 ?_
      refine lv_iload C.1 C.2.1 dX7_ply_130 (lv_at hl 5 rfl) ?_
      obtain ⟨r15, e16, hm⟩ := obd_s hm
      refine c_callVvP C hE h (sh_10 hS) rfl (by decide) (kc_Es_sort l D k z mi aK aV g N hS e16) (cwV 1 C.2.2.1 (gS_X7_168 _) rfl rfl rfl hd_X1_sort ⟨(by show 3 + 1 ≤ φ + 1; omega), (by show 8 + (5 + 11) + 88 ≤ ψ + 24; omega)⟩) rfl hl.1 rfl (Nat.le_of_ble_eq_true rfl) dX7_ply_132 ⟨(Nat.le_of_ble_eq_true rfl), (Nat.le_of_ble_eq_true rfl)⟩ (fun H locs h => ?_)
      cases hm
      exact c_vretP C h hr hlk dX7_ply_135
    · have hm := ite_f c14 hm
      refine z_aload_n C dX7_ply_42 rfl (lv_at hl 0 rfl) ?_
      refine cg_8_0 C h (sh_9 hS) cU_X7 (List.mem_cons_of_mem _ wl_X7_12) dX7_ply_43 ?_
      refine cg_2_6 C h (sh_10 hS) cU_X1 (List.mem_cons_of_mem _ wl_X7_28) dX7_ply_46 ?_
      refine lv_istore (lv' := [(9, .int (Int32.ofInt (fl σ 46 10))), (0, rfv g 9), (1, rfv g x1), (2, .long (Int64.ofInt x2)), (4, rfv g x4), (5, .int (Int32.ofInt x5)), (6, .int (Int32.ofInt x6)), (7, .long (Int64.ofInt x7))]) C.1 C.2.1 dX7_ply_49 hl (by decide) rfl (fun ls hl => ?_)
      refine z_aload_n C dX7_ply_51 rfl (lv_at hl 1 rfl) ?_
      refine z_aload C dX7_ply_52 (lv_at hl 4 rfl) ?_
      refine lv_lload C.1 C.2.1 dX7_ply_54 (lv_at hl 7 rfl) ?_
      obtain ⟨r19, e20, hm⟩ := obd_s hm
      refine c_callVvP C hE h (sh_9 hS) rfl (by decide) (hcrRow hS e20) (cwV 2 C.2.2.1 (gS_X7_31 _) rfl rfl rfl hd_X7_row ⟨(by show φ + 1 ≤ φ + 1; omega), (by show 8 + (5 + 11) + ψ ≤ ψ + 24; omega)⟩) rfl hl.1 rfl (Nat.le_of_ble_eq_true rfl) dX7_ply_56 ⟨(Nat.le_of_ble_eq_true rfl), (Nat.le_of_ble_eq_true rfl)⟩ (fun H locs h => ?_)
      refine z_aload_n C dX7_ply_59 rfl (lv_at hl 1 rfl) ?_
      refine cg_8_0 C h (sh_9 hS) cU_X7 (List.mem_cons_of_mem _ wl_X7_12) dX7_ply_60 ?_
      refine cg_2_6 C h (sh_10 hS) cU_X1 (List.mem_cons_of_mem _ wl_X7_28) dX7_ply_63 ?_
      refine lv_istore (lv' := [(10, .int (Int32.ofInt (fl r19 46 10))), (9, .int (Int32.ofInt (fl σ 46 10))), (0, rfv g 9), (1, rfv g x1), (2, .long (Int64.ofInt x2)), (4, rfv g x4), (5, .int (Int32.ofInt x5)), (6, .int (Int32.ofInt x6)), (7, .long (Int64.ofInt x7))]) C.1 C.2.1 dX7_ply_66 hl (by decide) rfl (fun ls hl => ?_)
      refine lv_iload C.1 C.2.1 dX7_ply_68 (lv_at hl 1 rfl) ?_
      refine lv_istore (lv' := [(11, .int (Int32.ofInt (fl σ 46 10))), (10, .int (Int32.ofInt (fl r19 46 10))), (9, .int (Int32.ofInt (fl σ 46 10))), (0, rfv g 9), (1, rfv g x1), (2, .long (Int64.ofInt x2)), (4, rfv g x4), (5, .int (Int32.ofInt x5)), (6, .int (Int32.ofInt x6)), (7, .long (Int64.ofInt x7))]) C.1 C.2.1 dX7_ply_70 hl (by decide) rfl (fun ls hl => ?_)
      exact kl_Rw_ply_72 (N := N) C hr hlk hE hS hφ hψ hmrRow hcrRow hrec35 N (lv_sub hl [3, 4, 5, 6, 7, 8, 9, 2, 1, 0] rfl) h hm
set_option maxHeartbeats 8000000 in
set_option maxRecDepth 100000 in
theorem kc_Rw_ply (l : Launch) (D : va_G) (k : Nat → ClassId) (z mi : Nat) (aK aV : Nat → Nat) (g : Nat → Nat) (N : Nat) {φ ψ : Nat} {rRow : Sh → St → Int → Int → Option St} (hφ : 12 ≤ φ) (hψ : 400 ≤ ψ) (hmrRow : ∀ {π : Sh} {σ : St} {y1 : Int} {y2 : Int} {r : St}, Cl π σ → y1 < nn π → rRow π σ y1 y2 = some r → Cl π r) (hcrRow : ∀ {g : Nat → Nat} {π : Sh} {σ : St} {y1 : Int} {y2 : Int} {r : St}, SHs π → rRow π σ y1 y2 = some r → Mv l yX7_row (.code yX7_row cX7_row 5 none :: cWd) { frames := φ, cells := 0, slots := 0, locals := ψ } [rfv g 9, rfv g y1, .long (Int64.ofInt y2)] D (TYs k) (cW k z g π σ) (XV z mi aK aV (cW k z g π σ)) Unit (fun _ => True) (fun _ => cW k z g π r) 0 0) {π : Sh} {σ : St} {x1 : Int} {x2 : Int} {r : St} (hS : SHs π) (hm : Rw_ply N rRow π σ x1 x2 = some r) : Mv l yX7_ply (.code yX7_ply cX7_ply 12 none :: cWd) { frames := φ + 1, cells := 0, slots := 0, locals := ψ + 24 } [rfv g 9, rfv g x1, .long (Int64.ofInt x2)] D (TYs k) (cW k z g π σ) (XV z mi aK aV (cW k z g π σ)) Unit (fun _ => True) (fun _ => cW k z g π r) 0 0 := by
  intro sz
  refine v_met (cc := cX7_ply) (maxL := 12) (ret := none) (lv := [(0, rfv g 9), (1, rfv g x1), (2, .long (Int64.ofInt x2))]) (by decide) rfl (by simp [lg_sl, rfv_cat, cat_i, cat_l]) (by simp [lv_args, rfv_cat, cat_i, cat_l]) ?_
  intro p e s m below meth c ls C hE hr hlk hmn hl h
  rw [Rw_ply] at hm
  refine z_aload_n C dX7_ply_0 rfl (lv_at hl 1 rfl) ?_
  obtain ⟨g1, hm⟩ := grd_s hm
  refine cg_5_1 C h g1 cU_X4 (List.mem_cons_of_mem _ wl_X7_125) dX7_ply_1 ?_
  refine lv_iconst (v := Int32.ofInt 0) C.1 C.2.1 dX7_ply_4 (by decide) ?_
  obtain ⟨g2, hm⟩ := grd_s hm
  obtain ⟨g3, hm⟩ := grd_s hm
  refine c_qald C h (t := 6) (by decide) rfl g2 g3 dX7_ply_5 ?_
  obtain ⟨v4, e5, hm⟩ := bnd_s hm
  rw [e5]
  refine z_astore (lv' := [(4, rfv g v4), (0, rfv g 9), (1, rfv g x1), (2, .long (Int64.ofInt x2))]) C dX7_ply_6 hl (by decide) rfl (fun ls hl => ?_)
  refine z_aload_n C dX7_ply_8 rfl (lv_at hl 2 rfl) ?_
  refine cg_5_0 C h g1 cU_X4 (List.mem_cons_of_mem _ wl_X7_41) dX7_ply_9 ?_
  obtain ⟨g6, hm⟩ := grd_s hm
  refine cg_10_2 C h g6 cU_X9 (List.mem_cons_of_mem _ wl_X7_57) dX7_ply_12 ?_
  obtain ⟨v7, e8, hm⟩ := bnd_s hm
  rw [e8]
  refine lv_istore (lv' := [(5, .int (Int32.ofInt v7)), (4, rfv g v4), (0, rfv g 9), (1, rfv g x1), (2, .long (Int64.ofInt x2))]) C.1 C.2.1 dX7_ply_15 hl (by decide) (by simp [rfv_cat, cat_i, cat_l]) (fun ls hl => ?_)
  refine z_aload_n C dX7_ply_17 rfl (lv_at hl 2 rfl) ?_
  refine cg_8_0 C h (sh_9 hS) cU_X7 (List.mem_cons_of_mem _ wl_X7_12) dX7_ply_18 ?_
  refine cg_2_6 C h (sh_10 hS) cU_X1 (List.mem_cons_of_mem _ wl_X7_28) dX7_ply_21 ?_
  refine lv_istore (lv' := [(6, .int (Int32.ofInt (fl σ 46 10))), (5, .int (Int32.ofInt v7)), (4, rfv g v4), (0, rfv g 9), (1, rfv g x1), (2, .long (Int64.ofInt x2))]) C.1 C.2.1 dX7_ply_24 hl (by decide) rfl (fun ls hl => ?_)
  refine lv_lload_n C.1 C.2.1 dX7_ply_26 rfl (lv_at hl 5 rfl) ?_
  refine z_aload C dX7_ply_27 (lv_at hl 2 rfl) ?_
  obtain ⟨g9, hm⟩ := grd_s hm
  refine cg_5_4 C h g9 cU_X4 (List.mem_cons_of_mem _ wl_X7_181) dX7_ply_29 ?_
  refine z_lsub C dX7_ply_32 ?_
  obtain ⟨v10, e11, hm⟩ := bnd_s hm
  rw [e11]
  refine lv_lstore (lv' := [(7, .long (Int64.ofInt v10)), (6, .int (Int32.ofInt (fl σ 46 10))), (5, .int (Int32.ofInt v7)), (4, rfv g v4), (0, rfv g 9), (1, rfv g x1), (2, .long (Int64.ofInt x2))]) C.1 C.2.1 dX7_ply_33 hl (by decide) rfl (fun ls hl => ?_)
  exact kl_Rw_ply_35 (N := N) C hr hlk hE hS hφ hψ hmrRow hcrRow N (lv_sub hl [4, 5, 6, 3, 2, 1, 0] rfl) h hm
end Z_Rw_ply
section Z_Rw_partAt
variable {p : Program} {l : Launch} {e : Env} {s : State} {m : MethodId} {args : Array Value} {below : List Frame} {meth : Method} {c : Code} {D : va_G} {A : Nat → Prop} {k : Nat → ClassId} {N : Nat} {cd : Cond} {z mi : Nat} {aK aV : Nat → Nat} {g : Nat → Nat} {π : Sh}
set_option maxHeartbeats 8000000 in
set_option maxRecDepth 100000 in
theorem kl_Rw_partAt_53 {r : St × Int} (C : Cx p s m args c cX7_partAt RX7 (cd :: cWd) D (TYs k) 6) (hr : meth.sig.returnType = (some (.object "CycleStudio$Pattern"))) (hlk : meth.locks = false) (hE : Ev z mi aK aV A s s.heap) (hS : SHs π)   {rec11 : St → Int → Int → Int → Int → Option (St × Int)} (hrec11 : ∀ {ls : Array Slot} {H : Heap} {locs : List Loc} {σ : St} {x0 : Int} {x1 : Int} {x3 : Int} {x4 : Int}, lv_has ls 6 [(0, rfv g x0), (1, .long (Int64.ofInt x1)), (3, .int (Int32.ofInt x3)), (4, .int (Int32.ofInt x4))] → Hp D A s.heap H locs (cW k z g π σ) → rec11 σ x0 x1 x3 x4 = some r → W p l e { frames := 0, cells := 0, slots := 0, locals := 0 } s m args below meth c H locs 0 0 (MQ below (va_Qq (fun v (_ : Unit) => v = rfo g r.2) (fun _ t => PostW D (TYs k) A (cW k z g π r.1) t) A) args s 0 0 A) (F0 m 11 ls [])) {ls : Array Slot} {H : Heap} {locs : List Loc} {σ : St} {x0 : Int} {x1 : Int} {x3 : Int} {x4 : Int}  (hl : lv_has ls 6 [(0, rfv g x0), (1, .long (Int64.ofInt x1)), (3, .int (Int32.ofInt x3)), (4, .int (Int32.ofInt x4))]) (h : Hp D A s.heap H locs (cW k z g π σ)) (hm : Rw_partAt_53 N π rec11 σ x0 x1 x3 x4 = some r) : W p l e { frames := 0, cells := 0, slots := 0, locals := 0 } s m args below meth c H locs 0 0 (MQ below (va_Qq (fun v (_ : Unit) => v = rfo g r.2) (fun _ t => PostW D (TYs k) A (cW k z g π r.1) t) A) args s 0 0 A) (F0 m 53 ls []) := by
  rw [Rw_partAt_53] at hm
  refine lv_goto (tgt := 11) C.1 C.2.1 dX7_partAt_53 (by decide) ?_
  exact hrec11 (lv_sub hl [0, 1, 2, 3] rfl) h hm
set_option maxHeartbeats 8000000 in
set_option maxRecDepth 100000 in
theorem kl_Rw_partAt_11 {r : St × Int} (C : Cx p s m args c cX7_partAt RX7 (cd :: cWd) D (TYs k) 6) (hr : meth.sig.returnType = (some (.object "CycleStudio$Pattern"))) (hlk : meth.locks = false) (hE : Ev z mi aK aV A s s.heap) (hS : SHs π)    (n : Nat) : ∀ {ls : Array Slot} {H : Heap} {locs : List Loc} {σ : St} {x0 : Int} {x1 : Int} {x3 : Int} {x4 : Int}, lv_has ls 6 [(0, rfv g x0), (1, .long (Int64.ofInt x1)), (3, .int (Int32.ofInt x3)), (4, .int (Int32.ofInt x4))] → Hp D A s.heap H locs (cW k z g π σ) → Rw_partAt_11 N π n σ x0 x1 x3 x4 = some r → W p l e { frames := 0, cells := 0, slots := 0, locals := 0 } s m args below meth c H locs 0 0 (MQ below (va_Qq (fun v (_ : Unit) => v = rfo g r.2) (fun _ t => PostW D (TYs k) A (cW k z g π r.1) t) A) args s 0 0 A) (F0 m 11 ls []) := by
  induction n with
  | zero => intro ls H locs σ x0 x1 x3 x4  hl h hm; cases (show none = some r from hm)
  | succ n hrec11 =>
    intro ls H locs σ x0 x1 x3 x4  hl h hm
    rw [Rw_partAt_11] at hm
    refine lv_iload_n C.1 C.2.1 dX7_partAt_11 rfl (lv_at hl 2 rfl) ?_
    refine lv_iload C.1 C.2.1 dX7_partAt_12 (lv_at hl 3 rfl) ?_
    obtain ⟨g6, hm⟩ := grd_s hm
    obtain ⟨g7, hm⟩ := grd_s hm
    refine z_icmp_ge (tgt := 56) C dX7_partAt_14 (by decide) g6 g7 (fun c8 => ?_) (fun c8 => ?_)
    · have hm := ite_f c8 hm
      refine z_aload_n C dX7_partAt_56 rfl (lv_at hl 0 rfl) ?_
      obtain ⟨g9, hm⟩ := grd_s hm
      refine cg_5_1 C h g9 cU_X4 (List.mem_cons_of_mem _ wl_X7_125) dX7_partAt_57 ?_
      refine lv_iload_n C.1 C.2.1 dX7_partAt_60 rfl (lv_at hl 2 rfl) ?_
      obtain ⟨g10, hm⟩ := grd_s hm
      obtain ⟨g11, hm⟩ := grd_s hm
      refine c_qald C h (t := 6) (by decide) rfl g10 g11 dX7_partAt_61 ?_
      cases hm
      exact c_aretP C h hr hlk (Or.inl ⟨_, rfl⟩) dX7_partAt_62
    · have hm := ite_t c8 hm
      refine lv_iload_n C.1 C.2.1 dX7_partAt_17 rfl (lv_at hl 2 rfl) ?_
      refine lv_iload C.1 C.2.1 dX7_partAt_18 (lv_at hl 3 rfl) ?_
      refine z_iadd C dX7_partAt_20 ?_
      refine lv_iconst (v := Int32.ofInt 2) C.1 C.2.1 dX7_partAt_21 (by decide) ?_
      obtain ⟨g12, hm⟩ := grd_s hm
      refine z_idiv C dX7_partAt_22 g12 (by decide) (by decide) ?_
      obtain ⟨v13, e14, hm⟩ := bnd_s hm
      rw [e14]
      refine lv_istore (lv' := [(5, .int (Int32.ofInt v13)), (0, rfv g x0), (1, .long (Int64.ofInt x1)), (3, .int (Int32.ofInt x3)), (4, .int (Int32.ofInt x4))]) C.1 C.2.1 dX7_partAt_23 hl (by decide) rfl (fun ls hl => ?_)
      refine lv_lload_n C.1 C.2.1 dX7_partAt_25 rfl (lv_at hl 2 rfl) ?_
      refine z_aload_n C dX7_partAt_26 rfl (lv_at hl 1 rfl) ?_
      obtain ⟨g15, hm⟩ := grd_s hm
      refine cg_5_0 C h g15 cU_X4 (List.mem_cons_of_mem _ wl_X7_41) dX7_partAt_27 ?_
      obtain ⟨g16, hm⟩ := grd_s hm
      refine cg_10_13 C h g16 cU_X9 (List.mem_cons_of_mem _ wl_X7_155) dX7_partAt_30 ?_
      refine lv_iload C.1 C.2.1 dX7_partAt_33 (lv_at hl 0 rfl) ?_
      obtain ⟨g17, hm⟩ := grd_s hm
      obtain ⟨g18, hm⟩ := grd_s hm
      refine c_iald C h g17 g18 dX7_partAt_35 ?_
      obtain ⟨g19, hm⟩ := grd_s hm
      refine z_i2l C dX7_partAt_36 g19 ?_
      obtain ⟨g20, hm⟩ := grd_s hm
      obtain ⟨g21, hm⟩ := grd_s hm
      refine W.lcmp C.1 C.2.1 dX7_partAt_37 ?_
      refine z_lcmp_ge (tgt := 48) C dX7_partAt_38 (by decide) g20 g21 (fun c22 => ?_) (fun c22 => ?_)
      · have hm := ite_f c22 hm
        refine lv_iload C.1 C.2.1 dX7_partAt_48 (lv_at hl 0 rfl) ?_
        refine lv_iconst (v := Int32.ofInt 1) C.1 C.2.1 dX7_partAt_50 (by decide) ?_
        refine z_iadd C dX7_partAt_51 ?_
        obtain ⟨v23, e24, hm⟩ := bnd_s hm
        rw [e24]
        refine lv_istore_n (lv' := [(3, .int (Int32.ofInt v23)), (5, .int (Int32.ofInt v13)), (0, rfv g x0), (1, .long (Int64.ofInt x1)), (4, .int (Int32.ofInt x4))]) C.1 C.2.1 dX7_partAt_52 rfl hl (by decide) rfl (fun ls hl => ?_)
        exact kl_Rw_partAt_53 (N := N) C hr hlk hE hS hrec11 (lv_sub hl [2, 3, 0, 4] rfl) h hm
      · have hm := ite_t c22 hm
        refine lv_iload C.1 C.2.1 dX7_partAt_41 (lv_at hl 0 rfl) ?_
        refine lv_istore (lv' := [(4, .int (Int32.ofInt v13)), (5, .int (Int32.ofInt v13)), (0, rfv g x0), (1, .long (Int64.ofInt x1)), (3, .int (Int32.ofInt x3))]) C.1 C.2.1 dX7_partAt_43 hl (by decide) rfl (fun ls hl => ?_)
        refine lv_goto (tgt := 53) C.1 C.2.1 dX7_partAt_45 (by decide) ?_
        exact kl_Rw_partAt_53 (N := N) C hr hlk hE hS hrec11 (lv_sub hl [2, 3, 4, 0] rfl) h hm
set_option maxHeartbeats 8000000 in
set_option maxRecDepth 100000 in
theorem kc_Rw_partAt (l : Launch) (D : va_G) (k : Nat → ClassId) (z mi : Nat) (aK aV : Nat → Nat) (g : Nat → Nat) (N : Nat)    {π : Sh} {σ : St} {x0 : Int} {x1 : Int} {r : St × Int} (hS : SHs π) (hm : Rw_partAt N π σ x0 x1 = some r) : Mq l yX7_partAt (.code yX7_partAt cX7_partAt 6 (some (.object "CycleStudio$Pattern")) :: cWd) { frames := 0, cells := 0, slots := 0, locals := 0 } [rfv g x0, .long (Int64.ofInt x1)] D (TYs k) (cW k z g π σ) (XV z mi aK aV (cW k z g π σ)) Unit (fun v _ => v = rfo g r.2) (fun _ => cW k z g π r.1) 0 0 := by
  intro sz
  refine v_met (cc := cX7_partAt) (maxL := 6) (ret := (some (.object "CycleStudio$Pattern"))) (lv := [(0, rfv g x0), (1, .long (Int64.ofInt x1))]) (by decide) rfl (by simp [lg_sl, rfv_cat, cat_i, cat_l]) (by simp [lv_args, rfv_cat, cat_i, cat_l]) ?_
  intro p e s m below meth c ls C hE hr hlk hmn hl h
  rw [Rw_partAt] at hm
  refine lv_iconst (v := Int32.ofInt 0) C.1 C.2.1 dX7_partAt_0 (by decide) ?_
  refine lv_istore_n (lv' := [(3, .int (Int32.ofInt 0)), (0, rfv g x0), (1, .long (Int64.ofInt x1))]) C.1 C.2.1 dX7_partAt_1 rfl hl (by decide) rfl (fun ls hl => ?_)
  refine z_aload_n C dX7_partAt_2 rfl (lv_at hl 1 rfl) ?_
  obtain ⟨g1, hm⟩ := grd_s hm
  refine cg_5_1 C h g1 cU_X4 (List.mem_cons_of_mem _ wl_X7_125) dX7_partAt_3 ?_
  obtain ⟨g2, hm⟩ := grd_s hm
  obtain ⟨g3, hm⟩ := grd_s hm
  refine c_alen C h (t := 6) rfl g2 g3 dX7_partAt_6 ?_
  refine lv_iconst (v := Int32.ofInt 1) C.1 C.2.1 dX7_partAt_7 (by decide) ?_
  refine z_isub C dX7_partAt_8 ?_
  obtain ⟨v4, e5, hm⟩ := bnd_s hm
  rw [e5]
  refine lv_istore (lv' := [(4, .int (Int32.ofInt v4)), (3, .int (Int32.ofInt 0)), (0, rfv g x0), (1, .long (Int64.ofInt x1))]) C.1 C.2.1 dX7_partAt_9 hl (by decide) rfl (fun ls hl => ?_)
  exact kl_Rw_partAt_11 (N := N) C hr hlk hE hS N (lv_sub hl [2, 3, 1, 0] rfl) h hm
end Z_Rw_partAt
section Z_Rw_poly
variable {p : Program} {l : Launch} {e : Env} {s : State} {m : MethodId} {args : Array Value} {below : List Frame} {meth : Method} {c : Code} {D : va_G} {A : Nat → Prop} {k : Nat → ClassId} {N : Nat} {cd : Cond} {z mi : Nat} {aK aV : Nat → Nat} {g : Nat → Nat} {π : Sh} {φ ψ : Nat}
set_option maxHeartbeats 8000000 in
set_option maxRecDepth 100000 in
theorem kl_Rw_poly_40 {r : St} (C : Cx p s m args c cX7_poly RX7 (cd :: cWd) D (TYs k) 16) (hr : meth.sig.returnType = none) (hlk : meth.locks = false) (hE : Ev z mi aK aV A s s.heap) (hS : SHs π) {rRow : Sh → St → Int → Int → Option St} (hφ : 12 ≤ φ) (hψ : 400 ≤ ψ) (hmrRow : ∀ {π : Sh} {σ : St} {y1 : Int} {y2 : Int} {r : St}, Cl π σ → y1 < nn π → rRow π σ y1 y2 = some r → Cl π r) (hcrRow : ∀ {g : Nat → Nat} {π : Sh} {σ : St} {y1 : Int} {y2 : Int} {r : St}, SHs π → rRow π σ y1 y2 = some r → Mv l yX7_row (.code yX7_row cX7_row 5 none :: cWd) { frames := φ, cells := 0, slots := 0, locals := ψ } [rfv g 9, rfv g y1, .long (Int64.ofInt y2)] D (TYs k) (cW k z g π σ) (XV z mi aK aV (cW k z g π σ)) Unit (fun _ => True) (fun _ => cW k z g π r) 0 0)  (n : Nat) : ∀ {ls : Array Slot} {H : Heap} {locs : List Loc} {σ : St} {x1 : Int} {x2 : Int} {x4 : Int} {x6 : Int} {x8 : Int} {x10 : Int}, lv_has ls 16 [(0, rfv g 9), (1, rfv g x1), (2, .long (Int64.ofInt x2)), (4, .long (Int64.ofInt x4)), (6, .long (Int64.ofInt x6)), (8, .long (Int64.ofInt x8)), (10, .long (Int64.ofInt x10))] → Hp D A s.heap H locs (cW k z g π σ) → Rw_poly_40 N rRow π n σ x1 x2 x4 x6 x8 x10 = some r → W p l e { frames := φ + 1, cells := 0, slots := 0, locals := ψ + 24 } s m args below meth c H locs 0 0 (MQ below (va_Qv (fun (_ : Unit) => True) (fun _ t => PostW D (TYs k) A (cW k z g π r) t) A) args s 0 0 A) (F0 m 40 ls []) := by
  induction n with
  | zero => intro ls H locs σ x1 x2 x4 x6 x8 x10  hl h hm; cases (show none = some r from hm)
  | succ n hrec40 =>
    intro ls H locs σ x1 x2 x4 x6 x8 x10  hl h hm
    rw [Rw_poly_40] at hm
    refine lv_lload C.1 C.2.1 dX7_poly_40 (lv_at hl 6 rfl) ?_
    refine lv_lload C.1 C.2.1 dX7_poly_42 (lv_at hl 4 rfl) ?_
    obtain ⟨g16, hm⟩ := grd_s hm
    obtain ⟨g17, hm⟩ := grd_s hm
    refine W.lcmp C.1 C.2.1 dX7_poly_44 ?_
    refine z_lcmp_ge (tgt := 123) C dX7_poly_45 (by decide) g16 g17 (fun c18 => ?_) (fun c18 => ?_)
    · have hm := ite_f c18 hm
      cases hm
      exact c_vretP C h hr hlk dX7_poly_123
    · have hm := ite_t c18 hm
      refine lv_lload_n C.1 C.2.1 dX7_poly_48 rfl (lv_at hl 2 rfl) ?_
      refine lv_lload C.1 C.2.1 dX7_poly_49 (lv_at hl 4 rfl) ?_
      refine z_lmul C dX7_poly_51 ?_
      refine lv_lload C.1 C.2.1 dX7_poly_52 (lv_at hl 6 rfl) ?_
      refine z_ladd C dX7_poly_54 ?_
      obtain ⟨v19, e20, hm⟩ := bnd_s hm
      rw [e20]
      refine lv_lstore (lv' := [(12, .long (Int64.ofInt v19)), (0, rfv g 9), (1, rfv g x1), (2, .long (Int64.ofInt x2)), (4, .long (Int64.ofInt x4)), (6, .long (Int64.ofInt x6)), (8, .long (Int64.ofInt x8)), (10, .long (Int64.ofInt x10))]) C.1 C.2.1 dX7_poly_55 hl (by decide) rfl (fun ls hl => ?_)
      refine z_aload_n C dX7_poly_57 rfl (lv_at hl 2 rfl) ?_
      refine lv_lload C.1 C.2.1 dX7_poly_58 (lv_at hl 0 rfl) ?_
      refine lv_lload C.1 C.2.1 dX7_poly_60 (lv_at hl 4 rfl) ?_
      obtain ⟨r21, e22, hm⟩ := obd_s hm
      refine v_callSl C h (kc_M_floorMod l D k N v19 x4 r21 e22) (v_cwS 2 C.2.2.1 (gC_J9_floorMod_f86c9 _) rfl rfl rfl (C.2.2.1 _ (List.mem_cons_of_mem _ wt_J9)) (C.2.2.1 _ (List.mem_cons_of_mem _ wm_X7_88)) (C.2.2.1 _ (List.mem_cons_of_mem _ ws_J9_floorMod_f86c9)) hdS_J9_floorMod_f86c9 ⟨(by show 0 + 1 ≤ φ + 1; omega), (by show 8 + (6 + 11) + 0 ≤ ψ + 24; omega)⟩) rfl hl.1 rfl (by simp [rfv_cat, cat_i, cat_l]) dX7_poly_62 ⟨(Nat.le_of_ble_eq_true rfl), (Nat.le_of_ble_eq_true rfl)⟩ (fun H locs h => ?_)
      obtain ⟨r23, e24, hm⟩ := obd_s hm
      refine c_callSqP C hE h (kc_Rw_partAt l D k z mi aK aV g N hS e24) (v_cwS 2 C.2.2.1 (gC_X7_partAt _) rfl rfl rfl (C.2.2.1 _ (List.mem_cons_of_mem _ wt_X7)) (C.2.2.1 _ (List.mem_cons_of_mem _ wm_X7_158)) (C.2.2.1 _ (List.mem_cons_of_mem _ ws_X7_partAt)) hdS_X7_partAt ⟨(by show 0 + 1 ≤ φ + 1; omega), (by show 8 + (6 + 11) + 0 ≤ ψ + 24; omega)⟩) rfl hl.1 rfl (Nat.le_of_ble_eq_true rfl) dX7_poly_65 ⟨(Nat.le_of_ble_eq_true rfl), (Nat.le_of_ble_eq_true rfl)⟩ (fun H locs h => ?_)
      refine z_astore (lv' := [(14, rfv g r23.2), (12, .long (Int64.ofInt v19)), (0, rfv g 9), (1, rfv g x1), (2, .long (Int64.ofInt x2)), (4, .long (Int64.ofInt x4)), (6, .long (Int64.ofInt x6)), (8, .long (Int64.ofInt x8)), (10, .long (Int64.ofInt x10))]) C dX7_poly_68 hl (by decide) rfl (fun ls hl => ?_)
      refine z_aload_n C dX7_poly_70 rfl (lv_at hl 2 rfl) ?_
      refine cg_8_0 C h (sh_9 hS) cU_X7 (List.mem_cons_of_mem _ wl_X7_12) dX7_poly_71 ?_
      refine cg_2_6 C h (sh_10 hS) cU_X1 (List.mem_cons_of_mem _ wl_X7_28) dX7_poly_74 ?_
      refine lv_istore (lv' := [(15, .int (Int32.ofInt (fl r23.1 46 10))), (14, rfv g r23.2), (12, .long (Int64.ofInt v19)), (0, rfv g 9), (1, rfv g x1), (2, .long (Int64.ofInt x2)), (4, .long (Int64.ofInt x4)), (6, .long (Int64.ofInt x6)), (8, .long (Int64.ofInt x8)), (10, .long (Int64.ofInt x10))]) C.1 C.2.1 dX7_poly_77 hl (by decide) (by simp [rfv_cat, cat_i, cat_l]) (fun ls hl => ?_)
      refine z_aload_n C dX7_poly_79 rfl (lv_at hl 3 rfl) ?_
      refine z_aload C dX7_poly_80 (lv_at hl 1 rfl) ?_
      refine lv_lload C.1 C.2.1 dX7_poly_82 (lv_at hl 2 rfl) ?_
      refine lv_lload C.1 C.2.1 dX7_poly_84 (lv_at hl 6 rfl) ?_
      obtain ⟨r27, e28, hm⟩ := obd_s hm
      refine v_callSl C h (kc_M_floorDiv l D k N v19 x4 r27 e28) (v_cwS 2 C.2.2.1 (gC_J9_floorDiv_f86c9 _) rfl rfl rfl (C.2.2.1 _ (List.mem_cons_of_mem _ wt_J9)) (C.2.2.1 _ (List.mem_cons_of_mem _ wm_X7_22)) (C.2.2.1 _ (List.mem_cons_of_mem _ ws_J9_floorDiv_f86c9)) hdS_J9_floorDiv_f86c9 ⟨(by show 0 + 1 ≤ φ + 1; omega), (by show 8 + (6 + 11) + 0 ≤ ψ + 24; omega)⟩) rfl hl.1 rfl (by simp [rfv_cat, cat_i, cat_l]) dX7_poly_86 ⟨(Nat.le_of_ble_eq_true rfl), (Nat.le_of_ble_eq_true rfl)⟩ (fun H locs h => ?_)
      obtain ⟨r29, e30, hm⟩ := obd_s hm
      refine c_callVvP C hE h (sh_9 hS) rfl (by decide) (hcrRow hS e30) (cwV 2 C.2.2.1 (gS_X7_31 _) rfl rfl rfl hd_X7_row ⟨(by show φ + 1 ≤ φ + 1; omega), (by show 8 + (5 + 11) + ψ ≤ ψ + 24; omega)⟩) rfl hl.1 rfl (Nat.le_of_ble_eq_true rfl) dX7_poly_89 ⟨(Nat.le_of_ble_eq_true rfl), (Nat.le_of_ble_eq_true rfl)⟩ (fun H locs h => ?_)
      refine z_aload_n C dX7_poly_92 rfl (lv_at hl 3 rfl) ?_
      refine cg_8_0 C h (sh_9 hS) cU_X7 (List.mem_cons_of_mem _ wl_X7_12) dX7_poly_93 ?_
      refine lv_iload C.1 C.2.1 dX7_poly_96 (lv_at hl 0 rfl) ?_
      refine lv_lload C.1 C.2.1 dX7_poly_98 (lv_at hl 8 rfl) ?_
      refine z_aload C dX7_poly_100 (lv_at hl 1 rfl) ?_
      obtain ⟨g33, hm⟩ := grd_s hm
      refine cg_5_2 C h g33 cU_X4 (List.mem_cons_of_mem _ wl_X7_101) dX7_poly_102 ?_
      obtain ⟨g34, hm⟩ := grd_s hm
      obtain ⟨g35, hm⟩ := grd_s hm
      obtain ⟨g36, hm⟩ := grd_s hm
      refine z_ldiv C dX7_poly_105 g34 g35 g36 ?_
      refine lv_lload C.1 C.2.1 dX7_poly_106 (lv_at hl 9 rfl) ?_
      refine lv_lload C.1 C.2.1 dX7_poly_108 (lv_at hl 8 rfl) ?_
      refine z_lmul C dX7_poly_110 ?_
      obtain ⟨r37, e38, hm⟩ := obd_s hm
      refine c_callVvP C hE h (sh_10 hS) rfl (by decide) (kc_Es_scale l D k z mi aK aV g N hS e38) (cwV 3 C.2.2.1 (gS_X7_162 _) rfl rfl rfl hd_X1_scale ⟨(by show 0 + 1 ≤ φ + 1; omega), (by show 8 + (7 + 11) + 0 ≤ ψ + 24; omega)⟩) rfl hl.1 rfl (Nat.le_of_ble_eq_true rfl) dX7_poly_111 ⟨(Nat.le_of_ble_eq_true rfl), (Nat.le_of_ble_eq_true rfl)⟩ (fun H locs h => ?_)
      refine lv_lload C.1 C.2.1 dX7_poly_114 (lv_at hl 9 rfl) ?_
      refine lv_lconst (v := Int64.ofInt 1) C.1 C.2.1 dX7_poly_116 (by decide) ?_
      refine z_ladd C dX7_poly_117 ?_
      obtain ⟨v41, e42, hm⟩ := bnd_s hm
      rw [e42]
      refine lv_lstore (lv' := [(10, .long (Int64.ofInt v41)), (15, .int (Int32.ofInt (fl r23.1 46 10))), (14, rfv g r23.2), (12, .long (Int64.ofInt v19)), (0, rfv g 9), (1, rfv g x1), (2, .long (Int64.ofInt x2)), (4, .long (Int64.ofInt x4)), (6, .long (Int64.ofInt x6)), (8, .long (Int64.ofInt x8))]) C.1 C.2.1 dX7_poly_118 hl (by decide) rfl (fun ls hl => ?_)
      refine lv_goto (tgt := 40) C.1 C.2.1 dX7_poly_120 (by decide) ?_
      exact hrec40 (lv_sub hl [4, 5, 6, 7, 8, 9, 0] rfl) h hm
set_option maxHeartbeats 8000000 in
set_option maxRecDepth 100000 in
theorem kc_Rw_poly (l : Launch) (D : va_G) (k : Nat → ClassId) (z mi : Nat) (aK aV : Nat → Nat) (g : Nat → Nat) (N : Nat) {φ ψ : Nat} {rRow : Sh → St → Int → Int → Option St} (hφ : 12 ≤ φ) (hψ : 400 ≤ ψ) (hmrRow : ∀ {π : Sh} {σ : St} {y1 : Int} {y2 : Int} {r : St}, Cl π σ → y1 < nn π → rRow π σ y1 y2 = some r → Cl π r) (hcrRow : ∀ {g : Nat → Nat} {π : Sh} {σ : St} {y1 : Int} {y2 : Int} {r : St}, SHs π → rRow π σ y1 y2 = some r → Mv l yX7_row (.code yX7_row cX7_row 5 none :: cWd) { frames := φ, cells := 0, slots := 0, locals := ψ } [rfv g 9, rfv g y1, .long (Int64.ofInt y2)] D (TYs k) (cW k z g π σ) (XV z mi aK aV (cW k z g π σ)) Unit (fun _ => True) (fun _ => cW k z g π r) 0 0) {π : Sh} {σ : St} {x1 : Int} {x2 : Int} {r : St} (hS : SHs π) (hm : Rw_poly N rRow π σ x1 x2 = some r) : Mv l yX7_poly (.code yX7_poly cX7_poly 16 none :: cWd) { frames := φ + 1, cells := 0, slots := 0, locals := ψ + 24 } [rfv g 9, rfv g x1, .long (Int64.ofInt x2)] D (TYs k) (cW k z g π σ) (XV z mi aK aV (cW k z g π σ)) Unit (fun _ => True) (fun _ => cW k z g π r) 0 0 := by
  intro sz
  refine v_met (cc := cX7_poly) (maxL := 16) (ret := none) (lv := [(0, rfv g 9), (1, rfv g x1), (2, .long (Int64.ofInt x2))]) (by decide) rfl (by simp [lg_sl, rfv_cat, cat_i, cat_l]) (by simp [lv_args, rfv_cat, cat_i, cat_l]) ?_
  intro p e s m below meth c ls C hE hr hlk hmn hl h
  rw [Rw_poly] at hm
  refine lv_iconst (v := Int32.ofInt 1) C.1 C.2.1 dX7_poly_0 (by decide) ?_
  refine z_aload_n C dX7_poly_1 rfl (lv_at hl 1 rfl) ?_
  obtain ⟨g1, hm⟩ := grd_s hm
  refine cg_5_0 C h g1 cU_X4 (List.mem_cons_of_mem _ wl_X7_41) dX7_poly_2 ?_
  obtain ⟨g2, hm⟩ := grd_s hm
  refine cg_10_2 C h g2 cU_X9 (List.mem_cons_of_mem _ wl_X7_57) dX7_poly_5 ?_
  obtain ⟨g3, hm⟩ := grd_s hm
  refine v_max C hl.1 dX7_poly_8 (by decide) g3 (List.mem_cons_of_mem _ wx_X7_133) (List.mem_cons_of_mem _ wxs_max) (List.mem_cons_of_mem _ wxc_max) (List.mem_cons_of_mem _ wt_Math) (by show 1 ≤ φ + 1; omega) (by simp [rfv_cat, cat_i, cat_l] <;> omega) (Nat.le_of_ble_eq_true rfl) (Nat.le_of_ble_eq_true rfl) ?_
  obtain ⟨g4, hm⟩ := grd_s hm
  refine z_i2l C dX7_poly_11 g4 ?_
  obtain ⟨v5, e6, hm⟩ := bnd_s hm
  rw [e6]
  refine lv_lstore (lv' := [(4, .long (Int64.ofInt v5)), (0, rfv g 9), (1, rfv g x1), (2, .long (Int64.ofInt x2))]) C.1 C.2.1 dX7_poly_12 hl (by decide) rfl (fun ls hl => ?_)
  refine lv_iconst (v := Int32.ofInt 1) C.1 C.2.1 dX7_poly_14 (by decide) ?_
  refine z_aload_n C dX7_poly_15 rfl (lv_at hl 2 rfl) ?_
  refine cg_5_0 C h g1 cU_X4 (List.mem_cons_of_mem _ wl_X7_41) dX7_poly_16 ?_
  refine cg_10_3 C h g2 cU_X9 (List.mem_cons_of_mem _ wl_X7_78) dX7_poly_19 ?_
  obtain ⟨g7, hm⟩ := grd_s hm
  refine v_max C hl.1 dX7_poly_22 (by decide) g7 (List.mem_cons_of_mem _ wx_X7_133) (List.mem_cons_of_mem _ wxs_max) (List.mem_cons_of_mem _ wxc_max) (List.mem_cons_of_mem _ wt_Math) (by show 1 ≤ φ + 1; omega) (by simp [rfv_cat, cat_i, cat_l] <;> omega) (Nat.le_of_ble_eq_true rfl) (Nat.le_of_ble_eq_true rfl) ?_
  obtain ⟨g8, hm⟩ := grd_s hm
  refine z_i2l C dX7_poly_25 g8 ?_
  obtain ⟨v9, e10, hm⟩ := bnd_s hm
  rw [e10]
  refine lv_lstore (lv' := [(6, .long (Int64.ofInt v9)), (4, .long (Int64.ofInt v5)), (0, rfv g 9), (1, rfv g x1), (2, .long (Int64.ofInt x2))]) C.1 C.2.1 dX7_poly_26 hl (by decide) rfl (fun ls hl => ?_)
  refine z_aload_n C dX7_poly_28 rfl (lv_at hl 3 rfl) ?_
  refine cg_5_2 C h g1 cU_X4 (List.mem_cons_of_mem _ wl_X7_101) dX7_poly_29 ?_
  refine lv_lload C.1 C.2.1 dX7_poly_32 (lv_at hl 0 rfl) ?_
  obtain ⟨g11, hm⟩ := grd_s hm
  obtain ⟨g12, hm⟩ := grd_s hm
  obtain ⟨g13, hm⟩ := grd_s hm
  refine z_ldiv C dX7_poly_34 g11 g12 g13 ?_
  obtain ⟨v14, e15, hm⟩ := bnd_s hm
  rw [e15]
  refine lv_lstore (lv' := [(8, .long (Int64.ofInt v14)), (6, .long (Int64.ofInt v9)), (4, .long (Int64.ofInt v5)), (0, rfv g 9), (1, rfv g x1), (2, .long (Int64.ofInt x2))]) C.1 C.2.1 dX7_poly_35 hl (by decide) rfl (fun ls hl => ?_)
  refine lv_lconst (v := Int64.ofInt 0) C.1 C.2.1 dX7_poly_37 (by decide) ?_
  refine lv_lstore (lv' := [(10, .long (Int64.ofInt 0)), (8, .long (Int64.ofInt v14)), (6, .long (Int64.ofInt v9)), (4, .long (Int64.ofInt v5)), (0, rfv g 9), (1, rfv g x1), (2, .long (Int64.ofInt x2))]) C.1 C.2.1 dX7_poly_38 hl (by decide) rfl (fun ls hl => ?_)
  exact kl_Rw_poly_40 (N := N) C hr hlk hE hS hφ hψ hmrRow hcrRow N (lv_sub hl [4, 5, 6, 3, 2, 1, 0] rfl) h hm
end Z_Rw_poly
section Z_Rw_reverse
variable {p : Program} {l : Launch} {e : Env} {s : State} {m : MethodId} {args : Array Value} {below : List Frame} {meth : Method} {c : Code} {D : va_G} {A : Nat → Prop} {k : Nat → ClassId} {N : Nat} {cd : Cond} {z mi : Nat} {aK aV : Nat → Nat} {g : Nat → Nat} {π : Sh} {φ ψ : Nat}
set_option maxHeartbeats 8000000 in
set_option maxRecDepth 100000 in
theorem kl_Rw_reverse_24 {r : St} (C : Cx p s m args c cX7_reverse RX7 (cd :: cWd) D (TYs k) 10) (hr : meth.sig.returnType = none) (hlk : meth.locks = false) (hE : Ev z mi aK aV A s s.heap) (hS : SHs π) {rRow : Sh → St → Int → Int → Option St} (hφ : 12 ≤ φ) (hψ : 400 ≤ ψ) (hmrRow : ∀ {π : Sh} {σ : St} {y1 : Int} {y2 : Int} {r : St}, Cl π σ → y1 < nn π → rRow π σ y1 y2 = some r → Cl π r) (hcrRow : ∀ {g : Nat → Nat} {π : Sh} {σ : St} {y1 : Int} {y2 : Int} {r : St}, SHs π → rRow π σ y1 y2 = some r → Mv l yX7_row (.code yX7_row cX7_row 5 none :: cWd) { frames := φ, cells := 0, slots := 0, locals := ψ } [rfv g 9, rfv g y1, .long (Int64.ofInt y2)] D (TYs k) (cW k z g π σ) (XV z mi aK aV (cW k z g π σ)) Unit (fun _ => True) (fun _ => cW k z g π r) 0 0)  (n : Nat) : ∀ {ls : Array Slot} {H : Heap} {locs : List Loc} {σ : St} {x1 : Int} {x4 : Int} {x5 : Int}, lv_has ls 10 [(0, rfv g 9), (1, rfv g x1), (4, .int (Int32.ofInt x4)), (5, .int (Int32.ofInt x5))] → Hp D A s.heap H locs (cW k z g π σ) → Rw_reverse_24 N rRow π n σ x1 x4 x5 = some r → W p l e { frames := φ + 1, cells := 0, slots := 0, locals := ψ + 24 } s m args below meth c H locs 0 0 (MQ below (va_Qv (fun (_ : Unit) => True) (fun _ t => PostW D (TYs k) A (cW k z g π r) t) A) args s 0 0 A) (F0 m 24 ls []) := by
  induction n with
  | zero => intro ls H locs σ x1 x4 x5  hl h hm; cases (show none = some r from hm)
  | succ n hrec24 =>
    intro ls H locs σ x1 x4 x5  hl h hm
    rw [Rw_reverse_24] at hm
    refine lv_iload C.1 C.2.1 dX7_reverse_24 (lv_at hl 3 rfl) ?_
    refine z_aload_n C dX7_reverse_26 rfl (lv_at hl 0 rfl) ?_
    refine cg_8_0 C h (sh_9 hS) cU_X7 (List.mem_cons_of_mem _ wl_X7_12) dX7_reverse_27 ?_
    refine cg_2_6 C h (sh_10 hS) cU_X1 (List.mem_cons_of_mem _ wl_X7_28) dX7_reverse_30 ?_
    obtain ⟨g8, hm⟩ := grd_s hm
    obtain ⟨g9, hm⟩ := grd_s hm
    refine z_icmp_ge (tgt := 108) C dX7_reverse_33 (by decide) g8 g9 (fun c10 => ?_) (fun c10 => ?_)
    · have hm := ite_f c10 hm
      refine z_aload_n C dX7_reverse_108 rfl (lv_at hl 0 rfl) ?_
      refine cg_8_0 C h (sh_9 hS) cU_X7 (List.mem_cons_of_mem _ wl_X7_12) dX7_reverse_109 ?_
      refine lv_iload C.1 C.2.1 dX7_reverse_112 (lv_at hl 2 rfl) ?_
      obtain ⟨r11, e12, hm⟩ := obd_s hm
      refine c_callVvP C hE h (sh_10 hS) rfl (by decide) (kc_Es_sort l D k z mi aK aV g N hS e12) (cwV 1 C.2.2.1 (gS_X7_168 _) rfl rfl rfl hd_X1_sort ⟨(by show 3 + 1 ≤ φ + 1; omega), (by show 8 + (5 + 11) + 88 ≤ ψ + 24; omega)⟩) rfl hl.1 rfl (Nat.le_of_ble_eq_true rfl) dX7_reverse_114 ⟨(Nat.le_of_ble_eq_true rfl), (Nat.le_of_ble_eq_true rfl)⟩ (fun H locs h => ?_)
      cases hm
      exact c_vretP C h hr hlk dX7_reverse_117
    · have hm := ite_t c10 hm
      refine z_aload_n C dX7_reverse_36 rfl (lv_at hl 0 rfl) ?_
      refine cg_8_0 C h (sh_9 hS) cU_X7 (List.mem_cons_of_mem _ wl_X7_12) dX7_reverse_37 ?_
      refine cg_2_0 C h (sh_10 hS) cU_X1 (List.mem_cons_of_mem _ wl_X7_148) dX7_reverse_40 ?_
      refine lv_iload C.1 C.2.1 dX7_reverse_43 (lv_at hl 3 rfl) ?_
      obtain ⟨g15, hm⟩ := grd_s hm
      refine c_lald C h (sh_11 hS) (ina_inb (n := 6000) (sl_11 hS) (Nat.le_of_ble_eq_true rfl) g15) dX7_reverse_45 ?_
      obtain ⟨v16, e17, hm⟩ := bnd_s hm
      rw [e17]
      refine lv_lstore (lv' := [(6, .long (Int64.ofInt v16)), (0, rfv g 9), (1, rfv g x1), (4, .int (Int32.ofInt x4)), (5, .int (Int32.ofInt x5))]) C.1 C.2.1 dX7_reverse_46 hl (by decide) rfl (fun ls hl => ?_)
      refine z_aload_n C dX7_reverse_48 rfl (lv_at hl 2 rfl) ?_
      obtain ⟨g18, hm⟩ := grd_s hm
      refine cg_5_2 C h g18 cU_X4 (List.mem_cons_of_mem _ wl_X7_101) dX7_reverse_49 ?_
      refine lv_lload C.1 C.2.1 dX7_reverse_52 (lv_at hl 0 rfl) ?_
      refine z_aload_n C dX7_reverse_54 rfl (lv_at hl 1 rfl) ?_
      refine cg_8_0 C h (sh_9 hS) cU_X7 (List.mem_cons_of_mem _ wl_X7_12) dX7_reverse_55 ?_
      refine cg_2_1 C h (sh_10 hS) cU_X1 (List.mem_cons_of_mem _ wl_X7_152) dX7_reverse_58 ?_
      refine lv_iload C.1 C.2.1 dX7_reverse_61 (lv_at hl 4 rfl) ?_
      refine c_lald C h (sh_12 hS) (ina_inb (n := 6000) (sl_12 hS) (Nat.le_of_ble_eq_true rfl) g15) dX7_reverse_63 ?_
      refine z_ladd C dX7_reverse_64 ?_
      obtain ⟨g19, hm⟩ := grd_s hm
      obtain ⟨g20, hm⟩ := grd_s hm
      refine v_min_l C hl.1 dX7_reverse_65 g19 g20 (List.mem_cons_of_mem _ wx_X7_178) (List.mem_cons_of_mem _ wxs_min_long) (List.mem_cons_of_mem _ wxc_min_long) (List.mem_cons_of_mem _ wt_Math) (by show 1 ≤ φ + 1; omega) (by simp [rfv_cat, cat_i, cat_l] <;> omega) (Nat.le_of_ble_eq_true rfl) (Nat.le_of_ble_eq_true rfl) ?_
      obtain ⟨v21, e22, hm⟩ := bnd_s hm
      rw [e22]
      refine lv_lstore (lv' := [(8, .long (Int64.ofInt v21)), (6, .long (Int64.ofInt v16)), (0, rfv g 9), (1, rfv g x1), (4, .int (Int32.ofInt x4)), (5, .int (Int32.ofInt x5))]) C.1 C.2.1 dX7_reverse_68 hl (by decide) rfl (fun ls hl => ?_)
      refine z_aload_n C dX7_reverse_70 rfl (lv_at hl 2 rfl) ?_
      refine cg_8_0 C h (sh_9 hS) cU_X7 (List.mem_cons_of_mem _ wl_X7_12) dX7_reverse_71 ?_
      refine cg_2_0 C h (sh_10 hS) cU_X1 (List.mem_cons_of_mem _ wl_X7_148) dX7_reverse_74 ?_
      refine lv_iload C.1 C.2.1 dX7_reverse_77 (lv_at hl 5 rfl) ?_
      refine z_aload_n C dX7_reverse_79 rfl (lv_at hl 3 rfl) ?_
      refine cg_5_2 C h g18 cU_X4 (List.mem_cons_of_mem _ wl_X7_101) dX7_reverse_80 ?_
      refine lv_lload C.1 C.2.1 dX7_reverse_83 (lv_at hl 0 rfl) ?_
      refine z_lsub C dX7_reverse_85 ?_
      refine c_last C h (sh_11 hS) (ina_inb (n := 6000) (sl_11 hS) (Nat.le_of_ble_eq_true rfl) g15) dX7_reverse_86 (fun H locs h => ?_)
      refine z_aload_n C dX7_reverse_87 rfl (lv_at hl 2 rfl) ?_
      refine cg_8_0 C h (sh_9 hS) cU_X7 (List.mem_cons_of_mem _ wl_X7_12) dX7_reverse_88 ?_
      refine cg_2_1 C h (sh_10 hS) cU_X1 (List.mem_cons_of_mem _ wl_X7_152) dX7_reverse_91 ?_
      refine lv_iload C.1 C.2.1 dX7_reverse_94 (lv_at hl 5 rfl) ?_
      refine lv_lload C.1 C.2.1 dX7_reverse_96 (lv_at hl 0 rfl) ?_
      refine lv_lload C.1 C.2.1 dX7_reverse_98 (lv_at hl 1 rfl) ?_
      refine z_lsub C dX7_reverse_100 ?_
      refine c_last C h (sh_12 hS) (ina_inb (n := 6000) (sl_12 hS) (Nat.le_of_ble_eq_true rfl) g15) dX7_reverse_101 (fun H locs h => ?_)
      refine lv_iinc (v := Int32.ofInt (x5 + 1)) (lv' := [(5, .int (Int32.ofInt (x5 + 1))), (8, .long (Int64.ofInt v21)), (6, .long (Int64.ofInt v16)), (0, rfv g 9), (1, rfv g x1), (4, .int (Int32.ofInt x4))]) C.1 C.2.1 dX7_reverse_102 hl (k := 5) rfl (c32_add _ _) (by decide) rfl (fun ls hl => ?_)
      refine lv_goto (tgt := 24) C.1 C.2.1 dX7_reverse_105 (by decide) ?_
      exact hrec24 (lv_sub hl [3, 4, 5, 0] rfl) h hm
set_option maxHeartbeats 8000000 in
set_option maxRecDepth 100000 in
theorem kc_Rw_reverse (l : Launch) (D : va_G) (k : Nat → ClassId) (z mi : Nat) (aK aV : Nat → Nat) (g : Nat → Nat) (N : Nat) {φ ψ : Nat} {rRow : Sh → St → Int → Int → Option St} (hφ : 12 ≤ φ) (hψ : 400 ≤ ψ) (hmrRow : ∀ {π : Sh} {σ : St} {y1 : Int} {y2 : Int} {r : St}, Cl π σ → y1 < nn π → rRow π σ y1 y2 = some r → Cl π r) (hcrRow : ∀ {g : Nat → Nat} {π : Sh} {σ : St} {y1 : Int} {y2 : Int} {r : St}, SHs π → rRow π σ y1 y2 = some r → Mv l yX7_row (.code yX7_row cX7_row 5 none :: cWd) { frames := φ, cells := 0, slots := 0, locals := ψ } [rfv g 9, rfv g y1, .long (Int64.ofInt y2)] D (TYs k) (cW k z g π σ) (XV z mi aK aV (cW k z g π σ)) Unit (fun _ => True) (fun _ => cW k z g π r) 0 0) {π : Sh} {σ : St} {x1 : Int} {x2 : Int} {r : St} (hS : SHs π) (hm : Rw_reverse N rRow π σ x1 x2 = some r) : Mv l yX7_reverse (.code yX7_reverse cX7_reverse 10 none :: cWd) { frames := φ + 1, cells := 0, slots := 0, locals := ψ + 24 } [rfv g 9, rfv g x1, .long (Int64.ofInt x2)] D (TYs k) (cW k z g π σ) (XV z mi aK aV (cW k z g π σ)) Unit (fun _ => True) (fun _ => cW k z g π r) 0 0 := by
  intro sz
  refine v_met (cc := cX7_reverse) (maxL := 10) (ret := none) (lv := [(0, rfv g 9), (1, rfv g x1), (2, .long (Int64.ofInt x2))]) (by decide) rfl (by simp [lg_sl, rfv_cat, cat_i, cat_l]) (by simp [lv_args, rfv_cat, cat_i, cat_l]) ?_
  intro p e s m below meth c ls C hE hr hlk hmn hl h
  rw [Rw_reverse] at hm
  refine z_aload_n C dX7_reverse_0 rfl (lv_at hl 0 rfl) ?_
  refine cg_8_0 C h (sh_9 hS) cU_X7 (List.mem_cons_of_mem _ wl_X7_12) dX7_reverse_1 ?_
  refine cg_2_6 C h (sh_10 hS) cU_X1 (List.mem_cons_of_mem _ wl_X7_28) dX7_reverse_4 ?_
  refine lv_istore (lv' := [(4, .int (Int32.ofInt (fl σ 46 10))), (0, rfv g 9), (1, rfv g x1), (2, .long (Int64.ofInt x2))]) C.1 C.2.1 dX7_reverse_7 hl (by decide) rfl (fun ls hl => ?_)
  refine z_aload_n C dX7_reverse_9 rfl (lv_at hl 1 rfl) ?_
  refine z_aload_n C dX7_reverse_10 rfl (lv_at hl 2 rfl) ?_
  obtain ⟨g1, hm⟩ := grd_s hm
  refine cg_5_1 C h g1 cU_X4 (List.mem_cons_of_mem _ wl_X7_125) dX7_reverse_11 ?_
  refine lv_iconst (v := Int32.ofInt 0) C.1 C.2.1 dX7_reverse_14 (by decide) ?_
  obtain ⟨g2, hm⟩ := grd_s hm
  obtain ⟨g3, hm⟩ := grd_s hm
  refine c_qald C h (t := 6) (by decide) rfl g2 g3 dX7_reverse_15 ?_
  refine lv_lload_n C.1 C.2.1 dX7_reverse_16 rfl (lv_at hl 3 rfl) ?_
  obtain ⟨r4, e5, hm⟩ := obd_s hm
  refine c_callVvP C hE h (sh_9 hS) rfl (by decide) (hcrRow hS e5) (cwV 2 C.2.2.1 (gS_X7_31 _) rfl rfl rfl hd_X7_row ⟨(by show φ + 1 ≤ φ + 1; omega), (by show 8 + (5 + 11) + ψ ≤ ψ + 24; omega)⟩) rfl hl.1 rfl (Nat.le_of_ble_eq_true rfl) dX7_reverse_17 ⟨(Nat.le_of_ble_eq_true rfl), (Nat.le_of_ble_eq_true rfl)⟩ (fun H locs h => ?_)
  refine lv_iload C.1 C.2.1 dX7_reverse_20 (lv_at hl 0 rfl) ?_
  refine lv_istore (lv' := [(5, .int (Int32.ofInt (fl σ 46 10))), (4, .int (Int32.ofInt (fl σ 46 10))), (0, rfv g 9), (1, rfv g x1), (2, .long (Int64.ofInt x2))]) C.1 C.2.1 dX7_reverse_22 hl (by decide) rfl (fun ls hl => ?_)
  exact kl_Rw_reverse_24 (N := N) C hr hlk hE hS hφ hψ hmrRow hcrRow N (lv_sub hl [2, 3, 1, 0] rfl) h hm
end Z_Rw_reverse
section Z_Rw_rotate
variable {p : Program} {l : Launch} {e : Env} {s : State} {m : MethodId} {args : Array Value} {below : List Frame} {meth : Method} {c : Code} {D : va_G} {A : Nat → Prop} {k : Nat → ClassId} {N : Nat} {cd : Cond} {z mi : Nat} {aK aV : Nat → Nat} {g : Nat → Nat} {π : Sh} {φ ψ : Nat}
set_option maxHeartbeats 8000000 in
set_option maxRecDepth 100000 in
theorem kc_Rw_rotate (l : Launch) (D : va_G) (k : Nat → ClassId) (z mi : Nat) (aK aV : Nat → Nat) (g : Nat → Nat) (N : Nat) {φ ψ : Nat} {rRow : Sh → St → Int → Int → Option St} (hφ : 12 ≤ φ) (hψ : 400 ≤ ψ) (hmrRow : ∀ {π : Sh} {σ : St} {y1 : Int} {y2 : Int} {r : St}, Cl π σ → y1 < nn π → rRow π σ y1 y2 = some r → Cl π r) (hcrRow : ∀ {g : Nat → Nat} {π : Sh} {σ : St} {y1 : Int} {y2 : Int} {r : St}, SHs π → rRow π σ y1 y2 = some r → Mv l yX7_row (.code yX7_row cX7_row 5 none :: cWd) { frames := φ, cells := 0, slots := 0, locals := ψ } [rfv g 9, rfv g y1, .long (Int64.ofInt y2)] D (TYs k) (cW k z g π σ) (XV z mi aK aV (cW k z g π σ)) Unit (fun _ => True) (fun _ => cW k z g π r) 0 0) {π : Sh} {σ : St} {x1 : Int} {x2 : Int} {r : St} (hS : SHs π) (hm : Rw_rotate N rRow π σ x1 x2 = some r) : Mv l yX7_rotate (.code yX7_rotate cX7_rotate 5 none :: cWd) { frames := φ + 1, cells := 0, slots := 0, locals := ψ + 24 } [rfv g 9, rfv g x1, .long (Int64.ofInt x2)] D (TYs k) (cW k z g π σ) (XV z mi aK aV (cW k z g π σ)) Unit (fun _ => True) (fun _ => cW k z g π r) 0 0 := by
  intro sz
  refine v_met (cc := cX7_rotate) (maxL := 5) (ret := none) (lv := [(0, rfv g 9), (1, rfv g x1), (2, .long (Int64.ofInt x2))]) (by decide) rfl (by simp [lg_sl, rfv_cat, cat_i, cat_l]) (by simp [lv_args, rfv_cat, cat_i, cat_l]) ?_
  intro p e s m below meth c ls C hE hr hlk hmn hl h
  rw [Rw_rotate] at hm
  refine z_aload_n C dX7_rotate_0 rfl (lv_at hl 0 rfl) ?_
  refine cg_8_0 C h (sh_9 hS) cU_X7 (List.mem_cons_of_mem _ wl_X7_12) dX7_rotate_1 ?_
  refine cg_2_6 C h (sh_10 hS) cU_X1 (List.mem_cons_of_mem _ wl_X7_28) dX7_rotate_4 ?_
  refine lv_istore (lv' := [(4, .int (Int32.ofInt (fl σ 46 10))), (0, rfv g 9), (1, rfv g x1), (2, .long (Int64.ofInt x2))]) C.1 C.2.1 dX7_rotate_7 hl (by decide) rfl (fun ls hl => ?_)
  refine z_aload_n C dX7_rotate_9 rfl (lv_at hl 1 rfl) ?_
  refine z_aload_n C dX7_rotate_10 rfl (lv_at hl 2 rfl) ?_
  obtain ⟨g1, hm⟩ := grd_s hm
  refine cg_5_1 C h g1 cU_X4 (List.mem_cons_of_mem _ wl_X7_125) dX7_rotate_11 ?_
  refine lv_iconst (v := Int32.ofInt 0) C.1 C.2.1 dX7_rotate_14 (by decide) ?_
  obtain ⟨g2, hm⟩ := grd_s hm
  obtain ⟨g3, hm⟩ := grd_s hm
  refine c_qald C h (t := 6) (by decide) rfl g2 g3 dX7_rotate_15 ?_
  refine lv_lload_n C.1 C.2.1 dX7_rotate_16 rfl (lv_at hl 3 rfl) ?_
  obtain ⟨r4, e5, hm⟩ := obd_s hm
  refine c_callVvP C hE h (sh_9 hS) rfl (by decide) (hcrRow hS e5) (cwV 2 C.2.2.1 (gS_X7_31 _) rfl rfl rfl hd_X7_row ⟨(by show φ + 1 ≤ φ + 1; omega), (by show 8 + (5 + 11) + ψ ≤ ψ + 24; omega)⟩) rfl hl.1 rfl (Nat.le_of_ble_eq_true rfl) dX7_rotate_17 ⟨(Nat.le_of_ble_eq_true rfl), (Nat.le_of_ble_eq_true rfl)⟩ (fun H locs h => ?_)
  refine z_aload_n C dX7_rotate_20 rfl (lv_at hl 1 rfl) ?_
  refine cg_8_0 C h (sh_9 hS) cU_X7 (List.mem_cons_of_mem _ wl_X7_12) dX7_rotate_21 ?_
  refine lv_iload C.1 C.2.1 dX7_rotate_24 (lv_at hl 0 rfl) ?_
  refine z_aload_n C dX7_rotate_26 rfl (lv_at hl 2 rfl) ?_
  refine cg_5_0 C h g1 cU_X4 (List.mem_cons_of_mem _ wl_X7_41) dX7_rotate_27 ?_
  obtain ⟨g8, hm⟩ := grd_s hm
  refine cg_10_2 C h g8 cU_X9 (List.mem_cons_of_mem _ wl_X7_57) dX7_rotate_30 ?_
  obtain ⟨r9, e10, hm⟩ := obd_s hm
  refine c_callVvP C hE h (sh_10 hS) rfl (by decide) (kc_Es_rotateValues l D k z mi aK aV g N hS e10) (cwV 2 C.2.2.1 (gS_X7_200 _) rfl rfl rfl hd_X1_rotateValues ⟨(by show 1 + 1 ≤ φ + 1; omega), (by show 8 + (5 + 11) + 23 ≤ ψ + 24; omega)⟩) rfl hl.1 rfl (Nat.le_of_ble_eq_true rfl) dX7_rotate_33 ⟨(Nat.le_of_ble_eq_true rfl), (Nat.le_of_ble_eq_true rfl)⟩ (fun H locs h => ?_)
  cases hm
  exact c_vretP C h hr hlk dX7_rotate_36
end Z_Rw_rotate
section Z_Rw_sequence
variable {p : Program} {l : Launch} {e : Env} {s : State} {m : MethodId} {args : Array Value} {below : List Frame} {meth : Method} {c : Code} {D : va_G} {A : Nat → Prop} {k : Nat → ClassId} {N : Nat} {cd : Cond} {z mi : Nat} {aK aV : Nat → Nat} {g : Nat → Nat} {π : Sh} {φ ψ : Nat}
set_option maxHeartbeats 8000000 in
set_option maxRecDepth 100000 in
theorem kl_Rw_sequence_155 {r : St} (C : Cx p s m args c cX7_sequence RX7 (cd :: cWd) D (TYs k) 18) (hr : meth.sig.returnType = none) (hlk : meth.locks = false) (hE : Ev z mi aK aV A s s.heap) (hS : SHs π) {rRow : Sh → St → Int → Int → Option St} (hφ : 12 ≤ φ) (hψ : 400 ≤ ψ) (hmrRow : ∀ {π : Sh} {σ : St} {y1 : Int} {y2 : Int} {r : St}, Cl π σ → y1 < nn π → rRow π σ y1 y2 = some r → Cl π r) (hcrRow : ∀ {g : Nat → Nat} {π : Sh} {σ : St} {y1 : Int} {y2 : Int} {r : St}, SHs π → rRow π σ y1 y2 = some r → Mv l yX7_row (.code yX7_row cX7_row 5 none :: cWd) { frames := φ, cells := 0, slots := 0, locals := ψ } [rfv g 9, rfv g y1, .long (Int64.ofInt y2)] D (TYs k) (cW k z g π σ) (XV z mi aK aV (cW k z g π σ)) Unit (fun _ => True) (fun _ => cW k z g π r) 0 0) {rec29 : St → Int → Int → Int → Int → Int → Int → Option St} (hrec29 : ∀ {ls : Array Slot} {H : Heap} {locs : List Loc} {σ : St} {x1 : Int} {x2 : Int} {x4 : Int} {x5 : Int} {x7 : Int} {x9 : Int}, lv_has ls 18 [(0, rfv g 9), (1, rfv g x1), (2, .long (Int64.ofInt x2)), (4, rfv g x4), (5, .long (Int64.ofInt x5)), (7, .long (Int64.ofInt x7)), (9, .int (Int32.ofInt x9))] → Hp D A s.heap H locs (cW k z g π σ) → rec29 σ x1 x2 x4 x5 x7 x9 = some r → W p l e { frames := φ + 1, cells := 0, slots := 0, locals := ψ + 24 } s m args below meth c H locs 0 0 (MQ below (va_Qv (fun (_ : Unit) => True) (fun _ t => PostW D (TYs k) A (cW k z g π r) t) A) args s 0 0 A) (F0 m 29 ls [])) (n : Nat) : ∀ {ls : Array Slot} {H : Heap} {locs : List Loc} {σ : St} {x1 : Int} {x2 : Int} {x4 : Int} {x5 : Int} {x7 : Int} {x9 : Int} {x11 : Int} {x13 : Int} {x16 : Int} {x17 : Int}, lv_has ls 18 [(0, rfv g 9), (1, rfv g x1), (2, .long (Int64.ofInt x2)), (4, rfv g x4), (5, .long (Int64.ofInt x5)), (7, .long (Int64.ofInt x7)), (9, .int (Int32.ofInt x9)), (11, .long (Int64.ofInt x11)), (13, .long (Int64.ofInt x13)), (16, .int (Int32.ofInt x16)), (17, .int (Int32.ofInt x17))] → Hp D A s.heap H locs (cW k z g π σ) → Rw_sequence_155 N rRow π rec29 n σ x1 x2 x4 x5 x7 x9 x11 x13 x16 x17 = some r → W p l e { frames := φ + 1, cells := 0, slots := 0, locals := ψ + 24 } s m args below meth c H locs 0 0 (MQ below (va_Qv (fun (_ : Unit) => True) (fun _ t => PostW D (TYs k) A (cW k z g π r) t) A) args s 0 0 A) (F0 m 155 ls []) := by
  induction n with
  | zero => intro ls H locs σ x1 x2 x4 x5 x7 x9 x11 x13 x16 x17  hl h hm; cases (show none = some r from hm)
  | succ n hrec155 =>
    intro ls H locs σ x1 x2 x4 x5 x7 x9 x11 x13 x16 x17  hl h hm
    rw [Rw_sequence_155] at hm
    refine lv_iload C.1 C.2.1 dX7_sequence_155 (lv_at hl 10 rfl) ?_
    refine lv_iload C.1 C.2.1 dX7_sequence_157 (lv_at hl 9 rfl) ?_
    obtain ⟨g48, hm⟩ := grd_s hm
    obtain ⟨g49, hm⟩ := grd_s hm
    refine z_icmp_ge (tgt := 220) C dX7_sequence_159 (by decide) g48 g49 (fun c50 => ?_) (fun c50 => ?_)
    · have hm := ite_f c50 hm
      refine lv_lload C.1 C.2.1 dX7_sequence_220 (lv_at hl 5 rfl) ?_
      refine lv_lload C.1 C.2.1 dX7_sequence_222 (lv_at hl 7 rfl) ?_
      refine z_aload C dX7_sequence_224 (lv_at hl 3 rfl) ?_
      obtain ⟨g51, hm⟩ := grd_s hm
      refine cg_10_12 C h g51 cU_X9 (List.mem_cons_of_mem _ wl_X7_141) dX7_sequence_226 ?_
      refine lv_iload C.1 C.2.1 dX7_sequence_229 (lv_at hl 6 rfl) ?_
      obtain ⟨g52, hm⟩ := grd_s hm
      obtain ⟨g53, hm⟩ := grd_s hm
      refine c_iald C h g52 g53 dX7_sequence_231 ?_
      obtain ⟨g54, hm⟩ := grd_s hm
      refine z_i2l C dX7_sequence_232 g54 ?_
      refine z_lmul C dX7_sequence_233 ?_
      refine z_ladd C dX7_sequence_234 ?_
      obtain ⟨v55, e56, hm⟩ := bnd_s hm
      rw [e56]
      refine lv_lstore (lv' := [(7, .long (Int64.ofInt v55)), (0, rfv g 9), (1, rfv g x1), (2, .long (Int64.ofInt x2)), (4, rfv g x4), (5, .long (Int64.ofInt x5)), (9, .int (Int32.ofInt x9)), (11, .long (Int64.ofInt x11)), (13, .long (Int64.ofInt x13)), (16, .int (Int32.ofInt x16)), (17, .int (Int32.ofInt x17))]) C.1 C.2.1 dX7_sequence_235 hl (by decide) rfl (fun ls hl => ?_)
      refine lv_iinc (v := Int32.ofInt (x9 + 1)) (lv' := [(9, .int (Int32.ofInt (x9 + 1))), (7, .long (Int64.ofInt v55)), (0, rfv g 9), (1, rfv g x1), (2, .long (Int64.ofInt x2)), (4, rfv g x4), (5, .long (Int64.ofInt x5)), (11, .long (Int64.ofInt x11)), (13, .long (Int64.ofInt x13)), (16, .int (Int32.ofInt x16)), (17, .int (Int32.ofInt x17))]) C.1 C.2.1 dX7_sequence_237 hl (k := 6) rfl (c32_add _ _) (by decide) rfl (fun ls hl => ?_)
      refine lv_goto (tgt := 29) C.1 C.2.1 dX7_sequence_240 (by decide) ?_
      exact hrec29 (lv_sub hl [2, 3, 4, 5, 6, 1, 0] rfl) h hm
    · have hm := ite_t c50 hm
      refine z_aload_n C dX7_sequence_162 rfl (lv_at hl 0 rfl) ?_
      refine cg_8_0 C h (sh_9 hS) cU_X7 (List.mem_cons_of_mem _ wl_X7_12) dX7_sequence_163 ?_
      refine cg_2_0 C h (sh_10 hS) cU_X1 (List.mem_cons_of_mem _ wl_X7_148) dX7_sequence_166 ?_
      refine lv_iload C.1 C.2.1 dX7_sequence_169 (lv_at hl 10 rfl) ?_
      refine z_aload_n C dX7_sequence_171 rfl (lv_at hl 0 rfl) ?_
      refine cg_8_0 C h (sh_9 hS) cU_X7 (List.mem_cons_of_mem _ wl_X7_12) dX7_sequence_172 ?_
      refine cg_2_0 C h (sh_10 hS) cU_X1 (List.mem_cons_of_mem _ wl_X7_148) dX7_sequence_175 ?_
      refine lv_iload C.1 C.2.1 dX7_sequence_178 (lv_at hl 10 rfl) ?_
      obtain ⟨g57, hm⟩ := grd_s hm
      refine c_lald C h (sh_11 hS) (ina_inb (n := 6000) (sl_11 hS) (Nat.le_of_ble_eq_true rfl) g57) dX7_sequence_180 ?_
      refine lv_lload C.1 C.2.1 dX7_sequence_181 (lv_at hl 8 rfl) ?_
      refine z_lmul C dX7_sequence_183 ?_
      refine lv_lload C.1 C.2.1 dX7_sequence_184 (lv_at hl 5 rfl) ?_
      refine lv_lload C.1 C.2.1 dX7_sequence_186 (lv_at hl 4 rfl) ?_
      refine z_lmul C dX7_sequence_188 ?_
      refine z_ladd C dX7_sequence_189 ?_
      refine c_last C h (sh_11 hS) (ina_inb (n := 6000) (sl_11 hS) (Nat.le_of_ble_eq_true rfl) g57) dX7_sequence_190 (fun H locs h => ?_)
      refine z_aload_n C dX7_sequence_191 rfl (lv_at hl 0 rfl) ?_
      refine cg_8_0 C h (sh_9 hS) cU_X7 (List.mem_cons_of_mem _ wl_X7_12) dX7_sequence_192 ?_
      refine cg_2_1 C h (sh_10 hS) cU_X1 (List.mem_cons_of_mem _ wl_X7_152) dX7_sequence_195 ?_
      refine lv_iload C.1 C.2.1 dX7_sequence_198 (lv_at hl 10 rfl) ?_
      refine z_aload_n C dX7_sequence_200 rfl (lv_at hl 0 rfl) ?_
      refine cg_8_0 C h (sh_9 hS) cU_X7 (List.mem_cons_of_mem _ wl_X7_12) dX7_sequence_201 ?_
      refine cg_2_1 C h (sh_10 hS) cU_X1 (List.mem_cons_of_mem _ wl_X7_152) dX7_sequence_204 ?_
      refine lv_iload C.1 C.2.1 dX7_sequence_207 (lv_at hl 10 rfl) ?_
      refine c_lald C h (sh_12 hS) (ina_inb (n := 6000) (sl_12 hS) (Nat.le_of_ble_eq_true rfl) g57) dX7_sequence_209 ?_
      refine x_topl (y := Int64.ofInt (el σ 12 x17)) (by simp [fl, el, se, sf]) ?_
      refine lv_lload C.1 C.2.1 dX7_sequence_210 (lv_at hl 8 rfl) ?_
      refine z_lmul C dX7_sequence_212 ?_
      refine c_last C h (sh_12 hS) (ina_inb (n := 6000) (sl_12 hS) (Nat.le_of_ble_eq_true rfl) g57) dX7_sequence_213 (fun H locs h => ?_)
      refine lv_iinc (v := Int32.ofInt (x17 + 1)) (lv' := [(17, .int (Int32.ofInt (x17 + 1))), (0, rfv g 9), (1, rfv g x1), (2, .long (Int64.ofInt x2)), (4, rfv g x4), (5, .long (Int64.ofInt x5)), (7, .long (Int64.ofInt x7)), (9, .int (Int32.ofInt x9)), (11, .long (Int64.ofInt x11)), (13, .long (Int64.ofInt x13)), (16, .int (Int32.ofInt x16))]) C.1 C.2.1 dX7_sequence_214 hl (k := 10) rfl (c32_add _ _) (by decide) rfl (fun ls hl => ?_)
      refine lv_goto (tgt := 155) C.1 C.2.1 dX7_sequence_217 (by decide) ?_
      exact hrec155 (lv_sub hl [1, 2, 3, 4, 5, 6, 7, 8, 9, 10, 0] rfl) h hm
set_option maxHeartbeats 8000000 in
set_option maxRecDepth 100000 in
theorem kl_Rw_sequence_151 {r : St} (C : Cx p s m args c cX7_sequence RX7 (cd :: cWd) D (TYs k) 18) (hr : meth.sig.returnType = none) (hlk : meth.locks = false) (hE : Ev z mi aK aV A s s.heap) (hS : SHs π) {rRow : Sh → St → Int → Int → Option St} (hφ : 12 ≤ φ) (hψ : 400 ≤ ψ) (hmrRow : ∀ {π : Sh} {σ : St} {y1 : Int} {y2 : Int} {r : St}, Cl π σ → y1 < nn π → rRow π σ y1 y2 = some r → Cl π r) (hcrRow : ∀ {g : Nat → Nat} {π : Sh} {σ : St} {y1 : Int} {y2 : Int} {r : St}, SHs π → rRow π σ y1 y2 = some r → Mv l yX7_row (.code yX7_row cX7_row 5 none :: cWd) { frames := φ, cells := 0, slots := 0, locals := ψ } [rfv g 9, rfv g y1, .long (Int64.ofInt y2)] D (TYs k) (cW k z g π σ) (XV z mi aK aV (cW k z g π σ)) Unit (fun _ => True) (fun _ => cW k z g π r) 0 0) {rec29 : St → Int → Int → Int → Int → Int → Int → Option St} (hrec29 : ∀ {ls : Array Slot} {H : Heap} {locs : List Loc} {σ : St} {x1 : Int} {x2 : Int} {x4 : Int} {x5 : Int} {x7 : Int} {x9 : Int}, lv_has ls 18 [(0, rfv g 9), (1, rfv g x1), (2, .long (Int64.ofInt x2)), (4, rfv g x4), (5, .long (Int64.ofInt x5)), (7, .long (Int64.ofInt x7)), (9, .int (Int32.ofInt x9))] → Hp D A s.heap H locs (cW k z g π σ) → rec29 σ x1 x2 x4 x5 x7 x9 = some r → W p l e { frames := φ + 1, cells := 0, slots := 0, locals := ψ + 24 } s m args below meth c H locs 0 0 (MQ below (va_Qv (fun (_ : Unit) => True) (fun _ t => PostW D (TYs k) A (cW k z g π r) t) A) args s 0 0 A) (F0 m 29 ls [])) {ls : Array Slot} {H : Heap} {locs : List Loc} {σ : St} {x1 : Int} {x2 : Int} {x4 : Int} {x5 : Int} {x7 : Int} {x9 : Int} {x11 : Int} {x13 : Int} {x15 : Int} {x16 : Int}  (hl : lv_has ls 18 [(0, rfv g 9), (1, rfv g x1), (2, .long (Int64.ofInt x2)), (4, rfv g x4), (5, .long (Int64.ofInt x5)), (7, .long (Int64.ofInt x7)), (9, .int (Int32.ofInt x9)), (11, .long (Int64.ofInt x11)), (13, .long (Int64.ofInt x13)), (15, .int (Int32.ofInt x15)), (16, .int (Int32.ofInt x16))]) (h : Hp D A s.heap H locs (cW k z g π σ)) (hm : Rw_sequence_151 N rRow π rec29 σ x1 x2 x4 x5 x7 x9 x11 x13 x15 x16 = some r) : W p l e { frames := φ + 1, cells := 0, slots := 0, locals := ψ + 24 } s m args below meth c H locs 0 0 (MQ below (va_Qv (fun (_ : Unit) => True) (fun _ t => PostW D (TYs k) A (cW k z g π r) t) A) args s 0 0 A) (F0 m 151 ls []) := by
  rw [Rw_sequence_151] at hm
  refine lv_iload C.1 C.2.1 dX7_sequence_151 (lv_at hl 9 rfl) ?_
  refine lv_istore (lv' := [(17, .int (Int32.ofInt x15)), (0, rfv g 9), (1, rfv g x1), (2, .long (Int64.ofInt x2)), (4, rfv g x4), (5, .long (Int64.ofInt x5)), (7, .long (Int64.ofInt x7)), (9, .int (Int32.ofInt x9)), (11, .long (Int64.ofInt x11)), (13, .long (Int64.ofInt x13)), (15, .int (Int32.ofInt x15)), (16, .int (Int32.ofInt x16))]) C.1 C.2.1 dX7_sequence_153 hl (by decide) rfl (fun ls hl => ?_)
  exact kl_Rw_sequence_155 (N := N) C hr hlk hE hS hφ hψ hmrRow hcrRow hrec29 N (lv_sub hl [1, 2, 3, 4, 5, 6, 7, 8, 9, 11, 0] rfl) h hm
set_option maxHeartbeats 8000000 in
set_option maxRecDepth 100000 in
theorem kl_Rw_sequence_100 {r : St} (C : Cx p s m args c cX7_sequence RX7 (cd :: cWd) D (TYs k) 18) (hr : meth.sig.returnType = none) (hlk : meth.locks = false) (hE : Ev z mi aK aV A s s.heap) (hS : SHs π) {rRow : Sh → St → Int → Int → Option St} (hφ : 12 ≤ φ) (hψ : 400 ≤ ψ) (hmrRow : ∀ {π : Sh} {σ : St} {y1 : Int} {y2 : Int} {r : St}, Cl π σ → y1 < nn π → rRow π σ y1 y2 = some r → Cl π r) (hcrRow : ∀ {g : Nat → Nat} {π : Sh} {σ : St} {y1 : Int} {y2 : Int} {r : St}, SHs π → rRow π σ y1 y2 = some r → Mv l yX7_row (.code yX7_row cX7_row 5 none :: cWd) { frames := φ, cells := 0, slots := 0, locals := ψ } [rfv g 9, rfv g y1, .long (Int64.ofInt y2)] D (TYs k) (cW k z g π σ) (XV z mi aK aV (cW k z g π σ)) Unit (fun _ => True) (fun _ => cW k z g π r) 0 0) {rec29 : St → Int → Int → Int → Int → Int → Int → Option St} (hrec29 : ∀ {ls : Array Slot} {H : Heap} {locs : List Loc} {σ : St} {x1 : Int} {x2 : Int} {x4 : Int} {x5 : Int} {x7 : Int} {x9 : Int}, lv_has ls 18 [(0, rfv g 9), (1, rfv g x1), (2, .long (Int64.ofInt x2)), (4, rfv g x4), (5, .long (Int64.ofInt x5)), (7, .long (Int64.ofInt x7)), (9, .int (Int32.ofInt x9))] → Hp D A s.heap H locs (cW k z g π σ) → rec29 σ x1 x2 x4 x5 x7 x9 = some r → W p l e { frames := φ + 1, cells := 0, slots := 0, locals := ψ + 24 } s m args below meth c H locs 0 0 (MQ below (va_Qv (fun (_ : Unit) => True) (fun _ t => PostW D (TYs k) A (cW k z g π r) t) A) args s 0 0 A) (F0 m 29 ls [])) (n : Nat) : ∀ {ls : Array Slot} {H : Heap} {locs : List Loc} {σ : St} {x1 : Int} {x2 : Int} {x4 : Int} {x5 : Int} {x7 : Int} {x9 : Int} {x11 : Int} {x13 : Int} {x15 : Int} {x16 : Int} {x17 : Int}, lv_has ls 18 [(0, rfv g 9), (1, rfv g x1), (2, .long (Int64.ofInt x2)), (4, rfv g x4), (5, .long (Int64.ofInt x5)), (7, .long (Int64.ofInt x7)), (9, .int (Int32.ofInt x9)), (11, .long (Int64.ofInt x11)), (13, .long (Int64.ofInt x13)), (15, .int (Int32.ofInt x15)), (16, .int (Int32.ofInt x16)), (17, .int (Int32.ofInt x17))] → Hp D A s.heap H locs (cW k z g π σ) → Rw_sequence_100 N rRow π rec29 n σ x1 x2 x4 x5 x7 x9 x11 x13 x15 x16 x17 = some r → W p l e { frames := φ + 1, cells := 0, slots := 0, locals := ψ + 24 } s m args below meth c H locs 0 0 (MQ below (va_Qv (fun (_ : Unit) => True) (fun _ t => PostW D (TYs k) A (cW k z g π r) t) A) args s 0 0 A) (F0 m 100 ls []) := by
  induction n with
  | zero => intro ls H locs σ x1 x2 x4 x5 x7 x9 x11 x13 x15 x16 x17  hl h hm; cases (show none = some r from hm)
  | succ n hrec100 =>
    intro ls H locs σ x1 x2 x4 x5 x7 x9 x11 x13 x15 x16 x17  hl h hm
    rw [Rw_sequence_100] at hm
    refine lv_iload C.1 C.2.1 dX7_sequence_100 (lv_at hl 11 rfl) ?_
    refine z_aload C dX7_sequence_102 (lv_at hl 3 rfl) ?_
    obtain ⟨g35, hm⟩ := grd_s hm
    refine cg_10_12 C h g35 cU_X9 (List.mem_cons_of_mem _ wl_X7_141) dX7_sequence_104 ?_
    refine lv_iload C.1 C.2.1 dX7_sequence_107 (lv_at hl 6 rfl) ?_
    obtain ⟨g36, hm⟩ := grd_s hm
    obtain ⟨g37, hm⟩ := grd_s hm
    refine c_iald C h g36 g37 dX7_sequence_109 ?_
    obtain ⟨g38, hm⟩ := grd_s hm
    obtain ⟨g39, hm⟩ := grd_s hm
    refine z_icmp_ge (tgt := 151) C dX7_sequence_110 (by decide) g38 g39 (fun c40 => ?_) (fun c40 => ?_)
    · have hm := ite_f c40 hm
      exact kl_Rw_sequence_151 (N := N) C hr hlk hE hS hφ hψ hmrRow hcrRow hrec29 (lv_sub hl [0, 1, 2, 3, 4, 5, 6, 7, 8, 9, 10] rfl) h hm
    · have hm := ite_t c40 hm
      refine lv_iload C.1 C.2.1 dX7_sequence_113 (lv_at hl 10 rfl) ?_
      refine lv_iload C.1 C.2.1 dX7_sequence_115 (lv_at hl 9 rfl) ?_
      obtain ⟨g41, hm⟩ := grd_s hm
      obtain ⟨g42, hm⟩ := grd_s hm
      refine z_icmp_le (tgt := 151) C dX7_sequence_117 (by decide) g41 g42 (fun c43 => ?_) (fun c43 => ?_)
      · have hm := ite_f c43 hm
        exact kl_Rw_sequence_151 (N := N) C hr hlk hE hS hφ hψ hmrRow hcrRow hrec29 (lv_sub hl [0, 1, 2, 3, 4, 5, 6, 7, 8, 9, 10] rfl) h hm
      · have hm := ite_t c43 hm
        refine z_aload_n C dX7_sequence_120 rfl (lv_at hl 0 rfl) ?_
        refine cg_8_0 C h (sh_9 hS) cU_X7 (List.mem_cons_of_mem _ wl_X7_12) dX7_sequence_121 ?_
        refine lv_iload C.1 C.2.1 dX7_sequence_124 (lv_at hl 9 rfl) ?_
        refine lv_iload C.1 C.2.1 dX7_sequence_126 (lv_at hl 10 rfl) ?_
        refine lv_lload C.1 C.2.1 dX7_sequence_128 (lv_at hl 8 rfl) ?_
        refine lv_lload C.1 C.2.1 dX7_sequence_130 (lv_at hl 5 rfl) ?_
        refine lv_iload C.1 C.2.1 dX7_sequence_132 (lv_at hl 11 rfl) ?_
        refine z_i2l C dX7_sequence_134 g38 ?_
        refine lv_lload C.1 C.2.1 dX7_sequence_135 (lv_at hl 7 rfl) ?_
        refine z_lmul C dX7_sequence_137 ?_
        refine z_ladd C dX7_sequence_138 ?_
        refine lv_lload C.1 C.2.1 dX7_sequence_139 (lv_at hl 4 rfl) ?_
        refine z_lmul C dX7_sequence_141 ?_
        obtain ⟨r44, e45, hm⟩ := obd_s hm
        refine c_callVvP C hE h (sh_10 hS) rfl (by decide) (kc_Es_pushAgain l D k z mi aK aV g N hS e45) (cwV 4 C.2.2.1 (gS_X7_144 _) rfl rfl rfl hd_X1_pushAgain ⟨(by show 1 + 1 ≤ φ + 1; omega), (by show 8 + (8 + 11) + 28 ≤ ψ + 24; omega)⟩) rfl hl.1 rfl (Nat.le_of_ble_eq_true rfl) dX7_sequence_142 ⟨(Nat.le_of_ble_eq_true rfl), (Nat.le_of_ble_eq_true rfl)⟩ (fun H locs h => ?_)
        refine lv_iinc (v := Int32.ofInt (x17 + 1)) (lv' := [(17, .int (Int32.ofInt (x17 + 1))), (0, rfv g 9), (1, rfv g x1), (2, .long (Int64.ofInt x2)), (4, rfv g x4), (5, .long (Int64.ofInt x5)), (7, .long (Int64.ofInt x7)), (9, .int (Int32.ofInt x9)), (11, .long (Int64.ofInt x11)), (13, .long (Int64.ofInt x13)), (15, .int (Int32.ofInt x15)), (16, .int (Int32.ofInt x16))]) C.1 C.2.1 dX7_sequence_145 hl (k := 11) rfl (c32_add _ _) (by decide) rfl (fun ls hl => ?_)
        refine lv_goto (tgt := 100) C.1 C.2.1 dX7_sequence_148 (by decide) ?_
        exact hrec100 (lv_sub hl [1, 2, 3, 4, 5, 6, 7, 8, 9, 10, 11, 0] rfl) h hm
set_option maxHeartbeats 8000000 in
set_option maxRecDepth 100000 in
theorem kl_Rw_sequence_29 {r : St} (C : Cx p s m args c cX7_sequence RX7 (cd :: cWd) D (TYs k) 18) (hr : meth.sig.returnType = none) (hlk : meth.locks = false) (hE : Ev z mi aK aV A s s.heap) (hS : SHs π) {rRow : Sh → St → Int → Int → Option St} (hφ : 12 ≤ φ) (hψ : 400 ≤ ψ) (hmrRow : ∀ {π : Sh} {σ : St} {y1 : Int} {y2 : Int} {r : St}, Cl π σ → y1 < nn π → rRow π σ y1 y2 = some r → Cl π r) (hcrRow : ∀ {g : Nat → Nat} {π : Sh} {σ : St} {y1 : Int} {y2 : Int} {r : St}, SHs π → rRow π σ y1 y2 = some r → Mv l yX7_row (.code yX7_row cX7_row 5 none :: cWd) { frames := φ, cells := 0, slots := 0, locals := ψ } [rfv g 9, rfv g y1, .long (Int64.ofInt y2)] D (TYs k) (cW k z g π σ) (XV z mi aK aV (cW k z g π σ)) Unit (fun _ => True) (fun _ => cW k z g π r) 0 0)  (n : Nat) : ∀ {ls : Array Slot} {H : Heap} {locs : List Loc} {σ : St} {x1 : Int} {x2 : Int} {x4 : Int} {x5 : Int} {x7 : Int} {x9 : Int}, lv_has ls 18 [(0, rfv g 9), (1, rfv g x1), (2, .long (Int64.ofInt x2)), (4, rfv g x4), (5, .long (Int64.ofInt x5)), (7, .long (Int64.ofInt x7)), (9, .int (Int32.ofInt x9))] → Hp D A s.heap H locs (cW k z g π σ) → Rw_sequence_29 N rRow π n σ x1 x2 x4 x5 x7 x9 = some r → W p l e { frames := φ + 1, cells := 0, slots := 0, locals := ψ + 24 } s m args below meth c H locs 0 0 (MQ below (va_Qv (fun (_ : Unit) => True) (fun _ t => PostW D (TYs k) A (cW k z g π r) t) A) args s 0 0 A) (F0 m 29 ls []) := by
  induction n with
  | zero => intro ls H locs σ x1 x2 x4 x5 x7 x9  hl h hm; cases (show none = some r from hm)
  | succ n hrec29 =>
    intro ls H locs σ x1 x2 x4 x5 x7 x9  hl h hm
    rw [Rw_sequence_29] at hm
    refine lv_iload C.1 C.2.1 dX7_sequence_29 (lv_at hl 6 rfl) ?_
    refine z_aload_n C dX7_sequence_31 rfl (lv_at hl 1 rfl) ?_
    obtain ⟨g10, hm⟩ := grd_s hm
    refine cg_5_1 C h g10 cU_X4 (List.mem_cons_of_mem _ wl_X7_125) dX7_sequence_32 ?_
    obtain ⟨g11, hm⟩ := grd_s hm
    obtain ⟨g12, hm⟩ := grd_s hm
    refine c_alen C h (t := 6) rfl g11 g12 dX7_sequence_35 ?_
    obtain ⟨g13, hm⟩ := grd_s hm
    obtain ⟨g14, hm⟩ := grd_s hm
    refine z_icmp_ge (tgt := 243) C dX7_sequence_36 (by decide) g13 g14 (fun c15 => ?_) (fun c15 => ?_)
    · have hm := ite_f c15 hm
      cases hm
      exact c_vretP C h hr hlk dX7_sequence_243
    · have hm := ite_t c15 hm
      refine z_aload_n C dX7_sequence_39 rfl (lv_at hl 1 rfl) ?_
      refine cg_5_1 C h g10 cU_X4 (List.mem_cons_of_mem _ wl_X7_125) dX7_sequence_40 ?_
      refine lv_iload C.1 C.2.1 dX7_sequence_43 (lv_at hl 6 rfl) ?_
      obtain ⟨g16, hm⟩ := grd_s hm
      refine c_qald C h (t := 6) (by decide) rfl g11 g16 dX7_sequence_45 ?_
      obtain ⟨v17, e18, hm⟩ := bnd_s hm
      rw [e18]
      refine z_astore (lv' := [(10, rfv g v17), (0, rfv g 9), (1, rfv g x1), (2, .long (Int64.ofInt x2)), (4, rfv g x4), (5, .long (Int64.ofInt x5)), (7, .long (Int64.ofInt x7)), (9, .int (Int32.ofInt x9))]) C dX7_sequence_46 hl (by decide) rfl (fun ls hl => ?_)
      refine z_aload C dX7_sequence_48 (lv_at hl 4 rfl) ?_
      obtain ⟨g19, hm⟩ := grd_s hm
      refine cg_10_11 C h g19 cU_X9 (List.mem_cons_of_mem _ wl_X7_137) dX7_sequence_50 ?_
      refine lv_iload C.1 C.2.1 dX7_sequence_53 (lv_at hl 7 rfl) ?_
      obtain ⟨g20, hm⟩ := grd_s hm
      obtain ⟨g21, hm⟩ := grd_s hm
      refine c_iald C h g20 g21 dX7_sequence_55 ?_
      obtain ⟨g22, hm⟩ := grd_s hm
      refine z_i2l C dX7_sequence_56 g22 ?_
      obtain ⟨v23, e24, hm⟩ := bnd_s hm
      rw [e24]
      refine lv_lstore (lv' := [(11, .long (Int64.ofInt v23)), (10, rfv g v17), (0, rfv g 9), (1, rfv g x1), (2, .long (Int64.ofInt x2)), (4, rfv g x4), (5, .long (Int64.ofInt x5)), (7, .long (Int64.ofInt x7)), (9, .int (Int32.ofInt x9))]) C.1 C.2.1 dX7_sequence_57 hl (by decide) (by simp [rfv_cat, cat_i, cat_l]) (fun ls hl => ?_)
      refine lv_lload C.1 C.2.1 dX7_sequence_59 (lv_at hl 0 rfl) ?_
      refine lv_lload C.1 C.2.1 dX7_sequence_61 (lv_at hl 6 rfl) ?_
      refine z_aload C dX7_sequence_63 (lv_at hl 1 rfl) ?_
      obtain ⟨g25, hm⟩ := grd_s hm
      refine cg_5_2 C h g25 cU_X4 (List.mem_cons_of_mem _ wl_X7_101) dX7_sequence_65 ?_
      obtain ⟨g26, hm⟩ := grd_s hm
      obtain ⟨g27, hm⟩ := grd_s hm
      obtain ⟨g28, hm⟩ := grd_s hm
      refine z_ldiv C dX7_sequence_68 g26 g27 g28 ?_
      refine z_lmul C dX7_sequence_69 ?_
      obtain ⟨v29, e30, hm⟩ := bnd_s hm
      rw [e30]
      refine lv_lstore (lv' := [(13, .long (Int64.ofInt v29)), (11, .long (Int64.ofInt v23)), (10, rfv g v17), (0, rfv g 9), (1, rfv g x1), (2, .long (Int64.ofInt x2)), (4, rfv g x4), (5, .long (Int64.ofInt x5)), (7, .long (Int64.ofInt x7)), (9, .int (Int32.ofInt x9))]) C.1 C.2.1 dX7_sequence_70 hl (by decide) rfl (fun ls hl => ?_)
      refine z_aload_n C dX7_sequence_72 rfl (lv_at hl 3 rfl) ?_
      refine cg_8_0 C h (sh_9 hS) cU_X7 (List.mem_cons_of_mem _ wl_X7_12) dX7_sequence_73 ?_
      refine cg_2_6 C h (sh_10 hS) cU_X1 (List.mem_cons_of_mem _ wl_X7_28) dX7_sequence_76 ?_
      refine lv_istore (lv' := [(15, .int (Int32.ofInt (fl σ 46 10))), (13, .long (Int64.ofInt v29)), (11, .long (Int64.ofInt v23)), (10, rfv g v17), (0, rfv g 9), (1, rfv g x1), (2, .long (Int64.ofInt x2)), (4, rfv g x4), (5, .long (Int64.ofInt x5)), (7, .long (Int64.ofInt x7)), (9, .int (Int32.ofInt x9))]) C.1 C.2.1 dX7_sequence_79 hl (by decide) rfl (fun ls hl => ?_)
      refine z_aload_n C dX7_sequence_81 rfl (lv_at hl 4 rfl) ?_
      refine z_aload C dX7_sequence_82 (lv_at hl 3 rfl) ?_
      refine lv_lload_n C.1 C.2.1 dX7_sequence_84 rfl (lv_at hl 6 rfl) ?_
      obtain ⟨r31, e32, hm⟩ := obd_s hm
      refine c_callVvP C hE h (sh_9 hS) rfl (by decide) (hcrRow hS e32) (cwV 2 C.2.2.1 (gS_X7_31 _) rfl rfl rfl hd_X7_row ⟨(by show φ + 1 ≤ φ + 1; omega), (by show 8 + (5 + 11) + ψ ≤ ψ + 24; omega)⟩) rfl hl.1 rfl (Nat.le_of_ble_eq_true rfl) dX7_sequence_85 ⟨(Nat.le_of_ble_eq_true rfl), (Nat.le_of_ble_eq_true rfl)⟩ (fun H locs h => ?_)
      refine z_aload_n C dX7_sequence_88 rfl (lv_at hl 4 rfl) ?_
      refine cg_8_0 C h (sh_9 hS) cU_X7 (List.mem_cons_of_mem _ wl_X7_12) dX7_sequence_89 ?_
      refine cg_2_6 C h (sh_10 hS) cU_X1 (List.mem_cons_of_mem _ wl_X7_28) dX7_sequence_92 ?_
      refine lv_istore (lv' := [(16, .int (Int32.ofInt (fl r31 46 10))), (15, .int (Int32.ofInt (fl σ 46 10))), (13, .long (Int64.ofInt v29)), (11, .long (Int64.ofInt v23)), (10, rfv g v17), (0, rfv g 9), (1, rfv g x1), (2, .long (Int64.ofInt x2)), (4, rfv g x4), (5, .long (Int64.ofInt x5)), (7, .long (Int64.ofInt x7)), (9, .int (Int32.ofInt x9))]) C.1 C.2.1 dX7_sequence_95 hl (by decide) rfl (fun ls hl => ?_)
      refine lv_iconst (v := Int32.ofInt 1) C.1 C.2.1 dX7_sequence_97 (by decide) ?_
      refine lv_istore (lv' := [(17, .int (Int32.ofInt 1)), (16, .int (Int32.ofInt (fl r31 46 10))), (15, .int (Int32.ofInt (fl σ 46 10))), (13, .long (Int64.ofInt v29)), (11, .long (Int64.ofInt v23)), (10, rfv g v17), (0, rfv g 9), (1, rfv g x1), (2, .long (Int64.ofInt x2)), (4, rfv g x4), (5, .long (Int64.ofInt x5)), (7, .long (Int64.ofInt x7)), (9, .int (Int32.ofInt x9))]) C.1 C.2.1 dX7_sequence_98 hl (by decide) rfl (fun ls hl => ?_)
      exact kl_Rw_sequence_100 (N := N) C hr hlk hE hS hφ hψ hmrRow hcrRow hrec29 N (lv_sub hl [6, 7, 8, 9, 10, 11, 12, 4, 3, 2, 1, 0] rfl) h hm
set_option maxHeartbeats 8000000 in
set_option maxRecDepth 100000 in
theorem kc_Rw_sequence (l : Launch) (D : va_G) (k : Nat → ClassId) (z mi : Nat) (aK aV : Nat → Nat) (g : Nat → Nat) (N : Nat) {φ ψ : Nat} {rRow : Sh → St → Int → Int → Option St} (hφ : 12 ≤ φ) (hψ : 400 ≤ ψ) (hmrRow : ∀ {π : Sh} {σ : St} {y1 : Int} {y2 : Int} {r : St}, Cl π σ → y1 < nn π → rRow π σ y1 y2 = some r → Cl π r) (hcrRow : ∀ {g : Nat → Nat} {π : Sh} {σ : St} {y1 : Int} {y2 : Int} {r : St}, SHs π → rRow π σ y1 y2 = some r → Mv l yX7_row (.code yX7_row cX7_row 5 none :: cWd) { frames := φ, cells := 0, slots := 0, locals := ψ } [rfv g 9, rfv g y1, .long (Int64.ofInt y2)] D (TYs k) (cW k z g π σ) (XV z mi aK aV (cW k z g π σ)) Unit (fun _ => True) (fun _ => cW k z g π r) 0 0) {π : Sh} {σ : St} {x1 : Int} {x2 : Int} {r : St} (hS : SHs π) (hm : Rw_sequence N rRow π σ x1 x2 = some r) : Mv l yX7_sequence (.code yX7_sequence cX7_sequence 18 none :: cWd) { frames := φ + 1, cells := 0, slots := 0, locals := ψ + 24 } [rfv g 9, rfv g x1, .long (Int64.ofInt x2)] D (TYs k) (cW k z g π σ) (XV z mi aK aV (cW k z g π σ)) Unit (fun _ => True) (fun _ => cW k z g π r) 0 0 := by
  intro sz
  refine v_met (cc := cX7_sequence) (maxL := 18) (ret := none) (lv := [(0, rfv g 9), (1, rfv g x1), (2, .long (Int64.ofInt x2))]) (by decide) rfl (by simp [lg_sl, rfv_cat, cat_i, cat_l]) (by simp [lv_args, rfv_cat, cat_i, cat_l]) ?_
  intro p e s m below meth c ls C hE hr hlk hmn hl h
  rw [Rw_sequence] at hm
  refine z_aload_n C dX7_sequence_0 rfl (lv_at hl 1 rfl) ?_
  obtain ⟨g1, hm⟩ := grd_s hm
  refine cg_5_0 C h g1 cU_X4 (List.mem_cons_of_mem _ wl_X7_41) dX7_sequence_1 ?_
  refine z_astore (lv' := [(4, rfv g (fl σ 100 x1)), (0, rfv g 9), (1, rfv g x1), (2, .long (Int64.ofInt x2))]) C dX7_sequence_4 hl (by decide) rfl (fun ls hl => ?_)
  refine z_aload_n C dX7_sequence_6 rfl (lv_at hl 2 rfl) ?_
  refine cg_5_2 C h g1 cU_X4 (List.mem_cons_of_mem _ wl_X7_101) dX7_sequence_7 ?_
  refine lv_iconst (v := Int32.ofInt 1) C.1 C.2.1 dX7_sequence_10 (by decide) ?_
  refine z_aload C dX7_sequence_11 (lv_at hl 0 rfl) ?_
  obtain ⟨g2, hm⟩ := grd_s hm
  refine cg_10_2 C h g2 cU_X9 (List.mem_cons_of_mem _ wl_X7_57) dX7_sequence_13 ?_
  obtain ⟨g3, hm⟩ := grd_s hm
  refine v_max C hl.1 dX7_sequence_16 (by decide) g3 (List.mem_cons_of_mem _ wx_X7_133) (List.mem_cons_of_mem _ wxs_max) (List.mem_cons_of_mem _ wxc_max) (List.mem_cons_of_mem _ wt_Math) (by show 1 ≤ φ + 1; omega) (by simp [rfv_cat, cat_i, cat_l] <;> omega) (Nat.le_of_ble_eq_true rfl) (Nat.le_of_ble_eq_true rfl) ?_
  obtain ⟨g4, hm⟩ := grd_s hm
  refine z_i2l C dX7_sequence_19 g4 ?_
  obtain ⟨g5, hm⟩ := grd_s hm
  obtain ⟨g6, hm⟩ := grd_s hm
  obtain ⟨g7, hm⟩ := grd_s hm
  refine z_ldiv C dX7_sequence_20 g5 g6 g7 ?_
  obtain ⟨v8, e9, hm⟩ := bnd_s hm
  rw [e9]
  refine lv_lstore (lv' := [(5, .long (Int64.ofInt v8)), (4, rfv g (fl σ 100 x1)), (0, rfv g 9), (1, rfv g x1), (2, .long (Int64.ofInt x2))]) C.1 C.2.1 dX7_sequence_21 hl (by decide) (by simp [rfv_cat, cat_i, cat_l]) (fun ls hl => ?_)
  refine lv_lconst (v := Int64.ofInt 0) C.1 C.2.1 dX7_sequence_23 (by decide) ?_
  refine lv_lstore (lv' := [(7, .long (Int64.ofInt 0)), (5, .long (Int64.ofInt v8)), (4, rfv g (fl σ 100 x1)), (0, rfv g 9), (1, rfv g x1), (2, .long (Int64.ofInt x2))]) C.1 C.2.1 dX7_sequence_24 hl (by decide) rfl (fun ls hl => ?_)
  refine lv_iconst (v := Int32.ofInt 0) C.1 C.2.1 dX7_sequence_26 (by decide) ?_
  refine lv_istore (lv' := [(9, .int (Int32.ofInt 0)), (7, .long (Int64.ofInt 0)), (5, .long (Int64.ofInt v8)), (4, rfv g (fl σ 100 x1)), (0, rfv g 9), (1, rfv g x1), (2, .long (Int64.ofInt x2))]) C.1 C.2.1 dX7_sequence_27 hl (by decide) rfl (fun ls hl => ?_)
  exact kl_Rw_sequence_29 (N := N) C hr hlk hE hS hφ hψ hmrRow hcrRow N (lv_sub hl [4, 5, 6, 3, 2, 1, 0] rfl) h hm
end Z_Rw_sequence
section Z_Rw_shift
variable {p : Program} {l : Launch} {e : Env} {s : State} {m : MethodId} {args : Array Value} {below : List Frame} {meth : Method} {c : Code} {D : va_G} {A : Nat → Prop} {k : Nat → ClassId} {N : Nat} {cd : Cond} {z mi : Nat} {aK aV : Nat → Nat} {g : Nat → Nat} {π : Sh} {φ ψ : Nat}
set_option maxHeartbeats 8000000 in
set_option maxRecDepth 100000 in
theorem kl_Rw_shift_38 {r : St} (C : Cx p s m args c cX7_shift RX7 (cd :: cWd) D (TYs k) 18) (hr : meth.sig.returnType = none) (hlk : meth.locks = false) (hE : Ev z mi aK aV A s s.heap) (hS : SHs π) {rRow : Sh → St → Int → Int → Option St} (hφ : 12 ≤ φ) (hψ : 400 ≤ ψ) (hmrRow : ∀ {π : Sh} {σ : St} {y1 : Int} {y2 : Int} {r : St}, Cl π σ → y1 < nn π → rRow π σ y1 y2 = some r → Cl π r) (hcrRow : ∀ {g : Nat → Nat} {π : Sh} {σ : St} {y1 : Int} {y2 : Int} {r : St}, SHs π → rRow π σ y1 y2 = some r → Mv l yX7_row (.code yX7_row cX7_row 5 none :: cWd) { frames := φ, cells := 0, slots := 0, locals := ψ } [rfv g 9, rfv g y1, .long (Int64.ofInt y2)] D (TYs k) (cW k z g π σ) (XV z mi aK aV (cW k z g π σ)) Unit (fun _ => True) (fun _ => cW k z g π r) 0 0)  (n : Nat) : ∀ {ls : Array Slot} {H : Heap} {locs : List Loc} {σ : St} {x1 : Int} {x2 : Int} {x4 : Int} {x8 : Int} {x9 : Int} {x13 : Int} {x15 : Int}, lv_has ls 18 [(0, rfv g 9), (1, rfv g x1), (2, .long (Int64.ofInt x2)), (4, .long (Int64.ofInt x4)), (8, rfv g x8), (9, .long (Int64.ofInt x9)), (13, .long (Int64.ofInt x13)), (15, .long (Int64.ofInt x15))] → Hp D A s.heap H locs (cW k z g π σ) → Rw_shift_38 N rRow π n σ x1 x2 x4 x8 x9 x13 x15 = some r → W p l e { frames := φ + 1, cells := 0, slots := 0, locals := ψ + 24 } s m args below meth c H locs 0 0 (MQ below (va_Qv (fun (_ : Unit) => True) (fun _ t => PostW D (TYs k) A (cW k z g π r) t) A) args s 0 0 A) (F0 m 38 ls []) := by
  induction n with
  | zero => intro ls H locs σ x1 x2 x4 x8 x9 x13 x15  hl h hm; cases (show none = some r from hm)
  | succ n hrec38 =>
    intro ls H locs σ x1 x2 x4 x8 x9 x13 x15  hl h hm
    rw [Rw_shift_38] at hm
    refine lv_lload C.1 C.2.1 dX7_shift_38 (lv_at hl 7 rfl) ?_
    refine lv_lload C.1 C.2.1 dX7_shift_40 (lv_at hl 6 rfl) ?_
    obtain ⟨g13, hm⟩ := grd_s hm
    obtain ⟨g14, hm⟩ := grd_s hm
    refine W.lcmp C.1 C.2.1 dX7_shift_42 ?_
    refine z_lcmp_gt (tgt := 126) C dX7_shift_43 (by decide) g13 g14 (fun c15 => ?_) (fun c15 => ?_)
    · have hm := ite_t c15 hm
      cases hm
      exact c_vretP C h hr hlk dX7_shift_126
    · have hm := ite_f c15 hm
      refine z_aload_n C dX7_shift_46 rfl (lv_at hl 0 rfl) ?_
      refine cg_8_0 C h (sh_9 hS) cU_X7 (List.mem_cons_of_mem _ wl_X7_12) dX7_shift_47 ?_
      refine cg_2_6 C h (sh_10 hS) cU_X1 (List.mem_cons_of_mem _ wl_X7_28) dX7_shift_50 ?_
      refine lv_istore (lv' := [(17, .int (Int32.ofInt (fl σ 46 10))), (0, rfv g 9), (1, rfv g x1), (2, .long (Int64.ofInt x2)), (4, .long (Int64.ofInt x4)), (8, rfv g x8), (9, .long (Int64.ofInt x9)), (13, .long (Int64.ofInt x13)), (15, .long (Int64.ofInt x15))]) C.1 C.2.1 dX7_shift_53 hl (by decide) rfl (fun ls hl => ?_)
      refine z_aload_n C dX7_shift_55 rfl (lv_at hl 1 rfl) ?_
      refine z_aload C dX7_shift_56 (lv_at hl 5 rfl) ?_
      refine lv_lload_n C.1 C.2.1 dX7_shift_58 rfl (lv_at hl 3 rfl) ?_
      refine lv_lload C.1 C.2.1 dX7_shift_59 (lv_at hl 8 rfl) ?_
      refine z_ladd C dX7_shift_61 ?_
      obtain ⟨r16, e17, hm⟩ := obd_s hm
      refine c_callVvP C hE h (sh_9 hS) rfl (by decide) (hcrRow hS e17) (cwV 2 C.2.2.1 (gS_X7_31 _) rfl rfl rfl hd_X7_row ⟨(by show φ + 1 ≤ φ + 1; omega), (by show 8 + (5 + 11) + ψ ≤ ψ + 24; omega)⟩) rfl hl.1 rfl (Nat.le_of_ble_eq_true rfl) dX7_shift_62 ⟨(Nat.le_of_ble_eq_true rfl), (Nat.le_of_ble_eq_true rfl)⟩ (fun H locs h => ?_)
      refine z_aload_n C dX7_shift_65 rfl (lv_at hl 1 rfl) ?_
      refine cg_8_0 C h (sh_9 hS) cU_X7 (List.mem_cons_of_mem _ wl_X7_12) dX7_shift_66 ?_
      refine lv_iload C.1 C.2.1 dX7_shift_69 (lv_at hl 0 rfl) ?_
      refine z_aload_n C dX7_shift_71 rfl (lv_at hl 2 rfl) ?_
      obtain ⟨g20, hm⟩ := grd_s hm
      refine cg_5_2 C h g20 cU_X4 (List.mem_cons_of_mem _ wl_X7_101) dX7_shift_72 ?_
      refine z_aload C dX7_shift_75 (lv_at hl 5 rfl) ?_
      obtain ⟨g21, hm⟩ := grd_s hm
      refine cg_5_2 C h g21 cU_X4 (List.mem_cons_of_mem _ wl_X7_101) dX7_shift_77 ?_
      obtain ⟨g22, hm⟩ := grd_s hm
      obtain ⟨g23, hm⟩ := grd_s hm
      obtain ⟨g24, hm⟩ := grd_s hm
      refine z_ldiv C dX7_shift_80 g22 g23 g24 ?_
      refine lv_lload C.1 C.2.1 dX7_shift_81 (lv_at hl 8 rfl) ?_
      refine z_aload_n C dX7_shift_83 rfl (lv_at hl 2 rfl) ?_
      refine cg_5_2 C h g20 cU_X4 (List.mem_cons_of_mem _ wl_X7_101) dX7_shift_84 ?_
      refine z_lmul C dX7_shift_87 ?_
      refine lv_lload C.1 C.2.1 dX7_shift_88 (lv_at hl 4 rfl) ?_
      refine z_aload_n C dX7_shift_90 rfl (lv_at hl 2 rfl) ?_
      refine cg_5_2 C h g20 cU_X4 (List.mem_cons_of_mem _ wl_X7_101) dX7_shift_91 ?_
      refine lv_lload C.1 C.2.1 dX7_shift_94 (lv_at hl 6 rfl) ?_
      obtain ⟨g25, hm⟩ := grd_s hm
      obtain ⟨g26, hm⟩ := grd_s hm
      refine z_ldiv C dX7_shift_96 g22 g25 g26 ?_
      refine z_lmul C dX7_shift_97 ?_
      refine z_lsub C dX7_shift_98 ?_
      obtain ⟨r27, e28, hm⟩ := obd_s hm
      refine c_callVvP C hE h (sh_10 hS) rfl (by decide) (kc_Es_scale l D k z mi aK aV g N hS e28) (cwV 3 C.2.2.1 (gS_X7_162 _) rfl rfl rfl hd_X1_scale ⟨(by show 0 + 1 ≤ φ + 1; omega), (by show 8 + (7 + 11) + 0 ≤ ψ + 24; omega)⟩) rfl hl.1 rfl (Nat.le_of_ble_eq_true rfl) dX7_shift_99 ⟨(Nat.le_of_ble_eq_true rfl), (Nat.le_of_ble_eq_true rfl)⟩ (fun H locs h => ?_)
      refine z_aload_n C dX7_shift_102 rfl (lv_at hl 1 rfl) ?_
      refine cg_8_0 C h (sh_9 hS) cU_X7 (List.mem_cons_of_mem _ wl_X7_12) dX7_shift_103 ?_
      refine lv_iload C.1 C.2.1 dX7_shift_106 (lv_at hl 0 rfl) ?_
      refine lv_lconst (v := Int64.ofInt 0) C.1 C.2.1 dX7_shift_108 (by decide) ?_
      refine z_aload_n C dX7_shift_109 rfl (lv_at hl 2 rfl) ?_
      refine cg_5_2 C h g20 cU_X4 (List.mem_cons_of_mem _ wl_X7_101) dX7_shift_110 ?_
      refine lv_iconst (v := Int32.ofInt 1) C.1 C.2.1 dX7_shift_113 (by decide) ?_
      obtain ⟨r31, e32, hm⟩ := obd_s hm
      refine c_callVvP C hE h (sh_10 hS) rfl (by decide) (kc_Es_choose l D k z mi aK aV g N hS e32) (cwV 4 C.2.2.1 (gS_X7_172 _) rfl rfl rfl hd_X1_choose ⟨(by show 1 + 1 ≤ φ + 1; omega), (by show 8 + (9 + 11) + 22 ≤ ψ + 24; omega)⟩) rfl hl.1 rfl (Nat.le_of_ble_eq_true rfl) dX7_shift_114 ⟨(Nat.le_of_ble_eq_true rfl), (Nat.le_of_ble_eq_true rfl)⟩ (fun H locs h => ?_)
      refine lv_lload C.1 C.2.1 dX7_shift_117 (lv_at hl 8 rfl) ?_
      refine lv_lconst (v := Int64.ofInt 1) C.1 C.2.1 dX7_shift_119 (by decide) ?_
      refine z_ladd C dX7_shift_120 ?_
      obtain ⟨v35, e36, hm⟩ := bnd_s hm
      rw [e36]
      refine lv_lstore (lv' := [(15, .long (Int64.ofInt v35)), (17, .int (Int32.ofInt (fl σ 46 10))), (0, rfv g 9), (1, rfv g x1), (2, .long (Int64.ofInt x2)), (4, .long (Int64.ofInt x4)), (8, rfv g x8), (9, .long (Int64.ofInt x9)), (13, .long (Int64.ofInt x13))]) C.1 C.2.1 dX7_shift_121 hl (by decide) rfl (fun ls hl => ?_)
      refine lv_goto (tgt := 38) C.1 C.2.1 dX7_shift_123 (by decide) ?_
      exact hrec38 (lv_sub hl [2, 3, 4, 5, 6, 7, 8, 0] rfl) h hm
set_option maxHeartbeats 8000000 in
set_option maxRecDepth 100000 in
theorem kc_Rw_shift (l : Launch) (D : va_G) (k : Nat → ClassId) (z mi : Nat) (aK aV : Nat → Nat) (g : Nat → Nat) (N : Nat) {φ ψ : Nat} {rRow : Sh → St → Int → Int → Option St} (hφ : 12 ≤ φ) (hψ : 400 ≤ ψ) (hmrRow : ∀ {π : Sh} {σ : St} {y1 : Int} {y2 : Int} {r : St}, Cl π σ → y1 < nn π → rRow π σ y1 y2 = some r → Cl π r) (hcrRow : ∀ {g : Nat → Nat} {π : Sh} {σ : St} {y1 : Int} {y2 : Int} {r : St}, SHs π → rRow π σ y1 y2 = some r → Mv l yX7_row (.code yX7_row cX7_row 5 none :: cWd) { frames := φ, cells := 0, slots := 0, locals := ψ } [rfv g 9, rfv g y1, .long (Int64.ofInt y2)] D (TYs k) (cW k z g π σ) (XV z mi aK aV (cW k z g π σ)) Unit (fun _ => True) (fun _ => cW k z g π r) 0 0) {π : Sh} {σ : St} {x1 : Int} {x2 : Int} {x4 : Int} {x6 : Int} {r : St} (hS : SHs π) (hm : Rw_shift N rRow π σ x1 x2 x4 x6 = some r) : Mv l yX7_shift (.code yX7_shift cX7_shift 18 none :: cWd) { frames := φ + 1, cells := 0, slots := 0, locals := ψ + 24 } [rfv g 9, rfv g x1, .long (Int64.ofInt x2), .long (Int64.ofInt x4), .long (Int64.ofInt x6)] D (TYs k) (cW k z g π σ) (XV z mi aK aV (cW k z g π σ)) Unit (fun _ => True) (fun _ => cW k z g π r) 0 0 := by
  intro sz
  refine v_met (cc := cX7_shift) (maxL := 18) (ret := none) (lv := [(0, rfv g 9), (1, rfv g x1), (2, .long (Int64.ofInt x2)), (4, .long (Int64.ofInt x4)), (6, .long (Int64.ofInt x6))]) (by decide) rfl (by simp [lg_sl, rfv_cat, cat_i, cat_l]) (by simp [lv_args, rfv_cat, cat_i, cat_l]) ?_
  intro p e s m below meth c ls C hE hr hlk hmn hl h
  rw [Rw_shift] at hm
  refine z_aload_n C dX7_shift_0 rfl (lv_at hl 1 rfl) ?_
  obtain ⟨g1, hm⟩ := grd_s hm
  refine cg_5_1 C h g1 cU_X4 (List.mem_cons_of_mem _ wl_X7_125) dX7_shift_1 ?_
  refine lv_iconst (v := Int32.ofInt 0) C.1 C.2.1 dX7_shift_4 (by decide) ?_
  obtain ⟨g2, hm⟩ := grd_s hm
  obtain ⟨g3, hm⟩ := grd_s hm
  refine c_qald C h (t := 6) (by decide) rfl g2 g3 dX7_shift_5 ?_
  obtain ⟨v4, e5, hm⟩ := bnd_s hm
  rw [e5]
  refine z_astore (lv' := [(8, rfv g v4), (0, rfv g 9), (1, rfv g x1), (2, .long (Int64.ofInt x2)), (4, .long (Int64.ofInt x4)), (6, .long (Int64.ofInt x6))]) C dX7_shift_6 hl (by decide) rfl (fun ls hl => ?_)
  refine lv_lconst (v := Int64.ofInt 1) C.1 C.2.1 dX7_shift_8 (by decide) ?_
  refine lv_lload C.1 C.2.1 dX7_shift_9 (lv_at hl 5 rfl) ?_
  obtain ⟨g6, hm⟩ := grd_s hm
  refine v_max_l C hl.1 dX7_shift_11 (by decide) g6 (List.mem_cons_of_mem _ wx_X7_176) (List.mem_cons_of_mem _ wxs_max_long) (List.mem_cons_of_mem _ wxc_max_long) (List.mem_cons_of_mem _ wt_Math) (by show 1 ≤ φ + 1; omega) (by simp [rfv_cat, cat_i, cat_l] <;> omega) (Nat.le_of_ble_eq_true rfl) (Nat.le_of_ble_eq_true rfl) ?_
  obtain ⟨v7, e8, hm⟩ := bnd_s hm
  rw [e8]
  refine lv_lstore (lv' := [(9, .long (Int64.ofInt v7)), (8, rfv g v4), (0, rfv g 9), (1, rfv g x1), (2, .long (Int64.ofInt x2)), (4, .long (Int64.ofInt x4)), (6, .long (Int64.ofInt x6))]) C.1 C.2.1 dX7_shift_14 hl (by decide) (by simp [rfv_cat, cat_i, cat_l]) (fun ls hl => ?_)
  refine lv_lload C.1 C.2.1 dX7_shift_16 (lv_at hl 5 rfl) ?_
  refine lv_lload C.1 C.2.1 dX7_shift_18 (lv_at hl 0 rfl) ?_
  obtain ⟨r9, e10, hm⟩ := obd_s hm
  refine v_callSl C h (kc_M_floorDiv l D k N x4 v7 r9 e10) (v_cwS 2 C.2.2.1 (gC_J9_floorDiv_f86c9 _) rfl rfl rfl (C.2.2.1 _ (List.mem_cons_of_mem _ wt_J9)) (C.2.2.1 _ (List.mem_cons_of_mem _ wm_X7_22)) (C.2.2.1 _ (List.mem_cons_of_mem _ ws_J9_floorDiv_f86c9)) hdS_J9_floorDiv_f86c9 ⟨(by show 0 + 1 ≤ φ + 1; omega), (by show 8 + (6 + 11) + 0 ≤ ψ + 24; omega)⟩) rfl hl.1 rfl (Nat.le_of_ble_eq_true rfl) dX7_shift_20 ⟨(Nat.le_of_ble_eq_true rfl), (Nat.le_of_ble_eq_true rfl)⟩ (fun H locs h => ?_)
  refine lv_lstore (lv' := [(11, .long (Int64.ofInt r9)), (9, .long (Int64.ofInt v7)), (8, rfv g v4), (0, rfv g 9), (1, rfv g x1), (2, .long (Int64.ofInt x2)), (4, .long (Int64.ofInt x4)), (6, .long (Int64.ofInt x6))]) C.1 C.2.1 dX7_shift_23 hl (by decide) rfl (fun ls hl => ?_)
  refine lv_lload C.1 C.2.1 dX7_shift_25 (lv_at hl 6 rfl) ?_
  refine lv_lload C.1 C.2.1 dX7_shift_27 (lv_at hl 1 rfl) ?_
  obtain ⟨r11, e12, hm⟩ := obd_s hm
  refine v_callSl C h (kc_Rw_ceiling l D k N x4 v7 r11 e12) (v_cwS 2 C.2.2.1 (gC_X7_ceiling _) rfl rfl rfl (C.2.2.1 _ (List.mem_cons_of_mem _ wt_X7)) (C.2.2.1 _ (List.mem_cons_of_mem _ wm_X7_104)) (C.2.2.1 _ (List.mem_cons_of_mem _ ws_X7_ceiling)) hdS_X7_ceiling ⟨(by show 1 + 1 ≤ φ + 1; omega), (by show 8 + (4 + 11) + 25 ≤ ψ + 24; omega)⟩) rfl hl.1 rfl (Nat.le_of_ble_eq_true rfl) dX7_shift_29 ⟨(Nat.le_of_ble_eq_true rfl), (Nat.le_of_ble_eq_true rfl)⟩ (fun H locs h => ?_)
  refine lv_lstore (lv' := [(13, .long (Int64.ofInt r11)), (11, .long (Int64.ofInt r9)), (9, .long (Int64.ofInt v7)), (8, rfv g v4), (0, rfv g 9), (1, rfv g x1), (2, .long (Int64.ofInt x2)), (4, .long (Int64.ofInt x4)), (6, .long (Int64.ofInt x6))]) C.1 C.2.1 dX7_shift_32 hl (by decide) rfl (fun ls hl => ?_)
  refine lv_lload C.1 C.2.1 dX7_shift_34 (lv_at hl 1 rfl) ?_
  refine lv_lstore (lv' := [(15, .long (Int64.ofInt r9)), (13, .long (Int64.ofInt r11)), (11, .long (Int64.ofInt r9)), (9, .long (Int64.ofInt v7)), (8, rfv g v4), (0, rfv g 9), (1, rfv g x1), (2, .long (Int64.ofInt x2)), (4, .long (Int64.ofInt x4)), (6, .long (Int64.ofInt x6))]) C.1 C.2.1 dX7_shift_36 hl (by decide) rfl (fun ls hl => ?_)
  exact kl_Rw_shift_38 (N := N) C hr hlk hE hS hφ hψ hmrRow hcrRow N (lv_sub hl [5, 6, 7, 8, 4, 3, 1, 0] rfl) h hm
end Z_Rw_shift
