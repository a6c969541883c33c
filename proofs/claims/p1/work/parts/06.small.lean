set_option maxHeartbeats 4000000 in
set_option maxRecDepth 100000 in
theorem m_X0_init (l : Launch) (D : va_G) (k : Nat → ClassId) (z : Nat) (aK aV : Nat → Nat) (a : Nat) (n : Int64) : Mv l yX0_init wsX0_init { frames := 4, cells := 3, slots := 10, locals := 72 } [.ref a, .long n] D (TYs k) [(a, .inr (1, [.long 0, .null, .int 0, .null, .null, .int 0, .null]))] (XE z aK aV [(a, .inr (1, [.long 0, .null, .int 0, .null, .null, .int 0, .null]))]) (Nat → Nat) (fun _ => True) (fun q => [(a, .inr (1, [.long n, .ref (q 0), .int 0, .ref (q 1), .ref (q 2), .int 0, .null])), ((q 0), .inl (k 3, 4, .inr (.inl (fun _ => 0)))), ((q 1), .inr (0, [.int 0, .ref z, .int 0])), ((q 2), .inr (0, [.int 0, .ref z, .int 0]))]) 3 10 := by
  intro sz
  refine x_met (cc := cX0_init) (maxL := 3) (ret := none) (by decide) rfl (Nat.le_of_ble_eq_true rfl) ?_
  intro p e s m below meth c ls C hX hsz hr hlk hmn hl h
  have hl : lv_has ls 3 [(0, .ref a), (1, .long n)] := hl
  have hE : En z aK aV (va_A [(a, .inr (1, [.long 0, .null, .int 0, .null, .null, .int 0, .null]))] sz) s s.heap := by rw [← hsz]; exact hX
  have iJx4a65c : ∀ w ∈ u_ws RJx4a65c TJx4a65c 3, w ∈ wsX0_init := fun w h => List.mem_cons_of_mem _ (List.mem_append_right _ h)
  have iX0 : ∀ w ∈ u_ws RX0 TX0 7, w ∈ wsX0_init := fun w h => List.mem_cons_of_mem _ (List.mem_append_left _ (List.mem_append_right _ h))
  refine lv_aload_n C.1 C.2.1 dX0_init_0 rfl (lv_at hl 0 rfl) ?_
  refine x_objInit C hl.1 dX0_init_1 (List.mem_of_getElem? (i := 1) rfl) (List.mem_of_getElem? (i := 2) rfl) (List.mem_of_getElem? (i := 3) rfl) (Nat.le_of_ble_eq_true rfl) (Nat.le_of_ble_eq_true rfl) ?_
  refine lv_aload_n C.1 C.2.1 dX0_init_4 rfl (lv_at hl 0 rfl) ?_
  refine lv_iconst (v := 4) C.1 C.2.1 dX0_init_5 (by decide) ?_
  refine x_newa (a0 := (4, .inr (.inl (fun _ => 0)))) C h 3 dX0_init_6 rfl rfl (List.mem_of_getElem? (i := 4) rfl) (fun _ => rfl) (by decide) (by decide) (by decide) (Nat.le_of_ble_eq_true rfl) (Nat.le_of_ble_eq_true rfl) (fun q6 H h => ?_)
  have h : Hp D _ _ H _ [(a, .inr (1, [.long 0, .null, .int 0, .null, .null, .int 0, .null])), (q6, .inl (k 3, 4, .inr (.inl (fun _ => 0))))] := h
  refine x_putF C hmn h 0 1 dX0_init_8 rfl rfl iX0 (Nat.le_of_ble_eq_true rfl) (List.mem_of_getElem? (i := 5) rfl) tyX0_ok nmX0 (Nat.le_of_ble_eq_true rfl) rfl rfl rfl rfl (fun H locs h => ?_)
  have h : Hp D _ _ H _ [(a, .inr (1, [.long 0, .ref q6, .int 0, .null, .null, .int 0, .null])), (q6, .inl (k 3, 4, .inr (.inl (fun _ => 0))))] := h
  refine lv_aload_n C.1 C.2.1 dX0_init_11 rfl (lv_at hl 0 rfl) ?_
  refine lv_iconst (v := 0) C.1 C.2.1 dX0_init_12 (by decide) ?_
  refine x_put C h 0 2 dX0_init_13 rfl rfl iX0 (Nat.le_of_ble_eq_true rfl) (List.mem_of_getElem? (i := 6) rfl) tyX0_ok nmX0 (Nat.le_of_ble_eq_true rfl) rfl rfl rfl (fun H locs h => ?_)
  have h : Hp D _ _ H _ [(a, .inr (1, [.long 0, .ref q6, .int 0, .null, .null, .int 0, .null])), (q6, .inl (k 3, 4, .inr (.inl (fun _ => 0))))] := h
  refine lv_aload_n C.1 C.2.1 dX0_init_16 rfl (lv_at hl 0 rfl) ?_
  refine x_new (fs := [.int 0, .null, .int 0]) C h 0 dX0_init_17 rfl iJx4a65c tyJx4a65c_ok (List.mem_of_getElem? (i := 7) rfl) (List.mem_of_getElem? (i := 8) rfl) (List.mem_of_getElem? (i := 9) rfl) (by decide) (Nat.le_of_ble_eq_true rfl) (Nat.le_of_ble_eq_true rfl) (fun q17 H h => ?_)
  have h : Hp D _ _ H _ [(a, .inr (1, [.long 0, .ref q6, .int 0, .null, .null, .int 0, .null])), (q6, .inl (k 3, 4, .inr (.inl (fun _ => 0)))), (q17, .inr (0, [.int 0, .null, .int 0]))] := h
  refine lv_dup C.1 C.2.1 dX0_init_20 rfl ?_
  refine x_callIv (wr := [(a, .inr (1, [.long 0, .ref q6, .int 0, .null, .null, .int 0, .null])), (q6, .inl (k 3, 4, .inr (.inl (fun _ => 0))))]) C h (m_List l D k z aK aV q17) [2] [0, 1] rfl rfl (by decide) (by decide) (by decide) (xok_E hE h [2] rfl) (cwI 0 C.2.2.1 gX0_init_Jx4a65c_init_da8c8 rfl rfl rfl (C.2.2.1 _ (List.mem_of_getElem? (i := 9) rfl)) (C.2.2.1 _ (List.mem_of_getElem? (i := 15) rfl)) (C.2.2.1 _ (List.mem_of_getElem? (i := 16) rfl)) rfl (by decide +kernel) ⟨Nat.le_of_ble_eq_true rfl, Nat.le_of_ble_eq_true rfl⟩) rfl hl.1 rfl (Nat.le_of_ble_eq_true rfl) dX0_init_21 ⟨Nat.le_of_ble_eq_true rfl, Nat.le_of_ble_eq_true rfl⟩ (fun u H locs hu h => ?_)
  have h : Hp D _ _ H _ [(a, .inr (1, [.long 0, .ref q6, .int 0, .null, .null, .int 0, .null])), (q6, .inl (k 3, 4, .inr (.inl (fun _ => 0)))), (q17, .inr (0, [.int 0, .ref z, .int 0]))] := h
  refine x_putF C hmn h 0 3 dX0_init_24 rfl rfl iX0 (Nat.le_of_ble_eq_true rfl) (List.mem_of_getElem? (i := 10) rfl) tyX0_ok nmX0 (Nat.le_of_ble_eq_true rfl) rfl rfl rfl rfl (fun H locs h => ?_)
  have h : Hp D _ _ H _ [(a, .inr (1, [.long 0, .ref q6, .int 0, .ref q17, .null, .int 0, .null])), (q6, .inl (k 3, 4, .inr (.inl (fun _ => 0)))), (q17, .inr (0, [.int 0, .ref z, .int 0]))] := h
  refine lv_aload_n C.1 C.2.1 dX0_init_27 rfl (lv_at hl 0 rfl) ?_
  refine x_new (fs := [.int 0, .null, .int 0]) C h 0 dX0_init_28 rfl iJx4a65c tyJx4a65c_ok (List.mem_of_getElem? (i := 7) rfl) (List.mem_of_getElem? (i := 8) rfl) (List.mem_of_getElem? (i := 9) rfl) (by decide) (Nat.le_of_ble_eq_true rfl) (Nat.le_of_ble_eq_true rfl) (fun q28 H h => ?_)
  have h : Hp D _ _ H _ [(a, .inr (1, [.long 0, .ref q6, .int 0, .ref q17, .null, .int 0, .null])), (q6, .inl (k 3, 4, .inr (.inl (fun _ => 0)))), (q17, .inr (0, [.int 0, .ref z, .int 0])), (q28, .inr (0, [.int 0, .null, .int 0]))] := h
  refine lv_dup C.1 C.2.1 dX0_init_31 rfl ?_
  refine x_callIv (wr := [(a, .inr (1, [.long 0, .ref q6, .int 0, .ref q17, .null, .int 0, .null])), (q6, .inl (k 3, 4, .inr (.inl (fun _ => 0)))), (q17, .inr (0, [.int 0, .ref z, .int 0]))]) C h (m_List l D k z aK aV q28) [3] [0, 1, 2] rfl rfl (by decide) (by decide) (by decide) (xok_E hE h [3] rfl) (cwI 0 C.2.2.1 gX0_init_Jx4a65c_init_da8c8 rfl rfl rfl (C.2.2.1 _ (List.mem_of_getElem? (i := 9) rfl)) (C.2.2.1 _ (List.mem_of_getElem? (i := 15) rfl)) (C.2.2.1 _ (List.mem_of_getElem? (i := 16) rfl)) rfl (by decide +kernel) ⟨Nat.le_of_ble_eq_true rfl, Nat.le_of_ble_eq_true rfl⟩) rfl hl.1 rfl (Nat.le_of_ble_eq_true rfl) dX0_init_32 ⟨Nat.le_of_ble_eq_true rfl, Nat.le_of_ble_eq_true rfl⟩ (fun u H locs hu h => ?_)
  have h : Hp D _ _ H _ [(a, .inr (1, [.long 0, .ref q6, .int 0, .ref q17, .null, .int 0, .null])), (q6, .inl (k 3, 4, .inr (.inl (fun _ => 0)))), (q17, .inr (0, [.int 0, .ref z, .int 0])), (q28, .inr (0, [.int 0, .ref z, .int 0]))] := h
  refine x_putF C hmn h 0 4 dX0_init_35 rfl rfl iX0 (Nat.le_of_ble_eq_true rfl) (List.mem_of_getElem? (i := 11) rfl) tyX0_ok nmX0 (Nat.le_of_ble_eq_true rfl) rfl rfl rfl rfl (fun H locs h => ?_)
  have h : Hp D _ _ H _ [(a, .inr (1, [.long 0, .ref q6, .int 0, .ref q17, .ref q28, .int 0, .null])), (q6, .inl (k 3, 4, .inr (.inl (fun _ => 0)))), (q17, .inr (0, [.int 0, .ref z, .int 0])), (q28, .inr (0, [.int 0, .ref z, .int 0]))] := h
  refine lv_aload_n C.1 C.2.1 dX0_init_38 rfl (lv_at hl 0 rfl) ?_
  refine lv_iconst (v := 0) C.1 C.2.1 dX0_init_39 (by decide) ?_
  refine x_put C h 0 5 dX0_init_40 rfl rfl iX0 (Nat.le_of_ble_eq_true rfl) (List.mem_of_getElem? (i := 12) rfl) tyX0_ok nmX0 (Nat.le_of_ble_eq_true rfl) rfl rfl rfl (fun H locs h => ?_)
  have h : Hp D _ _ H _ [(a, .inr (1, [.long 0, .ref q6, .int 0, .ref q17, .ref q28, .int 0, .null])), (q6, .inl (k 3, 4, .inr (.inl (fun _ => 0)))), (q17, .inr (0, [.int 0, .ref z, .int 0])), (q28, .inr (0, [.int 0, .ref z, .int 0]))] := h
  refine lv_aload_n C.1 C.2.1 dX0_init_43 rfl (lv_at hl 0 rfl) ?_
  refine lv_null C.1 C.2.1 dX0_init_44 ?_
  refine x_put C h 0 6 dX0_init_45 rfl rfl iX0 (Nat.le_of_ble_eq_true rfl) (List.mem_of_getElem? (i := 13) rfl) tyX0_ok nmX0 (Nat.le_of_ble_eq_true rfl) rfl rfl rfl (fun H locs h => ?_)
  have h : Hp D _ _ H _ [(a, .inr (1, [.long 0, .ref q6, .int 0, .ref q17, .ref q28, .int 0, .null])), (q6, .inl (k 3, 4, .inr (.inl (fun _ => 0)))), (q17, .inr (0, [.int 0, .ref z, .int 0])), (q28, .inr (0, [.int 0, .ref z, .int 0]))] := h
  refine lv_aload_n C.1 C.2.1 dX0_init_48 rfl (lv_at hl 0 rfl) ?_
  refine lv_lload_n C.1 C.2.1 dX0_init_49 rfl (lv_at hl 1 rfl) ?_
  refine x_putF C hmn h 0 0 dX0_init_50 rfl rfl iX0 (Nat.le_of_ble_eq_true rfl) (List.mem_of_getElem? (i := 14) rfl) tyX0_ok nmX0 (Nat.le_of_ble_eq_true rfl) rfl rfl rfl rfl (fun H locs h => ?_)
  have h : Hp D _ _ H _ [(a, .inr (1, [.long n, .ref q6, .int 0, .ref q17, .ref q28, .int 0, .null])), (q6, .inl (k 3, 4, .inr (.inl (fun _ => 0)))), (q17, .inr (0, [.int 0, .ref z, .int 0])), (q28, .inr (0, [.int 0, .ref z, .int 0]))] := h
  exact x_vret C h hr hlk (fun j => if j = 0 then q6 else if j = 1 then q17 else if j = 2 then q28 else 0) dX0_init_53 trivial rfl (Nat.le_of_ble_eq_true rfl) (Nat.le_of_ble_eq_true rfl)
set_option maxHeartbeats 4000000 in
set_option maxRecDepth 100000 in
theorem m_X10_init (l : Launch) (D : va_G) (k : Nat → ClassId) (a b : Nat) : Mv l yX10_init wsX10_init { frames := 1, cells := 0, slots := 0, locals := 12 } [.ref a, .ref b] D (TYs k) [(a, .inr (11, [.null, .null, .int 0, .int 0, .int 0, .int 0]))] (fun _ => True) (Unit) (fun _ => True) (fun _ => [(a, .inr (11, [.ref b, .null, .int 0, .int 0, .int 0, .int 0]))]) 0 0 := by
  intro sz
  refine x_met (cc := cX10_init) (maxL := 2) (ret := none) (by decide) rfl (Nat.le_of_ble_eq_true rfl) ?_
  intro p e s m below meth c ls C hX hsz hr hlk hmn hl h
  have hl : lv_has ls 2 [(0, .ref a), (1, .ref b)] := hl
  have iX10 : ∀ w ∈ u_ws RX10 TX10 6, w ∈ wsX10_init := fun w h => List.mem_cons_of_mem _ (List.mem_append_right _ h)
  refine lv_aload_n C.1 C.2.1 dX10_init_0 rfl (lv_at hl 0 rfl) ?_
  refine x_objInit C hl.1 dX10_init_1 (List.mem_of_getElem? (i := 1) rfl) (List.mem_of_getElem? (i := 2) rfl) (List.mem_of_getElem? (i := 3) rfl) (Nat.le_of_ble_eq_true rfl) (Nat.le_of_ble_eq_true rfl) ?_
  refine lv_aload_n C.1 C.2.1 dX10_init_4 rfl (lv_at hl 0 rfl) ?_
  refine lv_null C.1 C.2.1 dX10_init_5 ?_
  refine x_put C h 0 1 dX10_init_6 rfl rfl iX10 (Nat.le_of_ble_eq_true rfl) (List.mem_of_getElem? (i := 4) rfl) tyX10_ok nmX10 (Nat.le_of_ble_eq_true rfl) rfl rfl rfl (fun H locs h => ?_)
  have h : Hp D _ _ H _ [(a, .inr (11, [.null, .null, .int 0, .int 0, .int 0, .int 0]))] := h
  refine lv_aload_n C.1 C.2.1 dX10_init_9 rfl (lv_at hl 0 rfl) ?_
  refine lv_iconst (v := 0) C.1 C.2.1 dX10_init_10 (by decide) ?_
  refine x_put C h 0 2 dX10_init_11 rfl rfl iX10 (Nat.le_of_ble_eq_true rfl) (List.mem_of_getElem? (i := 5) rfl) tyX10_ok nmX10 (Nat.le_of_ble_eq_true rfl) rfl rfl rfl (fun H locs h => ?_)
  have h : Hp D _ _ H _ [(a, .inr (11, [.null, .null, .int 0, .int 0, .int 0, .int 0]))] := h
  refine lv_aload_n C.1 C.2.1 dX10_init_14 rfl (lv_at hl 0 rfl) ?_
  refine lv_iconst (v := 0) C.1 C.2.1 dX10_init_15 (by decide) ?_
  refine x_put C h 0 3 dX10_init_16 rfl rfl iX10 (Nat.le_of_ble_eq_true rfl) (List.mem_of_getElem? (i := 6) rfl) tyX10_ok nmX10 (Nat.le_of_ble_eq_true rfl) rfl rfl rfl (fun H locs h => ?_)
  have h : Hp D _ _ H _ [(a, .inr (11, [.null, .null, .int 0, .int 0, .int 0, .int 0]))] := h
  refine lv_aload_n C.1 C.2.1 dX10_init_19 rfl (lv_at hl 0 rfl) ?_
  refine lv_iconst (v := 0) C.1 C.2.1 dX10_init_20 (by decide) ?_
  refine x_put C h 0 4 dX10_init_21 rfl rfl iX10 (Nat.le_of_ble_eq_true rfl) (List.mem_of_getElem? (i := 7) rfl) tyX10_ok nmX10 (Nat.le_of_ble_eq_true rfl) rfl rfl rfl (fun H locs h => ?_)
  have h : Hp D _ _ H _ [(a, .inr (11, [.null, .null, .int 0, .int 0, .int 0, .int 0]))] := h
  refine lv_aload_n C.1 C.2.1 dX10_init_24 rfl (lv_at hl 0 rfl) ?_
  refine lv_iconst (v := 0) C.1 C.2.1 dX10_init_25 (by decide) ?_
  refine x_put C h 0 5 dX10_init_26 rfl rfl iX10 (Nat.le_of_ble_eq_true rfl) (List.mem_of_getElem? (i := 8) rfl) tyX10_ok nmX10 (Nat.le_of_ble_eq_true rfl) rfl rfl rfl (fun H locs h => ?_)
  have h : Hp D _ _ H _ [(a, .inr (11, [.null, .null, .int 0, .int 0, .int 0, .int 0]))] := h
  refine lv_aload_n C.1 C.2.1 dX10_init_29 rfl (lv_at hl 0 rfl) ?_
  refine lv_aload_n C.1 C.2.1 dX10_init_30 rfl (lv_at hl 1 rfl) ?_
  refine x_putF C hmn h 0 0 dX10_init_31 rfl rfl iX10 (Nat.le_of_ble_eq_true rfl) (List.mem_of_getElem? (i := 9) rfl) tyX10_ok nmX10 (Nat.le_of_ble_eq_true rfl) rfl rfl rfl rfl (fun H locs h => ?_)
  have h : Hp D _ _ H _ [(a, .inr (11, [.ref b, .null, .int 0, .int 0, .int 0, .int 0]))] := h
  exact x_vret C h hr hlk () dX10_init_34 trivial rfl (Nat.le_of_ble_eq_true rfl) (Nat.le_of_ble_eq_true rfl)
set_option maxHeartbeats 4000000 in
set_option maxRecDepth 100000 in
theorem m_X7_init (l : Launch) (D : va_G) (k : Nat → ClassId) (z : Nat) (aK aV : Nat → Nat) (a : Nat) : Mv l yX7_init wsX7_init { frames := 2, cells := 14, slots := 43182, locals := 32 } [.ref a] D (TYs k) [(a, .inr (8, [.null, .int 0]))] (XE z aK aV [(a, .inr (8, [.null, .int 0]))]) (Nat → Nat) (fun _ => True) (fun q => [(a, .inr (8, [.ref (q 0), .int 0])), ((q 0), .inr (2, [.ref (q 1), .ref (q 2), .ref (q 3), .ref (q 4), .ref (q 5), .ref (q 6), .int 0, .ref (q 7), .ref (q 8), .ref (q 9), .ref (q 10), .ref (q 11), .ref (q 12), .ref (q 13)])), ((q 1), .inl (k 3, 6000, .inr (.inl (fun _ => 0)))), ((q 2), .inl (k 3, 6000, .inr (.inl (fun _ => 0)))), ((q 3), .inl (k 3, 6000, .inr (.inl (fun _ => 0)))), ((q 4), .inl (k 2, 6000, .inl (fun _ => 0))), ((q 5), .inl (k 4, 6000, .inl (fun _ => 0))), ((q 6), .inl (k 2, 6000, .inl (fun _ => 0))), ((q 7), .inl (k 2, 1024, .inl (fun _ => 0))), ((q 8), .inl (k 4, 1024, .inl (fun _ => 0))), ((q 9), .inl (k 3, 1024, .inr (.inl (fun _ => 0)))), ((q 10), .inl (k 3, 1024, .inr (.inl (fun _ => 0)))), ((q 11), .inl (k 3, 1024, .inr (.inl (fun _ => 0)))), ((q 12), .inl (k 3, 1024, .inr (.inl (fun _ => 0)))), ((q 13), .inl (k 3, 1024, .inr (.inl (fun _ => 0))))]) 14 43182 := by
  intro sz
  refine x_met (cc := cX7_init) (maxL := 1) (ret := none) (by decide) rfl (Nat.le_of_ble_eq_true rfl) ?_
  intro p e s m below meth c ls C hX hsz hr hlk hmn hl h
  have hl : lv_has ls 1 [(0, .ref a)] := hl
  have hE : En z aK aV (va_A [(a, .inr (8, [.null, .int 0]))] sz) s s.heap := by rw [← hsz]; exact hX
  have iX1 : ∀ w ∈ u_ws RX1 TX1 14, w ∈ wsX7_init := fun w h => List.mem_cons_of_mem _ (List.mem_append_left _ (List.mem_append_right _ h))
  have iX7 : ∀ w ∈ u_ws RX7 TX7 2, w ∈ wsX7_init := fun w h => List.mem_cons_of_mem _ (List.mem_append_right _ h)
  refine lv_aload_n C.1 C.2.1 dX7_init_0 rfl (lv_at hl 0 rfl) ?_
  refine x_objInit C hl.1 dX7_init_1 (List.mem_of_getElem? (i := 1) rfl) (List.mem_of_getElem? (i := 2) rfl) (List.mem_of_getElem? (i := 3) rfl) (Nat.le_of_ble_eq_true rfl) (Nat.le_of_ble_eq_true rfl) ?_
  refine lv_aload_n C.1 C.2.1 dX7_init_4 rfl (lv_at hl 0 rfl) ?_
  refine x_new (fs := [.null, .null, .null, .null, .null, .null, .int 0, .null, .null, .null, .null, .null, .null, .null]) C h 2 dX7_init_5 rfl iX1 tyX1_ok (List.mem_of_getElem? (i := 4) rfl) (List.mem_of_getElem? (i := 5) rfl) (List.mem_of_getElem? (i := 6) rfl) (by decide) (Nat.le_of_ble_eq_true rfl) (Nat.le_of_ble_eq_true rfl) (fun q5 H h => ?_)
  have h : Hp D _ _ H _ [(a, .inr (8, [.null, .int 0])), (q5, .inr (2, [.null, .null, .null, .null, .null, .null, .int 0, .null, .null, .null, .null, .null, .null, .null]))] := h
  refine lv_dup C.1 C.2.1 dX7_init_8 rfl ?_
  refine x_callINv (wr := [(a, .inr (8, [.null, .int 0]))]) C h (m_X1_init l D k q5) [1] [0] rfl rfl (by decide) (by decide) (by decide) xok_T ⟨va_cnB (host := RX11) 0 C.2.2.1 gX7_init_X1_init_n11 rfl rfl rfl hE.2.2.2.1 (C.2.2.1 _ (List.mem_of_getElem? (i := 6) rfl)) (by decide +kernel) ⟨Nat.le_of_ble_eq_true rfl, Nat.le_of_ble_eq_true rfl⟩, rfl, C.2.2.1 _ (List.mem_of_getElem? (i := 9) rfl)⟩ rfl hl.1 rfl (Nat.le_of_ble_eq_true rfl) dX7_init_9 ⟨Nat.le_of_ble_eq_true rfl, Nat.le_of_ble_eq_true rfl⟩ (fun u H locs hu h => ?_)
  have h : Hp D _ _ H _ [(a, .inr (8, [.null, .int 0])), (q5, .inr (2, [.ref (u 0), .ref (u 1), .ref (u 2), .ref (u 3), .ref (u 4), .ref (u 5), .int 0, .ref (u 6), .ref (u 7), .ref (u 8), .ref (u 9), .ref (u 10), .ref (u 11), .ref (u 12)])), ((u 0), .inl (k 3, 6000, .inr (.inl (fun _ => 0)))), ((u 1), .inl (k 3, 6000, .inr (.inl (fun _ => 0)))), ((u 2), .inl (k 3, 6000, .inr (.inl (fun _ => 0)))), ((u 3), .inl (k 2, 6000, .inl (fun _ => 0))), ((u 4), .inl (k 4, 6000, .inl (fun _ => 0))), ((u 5), .inl (k 2, 6000, .inl (fun _ => 0))), ((u 6), .inl (k 2, 1024, .inl (fun _ => 0))), ((u 7), .inl (k 4, 1024, .inl (fun _ => 0))), ((u 8), .inl (k 3, 1024, .inr (.inl (fun _ => 0)))), ((u 9), .inl (k 3, 1024, .inr (.inl (fun _ => 0)))), ((u 10), .inl (k 3, 1024, .inr (.inl (fun _ => 0)))), ((u 11), .inl (k 3, 1024, .inr (.inl (fun _ => 0)))), ((u 12), .inl (k 3, 1024, .inr (.inl (fun _ => 0))))] := h
  refine x_putF C hmn h 0 0 dX7_init_12 rfl rfl iX7 (Nat.le_of_ble_eq_true rfl) (List.mem_of_getElem? (i := 7) rfl) tyX7_ok nmX7 (Nat.le_of_ble_eq_true rfl) rfl rfl rfl rfl (fun H locs h => ?_)
  have h : Hp D _ _ H _ [(a, .inr (8, [.ref q5, .int 0])), (q5, .inr (2, [.ref (u 0), .ref (u 1), .ref (u 2), .ref (u 3), .ref (u 4), .ref (u 5), .int 0, .ref (u 6), .ref (u 7), .ref (u 8), .ref (u 9), .ref (u 10), .ref (u 11), .ref (u 12)])), ((u 0), .inl (k 3, 6000, .inr (.inl (fun _ => 0)))), ((u 1), .inl (k 3, 6000, .inr (.inl (fun _ => 0)))), ((u 2), .inl (k 3, 6000, .inr (.inl (fun _ => 0)))), ((u 3), .inl (k 2, 6000, .inl (fun _ => 0))), ((u 4), .inl (k 4, 6000, .inl (fun _ => 0))), ((u 5), .inl (k 2, 6000, .inl (fun _ => 0))), ((u 6), .inl (k 2, 1024, .inl (fun _ => 0))), ((u 7), .inl (k 4, 1024, .inl (fun _ => 0))), ((u 8), .inl (k 3, 1024, .inr (.inl (fun _ => 0)))), ((u 9), .inl (k 3, 1024, .inr (.inl (fun _ => 0)))), ((u 10), .inl (k 3, 1024, .inr (.inl (fun _ => 0)))), ((u 11), .inl (k 3, 1024, .inr (.inl (fun _ => 0)))), ((u 12), .inl (k 3, 1024, .inr (.inl (fun _ => 0))))] := h
  refine lv_aload_n C.1 C.2.1 dX7_init_15 rfl (lv_at hl 0 rfl) ?_
  refine lv_iconst (v := 0) C.1 C.2.1 dX7_init_16 (by decide) ?_
  refine x_put C h 0 1 dX7_init_17 rfl rfl iX7 (Nat.le_of_ble_eq_true rfl) (List.mem_of_getElem? (i := 8) rfl) tyX7_ok nmX7 (Nat.le_of_ble_eq_true rfl) rfl rfl rfl (fun H locs h => ?_)
  have h : Hp D _ _ H _ [(a, .inr (8, [.ref q5, .int 0])), (q5, .inr (2, [.ref (u 0), .ref (u 1), .ref (u 2), .ref (u 3), .ref (u 4), .ref (u 5), .int 0, .ref (u 6), .ref (u 7), .ref (u 8), .ref (u 9), .ref (u 10), .ref (u 11), .ref (u 12)])), ((u 0), .inl (k 3, 6000, .inr (.inl (fun _ => 0)))), ((u 1), .inl (k 3, 6000, .inr (.inl (fun _ => 0)))), ((u 2), .inl (k 3, 6000, .inr (.inl (fun _ => 0)))), ((u 3), .inl (k 2, 6000, .inl (fun _ => 0))), ((u 4), .inl (k 4, 6000, .inl (fun _ => 0))), ((u 5), .inl (k 2, 6000, .inl (fun _ => 0))), ((u 6), .inl (k 2, 1024, .inl (fun _ => 0))), ((u 7), .inl (k 4, 1024, .inl (fun _ => 0))), ((u 8), .inl (k 3, 1024, .inr (.inl (fun _ => 0)))), ((u 9), .inl (k 3, 1024, .inr (.inl (fun _ => 0)))), ((u 10), .inl (k 3, 1024, .inr (.inl (fun _ => 0)))), ((u 11), .inl (k 3, 1024, .inr (.inl (fun _ => 0)))), ((u 12), .inl (k 3, 1024, .inr (.inl (fun _ => 0))))] := h
  exact x_vret C h hr hlk (fun j => if j = 0 then q5 else if j = 1 then (u 0) else if j = 2 then (u 1) else if j = 3 then (u 2) else if j = 4 then (u 3) else if j = 5 then (u 4) else if j = 6 then (u 5) else if j = 7 then (u 6) else if j = 8 then (u 7) else if j = 9 then (u 8) else if j = 10 then (u 9) else if j = 11 then (u 10) else if j = 12 then (u 11) else if j = 13 then (u 12) else 0) dX7_init_20 trivial rfl (Nat.le_of_ble_eq_true rfl) (Nat.le_of_ble_eq_true rfl)
def isDig (x : Int32) : Int32 := if x < 48 then 0 else if 57 < x then 0 else 1
set_option maxHeartbeats 4000000 in
set_option maxRecDepth 100000 in
theorem m_X8_isDigit (l : Launch) (D : va_G) (k : Nat → ClassId) (x : Int32) : Mi l yX8_isDigit wsX8_isDigit { frames := 0, cells := 0, slots := 0, locals := 0 } [.int x] D (TYs k) [] (fun _ => True) (Unit) (fun r _ => r = isDig x) (fun _ => []) 0 0 := by
  intro sz
  refine x_met (cc := cX8_isDigit) (maxL := 1) (ret := (some .boolean)) (by decide) rfl (Nat.le_of_ble_eq_true rfl) ?_
  intro p e s m below meth c ls C hX hsz hr hlk hmn hl h
  have hl : lv_has ls 1 [(0, .int x)] := hl
  refine lv_iload_n C.1 C.2.1 dX8_isDigit_0 rfl (lv_at hl 0 rfl) ?_
  refine lv_bipush (v := 48) C.1 C.2.1 dX8_isDigit_1 (by decide) ?_
  refine lv_icmp_lt (tgt := 16) C.1 C.2.1 dX8_isDigit_3 (by decide) (fun c3_1 => ?_) (fun c3_1 => ?_)
  · refine lv_iconst (v := 0) C.1 C.2.1 dX8_isDigit_16 (by decide) ?_
    exact x_iret (v := 0) C h hr hlk () dX8_isDigit_17 rfl (by unfold isDig; rw [if_pos c3_1]) rfl (Nat.le_of_ble_eq_true rfl) (Nat.le_of_ble_eq_true rfl)
  · refine lv_iload_n C.1 C.2.1 dX8_isDigit_6 rfl (lv_at hl 0 rfl) ?_
    refine lv_bipush (v := 57) C.1 C.2.1 dX8_isDigit_7 (by decide) ?_
    refine lv_icmp_gt (tgt := 16) C.1 C.2.1 dX8_isDigit_9 (by decide) (fun c9_2 => ?_) (fun c9_2 => ?_)
    · refine lv_iconst (v := 0) C.1 C.2.1 dX8_isDigit_16 (by decide) ?_
      exact x_iret (v := 0) C h hr hlk () dX8_isDigit_17 rfl (by unfold isDig; rw [if_neg c3_1, if_pos c9_2]) rfl (Nat.le_of_ble_eq_true rfl) (Nat.le_of_ble_eq_true rfl)
    · refine lv_iconst (v := 1) C.1 C.2.1 dX8_isDigit_12 (by decide) ?_
      refine lv_goto (tgt := 17) C.1 C.2.1 dX8_isDigit_13 (by decide) ?_
      exact x_iret (v := 1) C h hr hlk () dX8_isDigit_17 rfl (by unfold isDig; rw [if_neg c3_1, if_neg c9_2]) rfl (Nat.le_of_ble_eq_true rfl) (Nat.le_of_ble_eq_true rfl)
def lonG (n : Int64) (x : Int32) : Int64 := n * 37 + (if isDig x = 0 then x - 97 + 1 else x - 48 + 27).toInt64
set_option maxHeartbeats 4000000 in
set_option maxRecDepth 100000 in
theorem m_X8_longer (l : Launch) (D : va_G) (k : Nat → ClassId) (n : Int64) (x : Int32) : Ml l yX8_longer wsX8_longer { frames := 1, cells := 0, slots := 0, locals := 20 } [.long n, .int x] D (TYs k) [] (fun _ => True) (Unit) (fun r _ => r = lonG n x) (fun _ => []) 0 0 := by
  intro sz
  refine x_met (cc := cX8_longer) (maxL := 3) (ret := (some .long)) (by decide) rfl (Nat.le_of_ble_eq_true rfl) ?_
  intro p e s m below meth c ls C hX hsz hr hlk hmn hl h
  have hl : lv_has ls 3 [(0, .long n), (2, .int x)] := hl
  refine lv_lload_n C.1 C.2.1 dX8_longer_0 rfl (lv_at hl 0 rfl) ?_
  refine lv_ldc2 C.1 C.2.1 C.2.2.2.1 (C.2.2.1 _ (List.mem_of_getElem? (i := 1) rfl)) dX8_longer_1 ?_
  refine lv_lmul C.1 C.2.1 dX8_longer_4 ?_
  refine lv_iload_n C.1 C.2.1 dX8_longer_5 rfl (lv_at hl 1 rfl) ?_
  refine x_callSi (wr := []) C h (m_X8_isDigit l D k x) [] [] rfl rfl (by decide) (by decide) (by decide) xok_T (cwS 1 C.2.2.1 gX8_longer_X8_isDigit rfl rfl rfl (by decide +kernel) ⟨Nat.le_of_ble_eq_true rfl, Nat.le_of_ble_eq_true rfl⟩) rfl hl.1 rfl (Nat.le_of_ble_eq_true rfl) dX8_longer_6 ⟨Nat.le_of_ble_eq_true rfl, Nat.le_of_ble_eq_true rfl⟩ (fun r6 u H locs hu h => ?_)
  have h : Hp D _ _ H _ [] := h
  refine lv_if_eq (tgt := 22) C.1 C.2.1 dX8_longer_9 (by decide) (fun c9_1 => ?_) (fun c9_1 => ?_)
  · refine lv_iload_n C.1 C.2.1 dX8_longer_22 rfl (lv_at hl 1 rfl) ?_
    refine lv_bipush (v := 97) C.1 C.2.1 dX8_longer_23 (by decide) ?_
    refine lv_isub C.1 C.2.1 dX8_longer_25 ?_
    refine lv_iconst (v := 1) C.1 C.2.1 dX8_longer_26 (by decide) ?_
    refine lv_iadd C.1 C.2.1 dX8_longer_27 ?_
    refine lv_i2l (v := (((x - 97) + 1)).toInt64) C.1 C.2.1 dX8_longer_28 rfl ?_
    refine lv_ladd C.1 C.2.1 dX8_longer_29 ?_
    exact x_lret (v := ((n * 37) + (((x - 97) + 1)).toInt64)) C h hr hlk () dX8_longer_30 (by unfold lonG; rw [← hu, if_pos c9_1]) rfl (Nat.le_of_ble_eq_true rfl) (Nat.le_of_ble_eq_true rfl)
  · refine lv_iload_n C.1 C.2.1 dX8_longer_12 rfl (lv_at hl 1 rfl) ?_
    refine lv_bipush (v := 48) C.1 C.2.1 dX8_longer_13 (by decide) ?_
    refine lv_isub C.1 C.2.1 dX8_longer_15 ?_
    refine lv_bipush (v := 27) C.1 C.2.1 dX8_longer_16 (by decide) ?_
    refine lv_iadd C.1 C.2.1 dX8_longer_18 ?_
    refine lv_goto (tgt := 28) C.1 C.2.1 dX8_longer_19 (by decide) ?_
    refine lv_i2l (v := (((x - 48) + 27)).toInt64) C.1 C.2.1 dX8_longer_28 rfl ?_
    refine lv_ladd C.1 C.2.1 dX8_longer_29 ?_
    exact x_lret (v := ((n * 37) + (((x - 48) + 27)).toInt64)) C h hr hlk () dX8_longer_30 (by unfold lonG; rw [← hu, if_neg c9_1]) rfl (Nat.le_of_ble_eq_true rfl) (Nat.le_of_ble_eq_true rfl)
