set_option maxHeartbeats 4000000 in
set_option maxRecDepth 100000 in
theorem m_X8_init (l : Launch) (D : va_G) (k : Nat → ClassId) (a : Nat) : Mv l yX8_init wsX8_init { frames := 1, cells := 1, slots := 2000, locals := 12 } [.ref a] D (TYs k) [(a, .inr (9, [.null, .int 0, .int 0, .int 0, .int 0, .int 0, .int 0, .int 0, .long 0, .int 0, .int 0]))] (fun _ => True) (Nat → Nat) (fun _ => True) (fun q => [(a, .inr (9, [.ref (q 0), .int 0, .int 0, .int 0, .int 0, .int 6, .int 0, .int 0, .long 0, .int 0, .int 1])), ((q 0), .inl (k 0, 2000, .inl (fun _ => 0)))]) 1 2000 := by
  intro sz
  refine x_met (cc := cX8_init) (maxL := 1) (ret := none) (by decide) rfl (Nat.le_of_ble_eq_true rfl) ?_
  intro p e s m below meth c ls C hX hsz hr hlk hmn hl h
  have hl : lv_has ls 1 [(0, .ref a)] := hl
  have iX8 : ∀ w ∈ u_ws RX8 TX8 11, w ∈ wsX8_init := fun w h => List.mem_cons_of_mem _ (List.mem_append_right _ h)
  refine lv_aload_n C.1 C.2.1 dX8_init_0 rfl (lv_at hl 0 rfl) ?_
  refine x_objInit C hl.1 dX8_init_1 (List.mem_of_getElem? (i := 1) rfl) (List.mem_of_getElem? (i := 2) rfl) (List.mem_of_getElem? (i := 3) rfl) (Nat.le_of_ble_eq_true rfl) (Nat.le_of_ble_eq_true rfl) ?_
  refine lv_aload_n C.1 C.2.1 dX8_init_4 rfl (lv_at hl 0 rfl) ?_
  refine lv_sipush (v := 2000) C.1 C.2.1 dX8_init_5 (by decide) ?_
  refine x_newa (a0 := (2000, .inl (fun _ => 0))) C h 0 dX8_init_8 rfl rfl (List.mem_of_getElem? (i := 4) rfl) (fun _ => rfl) (by decide) (by decide) (by decide) (Nat.le_of_ble_eq_true rfl) (Nat.le_of_ble_eq_true rfl) (fun q8 H h => ?_)
  have h : Hp D _ _ H _ [(a, .inr (9, [.null, .int 0, .int 0, .int 0, .int 0, .int 0, .int 0, .int 0, .long 0, .int 0, .int 0])), (q8, .inl (k 0, 2000, .inl (fun _ => 0)))] := h
  refine x_putF C hmn h 0 0 dX8_init_10 rfl rfl iX8 (Nat.le_of_ble_eq_true rfl) (List.mem_of_getElem? (i := 5) rfl) tyX8_ok nmX8 (Nat.le_of_ble_eq_true rfl) rfl rfl rfl rfl (fun H locs h => ?_)
  have h : Hp D _ _ H _ [(a, .inr (9, [.ref q8, .int 0, .int 0, .int 0, .int 0, .int 0, .int 0, .int 0, .long 0, .int 0, .int 0])), (q8, .inl (k 0, 2000, .inl (fun _ => 0)))] := h
  refine lv_aload_n C.1 C.2.1 dX8_init_13 rfl (lv_at hl 0 rfl) ?_
  refine lv_iconst (v := 0) C.1 C.2.1 dX8_init_14 (by decide) ?_
  refine x_put C h 0 1 dX8_init_15 rfl rfl iX8 (Nat.le_of_ble_eq_true rfl) (List.mem_of_getElem? (i := 6) rfl) tyX8_ok nmX8 (Nat.le_of_ble_eq_true rfl) rfl rfl rfl (fun H locs h => ?_)
  have h : Hp D _ _ H _ [(a, .inr (9, [.ref q8, .int 0, .int 0, .int 0, .int 0, .int 0, .int 0, .int 0, .long 0, .int 0, .int 0])), (q8, .inl (k 0, 2000, .inl (fun _ => 0)))] := h
  refine lv_aload_n C.1 C.2.1 dX8_init_18 rfl (lv_at hl 0 rfl) ?_
  refine lv_iconst (v := 0) C.1 C.2.1 dX8_init_19 (by decide) ?_
  refine x_put C h 0 2 dX8_init_20 rfl rfl iX8 (Nat.le_of_ble_eq_true rfl) (List.mem_of_getElem? (i := 7) rfl) tyX8_ok nmX8 (Nat.le_of_ble_eq_true rfl) rfl rfl rfl (fun H locs h => ?_)
  have h : Hp D _ _ H _ [(a, .inr (9, [.ref q8, .int 0, .int 0, .int 0, .int 0, .int 0, .int 0, .int 0, .long 0, .int 0, .int 0])), (q8, .inl (k 0, 2000, .inl (fun _ => 0)))] := h
  refine lv_aload_n C.1 C.2.1 dX8_init_23 rfl (lv_at hl 0 rfl) ?_
  refine lv_iconst (v := 0) C.1 C.2.1 dX8_init_24 (by decide) ?_
  refine x_put C h 0 3 dX8_init_25 rfl rfl iX8 (Nat.le_of_ble_eq_true rfl) (List.mem_of_getElem? (i := 8) rfl) tyX8_ok nmX8 (Nat.le_of_ble_eq_true rfl) rfl rfl rfl (fun H locs h => ?_)
  have h : Hp D _ _ H _ [(a, .inr (9, [.ref q8, .int 0, .int 0, .int 0, .int 0, .int 0, .int 0, .int 0, .long 0, .int 0, .int 0])), (q8, .inl (k 0, 2000, .inl (fun _ => 0)))] := h
  refine lv_aload_n C.1 C.2.1 dX8_init_28 rfl (lv_at hl 0 rfl) ?_
  refine lv_iconst (v := 0) C.1 C.2.1 dX8_init_29 (by decide) ?_
  refine x_put C h 0 4 dX8_init_30 rfl rfl iX8 (Nat.le_of_ble_eq_true rfl) (List.mem_of_getElem? (i := 9) rfl) tyX8_ok nmX8 (Nat.le_of_ble_eq_true rfl) rfl rfl rfl (fun H locs h => ?_)
  have h : Hp D _ _ H _ [(a, .inr (9, [.ref q8, .int 0, .int 0, .int 0, .int 0, .int 0, .int 0, .int 0, .long 0, .int 0, .int 0])), (q8, .inl (k 0, 2000, .inl (fun _ => 0)))] := h
  refine lv_aload_n C.1 C.2.1 dX8_init_33 rfl (lv_at hl 0 rfl) ?_
  refine lv_bipush (v := 6) C.1 C.2.1 dX8_init_34 (by decide) ?_
  refine x_put C h 0 5 dX8_init_36 rfl rfl iX8 (Nat.le_of_ble_eq_true rfl) (List.mem_of_getElem? (i := 10) rfl) tyX8_ok nmX8 (Nat.le_of_ble_eq_true rfl) rfl rfl rfl (fun H locs h => ?_)
  have h : Hp D _ _ H _ [(a, .inr (9, [.ref q8, .int 0, .int 0, .int 0, .int 0, .int 6, .int 0, .int 0, .long 0, .int 0, .int 0])), (q8, .inl (k 0, 2000, .inl (fun _ => 0)))] := h
  refine lv_aload_n C.1 C.2.1 dX8_init_39 rfl (lv_at hl 0 rfl) ?_
  refine lv_iconst (v := 0) C.1 C.2.1 dX8_init_40 (by decide) ?_
  refine x_put C h 0 6 dX8_init_41 rfl rfl iX8 (Nat.le_of_ble_eq_true rfl) (List.mem_of_getElem? (i := 11) rfl) tyX8_ok nmX8 (Nat.le_of_ble_eq_true rfl) rfl rfl rfl (fun H locs h => ?_)
  have h : Hp D _ _ H _ [(a, .inr (9, [.ref q8, .int 0, .int 0, .int 0, .int 0, .int 6, .int 0, .int 0, .long 0, .int 0, .int 0])), (q8, .inl (k 0, 2000, .inl (fun _ => 0)))] := h
  refine lv_aload_n C.1 C.2.1 dX8_init_44 rfl (lv_at hl 0 rfl) ?_
  refine lv_iconst (v := 0) C.1 C.2.1 dX8_init_45 (by decide) ?_
  refine x_put C h 0 7 dX8_init_46 rfl rfl iX8 (Nat.le_of_ble_eq_true rfl) (List.mem_of_getElem? (i := 12) rfl) tyX8_ok nmX8 (Nat.le_of_ble_eq_true rfl) rfl rfl rfl (fun H locs h => ?_)
  have h : Hp D _ _ H _ [(a, .inr (9, [.ref q8, .int 0, .int 0, .int 0, .int 0, .int 6, .int 0, .int 0, .long 0, .int 0, .int 0])), (q8, .inl (k 0, 2000, .inl (fun _ => 0)))] := h
  refine lv_aload_n C.1 C.2.1 dX8_init_49 rfl (lv_at hl 0 rfl) ?_
  refine lv_lconst (v := 0) C.1 C.2.1 dX8_init_50 (by decide) ?_
  refine x_put C h 0 8 dX8_init_51 rfl rfl iX8 (Nat.le_of_ble_eq_true rfl) (List.mem_of_getElem? (i := 13) rfl) tyX8_ok nmX8 (Nat.le_of_ble_eq_true rfl) rfl rfl rfl (fun H locs h => ?_)
  have h : Hp D _ _ H _ [(a, .inr (9, [.ref q8, .int 0, .int 0, .int 0, .int 0, .int 6, .int 0, .int 0, .long 0, .int 0, .int 0])), (q8, .inl (k 0, 2000, .inl (fun _ => 0)))] := h
  refine lv_aload_n C.1 C.2.1 dX8_init_54 rfl (lv_at hl 0 rfl) ?_
  refine lv_iconst (v := 0) C.1 C.2.1 dX8_init_55 (by decide) ?_
  refine x_put C h 0 9 dX8_init_56 rfl rfl iX8 (Nat.le_of_ble_eq_true rfl) (List.mem_of_getElem? (i := 14) rfl) tyX8_ok nmX8 (Nat.le_of_ble_eq_true rfl) rfl rfl rfl (fun H locs h => ?_)
  have h : Hp D _ _ H _ [(a, .inr (9, [.ref q8, .int 0, .int 0, .int 0, .int 0, .int 6, .int 0, .int 0, .long 0, .int 0, .int 0])), (q8, .inl (k 0, 2000, .inl (fun _ => 0)))] := h
  refine lv_aload_n C.1 C.2.1 dX8_init_59 rfl (lv_at hl 0 rfl) ?_
  refine lv_iconst (v := 1) C.1 C.2.1 dX8_init_60 (by decide) ?_
  refine x_put C h 0 10 dX8_init_61 rfl rfl iX8 (Nat.le_of_ble_eq_true rfl) (List.mem_of_getElem? (i := 15) rfl) tyX8_ok nmX8 (Nat.le_of_ble_eq_true rfl) rfl rfl rfl (fun H locs h => ?_)
  have h : Hp D _ _ H _ [(a, .inr (9, [.ref q8, .int 0, .int 0, .int 0, .int 0, .int 6, .int 0, .int 0, .long 0, .int 0, .int 1])), (q8, .inl (k 0, 2000, .inl (fun _ => 0)))] := h
  exact x_vret C h hr hlk (fun j => if j = 0 then q8 else 0) dX8_init_64 trivial rfl (Nat.le_of_ble_eq_true rfl) (Nat.le_of_ble_eq_true rfl)
set_option maxHeartbeats 4000000 in
set_option maxRecDepth 100000 in
theorem m_X1_init (l : Launch) (D : va_G) (k : Nat → ClassId) (a : Nat) : Mv l yX1_init wsX1_init { frames := 1, cells := 13, slots := 43168, locals := 12 } [.ref a] D (TYs k) [(a, .inr (2, [.null, .null, .null, .null, .null, .null, .int 0, .null, .null, .null, .null, .null, .null, .null]))] (fun _ => True) (Nat → Nat) (fun _ => True) (fun q => [(a, .inr (2, [.ref (q 0), .ref (q 1), .ref (q 2), .ref (q 3), .ref (q 4), .ref (q 5), .int 0, .ref (q 6), .ref (q 7), .ref (q 8), .ref (q 9), .ref (q 10), .ref (q 11), .ref (q 12)])), ((q 0), .inl (k 3, 6000, .inr (.inl (fun _ => 0)))), ((q 1), .inl (k 3, 6000, .inr (.inl (fun _ => 0)))), ((q 2), .inl (k 3, 6000, .inr (.inl (fun _ => 0)))), ((q 3), .inl (k 2, 6000, .inl (fun _ => 0))), ((q 4), .inl (k 4, 6000, .inl (fun _ => 0))), ((q 5), .inl (k 2, 6000, .inl (fun _ => 0))), ((q 6), .inl (k 2, 1024, .inl (fun _ => 0))), ((q 7), .inl (k 4, 1024, .inl (fun _ => 0))), ((q 8), .inl (k 3, 1024, .inr (.inl (fun _ => 0)))), ((q 9), .inl (k 3, 1024, .inr (.inl (fun _ => 0)))), ((q 10), .inl (k 3, 1024, .inr (.inl (fun _ => 0)))), ((q 11), .inl (k 3, 1024, .inr (.inl (fun _ => 0)))), ((q 12), .inl (k 3, 1024, .inr (.inl (fun _ => 0))))]) 13 43168 := by
  intro sz
  refine x_met (cc := cX1_init) (maxL := 1) (ret := none) (by decide) rfl (Nat.le_of_ble_eq_true rfl) ?_
  intro p e s m below meth c ls C hX hsz hr hlk hmn hl h
  have hl : lv_has ls 1 [(0, .ref a)] := hl
  have iX1 : ∀ w ∈ u_ws RX1 TX1 14, w ∈ wsX1_init := fun w h => List.mem_cons_of_mem _ (List.mem_append_right _ h)
  refine lv_aload_n C.1 C.2.1 dX1_init_0 rfl (lv_at hl 0 rfl) ?_
  refine x_objInit C hl.1 dX1_init_1 (List.mem_of_getElem? (i := 1) rfl) (List.mem_of_getElem? (i := 2) rfl) (List.mem_of_getElem? (i := 3) rfl) (Nat.le_of_ble_eq_true rfl) (Nat.le_of_ble_eq_true rfl) ?_
  refine lv_aload_n C.1 C.2.1 dX1_init_4 rfl (lv_at hl 0 rfl) ?_
  refine lv_sipush (v := 6000) C.1 C.2.1 dX1_init_5 (by decide) ?_
  refine x_newa (a0 := (6000, .inr (.inl (fun _ => 0)))) C h 3 dX1_init_8 rfl rfl (List.mem_of_getElem? (i := 4) rfl) (fun _ => rfl) (by decide) (by decide) (by decide) (Nat.le_of_ble_eq_true rfl) (Nat.le_of_ble_eq_true rfl) (fun q8 H h => ?_)
  have h : Hp D _ _ H _ [(a, .inr (2, [.null, .null, .null, .null, .null, .null, .int 0, .null, .null, .null, .null, .null, .null, .null])), (q8, .inl (k 3, 6000, .inr (.inl (fun _ => 0))))] := h
  refine x_putF C hmn h 0 0 dX1_init_10 rfl rfl iX1 (Nat.le_of_ble_eq_true rfl) (List.mem_of_getElem? (i := 5) rfl) tyX1_ok nmX1 (Nat.le_of_ble_eq_true rfl) rfl rfl rfl rfl (fun H locs h => ?_)
  have h : Hp D _ _ H _ [(a, .inr (2, [.ref q8, .null, .null, .null, .null, .null, .int 0, .null, .null, .null, .null, .null, .null, .null])), (q8, .inl (k 3, 6000, .inr (.inl (fun _ => 0))))] := h
  refine lv_aload_n C.1 C.2.1 dX1_init_13 rfl (lv_at hl 0 rfl) ?_
  refine lv_sipush (v := 6000) C.1 C.2.1 dX1_init_14 (by decide) ?_
  refine x_newa (a0 := (6000, .inr (.inl (fun _ => 0)))) C h 3 dX1_init_17 rfl rfl (List.mem_of_getElem? (i := 4) rfl) (fun _ => rfl) (by decide) (by decide) (by decide) (Nat.le_of_ble_eq_true rfl) (Nat.le_of_ble_eq_true rfl) (fun q17 H h => ?_)
  have h : Hp D _ _ H _ [(a, .inr (2, [.ref q8, .null, .null, .null, .null, .null, .int 0, .null, .null, .null, .null, .null, .null, .null])), (q8, .inl (k 3, 6000, .inr (.inl (fun _ => 0)))), (q17, .inl (k 3, 6000, .inr (.inl (fun _ => 0))))] := h
  refine x_putF C hmn h 0 1 dX1_init_19 rfl rfl iX1 (Nat.le_of_ble_eq_true rfl) (List.mem_of_getElem? (i := 6) rfl) tyX1_ok nmX1 (Nat.le_of_ble_eq_true rfl) rfl rfl rfl rfl (fun H locs h => ?_)
  have h : Hp D _ _ H _ [(a, .inr (2, [.ref q8, .ref q17, .null, .null, .null, .null, .int 0, .null, .null, .null, .null, .null, .null, .null])), (q8, .inl (k 3, 6000, .inr (.inl (fun _ => 0)))), (q17, .inl (k 3, 6000, .inr (.inl (fun _ => 0))))] := h
  refine lv_aload_n C.1 C.2.1 dX1_init_22 rfl (lv_at hl 0 rfl) ?_
  refine lv_sipush (v := 6000) C.1 C.2.1 dX1_init_23 (by decide) ?_
  refine x_newa (a0 := (6000, .inr (.inl (fun _ => 0)))) C h 3 dX1_init_26 rfl rfl (List.mem_of_getElem? (i := 4) rfl) (fun _ => rfl) (by decide) (by decide) (by decide) (Nat.le_of_ble_eq_true rfl) (Nat.le_of_ble_eq_true rfl) (fun q26 H h => ?_)
  have h : Hp D _ _ H _ [(a, .inr (2, [.ref q8, .ref q17, .null, .null, .null, .null, .int 0, .null, .null, .null, .null, .null, .null, .null])), (q8, .inl (k 3, 6000, .inr (.inl (fun _ => 0)))), (q17, .inl (k 3, 6000, .inr (.inl (fun _ => 0)))), (q26, .inl (k 3, 6000, .inr (.inl (fun _ => 0))))] := h
  refine x_putF C hmn h 0 2 dX1_init_28 rfl rfl iX1 (Nat.le_of_ble_eq_true rfl) (List.mem_of_getElem? (i := 7) rfl) tyX1_ok nmX1 (Nat.le_of_ble_eq_true rfl) rfl rfl rfl rfl (fun H locs h => ?_)
  have h : Hp D _ _ H _ [(a, .inr (2, [.ref q8, .ref q17, .ref q26, .null, .null, .null, .int 0, .null, .null, .null, .null, .null, .null, .null])), (q8, .inl (k 3, 6000, .inr (.inl (fun _ => 0)))), (q17, .inl (k 3, 6000, .inr (.inl (fun _ => 0)))), (q26, .inl (k 3, 6000, .inr (.inl (fun _ => 0))))] := h
  refine lv_aload_n C.1 C.2.1 dX1_init_31 rfl (lv_at hl 0 rfl) ?_
  refine lv_sipush (v := 6000) C.1 C.2.1 dX1_init_32 (by decide) ?_
  refine x_newa (a0 := (6000, .inl (fun _ => 0))) C h 2 dX1_init_35 rfl rfl (List.mem_of_getElem? (i := 8) rfl) (fun _ => rfl) (by decide) (by decide) (by decide) (Nat.le_of_ble_eq_true rfl) (Nat.le_of_ble_eq_true rfl) (fun q35 H h => ?_)
  have h : Hp D _ _ H _ [(a, .inr (2, [.ref q8, .ref q17, .ref q26, .null, .null, .null, .int 0, .null, .null, .null, .null, .null, .null, .null])), (q8, .inl (k 3, 6000, .inr (.inl (fun _ => 0)))), (q17, .inl (k 3, 6000, .inr (.inl (fun _ => 0)))), (q26, .inl (k 3, 6000, .inr (.inl (fun _ => 0)))), (q35, .inl (k 2, 6000, .inl (fun _ => 0)))] := h
  refine x_putF C hmn h 0 3 dX1_init_37 rfl rfl iX1 (Nat.le_of_ble_eq_true rfl) (List.mem_of_getElem? (i := 9) rfl) tyX1_ok nmX1 (Nat.le_of_ble_eq_true rfl) rfl rfl rfl rfl (fun H locs h => ?_)
  have h : Hp D _ _ H _ [(a, .inr (2, [.ref q8, .ref q17, .ref q26, .ref q35, .null, .null, .int 0, .null, .null, .null, .null, .null, .null, .null])), (q8, .inl (k 3, 6000, .inr (.inl (fun _ => 0)))), (q17, .inl (k 3, 6000, .inr (.inl (fun _ => 0)))), (q26, .inl (k 3, 6000, .inr (.inl (fun _ => 0)))), (q35, .inl (k 2, 6000, .inl (fun _ => 0)))] := h
  refine lv_aload_n C.1 C.2.1 dX1_init_40 rfl (lv_at hl 0 rfl) ?_
  refine lv_sipush (v := 6000) C.1 C.2.1 dX1_init_41 (by decide) ?_
  refine x_newa (a0 := (6000, .inl (fun _ => 0))) C h 4 dX1_init_44 rfl rfl (List.mem_of_getElem? (i := 10) rfl) (fun _ => rfl) (by decide) (by decide) (by decide) (Nat.le_of_ble_eq_true rfl) (Nat.le_of_ble_eq_true rfl) (fun q44 H h => ?_)
  have h : Hp D _ _ H _ [(a, .inr (2, [.ref q8, .ref q17, .ref q26, .ref q35, .null, .null, .int 0, .null, .null, .null, .null, .null, .null, .null])), (q8, .inl (k 3, 6000, .inr (.inl (fun _ => 0)))), (q17, .inl (k 3, 6000, .inr (.inl (fun _ => 0)))), (q26, .inl (k 3, 6000, .inr (.inl (fun _ => 0)))), (q35, .inl (k 2, 6000, .inl (fun _ => 0))), (q44, .inl (k 4, 6000, .inl (fun _ => 0)))] := h
  refine x_putF C hmn h 0 4 dX1_init_46 rfl rfl iX1 (Nat.le_of_ble_eq_true rfl) (List.mem_of_getElem? (i := 11) rfl) tyX1_ok nmX1 (Nat.le_of_ble_eq_true rfl) rfl rfl rfl rfl (fun H locs h => ?_)
  have h : Hp D _ _ H _ [(a, .inr (2, [.ref q8, .ref q17, .ref q26, .ref q35, .ref q44, .null, .int 0, .null, .null, .null, .null, .null, .null, .null])), (q8, .inl (k 3, 6000, .inr (.inl (fun _ => 0)))), (q17, .inl (k 3, 6000, .inr (.inl (fun _ => 0)))), (q26, .inl (k 3, 6000, .inr (.inl (fun _ => 0)))), (q35, .inl (k 2, 6000, .inl (fun _ => 0))), (q44, .inl (k 4, 6000, .inl (fun _ => 0)))] := h
  refine lv_aload_n C.1 C.2.1 dX1_init_49 rfl (lv_at hl 0 rfl) ?_
  refine lv_sipush (v := 6000) C.1 C.2.1 dX1_init_50 (by decide) ?_
  refine x_newa (a0 := (6000, .inl (fun _ => 0))) C h 2 dX1_init_53 rfl rfl (List.mem_of_getElem? (i := 8) rfl) (fun _ => rfl) (by decide) (by decide) (by decide) (Nat.le_of_ble_eq_true rfl) (Nat.le_of_ble_eq_true rfl) (fun q53 H h => ?_)
  have h : Hp D _ _ H _ [(a, .inr (2, [.ref q8, .ref q17, .ref q26, .ref q35, .ref q44, .null, .int 0, .null, .null, .null, .null, .null, .null, .null])), (q8, .inl (k 3, 6000, .inr (.inl (fun _ => 0)))), (q17, .inl (k 3, 6000, .inr (.inl (fun _ => 0)))), (q26, .inl (k 3, 6000, .inr (.inl (fun _ => 0)))), (q35, .inl (k 2, 6000, .inl (fun _ => 0))), (q44, .inl (k 4, 6000, .inl (fun _ => 0))), (q53, .inl (k 2, 6000, .inl (fun _ => 0)))] := h
  refine x_putF C hmn h 0 5 dX1_init_55 rfl rfl iX1 (Nat.le_of_ble_eq_true rfl) (List.mem_of_getElem? (i := 12) rfl) tyX1_ok nmX1 (Nat.le_of_ble_eq_true rfl) rfl rfl rfl rfl (fun H locs h => ?_)
  have h : Hp D _ _ H _ [(a, .inr (2, [.ref q8, .ref q17, .ref q26, .ref q35, .ref q44, .ref q53, .int 0, .null, .null, .null, .null, .null, .null, .null])), (q8, .inl (k 3, 6000, .inr (.inl (fun _ => 0)))), (q17, .inl (k 3, 6000, .inr (.inl (fun _ => 0)))), (q26, .inl (k 3, 6000, .inr (.inl (fun _ => 0)))), (q35, .inl (k 2, 6000, .inl (fun _ => 0))), (q44, .inl (k 4, 6000, .inl (fun _ => 0))), (q53, .inl (k 2, 6000, .inl (fun _ => 0)))] := h
  refine lv_aload_n C.1 C.2.1 dX1_init_58 rfl (lv_at hl 0 rfl) ?_
  refine lv_iconst (v := 0) C.1 C.2.1 dX1_init_59 (by decide) ?_
  refine x_put C h 0 6 dX1_init_60 rfl rfl iX1 (Nat.le_of_ble_eq_true rfl) (List.mem_of_getElem? (i := 13) rfl) tyX1_ok nmX1 (Nat.le_of_ble_eq_true rfl) rfl rfl rfl (fun H locs h => ?_)
  have h : Hp D _ _ H _ [(a, .inr (2, [.ref q8, .ref q17, .ref q26, .ref q35, .ref q44, .ref q53, .int 0, .null, .null, .null, .null, .null, .null, .null])), (q8, .inl (k 3, 6000, .inr (.inl (fun _ => 0)))), (q17, .inl (k 3, 6000, .inr (.inl (fun _ => 0)))), (q26, .inl (k 3, 6000, .inr (.inl (fun _ => 0)))), (q35, .inl (k 2, 6000, .inl (fun _ => 0))), (q44, .inl (k 4, 6000, .inl (fun _ => 0))), (q53, .inl (k 2, 6000, .inl (fun _ => 0)))] := h
  refine lv_aload_n C.1 C.2.1 dX1_init_63 rfl (lv_at hl 0 rfl) ?_
  refine lv_sipush (v := 1024) C.1 C.2.1 dX1_init_64 (by decide) ?_
  refine x_newa (a0 := (1024, .inl (fun _ => 0))) C h 2 dX1_init_67 rfl rfl (List.mem_of_getElem? (i := 8) rfl) (fun _ => rfl) (by decide) (by decide) (by decide) (Nat.le_of_ble_eq_true rfl) (Nat.le_of_ble_eq_true rfl) (fun q67 H h => ?_)
  have h : Hp D _ _ H _ [(a, .inr (2, [.ref q8, .ref q17, .ref q26, .ref q35, .ref q44, .ref q53, .int 0, .null, .null, .null, .null, .null, .null, .null])), (q8, .inl (k 3, 6000, .inr (.inl (fun _ => 0)))), (q17, .inl (k 3, 6000, .inr (.inl (fun _ => 0)))), (q26, .inl (k 3, 6000, .inr (.inl (fun _ => 0)))), (q35, .inl (k 2, 6000, .inl (fun _ => 0))), (q44, .inl (k 4, 6000, .inl (fun _ => 0))), (q53, .inl (k 2, 6000, .inl (fun _ => 0))), (q67, .inl (k 2, 1024, .inl (fun _ => 0)))] := h
  refine x_putF C hmn h 0 7 dX1_init_69 rfl rfl iX1 (Nat.le_of_ble_eq_true rfl) (List.mem_of_getElem? (i := 14) rfl) tyX1_ok nmX1 (Nat.le_of_ble_eq_true rfl) rfl rfl rfl rfl (fun H locs h => ?_)
  have h : Hp D _ _ H _ [(a, .inr (2, [.ref q8, .ref q17, .ref q26, .ref q35, .ref q44, .ref q53, .int 0, .ref q67, .null, .null, .null, .null, .null, .null])), (q8, .inl (k 3, 6000, .inr (.inl (fun _ => 0)))), (q17, .inl (k 3, 6000, .inr (.inl (fun _ => 0)))), (q26, .inl (k 3, 6000, .inr (.inl (fun _ => 0)))), (q35, .inl (k 2, 6000, .inl (fun _ => 0))), (q44, .inl (k 4, 6000, .inl (fun _ => 0))), (q53, .inl (k 2, 6000, .inl (fun _ => 0))), (q67, .inl (k 2, 1024, .inl (fun _ => 0)))] := h
  refine lv_aload_n C.1 C.2.1 dX1_init_72 rfl (lv_at hl 0 rfl) ?_
  refine lv_sipush (v := 1024) C.1 C.2.1 dX1_init_73 (by decide) ?_
  refine x_newa (a0 := (1024, .inl (fun _ => 0))) C h 4 dX1_init_76 rfl rfl (List.mem_of_getElem? (i := 10) rfl) (fun _ => rfl) (by decide) (by decide) (by decide) (Nat.le_of_ble_eq_true rfl) (Nat.le_of_ble_eq_true rfl) (fun q76 H h => ?_)
  have h : Hp D _ _ H _ [(a, .inr (2, [.ref q8, .ref q17, .ref q26, .ref q35, .ref q44, .ref q53, .int 0, .ref q67, .null, .null, .null, .null, .null, .null])), (q8, .inl (k 3, 6000, .inr (.inl (fun _ => 0)))), (q17, .inl (k 3, 6000, .inr (.inl (fun _ => 0)))), (q26, .inl (k 3, 6000, .inr (.inl (fun _ => 0)))), (q35, .inl (k 2, 6000, .inl (fun _ => 0))), (q44, .inl (k 4, 6000, .inl (fun _ => 0))), (q53, .inl (k 2, 6000, .inl (fun _ => 0))), (q67, .inl (k 2, 1024, .inl (fun _ => 0))), (q76, .inl (k 4, 1024, .inl (fun _ => 0)))] := h
  refine x_putF C hmn h 0 8 dX1_init_78 rfl rfl iX1 (Nat.le_of_ble_eq_true rfl) (List.mem_of_getElem? (i := 15) rfl) tyX1_ok nmX1 (Nat.le_of_ble_eq_true rfl) rfl rfl rfl rfl (fun H locs h => ?_)
  have h : Hp D _ _ H _ [(a, .inr (2, [.ref q8, .ref q17, .ref q26, .ref q35, .ref q44, .ref q53, .int 0, .ref q67, .ref q76, .null, .null, .null, .null, .null])), (q8, .inl (k 3, 6000, .inr (.inl (fun _ => 0)))), (q17, .inl (k 3, 6000, .inr (.inl (fun _ => 0)))), (q26, .inl (k 3, 6000, .inr (.inl (fun _ => 0)))), (q35, .inl (k 2, 6000, .inl (fun _ => 0))), (q44, .inl (k 4, 6000, .inl (fun _ => 0))), (q53, .inl (k 2, 6000, .inl (fun _ => 0))), (q67, .inl (k 2, 1024, .inl (fun _ => 0))), (q76, .inl (k 4, 1024, .inl (fun _ => 0)))] := h
  refine lv_aload_n C.1 C.2.1 dX1_init_81 rfl (lv_at hl 0 rfl) ?_
  refine lv_sipush (v := 1024) C.1 C.2.1 dX1_init_82 (by decide) ?_
  refine x_newa (a0 := (1024, .inr (.inl (fun _ => 0)))) C h 3 dX1_init_85 rfl rfl (List.mem_of_getElem? (i := 4) rfl) (fun _ => rfl) (by decide) (by decide) (by decide) (Nat.le_of_ble_eq_true rfl) (Nat.le_of_ble_eq_true rfl) (fun q85 H h => ?_)
  have h : Hp D _ _ H _ [(a, .inr (2, [.ref q8, .ref q17, .ref q26, .ref q35, .ref q44, .ref q53, .int 0, .ref q67, .ref q76, .null, .null, .null, .null, .null])), (q8, .inl (k 3, 6000, .inr (.inl (fun _ => 0)))), (q17, .inl (k 3, 6000, .inr (.inl (fun _ => 0)))), (q26, .inl (k 3, 6000, .inr (.inl (fun _ => 0)))), (q35, .inl (k 2, 6000, .inl (fun _ => 0))), (q44, .inl (k 4, 6000, .inl (fun _ => 0))), (q53, .inl (k 2, 6000, .inl (fun _ => 0))), (q67, .inl (k 2, 1024, .inl (fun _ => 0))), (q76, .inl (k 4, 1024, .inl (fun _ => 0))), (q85, .inl (k 3, 1024, .inr (.inl (fun _ => 0))))] := h
  refine x_putF C hmn h 0 9 dX1_init_87 rfl rfl iX1 (Nat.le_of_ble_eq_true rfl) (List.mem_of_getElem? (i := 16) rfl) tyX1_ok nmX1 (Nat.le_of_ble_eq_true rfl) rfl rfl rfl rfl (fun H locs h => ?_)
  have h : Hp D _ _ H _ [(a, .inr (2, [.ref q8, .ref q17, .ref q26, .ref q35, .ref q44, .ref q53, .int 0, .ref q67, .ref q76, .ref q85, .null, .null, .null, .null])), (q8, .inl (k 3, 6000, .inr (.inl (fun _ => 0)))), (q17, .inl (k 3, 6000, .inr (.inl (fun _ => 0)))), (q26, .inl (k 3, 6000, .inr (.inl (fun _ => 0)))), (q35, .inl (k 2, 6000, .inl (fun _ => 0))), (q44, .inl (k 4, 6000, .inl (fun _ => 0))), (q53, .inl (k 2, 6000, .inl (fun _ => 0))), (q67, .inl (k 2, 1024, .inl (fun _ => 0))), (q76, .inl (k 4, 1024, .inl (fun _ => 0))), (q85, .inl (k 3, 1024, .inr (.inl (fun _ => 0))))] := h
  refine lv_aload_n C.1 C.2.1 dX1_init_90 rfl (lv_at hl 0 rfl) ?_
  refine lv_sipush (v := 1024) C.1 C.2.1 dX1_init_91 (by decide) ?_
  refine x_newa (a0 := (1024, .inr (.inl (fun _ => 0)))) C h 3 dX1_init_94 rfl rfl (List.mem_of_getElem? (i := 4) rfl) (fun _ => rfl) (by decide) (by decide) (by decide) (Nat.le_of_ble_eq_true rfl) (Nat.le_of_ble_eq_true rfl) (fun q94 H h => ?_)
  have h : Hp D _ _ H _ [(a, .inr (2, [.ref q8, .ref q17, .ref q26, .ref q35, .ref q44, .ref q53, .int 0, .ref q67, .ref q76, .ref q85, .null, .null, .null, .null])), (q8, .inl (k 3, 6000, .inr (.inl (fun _ => 0)))), (q17, .inl (k 3, 6000, .inr (.inl (fun _ => 0)))), (q26, .inl (k 3, 6000, .inr (.inl (fun _ => 0)))), (q35, .inl (k 2, 6000, .inl (fun _ => 0))), (q44, .inl (k 4, 6000, .inl (fun _ => 0))), (q53, .inl (k 2, 6000, .inl (fun _ => 0))), (q67, .inl (k 2, 1024, .inl (fun _ => 0))), (q76, .inl (k 4, 1024, .inl (fun _ => 0))), (q85, .inl (k 3, 1024, .inr (.inl (fun _ => 0)))), (q94, .inl (k 3, 1024, .inr (.inl (fun _ => 0))))] := h
  refine x_putF C hmn h 0 10 dX1_init_96 rfl rfl iX1 (Nat.le_of_ble_eq_true rfl) (List.mem_of_getElem? (i := 17) rfl) tyX1_ok nmX1 (Nat.le_of_ble_eq_true rfl) rfl rfl rfl rfl (fun H locs h => ?_)
  have h : Hp D _ _ H _ [(a, .inr (2, [.ref q8, .ref q17, .ref q26, .ref q35, .ref q44, .ref q53, .int 0, .ref q67, .ref q76, .ref q85, .ref q94, .null, .null, .null])), (q8, .inl (k 3, 6000, .inr (.inl (fun _ => 0)))), (q17, .inl (k 3, 6000, .inr (.inl (fun _ => 0)))), (q26, .inl (k 3, 6000, .inr (.inl (fun _ => 0)))), (q35, .inl (k 2, 6000, .inl (fun _ => 0))), (q44, .inl (k 4, 6000, .inl (fun _ => 0))), (q53, .inl (k 2, 6000, .inl (fun _ => 0))), (q67, .inl (k 2, 1024, .inl (fun _ => 0))), (q76, .inl (k 4, 1024, .inl (fun _ => 0))), (q85, .inl (k 3, 1024, .inr (.inl (fun _ => 0)))), (q94, .inl (k 3, 1024, .inr (.inl (fun _ => 0))))] := h
  refine lv_aload_n C.1 C.2.1 dX1_init_99 rfl (lv_at hl 0 rfl) ?_
  refine lv_sipush (v := 1024) C.1 C.2.1 dX1_init_100 (by decide) ?_
  refine x_newa (a0 := (1024, .inr (.inl (fun _ => 0)))) C h 3 dX1_init_103 rfl rfl (List.mem_of_getElem? (i := 4) rfl) (fun _ => rfl) (by decide) (by decide) (by decide) (Nat.le_of_ble_eq_true rfl) (Nat.le_of_ble_eq_true rfl) (fun q103 H h => ?_)
  have h : Hp D _ _ H _ [(a, .inr (2, [.ref q8, .ref q17, .ref q26, .ref q35, .ref q44, .ref q53, .int 0, .ref q67, .ref q76, .ref q85, .ref q94, .null, .null, .null])), (q8, .inl (k 3, 6000, .inr (.inl (fun _ => 0)))), (q17, .inl (k 3, 6000, .inr (.inl (fun _ => 0)))), (q26, .inl (k 3, 6000, .inr (.inl (fun _ => 0)))), (q35, .inl (k 2, 6000, .inl (fun _ => 0))), (q44, .inl (k 4, 6000, .inl (fun _ => 0))), (q53, .inl (k 2, 6000, .inl (fun _ => 0))), (q67, .inl (k 2, 1024, .inl (fun _ => 0))), (q76, .inl (k 4, 1024, .inl (fun _ => 0))), (q85, .inl (k 3, 1024, .inr (.inl (fun _ => 0)))), (q94, .inl (k 3, 1024, .inr (.inl (fun _ => 0)))), (q103, .inl (k 3, 1024, .inr (.inl (fun _ => 0))))] := h
  refine x_putF C hmn h 0 11 dX1_init_105 rfl rfl iX1 (Nat.le_of_ble_eq_true rfl) (List.mem_of_getElem? (i := 18) rfl) tyX1_ok nmX1 (Nat.le_of_ble_eq_true rfl) rfl rfl rfl rfl (fun H locs h => ?_)
  have h : Hp D _ _ H _ [(a, .inr (2, [.ref q8, .ref q17, .ref q26, .ref q35, .ref q44, .ref q53, .int 0, .ref q67, .ref q76, .ref q85, .ref q94, .ref q103, .null, .null])), (q8, .inl (k 3, 6000, .inr (.inl (fun _ => 0)))), (q17, .inl (k 3, 6000, .inr (.inl (fun _ => 0)))), (q26, .inl (k 3, 6000, .inr (.inl (fun _ => 0)))), (q35, .inl (k 2, 6000, .inl (fun _ => 0))), (q44, .inl (k 4, 6000, .inl (fun _ => 0))), (q53, .inl (k 2, 6000, .inl (fun _ => 0))), (q67, .inl (k 2, 1024, .inl (fun _ => 0))), (q76, .inl (k 4, 1024, .inl (fun _ => 0))), (q85, .inl (k 3, 1024, .inr (.inl (fun _ => 0)))), (q94, .inl (k 3, 1024, .inr (.inl (fun _ => 0)))), (q103, .inl (k 3, 1024, .inr (.inl (fun _ => 0))))] := h
  refine lv_aload_n C.1 C.2.1 dX1_init_108 rfl (lv_at hl 0 rfl) ?_
  refine lv_sipush (v := 1024) C.1 C.2.1 dX1_init_109 (by decide) ?_
  refine x_newa (a0 := (1024, .inr (.inl (fun _ => 0)))) C h 3 dX1_init_112 rfl rfl (List.mem_of_getElem? (i := 4) rfl) (fun _ => rfl) (by decide) (by decide) (by decide) (Nat.le_of_ble_eq_true rfl) (Nat.le_of_ble_eq_true rfl) (fun q112 H h => ?_)
  have h : Hp D _ _ H _ [(a, .inr (2, [.ref q8, .ref q17, .ref q26, .ref q35, .ref q44, .ref q53, .int 0, .ref q67, .ref q76, .ref q85, .ref q94, .ref q103, .null, .null])), (q8, .inl (k 3, 6000, .inr (.inl (fun _ => 0)))), (q17, .inl (k 3, 6000, .inr (.inl (fun _ => 0)))), (q26, .inl (k 3, 6000, .inr (.inl (fun _ => 0)))), (q35, .inl (k 2, 6000, .inl (fun _ => 0))), (q44, .inl (k 4, 6000, .inl (fun _ => 0))), (q53, .inl (k 2, 6000, .inl (fun _ => 0))), (q67, .inl (k 2, 1024, .inl (fun _ => 0))), (q76, .inl (k 4, 1024, .inl (fun _ => 0))), (q85, .inl (k 3, 1024, .inr (.inl (fun _ => 0)))), (q94, .inl (k 3, 1024, .inr (.inl (fun _ => 0)))), (q103, .inl (k 3, 1024, .inr (.inl (fun _ => 0)))), (q112, .inl (k 3, 1024, .inr (.inl (fun _ => 0))))] := h
  refine x_put C h 0 12 dX1_init_114 rfl rfl iX1 (Nat.le_of_ble_eq_true rfl) (List.mem_of_getElem? (i := 19) rfl) tyX1_ok nmX1 (Nat.le_of_ble_eq_true rfl) rfl rfl rfl (fun H locs h => ?_)
  have h : Hp D _ _ H _ [(a, .inr (2, [.ref q8, .ref q17, .ref q26, .ref q35, .ref q44, .ref q53, .int 0, .ref q67, .ref q76, .ref q85, .ref q94, .ref q103, .ref q112, .null])), (q8, .inl (k 3, 6000, .inr (.inl (fun _ => 0)))), (q17, .inl (k 3, 6000, .inr (.inl (fun _ => 0)))), (q26, .inl (k 3, 6000, .inr (.inl (fun _ => 0)))), (q35, .inl (k 2, 6000, .inl (fun _ => 0))), (q44, .inl (k 4, 6000, .inl (fun _ => 0))), (q53, .inl (k 2, 6000, .inl (fun _ => 0))), (q67, .inl (k 2, 1024, .inl (fun _ => 0))), (q76, .inl (k 4, 1024, .inl (fun _ => 0))), (q85, .inl (k 3, 1024, .inr (.inl (fun _ => 0)))), (q94, .inl (k 3, 1024, .inr (.inl (fun _ => 0)))), (q103, .inl (k 3, 1024, .inr (.inl (fun _ => 0)))), (q112, .inl (k 3, 1024, .inr (.inl (fun _ => 0))))] := h
  refine lv_aload_n C.1 C.2.1 dX1_init_117 rfl (lv_at hl 0 rfl) ?_
  refine lv_sipush (v := 1024) C.1 C.2.1 dX1_init_118 (by decide) ?_
  refine x_newa (a0 := (1024, .inr (.inl (fun _ => 0)))) C h 3 dX1_init_121 rfl rfl (List.mem_of_getElem? (i := 4) rfl) (fun _ => rfl) (by decide) (by decide) (by decide) (Nat.le_of_ble_eq_true rfl) (Nat.le_of_ble_eq_true rfl) (fun q121 H h => ?_)
  have h : Hp D _ _ H _ [(a, .inr (2, [.ref q8, .ref q17, .ref q26, .ref q35, .ref q44, .ref q53, .int 0, .ref q67, .ref q76, .ref q85, .ref q94, .ref q103, .ref q112, .null])), (q8, .inl (k 3, 6000, .inr (.inl (fun _ => 0)))), (q17, .inl (k 3, 6000, .inr (.inl (fun _ => 0)))), (q26, .inl (k 3, 6000, .inr (.inl (fun _ => 0)))), (q35, .inl (k 2, 6000, .inl (fun _ => 0))), (q44, .inl (k 4, 6000, .inl (fun _ => 0))), (q53, .inl (k 2, 6000, .inl (fun _ => 0))), (q67, .inl (k 2, 1024, .inl (fun _ => 0))), (q76, .inl (k 4, 1024, .inl (fun _ => 0))), (q85, .inl (k 3, 1024, .inr (.inl (fun _ => 0)))), (q94, .inl (k 3, 1024, .inr (.inl (fun _ => 0)))), (q103, .inl (k 3, 1024, .inr (.inl (fun _ => 0)))), (q112, .inl (k 3, 1024, .inr (.inl (fun _ => 0)))), (q121, .inl (k 3, 1024, .inr (.inl (fun _ => 0))))] := h
  refine x_put C h 0 13 dX1_init_123 rfl rfl iX1 (Nat.le_of_ble_eq_true rfl) (List.mem_of_getElem? (i := 20) rfl) tyX1_ok nmX1 (Nat.le_of_ble_eq_true rfl) rfl rfl rfl (fun H locs h => ?_)
  have h : Hp D _ _ H _ [(a, .inr (2, [.ref q8, .ref q17, .ref q26, .ref q35, .ref q44, .ref q53, .int 0, .ref q67, .ref q76, .ref q85, .ref q94, .ref q103, .ref q112, .ref q121])), (q8, .inl (k 3, 6000, .inr (.inl (fun _ => 0)))), (q17, .inl (k 3, 6000, .inr (.inl (fun _ => 0)))), (q26, .inl (k 3, 6000, .inr (.inl (fun _ => 0)))), (q35, .inl (k 2, 6000, .inl (fun _ => 0))), (q44, .inl (k 4, 6000, .inl (fun _ => 0))), (q53, .inl (k 2, 6000, .inl (fun _ => 0))), (q67, .inl (k 2, 1024, .inl (fun _ => 0))), (q76, .inl (k 4, 1024, .inl (fun _ => 0))), (q85, .inl (k 3, 1024, .inr (.inl (fun _ => 0)))), (q94, .inl (k 3, 1024, .inr (.inl (fun _ => 0)))), (q103, .inl (k 3, 1024, .inr (.inl (fun _ => 0)))), (q112, .inl (k 3, 1024, .inr (.inl (fun _ => 0)))), (q121, .inl (k 3, 1024, .inr (.inl (fun _ => 0))))] := h
  exact x_vret C h hr hlk (fun j => if j = 0 then q8 else if j = 1 then q17 else if j = 2 then q26 else if j = 3 then q35 else if j = 4 then q44 else if j = 5 then q53 else if j = 6 then q67 else if j = 7 then q76 else if j = 8 then q85 else if j = 9 then q94 else if j = 10 then q103 else if j = 11 then q112 else if j = 12 then q121 else 0) dX1_init_126 trivial rfl (Nat.le_of_ble_eq_true rfl) (Nat.le_of_ble_eq_true rfl)
set_option maxHeartbeats 4000000 in
set_option maxRecDepth 100000 in
theorem m_X2_init (l : Launch) (D : va_G) (k : Nat → ClassId) (a : Nat) : Mv l yX2_init wsX2_init { frames := 1, cells := 8, slots := 3200, locals := 12 } [.ref a] D (TYs k) [(a, .inr (3, [.null, .null, .null, .null, .null, .null, .null, .null, .int 0]))] (fun _ => True) (Nat → Nat) (fun _ => True) (fun q => [(a, .inr (3, [.ref (q 0), .ref (q 1), .ref (q 2), .ref (q 3), .ref (q 4), .ref (q 5), .ref (q 6), .ref (q 7), .int 0])), ((q 0), .inl (k 2, 400, .inl (fun _ => 0))), ((q 1), .inl (k 2, 400, .inl (fun _ => 0))), ((q 2), .inl (k 3, 400, .inr (.inl (fun _ => 0)))), ((q 3), .inl (k 3, 400, .inr (.inl (fun _ => 0)))), ((q 4), .inl (k 3, 400, .inr (.inl (fun _ => 0)))), ((q 5), .inl (k 3, 400, .inr (.inl (fun _ => 0)))), ((q 6), .inl (k 2, 400, .inl (fun _ => 0))), ((q 7), .inl (k 4, 400, .inl (fun _ => 0)))]) 8 3200 := by
  intro sz
  refine x_met (cc := cX2_init) (maxL := 1) (ret := none) (by decide) rfl (Nat.le_of_ble_eq_true rfl) ?_
  intro p e s m below meth c ls C hX hsz hr hlk hmn hl h
  have hl : lv_has ls 1 [(0, .ref a)] := hl
  have iX2 : ∀ w ∈ u_ws RX2 TX2 9, w ∈ wsX2_init := fun w h => List.mem_cons_of_mem _ (List.mem_append_right _ h)
  refine lv_aload_n C.1 C.2.1 dX2_init_0 rfl (lv_at hl 0 rfl) ?_
  refine x_objInit C hl.1 dX2_init_1 (List.mem_of_getElem? (i := 1) rfl) (List.mem_of_getElem? (i := 2) rfl) (List.mem_of_getElem? (i := 3) rfl) (Nat.le_of_ble_eq_true rfl) (Nat.le_of_ble_eq_true rfl) ?_
  refine lv_aload_n C.1 C.2.1 dX2_init_4 rfl (lv_at hl 0 rfl) ?_
  refine lv_sipush (v := 400) C.1 C.2.1 dX2_init_5 (by decide) ?_
  refine x_newa (a0 := (400, .inl (fun _ => 0))) C h 2 dX2_init_8 rfl rfl (List.mem_of_getElem? (i := 4) rfl) (fun _ => rfl) (by decide) (by decide) (by decide) (Nat.le_of_ble_eq_true rfl) (Nat.le_of_ble_eq_true rfl) (fun q8 H h => ?_)
  have h : Hp D _ _ H _ [(a, .inr (3, [.null, .null, .null, .null, .null, .null, .null, .null, .int 0])), (q8, .inl (k 2, 400, .inl (fun _ => 0)))] := h
  refine x_putF C hmn h 0 0 dX2_init_10 rfl rfl iX2 (Nat.le_of_ble_eq_true rfl) (List.mem_of_getElem? (i := 5) rfl) tyX2_ok nmX2 (Nat.le_of_ble_eq_true rfl) rfl rfl rfl rfl (fun H locs h => ?_)
  have h : Hp D _ _ H _ [(a, .inr (3, [.ref q8, .null, .null, .null, .null, .null, .null, .null, .int 0])), (q8, .inl (k 2, 400, .inl (fun _ => 0)))] := h
  refine lv_aload_n C.1 C.2.1 dX2_init_13 rfl (lv_at hl 0 rfl) ?_
  refine lv_sipush (v := 400) C.1 C.2.1 dX2_init_14 (by decide) ?_
  refine x_newa (a0 := (400, .inl (fun _ => 0))) C h 2 dX2_init_17 rfl rfl (List.mem_of_getElem? (i := 4) rfl) (fun _ => rfl) (by decide) (by decide) (by decide) (Nat.le_of_ble_eq_true rfl) (Nat.le_of_ble_eq_true rfl) (fun q17 H h => ?_)
  have h : Hp D _ _ H _ [(a, .inr (3, [.ref q8, .null, .null, .null, .null, .null, .null, .null, .int 0])), (q8, .inl (k 2, 400, .inl (fun _ => 0))), (q17, .inl (k 2, 400, .inl (fun _ => 0)))] := h
  refine x_putF C hmn h 0 1 dX2_init_19 rfl rfl iX2 (Nat.le_of_ble_eq_true rfl) (List.mem_of_getElem? (i := 6) rfl) tyX2_ok nmX2 (Nat.le_of_ble_eq_true rfl) rfl rfl rfl rfl (fun H locs h => ?_)
  have h : Hp D _ _ H _ [(a, .inr (3, [.ref q8, .ref q17, .null, .null, .null, .null, .null, .null, .int 0])), (q8, .inl (k 2, 400, .inl (fun _ => 0))), (q17, .inl (k 2, 400, .inl (fun _ => 0)))] := h
  refine lv_aload_n C.1 C.2.1 dX2_init_22 rfl (lv_at hl 0 rfl) ?_
  refine lv_sipush (v := 400) C.1 C.2.1 dX2_init_23 (by decide) ?_
  refine x_newa (a0 := (400, .inr (.inl (fun _ => 0)))) C h 3 dX2_init_26 rfl rfl (List.mem_of_getElem? (i := 7) rfl) (fun _ => rfl) (by decide) (by decide) (by decide) (Nat.le_of_ble_eq_true rfl) (Nat.le_of_ble_eq_true rfl) (fun q26 H h => ?_)
  have h : Hp D _ _ H _ [(a, .inr (3, [.ref q8, .ref q17, .null, .null, .null, .null, .null, .null, .int 0])), (q8, .inl (k 2, 400, .inl (fun _ => 0))), (q17, .inl (k 2, 400, .inl (fun _ => 0))), (q26, .inl (k 3, 400, .inr (.inl (fun _ => 0))))] := h
  refine x_putF C hmn h 0 2 dX2_init_28 rfl rfl iX2 (Nat.le_of_ble_eq_true rfl) (List.mem_of_getElem? (i := 8) rfl) tyX2_ok nmX2 (Nat.le_of_ble_eq_true rfl) rfl rfl rfl rfl (fun H locs h => ?_)
  have h : Hp D _ _ H _ [(a, .inr (3, [.ref q8, .ref q17, .ref q26, .null, .null, .null, .null, .null, .int 0])), (q8, .inl (k 2, 400, .inl (fun _ => 0))), (q17, .inl (k 2, 400, .inl (fun _ => 0))), (q26, .inl (k 3, 400, .inr (.inl (fun _ => 0))))] := h
  refine lv_aload_n C.1 C.2.1 dX2_init_31 rfl (lv_at hl 0 rfl) ?_
  refine lv_sipush (v := 400) C.1 C.2.1 dX2_init_32 (by decide) ?_
  refine x_newa (a0 := (400, .inr (.inl (fun _ => 0)))) C h 3 dX2_init_35 rfl rfl (List.mem_of_getElem? (i := 7) rfl) (fun _ => rfl) (by decide) (by decide) (by decide) (Nat.le_of_ble_eq_true rfl) (Nat.le_of_ble_eq_true rfl) (fun q35 H h => ?_)
  have h : Hp D _ _ H _ [(a, .inr (3, [.ref q8, .ref q17, .ref q26, .null, .null, .null, .null, .null, .int 0])), (q8, .inl (k 2, 400, .inl (fun _ => 0))), (q17, .inl (k 2, 400, .inl (fun _ => 0))), (q26, .inl (k 3, 400, .inr (.inl (fun _ => 0)))), (q35, .inl (k 3, 400, .inr (.inl (fun _ => 0))))] := h
  refine x_putF C hmn h 0 3 dX2_init_37 rfl rfl iX2 (Nat.le_of_ble_eq_true rfl) (List.mem_of_getElem? (i := 9) rfl) tyX2_ok nmX2 (Nat.le_of_ble_eq_true rfl) rfl rfl rfl rfl (fun H locs h => ?_)
  have h : Hp D _ _ H _ [(a, .inr (3, [.ref q8, .ref q17, .ref q26, .ref q35, .null, .null, .null, .null, .int 0])), (q8, .inl (k 2, 400, .inl (fun _ => 0))), (q17, .inl (k 2, 400, .inl (fun _ => 0))), (q26, .inl (k 3, 400, .inr (.inl (fun _ => 0)))), (q35, .inl (k 3, 400, .inr (.inl (fun _ => 0))))] := h
  refine lv_aload_n C.1 C.2.1 dX2_init_40 rfl (lv_at hl 0 rfl) ?_
  refine lv_sipush (v := 400) C.1 C.2.1 dX2_init_41 (by decide) ?_
  refine x_newa (a0 := (400, .inr (.inl (fun _ => 0)))) C h 3 dX2_init_44 rfl rfl (List.mem_of_getElem? (i := 7) rfl) (fun _ => rfl) (by decide) (by decide) (by decide) (Nat.le_of_ble_eq_true rfl) (Nat.le_of_ble_eq_true rfl) (fun q44 H h => ?_)
  have h : Hp D _ _ H _ [(a, .inr (3, [.ref q8, .ref q17, .ref q26, .ref q35, .null, .null, .null, .null, .int 0])), (q8, .inl (k 2, 400, .inl (fun _ => 0))), (q17, .inl (k 2, 400, .inl (fun _ => 0))), (q26, .inl (k 3, 400, .inr (.inl (fun _ => 0)))), (q35, .inl (k 3, 400, .inr (.inl (fun _ => 0)))), (q44, .inl (k 3, 400, .inr (.inl (fun _ => 0))))] := h
  refine x_putF C hmn h 0 4 dX2_init_46 rfl rfl iX2 (Nat.le_of_ble_eq_true rfl) (List.mem_of_getElem? (i := 10) rfl) tyX2_ok nmX2 (Nat.le_of_ble_eq_true rfl) rfl rfl rfl rfl (fun H locs h => ?_)
  have h : Hp D _ _ H _ [(a, .inr (3, [.ref q8, .ref q17, .ref q26, .ref q35, .ref q44, .null, .null, .null, .int 0])), (q8, .inl (k 2, 400, .inl (fun _ => 0))), (q17, .inl (k 2, 400, .inl (fun _ => 0))), (q26, .inl (k 3, 400, .inr (.inl (fun _ => 0)))), (q35, .inl (k 3, 400, .inr (.inl (fun _ => 0)))), (q44, .inl (k 3, 400, .inr (.inl (fun _ => 0))))] := h
  refine lv_aload_n C.1 C.2.1 dX2_init_49 rfl (lv_at hl 0 rfl) ?_
  refine lv_sipush (v := 400) C.1 C.2.1 dX2_init_50 (by decide) ?_
  refine x_newa (a0 := (400, .inr (.inl (fun _ => 0)))) C h 3 dX2_init_53 rfl rfl (List.mem_of_getElem? (i := 7) rfl) (fun _ => rfl) (by decide) (by decide) (by decide) (Nat.le_of_ble_eq_true rfl) (Nat.le_of_ble_eq_true rfl) (fun q53 H h => ?_)
  have h : Hp D _ _ H _ [(a, .inr (3, [.ref q8, .ref q17, .ref q26, .ref q35, .ref q44, .null, .null, .null, .int 0])), (q8, .inl (k 2, 400, .inl (fun _ => 0))), (q17, .inl (k 2, 400, .inl (fun _ => 0))), (q26, .inl (k 3, 400, .inr (.inl (fun _ => 0)))), (q35, .inl (k 3, 400, .inr (.inl (fun _ => 0)))), (q44, .inl (k 3, 400, .inr (.inl (fun _ => 0)))), (q53, .inl (k 3, 400, .inr (.inl (fun _ => 0))))] := h
  refine x_putF C hmn h 0 5 dX2_init_55 rfl rfl iX2 (Nat.le_of_ble_eq_true rfl) (List.mem_of_getElem? (i := 11) rfl) tyX2_ok nmX2 (Nat.le_of_ble_eq_true rfl) rfl rfl rfl rfl (fun H locs h => ?_)
  have h : Hp D _ _ H _ [(a, .inr (3, [.ref q8, .ref q17, .ref q26, .ref q35, .ref q44, .ref q53, .null, .null, .int 0])), (q8, .inl (k 2, 400, .inl (fun _ => 0))), (q17, .inl (k 2, 400, .inl (fun _ => 0))), (q26, .inl (k 3, 400, .inr (.inl (fun _ => 0)))), (q35, .inl (k 3, 400, .inr (.inl (fun _ => 0)))), (q44, .inl (k 3, 400, .inr (.inl (fun _ => 0)))), (q53, .inl (k 3, 400, .inr (.inl (fun _ => 0))))] := h
  refine lv_aload_n C.1 C.2.1 dX2_init_58 rfl (lv_at hl 0 rfl) ?_
  refine lv_sipush (v := 400) C.1 C.2.1 dX2_init_59 (by decide) ?_
  refine x_newa (a0 := (400, .inl (fun _ => 0))) C h 2 dX2_init_62 rfl rfl (List.mem_of_getElem? (i := 4) rfl) (fun _ => rfl) (by decide) (by decide) (by decide) (Nat.le_of_ble_eq_true rfl) (Nat.le_of_ble_eq_true rfl) (fun q62 H h => ?_)
  have h : Hp D _ _ H _ [(a, .inr (3, [.ref q8, .ref q17, .ref q26, .ref q35, .ref q44, .ref q53, .null, .null, .int 0])), (q8, .inl (k 2, 400, .inl (fun _ => 0))), (q17, .inl (k 2, 400, .inl (fun _ => 0))), (q26, .inl (k 3, 400, .inr (.inl (fun _ => 0)))), (q35, .inl (k 3, 400, .inr (.inl (fun _ => 0)))), (q44, .inl (k 3, 400, .inr (.inl (fun _ => 0)))), (q53, .inl (k 3, 400, .inr (.inl (fun _ => 0)))), (q62, .inl (k 2, 400, .inl (fun _ => 0)))] := h
  refine x_putF C hmn h 0 6 dX2_init_64 rfl rfl iX2 (Nat.le_of_ble_eq_true rfl) (List.mem_of_getElem? (i := 12) rfl) tyX2_ok nmX2 (Nat.le_of_ble_eq_true rfl) rfl rfl rfl rfl (fun H locs h => ?_)
  have h : Hp D _ _ H _ [(a, .inr (3, [.ref q8, .ref q17, .ref q26, .ref q35, .ref q44, .ref q53, .ref q62, .null, .int 0])), (q8, .inl (k 2, 400, .inl (fun _ => 0))), (q17, .inl (k 2, 400, .inl (fun _ => 0))), (q26, .inl (k 3, 400, .inr (.inl (fun _ => 0)))), (q35, .inl (k 3, 400, .inr (.inl (fun _ => 0)))), (q44, .inl (k 3, 400, .inr (.inl (fun _ => 0)))), (q53, .inl (k 3, 400, .inr (.inl (fun _ => 0)))), (q62, .inl (k 2, 400, .inl (fun _ => 0)))] := h
  refine lv_aload_n C.1 C.2.1 dX2_init_67 rfl (lv_at hl 0 rfl) ?_
  refine lv_sipush (v := 400) C.1 C.2.1 dX2_init_68 (by decide) ?_
  refine x_newa (a0 := (400, .inl (fun _ => 0))) C h 4 dX2_init_71 rfl rfl (List.mem_of_getElem? (i := 13) rfl) (fun _ => rfl) (by decide) (by decide) (by decide) (Nat.le_of_ble_eq_true rfl) (Nat.le_of_ble_eq_true rfl) (fun q71 H h => ?_)
  have h : Hp D _ _ H _ [(a, .inr (3, [.ref q8, .ref q17, .ref q26, .ref q35, .ref q44, .ref q53, .ref q62, .null, .int 0])), (q8, .inl (k 2, 400, .inl (fun _ => 0))), (q17, .inl (k 2, 400, .inl (fun _ => 0))), (q26, .inl (k 3, 400, .inr (.inl (fun _ => 0)))), (q35, .inl (k 3, 400, .inr (.inl (fun _ => 0)))), (q44, .inl (k 3, 400, .inr (.inl (fun _ => 0)))), (q53, .inl (k 3, 400, .inr (.inl (fun _ => 0)))), (q62, .inl (k 2, 400, .inl (fun _ => 0))), (q71, .inl (k 4, 400, .inl (fun _ => 0)))] := h
  refine x_putF C hmn h 0 7 dX2_init_73 rfl rfl iX2 (Nat.le_of_ble_eq_true rfl) (List.mem_of_getElem? (i := 14) rfl) tyX2_ok nmX2 (Nat.le_of_ble_eq_true rfl) rfl rfl rfl rfl (fun H locs h => ?_)
  have h : Hp D _ _ H _ [(a, .inr (3, [.ref q8, .ref q17, .ref q26, .ref q35, .ref q44, .ref q53, .ref q62, .ref q71, .int 0])), (q8, .inl (k 2, 400, .inl (fun _ => 0))), (q17, .inl (k 2, 400, .inl (fun _ => 0))), (q26, .inl (k 3, 400, .inr (.inl (fun _ => 0)))), (q35, .inl (k 3, 400, .inr (.inl (fun _ => 0)))), (q44, .inl (k 3, 400, .inr (.inl (fun _ => 0)))), (q53, .inl (k 3, 400, .inr (.inl (fun _ => 0)))), (q62, .inl (k 2, 400, .inl (fun _ => 0))), (q71, .inl (k 4, 400, .inl (fun _ => 0)))] := h
  refine lv_aload_n C.1 C.2.1 dX2_init_76 rfl (lv_at hl 0 rfl) ?_
  refine lv_iconst (v := 0) C.1 C.2.1 dX2_init_77 (by decide) ?_
  refine x_put C h 0 8 dX2_init_78 rfl rfl iX2 (Nat.le_of_ble_eq_true rfl) (List.mem_of_getElem? (i := 15) rfl) tyX2_ok nmX2 (Nat.le_of_ble_eq_true rfl) rfl rfl rfl (fun H locs h => ?_)
  have h : Hp D _ _ H _ [(a, .inr (3, [.ref q8, .ref q17, .ref q26, .ref q35, .ref q44, .ref q53, .ref q62, .ref q71, .int 0])), (q8, .inl (k 2, 400, .inl (fun _ => 0))), (q17, .inl (k 2, 400, .inl (fun _ => 0))), (q26, .inl (k 3, 400, .inr (.inl (fun _ => 0)))), (q35, .inl (k 3, 400, .inr (.inl (fun _ => 0)))), (q44, .inl (k 3, 400, .inr (.inl (fun _ => 0)))), (q53, .inl (k 3, 400, .inr (.inl (fun _ => 0)))), (q62, .inl (k 2, 400, .inl (fun _ => 0))), (q71, .inl (k 4, 400, .inl (fun _ => 0)))] := h
  exact x_vret C h hr hlk (fun j => if j = 0 then q8 else if j = 1 then q17 else if j = 2 then q26 else if j = 3 then q35 else if j = 4 then q44 else if j = 5 then q53 else if j = 6 then q62 else if j = 7 then q71 else 0) dX2_init_81 trivial rfl (Nat.le_of_ble_eq_true rfl) (Nat.le_of_ble_eq_true rfl)
set_option maxHeartbeats 4000000 in
set_option maxRecDepth 100000 in
theorem m_X3_init (l : Launch) (D : va_G) (k : Nat → ClassId) (a : Nat) : Mv l yX3_init wsX3_init { frames := 1, cells := 5, slots := 551, locals := 12 } [.ref a] D (TYs k) [(a, .inr (4, [.null, .null, .null, .null, .null, .int 0, .int 0, .int 0, .int 0, .int 0]))] (fun U => va_AO "CycleStudio$Pattern" U ∧ va_AO "CycleStudio$Definition" U) (Nat → Nat) (fun _ => True) (fun q => [(a, .inr (4, [.ref (q 0), .ref (q 1), .ref (q 2), .ref (q 3), .ref (q 4), .int 0, .int 0, .int 0, .int 0, .int 0])), ((q 0), .inl (k 6, 0, .inr (.inr (.inr (.inr (fun _ => none)))))), ((q 1), .inl (k 6, 512, .inr (.inr (.inr (.inr (fun _ => none)))))), ((q 2), .inl (k 5, 13, .inr (.inr (.inr (.inr (fun _ => none)))))), ((q 3), .inl (k 2, 13, .inl (fun _ => 0))), ((q 4), .inl (k 2, 13, .inl (fun _ => 0)))]) 5 551 := by
  intro sz
  refine x_met (cc := cX3_init) (maxL := 1) (ret := none) (by decide) rfl (Nat.le_of_ble_eq_true rfl) ?_
  intro p e s m below meth c ls C hX hsz hr hlk hmn hl h
  have hl : lv_has ls 1 [(0, .ref a)] := hl
  have hO_X4 := hX.1
  have hO_X0 := hX.2
  have iX3 : ∀ w ∈ u_ws RX3 TX3 10, w ∈ wsX3_init := fun w h => List.mem_cons_of_mem _ (List.mem_append_right _ h)
  refine lv_aload_n C.1 C.2.1 dX3_init_0 rfl (lv_at hl 0 rfl) ?_
  refine x_objInit C hl.1 dX3_init_1 (List.mem_of_getElem? (i := 1) rfl) (List.mem_of_getElem? (i := 2) rfl) (List.mem_of_getElem? (i := 3) rfl) (Nat.le_of_ble_eq_true rfl) (Nat.le_of_ble_eq_true rfl) ?_
  refine lv_aload_n C.1 C.2.1 dX3_init_4 rfl (lv_at hl 0 rfl) ?_
  refine lv_iconst (v := 0) C.1 C.2.1 dX3_init_5 (by decide) ?_
  refine x_newq (N' := 0) C h 6 dX3_init_6 (List.mem_of_getElem? (i := 4) rfl) hO_X4 rfl (by decide) (by decide) (by decide) (Nat.le_of_ble_eq_true rfl) (Nat.le_of_ble_eq_true rfl) (fun q6 H h => ?_)
  have h : Hp D _ _ H _ [(a, .inr (4, [.null, .null, .null, .null, .null, .int 0, .int 0, .int 0, .int 0, .int 0])), (q6, .inl (k 6, 0, .inr (.inr (.inr (.inr (fun _ => none))))))] := h
  refine x_putF C hmn h 0 0 dX3_init_9 rfl rfl iX3 (Nat.le_of_ble_eq_true rfl) (List.mem_of_getElem? (i := 5) rfl) tyX3_ok nmX3 (Nat.le_of_ble_eq_true rfl) rfl rfl rfl rfl (fun H locs h => ?_)
  have h : Hp D _ _ H _ [(a, .inr (4, [.ref q6, .null, .null, .null, .null, .int 0, .int 0, .int 0, .int 0, .int 0])), (q6, .inl (k 6, 0, .inr (.inr (.inr (.inr (fun _ => none))))))] := h
  refine lv_aload_n C.1 C.2.1 dX3_init_12 rfl (lv_at hl 0 rfl) ?_
  refine lv_sipush (v := 512) C.1 C.2.1 dX3_init_13 (by decide) ?_
  refine x_newq (N' := 512) C h 6 dX3_init_16 (List.mem_of_getElem? (i := 4) rfl) hO_X4 rfl (by decide) (by decide) (by decide) (Nat.le_of_ble_eq_true rfl) (Nat.le_of_ble_eq_true rfl) (fun q16 H h => ?_)
  have h : Hp D _ _ H _ [(a, .inr (4, [.ref q6, .null, .null, .null, .null, .int 0, .int 0, .int 0, .int 0, .int 0])), (q6, .inl (k 6, 0, .inr (.inr (.inr (.inr (fun _ => none)))))), (q16, .inl (k 6, 512, .inr (.inr (.inr (.inr (fun _ => none))))))] := h
  refine x_putF C hmn h 0 1 dX3_init_19 rfl rfl iX3 (Nat.le_of_ble_eq_true rfl) (List.mem_of_getElem? (i := 6) rfl) tyX3_ok nmX3 (Nat.le_of_ble_eq_true rfl) rfl rfl rfl rfl (fun H locs h => ?_)
  have h : Hp D _ _ H _ [(a, .inr (4, [.ref q6, .ref q16, .null, .null, .null, .int 0, .int 0, .int 0, .int 0, .int 0])), (q6, .inl (k 6, 0, .inr (.inr (.inr (.inr (fun _ => none)))))), (q16, .inl (k 6, 512, .inr (.inr (.inr (.inr (fun _ => none))))))] := h
  refine lv_aload_n C.1 C.2.1 dX3_init_22 rfl (lv_at hl 0 rfl) ?_
  refine lv_bipush (v := 13) C.1 C.2.1 dX3_init_23 (by decide) ?_
  refine x_newq (N' := 13) C h 5 dX3_init_25 (List.mem_of_getElem? (i := 7) rfl) hO_X0 rfl (by decide) (by decide) (by decide) (Nat.le_of_ble_eq_true rfl) (Nat.le_of_ble_eq_true rfl) (fun q25 H h => ?_)
  have h : Hp D _ _ H _ [(a, .inr (4, [.ref q6, .ref q16, .null, .null, .null, .int 0, .int 0, .int 0, .int 0, .int 0])), (q6, .inl (k 6, 0, .inr (.inr (.inr (.inr (fun _ => none)))))), (q16, .inl (k 6, 512, .inr (.inr (.inr (.inr (fun _ => none)))))), (q25, .inl (k 5, 13, .inr (.inr (.inr (.inr (fun _ => none))))))] := h
  refine x_putF C hmn h 0 2 dX3_init_28 rfl rfl iX3 (Nat.le_of_ble_eq_true rfl) (List.mem_of_getElem? (i := 8) rfl) tyX3_ok nmX3 (Nat.le_of_ble_eq_true rfl) rfl rfl rfl rfl (fun H locs h => ?_)
  have h : Hp D _ _ H _ [(a, .inr (4, [.ref q6, .ref q16, .ref q25, .null, .null, .int 0, .int 0, .int 0, .int 0, .int 0])), (q6, .inl (k 6, 0, .inr (.inr (.inr (.inr (fun _ => none)))))), (q16, .inl (k 6, 512, .inr (.inr (.inr (.inr (fun _ => none)))))), (q25, .inl (k 5, 13, .inr (.inr (.inr (.inr (fun _ => none))))))] := h
  refine lv_aload_n C.1 C.2.1 dX3_init_31 rfl (lv_at hl 0 rfl) ?_
  refine lv_bipush (v := 13) C.1 C.2.1 dX3_init_32 (by decide) ?_
  refine x_newa (a0 := (13, .inl (fun _ => 0))) C h 2 dX3_init_34 rfl rfl (List.mem_of_getElem? (i := 9) rfl) (fun _ => rfl) (by decide) (by decide) (by decide) (Nat.le_of_ble_eq_true rfl) (Nat.le_of_ble_eq_true rfl) (fun q34 H h => ?_)
  have h : Hp D _ _ H _ [(a, .inr (4, [.ref q6, .ref q16, .ref q25, .null, .null, .int 0, .int 0, .int 0, .int 0, .int 0])), (q6, .inl (k 6, 0, .inr (.inr (.inr (.inr (fun _ => none)))))), (q16, .inl (k 6, 512, .inr (.inr (.inr (.inr (fun _ => none)))))), (q25, .inl (k 5, 13, .inr (.inr (.inr (.inr (fun _ => none)))))), (q34, .inl (k 2, 13, .inl (fun _ => 0)))] := h
  refine x_putF C hmn h 0 3 dX3_init_36 rfl rfl iX3 (Nat.le_of_ble_eq_true rfl) (List.mem_of_getElem? (i := 10) rfl) tyX3_ok nmX3 (Nat.le_of_ble_eq_true rfl) rfl rfl rfl rfl (fun H locs h => ?_)
  have h : Hp D _ _ H _ [(a, .inr (4, [.ref q6, .ref q16, .ref q25, .ref q34, .null, .int 0, .int 0, .int 0, .int 0, .int 0])), (q6, .inl (k 6, 0, .inr (.inr (.inr (.inr (fun _ => none)))))), (q16, .inl (k 6, 512, .inr (.inr (.inr (.inr (fun _ => none)))))), (q25, .inl (k 5, 13, .inr (.inr (.inr (.inr (fun _ => none)))))), (q34, .inl (k 2, 13, .inl (fun _ => 0)))] := h
  refine lv_aload_n C.1 C.2.1 dX3_init_39 rfl (lv_at hl 0 rfl) ?_
  refine lv_bipush (v := 13) C.1 C.2.1 dX3_init_40 (by decide) ?_
  refine x_newa (a0 := (13, .inl (fun _ => 0))) C h 2 dX3_init_42 rfl rfl (List.mem_of_getElem? (i := 9) rfl) (fun _ => rfl) (by decide) (by decide) (by decide) (Nat.le_of_ble_eq_true rfl) (Nat.le_of_ble_eq_true rfl) (fun q42 H h => ?_)
  have h : Hp D _ _ H _ [(a, .inr (4, [.ref q6, .ref q16, .ref q25, .ref q34, .null, .int 0, .int 0, .int 0, .int 0, .int 0])), (q6, .inl (k 6, 0, .inr (.inr (.inr (.inr (fun _ => none)))))), (q16, .inl (k 6, 512, .inr (.inr (.inr (.inr (fun _ => none)))))), (q25, .inl (k 5, 13, .inr (.inr (.inr (.inr (fun _ => none)))))), (q34, .inl (k 2, 13, .inl (fun _ => 0))), (q42, .inl (k 2, 13, .inl (fun _ => 0)))] := h
  refine x_putF C hmn h 0 4 dX3_init_44 rfl rfl iX3 (Nat.le_of_ble_eq_true rfl) (List.mem_of_getElem? (i := 11) rfl) tyX3_ok nmX3 (Nat.le_of_ble_eq_true rfl) rfl rfl rfl rfl (fun H locs h => ?_)
  have h : Hp D _ _ H _ [(a, .inr (4, [.ref q6, .ref q16, .ref q25, .ref q34, .ref q42, .int 0, .int 0, .int 0, .int 0, .int 0])), (q6, .inl (k 6, 0, .inr (.inr (.inr (.inr (fun _ => none)))))), (q16, .inl (k 6, 512, .inr (.inr (.inr (.inr (fun _ => none)))))), (q25, .inl (k 5, 13, .inr (.inr (.inr (.inr (fun _ => none)))))), (q34, .inl (k 2, 13, .inl (fun _ => 0))), (q42, .inl (k 2, 13, .inl (fun _ => 0)))] := h
  refine lv_aload_n C.1 C.2.1 dX3_init_47 rfl (lv_at hl 0 rfl) ?_
  refine lv_iconst (v := 0) C.1 C.2.1 dX3_init_48 (by decide) ?_
  refine x_put C h 0 5 dX3_init_49 rfl rfl iX3 (Nat.le_of_ble_eq_true rfl) (List.mem_of_getElem? (i := 12) rfl) tyX3_ok nmX3 (Nat.le_of_ble_eq_true rfl) rfl rfl rfl (fun H locs h => ?_)
  have h : Hp D _ _ H _ [(a, .inr (4, [.ref q6, .ref q16, .ref q25, .ref q34, .ref q42, .int 0, .int 0, .int 0, .int 0, .int 0])), (q6, .inl (k 6, 0, .inr (.inr (.inr (.inr (fun _ => none)))))), (q16, .inl (k 6, 512, .inr (.inr (.inr (.inr (fun _ => none)))))), (q25, .inl (k 5, 13, .inr (.inr (.inr (.inr (fun _ => none)))))), (q34, .inl (k 2, 13, .inl (fun _ => 0))), (q42, .inl (k 2, 13, .inl (fun _ => 0)))] := h
  refine lv_aload_n C.1 C.2.1 dX3_init_52 rfl (lv_at hl 0 rfl) ?_
  refine lv_iconst (v := 0) C.1 C.2.1 dX3_init_53 (by decide) ?_
  refine x_put C h 0 6 dX3_init_54 rfl rfl iX3 (Nat.le_of_ble_eq_true rfl) (List.mem_of_getElem? (i := 13) rfl) tyX3_ok nmX3 (Nat.le_of_ble_eq_true rfl) rfl rfl rfl (fun H locs h => ?_)
  have h : Hp D _ _ H _ [(a, .inr (4, [.ref q6, .ref q16, .ref q25, .ref q34, .ref q42, .int 0, .int 0, .int 0, .int 0, .int 0])), (q6, .inl (k 6, 0, .inr (.inr (.inr (.inr (fun _ => none)))))), (q16, .inl (k 6, 512, .inr (.inr (.inr (.inr (fun _ => none)))))), (q25, .inl (k 5, 13, .inr (.inr (.inr (.inr (fun _ => none)))))), (q34, .inl (k 2, 13, .inl (fun _ => 0))), (q42, .inl (k 2, 13, .inl (fun _ => 0)))] := h
  refine lv_aload_n C.1 C.2.1 dX3_init_57 rfl (lv_at hl 0 rfl) ?_
  refine lv_iconst (v := 0) C.1 C.2.1 dX3_init_58 (by decide) ?_
  refine x_put C h 0 7 dX3_init_59 rfl rfl iX3 (Nat.le_of_ble_eq_true rfl) (List.mem_of_getElem? (i := 14) rfl) tyX3_ok nmX3 (Nat.le_of_ble_eq_true rfl) rfl rfl rfl (fun H locs h => ?_)
  have h : Hp D _ _ H _ [(a, .inr (4, [.ref q6, .ref q16, .ref q25, .ref q34, .ref q42, .int 0, .int 0, .int 0, .int 0, .int 0])), (q6, .inl (k 6, 0, .inr (.inr (.inr (.inr (fun _ => none)))))), (q16, .inl (k 6, 512, .inr (.inr (.inr (.inr (fun _ => none)))))), (q25, .inl (k 5, 13, .inr (.inr (.inr (.inr (fun _ => none)))))), (q34, .inl (k 2, 13, .inl (fun _ => 0))), (q42, .inl (k 2, 13, .inl (fun _ => 0)))] := h
  refine lv_aload_n C.1 C.2.1 dX3_init_62 rfl (lv_at hl 0 rfl) ?_
  refine lv_iconst (v := 0) C.1 C.2.1 dX3_init_63 (by decide) ?_
  refine x_put C h 0 8 dX3_init_64 rfl rfl iX3 (Nat.le_of_ble_eq_true rfl) (List.mem_of_getElem? (i := 15) rfl) tyX3_ok nmX3 (Nat.le_of_ble_eq_true rfl) rfl rfl rfl (fun H locs h => ?_)
  have h : Hp D _ _ H _ [(a, .inr (4, [.ref q6, .ref q16, .ref q25, .ref q34, .ref q42, .int 0, .int 0, .int 0, .int 0, .int 0])), (q6, .inl (k 6, 0, .inr (.inr (.inr (.inr (fun _ => none)))))), (q16, .inl (k 6, 512, .inr (.inr (.inr (.inr (fun _ => none)))))), (q25, .inl (k 5, 13, .inr (.inr (.inr (.inr (fun _ => none)))))), (q34, .inl (k 2, 13, .inl (fun _ => 0))), (q42, .inl (k 2, 13, .inl (fun _ => 0)))] := h
  refine lv_aload_n C.1 C.2.1 dX3_init_67 rfl (lv_at hl 0 rfl) ?_
  refine lv_iconst (v := 0) C.1 C.2.1 dX3_init_68 (by decide) ?_
  refine x_put C h 0 9 dX3_init_69 rfl rfl iX3 (Nat.le_of_ble_eq_true rfl) (List.mem_of_getElem? (i := 16) rfl) tyX3_ok nmX3 (Nat.le_of_ble_eq_true rfl) rfl rfl rfl (fun H locs h => ?_)
  have h : Hp D _ _ H _ [(a, .inr (4, [.ref q6, .ref q16, .ref q25, .ref q34, .ref q42, .int 0, .int 0, .int 0, .int 0, .int 0])), (q6, .inl (k 6, 0, .inr (.inr (.inr (.inr (fun _ => none)))))), (q16, .inl (k 6, 512, .inr (.inr (.inr (.inr (fun _ => none)))))), (q25, .inl (k 5, 13, .inr (.inr (.inr (.inr (fun _ => none)))))), (q34, .inl (k 2, 13, .inl (fun _ => 0))), (q42, .inl (k 2, 13, .inl (fun _ => 0)))] := h
  exact x_vret C h hr hlk (fun j => if j = 0 then q6 else if j = 1 then q16 else if j = 2 then q25 else if j = 3 then q34 else if j = 4 then q42 else 0) dX3_init_72 trivial rfl (Nat.le_of_ble_eq_true rfl) (Nat.le_of_ble_eq_true rfl)
