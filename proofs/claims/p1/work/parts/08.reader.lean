def rdS : Nat → Int64 × Nat × (Nat → Int64)
  | 0 => (0, 0, fun _ => 0)
  | i + 1 => if sC 0 i = 32 then (0, (rdS i).2.1 + 1, vp_updL (rdS i).2.2 (rdS i).2.1 (rdS i).1) else (lonG (rdS i).1 (sC 0 i), (rdS i).2.1, (rdS i).2.2)
theorem rdS_sp {i : Nat} (h : sC 0 i = 32) : rdS (i + 1) = (0, (rdS i).2.1 + 1, vp_updL (rdS i).2.2 (rdS i).2.1 (rdS i).1) := by rw [rdS, if_pos h]
theorem rdS_ch {i : Nat} (h : ¬ sC 0 i = 32) : rdS (i + 1) = (lonG (rdS i).1 (sC 0 i), (rdS i).2.1, (rdS i).2.2) := by rw [rdS, if_neg h]
def fcn : Nat → Nat
  | 0 => 0
  | i + 1 => if sC 0 i = 32 then fcn i + 1 else fcn i
theorem rdS_f : ∀ i, (rdS i).2.1 = fcn i
  | 0 => rfl
  | i + 1 => by
    by_cases h : sC 0 i = 32
    · rw [rdS_sp h, fcn, if_pos h, ← rdS_f i]
    · rw [rdS_ch h, fcn, if_neg h, ← rdS_f i]
theorem fcn_lt : ∀ i, i < 113 → fcn i < 21 := by decide +kernel
theorem rdS_lt {i : Nat} (h : i < 113) : (rdS i).2.1 < 21 := by rw [rdS_f]; exact fcn_lt i h
set_option maxHeartbeats 4000000 in
set_option maxRecDepth 100000 in
theorem m_X6_init (l : Launch) (D : va_G) (k : Nat → ClassId) (z : Nat) (aK aV : Nat → Nat) (a b t : Nat) : Mv l yX6_init wsX6_init { frames := 5, cells := 6, slots := 44, locals := 94 } [.ref a, .ref b, .ref t] D (TYs k) [(a, .inr (7, [.null, .null, .null, .null, .null, .int 0, .null]))] (XE z aK aV [(a, .inr (7, [.null, .null, .null, .null, .null, .int 0, .null]))]) (Nat → Nat) (fun _ => True) (fun q => [(a, .inr (7, [.ref b, .ref (q 5), .ref t, .ref (q 0), .ref (q 1), .int 0, .null])), ((q 0), .inl (k 3, 21, .inr (.inl (rdS 113).2.2))), ((q 1), .inr (1, [.long 0, .ref (q 2), .int 0, .ref (q 3), .ref (q 4), .int 0, .null])), ((q 2), .inl (k 3, 4, .inr (.inl (fun _ => 0)))), ((q 3), .inr (0, [.int 0, .ref z, .int 0])), ((q 4), .inr (0, [.int 0, .ref z, .int 0])), ((q 5), .inr (11, [.ref b, .null, .int 0, .int 0, .int 0, .int 0]))]) 6 44 := by
  intro sz
  refine x_met (cc := cX6_init) (maxL := 7) (ret := none) (by decide) rfl (Nat.le_of_ble_eq_true rfl) ?_
  intro p e s m below meth c ls C hX hsz hr hlk hmn hl h
  have hl : lv_has ls 7 [(0, .ref a), (1, .ref b), (2, .ref t)] := hl
  have hE : En z aK aV (va_A [(a, .inr (7, [.null, .null, .null, .null, .null, .int 0, .null]))] sz) s s.heap := by rw [← hsz]; exact hX
  have iX0 : ∀ w ∈ u_ws RX0 TX0 7, w ∈ wsX6_init := fun w h => List.mem_cons_of_mem _ (List.mem_append_left _ (List.mem_append_left _ (List.mem_append_right _ h)))
  have iX10 : ∀ w ∈ u_ws RX10 TX10 6, w ∈ wsX6_init := fun w h => List.mem_cons_of_mem _ (List.mem_append_left _ (List.mem_append_right _ h))
  have iX6 : ∀ w ∈ u_ws RX6 TX6 7, w ∈ wsX6_init := fun w h => List.mem_cons_of_mem _ (List.mem_append_left _ (List.mem_append_left _ (List.mem_append_left _ (List.mem_append_right _ h))))
  refine lv_aload_n C.1 C.2.1 dX6_init_0 rfl (lv_at hl 0 rfl) ?_
  refine x_objInit C hl.1 dX6_init_1 (List.mem_of_getElem? (i := 1) rfl) (List.mem_of_getElem? (i := 2) rfl) (List.mem_of_getElem? (i := 3) rfl) (Nat.le_of_ble_eq_true rfl) (Nat.le_of_ble_eq_true rfl) ?_
  refine lv_aload_n C.1 C.2.1 dX6_init_4 rfl (lv_at hl 0 rfl) ?_
  refine lv_bipush (v := 21) C.1 C.2.1 dX6_init_5 (by decide) ?_
  refine x_newa (a0 := (21, .inr (.inl (fun _ => 0)))) C h 3 dX6_init_7 rfl rfl (List.mem_of_getElem? (i := 4) rfl) (fun _ => rfl) (by decide) (by decide) (by decide) (Nat.le_of_ble_eq_true rfl) (Nat.le_of_ble_eq_true rfl) (fun q7 H h => ?_)
  have h : Hp D _ _ H _ [(a, .inr (7, [.null, .null, .null, .null, .null, .int 0, .null])), (q7, .inl (k 3, 21, .inr (.inl (fun _ => 0))))] := h
  refine x_putF C hmn h 0 3 dX6_init_9 rfl rfl iX6 (Nat.le_of_ble_eq_true rfl) (List.mem_of_getElem? (i := 5) rfl) tyX6_ok nmX6 (Nat.le_of_ble_eq_true rfl) rfl rfl rfl rfl (fun H locs h => ?_)
  have h : Hp D _ _ H _ [(a, .inr (7, [.null, .null, .null, .ref q7, .null, .int 0, .null])), (q7, .inl (k 3, 21, .inr (.inl (fun _ => 0))))] := h
  refine lv_aload_n C.1 C.2.1 dX6_init_12 rfl (lv_at hl 0 rfl) ?_
  refine x_new (fs := [.long 0, .null, .int 0, .null, .null, .int 0, .null]) C h 1 dX6_init_13 rfl iX0 tyX0_ok (List.mem_of_getElem? (i := 6) rfl) (List.mem_of_getElem? (i := 7) rfl) (List.mem_of_getElem? (i := 8) rfl) (by decide) (Nat.le_of_ble_eq_true rfl) (Nat.le_of_ble_eq_true rfl) (fun q13 H h => ?_)
  have h : Hp D _ _ H _ [(a, .inr (7, [.null, .null, .null, .ref q7, .null, .int 0, .null])), (q7, .inl (k 3, 21, .inr (.inl (fun _ => 0)))), (q13, .inr (1, [.long 0, .null, .int 0, .null, .null, .int 0, .null]))] := h
  refine lv_dup C.1 C.2.1 dX6_init_16 rfl ?_
  refine lv_lconst (v := 0) C.1 C.2.1 dX6_init_17 (by decide) ?_
  refine x_callIv (wr := [(a, .inr (7, [.null, .null, .null, .ref q7, .null, .int 0, .null])), (q7, .inl (k 3, 21, .inr (.inl (fun _ => 0))))]) C h (m_X0_init l D k z aK aV q13 0) [2] [0, 1] rfl rfl (by decide) (by decide) (by decide) (xok_E hE h [2] rfl) (cwI 1 C.2.2.1 gX6_init_X0_init rfl rfl rfl (C.2.2.1 _ (List.mem_of_getElem? (i := 8) rfl)) (C.2.2.1 _ (List.mem_of_getElem? (i := 18) rfl)) (C.2.2.1 _ (List.mem_of_getElem? (i := 19) rfl)) rfl (by decide +kernel) ⟨Nat.le_of_ble_eq_true rfl, Nat.le_of_ble_eq_true rfl⟩) rfl hl.1 rfl (Nat.le_of_ble_eq_true rfl) dX6_init_18 ⟨Nat.le_of_ble_eq_true rfl, Nat.le_of_ble_eq_true rfl⟩ (fun ud H locs hu h => ?_)
  have h : Hp D _ _ H _ [(a, .inr (7, [.null, .null, .null, .ref q7, .null, .int 0, .null])), (q7, .inl (k 3, 21, .inr (.inl (fun _ => 0)))), (q13, .inr (1, [.long 0, .ref (ud 0), .int 0, .ref (ud 1), .ref (ud 2), .int 0, .null])), ((ud 0), .inl (k 3, 4, .inr (.inl (fun _ => 0)))), ((ud 1), .inr (0, [.int 0, .ref z, .int 0])), ((ud 2), .inr (0, [.int 0, .ref z, .int 0]))] := h
  refine x_put C h 0 4 dX6_init_21 rfl rfl iX6 (Nat.le_of_ble_eq_true rfl) (List.mem_of_getElem? (i := 9) rfl) tyX6_ok nmX6 (Nat.le_of_ble_eq_true rfl) rfl rfl rfl (fun H locs h => ?_)
  have h : Hp D _ _ H _ [(a, .inr (7, [.null, .null, .null, .ref q7, .ref q13, .int 0, .null])), (q7, .inl (k 3, 21, .inr (.inl (fun _ => 0)))), (q13, .inr (1, [.long 0, .ref (ud 0), .int 0, .ref (ud 1), .ref (ud 2), .int 0, .null])), ((ud 0), .inl (k 3, 4, .inr (.inl (fun _ => 0)))), ((ud 1), .inr (0, [.int 0, .ref z, .int 0])), ((ud 2), .inr (0, [.int 0, .ref z, .int 0]))] := h
  refine lv_aload_n C.1 C.2.1 dX6_init_24 rfl (lv_at hl 0 rfl) ?_
  refine lv_iconst (v := 0) C.1 C.2.1 dX6_init_25 (by decide) ?_
  refine x_put C h 0 5 dX6_init_26 rfl rfl iX6 (Nat.le_of_ble_eq_true rfl) (List.mem_of_getElem? (i := 10) rfl) tyX6_ok nmX6 (Nat.le_of_ble_eq_true rfl) rfl rfl rfl (fun H locs h => ?_)
  have h : Hp D _ _ H _ [(a, .inr (7, [.null, .null, .null, .ref q7, .ref q13, .int 0, .null])), (q7, .inl (k 3, 21, .inr (.inl (fun _ => 0)))), (q13, .inr (1, [.long 0, .ref (ud 0), .int 0, .ref (ud 1), .ref (ud 2), .int 0, .null])), ((ud 0), .inl (k 3, 4, .inr (.inl (fun _ => 0)))), ((ud 1), .inr (0, [.int 0, .ref z, .int 0])), ((ud 2), .inr (0, [.int 0, .ref z, .int 0]))] := h
  refine lv_aload_n C.1 C.2.1 dX6_init_29 rfl (lv_at hl 0 rfl) ?_
  refine lv_null C.1 C.2.1 dX6_init_30 ?_
  refine x_put C h 0 6 dX6_init_31 rfl rfl iX6 (Nat.le_of_ble_eq_true rfl) (List.mem_of_getElem? (i := 11) rfl) tyX6_ok nmX6 (Nat.le_of_ble_eq_true rfl) rfl rfl rfl (fun H locs h => ?_)
  have h : Hp D _ _ H _ [(a, .inr (7, [.null, .null, .null, .ref q7, .ref q13, .int 0, .null])), (q7, .inl (k 3, 21, .inr (.inl (fun _ => 0)))), (q13, .inr (1, [.long 0, .ref (ud 0), .int 0, .ref (ud 1), .ref (ud 2), .int 0, .null])), ((ud 0), .inl (k 3, 4, .inr (.inl (fun _ => 0)))), ((ud 1), .inr (0, [.int 0, .ref z, .int 0])), ((ud 2), .inr (0, [.int 0, .ref z, .int 0]))] := h
  refine lv_aload_n C.1 C.2.1 dX6_init_34 rfl (lv_at hl 0 rfl) ?_
  refine lv_aload_n C.1 C.2.1 dX6_init_35 rfl (lv_at hl 1 rfl) ?_
  refine x_putF C hmn h 0 0 dX6_init_36 rfl rfl iX6 (Nat.le_of_ble_eq_true rfl) (List.mem_of_getElem? (i := 12) rfl) tyX6_ok nmX6 (Nat.le_of_ble_eq_true rfl) rfl rfl rfl rfl (fun H locs h => ?_)
  have h : Hp D _ _ H _ [(a, .inr (7, [.ref b, .null, .null, .ref q7, .ref q13, .int 0, .null])), (q7, .inl (k 3, 21, .inr (.inl (fun _ => 0)))), (q13, .inr (1, [.long 0, .ref (ud 0), .int 0, .ref (ud 1), .ref (ud 2), .int 0, .null])), ((ud 0), .inl (k 3, 4, .inr (.inl (fun _ => 0)))), ((ud 1), .inr (0, [.int 0, .ref z, .int 0])), ((ud 2), .inr (0, [.int 0, .ref z, .int 0]))] := h
  refine lv_aload_n C.1 C.2.1 dX6_init_39 rfl (lv_at hl 0 rfl) ?_
  refine lv_aload_n C.1 C.2.1 dX6_init_40 rfl (lv_at hl 2 rfl) ?_
  refine x_putF C hmn h 0 2 dX6_init_41 rfl rfl iX6 (Nat.le_of_ble_eq_true rfl) (List.mem_of_getElem? (i := 13) rfl) tyX6_ok nmX6 (Nat.le_of_ble_eq_true rfl) rfl rfl rfl rfl (fun H locs h => ?_)
  have h : Hp D _ _ H _ [(a, .inr (7, [.ref b, .null, .ref t, .ref q7, .ref q13, .int 0, .null])), (q7, .inl (k 3, 21, .inr (.inl (fun _ => 0)))), (q13, .inr (1, [.long 0, .ref (ud 0), .int 0, .ref (ud 1), .ref (ud 2), .int 0, .null])), ((ud 0), .inl (k 3, 4, .inr (.inl (fun _ => 0)))), ((ud 1), .inr (0, [.int 0, .ref z, .int 0])), ((ud 2), .inr (0, [.int 0, .ref z, .int 0]))] := h
  refine lv_aload_n C.1 C.2.1 dX6_init_44 rfl (lv_at hl 0 rfl) ?_
  refine x_new (fs := [.null, .null, .int 0, .int 0, .int 0, .int 0]) C h 11 dX6_init_45 rfl iX10 tyX10_ok (List.mem_of_getElem? (i := 14) rfl) (List.mem_of_getElem? (i := 15) rfl) (List.mem_of_getElem? (i := 16) rfl) (by decide) (Nat.le_of_ble_eq_true rfl) (Nat.le_of_ble_eq_true rfl) (fun q45 H h => ?_)
  have h : Hp D _ _ H _ [(a, .inr (7, [.ref b, .null, .ref t, .ref q7, .ref q13, .int 0, .null])), (q7, .inl (k 3, 21, .inr (.inl (fun _ => 0)))), (q13, .inr (1, [.long 0, .ref (ud 0), .int 0, .ref (ud 1), .ref (ud 2), .int 0, .null])), ((ud 0), .inl (k 3, 4, .inr (.inl (fun _ => 0)))), ((ud 1), .inr (0, [.int 0, .ref z, .int 0])), ((ud 2), .inr (0, [.int 0, .ref z, .int 0])), (q45, .inr (11, [.null, .null, .int 0, .int 0, .int 0, .int 0]))] := h
  refine lv_dup C.1 C.2.1 dX6_init_48 rfl ?_
  refine lv_aload_n C.1 C.2.1 dX6_init_49 rfl (lv_at hl 1 rfl) ?_
  refine x_callIv (wr := [(a, .inr (7, [.ref b, .null, .ref t, .ref q7, .ref q13, .int 0, .null])), (q7, .inl (k 3, 21, .inr (.inl (fun _ => 0)))), (q13, .inr (1, [.long 0, .ref (ud 0), .int 0, .ref (ud 1), .ref (ud 2), .int 0, .null])), ((ud 0), .inl (k 3, 4, .inr (.inl (fun _ => 0)))), ((ud 1), .inr (0, [.int 0, .ref z, .int 0])), ((ud 2), .inr (0, [.int 0, .ref z, .int 0]))]) C h (m_X10_init l D k q45 b) [6] [0, 1, 2, 3, 4, 5] rfl rfl (by decide) (by decide) (by decide) xok_T (cwI 1 C.2.2.1 gX6_init_X10_init rfl rfl rfl (C.2.2.1 _ (List.mem_of_getElem? (i := 16) rfl)) (C.2.2.1 _ (List.mem_of_getElem? (i := 47) rfl)) (C.2.2.1 _ (List.mem_of_getElem? (i := 48) rfl)) rfl (by decide +kernel) ⟨Nat.le_of_ble_eq_true rfl, Nat.le_of_ble_eq_true rfl⟩) rfl hl.1 rfl (Nat.le_of_ble_eq_true rfl) dX6_init_50 ⟨Nat.le_of_ble_eq_true rfl, Nat.le_of_ble_eq_true rfl⟩ (fun _ H locs hu h => ?_)
  have h : Hp D _ _ H _ [(a, .inr (7, [.ref b, .null, .ref t, .ref q7, .ref q13, .int 0, .null])), (q7, .inl (k 3, 21, .inr (.inl (fun _ => 0)))), (q13, .inr (1, [.long 0, .ref (ud 0), .int 0, .ref (ud 1), .ref (ud 2), .int 0, .null])), ((ud 0), .inl (k 3, 4, .inr (.inl (fun _ => 0)))), ((ud 1), .inr (0, [.int 0, .ref z, .int 0])), ((ud 2), .inr (0, [.int 0, .ref z, .int 0])), (q45, .inr (11, [.ref b, .null, .int 0, .int 0, .int 0, .int 0]))] := h
  refine x_putF C hmn h 0 1 dX6_init_53 rfl rfl iX6 (Nat.le_of_ble_eq_true rfl) (List.mem_of_getElem? (i := 17) rfl) tyX6_ok nmX6 (Nat.le_of_ble_eq_true rfl) rfl rfl rfl rfl (fun H locs h => ?_)
  have h : Hp D _ _ H _ [(a, .inr (7, [.ref b, .ref q45, .ref t, .ref q7, .ref q13, .int 0, .null])), (q7, .inl (k 3, 21, .inr (.inl (fun _ => 0)))), (q13, .inr (1, [.long 0, .ref (ud 0), .int 0, .ref (ud 1), .ref (ud 2), .int 0, .null])), ((ud 0), .inl (k 3, 4, .inr (.inl (fun _ => 0)))), ((ud 1), .inr (0, [.int 0, .ref z, .int 0])), ((ud 2), .inr (0, [.int 0, .ref z, .int 0])), (q45, .inr (11, [.ref b, .null, .int 0, .int 0, .int 0, .int 0]))] := h
  refine lv_lconst (v := 0) C.1 C.2.1 dX6_init_56 (by decide) ?_
  refine lv_lstore_n (lv' := [(3, .long 0), (0, .ref a), (1, .ref b), (2, .ref t)]) C.1 C.2.1 dX6_init_57 rfl hl (by decide) rfl (fun ls hl => ?_)
  refine lv_iconst (v := 0) C.1 C.2.1 dX6_init_58 (by decide) ?_
  refine lv_istore (lv' := [(5, .int 0), (3, .long 0), (0, .ref a), (1, .ref b), (2, .ref t)]) C.1 C.2.1 dX6_init_59 hl (by decide) rfl (fun ls hl => ?_)
  refine lv_iconst (v := 0) C.1 C.2.1 dX6_init_61 (by decide) ?_
  refine lv_istore (lv' := [(6, .int 0), (5, .int 0), (3, .long 0), (0, .ref a), (1, .ref b), (2, .ref t)]) C.1 C.2.1 dX6_init_62 hl (by decide) rfl (fun ls hl => ?_)
  refine W.widen (k := 6) (n := 44) (Nat.le_of_ble_eq_true rfl) (Nat.le_of_ble_eq_true rfl) ?_
  have loop : ∀ (Q : State → Prop), (∀ (H : Heap) (locs : List Loc) (ls : Array Slot), lv_has ls 7 [(6, .int (nI 113)), (5, .int (nI (rdS 113).2.1)), (3, .long (rdS 113).1), (0, .ref a), (1, .ref b), (2, .ref t)] → Hp D (va_A [(a, .inr (7, [.null, .null, .null, .null, .null, .int 0, .null]))] sz) s.heap H locs [(a, .inr (7, [.ref b, .ref q45, .ref t, .ref q7, .ref q13, .int 0, .null])), (q7, .inl (k 3, 21, .inr (.inl (rdS 113).2.2))), (q13, .inr (1, [.long 0, .ref (ud 0), .int 0, .ref (ud 1), .ref (ud 2), .int 0, .null])), ((ud 0), .inl (k 3, 4, .inr (.inl (fun _ => 0)))), ((ud 1), .inr (0, [.int 0, .ref z, .int 0])), ((ud 2), .inr (0, [.int 0, .ref z, .int 0])), (q45, .inr (11, [.ref b, .null, .int 0, .int 0, .int 0, .int 0]))] → W p l e { frames := 5, cells := 6, slots := 44, locals := 94 } s m #[Value.ref a, Value.ref b, Value.ref t] below meth c H locs 6 44 Q (F0 m 127 ls [])) → ∀ (r i : Nat), i + r = 113 → ∀ (H : Heap) (locs : List Loc) (ls : Array Slot), lv_has ls 7 [(6, .int (nI i)), (5, .int (nI (rdS i).2.1)), (3, .long (rdS i).1), (0, .ref a), (1, .ref b), (2, .ref t)] → Hp D (va_A [(a, .inr (7, [.null, .null, .null, .null, .null, .int 0, .null]))] sz) s.heap H locs [(a, .inr (7, [.ref b, .ref q45, .ref t, .ref q7, .ref q13, .int 0, .null])), (q7, .inl (k 3, 21, .inr (.inl (rdS i).2.2))), (q13, .inr (1, [.long 0, .ref (ud 0), .int 0, .ref (ud 1), .ref (ud 2), .int 0, .null])), ((ud 0), .inl (k 3, 4, .inr (.inl (fun _ => 0)))), ((ud 1), .inr (0, [.int 0, .ref z, .int 0])), ((ud 2), .inr (0, [.int 0, .ref z, .int 0])), (q45, .inr (11, [.ref b, .null, .int 0, .int 0, .int 0, .int 0]))] → W p l e { frames := 5, cells := 6, slots := 44, locals := 94 } s m #[Value.ref a, Value.ref b, Value.ref t] below meth c H locs 6 44 Q (F0 m 64 ls []) := by
    intro Q ex
    intro r
    induction r with
    | zero =>
      intro i hi H locs ls hl h
      obtain rfl : i = 113 := by omega
      refine lv_iload C.1 C.2.1 dX6_init_64 (lv_at hl 0 rfl) ?_
      refine va_ldcS C.1 C.2.1 C.2.2.2.1 hE.2.2.2.2.2.2.2.2.2.1 dX6_init_66 ?_
      refine x_callVi (wr := [(a, .inr (7, [.ref b, .ref q45, .ref t, .ref q7, .ref q13, .int 0, .null])), (q7, .inl (k 3, 21, .inr (.inl (rdS 113).2.2))), (q13, .inr (1, [.long 0, .ref (ud 0), .int 0, .ref (ud 1), .ref (ud 2), .int 0, .null])), ((ud 0), .inl (k 3, 4, .inr (.inl (fun _ => 0)))), ((ud 1), .inr (0, [.int 0, .ref z, .int 0])), ((ud 2), .inr (0, [.int 0, .ref z, .int 0])), (q45, .inr (11, [.ref b, .null, .int 0, .int 0, .int 0, .int 0]))]) C h (m_length l D k z aK aV 0 (by decide)) [] [0, 1, 2, 3, 4, 5, 6] rfl rfl (by decide) (by decide) (by decide) (xok_E hE h [] rfl) (vk_recv hE.2.2.2.2.2.2.2.2.2.2.2.1 (i := 0) (by decide) h.2.2.1) (cwV 0 C.2.2.1 gX6_init_J0_length_8abf5 rfl rfl rfl (by decide +kernel) ⟨Nat.le_of_ble_eq_true rfl, Nat.le_of_ble_eq_true rfl⟩) rfl hl.1 rfl (Nat.le_of_ble_eq_true rfl) dX6_init_68 ⟨Nat.le_of_ble_eq_true rfl, Nat.le_of_ble_eq_true rfl⟩ (fun r _ H locs hu h => ?_)
      subst hu
      have h : Hp D _ _ H _ [(a, .inr (7, [.ref b, .ref q45, .ref t, .ref q7, .ref q13, .int 0, .null])), (q7, .inl (k 3, 21, .inr (.inl (rdS 113).2.2))), (q13, .inr (1, [.long 0, .ref (ud 0), .int 0, .ref (ud 1), .ref (ud 2), .int 0, .null])), ((ud 0), .inl (k 3, 4, .inr (.inl (fun _ => 0)))), ((ud 1), .inr (0, [.int 0, .ref z, .int 0])), ((ud 2), .inr (0, [.int 0, .ref z, .int 0])), (q45, .inr (11, [.ref b, .null, .int 0, .int 0, .int 0, .int 0]))] := h
      refine lv_icmp_ge (tgt := 127) C.1 C.2.1 dX6_init_71 (by decide) (fun c71_1 => ?_) (fun c => absurd (nI_le (show sL 0 ≤ 113 by decide) (by decide)) c)
      exact ex H locs ls hl h
    | succ r ih =>
      intro i hir H locs ls hl h
      have hi : i < 113 := by omega
      have hfl := rdS_lt hi
      refine lv_iload C.1 C.2.1 dX6_init_64 (lv_at hl 0 rfl) ?_
      refine va_ldcS C.1 C.2.1 C.2.2.2.1 hE.2.2.2.2.2.2.2.2.2.1 dX6_init_66 ?_
      refine x_callVi (wr := [(a, .inr (7, [.ref b, .ref q45, .ref t, .ref q7, .ref q13, .int 0, .null])), (q7, .inl (k 3, 21, .inr (.inl (rdS i).2.2))), (q13, .inr (1, [.long 0, .ref (ud 0), .int 0, .ref (ud 1), .ref (ud 2), .int 0, .null])), ((ud 0), .inl (k 3, 4, .inr (.inl (fun _ => 0)))), ((ud 1), .inr (0, [.int 0, .ref z, .int 0])), ((ud 2), .inr (0, [.int 0, .ref z, .int 0])), (q45, .inr (11, [.ref b, .null, .int 0, .int 0, .int 0, .int 0]))]) C h (m_length l D k z aK aV 0 (by decide)) [] [0, 1, 2, 3, 4, 5, 6] rfl rfl (by decide) (by decide) (by decide) (xok_E hE h [] rfl) (vk_recv hE.2.2.2.2.2.2.2.2.2.2.2.1 (i := 0) (by decide) h.2.2.1) (cwV 0 C.2.2.1 gX6_init_J0_length_8abf5 rfl rfl rfl (by decide +kernel) ⟨Nat.le_of_ble_eq_true rfl, Nat.le_of_ble_eq_true rfl⟩) rfl hl.1 rfl (Nat.le_of_ble_eq_true rfl) dX6_init_68 ⟨Nat.le_of_ble_eq_true rfl, Nat.le_of_ble_eq_true rfl⟩ (fun r _ H locs hu h => ?_)
      subst hu
      have h : Hp D _ _ H _ [(a, .inr (7, [.ref b, .ref q45, .ref t, .ref q7, .ref q13, .int 0, .null])), (q7, .inl (k 3, 21, .inr (.inl (rdS i).2.2))), (q13, .inr (1, [.long 0, .ref (ud 0), .int 0, .ref (ud 1), .ref (ud 2), .int 0, .null])), ((ud 0), .inl (k 3, 4, .inr (.inl (fun _ => 0)))), ((ud 1), .inr (0, [.int 0, .ref z, .int 0])), ((ud 2), .inr (0, [.int 0, .ref z, .int 0])), (q45, .inr (11, [.ref b, .null, .int 0, .int 0, .int 0, .int 0]))] := h
      refine lv_icmp_ge (tgt := 127) C.1 C.2.1 dX6_init_71 (by decide) (fun c => absurd c (nI_ge (show i < sL 0 from hi) (by decide))) (fun c71_1 => ?_)
      refine lv_iload C.1 C.2.1 dX6_init_74 (lv_at hl 1 rfl) ?_
      refine lv_bipush (v := 21) C.1 C.2.1 dX6_init_76 (by decide) ?_
      refine lv_icmp_ge (tgt := 127) C.1 C.2.1 dX6_init_78 (by decide) (fun c => absurd c (show ¬ nI 21 ≤ nI (rdS i).2.1 from nI_ge (rdS_lt hi) (by decide))) (fun c78_2 => ?_)
      refine va_ldcS C.1 C.2.1 C.2.2.2.1 hE.2.2.2.2.2.2.2.2.2.1 dX6_init_81 ?_
      refine lv_iload C.1 C.2.1 dX6_init_83 (lv_at hl 0 rfl) ?_
      refine x_callVi (wr := [(a, .inr (7, [.ref b, .ref q45, .ref t, .ref q7, .ref q13, .int 0, .null])), (q7, .inl (k 3, 21, .inr (.inl (rdS i).2.2))), (q13, .inr (1, [.long 0, .ref (ud 0), .int 0, .ref (ud 1), .ref (ud 2), .int 0, .null])), ((ud 0), .inl (k 3, 4, .inr (.inl (fun _ => 0)))), ((ud 1), .inr (0, [.int 0, .ref z, .int 0])), ((ud 2), .inr (0, [.int 0, .ref z, .int 0])), (q45, .inr (11, [.ref b, .null, .int 0, .int 0, .int 0, .int 0]))]) C h (m_charAt l D k z aK aV 0 (by decide) i hi) [] [0, 1, 2, 3, 4, 5, 6] rfl rfl (by decide) (by decide) (by decide) (xok_E hE h [] rfl) (vk_recv hE.2.2.2.2.2.2.2.2.2.2.2.1 (i := 0) (by decide) h.2.2.1) (cwV 1 C.2.2.1 gX6_init_J0_charAt_5068e rfl rfl rfl (by decide +kernel) ⟨Nat.le_of_ble_eq_true rfl, Nat.le_of_ble_eq_true rfl⟩) rfl hl.1 rfl (Nat.le_of_ble_eq_true rfl) dX6_init_85 ⟨Nat.le_of_ble_eq_true rfl, Nat.le_of_ble_eq_true rfl⟩ (fun r _ H locs hu h => ?_)
      subst hu
      have h : Hp D _ _ H _ [(a, .inr (7, [.ref b, .ref q45, .ref t, .ref q7, .ref q13, .int 0, .null])), (q7, .inl (k 3, 21, .inr (.inl (rdS i).2.2))), (q13, .inr (1, [.long 0, .ref (ud 0), .int 0, .ref (ud 1), .ref (ud 2), .int 0, .null])), ((ud 0), .inl (k 3, 4, .inr (.inl (fun _ => 0)))), ((ud 1), .inr (0, [.int 0, .ref z, .int 0])), ((ud 2), .inr (0, [.int 0, .ref z, .int 0])), (q45, .inr (11, [.ref b, .null, .int 0, .int 0, .int 0, .int 0]))] := h
      refine lv_bipush (v := 32) C.1 C.2.1 dX6_init_88 (by decide) ?_
      refine lv_icmp_ne (tgt := 109) C.1 C.2.1 dX6_init_90 (by decide) (fun c1 => ?_) (fun c1 => ?_)
      · refine lv_lload_n C.1 C.2.1 dX6_init_109 rfl (lv_at hl 2 rfl) ?_
        refine va_ldcS C.1 C.2.1 C.2.2.2.1 hE.2.2.2.2.2.2.2.2.2.1 dX6_init_110 ?_
        refine lv_iload C.1 C.2.1 dX6_init_112 (lv_at hl 0 rfl) ?_
        refine x_callVi (wr := [(a, .inr (7, [.ref b, .ref q45, .ref t, .ref q7, .ref q13, .int 0, .null])), (q7, .inl (k 3, 21, .inr (.inl (rdS i).2.2))), (q13, .inr (1, [.long 0, .ref (ud 0), .int 0, .ref (ud 1), .ref (ud 2), .int 0, .null])), ((ud 0), .inl (k 3, 4, .inr (.inl (fun _ => 0)))), ((ud 1), .inr (0, [.int 0, .ref z, .int 0])), ((ud 2), .inr (0, [.int 0, .ref z, .int 0])), (q45, .inr (11, [.ref b, .null, .int 0, .int 0, .int 0, .int 0]))]) C h (m_charAt l D k z aK aV 0 (by decide) i hi) [] [0, 1, 2, 3, 4, 5, 6] rfl rfl (by decide) (by decide) (by decide) (xok_E hE h [] rfl) (vk_recv hE.2.2.2.2.2.2.2.2.2.2.2.1 (i := 0) (by decide) h.2.2.1) (cwV 1 C.2.2.1 gX6_init_J0_charAt_5068e rfl rfl rfl (by decide +kernel) ⟨Nat.le_of_ble_eq_true rfl, Nat.le_of_ble_eq_true rfl⟩) rfl hl.1 rfl (Nat.le_of_ble_eq_true rfl) dX6_init_114 ⟨Nat.le_of_ble_eq_true rfl, Nat.le_of_ble_eq_true rfl⟩ (fun r _ H locs hu h => ?_)
        subst hu
        have h : Hp D _ _ H _ [(a, .inr (7, [.ref b, .ref q45, .ref t, .ref q7, .ref q13, .int 0, .null])), (q7, .inl (k 3, 21, .inr (.inl (rdS i).2.2))), (q13, .inr (1, [.long 0, .ref (ud 0), .int 0, .ref (ud 1), .ref (ud 2), .int 0, .null])), ((ud 0), .inl (k 3, 4, .inr (.inl (fun _ => 0)))), ((ud 1), .inr (0, [.int 0, .ref z, .int 0])), ((ud 2), .inr (0, [.int 0, .ref z, .int 0])), (q45, .inr (11, [.ref b, .null, .int 0, .int 0, .int 0, .int 0]))] := h
        refine x_callSl (wr := [(a, .inr (7, [.ref b, .ref q45, .ref t, .ref q7, .ref q13, .int 0, .null])), (q7, .inl (k 3, 21, .inr (.inl (rdS i).2.2))), (q13, .inr (1, [.long 0, .ref (ud 0), .int 0, .ref (ud 1), .ref (ud 2), .int 0, .null])), ((ud 0), .inl (k 3, 4, .inr (.inl (fun _ => 0)))), ((ud 1), .inr (0, [.int 0, .ref z, .int 0])), ((ud 2), .inr (0, [.int 0, .ref z, .int 0])), (q45, .inr (11, [.ref b, .null, .int 0, .int 0, .int 0, .int 0]))]) C h (m_X8_longer l D k (rdS i).1 (sC 0 i)) [] [0, 1, 2, 3, 4, 5, 6] rfl rfl (by decide) (by decide) (by decide) xok_T (va_cwS 2 C.2.2.1 gX6_init_X8_longer rfl rfl rfl (by decide +kernel) ⟨Nat.le_of_ble_eq_true rfl, Nat.le_of_ble_eq_true rfl⟩) rfl hl.1 rfl (Nat.le_of_ble_eq_true rfl) dX6_init_117 ⟨Nat.le_of_ble_eq_true rfl, Nat.le_of_ble_eq_true rfl⟩ (fun r117 _ H locs hu h => ?_)
        have h : Hp D _ _ H _ [(a, .inr (7, [.ref b, .ref q45, .ref t, .ref q7, .ref q13, .int 0, .null])), (q7, .inl (k 3, 21, .inr (.inl (rdS i).2.2))), (q13, .inr (1, [.long 0, .ref (ud 0), .int 0, .ref (ud 1), .ref (ud 2), .int 0, .null])), ((ud 0), .inl (k 3, 4, .inr (.inl (fun _ => 0)))), ((ud 1), .inr (0, [.int 0, .ref z, .int 0])), ((ud 2), .inr (0, [.int 0, .ref z, .int 0])), (q45, .inr (11, [.ref b, .null, .int 0, .int 0, .int 0, .int 0]))] := h
        subst hu
        refine lv_lstore_n (lv' := [(3, .long (lonG (rdS i).1 (sC 0 i))), (6, .int (nI i)), (5, .int (nI (rdS i).2.1)), (0, .ref a), (1, .ref b), (2, .ref t)]) C.1 C.2.1 dX6_init_120 rfl hl (by decide) rfl (fun ls hl => ?_)
        refine lv_iinc (v := ((nI i) + 1)) (lv' := [(6, .int ((nI i) + 1)), (3, .long (lonG (rdS i).1 (sC 0 i))), (5, .int (nI (rdS i).2.1)), (0, .ref a), (1, .ref b), (2, .ref t)]) C.1 C.2.1 dX6_init_121 hl (k := 1) rfl rfl (by decide) rfl (fun ls hl => ?_)
        refine lv_goto (tgt := 64) C.1 C.2.1 dX6_init_124 (by decide) ?_
        have hs := rdS_ch c1
        refine ih (i + 1) (by omega) H locs ls ?_ ?_
        · rw [hs]; exact lv_sub hl [0, 2, 1, 3, 4, 5] (by simp only [← nI_1]; rfl)
        · rw [hs]; exact h
      · refine lv_aload_n C.1 C.2.1 dX6_init_93 rfl (lv_at hl 3 rfl) ?_
        refine x_get C h 0 3 dX6_init_94 rfl rfl rfl iX6 (Nat.le_of_ble_eq_true rfl) (List.mem_of_getElem? (i := 5) rfl) ?_
        refine lv_iload C.1 C.2.1 dX6_init_97 (lv_at hl 1 rfl) ?_
        refine lv_lload_n C.1 C.2.1 dX6_init_99 rfl (lv_at hl 2 rfl) ?_
        refine x_last C h 1 3 dX6_init_100 rfl rfl (vp_in_nI (rdS_lt hi) (by decide)) (fun H locs h => ?_)
        rw [nI_clamp (by omega)] at h
        have h : Hp D _ _ H _ [(a, .inr (7, [.ref b, .ref q45, .ref t, .ref q7, .ref q13, .int 0, .null])), (q7, .inl (k 3, 21, .inr (.inl (vp_updL (rdS i).2.2 ((rdS i).2.1) (rdS i).1)))), (q13, .inr (1, [.long 0, .ref (ud 0), .int 0, .ref (ud 1), .ref (ud 2), .int 0, .null])), ((ud 0), .inl (k 3, 4, .inr (.inl (fun _ => 0)))), ((ud 1), .inr (0, [.int 0, .ref z, .int 0])), ((ud 2), .inr (0, [.int 0, .ref z, .int 0])), (q45, .inr (11, [.ref b, .null, .int 0, .int 0, .int 0, .int 0]))] := h
        refine lv_iinc (v := ((nI (rdS i).2.1) + 1)) (lv' := [(5, .int ((nI (rdS i).2.1) + 1)), (6, .int (nI i)), (3, .long (rdS i).1), (0, .ref a), (1, .ref b), (2, .ref t)]) C.1 C.2.1 dX6_init_101 hl (k := 1) rfl rfl (by decide) rfl (fun ls hl => ?_)
        refine lv_lconst (v := 0) C.1 C.2.1 dX6_init_104 (by decide) ?_
        refine lv_lstore_n (lv' := [(3, .long 0), (5, .int ((nI (rdS i).2.1) + 1)), (6, .int (nI i)), (0, .ref a), (1, .ref b), (2, .ref t)]) C.1 C.2.1 dX6_init_105 rfl hl (by decide) rfl (fun ls hl => ?_)
        refine lv_goto (tgt := 121) C.1 C.2.1 dX6_init_106 (by decide) ?_
        refine lv_iinc (v := ((nI i) + 1)) (lv' := [(6, .int ((nI i) + 1)), (3, .long 0), (5, .int ((nI (rdS i).2.1) + 1)), (0, .ref a), (1, .ref b), (2, .ref t)]) C.1 C.2.1 dX6_init_121 hl (k := 2) rfl rfl (by decide) rfl (fun ls hl => ?_)
        refine lv_goto (tgt := 64) C.1 C.2.1 dX6_init_124 (by decide) ?_
        have hs := rdS_sp c1
        refine ih (i + 1) (by omega) H locs ls ?_ ?_
        · rw [hs]; exact lv_sub hl [0, 2, 1, 3, 4, 5] (by simp only [← nI_1]; rfl)
        · rw [hs]; exact h
  exact loop _ (fun H locs ls hl h => x_vret C h hr hlk (fun j => if j = 0 then q7 else if j = 1 then q13 else if j = 2 then (ud 0) else if j = 3 then (ud 1) else if j = 4 then (ud 2) else if j = 5 then q45 else 0) dX6_init_127 trivial rfl (Nat.le_of_ble_eq_true rfl) (Nat.le_of_ble_eq_true rfl)) 113 0 (by decide) H locs ls (lv_sub hl [0, 1, 2, 3, 4, 5] rfl) h
