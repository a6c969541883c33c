set_option maxHeartbeats 4000000 in
set_option maxRecDepth 100000 in
theorem m_ACinit (l : Launch) (D : va_G) (k : Nat → ClassId) (a : Nat) (mo sz0 : Int32) (el : Value) : Mv l yJxa1e45_init_da8c8 wsJxa1e45_init_da8c8 { frames := 1, cells := 0, slots := 0, locals := 12 } [.ref a] D (TYs k) [(a, .inr (0, [.int mo, el, .int sz0]))] (fun _ => True) (Unit) (fun _ => True) (fun _ => [(a, .inr (0, [.int mo, el, .int sz0]))]) 0 0 := by
  intro sz
  refine x_met (cc := cJxa1e45_init_da8c8) (maxL := 1) (ret := none) (by decide) rfl (Nat.le_of_ble_eq_true rfl) ?_
  intro p e s m below meth c ls C hX hsz hr hlk hmn hl h
  have hl : lv_has ls 1 [(0, .ref a)] := hl
  refine lv_aload_n C.1 C.2.1 dJxa1e45_init_da8c8_0 rfl (lv_at hl 0 rfl) ?_
  refine x_objInit C hl.1 dJxa1e45_init_da8c8_1 (List.mem_of_getElem? (i := 1) rfl) (List.mem_of_getElem? (i := 2) rfl) (List.mem_of_getElem? (i := 3) rfl) (Nat.le_of_ble_eq_true rfl) (Nat.le_of_ble_eq_true rfl) ?_
  exact x_vret C h hr hlk () dJxa1e45_init_da8c8_4 trivial rfl (Nat.le_of_ble_eq_true rfl) (Nat.le_of_ble_eq_true rfl)
set_option maxHeartbeats 4000000 in
set_option maxRecDepth 100000 in
theorem m_ALinit (l : Launch) (D : va_G) (k : Nat → ClassId) (a : Nat) (mo sz0 : Int32) (el : Value) : Mv l yJxc12de_init_da8c8 wsJxc12de_init_da8c8 { frames := 2, cells := 0, slots := 0, locals := 32 } [.ref a] D (TYs k) [(a, .inr (0, [.int mo, el, .int sz0]))] (fun _ => True) (Unit) (fun _ => True) (fun _ => [(a, .inr (0, [.int 0, el, .int sz0]))]) 0 0 := by
  intro sz
  refine x_met (cc := cJxc12de_init_da8c8) (maxL := 1) (ret := none) (by decide) rfl (Nat.le_of_ble_eq_true rfl) ?_
  intro p e s m below meth c ls C hX hsz hr hlk hmn hl h
  have hl : lv_has ls 1 [(0, .ref a)] := hl
  have iJx4a65c : ∀ w ∈ u_ws RJx4a65c TJx4a65c 3, w ∈ wsJxc12de_init_da8c8 := fun w h => List.mem_cons_of_mem _ (List.mem_append_right _ h)
  refine lv_aload_n C.1 C.2.1 dJxc12de_init_da8c8_0 rfl (lv_at hl 0 rfl) ?_
  refine x_callIv (wr := []) C h (m_ACinit l D k a mo sz0 el) [0] [] rfl rfl (by decide) (by decide) (by decide) xok_T (cwI 0 C.2.2.1 gJxc12de_init_da8c8_Jxa1e45_init_da8c8 rfl rfl rfl (C.2.2.1 _ (List.mem_of_getElem? (i := 4) rfl)) (C.2.2.1 _ (List.mem_of_getElem? (i := 2) rfl)) (C.2.2.1 _ (List.mem_of_getElem? (i := 3) rfl)) rfl (by decide +kernel) ⟨Nat.le_of_ble_eq_true rfl, Nat.le_of_ble_eq_true rfl⟩) rfl hl.1 rfl (Nat.le_of_ble_eq_true rfl) dJxc12de_init_da8c8_1 ⟨Nat.le_of_ble_eq_true rfl, Nat.le_of_ble_eq_true rfl⟩ (fun u H locs hu h => ?_)
  have h : Hp D _ _ H _ [(a, .inr (0, [.int mo, el, .int sz0]))] := h
  refine lv_aload_n C.1 C.2.1 dJxc12de_init_da8c8_4 rfl (lv_at hl 0 rfl) ?_
  refine lv_iconst (v := 0) C.1 C.2.1 dJxc12de_init_da8c8_5 (by decide) ?_
  refine x_put C h 0 0 dJxc12de_init_da8c8_6 rfl rfl iJx4a65c (Nat.le_of_ble_eq_true rfl) (List.mem_of_getElem? (i := 1) rfl) tyJx4a65c_ok nmJx4a65c (Nat.le_of_ble_eq_true rfl) rfl rfl rfl (fun H locs h => ?_)
  have h : Hp D _ _ H _ [(a, .inr (0, [.int 0, el, .int sz0]))] := h
  exact x_vret C h hr hlk () dJxc12de_init_da8c8_9 trivial rfl (Nat.le_of_ble_eq_true rfl) (Nat.le_of_ble_eq_true rfl)
set_option maxHeartbeats 4000000 in
set_option maxRecDepth 100000 in
theorem m_List (l : Launch) (D : va_G) (k : Nat → ClassId) (z : Nat) (aK aV : Nat → Nat) (a : Nat) : Mv l yJx4a65c_init_da8c8 wsJx4a65c_init_da8c8 { frames := 3, cells := 0, slots := 0, locals := 52 } [.ref a] D (TYs k) [(a, .inr (0, [.int 0, .null, .int 0]))] (XE z aK aV [(a, .inr (0, [.int 0, .null, .int 0]))]) (Unit) (fun _ => True) (fun _ => [(a, .inr (0, [.int 0, .ref z, .int 0]))]) 0 0 := by
  intro sz
  refine x_met (cc := cJx4a65c_init_da8c8) (maxL := 1) (ret := none) (by decide) rfl (Nat.le_of_ble_eq_true rfl) ?_
  intro p e s m below meth c ls C hX hsz hr hlk hmn hl h
  have hl : lv_has ls 1 [(0, .ref a)] := hl
  have hE : En z aK aV (va_A [(a, .inr (0, [.int 0, .null, .int 0]))] sz) s s.heap := by rw [← hsz]; exact hX
  have iJx4a65c : ∀ w ∈ u_ws RJx4a65c TJx4a65c 3, w ∈ wsJx4a65c_init_da8c8 := fun w h => List.mem_cons_of_mem _ (List.mem_append_right _ h)
  refine lv_aload_n C.1 C.2.1 dJx4a65c_init_da8c8_0 rfl (lv_at hl 0 rfl) ?_
  refine x_callIv (wr := []) C h (m_ALinit l D k a 0 0 .null) [0] [] rfl rfl (by decide) (by decide) (by decide) xok_T (cwI 0 C.2.2.1 gJx4a65c_init_da8c8_Jxc12de_init_da8c8 rfl rfl rfl (C.2.2.1 _ (List.mem_of_getElem? (i := 5) rfl)) (C.2.2.1 _ (List.mem_of_getElem? (i := 3) rfl)) (C.2.2.1 _ (List.mem_of_getElem? (i := 4) rfl)) rfl (by decide +kernel) ⟨Nat.le_of_ble_eq_true rfl, Nat.le_of_ble_eq_true rfl⟩) rfl hl.1 rfl (Nat.le_of_ble_eq_true rfl) dJx4a65c_init_da8c8_1 ⟨Nat.le_of_ble_eq_true rfl, Nat.le_of_ble_eq_true rfl⟩ (fun u H locs hu h => ?_)
  have h : Hp D _ _ H _ [(a, .inr (0, [.int 0, .null, .int 0]))] := h
  refine lv_aload_n C.1 C.2.1 dJx4a65c_init_da8c8_4 rfl (lv_at hl 0 rfl) ?_
  refine x_gets C h hE.2.2.2.2.2.2.2.1 dJx4a65c_init_da8c8_5 (List.mem_of_getElem? (i := 1) rfl) ?_
  refine x_put C h 0 1 dJx4a65c_init_da8c8_8 rfl rfl iJx4a65c (Nat.le_of_ble_eq_true rfl) (List.mem_of_getElem? (i := 2) rfl) tyJx4a65c_ok nmJx4a65c (Nat.le_of_ble_eq_true rfl) rfl rfl rfl (fun H locs h => ?_)
  have h : Hp D _ _ H _ [(a, .inr (0, [.int 0, .ref z, .int 0]))] := h
  exact x_vret C h hr hlk () dJx4a65c_init_da8c8_11 trivial rfl (Nat.le_of_ble_eq_true rfl) (Nat.le_of_ble_eq_true rfl)
