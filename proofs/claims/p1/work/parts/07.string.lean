def sL (i : Nat) : Nat := ([113, 84] : List Nat).getD i 0
def sB (i : Nat) : List Int32 := ([bFN, bWA] : List (List Int32)).getD i []
def sC (i j : Nat) : Int32 := ((((sB i).getD j 0) &&& 255).toUInt32 % 65536).toInt32
theorem sL_lt : ∀ i, i < 2 → sL i < 2 ^ 31 := by decide
set_option maxHeartbeats 4000000 in
set_option maxRecDepth 100000 in
theorem m_coder (l : Launch) (D : va_G) (k : Nat → ClassId) (z : Nat) (aK aV : Nat → Nat) (i : Nat) (hi : i < 2) : Mi l yJ0_coder_7d493 wsJ0_coder_7d493 { frames := 0, cells := 0, slots := 0, locals := 0 } [.ref (aK i)] D (TYs k) [] (XE z aK aV []) (Unit) (fun r _ => r = 0) (fun _ => []) 0 0 := by
  intro sz
  refine x_met (cc := cJ0_coder_7d493) (maxL := 1) (ret := (some .byte)) (by decide) rfl (Nat.le_of_ble_eq_true rfl) ?_
  intro p e s m below meth c ls C hX hsz hr hlk hmn hl h
  have hl : lv_has ls 1 [(0, .ref (aK i))] := hl
  have hE : En z aK aV (va_A [] sz) s s.heap := by rw [← hsz]; exact hX
  refine x_gets C h hE.2.2.2.2.2.2.2.2.1 dJ0_coder_7d493_0 (List.mem_of_getElem? (i := 1) rfl) ?_
  refine lv_if_eq (tgt := 13) C.1 C.2.1 dJ0_coder_7d493_3 (by decide) (fun c => absurd c (by decide)) (fun _ => ?_)
  refine lv_aload_n C.1 C.2.1 dJ0_coder_7d493_6 rfl (lv_at hl 0 rfl) ?_
  refine vk_getf C.1 C.2.1 (hE.2.2.2.2.2.2.2.2.2.2.2.1.1 i hi).2.1 h.2.2.1 C.2.2.2.1 (C.2.2.1 _ (List.mem_of_getElem? (i := 2) rfl)) (fun _ x => x) dJ0_coder_7d493_7 ?_
  refine lv_goto (tgt := 14) C.1 C.2.1 dJ0_coder_7d493_10 (by decide) ?_
  exact x_iret (v := 0) C h hr hlk () dJ0_coder_7d493_14 rfl rfl rfl (Nat.le_of_ble_eq_true rfl) (Nat.le_of_ble_eq_true rfl)
set_option maxHeartbeats 4000000 in
set_option maxRecDepth 100000 in
theorem m_isLat (l : Launch) (D : va_G) (k : Nat → ClassId) (z : Nat) (aK aV : Nat → Nat) (i : Nat) (hi : i < 2) : Mi l yJ0_isLatin1_aae02 wsJ0_isLatin1_aae02 { frames := 0, cells := 0, slots := 0, locals := 0 } [.ref (aK i)] D (TYs k) [] (XE z aK aV []) (Unit) (fun r _ => r = 1) (fun _ => []) 0 0 := by
  intro sz
  refine x_met (cc := cJ0_isLatin1_aae02) (maxL := 1) (ret := (some .boolean)) (by decide) rfl (Nat.le_of_ble_eq_true rfl) ?_
  intro p e s m below meth c ls C hX hsz hr hlk hmn hl h
  have hl : lv_has ls 1 [(0, .ref (aK i))] := hl
  have hE : En z aK aV (va_A [] sz) s s.heap := by rw [← hsz]; exact hX
  refine x_gets C h hE.2.2.2.2.2.2.2.2.1 dJ0_isLatin1_aae02_0 (List.mem_of_getElem? (i := 1) rfl) ?_
  refine lv_if_eq (tgt := 17) C.1 C.2.1 dJ0_isLatin1_aae02_3 (by decide) (fun c => absurd c (by decide)) (fun _ => ?_)
  refine lv_aload_n C.1 C.2.1 dJ0_isLatin1_aae02_6 rfl (lv_at hl 0 rfl) ?_
  refine vk_getf C.1 C.2.1 (hE.2.2.2.2.2.2.2.2.2.2.2.1.1 i hi).2.1 h.2.2.1 C.2.2.2.1 (C.2.2.1 _ (List.mem_of_getElem? (i := 2) rfl)) (fun _ x => x) dJ0_isLatin1_aae02_7 ?_
  refine lv_if_ne (tgt := 17) C.1 C.2.1 dJ0_isLatin1_aae02_10 (by decide) (fun c => absurd c (by decide)) (fun _ => ?_)
  refine lv_iconst (v := 1) C.1 C.2.1 dJ0_isLatin1_aae02_13 (by decide) ?_
  refine lv_goto (tgt := 18) C.1 C.2.1 dJ0_isLatin1_aae02_14 (by decide) ?_
  exact x_iret (v := 1) C h hr hlk () dJ0_isLatin1_aae02_18 rfl rfl rfl (Nat.le_of_ble_eq_true rfl) (Nat.le_of_ble_eq_true rfl)
set_option maxHeartbeats 4000000 in
set_option maxRecDepth 100000 in
theorem m_length (l : Launch) (D : va_G) (k : Nat → ClassId) (z : Nat) (aK aV : Nat → Nat) (i : Nat) (hi : i < 2) : Mi l yJ0_length_8abf5 wsJ0_length_8abf5 { frames := 1, cells := 0, slots := 0, locals := 20 } [.ref (aK i)] D (TYs k) [] (XE z aK aV []) (Unit) (fun r _ => r = nI (sL i)) (fun _ => []) 0 0 := by
  intro sz
  refine x_met (cc := cJ0_length_8abf5) (maxL := 1) (ret := (some .int)) (by decide) rfl (Nat.le_of_ble_eq_true rfl) ?_
  intro p e s m below meth c ls C hX hsz hr hlk hmn hl h
  have hl : lv_has ls 1 [(0, .ref (aK i))] := hl
  have hE : En z aK aV (va_A [] sz) s s.heap := by rw [← hsz]; exact hX
  refine lv_aload_n C.1 C.2.1 dJ0_length_8abf5_0 rfl (lv_at hl 0 rfl) ?_
  refine vk_getf C.1 C.2.1 (hE.2.2.2.2.2.2.2.2.2.2.2.1.1 i hi).2.2.1 h.2.2.1 C.2.2.2.1 (C.2.2.1 _ (List.mem_of_getElem? (i := 1) rfl)) (fun _ x => x) dJ0_length_8abf5_1 ?_
  refine va_tlen (v := nI (sL i)) C.1 C.2.1 (hE.2.2.2.2.2.2.2.2.2.2.2.1.1 i hi).2.2.2 h.2.2.1 rfl dJ0_length_8abf5_4 ?_
  refine lv_aload_n C.1 C.2.1 dJ0_length_8abf5_5 rfl (lv_at hl 0 rfl) ?_
  refine x_callVi (wr := []) C h (m_coder l D k z aK aV i hi) [] [] rfl rfl (by decide) (by decide) (by decide) (xok_E hE h [] rfl) (vk_recv hE.2.2.2.2.2.2.2.2.2.2.2.1 hi h.2.2.1) (cwV 0 C.2.2.1 gJ0_length_8abf5_J0_coder_7d493 rfl rfl rfl (by decide +kernel) ⟨Nat.le_of_ble_eq_true rfl, Nat.le_of_ble_eq_true rfl⟩) rfl hl.1 rfl (Nat.le_of_ble_eq_true rfl) dJ0_length_8abf5_6 ⟨Nat.le_of_ble_eq_true rfl, Nat.le_of_ble_eq_true rfl⟩ (fun r u H locs hu h => ?_)
  subst hu
  refine lv_ishr C.1 C.2.1 dJ0_length_8abf5_9 ?_
  exact x_iret (v := nI (sL i) >>> ((0 : Int32) &&& 31)) C h hr hlk () dJ0_length_8abf5_10 rfl (sc_shr0 (sL_lt i hi)) rfl (Nat.le_of_ble_eq_true rfl) (Nat.le_of_ble_eq_true rfl)
set_option maxHeartbeats 4000000 in
set_option maxRecDepth 100000 in
theorem m_chkN (l : Launch) (D : va_G) (k : Nat → ClassId) (j n : Nat) (hj : j < n) (hn : n < 2 ^ 31) : Mi l yJ3_checkIndex_8e157 wsJ3_checkIndex_8e157 { frames := 0, cells := 0, slots := 0, locals := 0 } [.int (nI j), .int (nI n), .null] D (TYs k) [] (fun _ => True) (Unit) (fun r _ => r = nI j) (fun _ => []) 0 0 := by
  intro sz
  refine x_met (cc := cJ3_checkIndex_8e157) (maxL := 3) (ret := (some .int)) (by decide) rfl (Nat.le_of_ble_eq_true rfl) ?_
  intro p e s m below meth c ls C hX hsz hr hlk hmn hl h
  have hl : lv_has ls 3 [(0, .int (nI j)), (1, .int (nI n)), (2, .null)] := hl
  refine lv_iload_n C.1 C.2.1 dJ3_checkIndex_8e157_0 rfl (lv_at hl 0 rfl) ?_
  refine lv_if_lt (tgt := 9) C.1 C.2.1 dJ3_checkIndex_8e157_1 (by decide) (fun c => absurd c (nI_pos (by omega))) (fun c1_1 => ?_)
  refine lv_iload_n C.1 C.2.1 dJ3_checkIndex_8e157_4 rfl (lv_at hl 0 rfl) ?_
  refine lv_iload_n C.1 C.2.1 dJ3_checkIndex_8e157_5 rfl (lv_at hl 1 rfl) ?_
  refine lv_icmp_lt (tgt := 16) C.1 C.2.1 dJ3_checkIndex_8e157_6 (by decide) (fun c6_2 => ?_) (fun c => absurd (nI_lt hj hn) c)
  refine lv_iload_n C.1 C.2.1 dJ3_checkIndex_8e157_16 rfl (lv_at hl 0 rfl) ?_
  exact x_iret (v := nI j) C h hr hlk () dJ3_checkIndex_8e157_17 rfl rfl rfl (Nat.le_of_ble_eq_true rfl) (Nat.le_of_ble_eq_true rfl)
set_option maxHeartbeats 4000000 in
set_option maxRecDepth 100000 in
theorem m_chkR (l : Launch) (D : va_G) (k : Nat → ClassId) (j n : Nat) (hj : j < n) (hn : n < 2 ^ 31) (t : Nat) : Mi l yJ3_checkIndex_8e157 wsJ3_checkIndex_8e157 { frames := 0, cells := 0, slots := 0, locals := 0 } [.int (nI j), .int (nI n), .ref t] D (TYs k) [] (fun _ => True) (Unit) (fun r _ => r = nI j) (fun _ => []) 0 0 := by
  intro sz
  refine x_met (cc := cJ3_checkIndex_8e157) (maxL := 3) (ret := (some .int)) (by decide) rfl (Nat.le_of_ble_eq_true rfl) ?_
  intro p e s m below meth c ls C hX hsz hr hlk hmn hl h
  have hl : lv_has ls 3 [(0, .int (nI j)), (1, .int (nI n)), (2, .ref t)] := hl
  refine lv_iload_n C.1 C.2.1 dJ3_checkIndex_8e157_0 rfl (lv_at hl 0 rfl) ?_
  refine lv_if_lt (tgt := 9) C.1 C.2.1 dJ3_checkIndex_8e157_1 (by decide) (fun c => absurd c (nI_pos (by omega))) (fun c1_1 => ?_)
  refine lv_iload_n C.1 C.2.1 dJ3_checkIndex_8e157_4 rfl (lv_at hl 0 rfl) ?_
  refine lv_iload_n C.1 C.2.1 dJ3_checkIndex_8e157_5 rfl (lv_at hl 1 rfl) ?_
  refine lv_icmp_lt (tgt := 16) C.1 C.2.1 dJ3_checkIndex_8e157_6 (by decide) (fun c6_2 => ?_) (fun c => absurd (nI_lt hj hn) c)
  refine lv_iload_n C.1 C.2.1 dJ3_checkIndex_8e157_16 rfl (lv_at hl 0 rfl) ?_
  exact x_iret (v := nI j) C h hr hlk () dJ3_checkIndex_8e157_17 rfl rfl rfl (Nat.le_of_ble_eq_true rfl) (Nat.le_of_ble_eq_true rfl)
set_option maxHeartbeats 4000000 in
set_option maxRecDepth 100000 in
theorem m_chk (l : Launch) (D : va_G) (k : Nat → ClassId) (z : Nat) (aK aV : Nat → Nat) (j n : Nat) (hj : j < n) (hn : n < 2 ^ 31) : Mv l yJ0_checkIndex_df160 wsJ0_checkIndex_df160 { frames := 1, cells := 0, slots := 0, locals := 22 } [.int (nI j), .int (nI n)] D (TYs k) [] (XE z aK aV []) (Unit) (fun _ => True) (fun _ => []) 0 0 := by
  intro sz
  refine x_met (cc := cJ0_checkIndex_df160) (maxL := 2) (ret := none) (by decide) rfl (Nat.le_of_ble_eq_true rfl) ?_
  intro p e s m below meth c ls C hX hsz hr hlk hmn hl h
  have hl : lv_has ls 2 [(0, .int (nI j)), (1, .int (nI n))] := hl
  have hE : En z aK aV (va_A [] sz) s s.heap := by rw [← hsz]; exact hX
  rcases hE.2.2.2.2.2.2.2.2.2.2.2.2 with hz | ⟨t, hz⟩
  · refine lv_iload_n C.1 C.2.1 dJ0_checkIndex_df160_0 rfl (lv_at hl 0 rfl) ?_
    refine lv_iload_n C.1 C.2.1 dJ0_checkIndex_df160_1 rfl (lv_at hl 1 rfl) ?_
    refine x_gets C h hz dJ0_checkIndex_df160_2 (List.mem_of_getElem? (i := 1) rfl) ?_
    refine x_callSi (wr := []) C h (m_chkN l D k j n hj hn) [] [] rfl rfl (by decide) (by decide) (by decide) xok_T (va_cwS 3 C.2.2.1 gJ0_checkIndex_df160_J3_checkIndex_8e157 rfl rfl rfl (by decide +kernel) ⟨Nat.le_of_ble_eq_true rfl, Nat.le_of_ble_eq_true rfl⟩) rfl hl.1 rfl (Nat.le_of_ble_eq_true rfl) dJ0_checkIndex_df160_5 ⟨Nat.le_of_ble_eq_true rfl, Nat.le_of_ble_eq_true rfl⟩ (fun r5 u H locs hu h => ?_)
    have h : Hp D _ _ H _ [] := h
    refine lv_pop C.1 C.2.1 dJ0_checkIndex_df160_8 rfl ?_
    exact x_vret C h hr hlk () dJ0_checkIndex_df160_9 trivial rfl (Nat.le_of_ble_eq_true rfl) (Nat.le_of_ble_eq_true rfl)
  · refine lv_iload_n C.1 C.2.1 dJ0_checkIndex_df160_0 rfl (lv_at hl 0 rfl) ?_
    refine lv_iload_n C.1 C.2.1 dJ0_checkIndex_df160_1 rfl (lv_at hl 1 rfl) ?_
    refine x_gets C h hz dJ0_checkIndex_df160_2 (List.mem_of_getElem? (i := 1) rfl) ?_
    refine x_callSi (wr := []) C h (m_chkR l D k j n hj hn t) [] [] rfl rfl (by decide) (by decide) (by decide) xok_T (va_cwS 3 C.2.2.1 gJ0_checkIndex_df160_J3_checkIndex_8e157 rfl rfl rfl (by decide +kernel) ⟨Nat.le_of_ble_eq_true rfl, Nat.le_of_ble_eq_true rfl⟩) rfl hl.1 rfl (Nat.le_of_ble_eq_true rfl) dJ0_checkIndex_df160_5 ⟨Nat.le_of_ble_eq_true rfl, Nat.le_of_ble_eq_true rfl⟩ (fun r5 u H locs hu h => ?_)
    have h : Hp D _ _ H _ [] := h
    refine lv_pop C.1 C.2.1 dJ0_checkIndex_df160_8 rfl ?_
    exact x_vret C h hr hlk () dJ0_checkIndex_df160_9 trivial rfl (Nat.le_of_ble_eq_true rfl) (Nat.le_of_ble_eq_true rfl)
set_option maxHeartbeats 4000000 in
set_option maxRecDepth 100000 in
theorem m_char1 (l : Launch) (D : va_G) (k : Nat → ClassId) (z : Nat) (aK aV : Nat → Nat) (i : Nat) (hi : i < 2) (j : Nat) (hj : j < sL i) : Mi l yJ1_charAt_3b067 wsJ1_charAt_3b067 { frames := 2, cells := 0, slots := 0, locals := 43 } [.ref (aV i), .int (nI j)] D (TYs k) [] (XE z aK aV []) (Unit) (fun r _ => r = sC i j) (fun _ => []) 0 0 := by
  intro sz
  refine x_met (cc := cJ1_charAt_3b067) (maxL := 2) (ret := (some .char)) (by decide) rfl (Nat.le_of_ble_eq_true rfl) ?_
  intro p e s m below meth c ls C hX hsz hr hlk hmn hl h
  have hl : lv_has ls 2 [(0, .ref (aV i)), (1, .int (nI j))] := hl
  have hE : En z aK aV (va_A [] sz) s s.heap := by rw [← hsz]; exact hX
  refine lv_iload_n C.1 C.2.1 dJ1_charAt_3b067_0 rfl (lv_at hl 1 rfl) ?_
  refine lv_aload_n C.1 C.2.1 dJ1_charAt_3b067_1 rfl (lv_at hl 0 rfl) ?_
  refine va_tlen (v := nI (sL i)) C.1 C.2.1 (hE.2.2.2.2.2.2.2.2.2.2.2.1.1 i hi).2.2.2 h.2.2.1 rfl dJ1_charAt_3b067_2 ?_
  refine x_callSv (wr := []) C h (m_chk l D k z aK aV j (sL i) hj (sL_lt i hi)) [] [] rfl rfl (by decide) (by decide) (by decide) (xok_E hE h [] rfl) (va_cwS 2 C.2.2.1 gJ1_charAt_3b067_J0_checkIndex_df160 rfl rfl rfl (by decide +kernel) ⟨Nat.le_of_ble_eq_true rfl, Nat.le_of_ble_eq_true rfl⟩) rfl hl.1 rfl (Nat.le_of_ble_eq_true rfl) dJ1_charAt_3b067_3 ⟨Nat.le_of_ble_eq_true rfl, Nat.le_of_ble_eq_true rfl⟩ (fun u H locs hu h => ?_)
  have h : Hp D _ _ H _ [] := h
  refine lv_aload_n C.1 C.2.1 dJ1_charAt_3b067_6 rfl (lv_at hl 0 rfl) ?_
  refine lv_iload_n C.1 C.2.1 dJ1_charAt_3b067_7 rfl (lv_at hl 1 rfl) ?_
  refine va_tb (v := .int ((sB i).getD j 0)) C.1 C.2.1 (hE.2.2.2.2.2.2.2.2.2.2.2.1.1 i hi).2.2.2 h.2.2.1 (vp_in_nI hj (sL_lt i hi)) (by rw [nI_clamp (Nat.lt_trans hj (sL_lt i hi))]; rfl) dJ1_charAt_3b067_8 ?_
  refine lv_sipush (v := 255) C.1 C.2.1 dJ1_charAt_3b067_9 (by decide) ?_
  refine lv_iand C.1 C.2.1 dJ1_charAt_3b067_12 ?_
  refine lv_i2c (v := (((((sB i).getD j 0) &&& 255)).toUInt32 % 65536).toInt32) C.1 C.2.1 dJ1_charAt_3b067_13 rfl ?_
  exact x_iret (v := sC i j) C h hr hlk () dJ1_charAt_3b067_14 (pk_nc _) rfl rfl (Nat.le_of_ble_eq_true rfl) (Nat.le_of_ble_eq_true rfl)
set_option maxHeartbeats 4000000 in
set_option maxRecDepth 100000 in
theorem m_charAt (l : Launch) (D : va_G) (k : Nat → ClassId) (z : Nat) (aK aV : Nat → Nat) (i : Nat) (hi : i < 2) (j : Nat) (hj : j < sL i) : Mi l yJ0_charAt_5068e wsJ0_charAt_5068e { frames := 3, cells := 0, slots := 0, locals := 64 } [.ref (aK i), .int (nI j)] D (TYs k) [] (XE z aK aV []) (Unit) (fun r _ => r = sC i j) (fun _ => []) 0 0 := by
  intro sz
  refine x_met (cc := cJ0_charAt_5068e) (maxL := 2) (ret := (some .char)) (by decide) rfl (Nat.le_of_ble_eq_true rfl) ?_
  intro p e s m below meth c ls C hX hsz hr hlk hmn hl h
  have hl : lv_has ls 2 [(0, .ref (aK i)), (1, .int (nI j))] := hl
  have hE : En z aK aV (va_A [] sz) s s.heap := by rw [← hsz]; exact hX
  refine lv_aload_n C.1 C.2.1 dJ0_charAt_5068e_0 rfl (lv_at hl 0 rfl) ?_
  refine x_callVi (wr := []) C h (m_isLat l D k z aK aV i hi) [] [] rfl rfl (by decide) (by decide) (by decide) (xok_E hE h [] rfl) (vk_recv hE.2.2.2.2.2.2.2.2.2.2.2.1 hi h.2.2.1) (cwV 0 C.2.2.1 gJ0_charAt_5068e_J0_isLatin1_aae02 rfl rfl rfl (by decide +kernel) ⟨Nat.le_of_ble_eq_true rfl, Nat.le_of_ble_eq_true rfl⟩) rfl hl.1 rfl (Nat.le_of_ble_eq_true rfl) dJ0_charAt_5068e_1 ⟨Nat.le_of_ble_eq_true rfl, Nat.le_of_ble_eq_true rfl⟩ (fun r u H locs hu h => ?_)
  subst hu
  refine lv_if_eq (tgt := 16) C.1 C.2.1 dJ0_charAt_5068e_4 (by decide) (fun c => absurd c (by decide)) (fun _ => ?_)
  refine lv_aload_n C.1 C.2.1 dJ0_charAt_5068e_7 rfl (lv_at hl 0 rfl) ?_
  refine vk_getf C.1 C.2.1 (hE.2.2.2.2.2.2.2.2.2.2.2.1.1 i hi).2.2.1 h.2.2.1 C.2.2.2.1 (C.2.2.1 _ (List.mem_of_getElem? (i := 1) rfl)) (fun _ x => x) dJ0_charAt_5068e_8 ?_
  refine lv_iload_n C.1 C.2.1 dJ0_charAt_5068e_11 rfl (lv_at hl 1 rfl) ?_
  refine x_callSi (wr := []) C h (m_char1 l D k z aK aV i hi j hj) [] [] rfl rfl (by decide) (by decide) (by decide) (xok_E hE h [] rfl) (va_cwS 2 C.2.2.1 gJ0_charAt_5068e_J1_charAt_3b067 rfl rfl rfl (by decide +kernel) ⟨Nat.le_of_ble_eq_true rfl, Nat.le_of_ble_eq_true rfl⟩) rfl hl.1 rfl (Nat.le_of_ble_eq_true rfl) dJ0_charAt_5068e_12 ⟨Nat.le_of_ble_eq_true rfl, Nat.le_of_ble_eq_true rfl⟩ (fun r12 u H locs hu h => ?_)
  have h : Hp D _ _ H _ [] := h
  exact x_iret (v := r12) C h hr hlk () dJ0_charAt_5068e_15 (by rw [hu]; exact pk_nc _) hu rfl (Nat.le_of_ble_eq_true rfl) (Nat.le_of_ble_eq_true rfl)
