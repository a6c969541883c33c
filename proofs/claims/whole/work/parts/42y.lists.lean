/-! the contracts -/
section LC
variable (l : Launch) (D : va_G) (k : Nat → ClassId) (z mi : Nat) (aK aV : Nat → Nat) (g : Nat → Nat) {π : Sh} {σ : St}
theorem kc_L_size {x : Int} {r : St × Int} (hS : SHs π) (hm : L_size π σ x = some r) : Mi l yJx4a65c_size_8abf5 (.code yJx4a65c_size_8abf5 cJx4a65c_size_8abf5 1 (some .int) :: cWd) { frames := 0, cells := 0, slots := 0, locals := 0 } [rfv g x] D (TYs k) (cW k z g π σ) (XV z mi aK aV (cW k z g π σ)) Unit (fun v _ => v = Int32.ofInt r.2) (fun _ => cW k z g π r.1) 0 0 := by
  intro sz
  refine v_met (cc := cJx4a65c_size_8abf5) (maxL := 1) (ret := some .int) (lv := [(0, rfv g x)]) (by decide) rfl (by simp [lg_sl, rfv_cat]) (by simp [lv_args]) ?_
  intro p e s m below meth c ls C hE hr hlk hmn hl h
  obtain ⟨g1, hm⟩ := grd_s hm
  refine z_aload_n C dJx4a65c_size_8abf5_0 rfl (lv_at hl 0 rfl) ?_
  refine lg_size C h g1 dJx4a65c_size_8abf5_1 ?_
  cases hm
  exact c_iretP C h hr hlk dJx4a65c_size_8abf5_4 rfl
theorem kj_chk3 {i n : Int} (h0 : 0 ≤ i) (h1 : i < n) (hn : i32 n) : Mi l yJ3_checkIndex_8e157 (.code yJ3_checkIndex_8e157 cJ3_checkIndex_8e157 3 (some .int) :: cWd) { frames := 0, cells := 0, slots := 0, locals := 0 } [.int (Int32.ofInt i), .int (Int32.ofInt n), .null] D (TYs k) [] (fun _ => True) Unit (fun v _ => v = Int32.ofInt i) (fun _ => []) 0 0 := by
  intro sz
  refine x_met (cc := cJ3_checkIndex_8e157) (maxL := 3) (ret := some .int) (by decide) rfl (Nat.le_of_ble_eq_true rfl) ?_
  intro p e s m below meth c ls C hX hsz hr hlk hmn hl h
  have hl : lv_has ls 3 [(0, .int (Int32.ofInt i)), (1, .int (Int32.ofInt n)), (2, .null)] := hl
  have hi : i32 i := ⟨by omega, by have := hn.2; omega⟩
  refine lv_iload_n C.1 C.2.1 dJ3_checkIndex_8e157_0 rfl (lv_at hl 0 rfl) ?_
  refine z_if_lt (tgt := 9) C dJ3_checkIndex_8e157_1 (by decide) hi (fun c => absurd c (by omega)) (fun _ => ?_)
  refine lv_iload_n C.1 C.2.1 dJ3_checkIndex_8e157_4 rfl (lv_at hl 0 rfl) ?_
  refine lv_iload_n C.1 C.2.1 dJ3_checkIndex_8e157_5 rfl (lv_at hl 1 rfl) ?_
  refine z_icmp_lt (tgt := 16) C dJ3_checkIndex_8e157_6 (by decide) hi hn (fun _ => ?_) (fun c => absurd h1 c)
  refine lv_iload_n C.1 C.2.1 dJ3_checkIndex_8e157_16 rfl (lv_at hl 0 rfl) ?_
  exact v_iretS C h hr hlk dJ3_checkIndex_8e157_17 rfl
theorem kj_chk15 {i n : Int} (h0 : 0 ≤ i) (h1 : i < n) (hn : i32 n) : Mi l yJ15_checkIndex_7cf53 (.code yJ15_checkIndex_7cf53 cJ15_checkIndex_7cf53 2 (some .int) :: cWd) { frames := 1, cells := 0, slots := 0, locals := 22 } [.int (Int32.ofInt i), .int (Int32.ofInt n)] D (TYs k) [] (fun _ => True) Unit (fun v _ => v = Int32.ofInt i) (fun _ => []) 0 0 := by
  intro sz
  refine x_met (cc := cJ15_checkIndex_7cf53) (maxL := 2) (ret := some .int) (by decide) rfl (Nat.le_of_ble_eq_true rfl) ?_
  intro p e s m below meth c ls C hX hsz hr hlk hmn hl h
  have hl : lv_has ls 2 [(0, .int (Int32.ofInt i)), (1, .int (Int32.ofInt n))] := hl
  refine lv_iload_n C.1 C.2.1 dJ15_checkIndex_7cf53_0 rfl (lv_at hl 0 rfl) ?_
  refine lv_iload_n C.1 C.2.1 dJ15_checkIndex_7cf53_1 rfl (lv_at hl 1 rfl) ?_
  refine lv_null C.1 C.2.1 dJ15_checkIndex_7cf53_2 ?_
  refine v_callSi C h (kj_chk3 l D k h0 h1 hn) (v_cwS 3 C.2.2.1 (gC_J3_checkIndex_8e157 _) rfl rfl rfl (C.2.2.1 _ (List.mem_cons_of_mem _ wt_J3)) (C.2.2.1 _ (List.mem_cons_of_mem _ wm_J15_105)) (C.2.2.1 _ (List.mem_cons_of_mem _ ws_J3_checkIndex_8e157)) hdS_J3_checkIndex_8e157 ⟨by decide, by decide⟩) rfl hl.1 rfl (by decide) dJ15_checkIndex_7cf53_3 ⟨by decide, by decide⟩ (fun H locs h => ?_)
  exact v_iretS C h hr hlk dJ15_checkIndex_7cf53_6 rfl
theorem kj_eD {x i : Int} (hO : ob π x 0) (h27 : ob π (fl σ 1 x) 27) (hi : ina π (fl σ 1 x) i) : Mq l yJx4a65c_elementData_915e3 (.code yJx4a65c_elementData_915e3 cJx4a65c_elementData_915e3 2 (some (.object "java/lang/Object")) :: cWd) { frames := 0, cells := 0, slots := 0, locals := 0 } [rfv g x, .int (Int32.ofInt i)] D (TYs k) (cW k z g π σ) (XV z mi aK aV (cW k z g π σ)) Unit (fun v _ => v = rfo g (σ, el σ (fl σ 1 x) i).2) (fun _ => cW k z g π (σ, el σ (fl σ 1 x) i).1) 0 0 := by
  intro sz
  refine v_met (cc := cJx4a65c_elementData_915e3) (maxL := 2) (ret := some (.object "java/lang/Object")) (lv := [(0, rfv g x), (1, .int (Int32.ofInt i))]) (by decide) rfl (by simp [lg_sl, rfv_cat, cat_i]) (by simp [lv_args, rfv_cat]) ?_
  intro p e s m below meth c ls C hE hr hlk hmn hl h
  refine z_aload_n C dJx4a65c_elementData_915e3_0 rfl (lv_at hl 0 rfl) ?_
  refine lg_ed C h hO dJx4a65c_elementData_915e3_1 ?_
  rw [eda_s h27.1]
  refine lv_iload_n C.1 C.2.1 dJx4a65c_elementData_915e3_4 rfl (lv_at hl 1 rfl) ?_
  refine c_qald C h (t := 7) (by decide) rfl h27 hi dJx4a65c_elementData_915e3_5 ?_
  exact c_aretP C h hr hlk (Or.inl ⟨_, rfl⟩) dJx4a65c_elementData_915e3_6
theorem kc_L_get {x i : Int} {r : St × Int} (hS : SHs π) (hm : L_get π σ x i = some r) : Mq l yJx4a65c_get_915e3 (.code yJx4a65c_get_915e3 cJx4a65c_get_915e3 2 (some (.object "java/lang/Object")) :: cWd) { frames := 2, cells := 0, slots := 0, locals := 60 } [rfv g x, .int (Int32.ofInt i)] D (TYs k) (cW k z g π σ) (XV z mi aK aV (cW k z g π σ)) Unit (fun v _ => v = rfo g r.2) (fun _ => cW k z g π r.1) 0 0 := by
  intro sz
  refine v_met (cc := cJx4a65c_get_915e3) (maxL := 2) (ret := some (.object "java/lang/Object")) (lv := [(0, rfv g x), (1, .int (Int32.ofInt i))]) (by decide) rfl (by simp [lg_sl, rfv_cat, cat_i]) (by simp [lv_args, rfv_cat]) ?_
  intro p e s m below meth c ls C hE hr hlk hmn hl h
  obtain ⟨g1, hm⟩ := grd_s hm
  obtain ⟨g2, hm⟩ := grd_s hm
  obtain ⟨g3, hm⟩ := grd_s hm
  obtain ⟨g4, hm⟩ := grd_s hm
  obtain ⟨g5, hm⟩ := grd_s hm
  obtain ⟨g6, hm⟩ := grd_s hm
  cases hm
  refine lv_iload_n C.1 C.2.1 dJx4a65c_get_915e3_0 rfl (lv_at hl 1 rfl) ?_
  refine z_aload_n C dJx4a65c_get_915e3_1 rfl (lv_at hl 0 rfl) ?_
  refine lg_size C h g1 dJx4a65c_get_915e3_2 ?_
  refine v_callSi C h (kj_chk15 l D k g4.1 g4.2 g3) (v_cwS 2 C.2.2.1 (gC_J15_checkIndex_7cf53 _) rfl rfl rfl (C.2.2.1 _ (List.mem_cons_of_mem _ wt_J15)) (C.2.2.1 _ (List.mem_cons_of_mem _ wm_Jx4a65c_118)) (C.2.2.1 _ (List.mem_cons_of_mem _ ws_J15_checkIndex_7cf53)) hdS_J15_checkIndex_7cf53 ⟨by decide, by decide⟩) rfl hl.1 rfl (by decide) dJx4a65c_get_915e3_5 ⟨by decide, by decide⟩ (fun H locs h => ?_)
  refine lv_pop C.1 C.2.1 dJx4a65c_get_915e3_8 rfl ?_
  refine z_aload_n C dJx4a65c_get_915e3_9 rfl (lv_at hl 0 rfl) ?_
  refine lv_iload_n C.1 C.2.1 dJx4a65c_get_915e3_10 rfl (lv_at hl 1 rfl) ?_
  refine c_callVqP C hE h g1 rfl (by decide) (kj_eD l D k z mi aK aV g g1 g5 g6) (cwV 1 C.2.2.1 (gS_Jx4a65c_123 _) rfl rfl rfl hd_Jx4a65c_elementData_915e3 ⟨by decide, by decide⟩) rfl hl.1 rfl (by decide) dJx4a65c_get_915e3_11 ⟨by decide, by decide⟩ (fun H locs h => ?_)
  exact c_aretP C h hr hlk (Or.inl ⟨_, rfl⟩) dJx4a65c_get_915e3_14
theorem kc_L_set {x i v : Int} {r : St × Int} (hS : SHs π) (hm : L_set π σ x i v = some r) : Mq l yJx4a65c_set_bcc79 (.code yJx4a65c_set_bcc79 cJx4a65c_set_bcc79 4 (some (.object "java/lang/Object")) :: cWd) { frames := 2, cells := 0, slots := 0, locals := 60 } [rfv g x, .int (Int32.ofInt i), rfv g v] D (TYs k) (cW k z g π σ) (XV z mi aK aV (cW k z g π σ)) Unit (fun v _ => v = rfo g r.2) (fun _ => cW k z g π r.1) 0 0 := by
  intro sz
  refine v_met (cc := cJx4a65c_set_bcc79) (maxL := 4) (ret := some (.object "java/lang/Object")) (lv := [(0, rfv g x), (1, .int (Int32.ofInt i)), (2, rfv g v)]) (by decide) rfl (by simp [lg_sl, rfv_cat, cat_i]) (by simp [lv_args, rfv_cat, cat_i]) ?_
  intro p e s m below meth c ls C hE hr hlk hmn hl h
  obtain ⟨g1, hm⟩ := grd_s hm
  obtain ⟨g2, hm⟩ := grd_s hm
  obtain ⟨g3, hm⟩ := grd_s hm
  obtain ⟨g4, hm⟩ := grd_s hm
  obtain ⟨g5, hm⟩ := grd_s hm
  obtain ⟨g6, hm⟩ := grd_s hm
  obtain ⟨g7, hm⟩ := grd_s hm
  cases hm
  refine lv_iload_n C.1 C.2.1 dJx4a65c_set_bcc79_0 rfl (lv_at hl 1 rfl) ?_
  refine z_aload_n C dJx4a65c_set_bcc79_1 rfl (lv_at hl 0 rfl) ?_
  refine lg_size C h g1 dJx4a65c_set_bcc79_2 ?_
  refine v_callSi C h (kj_chk15 l D k g4.1 g4.2 g3) (v_cwS 2 C.2.2.1 (gC_J15_checkIndex_7cf53 _) rfl rfl rfl (C.2.2.1 _ (List.mem_cons_of_mem _ wt_J15)) (C.2.2.1 _ (List.mem_cons_of_mem _ wm_Jx4a65c_118)) (C.2.2.1 _ (List.mem_cons_of_mem _ ws_J15_checkIndex_7cf53)) hdS_J15_checkIndex_7cf53 ⟨by decide, by decide⟩) rfl hl.1 rfl (by decide) dJx4a65c_set_bcc79_5 ⟨by decide, by decide⟩ (fun H locs h => ?_)
  refine lv_pop C.1 C.2.1 dJx4a65c_set_bcc79_8 rfl ?_
  refine z_aload_n C dJx4a65c_set_bcc79_9 rfl (lv_at hl 0 rfl) ?_
  refine lv_iload_n C.1 C.2.1 dJx4a65c_set_bcc79_10 rfl (lv_at hl 1 rfl) ?_
  refine c_callVqP C hE h g1 rfl (by decide) (kj_eD l D k z mi aK aV g g1 g5 g6) (cwV 1 C.2.2.1 (gS_Jx4a65c_123 _) rfl rfl rfl hd_Jx4a65c_elementData_915e3 ⟨by decide, by decide⟩) rfl hl.1 rfl (by decide) dJx4a65c_set_bcc79_11 ⟨by decide, by decide⟩ (fun H locs h => ?_)
  refine z_astore_n (j := 3) (lv' := [(3, rfv g (σ, el σ (fl σ 1 x) i).2), (0, rfv g x), (1, .int (Int32.ofInt i)), (2, rfv g v)]) C dJx4a65c_set_bcc79_14 rfl hl (by decide) (by simp [rfv_cat, cat_i]) (fun ls hl => ?_)
  refine z_aload_n C dJx4a65c_set_bcc79_15 rfl (lv_at hl 1 rfl) ?_
  refine lg_ed C h g1 dJx4a65c_set_bcc79_16 ?_
  rw [eda_s g5.1]
  refine lv_iload_n C.1 C.2.1 dJx4a65c_set_bcc79_19 rfl (lv_at hl 2 rfl) ?_
  refine z_aload_n C dJx4a65c_set_bcc79_20 rfl (lv_at hl 3 rfl) ?_
  refine c_qastO C hE h g5 g6 g7 dJx4a65c_set_bcc79_21 (fun H locs h => ?_)
  refine z_aload_n C dJx4a65c_set_bcc79_22 rfl (lv_at hl 0 rfl) ?_
  exact c_aretP C h hr hlk (Or.inl ⟨_, rfl⟩) dJx4a65c_set_bcc79_23
theorem kj_newLen {a b d : Int} (ha : i32 a) (hb : i32 b) (hd : i32 d) (h0 : 0 < a + max b d) (h1 : a + max b d < 1000000000) : Mi l yJ8_newLength_cabcc (.code yJ8_newLength_cabcc cJ8_newLength_cabcc 4 (some .int) :: cWd) { frames := 1, cells := 0, slots := 0, locals := 40 } [.int (Int32.ofInt a), .int (Int32.ofInt b), .int (Int32.ofInt d)] D (TYs k) [] (fun _ => True) Unit (fun v _ => v = Int32.ofInt (a + max b d)) (fun _ => []) 0 0 := by
  intro sz
  refine x_met (cc := cJ8_newLength_cabcc) (maxL := 4) (ret := some .int) (by decide) rfl (Nat.le_of_ble_eq_true rfl) ?_
  intro p e s m below meth c ls C hX hsz hr hlk hmn hl h
  have hl : lv_has ls 4 [(0, .int (Int32.ofInt a)), (1, .int (Int32.ofInt b)), (2, .int (Int32.ofInt d))] := hl
  have hi : i32 (a + max b d) := ⟨by omega, by omega⟩
  refine lv_iload_n C.1 C.2.1 dJ8_newLength_cabcc_0 rfl (lv_at hl 0 rfl) ?_
  refine lv_iload_n C.1 C.2.1 dJ8_newLength_cabcc_1 rfl (lv_at hl 1 rfl) ?_
  refine lv_iload_n C.1 C.2.1 dJ8_newLength_cabcc_2 rfl (lv_at hl 2 rfl) ?_
  refine v_max C hl.1 dJ8_newLength_cabcc_3 hb hd (List.mem_cons_of_mem _ wx_J8_194) (List.mem_cons_of_mem _ wxs_max) (List.mem_cons_of_mem _ wxc_max) (List.mem_cons_of_mem _ wt_Math) (by decide) (Nat.le_of_ble_eq_true rfl) (by decide) (by decide) ?_
  refine z_iadd C dJ8_newLength_cabcc_6 ?_
  refine lv_istore_n (lv' := [(3, .int (Int32.ofInt (a + max b d))), (0, .int (Int32.ofInt a)), (1, .int (Int32.ofInt b)), (2, .int (Int32.ofInt d))]) C.1 C.2.1 dJ8_newLength_cabcc_7 rfl hl (by decide) rfl (fun ls hl => ?_)
  refine lv_iconst (v := Int32.ofInt 0) C.1 C.2.1 dJ8_newLength_cabcc_8 (by decide) ?_
  refine lv_iload_n C.1 C.2.1 dJ8_newLength_cabcc_9 rfl (lv_at hl 0 rfl) ?_
  refine z_icmp_ge (tgt := 21) C dJ8_newLength_cabcc_10 (by decide) z_i32 hi (fun c => absurd h0 c) (fun _ => ?_)
  refine lv_iload_n C.1 C.2.1 dJ8_newLength_cabcc_13 rfl (lv_at hl 0 rfl) ?_
  refine lv_ldc (v := 2147483639) C.1 C.2.1 C.2.2.2.1 (C.2.2.1 _ (List.mem_cons_of_mem _ wk_J8_200)) dJ8_newLength_cabcc_14 ?_
  refine x_topi (y := Int32.ofInt 2147483639) (by decide) ?_
  refine z_icmp_gt (tgt := 21) C dJ8_newLength_cabcc_16 (by decide) hi (by decide) (fun c => absurd c (by omega)) (fun _ => ?_)
  refine lv_iload_n C.1 C.2.1 dJ8_newLength_cabcc_19 rfl (lv_at hl 0 rfl) ?_
  exact v_iretS C h hr hlk dJ8_newLength_cabcc_20 rfl
/-- what a copy makes -/
def cpQ (π : Sh) (σ : St) (a n : Int) : Sh × St × Int := (nA π 7 n, cpe (zA σ (nn π) (-1)) (nn π) a (min (ln π a) n), (nn π : Int))
theorem ob_newA (π : Sh) (t : Nat) (n : Int) : ob (nA π t n) (nn π) (20 + t) := ⟨by omega, lt_nA, by simp [nA, tg]⟩
theorem ln_newA (π : Sh) (t : Nat) (n : Int) : ln (nA π t n) (nn π) = n := by simp [nA, ln]
theorem ln_ext {π ρ : Sh} {a : Int} (h : a < nn π) (k : ext π ρ) : ln ρ a = ln π a := (k.2.2 a h).2
theorem any_ext {π ρ : Sh} {v : Int} (h : anyO π v) (k : ext π ρ) : anyO ρ v := by
  rcases h with h | h | h
  · exact Or.inl (h.ext k)
  · exact Or.inr (Or.inl (h.ext k))
  · exact Or.inr (Or.inr (h.ext k))
theorem all_new {π : Sh} {σ : St} {a n m : Int} {t : Nat} (ha : a < nn π) (h : allO π σ a n) : allO (nA π t m) (zA σ (nn π) (-1)) a n := fun j hj => by
  have e : ¬ a = (nn π : Int) := by omega
  have e2 : el (zA σ (nn π) (-1)) a j = el σ a j := by simp only [el, zA, e, if_false]
  rw [e2]
  rcases h j hj with h0 | h0
  · exact Or.inl h0
  · exact Or.inr (any_ext h0 (ext_nA π t m))
theorem sz_newA (π : Sh) (t : Nat) (n : Int) : sw (nA π t n) - sw π = n.toNat := by show sw π + n.toNat - sw π = _; omega
theorem nn_newA (π : Sh) (t : Nat) (n : Int) : nn (nA π t n) - nn π = 1 := by show nn π + 1 - nn π = _; omega
theorem kj_copy3 {a n : Int} (hC : Cl π σ) (ha : ob π a 27) (hl0 : 0 ≤ ln π a) (hl1 : ln π a < 60000000) (hn : 0 ≤ n) (hn2 : n < 60000000) (hall : allO π σ a (min (ln π a) n)) : Mq l yJ7_copyOf_6403c (.code yJ7_copyOf_6403c cJ7_copyOf_6403c 4 (some (.array (.object "java/lang/Object"))) :: cWd) { frames := 1, cells := 1, slots := n.toNat, locals := 60 } [rfv g a, .int (Int32.ofInt n), .ref mi] D (TYs k) (cW k z g π σ) (XV z mi aK aV (cW k z g π σ)) (Nat → Nat) (fun v u => gx (nn π) g u ∧ v = rfo u (nn π)) (fun u => cW k z u (nA π 7 n) (cpe (zA σ (nn π) (-1)) (nn π) a (min (ln π a) n))) 1 n.toNat := by
  intro sz
  refine v_met (cc := cJ7_copyOf_6403c) (maxL := 4) (ret := some (.array (.object "java/lang/Object"))) (lv := [(0, rfv g a), (1, .int (Int32.ofInt n)), (2, .ref mi)]) (by decide) rfl (by simp [lg_sl, rfv_cat, cat_i, cat_r]) (by simp [lv_args, rfv_cat, cat_i, cat_r]) ?_
  intro p e s m below meth c ls C hE hr hlk hmn hl h
  generalize ([rfv g a, .int (Int32.ofInt n), .ref mi] : List Value).toArray = args at C ⊢
  have hv := ha.2.1
  refine lv_aload_n C.1 C.2.1 dJ7_copyOf_6403c_0 rfl (lv_at hl 2 rfl) ?_
  refine va_ldcM C.1 C.2.1 C.2.2.2.1 (C.2.2.1 _ (List.mem_cons_of_mem _ wz_cl110)) hE.2.2.2.2.2.2.2.2.1 dJ7_copyOf_6403c_1 ?_
  refine lv_acmp_ne (rx := some mi) (ry := some mi) (tgt := 13) C.1 C.2.1 dJ7_copyOf_6403c_3 (by decide) (fun c => absurd rfl c) (fun _ => ?_)
  refine lv_iload_n C.1 C.2.1 dJ7_copyOf_6403c_6 rfl (lv_at hl 1 rfl) ?_
  refine c_newq C h hC (t := 7) (by decide) rfl hE.2.2.2.2.2.2.2.1 (List.mem_cons_of_mem _ wz_cl2) dJ7_copyOf_6403c_7 hn (by omega) (Nat.le_of_ble_eq_true rfl) (Nat.le_of_eq (Nat.zero_add _)) (fun u H hg h => ?_)
  simp only [← gx_rfv hg hv] at hl
  have ea := ha.ext (ext_nA π 7 n)
  have ei : i32 n := ⟨by omega, by omega⟩
  have el' : i32 (ln π a) := ⟨by omega, by omega⟩
  refine lv_goto (tgt := 24) C.1 C.2.1 dJ7_copyOf_6403c_10 (by decide) ?_
  refine z_astore_n (j := 3) (lv' := [(3, rfv u (nn π)), (0, rfv u a), (1, .int (Int32.ofInt n)), (2, .ref mi)]) C dJ7_copyOf_6403c_24 rfl hl (by decide) (by simp [rfv_cat, cat_i, cat_r]) (fun ls hl => ?_)
  refine z_aload_n C dJ7_copyOf_6403c_25 rfl (lv_at hl 1 rfl) ?_
  refine lv_iconst (v := Int32.ofInt 0) C.1 C.2.1 dJ7_copyOf_6403c_26 (by decide) ?_
  refine z_aload_n C dJ7_copyOf_6403c_27 rfl (lv_at hl 0 rfl) ?_
  refine lv_iconst (v := Int32.ofInt 0) C.1 C.2.1 dJ7_copyOf_6403c_28 (by decide) ?_
  refine z_aload_n C dJ7_copyOf_6403c_29 rfl (lv_at hl 1 rfl) ?_
  refine c_alen C h (t := 7) rfl ea (by rw [ln_ext hv (ext_nA π 7 n)]; exact hl0) dJ7_copyOf_6403c_30 ?_
  rw [ln_ext hv (ext_nA π 7 n)]
  refine lv_iload_n C.1 C.2.1 dJ7_copyOf_6403c_31 rfl (lv_at hl 2 rfl) ?_
  refine v_min C hl.1 dJ7_copyOf_6403c_32 el' ei (List.mem_cons_of_mem _ wx_J7_304) (List.mem_cons_of_mem _ wxs_min) (List.mem_cons_of_mem _ wxc_min) (List.mem_cons_of_mem _ wt_Math) (Nat.le_of_ble_eq_true rfl) (by simp [rfv_cat, cat_i, cat_r]) (Nat.le_of_ble_eq_true rfl) (Nat.le_of_eq (Nat.zero_add _)) ?_
  refine c_cpyQ C hE h hl.1 (ob_newA π 7 n) ea (by omega) (by omega) (by rw [ln_ext hv (ext_nA π 7 n)]; omega) (by rw [ln_newA]; omega) (all_new hv hall) (Nat.le_of_ble_eq_true rfl) (Nat.le_of_ble_eq_true rfl) dJ7_copyOf_6403c_35 (fun H locs h => ?_)
  refine z_aload_n C dJ7_copyOf_6403c_38 rfl (lv_at hl 0 rfl) ?_
  rw [← rfv_rf]
  exact x_aretq (w1 := fun u => cW k z u (nA π 7 n) (cpe (zA σ (nn π) (-1)) (nn π) a (min (ln π a) n))) C h hr hlk u dJ7_copyOf_6403c_39 (Or.inr ⟨_, rfl⟩) ⟨hg, rfl⟩ rfl (Nat.le_of_ble_eq_true rfl) (Nat.le_of_eq (Nat.zero_add _))
theorem kj_copy2 {a n : Int} (hC : Cl π σ) (ha : ob π a 27) (hl0 : 0 ≤ ln π a) (hl1 : ln π a < 60000000) (hn : 0 ≤ n) (hn2 : n < 60000000) (hall : allO π σ a (min (ln π a) n)) : Mq l yJ7_copyOf_1904c (.code yJ7_copyOf_1904c cJ7_copyOf_1904c 2 (some (.array (.object "java/lang/Object"))) :: cWd) { frames := 2, cells := 1, slots := n.toNat, locals := 90 } [rfv g a, .int (Int32.ofInt n)] D (TYs k) (cW k z g π σ) (XV z mi aK aV (cW k z g π σ)) (Nat → Nat) (fun v u => gx (nn π) g u ∧ v = rfo u (nn π)) (fun u => cW k z u (nA π 7 n) (cpe (zA σ (nn π) (-1)) (nn π) a (min (ln π a) n))) 1 n.toNat := by
  intro sz
  refine v_met (cc := cJ7_copyOf_1904c) (maxL := 2) (ret := some (.array (.object "java/lang/Object"))) (lv := [(0, rfv g a), (1, .int (Int32.ofInt n))]) (by decide) rfl (by simp [lg_sl, rfv_cat, cat_i]) (by simp [lv_args, rfv_cat, cat_i, cat_r]) ?_
  intro p e s m below meth c ls C hE hr hlk hmn hl h
  refine z_aload_n C dJ7_copyOf_1904c_0 rfl (lv_at hl 0 rfl) ?_
  refine lv_iload_n C.1 C.2.1 dJ7_copyOf_1904c_1 rfl (lv_at hl 1 rfl) ?_
  refine z_aload_n C dJ7_copyOf_1904c_2 rfl (lv_at hl 0 rfl) ?_
  have hcell : ∃ cell : Cell, s.heap[g a.toNat]? = some cell ∧ cell.vm.isStatics = false ∧ s.vm.findClass "[Ljava/lang/Object;" = some cell.cls := by
    have hq := h.1 a.toNat _ (cW_ar k z g σ (t := 7) ha)
    rw [cAr_q g σ (by decide)] at hq
    exact ⟨_, hq, rfl, va_nmO (C.2.2.2.2.1.2 7 _ rfl).2 (by decide)⟩
  rw [rfv_s ha.1]
  refine va_getC C.1 C.2.1 (by rw [C.2.2.2.2.2]; exact hl.1.symm) C.2.2.2.1 (C.2.2.1 _ (List.mem_cons_of_mem _ wz_gc)) hE.2.2.2.2.2.2.2.2.2.1.use (C.2.2.1 _ (List.mem_cons_of_mem _ wz_gcs)) (C.2.2.1 _ (List.mem_cons_of_mem _ wz_gci)) (C.2.2.1 _ (List.mem_cons_of_mem _ wz_gcn)) hE.2.2.2.2.2.2.2.2.1 hcell (Nat.le_of_ble_eq_true rfl) (by simp [rfv_cat, cat_i, cat_r]) dJ7_copyOf_1904c_3 ?_
  rw [← rfv_s ha.1]
  refine c_callSqA (r := (nA π 7 n, cpe (zA σ (nn π) (-1)) (nn π) a (min (ln π a) n), (nn π : Int))) C hE h (kj_copy3 l D k z mi aK aV g hC ha hl0 hl1 hn hn2 hall) (v_cwS 3 C.2.2.1 (gC_J7_copyOf_6403c _) rfl rfl rfl (C.2.2.1 _ (List.mem_cons_of_mem _ wt_J7)) (C.2.2.1 _ (List.mem_cons_of_mem _ wm_J7_300)) (C.2.2.1 _ (List.mem_cons_of_mem _ ws_J7_copyOf_6403c)) hdS_J7_copyOf_6403c ⟨(Nat.le_of_ble_eq_true rfl), (Nat.le_of_ble_eq_true rfl)⟩) rfl hl.1 rfl (by decide) dJ7_copyOf_1904c_6 ⟨(Nat.le_of_ble_eq_true rfl), Nat.le_of_eq (Nat.zero_add _)⟩ (fun u H locs hg h => ?_)
  refine x_topv (b := va_rf (rfo u (nn π))) (rfv_rf u (nn π)).symm ?_
  exact x_aretq (post := fun v u => gx (nn π) g u ∧ v = rfo u (nn π)) (w1 := fun u => cW k z u (nA π 7 n) (cpe (zA σ (nn π) (-1)) (nn π) a (min (ln π a) n))) C h hr hlk u dJ7_copyOf_1904c_9 (Or.inr ⟨_, rfl⟩) ⟨hg, rfl⟩ rfl (Nat.le_of_ble_eq_true rfl) (Nat.le_of_eq (Nat.zero_add _))
/-- what growing makes: a first array of ten, or a copy of half as many again -/
def L_grow (π : Sh) (σ : St) (x : Int) : Sh × St := if fl σ 1 x < 0 then (nA π 7 10, sf (zA σ (nn π) (-1)) 1 x (nn π)) else (nA π 7 (L_cap (fl σ 2 x)), sf (cpe (zA σ (nn π) (-1)) (nn π) (fl σ 1 x) (fl σ 2 x)) 1 x (nn π))
/-- the list is full -/
def L_full (π : Sh) (σ : St) (x : Int) : Prop := ob π x 0 ∧ 0 ≤ fl σ 2 x ∧ fl σ 2 x < 30000000 ∧ (fl σ 1 x < 0 ∧ fl σ 2 x = 0 ∨ ob π (fl σ 1 x) 27 ∧ fl σ 2 x = ln π (fl σ 1 x) ∧ 0 < fl σ 2 x ∧ allO π σ (fl σ 1 x) (fl σ 2 x))
theorem grow_nn (π : Sh) (σ : St) (x : Int) : nn (L_grow π σ x).1 = nn π + 1 := by unfold L_grow; split <;> rfl
theorem grow_ext (π : Sh) (σ : St) (x : Int) : ext π (L_grow π σ x).1 := by unfold L_grow; split <;> exact ext_nA _ _ _
theorem cap_lt {n : Int} (h0 : 0 ≤ n) (h1 : n < 30000000) : 0 < L_cap n ∧ n < L_cap n ∧ L_cap n < 60000000 := by unfold L_cap; omega
theorem kj_grow1 {x : Int} (hC : Cl π σ) (hF : L_full π σ x) : Mq l yJx4a65c_grow_92f84 (.code yJx4a65c_grow_92f84 cJx4a65c_grow_92f84 4 (some (.array (.object "java/lang/Object"))) :: cWd) { frames := 3, cells := nn (L_grow π σ x).1 - nn π, slots := sw (L_grow π σ x).1 - sw π, locals := 130 } [rfv g x, .int (Int32.ofInt (fl σ 2 x + 1))] D (TYs k) (cW k z g π σ) (XV z mi aK aV (cW k z g π σ)) (Nat → Nat) (fun v u => gx (nn π) g u ∧ v = rfo u (nn π)) (fun u => cW k z u (L_grow π σ x).1 (L_grow π σ x).2) (nn (L_grow π σ x).1 - nn π) (sw (L_grow π σ x).1 - sw π) := by
  obtain ⟨hO, h0, h1, hd⟩ := hF
  have hv := hO.2.1
  intro sz
  refine v_met (cc := cJx4a65c_grow_92f84) (maxL := 4) (ret := some (.array (.object "java/lang/Object"))) (lv := [(0, rfv g x), (1, .int (Int32.ofInt (fl σ 2 x + 1)))]) (by decide) rfl (by simp [lg_sl, rfv_cat, cat_i]) (by simp [lv_args, rfv_cat, cat_i]) ?_
  intro p e s m below meth c ls C hE hr hlk hmn hl h
  generalize ([rfv g x, .int (Int32.ofInt (fl σ 2 x + 1))] : List Value).toArray = args at C ⊢
  have hn1 : i32 (fl σ 2 x + 1) := ⟨by omega, by omega⟩
  refine z_aload_n C dJx4a65c_grow_92f84_0 rfl (lv_at hl 0 rfl) ?_
  refine lg_ed C h hO dJx4a65c_grow_92f84_1 ?_
  rcases hd with ⟨he, hz⟩ | ⟨he, hz, hp, hall⟩
  · have eG : L_grow π σ x = (nA π 7 10, sf (zA σ (nn π) (-1)) 1 x (nn π)) := by unfold L_grow; rw [if_pos he]
    rw [eG]
    rw [eda_n he]
    refine l_alenZ C hE h dJx4a65c_grow_92f84_4 ?_
    refine lv_istore_n (i := 2) (lv' := [(2, .int (Int32.ofInt 0)), (0, rfv g x), (1, .int (Int32.ofInt (fl σ 2 x + 1)))]) C.1 C.2.1 dJx4a65c_grow_92f84_5 rfl hl (by decide) (by simp [rfv_cat, cat_i]) (fun ls hl => ?_)
    refine lv_iload_n C.1 C.2.1 dJx4a65c_grow_92f84_6 rfl (lv_at hl 0 rfl) ?_
    refine z_if_gt (tgt := 20) C dJx4a65c_grow_92f84_7 (by decide) z_i32 (fun c => absurd c (by decide)) (fun _ => ?_)
    refine z_aload_n C dJx4a65c_grow_92f84_10 rfl (lv_at hl 1 rfl) ?_
    refine lg_ed C h hO dJx4a65c_grow_92f84_11 ?_
    rw [eda_n he]
    refine x_gets C h hE.1.2.2.2.2.2.2.2.1 dJx4a65c_grow_92f84_14 (List.mem_cons_of_mem _ wz_dc) ?_
    refine lv_acmp_eq (rx := some z) (ry := some z) (tgt := 45) C.1 C.2.1 dJx4a65c_grow_92f84_17 (by decide) (fun _ => ?_) (fun c => absurd rfl c)
    refine z_aload_n C dJx4a65c_grow_92f84_45 rfl (lv_at hl 1 rfl) ?_
    refine lv_bipush (v := Int32.ofInt 10) C.1 C.2.1 dJx4a65c_grow_92f84_46 (by decide) ?_
    refine lv_iload_n C.1 C.2.1 dJx4a65c_grow_92f84_48 rfl (lv_at hl 2 rfl) ?_
    refine v_max C hl.1 dJx4a65c_grow_92f84_49 (by decide) hn1 (List.mem_cons_of_mem _ wx_Jx4a65c_79) (List.mem_cons_of_mem _ wxs_max) (List.mem_cons_of_mem _ wxc_max) (List.mem_cons_of_mem _ wt_Math) (Nat.le_of_ble_eq_true rfl) (by simp [rfv_cat]) (Nat.zero_le _) (Nat.zero_le _) ?_
    have em : max 10 (fl σ 2 x + 1) = 10 := by omega
    rw [em]
    refine c_newq C h hC (t := 7) (by decide) rfl hE.2.2.2.2.2.2.2.1 (List.mem_cons_of_mem _ wz_cl7) dJx4a65c_grow_92f84_52 (by decide) (by decide) (by show 0 + 1 ≤ nn (nA π 7 10) - nn π; rw [nn_newA]; exact Nat.le_refl _) (by show 0 + (10 : Int).toNat ≤ sw (nA π 7 10) - sw π; rw [sz_newA]; decide) (fun u H hg h => ?_)
    simp only [← gx_rfv hg hv] at hl ⊢
    have ho := hO.ext (ext_nA π 7 10)
    refine lv_dup_x1 C.1 C.2.1 dJx4a65c_grow_92f84_55 (rfv_cat _ _) (rfv_cat _ _) ?_
    refine lp_ed C h ho (by omega) dJx4a65c_grow_92f84_56 (fun H locs h => ?_)
    refine x_topv (b := va_rf (rfo u (nn π))) (rfv_rf u (nn π)).symm ?_
    exact x_aretq (post := fun v u => gx (nn π) g u ∧ v = rfo u (nn π)) (w1 := fun u => cW k z u (nA π 7 10) (sf (zA σ (nn π) (-1)) 1 x (nn π))) C h hr hlk u dJx4a65c_grow_92f84_59 (Or.inr ⟨_, rfl⟩) ⟨hg, rfl⟩ rfl (by show 0 + 1 ≤ nn (nA π 7 10) - nn π; rw [nn_newA]; exact Nat.le_refl _) (by show 0 + (10 : Int).toNat ≤ sw (nA π 7 10) - sw π; rw [sz_newA]; decide)
  · have eG : L_grow π σ x = (nA π 7 (L_cap (fl σ 2 x)), sf (cpe (zA σ (nn π) (-1)) (nn π) (fl σ 1 x) (fl σ 2 x)) 1 x (nn π)) := by unfold L_grow; rw [if_neg (by have := he.1; omega)]
    rw [eG]
    have hc := cap_lt h0 h1
    have hmin : min (ln π (fl σ 1 x)) (L_cap (fl σ 2 x)) = fl σ 2 x := by omega
    rw [eda_s he.1]
    refine c_alen C h (t := 7) rfl he (by omega) dJx4a65c_grow_92f84_4 ?_
    rw [← hz]
    have hi2 : i32 (fl σ 2 x) := ⟨by omega, by omega⟩
    refine lv_istore_n (i := 2) (lv' := [(2, .int (Int32.ofInt (fl σ 2 x))), (0, rfv g x), (1, .int (Int32.ofInt (fl σ 2 x + 1)))]) C.1 C.2.1 dJx4a65c_grow_92f84_5 rfl hl (by decide) (by simp [rfv_cat, cat_i]) (fun ls hl => ?_)
    refine lv_iload_n C.1 C.2.1 dJx4a65c_grow_92f84_6 rfl (lv_at hl 0 rfl) ?_
    refine z_if_gt (tgt := 20) C dJx4a65c_grow_92f84_7 (by decide) hi2 (fun _ => ?_) (fun c => absurd hp c)
    refine lv_iload_n C.1 C.2.1 dJx4a65c_grow_92f84_20 rfl (lv_at hl 0 rfl) ?_
    refine lv_iload_n C.1 C.2.1 dJx4a65c_grow_92f84_21 rfl (lv_at hl 2 rfl) ?_
    refine lv_iload_n C.1 C.2.1 dJx4a65c_grow_92f84_22 rfl (lv_at hl 0 rfl) ?_
    refine z_isub C dJx4a65c_grow_92f84_23 ?_
    have e1 : fl σ 2 x + 1 - fl σ 2 x = 1 := by omega
    rw [e1]
    refine lv_iload_n C.1 C.2.1 dJx4a65c_grow_92f84_24 rfl (lv_at hl 0 rfl) ?_
    refine lv_iconst (v := Int32.ofInt 1) C.1 C.2.1 dJx4a65c_grow_92f84_25 (by decide) ?_
    refine z_ishr C dJx4a65c_grow_92f84_26 ?_
    rw [ishr1 hi2]
    refine v_callSi (r := L_cap (fl σ 2 x)) C h (kj_newLen l D k hi2 (by decide) ⟨by omega, by omega⟩ hc.1 (by have := hc.2.2; unfold L_cap at this; omega)) (v_cwS 3 C.2.2.1 (gC_J8_newLength_cabcc _) rfl rfl rfl (C.2.2.1 _ (List.mem_cons_of_mem _ wt_J8)) (C.2.2.1 _ (List.mem_cons_of_mem _ wm_Jx4a65c_73)) (C.2.2.1 _ (List.mem_cons_of_mem _ ws_J8_newLength_cabcc)) hdS_J8_newLength_cabcc ⟨Nat.le_of_ble_eq_true rfl, Nat.le_of_ble_eq_true rfl⟩) rfl hl.1 rfl (by decide) dJx4a65c_grow_92f84_27 ⟨Nat.zero_le _, Nat.zero_le _⟩ (fun H locs h => ?_)
    refine lv_istore_n (i := 3) (lv' := [(3, .int (Int32.ofInt (L_cap (fl σ 2 x)))), (2, .int (Int32.ofInt (fl σ 2 x))), (0, rfv g x), (1, .int (Int32.ofInt (fl σ 2 x + 1)))]) C.1 C.2.1 dJx4a65c_grow_92f84_30 rfl hl (by decide) (by simp [rfv_cat, cat_i]) (fun ls hl => ?_)
    refine z_aload_n C dJx4a65c_grow_92f84_31 rfl (lv_at hl 2 rfl) ?_
    refine z_aload_n C dJx4a65c_grow_92f84_32 rfl (lv_at hl 2 rfl) ?_
    refine lg_ed C h hO dJx4a65c_grow_92f84_33 ?_
    rw [eda_s he.1]
    refine lv_iload_n C.1 C.2.1 dJx4a65c_grow_92f84_36 rfl (lv_at hl 0 rfl) ?_
    refine c_callSqA (r := (nA π 7 (L_cap (fl σ 2 x)), cpe (zA σ (nn π) (-1)) (nn π) (fl σ 1 x) (min (ln π (fl σ 1 x)) (L_cap (fl σ 2 x))), (nn π : Int))) C hE h (kj_copy2 l D k z mi aK aV g hC he (by omega) (by omega) (by omega) hc.2.2 (by rw [hmin]; exact hall)) (v_cwS 2 C.2.2.1 (gC_J7_copyOf_1904c _) rfl rfl rfl (C.2.2.1 _ (List.mem_cons_of_mem _ wt_J7)) (C.2.2.1 _ (List.mem_cons_of_mem _ wm_Jx4a65c_66)) (C.2.2.1 _ (List.mem_cons_of_mem _ ws_J7_copyOf_1904c)) hdS_J7_copyOf_1904c ⟨Nat.le_of_ble_eq_true rfl, Nat.le_of_ble_eq_true rfl⟩) rfl hl.1 rfl (by simp [rfv_cat]) dJx4a65c_grow_92f84_37 ⟨by show 0 + 1 ≤ nn (nA π 7 _) - nn π; rw [nn_newA]; exact Nat.le_refl _, by show 0 + _ ≤ sw (nA π 7 _) - sw π; rw [sz_newA, Nat.zero_add]; exact Nat.le_refl _⟩ (fun u H locs hg h => ?_)
    simp only [← gx_rfv hg hv] at hl ⊢
    rw [hmin] at h
    have ho := hO.ext (ext_nA π 7 (L_cap (fl σ 2 x)))
    refine lv_dup_x1 C.1 C.2.1 dJx4a65c_grow_92f84_40 (rfv_cat _ _) (rfv_cat _ _) ?_
    refine lp_ed C h ho (by show (0 : Int) ≤ (nn π : Int); omega) dJx4a65c_grow_92f84_41 (fun H locs h => ?_)
    refine x_topv (b := va_rf (rfo u (nn π))) (rfv_rf u (nn π)).symm ?_
    exact x_aretq (post := fun v u => gx (nn π) g u ∧ v = rfo u (nn π)) (w1 := fun u => cW k z u (nA π 7 (L_cap (fl σ 2 x))) (sf (cpe (zA σ (nn π) (-1)) (nn π) (fl σ 1 x) (fl σ 2 x)) 1 x (nn π))) C h hr hlk u dJx4a65c_grow_92f84_44 (Or.inr ⟨_, rfl⟩) ⟨hg, rfl⟩ rfl (by show 0 + 1 ≤ nn (nA π 7 _) - nn π; rw [nn_newA]; exact Nat.le_refl _) (by show 0 + _ ≤ sw (nA π 7 _) - sw π; rw [sz_newA, Nat.zero_add]; exact Nat.le_refl _)
theorem kj_grow0 {x : Int} (hC : Cl π σ) (hF : L_full π σ x) : Mq l yJx4a65c_grow_d5877 (.code yJx4a65c_grow_d5877 cJx4a65c_grow_d5877 1 (some (.array (.object "java/lang/Object"))) :: cWd) { frames := 4, cells := nn (L_grow π σ x).1 - nn π, slots := sw (L_grow π σ x).1 - sw π, locals := 160 } [rfv g x] D (TYs k) (cW k z g π σ) (XV z mi aK aV (cW k z g π σ)) (Nat → Nat) (fun v u => gx (nn π) g u ∧ v = rfo u (nn π)) (fun u => cW k z u (L_grow π σ x).1 (L_grow π σ x).2) (nn (L_grow π σ x).1 - nn π) (sw (L_grow π σ x).1 - sw π) := by
  have hO := hF.1
  intro sz
  refine v_met (cc := cJx4a65c_grow_d5877) (maxL := 1) (ret := some (.array (.object "java/lang/Object"))) (lv := [(0, rfv g x)]) (by decide) rfl (by simp [lg_sl, rfv_cat]) (by simp [lv_args]) ?_
  intro p e s m below meth c ls C hE hr hlk hmn hl h
  refine z_aload_n C dJx4a65c_grow_d5877_0 rfl (lv_at hl 0 rfl) ?_
  refine z_aload_n C dJx4a65c_grow_d5877_1 rfl (lv_at hl 0 rfl) ?_
  refine lg_size C h hO dJx4a65c_grow_d5877_2 ?_
  refine lv_iconst (v := Int32.ofInt 1) C.1 C.2.1 dJx4a65c_grow_d5877_5 (by decide) ?_
  refine z_iadd C dJx4a65c_grow_d5877_6 ?_
  refine c_callVqA (r := ((L_grow π σ x).1, (L_grow π σ x).2, (nn π : Int))) C hE h hO rfl (by decide) (kj_grow1 l D k z mi aK aV g hC hF) (cwV 1 C.2.2.1 (gS_Jx4a65c_69 _) rfl rfl rfl hd_Jx4a65c_grow_92f84 ⟨Nat.le_of_ble_eq_true rfl, Nat.le_of_ble_eq_true rfl⟩) rfl hl.1 rfl (by decide) dJx4a65c_grow_d5877_7 ⟨Nat.le_of_eq (Nat.zero_add _), Nat.le_of_eq (Nat.zero_add _)⟩ (fun u H locs hg h => ?_)
  refine x_topv (b := va_rf (rfo u (nn π))) (rfv_rf u (nn π)).symm ?_
  exact x_aretq (post := fun v u => gx (nn π) g u ∧ v = rfo u (nn π)) (w1 := fun u => cW k z u (L_grow π σ x).1 (L_grow π σ x).2) C h hr hlk u dJx4a65c_grow_d5877_10 (Or.inr ⟨_, rfl⟩) ⟨hg, rfl⟩ rfl (Nat.le_of_eq (Nat.zero_add _)) (Nat.le_of_eq (Nat.zero_add _))
/-- what the inner add makes -/
def L_addP (π : Sh) (σ : St) (x v : Int) : Sh × St := if fl σ 1 x < 0 ∨ fl σ 2 x = ln π (fl σ 1 x) then ((L_grow π σ x).1, sf (se (L_grow π σ x).2 (nn π) (fl σ 2 x) v) 2 x (fl σ 2 x + 1)) else (π, sf (se σ (fl σ 1 x) (fl σ 2 x) v) 2 x (fl σ 2 x + 1))
def L_okP (π : Sh) (σ : St) (x v : Int) : Prop := ob π x 0 ∧ anyO π v ∧ 0 ≤ fl σ 2 x ∧ fl σ 2 x < 30000000 ∧ (L_full π σ x ∨ ob π (fl σ 1 x) 27 ∧ fl σ 2 x < ln π (fl σ 1 x) ∧ ln π (fl σ 1 x) < 60000001)
theorem grow_ob (π : Sh) (σ : St) (x : Int) : ob (L_grow π σ x).1 (nn π) 27 := by unfold L_grow; split <;> exact ob_newA π 7 _
theorem grow_ln {π : Sh} {σ : St} {x : Int} (hF : L_full π σ x) : fl σ 2 x < ln (L_grow π σ x).1 (nn π) := by
  obtain ⟨hO, h0, h1, hd⟩ := hF
  unfold L_grow
  split
  · rename_i he
    rcases hd with ⟨-, hz⟩ | ⟨hz, -⟩
    · rw [hz]; show (0 : Int) < ln (nA π 7 10) (nn π); rw [ln_newA]; decide
    · have := hz.1; omega
  · show fl σ 2 x < ln (nA π 7 (L_cap (fl σ 2 x))) (nn π)
    rw [ln_newA]
    exact (cap_lt h0 h1).2.1
theorem kj_add {x v : Int} (hC : Cl π σ) (hP : L_okP π σ x v) : Mv l yJx4a65c_add_72be8 (.code yJx4a65c_add_72be8 cJx4a65c_add_72be8 4 none :: cWd) { frames := 5, cells := nn (L_addP π σ x v).1 - nn π, slots := sw (L_addP π σ x v).1 - sw π, locals := 185 } [rfv g x, rfv g v, .ref (eda z g (fl σ 1 x)), .int (Int32.ofInt (fl σ 2 x))] D (TYs k) (cW k z g π σ) (XV z mi aK aV (cW k z g π σ)) (Nat → Nat) (fun u => gx (nn π) g u) (fun u => cW k z u (L_addP π σ x v).1 (L_addP π σ x v).2) (nn (L_addP π σ x v).1 - nn π) (sw (L_addP π σ x v).1 - sw π) := by
  obtain ⟨hO, hA, h0, h1, hd⟩ := hP
  have hvx := hO.2.1
  have hvv := any_lt hA
  have hi2 : i32 (fl σ 2 x) := ⟨by omega, by omega⟩
  intro sz
  refine v_met (cc := cJx4a65c_add_72be8) (maxL := 4) (ret := none) (lv := [(0, rfv g x), (1, rfv g v), (2, .ref (eda z g (fl σ 1 x))), (3, .int (Int32.ofInt (fl σ 2 x)))]) (by decide) rfl (by simp [lg_sl, rfv_cat, cat_i, cat_r]) (by simp [lv_args, rfv_cat, cat_i, cat_r]) ?_
  intro p e s m below meth c ls C hE hr hlk hmn hl h
  generalize ([rfv g x, rfv g v, .ref (eda z g (fl σ 1 x)), .int (Int32.ofInt (fl σ 2 x))] : List Value).toArray = args at C ⊢
  refine lv_iload_n C.1 C.2.1 dJx4a65c_add_72be8_0 rfl (lv_at hl 3 rfl) ?_
  refine lv_aload_n C.1 C.2.1 dJx4a65c_add_72be8_1 rfl (lv_at hl 2 rfl) ?_
  by_cases hf : fl σ 1 x < 0 ∨ fl σ 2 x = ln π (fl σ 1 x)
  · have eA : L_addP π σ x v = ((L_grow π σ x).1, sf (se (L_grow π σ x).2 (nn π) (fl σ 2 x) v) 2 x (fl σ 2 x + 1)) := by unfold L_addP; rw [if_pos hf]
    have hF : L_full π σ x := by
      rcases hd with hd | ⟨hd, hd2⟩
      · exact hd
      · have := hd.1; have := hd2.1; omega
    rw [eA]
    have goal2 : W p l e { frames := 5, cells := nn (L_grow π σ x).1 - nn π, slots := sw (L_grow π σ x).1 - sw π, locals := 185 } s m args below meth c s.heap [] 0 0 (MQ below (va_Qv (fun u => gx (nn π) g u) (fun u t => PostW D (TYs k) (va_A (cW k z g π σ) sz) (cW k z u (L_grow π σ x).1 (sf (se (L_grow π σ x).2 (nn π) (fl σ 2 x) v) 2 x (fl σ 2 x + 1))) t) (va_A (cW k z g π σ) sz)) args s (nn (L_grow π σ x).1 - nn π) (sw (L_grow π σ x).1 - sw π) (va_A (cW k z g π σ) sz)) (F0 m 6 ls []) := by
      have he := grow_ext π σ x
      have ho := hO.ext he
      have hg27 := grow_ob π σ x
      have hgl := grow_ln hF
      refine z_aload_n C dJx4a65c_add_72be8_6 rfl (lv_at hl 0 rfl) ?_
      refine c_callVqA (r := ((L_grow π σ x).1, (L_grow π σ x).2, (nn π : Int))) C hE h hO rfl (by decide) (kj_grow0 l D k z mi aK aV g hC hF) (cwV 0 C.2.2.1 (gS_Jx4a65c_129 _) rfl rfl rfl hd_Jx4a65c_grow_d5877 ⟨Nat.le_of_ble_eq_true rfl, Nat.le_of_ble_eq_true rfl⟩) rfl hl.1 rfl (by decide) dJx4a65c_add_72be8_7 ⟨Nat.le_of_eq (Nat.zero_add _), Nat.le_of_eq (Nat.zero_add _)⟩ (fun u H locs hg h => ?_)
      have hl := lv_sub (l' := [(0, rfv g x), (1, rfv g v), (3, .int (Int32.ofInt (fl σ 2 x)))]) hl [0, 1, 3] rfl
      simp only [← gx_rfv hg hvx, ← gx_rfv hg hvv] at hl
      refine z_astore_n (j := 2) (lv' := [(2, rfv u (nn π)), (0, rfv u x), (1, rfv u v), (3, .int (Int32.ofInt (fl σ 2 x)))]) C dJx4a65c_add_72be8_10 rfl hl (by decide) (by simp [rfv_cat, cat_i]) (fun ls hl => ?_)
      refine z_aload_n C dJx4a65c_add_72be8_11 rfl (lv_at hl 0 rfl) ?_
      refine lv_iload_n C.1 C.2.1 dJx4a65c_add_72be8_12 rfl (lv_at hl 3 rfl) ?_
      refine z_aload_n C dJx4a65c_add_72be8_13 rfl (lv_at hl 2 rfl) ?_
      refine c_qastO C hE h hg27 ⟨h0, hgl, by omega⟩ (any_ext hA he) dJx4a65c_add_72be8_14 (fun H locs h => ?_)
      refine z_aload_n C dJx4a65c_add_72be8_15 rfl (lv_at hl 1 rfl) ?_
      refine lv_iload_n C.1 C.2.1 dJx4a65c_add_72be8_16 rfl (lv_at hl 3 rfl) ?_
      refine lv_iconst (v := Int32.ofInt 1) C.1 C.2.1 dJx4a65c_add_72be8_17 (by decide) ?_
      refine z_iadd C dJx4a65c_add_72be8_18 ?_
      refine lp_size C h ho dJx4a65c_add_72be8_19 (fun H locs h => ?_)
      exact x_vret (w1 := fun u => cW k z u (L_grow π σ x).1 (sf (se (L_grow π σ x).2 (nn π) (fl σ 2 x) v) 2 x (fl σ 2 x + 1))) C h hr hlk u dJx4a65c_add_72be8_22 hg rfl (Nat.le_of_eq (Nat.zero_add _)) (Nat.le_of_eq (Nat.zero_add _))
    rcases hF.2.2.2 with ⟨he, hz⟩ | ⟨he, hz, -⟩
    · rw [eda_n he]
      refine l_alenZ C hE h dJx4a65c_add_72be8_2 ?_
      exact z_icmp_ne (tgt := 11) C dJx4a65c_add_72be8_3 (by decide) hi2 z_i32 (fun c => absurd hz c) (fun _ => goal2)
    · rw [eda_s he.1]
      refine c_alen C h (t := 7) rfl he (by omega) dJx4a65c_add_72be8_2 ?_
      exact z_icmp_ne (tgt := 11) C dJx4a65c_add_72be8_3 (by decide) hi2 ⟨by omega, by omega⟩ (fun c => absurd hz c) (fun _ => goal2)
  · have eA : L_addP π σ x v = (π, sf (se σ (fl σ 1 x) (fl σ 2 x) v) 2 x (fl σ 2 x + 1)) := by unfold L_addP; rw [if_neg hf]
    rw [eA]
    rcases hd with hd | ⟨he, hlt, hdl⟩
    · rcases hd.2.2.2 with ⟨q, -⟩ | ⟨-, q, -⟩
      · exact absurd (Or.inl q) hf
      · exact absurd (Or.inr q) hf
    · rw [eda_s he.1] at hl ⊢
      refine c_alen C h (t := 7) rfl he (by omega) dJx4a65c_add_72be8_2 ?_
      refine z_icmp_ne (tgt := 11) C dJx4a65c_add_72be8_3 (by decide) hi2 ⟨by omega, by omega⟩ (fun _ => ?_) (fun c => absurd (Or.inr c) hf)
      refine z_aload_n C dJx4a65c_add_72be8_11 rfl (lv_at hl 2 rfl) ?_
      refine lv_iload_n C.1 C.2.1 dJx4a65c_add_72be8_12 rfl (lv_at hl 3 rfl) ?_
      refine z_aload_n C dJx4a65c_add_72be8_13 rfl (lv_at hl 1 rfl) ?_
      refine c_qastO C hE h he ⟨h0, hlt, by omega⟩ hA dJx4a65c_add_72be8_14 (fun H locs h => ?_)
      refine z_aload_n C dJx4a65c_add_72be8_15 rfl (lv_at hl 0 rfl) ?_
      refine lv_iload_n C.1 C.2.1 dJx4a65c_add_72be8_16 rfl (lv_at hl 3 rfl) ?_
      refine lv_iconst (v := Int32.ofInt 1) C.1 C.2.1 dJx4a65c_add_72be8_17 (by decide) ?_
      refine z_iadd C dJx4a65c_add_72be8_18 ?_
      refine lp_size C h hO dJx4a65c_add_72be8_19 (fun H locs h => ?_)
      exact x_vret (w1 := fun u => cW k z u π (sf (se σ (fl σ 1 x) (fl σ 2 x) v) 2 x (fl σ 2 x + 1))) C h hr hlk g dJx4a65c_add_72be8_22 (gx.rf _ _) rfl (Nat.zero_le _) (Nat.zero_le _)
theorem kc_L_add {x v : Int} {r : Sh × St × Int} (hC : Cl π σ) (hv : x < nn π) (hv2 : v < nn π) (hm : L_add π σ x v = some r) : Mi l yJx4a65c_add_9ea2d (.code yJx4a65c_add_9ea2d cJx4a65c_add_9ea2d 2 (some .boolean) :: cWd) { frames := 6, cells := nn r.1 - nn π, slots := sw r.1 - sw π, locals := 220 } [rfv g x, rfv g v] D (TYs k) (cW k z g π σ) (XV z mi aK aV (cW k z g π σ)) (Nat → Nat) (fun v u => gx (nn π) g u ∧ v = Int32.ofInt r.2.2) (fun u => cW k z u r.1 r.2.1) (nn r.1 - nn π) (sw r.1 - sw π) := by
  have c0 := cl_sfI hC (f := 0) rfl x (fl σ 0 x + 1)
  have hr0 : ∀ (f : Nat) (i : Int), f ≠ 0 → fl (sf σ 0 x (fl σ 0 x + 1)) f i = fl σ f i := fun f i hf => by simp [fl, sf, hf]
  have e1 := hr0 1 x (by decide)
  have e2 := hr0 2 x (by decide)
  have ea : ∀ a n : Int, allO π σ a n → allO π (sf σ 0 x (fl σ 0 x + 1)) a n := fun _ _ h => h
  have key : ∃ q : Sh × St, r = (q.1, q.2, 1) ∧ ob π x 0 ∧ L_okP π (sf σ 0 x (fl σ 0 x + 1)) x v ∧ L_addP π (sf σ 0 x (fl σ 0 x + 1)) x v = q := by
    obtain ⟨g1, hm⟩ := grd_s hm
    obtain ⟨g2, hm⟩ := grd_s hm
    obtain ⟨g3, hm⟩ := grd_s hm
    split at hm
    · rename_i he
      obtain ⟨g4, hm⟩ := grd_s hm
      refine ⟨(r.1, r.2.1), by cases hm; rfl, g1, ⟨g1, g2, by rw [e2]; exact g3.1, by rw [e2]; exact g3.2, Or.inl ⟨g1, by rw [e2]; exact g3.1, by rw [e2]; exact g3.2, Or.inl ⟨by rw [e1]; exact he, by rw [e2]; exact g4⟩⟩⟩, ?_⟩
      cases hm
      unfold L_addP
      rw [e1, e2, if_pos (Or.inl he)]
      unfold L_grow
      rw [e1, if_pos he, g4]
      rfl
    · rename_i he
      obtain ⟨g4, hm⟩ := grd_s hm
      obtain ⟨g5, hm⟩ := grd_s hm
      split at hm
      · rename_i hlt
        refine ⟨(r.1, r.2.1), by cases hm; rfl, g1, ⟨g1, g2, by rw [e2]; exact g3.1, by rw [e2]; exact g3.2, Or.inr ⟨by rw [e1]; exact g4, by rw [e1, e2]; exact hlt, by rw [e1]; exact g5⟩⟩, ?_⟩
        cases hm
        unfold L_addP
        rw [e1, e2, if_neg (by omega)]
      · obtain ⟨g6, hm⟩ := grd_s hm
        refine ⟨(r.1, r.2.1), by cases hm; rfl, g1, ⟨g1, g2, by rw [e2]; exact g3.1, by rw [e2]; exact g3.2, Or.inl ⟨g1, by rw [e2]; exact g3.1, by rw [e2]; exact g3.2, Or.inr ⟨by rw [e1]; exact g4, by rw [e1, e2]; exact g6.1, by rw [e2]; exact g6.2.1, by rw [e1, e2]; exact g6.2.2⟩⟩⟩, ?_⟩
        cases hm
        unfold L_addP
        rw [e1, e2, if_pos (Or.inr g6.1)]
        unfold L_grow
        rw [e1, e2, if_neg he]
  obtain ⟨q, rfl, hO, hP, hq⟩ := key
  intro sz
  refine v_met (cc := cJx4a65c_add_9ea2d) (maxL := 2) (ret := some .boolean) (lv := [(0, rfv g x), (1, rfv g v)]) (by decide) rfl (by simp [lg_sl, rfv_cat]) (by simp [lv_args, rfv_cat]) ?_
  intro p e s m below meth c ls C hE hr hlk hmn hl h
  refine z_aload_n C dJx4a65c_add_9ea2d_0 rfl (lv_at hl 0 rfl) ?_
  refine lv_dup C.1 C.2.1 dJx4a65c_add_9ea2d_1 (rfv_cat _ _) ?_
  refine lg_mod C h hO dJx4a65c_add_9ea2d_2 ?_
  refine lv_iconst (v := Int32.ofInt 1) C.1 C.2.1 dJx4a65c_add_9ea2d_5 (by decide) ?_
  refine z_iadd C dJx4a65c_add_9ea2d_6 ?_
  refine lp_mod C h hO dJx4a65c_add_9ea2d_7 (fun H locs h => ?_)
  refine z_aload_n C dJx4a65c_add_9ea2d_10 rfl (lv_at hl 0 rfl) ?_
  refine z_aload_n C dJx4a65c_add_9ea2d_11 rfl (lv_at hl 1 rfl) ?_
  refine z_aload_n C dJx4a65c_add_9ea2d_12 rfl (lv_at hl 0 rfl) ?_
  refine lg_ed C h hO dJx4a65c_add_9ea2d_13 ?_
  refine z_aload_n C dJx4a65c_add_9ea2d_16 rfl (lv_at hl 0 rfl) ?_
  refine lg_size C h hO dJx4a65c_add_9ea2d_17 ?_
  have hK := kj_add l D k z mi aK aV g c0 hP
  rw [hq] at hK
  refine c_callVvA (r := q) C hE h hO rfl (by decide) hK (cwV 3 C.2.2.1 (gS_Jx4a65c_131 _) rfl rfl rfl hd_Jx4a65c_add_72be8 ⟨Nat.le_of_ble_eq_true rfl, Nat.le_of_ble_eq_true rfl⟩) rfl hl.1 rfl (by decide) dJx4a65c_add_9ea2d_20 ⟨Nat.le_of_eq (Nat.zero_add _), Nat.le_of_eq (Nat.zero_add _)⟩ (fun u H locs hg h => ?_)
  refine lv_iconst (v := Int32.ofInt 1) C.1 C.2.1 dJx4a65c_add_9ea2d_23 (by decide) ?_
  exact x_iret (post := fun v u => gx (nn π) g u ∧ v = Int32.ofInt 1) (w1 := fun u => cW k z u q.1 q.2) C h hr hlk u dJx4a65c_add_9ea2d_24 rfl ⟨hg, rfl⟩ rfl (Nat.le_of_eq (Nat.zero_add _)) (Nat.le_of_eq (Nat.zero_add _))
theorem kc_A_copy {a m : Int} {r : Sh × St × Int} (hC : Cl π σ) (hv : a < nn π) (hm : A_copy π σ a m = some r) : Mq l yJ7_copyOf_59c91 (.code yJ7_copyOf_59c91 cJ7_copyOf_59c91 3 (some (.array .int)) :: cWd) { frames := 1, cells := nn r.1 - nn π, slots := sw r.1 - sw π, locals := 60 } [rfv g a, .int (Int32.ofInt m)] D (TYs k) (cW k z g π σ) (XV z mi aK aV (cW k z g π σ)) (Nat → Nat) (fun v u => gx (nn π) g u ∧ v = rfo u r.2.2) (fun u => cW k z u r.1 r.2.1) (nn r.1 - nn π) (sw r.1 - sw π) := by
  obtain ⟨ha, hm⟩ := grd_s hm
  obtain ⟨g2, hm⟩ := grd_s hm
  obtain ⟨g3, hm⟩ := grd_s hm
  obtain ⟨g4, hm⟩ := grd_s hm
  cases hm
  intro sz
  refine v_met (cc := cJ7_copyOf_59c91) (maxL := 3) (ret := some (.array .int)) (lv := [(0, rfv g a), (1, .int (Int32.ofInt m))]) (by decide) rfl (by simp [lg_sl, rfv_cat, cat_i]) (by simp [lv_args, rfv_cat, cat_i]) ?_
  intro p e s m' below meth c ls C hE hr hlk hmn hl h
  generalize ([rfv g a, .int (Int32.ofInt m)] : List Value).toArray = args at C ⊢
  have ei : i32 m := ⟨by omega, by omega⟩
  have el' : i32 (ln π a) := ⟨by omega, by omega⟩
  have c1 : 0 + 1 ≤ nn (nA π 2 m) - nn π := by rw [nn_newA]; exact Nat.le_refl _
  have c2 : 0 + m.toNat ≤ sw (nA π 2 m) - sw π := by rw [sz_newA, Nat.zero_add]; exact Nat.le_refl _
  refine lv_iload_n C.1 C.2.1 dJ7_copyOf_59c91_0 rfl (lv_at hl 1 rfl) ?_
  refine z_aload_n C dJ7_copyOf_59c91_1 rfl (lv_at hl 0 rfl) ?_
  refine c_alen C h (t := 2) rfl ha g3.1 dJ7_copyOf_59c91_2 ?_
  refine z_icmp_ne (tgt := 14) C dJ7_copyOf_59c91_3 (by decide) ei el' (fun _ => ?_) (fun c => absurd c g4)
  refine lv_iload_n C.1 C.2.1 dJ7_copyOf_59c91_14 rfl (lv_at hl 1 rfl) ?_
  refine c_newa_int C h hC dJ7_copyOf_59c91_15 (List.mem_cons_of_mem _ wa_int) g2.1 (by omega) c1 c2 (fun u H hg h => ?_)
  simp only [← gx_rfv hg hv] at hl
  have ea := ha.ext (ext_nA π 2 m)
  refine z_astore_n (j := 2) (lv' := [(2, rfv u (nn π)), (0, rfv u a), (1, .int (Int32.ofInt m))]) C dJ7_copyOf_59c91_17 rfl hl (by decide) (by simp [rfv_cat, cat_i]) (fun ls hl => ?_)
  refine z_aload_n C dJ7_copyOf_59c91_18 rfl (lv_at hl 1 rfl) ?_
  refine lv_iconst (v := Int32.ofInt 0) C.1 C.2.1 dJ7_copyOf_59c91_19 (by decide) ?_
  refine z_aload_n C dJ7_copyOf_59c91_20 rfl (lv_at hl 0 rfl) ?_
  refine lv_iconst (v := Int32.ofInt 0) C.1 C.2.1 dJ7_copyOf_59c91_21 (by decide) ?_
  refine z_aload_n C dJ7_copyOf_59c91_22 rfl (lv_at hl 1 rfl) ?_
  refine c_alen C h (t := 2) rfl ea (by rw [ln_ext hv (ext_nA π 2 m)]; exact g3.1) dJ7_copyOf_59c91_23 ?_
  rw [ln_ext hv (ext_nA π 2 m)]
  refine lv_iload_n C.1 C.2.1 dJ7_copyOf_59c91_24 rfl (lv_at hl 2 rfl) ?_
  refine v_min C hl.1 dJ7_copyOf_59c91_25 el' ei (List.mem_cons_of_mem _ wx_J7_304) (List.mem_cons_of_mem _ wxs_min) (List.mem_cons_of_mem _ wxc_min) (List.mem_cons_of_mem _ wt_Math) (Nat.le_of_ble_eq_true rfl) (by simp [rfv_cat, cat_i]) c1 c2 ?_
  refine c_cpyI C h hl.1 (ob_newA π 2 m) ea (by omega) (by omega) (by rw [ln_ext hv (ext_nA π 2 m)]; omega) (by rw [ln_newA]; omega) (Nat.le_of_ble_eq_true rfl) (Nat.le_of_ble_eq_true rfl) dJ7_copyOf_59c91_28 (fun H locs h => ?_)
  refine z_aload_n C dJ7_copyOf_59c91_31 rfl (lv_at hl 0 rfl) ?_
  refine x_topv (b := va_rf (rfo u (nn π))) (rfv_rf u (nn π)).symm ?_
  exact x_aretq (post := fun v u => gx (nn π) g u ∧ v = rfo u (nn π)) (w1 := fun u => cW k z u (nA π 2 m) (cpe (zA σ (nn π) 0) (nn π) a (min (ln π a) m))) C h hr hlk u dJ7_copyOf_59c91_32 (Or.inr ⟨_, rfl⟩) ⟨hg, rfl⟩ rfl c1 c2
/-- nulls from i on up to the list's size, and the rest of clear -/
def cl1 (σ : St) (x i n : Int) : St := (σ.1, fun a' j => if a' = fl σ 1 x ∧ i ≤ j ∧ j < n then -1 else σ.2 a' j)
theorem kc_L_clear {x : Int} {r : St} (hS : SHs π) (hm : L_clear π σ x = some r) : Mv l yJx4a65c_clear_da8c8 (.code yJx4a65c_clear_da8c8 cJx4a65c_clear_da8c8 4 none :: cWd) { frames := 0, cells := 0, slots := 0, locals := 0 } [rfv g x] D (TYs k) (cW k z g π σ) (XV z mi aK aV (cW k z g π σ)) Unit (fun _ => True) (fun _ => cW k z g π r) 0 0 := by
  obtain ⟨hO, hm⟩ := grd_s hm
  obtain ⟨g2, hm⟩ := grd_s hm
  obtain ⟨g3, hm⟩ := grd_s hm
  cases hm
  have h0 := g2.1
  have hi2 := g2.2
  intro sz
  refine v_met (cc := cJx4a65c_clear_da8c8) (maxL := 4) (ret := none) (lv := [(0, rfv g x)]) (by decide) rfl (by simp [lg_sl, rfv_cat]) (by simp [lv_args]) ?_
  intro p e s m below meth c ls C hE hr hlk hmn hl h
  -- the loop
  have loop : ∀ (n : Nat) (i : Int) (ls : Array Slot) (H : Heap) (locs : List Loc) (τ : St), 0 ≤ i → i + n = fl σ 2 x → cl1 τ x i (fl σ 2 x) = sf (sf (cle σ (fl σ 1 x) (fl σ 2 x)) 0 x (fl σ 0 x + 1)) 2 x 0 → fl τ 1 x = fl σ 1 x → lv_has ls 4 [(3, .int (Int32.ofInt i)), (2, .int (Int32.ofInt (fl σ 2 x))), (1, .ref (eda z g (fl σ 1 x)))] → Hp D (va_A (cW k z g π σ) sz) s.heap H locs (cW k z g π τ) → W p l e { frames := 0, cells := 0, slots := 0, locals := 0 } s m ([rfv g x] : List Value).toArray below meth c H locs 0 0 (MQ below (va_Qv (fun (_ : Unit) => True) (fun _ t => PostW D (TYs k) (va_A (cW k z g π σ) sz) (cW k z g π (sf (sf (cle σ (fl σ 1 x) (fl σ 2 x)) 0 x (fl σ 0 x + 1)) 2 x 0)) t) (va_A (cW k z g π σ) sz)) ([rfv g x] : List Value).toArray s 0 0 (va_A (cW k z g π σ) sz)) (F0 m 27 ls []) := by
    intro n
    induction n with
    | zero =>
      intro i ls H locs τ hi0 hin hτ h1 hl h
      have e : cl1 τ x i (fl σ 2 x) = τ := by
        unfold cl1
        ext
        · rfl
        · rename_i a' j
          show (if a' = fl τ 1 x ∧ i ≤ j ∧ j < fl σ 2 x then -1 else τ.2 a' j) = τ.2 a' j
          rw [if_neg (by omega)]
      refine lv_iload_n C.1 C.2.1 dJx4a65c_clear_da8c8_27 rfl (lv_at hl 0 rfl) ?_
      refine lv_iload_n C.1 C.2.1 dJx4a65c_clear_da8c8_28 rfl (lv_at hl 1 rfl) ?_
      refine z_icmp_ge (tgt := 42) C dJx4a65c_clear_da8c8_29 (by decide) ⟨by omega, by have := hi2.2; omega⟩ hi2 (fun _ => ?_) (fun c => absurd c (by omega))
      rw [← hτ, e]
      exact c_vretP C h hr hlk dJx4a65c_clear_da8c8_42
    | succ n ih =>
      intro i ls H locs τ hi0 hin hτ h1 hl h
      have g4 : ob π (fl σ 1 x) 27 ∧ fl σ 2 x ≤ ln π (fl σ 1 x) := by
        rcases g3 with q | q
        · omega
        · exact q
      refine lv_iload_n C.1 C.2.1 dJx4a65c_clear_da8c8_27 rfl (lv_at hl 0 rfl) ?_
      refine lv_iload_n C.1 C.2.1 dJx4a65c_clear_da8c8_28 rfl (lv_at hl 1 rfl) ?_
      refine z_icmp_ge (tgt := 42) C dJx4a65c_clear_da8c8_29 (by decide) ⟨by omega, by have := hi2.2; omega⟩ hi2 (fun c => absurd c (by omega)) (fun _ => ?_)
      refine lv_aload_n C.1 C.2.1 dJx4a65c_clear_da8c8_32 rfl (lv_at hl 2 rfl) ?_
      rw [eda_s g4.1.1]
      refine lv_iload_n C.1 C.2.1 dJx4a65c_clear_da8c8_33 rfl (lv_at hl 0 rfl) ?_
      refine z_null (g := g) C dJx4a65c_clear_da8c8_34 ?_
      refine c_qnull C h g4.1 ⟨hi0, by omega, by have := hi2.2; omega⟩ dJx4a65c_clear_da8c8_35 (fun H locs h => ?_)
      refine lv_iinc (v := Int32.ofInt (i + 1)) (lv' := [(3, .int (Int32.ofInt (i + 1))), (2, .int (Int32.ofInt (fl σ 2 x))), (1, .ref (eda z g (fl σ 1 x)))]) C.1 C.2.1 dJx4a65c_clear_da8c8_36 hl (k := 0) rfl (c32_add _ _) (by decide) rfl (fun ls hl => ?_)
      refine lv_goto (tgt := 27) C.1 C.2.1 dJx4a65c_clear_da8c8_39 (by decide) ?_
      refine ih (i + 1) ls H locs (se τ (fl σ 1 x) i (-1)) (by omega) (by omega) ?_ h1 hl h
      rw [← hτ]
      unfold cl1
      ext
      · rfl
      · rename_i a' j
        show (if a' = fl τ 1 x ∧ i + 1 ≤ j ∧ j < fl σ 2 x then -1 else (if a' = fl σ 1 x ∧ j = i then -1 else τ.2 a' j)) = (if a' = fl τ 1 x ∧ i ≤ j ∧ j < fl σ 2 x then -1 else τ.2 a' j)
        rw [h1]
        by_cases q : a' = fl σ 1 x
        · subst q
          by_cases q2 : j = i
          · subst q2
            rw [if_neg (by omega), if_pos ⟨rfl, rfl⟩, if_pos ⟨rfl, by omega, by omega⟩]
          · by_cases q3 : i + 1 ≤ j ∧ j < fl σ 2 x
            · rw [if_pos ⟨rfl, q3.1, q3.2⟩, if_pos ⟨rfl, by omega, q3.2⟩]
            · rw [if_neg (fun w => q3 w.2), if_neg (fun w => q2 w.2), if_neg (by omega)]
        · rw [if_neg (fun w => q w.1), if_neg (fun w => q w.1), if_neg (fun w => q w.1)]
  refine z_aload_n C dJx4a65c_clear_da8c8_0 rfl (lv_at hl 0 rfl) ?_
  refine lv_dup C.1 C.2.1 dJx4a65c_clear_da8c8_1 (rfv_cat _ _) ?_
  refine lg_mod C h hO dJx4a65c_clear_da8c8_2 ?_
  refine lv_iconst (v := Int32.ofInt 1) C.1 C.2.1 dJx4a65c_clear_da8c8_5 (by decide) ?_
  refine z_iadd C dJx4a65c_clear_da8c8_6 ?_
  refine lp_mod C h hO dJx4a65c_clear_da8c8_7 (fun H locs h => ?_)
  refine z_aload_n C dJx4a65c_clear_da8c8_10 rfl (lv_at hl 0 rfl) ?_
  refine lg_ed C h hO dJx4a65c_clear_da8c8_11 ?_
  refine lv_astore_n (i := 1) (lv' := [(1, .ref (eda z g (fl σ 1 x))), (0, rfv g x)]) C.1 C.2.1 dJx4a65c_clear_da8c8_14 rfl hl (by decide) (by simp [rfv_cat, fl, sf]) (fun ls hl => ?_)
  refine z_aload_n C dJx4a65c_clear_da8c8_15 rfl (lv_at hl 1 rfl) ?_
  refine lg_size C h hO dJx4a65c_clear_da8c8_16 ?_
  refine lv_istore_n (i := 2) (lv' := [(2, .int (Int32.ofInt (fl σ 2 x))), (1, .ref (eda z g (fl σ 1 x))), (0, rfv g x)]) C.1 C.2.1 dJx4a65c_clear_da8c8_19 rfl hl (by decide) (by simp [rfv_cat, cat_r, fl, sf]) (fun ls hl => ?_)
  refine z_aload_n C dJx4a65c_clear_da8c8_20 rfl (lv_at hl 2 rfl) ?_
  refine lv_iconst (v := Int32.ofInt 0) C.1 C.2.1 dJx4a65c_clear_da8c8_21 (by decide) ?_
  refine lv_dup_x1 C.1 C.2.1 dJx4a65c_clear_da8c8_22 rfl (rfv_cat _ _) ?_
  refine lp_size C h hO dJx4a65c_clear_da8c8_23 (fun H locs h => ?_)
  refine lv_istore_n (i := 3) (lv' := [(3, .int (Int32.ofInt 0)), (2, .int (Int32.ofInt (fl σ 2 x))), (1, .ref (eda z g (fl σ 1 x))), (0, rfv g x)]) C.1 C.2.1 dJx4a65c_clear_da8c8_26 rfl hl (by decide) (by simp [rfv_cat, cat_i, cat_r]) (fun ls hl => ?_)
  refine loop (fl σ 2 x).toNat 0 ls H locs _ (by omega) (by omega) ?_ ?_ (lv_sub hl [0, 1, 2] rfl) h
  · unfold cl1 cle
    ext
    · rfl
    · rename_i a' j
      show (if a' = fl (sf (sf σ 0 x (fl σ 0 x + 1)) 2 x 0) 1 x ∧ 0 ≤ j ∧ j < fl σ 2 x then -1 else σ.2 a' j) = (if a' = fl σ 1 x ∧ 0 ≤ j ∧ j < fl σ 2 x then -1 else σ.2 a' j)
      have : fl (sf (sf σ 0 x (fl σ 0 x + 1)) 2 x 0) 1 x = fl σ 1 x := by simp [fl, sf]
      rw [this]
  · simp [fl, sf]
end LC
