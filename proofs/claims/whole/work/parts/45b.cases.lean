set_option maxHeartbeats 4000000 in
set_option maxRecDepth 100000 in
theorem ld_feed {p : Program} {l : Launch} {e : Env} {s : State} {m : MethodId} {below : List Frame} {meth : Method} {c : Code} {H : Heap} {locs : List Loc} {Q : State → Prop} {ls : Array Slot} {D : va_G} {A : Nat → Prop} {k : Nat → ClassId} {b L z mi n N K : Nat} {aK aV g g2 : Nat → Nat} {xs : Nat → Int32} {π : Sh} {σ τ : St} {R R' : Sh → St → St → Prop} (C : Cx p s m #[Value.ref b] c code RL lw_tbl D (TYs k) 4) (hX : va_X b L xs s s.heap) (hbl : b < s.heap.size) (hbA : ¬ A b) (hE : Ev z mi aK aV A s s.heap) (hL : 6 * n + 6 ≤ L) (hL2 : L < 2 ^ 31) (hK : K ≤ 2449975) (hR : R π σ τ) (hB : Bd R) (hB' : Bd R') (hl : lv_has ls 4 [(3, .int (nI (6 * n))), (2, .ref (g2 0)), (1, rfv g 0), (0, .ref b)]) (h : Hp D A s.heap H locs (cW k z g π σ ++ mW k g2 τ)) (hS : St_feed N R R') (kk : ∀ (H1 : Heap) (locs1 : List Loc) (g1 : Nat → Nat) (π1 : Sh) (σ1 τ1 : St), R' π1 σ1 τ1 → rfv g1 0 = rfv g 0 → Hp D A s.heap H1 locs1 (cW k z g1 π1 σ1 ++ mW k g2 τ1) → W p l e room_1 s m #[Value.ref b] below meth c H1 locs1 (nn π1 + 98) (sw π1 + K) Q (F0 m 674 ls [])) : W p l e room_1 s m #[Value.ref b] below meth c H locs (nn π + 98) (sw π + K) Q (F0 m 120 ls []) := by
  obtain ⟨hCl, hn1, hs1⟩ := hB π σ τ hR
  obtain ⟨σ1, τ1, v, e1, e2, hR1⟩ := hS π σ τ ((xs (6 * n + 1)).toInt) ((xs (6 * n + 2)).toInt) ((xs (6 * n + 3)).toInt) ((xs (6 * n + 4)).toInt) ((xs (6 * n + 5)).toInt) hR (i32_of _) (i32_of _) (i32_of _) (i32_of _) (i32_of _)
  refine z_aload_n C dL_law_120 rfl (lv_at hl 2 rfl) ?_
  refine lv_aload_n C.1 C.2.1 dL_law_121 rfl (lv_at hl 3 rfl) ?_
  refine lv_iload_n C.1 C.2.1 dL_law_122 rfl (lv_at hl 0 rfl) ?_
  refine lv_iconst (v := 1) C.1 C.2.1 dL_law_123 (by decide) ?_
  refine lv_iadd C.1 C.2.1 dL_law_124 ?_
  refine x_topi (y := nI (6 * n + 1)) (nI_add (6 * n) 1) ?_
  refine va_sld C.1 C.2.1 hX hbl hbA h.2.2.1 (i := nI (6 * n + 1)) (vp_in_nI (n := 6 * n + 1) (by omega) hL2) dL_law_125 ?_
  refine x_topi (y := Int32.ofInt (xs (6 * n + 1)).toInt) (xsx (congrArg xs (nI_clamp (n := 6 * n + 1) (by omega)))) ?_
  refine lv_aload_n C.1 C.2.1 dL_law_126 rfl (lv_at hl 3 rfl) ?_
  refine lv_iload_n C.1 C.2.1 dL_law_127 rfl (lv_at hl 0 rfl) ?_
  refine lv_iconst (v := 2) C.1 C.2.1 dL_law_128 (by decide) ?_
  refine lv_iadd C.1 C.2.1 dL_law_129 ?_
  refine x_topi (y := nI (6 * n + 2)) (nI_add (6 * n) 2) ?_
  refine va_sld C.1 C.2.1 hX hbl hbA h.2.2.1 (i := nI (6 * n + 2)) (vp_in_nI (n := 6 * n + 2) (by omega) hL2) dL_law_130 ?_
  refine x_topi (y := Int32.ofInt (xs (6 * n + 2)).toInt) (xsx (congrArg xs (nI_clamp (n := 6 * n + 2) (by omega)))) ?_
  refine lv_aload_n C.1 C.2.1 dL_law_131 rfl (lv_at hl 3 rfl) ?_
  refine lv_iload_n C.1 C.2.1 dL_law_132 rfl (lv_at hl 0 rfl) ?_
  refine lv_iconst (v := 3) C.1 C.2.1 dL_law_133 (by decide) ?_
  refine lv_iadd C.1 C.2.1 dL_law_134 ?_
  refine x_topi (y := nI (6 * n + 3)) (nI_add (6 * n) 3) ?_
  refine va_sld C.1 C.2.1 hX hbl hbA h.2.2.1 (i := nI (6 * n + 3)) (vp_in_nI (n := 6 * n + 3) (by omega) hL2) dL_law_135 ?_
  refine x_topi (y := Int32.ofInt (xs (6 * n + 3)).toInt) (xsx (congrArg xs (nI_clamp (n := 6 * n + 3) (by omega)))) ?_
  refine lv_aload_n C.1 C.2.1 dL_law_136 rfl (lv_at hl 3 rfl) ?_
  refine lv_iload_n C.1 C.2.1 dL_law_137 rfl (lv_at hl 0 rfl) ?_
  refine lv_iconst (v := 4) C.1 C.2.1 dL_law_138 (by decide) ?_
  refine lv_iadd C.1 C.2.1 dL_law_139 ?_
  refine x_topi (y := nI (6 * n + 4)) (nI_add (6 * n) 4) ?_
  refine va_sld C.1 C.2.1 hX hbl hbA h.2.2.1 (i := nI (6 * n + 4)) (vp_in_nI (n := 6 * n + 4) (by omega) hL2) dL_law_140 ?_
  refine x_topi (y := Int32.ofInt (xs (6 * n + 4)).toInt) (xsx (congrArg xs (nI_clamp (n := 6 * n + 4) (by omega)))) ?_
  refine lv_aload_n C.1 C.2.1 dL_law_141 rfl (lv_at hl 3 rfl) ?_
  refine lv_iload_n C.1 C.2.1 dL_law_142 rfl (lv_at hl 0 rfl) ?_
  refine lv_iconst (v := 5) C.1 C.2.1 dL_law_143 (by decide) ?_
  refine lv_iadd C.1 C.2.1 dL_law_144 ?_
  refine x_topi (y := nI (6 * n + 5)) (nI_add (6 * n) 5) ?_
  refine va_sld C.1 C.2.1 hX hbl hbA h.2.2.1 (i := nI (6 * n + 5)) (vp_in_nI (n := 6 * n + 5) (by omega) hL2) dL_law_145 ?_
  refine x_topi (y := Int32.ofInt (xs (6 * n + 5)).toInt) (xsx (congrArg xs (nI_clamp (n := 6 * n + 5) (by omega)))) ?_
  refine t_callVi C h (kc_Cs_feed l D k z mi aK aV g N hCl.1 e1) (xok_V hE h (List.range (cW k z g π σ).length) (tw_l _ _)) (va_recv C.2.2.2.2.1 h.1 (ci := 12) (q0 := 0) rfl (tw_at (cW_ob k z g σ (sh_0 hCl.1) (by decide)))) (cwV 5 C.2.2.1 (goodIn_app (gi_cons gw_1809 (gi_cons gw_1847 (gi_cons gw_1848 (gi_cons gw_1144 gi_nil)))) gh_yX11_feed) rfl rfl rfl (by decide +kernel) ⟨Nat.le_of_ble_eq_true rfl, Nat.le_of_ble_eq_true rfl⟩) rfl hl.1 rfl (Nat.le_of_ble_eq_true rfl) dL_law_146 ⟨by show _ ≤ 600000; omega, by show _ ≤ 7302250; omega⟩ (fun v0 u H locs hu h => ?_)
  subst hu
  refine lv_aload_n C.1 C.2.1 dL_law_149 rfl (lv_at hl 1 rfl) ?_
  refine lv_aload_n C.1 C.2.1 dL_law_150 rfl (lv_at hl 3 rfl) ?_
  refine lv_iload_n C.1 C.2.1 dL_law_151 rfl (lv_at hl 0 rfl) ?_
  refine lv_iconst (v := 1) C.1 C.2.1 dL_law_152 (by decide) ?_
  refine lv_iadd C.1 C.2.1 dL_law_153 ?_
  refine x_topi (y := nI (6 * n + 1)) (nI_add (6 * n) 1) ?_
  refine va_sld C.1 C.2.1 hX hbl hbA h.2.2.1 (i := nI (6 * n + 1)) (vp_in_nI (n := 6 * n + 1) (by omega) hL2) dL_law_154 ?_
  refine x_topi (y := Int32.ofInt (xs (6 * n + 1)).toInt) (xsx (congrArg xs (nI_clamp (n := 6 * n + 1) (by omega)))) ?_
  refine lv_aload_n C.1 C.2.1 dL_law_155 rfl (lv_at hl 3 rfl) ?_
  refine lv_iload_n C.1 C.2.1 dL_law_156 rfl (lv_at hl 0 rfl) ?_
  refine lv_iconst (v := 2) C.1 C.2.1 dL_law_157 (by decide) ?_
  refine lv_iadd C.1 C.2.1 dL_law_158 ?_
  refine x_topi (y := nI (6 * n + 2)) (nI_add (6 * n) 2) ?_
  refine va_sld C.1 C.2.1 hX hbl hbA h.2.2.1 (i := nI (6 * n + 2)) (vp_in_nI (n := 6 * n + 2) (by omega) hL2) dL_law_159 ?_
  refine x_topi (y := Int32.ofInt (xs (6 * n + 2)).toInt) (xsx (congrArg xs (nI_clamp (n := 6 * n + 2) (by omega)))) ?_
  refine lv_aload_n C.1 C.2.1 dL_law_160 rfl (lv_at hl 3 rfl) ?_
  refine lv_iload_n C.1 C.2.1 dL_law_161 rfl (lv_at hl 0 rfl) ?_
  refine lv_iconst (v := 3) C.1 C.2.1 dL_law_162 (by decide) ?_
  refine lv_iadd C.1 C.2.1 dL_law_163 ?_
  refine x_topi (y := nI (6 * n + 3)) (nI_add (6 * n) 3) ?_
  refine va_sld C.1 C.2.1 hX hbl hbA h.2.2.1 (i := nI (6 * n + 3)) (vp_in_nI (n := 6 * n + 3) (by omega) hL2) dL_law_164 ?_
  refine x_topi (y := Int32.ofInt (xs (6 * n + 3)).toInt) (xsx (congrArg xs (nI_clamp (n := 6 * n + 3) (by omega)))) ?_
  refine lv_aload_n C.1 C.2.1 dL_law_165 rfl (lv_at hl 3 rfl) ?_
  refine lv_iload_n C.1 C.2.1 dL_law_166 rfl (lv_at hl 0 rfl) ?_
  refine lv_iconst (v := 4) C.1 C.2.1 dL_law_167 (by decide) ?_
  refine lv_iadd C.1 C.2.1 dL_law_168 ?_
  refine x_topi (y := nI (6 * n + 4)) (nI_add (6 * n) 4) ?_
  refine va_sld C.1 C.2.1 hX hbl hbA h.2.2.1 (i := nI (6 * n + 4)) (vp_in_nI (n := 6 * n + 4) (by omega) hL2) dL_law_169 ?_
  refine x_topi (y := Int32.ofInt (xs (6 * n + 4)).toInt) (xsx (congrArg xs (nI_clamp (n := 6 * n + 4) (by omega)))) ?_
  refine lv_aload_n C.1 C.2.1 dL_law_170 rfl (lv_at hl 3 rfl) ?_
  refine lv_iload_n C.1 C.2.1 dL_law_171 rfl (lv_at hl 0 rfl) ?_
  refine lv_iconst (v := 5) C.1 C.2.1 dL_law_172 (by decide) ?_
  refine lv_iadd C.1 C.2.1 dL_law_173 ?_
  refine x_topi (y := nI (6 * n + 5)) (nI_add (6 * n) 5) ?_
  refine va_sld C.1 C.2.1 hX hbl hbA h.2.2.1 (i := nI (6 * n + 5)) (vp_in_nI (n := 6 * n + 5) (by omega) hL2) dL_law_174 ?_
  refine x_topi (y := Int32.ofInt (xs (6 * n + 5)).toInt) (xsx (congrArg xs (nI_clamp (n := 6 * n + 5) (by omega)))) ?_
  refine t_callVi C h (rc_feed l D k g2 N τ ((xs (6 * n + 1)).toInt) ((xs (6 * n + 2)).toInt) ((xs (6 * n + 3)).toInt) ((xs (6 * n + 4)).toInt) ((xs (6 * n + 5)).toInt) _ e2) xok_T (va_recv C.2.2.2.2.1 h.1 (ci := 13) (q0 := 0) rfl (tw_at (mW_0 k g2 τ))) (cwV 5 C.2.2.1 (goodIn_app (gi_cons gw_1810 (gi_cons gw_1849 (gi_cons gw_1850 (gi_cons gw_167 gi_nil)))) gh_yX12_feed) rfl rfl rfl (by decide +kernel) ⟨Nat.le_of_ble_eq_true rfl, Nat.le_of_ble_eq_true rfl⟩) rfl hl.1 rfl (Nat.le_of_ble_eq_true rfl) dL_law_175 ⟨by show _ ≤ 600000; omega, by show _ ≤ 7302250; omega⟩ (fun v0 _ H locs hu h => ?_)
  subst hu
  refine lv_icmp_eq (tgt := 674) C.1 C.2.1 dL_law_178 (by decide) (fun _ => ?_) (fun c => absurd rfl c)
  exact kk H locs g π σ1 τ1 hR1 rfl h
set_option maxHeartbeats 4000000 in
set_option maxRecDepth 100000 in
theorem ld_end {p : Program} {l : Launch} {e : Env} {s : State} {m : MethodId} {below : List Frame} {meth : Method} {c : Code} {H : Heap} {locs : List Loc} {Q : State → Prop} {ls : Array Slot} {D : va_G} {A : Nat → Prop} {k : Nat → ClassId} {b L z mi n N K : Nat} {aK aV g g2 : Nat → Nat} {xs : Nat → Int32} {π : Sh} {σ τ : St} {R R' : Sh → St → St → Prop} (C : Cx p s m #[Value.ref b] c code RL lw_tbl D (TYs k) 4) (hX : va_X b L xs s s.heap) (hbl : b < s.heap.size) (hbA : ¬ A b) (hE : Ev z mi aK aV A s s.heap) (hL : 6 * n + 6 ≤ L) (hL2 : L < 2 ^ 31) (hK : K ≤ 2449975) (hR : R π σ τ) (hB : Bd R) (hB' : Bd R') (hl : lv_has ls 4 [(3, .int (nI (6 * n))), (2, .ref (g2 0)), (1, rfv g 0), (0, .ref b)]) (h : Hp D A s.heap H locs (cW k z g π σ ++ mW k g2 τ)) (hS : St_end N R R') (kk : ∀ (H1 : Heap) (locs1 : List Loc) (g1 : Nat → Nat) (π1 : Sh) (σ1 τ1 : St), R' π1 σ1 τ1 → rfv g1 0 = rfv g 0 → Hp D A s.heap H1 locs1 (cW k z g1 π1 σ1 ++ mW k g2 τ1) → W p l e room_1 s m #[Value.ref b] below meth c H1 locs1 (nn π1 + 98) (sw π1 + K) Q (F0 m 674 ls [])) : W p l e room_1 s m #[Value.ref b] below meth c H locs (nn π + 98) (sw π + K) Q (F0 m 183 ls []) := by
  obtain ⟨hCl, hn1, hs1⟩ := hB π σ τ hR
  obtain ⟨σ1, τ1, v, e1, e2, hR1⟩ := hS π σ τ ((xs (6 * n + 1)).toInt) hR (i32_of _)
  refine z_aload_n C dL_law_183 rfl (lv_at hl 2 rfl) ?_
  refine lv_aload_n C.1 C.2.1 dL_law_184 rfl (lv_at hl 3 rfl) ?_
  refine lv_iload_n C.1 C.2.1 dL_law_185 rfl (lv_at hl 0 rfl) ?_
  refine lv_iconst (v := 1) C.1 C.2.1 dL_law_186 (by decide) ?_
  refine lv_iadd C.1 C.2.1 dL_law_187 ?_
  refine x_topi (y := nI (6 * n + 1)) (nI_add (6 * n) 1) ?_
  refine va_sld C.1 C.2.1 hX hbl hbA h.2.2.1 (i := nI (6 * n + 1)) (vp_in_nI (n := 6 * n + 1) (by omega) hL2) dL_law_188 ?_
  refine x_topi (y := Int32.ofInt (xs (6 * n + 1)).toInt) (xsx (congrArg xs (nI_clamp (n := 6 * n + 1) (by omega)))) ?_
  refine t_callVi C h (kc_Cs_end l D k z mi aK aV g N hCl.1 e1) (xok_V hE h (List.range (cW k z g π σ).length) (tw_l _ _)) (va_recv C.2.2.2.2.1 h.1 (ci := 12) (q0 := 0) rfl (tw_at (cW_ob k z g σ (sh_0 hCl.1) (by decide)))) (cwV 1 C.2.2.1 (goodIn_app (gi_cons gw_1811 (gi_cons gw_1851 (gi_cons gw_1852 (gi_cons gw_1144 gi_nil)))) gh_yX11_end) rfl rfl rfl (by decide +kernel) ⟨Nat.le_of_ble_eq_true rfl, Nat.le_of_ble_eq_true rfl⟩) rfl hl.1 rfl (Nat.le_of_ble_eq_true rfl) dL_law_189 ⟨by show _ ≤ 600000; omega, by show _ ≤ 7302250; omega⟩ (fun v0 u H locs hu h => ?_)
  subst hu
  refine lv_aload_n C.1 C.2.1 dL_law_192 rfl (lv_at hl 1 rfl) ?_
  refine lv_aload_n C.1 C.2.1 dL_law_193 rfl (lv_at hl 3 rfl) ?_
  refine lv_iload_n C.1 C.2.1 dL_law_194 rfl (lv_at hl 0 rfl) ?_
  refine lv_iconst (v := 1) C.1 C.2.1 dL_law_195 (by decide) ?_
  refine lv_iadd C.1 C.2.1 dL_law_196 ?_
  refine x_topi (y := nI (6 * n + 1)) (nI_add (6 * n) 1) ?_
  refine va_sld C.1 C.2.1 hX hbl hbA h.2.2.1 (i := nI (6 * n + 1)) (vp_in_nI (n := 6 * n + 1) (by omega) hL2) dL_law_197 ?_
  refine x_topi (y := Int32.ofInt (xs (6 * n + 1)).toInt) (xsx (congrArg xs (nI_clamp (n := 6 * n + 1) (by omega)))) ?_
  refine t_callVi C h (rc_end l D k g2 N τ ((xs (6 * n + 1)).toInt) _ e2) xok_T (va_recv C.2.2.2.2.1 h.1 (ci := 13) (q0 := 0) rfl (tw_at (mW_0 k g2 τ))) (cwV 1 C.2.2.1 (goodIn_app (gi_cons gw_1812 (gi_cons gw_1853 (gi_cons gw_1854 (gi_cons gw_167 gi_nil)))) gh_yX12_end) rfl rfl rfl (by decide +kernel) ⟨Nat.le_of_ble_eq_true rfl, Nat.le_of_ble_eq_true rfl⟩) rfl hl.1 rfl (Nat.le_of_ble_eq_true rfl) dL_law_198 ⟨by show _ ≤ 600000; omega, by show _ ≤ 7302250; omega⟩ (fun v0 _ H locs hu h => ?_)
  subst hu
  refine lv_icmp_eq (tgt := 674) C.1 C.2.1 dL_law_201 (by decide) (fun _ => ?_) (fun c => absurd rfl c)
  exact kk H locs g π σ1 τ1 hR1 rfl h
set_option maxHeartbeats 4000000 in
set_option maxRecDepth 100000 in
theorem ld_read {p : Program} {l : Launch} {e : Env} {s : State} {m : MethodId} {below : List Frame} {meth : Method} {c : Code} {H : Heap} {locs : List Loc} {Q : State → Prop} {ls : Array Slot} {D : va_G} {A : Nat → Prop} {k : Nat → ClassId} {b L z mi n N K : Nat} {aK aV g g2 : Nat → Nat} {xs : Nat → Int32} {π : Sh} {σ τ : St} {R R' : Sh → St → St → Prop} (C : Cx p s m #[Value.ref b] c code RL lw_tbl D (TYs k) 4) (hX : va_X b L xs s s.heap) (hbl : b < s.heap.size) (hbA : ¬ A b) (hE : Ev z mi aK aV A s s.heap) (hL : 6 * n + 6 ≤ L) (hL2 : L < 2 ^ 31) (hK : K ≤ 2449975) (hR : R π σ τ) (hB : Bd R) (hB' : Bd R') (hl : lv_has ls 4 [(3, .int (nI (6 * n))), (2, .ref (g2 0)), (1, rfv g 0), (0, .ref b)]) (h : Hp D A s.heap H locs (cW k z g π σ ++ mW k g2 τ)) (hS : St_read N R R') (kk : ∀ (H1 : Heap) (locs1 : List Loc) (g1 : Nat → Nat) (π1 : Sh) (σ1 τ1 : St), R' π1 σ1 τ1 → rfv g1 0 = rfv g 0 → Hp D A s.heap H1 locs1 (cW k z g1 π1 σ1 ++ mW k g2 τ1) → W p l e room_1 s m #[Value.ref b] below meth c H1 locs1 (nn π1 + 98) (sw π1 + K) Q (F0 m 674 ls [])) : W p l e room_1 s m #[Value.ref b] below meth c H locs (nn π + 98) (sw π + K) Q (F0 m 206 ls []) := by
  obtain ⟨hCl, hn1, hs1⟩ := hB π σ τ hR
  obtain ⟨π1, σ1, τ1, v, e1, e2, hR1⟩ := hS π σ τ hR 
  obtain ⟨hCl1, hn2, hs2⟩ := hB' π1 σ1 τ1 hR1
  have hq := (km_Cs_read hCl e1).1
  have hq1 : nn π ≤ nn π1 := hq.1
  have hq2 : sw π ≤ sw π1 := hq.2.1
  refine z_aload_n C dL_law_206 rfl (lv_at hl 2 rfl) ?_
  refine t_callVi C h (kc_Cs_read l D k z mi aK aV g N hCl e1) (xok_V hE h (List.range (cW k z g π σ).length) (tw_l _ _)) (va_recv C.2.2.2.2.1 h.1 (ci := 12) (q0 := 0) rfl (tw_at (cW_ob k z g σ (sh_0 hCl.1) (by decide)))) (cwV 0 C.2.2.1 (goodIn_app (gi_cons gw_1813 (gi_cons gw_1855 (gi_cons gw_1856 (gi_cons gw_1144 gi_nil)))) gh_yX11_read) rfl rfl rfl (by decide +kernel) ⟨Nat.le_of_ble_eq_true rfl, Nat.le_of_ble_eq_true rfl⟩) rfl hl.1 rfl (Nat.le_of_ble_eq_true rfl) dL_law_207 ⟨by show _ ≤ 600000; show _ + (nn π1 - nn π) ≤ _; omega, by show _ ≤ 7302250; show _ + (sw π1 - sw π) ≤ _; omega⟩ (fun v0 u H locs hu h => ?_)
  obtain ⟨hg, rfl⟩ := hu
  refine W_cast (show nn π1 + 98 = nn π + 98 + (nn π1 - nn π) by omega) (show sw π1 + K = sw π + K + (sw π1 - sw π) by omega) ?_
  refine lv_aload_n C.1 C.2.1 dL_law_210 rfl (lv_at hl 1 rfl) ?_
  refine t_callVi C h (rc_read l D k g2 N τ _ e2) xok_T (va_recv C.2.2.2.2.1 h.1 (ci := 13) (q0 := 0) rfl (tw_at (mW_0 k g2 τ))) (cwV 0 C.2.2.1 (goodIn_app (gi_cons gw_1814 (gi_cons gw_1857 (gi_cons gw_1858 (gi_cons gw_167 gi_nil)))) gh_yX12_read) rfl rfl rfl (by decide +kernel) ⟨Nat.le_of_ble_eq_true rfl, Nat.le_of_ble_eq_true rfl⟩) rfl hl.1 rfl (Nat.le_of_ble_eq_true rfl) dL_law_211 ⟨by show _ ≤ 600000; omega, by show _ ≤ 7302250; omega⟩ (fun v0 _ H locs hu h => ?_)
  subst hu
  refine lv_icmp_eq (tgt := 674) C.1 C.2.1 dL_law_214 (by decide) (fun _ => ?_) (fun c => absurd rfl c)
  exact kk H locs u π1 σ1 τ1 hR1 (gx_rfv hg (by have := hCl.1.1; omega)) h
set_option maxHeartbeats 4000000 in
set_option maxRecDepth 100000 in
theorem ld_hang {p : Program} {l : Launch} {e : Env} {s : State} {m : MethodId} {below : List Frame} {meth : Method} {c : Code} {H : Heap} {locs : List Loc} {Q : State → Prop} {ls : Array Slot} {D : va_G} {A : Nat → Prop} {k : Nat → ClassId} {b L z mi n N K : Nat} {aK aV g g2 : Nat → Nat} {xs : Nat → Int32} {π : Sh} {σ τ : St} {R R' : Sh → St → St → Prop} (C : Cx p s m #[Value.ref b] c code RL lw_tbl D (TYs k) 4) (hX : va_X b L xs s s.heap) (hbl : b < s.heap.size) (hbA : ¬ A b) (hE : Ev z mi aK aV A s s.heap) (hL : 6 * n + 6 ≤ L) (hL2 : L < 2 ^ 31) (hK : K ≤ 2449975) (hR : R π σ τ) (hB : Bd R) (hB' : Bd R') (hl : lv_has ls 4 [(3, .int (nI (6 * n))), (2, .ref (g2 0)), (1, rfv g 0), (0, .ref b)]) (h : Hp D A s.heap H locs (cW k z g π σ ++ mW k g2 τ)) (hS : St_hang N R R') (kk : ∀ (H1 : Heap) (locs1 : List Loc) (g1 : Nat → Nat) (π1 : Sh) (σ1 τ1 : St), R' π1 σ1 τ1 → rfv g1 0 = rfv g 0 → Hp D A s.heap H1 locs1 (cW k z g1 π1 σ1 ++ mW k g2 τ1) → W p l e room_1 s m #[Value.ref b] below meth c H1 locs1 (nn π1 + 98) (sw π1 + K) Q (F0 m 674 ls [])) : W p l e room_1 s m #[Value.ref b] below meth c H locs (nn π + 98) (sw π + K) Q (F0 m 219 ls []) := by
  obtain ⟨hCl, hn1, hs1⟩ := hB π σ τ hR
  obtain ⟨π1, σ1, τ1, v, e1, e2, hR1⟩ := hS π σ τ ((xs (6 * n + 1)).toInt) hR (i32_of _)
  obtain ⟨hCl1, hn2, hs2⟩ := hB' π1 σ1 τ1 hR1
  have hq := (km_Cs_hang hCl e1).1
  have hq1 : nn π ≤ nn π1 := hq.1
  have hq2 : sw π ≤ sw π1 := hq.2.1
  refine z_aload_n C dL_law_219 rfl (lv_at hl 2 rfl) ?_
  refine lv_aload_n C.1 C.2.1 dL_law_220 rfl (lv_at hl 3 rfl) ?_
  refine lv_iload_n C.1 C.2.1 dL_law_221 rfl (lv_at hl 0 rfl) ?_
  refine lv_iconst (v := 1) C.1 C.2.1 dL_law_222 (by decide) ?_
  refine lv_iadd C.1 C.2.1 dL_law_223 ?_
  refine x_topi (y := nI (6 * n + 1)) (nI_add (6 * n) 1) ?_
  refine va_sld C.1 C.2.1 hX hbl hbA h.2.2.1 (i := nI (6 * n + 1)) (vp_in_nI (n := 6 * n + 1) (by omega) hL2) dL_law_224 ?_
  refine x_topi (y := Int32.ofInt (xs (6 * n + 1)).toInt) (xsx (congrArg xs (nI_clamp (n := 6 * n + 1) (by omega)))) ?_
  refine t_callVi C h (kc_Cs_hang l D k z mi aK aV g N hCl e1) (xok_V hE h (List.range (cW k z g π σ).length) (tw_l _ _)) (va_recv C.2.2.2.2.1 h.1 (ci := 12) (q0 := 0) rfl (tw_at (cW_ob k z g σ (sh_0 hCl.1) (by decide)))) (cwV 1 C.2.2.1 (goodIn_app (gi_cons gw_1815 (gi_cons gw_1859 (gi_cons gw_1860 (gi_cons gw_1144 gi_nil)))) gh_yX11_hang) rfl rfl rfl (by decide +kernel) ⟨Nat.le_of_ble_eq_true rfl, Nat.le_of_ble_eq_true rfl⟩) rfl hl.1 rfl (Nat.le_of_ble_eq_true rfl) dL_law_225 ⟨by show _ ≤ 600000; show _ + (nn π1 - nn π) ≤ _; omega, by show _ ≤ 7302250; show _ + (sw π1 - sw π) ≤ _; omega⟩ (fun v0 u H locs hu h => ?_)
  obtain ⟨hg, rfl⟩ := hu
  refine W_cast (show nn π1 + 98 = nn π + 98 + (nn π1 - nn π) by omega) (show sw π1 + K = sw π + K + (sw π1 - sw π) by omega) ?_
  refine lv_aload_n C.1 C.2.1 dL_law_228 rfl (lv_at hl 1 rfl) ?_
  refine lv_aload_n C.1 C.2.1 dL_law_229 rfl (lv_at hl 3 rfl) ?_
  refine lv_iload_n C.1 C.2.1 dL_law_230 rfl (lv_at hl 0 rfl) ?_
  refine lv_iconst (v := 1) C.1 C.2.1 dL_law_231 (by decide) ?_
  refine lv_iadd C.1 C.2.1 dL_law_232 ?_
  refine x_topi (y := nI (6 * n + 1)) (nI_add (6 * n) 1) ?_
  refine va_sld C.1 C.2.1 hX hbl hbA h.2.2.1 (i := nI (6 * n + 1)) (vp_in_nI (n := 6 * n + 1) (by omega) hL2) dL_law_233 ?_
  refine x_topi (y := Int32.ofInt (xs (6 * n + 1)).toInt) (xsx (congrArg xs (nI_clamp (n := 6 * n + 1) (by omega)))) ?_
  refine t_callVi C h (rc_hang l D k g2 N τ ((xs (6 * n + 1)).toInt) _ e2) xok_T (va_recv C.2.2.2.2.1 h.1 (ci := 13) (q0 := 0) rfl (tw_at (mW_0 k g2 τ))) (cwV 1 C.2.2.1 (goodIn_app (gi_cons gw_1816 (gi_cons gw_1861 (gi_cons gw_1862 (gi_cons gw_167 gi_nil)))) gh_yX12_hang) rfl rfl rfl (by decide +kernel) ⟨Nat.le_of_ble_eq_true rfl, Nat.le_of_ble_eq_true rfl⟩) rfl hl.1 rfl (Nat.le_of_ble_eq_true rfl) dL_law_234 ⟨by show _ ≤ 600000; omega, by show _ ≤ 7302250; omega⟩ (fun v0 _ H locs hu h => ?_)
  subst hu
  refine lv_icmp_eq (tgt := 674) C.1 C.2.1 dL_law_237 (by decide) (fun _ => ?_) (fun c => absurd rfl c)
  exact kk H locs u π1 σ1 τ1 hR1 (gx_rfv hg (by have := hCl.1.1; omega)) h
set_option maxHeartbeats 4000000 in
set_option maxRecDepth 100000 in
theorem ld_hush {p : Program} {l : Launch} {e : Env} {s : State} {m : MethodId} {below : List Frame} {meth : Method} {c : Code} {H : Heap} {locs : List Loc} {Q : State → Prop} {ls : Array Slot} {D : va_G} {A : Nat → Prop} {k : Nat → ClassId} {b L z mi n N K : Nat} {aK aV g g2 : Nat → Nat} {xs : Nat → Int32} {π : Sh} {σ τ : St} {R R' : Sh → St → St → Prop} (C : Cx p s m #[Value.ref b] c code RL lw_tbl D (TYs k) 4) (hX : va_X b L xs s s.heap) (hbl : b < s.heap.size) (hbA : ¬ A b) (hE : Ev z mi aK aV A s s.heap) (hL : 6 * n + 6 ≤ L) (hL2 : L < 2 ^ 31) (hK : K ≤ 2449975) (hR : R π σ τ) (hB : Bd R) (hB' : Bd R') (hl : lv_has ls 4 [(3, .int (nI (6 * n))), (2, .ref (g2 0)), (1, rfv g 0), (0, .ref b)]) (h : Hp D A s.heap H locs (cW k z g π σ ++ mW k g2 τ)) (hS : St_hush N R R') (kk : ∀ (H1 : Heap) (locs1 : List Loc) (g1 : Nat → Nat) (π1 : Sh) (σ1 τ1 : St), R' π1 σ1 τ1 → rfv g1 0 = rfv g 0 → Hp D A s.heap H1 locs1 (cW k z g1 π1 σ1 ++ mW k g2 τ1) → W p l e room_1 s m #[Value.ref b] below meth c H1 locs1 (nn π1 + 98) (sw π1 + K) Q (F0 m 674 ls [])) : W p l e room_1 s m #[Value.ref b] below meth c H locs (nn π + 98) (sw π + K) Q (F0 m 242 ls []) := by
  obtain ⟨hCl, hn1, hs1⟩ := hB π σ τ hR
  obtain ⟨σ1, τ1, v, e1, e2, hR1⟩ := hS π σ τ ((xs (6 * n + 1)).toInt) hR (i32_of _)
  refine z_aload_n C dL_law_242 rfl (lv_at hl 2 rfl) ?_
  refine lv_aload_n C.1 C.2.1 dL_law_243 rfl (lv_at hl 3 rfl) ?_
  refine lv_iload_n C.1 C.2.1 dL_law_244 rfl (lv_at hl 0 rfl) ?_
  refine lv_iconst (v := 1) C.1 C.2.1 dL_law_245 (by decide) ?_
  refine lv_iadd C.1 C.2.1 dL_law_246 ?_
  refine x_topi (y := nI (6 * n + 1)) (nI_add (6 * n) 1) ?_
  refine va_sld C.1 C.2.1 hX hbl hbA h.2.2.1 (i := nI (6 * n + 1)) (vp_in_nI (n := 6 * n + 1) (by omega) hL2) dL_law_247 ?_
  refine x_topi (y := Int32.ofInt (xs (6 * n + 1)).toInt) (xsx (congrArg xs (nI_clamp (n := 6 * n + 1) (by omega)))) ?_
  refine t_callVi C h (kc_Cs_hush l D k z mi aK aV g N hCl.1 e1) (xok_V hE h (List.range (cW k z g π σ).length) (tw_l _ _)) (va_recv C.2.2.2.2.1 h.1 (ci := 12) (q0 := 0) rfl (tw_at (cW_ob k z g σ (sh_0 hCl.1) (by decide)))) (cwV 1 C.2.2.1 (goodIn_app (gi_cons gw_1817 (gi_cons gw_1863 (gi_cons gw_1864 (gi_cons gw_1144 gi_nil)))) gh_yX11_hush) rfl rfl rfl (by decide +kernel) ⟨Nat.le_of_ble_eq_true rfl, Nat.le_of_ble_eq_true rfl⟩) rfl hl.1 rfl (Nat.le_of_ble_eq_true rfl) dL_law_248 ⟨by show _ ≤ 600000; omega, by show _ ≤ 7302250; omega⟩ (fun v0 u H locs hu h => ?_)
  subst hu
  refine lv_aload_n C.1 C.2.1 dL_law_251 rfl (lv_at hl 1 rfl) ?_
  refine lv_aload_n C.1 C.2.1 dL_law_252 rfl (lv_at hl 3 rfl) ?_
  refine lv_iload_n C.1 C.2.1 dL_law_253 rfl (lv_at hl 0 rfl) ?_
  refine lv_iconst (v := 1) C.1 C.2.1 dL_law_254 (by decide) ?_
  refine lv_iadd C.1 C.2.1 dL_law_255 ?_
  refine x_topi (y := nI (6 * n + 1)) (nI_add (6 * n) 1) ?_
  refine va_sld C.1 C.2.1 hX hbl hbA h.2.2.1 (i := nI (6 * n + 1)) (vp_in_nI (n := 6 * n + 1) (by omega) hL2) dL_law_256 ?_
  refine x_topi (y := Int32.ofInt (xs (6 * n + 1)).toInt) (xsx (congrArg xs (nI_clamp (n := 6 * n + 1) (by omega)))) ?_
  refine t_callVi C h (rc_hush l D k g2 N τ ((xs (6 * n + 1)).toInt) _ e2) xok_T (va_recv C.2.2.2.2.1 h.1 (ci := 13) (q0 := 0) rfl (tw_at (mW_0 k g2 τ))) (cwV 1 C.2.2.1 (goodIn_app (gi_cons gw_1818 (gi_cons gw_1865 (gi_cons gw_1866 (gi_cons gw_167 gi_nil)))) gh_yX12_hush) rfl rfl rfl (by decide +kernel) ⟨Nat.le_of_ble_eq_true rfl, Nat.le_of_ble_eq_true rfl⟩) rfl hl.1 rfl (Nat.le_of_ble_eq_true rfl) dL_law_257 ⟨by show _ ≤ 600000; omega, by show _ ≤ 7302250; omega⟩ (fun v0 _ H locs hu h => ?_)
  subst hu
  refine lv_icmp_eq (tgt := 674) C.1 C.2.1 dL_law_260 (by decide) (fun _ => ?_) (fun c => absurd rfl c)
  exact kk H locs g π σ1 τ1 hR1 rfl h
set_option maxHeartbeats 4000000 in
set_option maxRecDepth 100000 in
theorem ld_told {p : Program} {l : Launch} {e : Env} {s : State} {m : MethodId} {below : List Frame} {meth : Method} {c : Code} {H : Heap} {locs : List Loc} {Q : State → Prop} {ls : Array Slot} {D : va_G} {A : Nat → Prop} {k : Nat → ClassId} {b L z mi n N K : Nat} {aK aV g g2 : Nat → Nat} {xs : Nat → Int32} {π : Sh} {σ τ : St} {R R' : Sh → St → St → Prop} (C : Cx p s m #[Value.ref b] c code RL lw_tbl D (TYs k) 4) (hX : va_X b L xs s s.heap) (hbl : b < s.heap.size) (hbA : ¬ A b) (hE : Ev z mi aK aV A s s.heap) (hL : 6 * n + 6 ≤ L) (hL2 : L < 2 ^ 31) (hK : K ≤ 2449975) (hR : R π σ τ) (hB : Bd R) (hB' : Bd R') (hl : lv_has ls 4 [(3, .int (nI (6 * n))), (2, .ref (g2 0)), (1, rfv g 0), (0, .ref b)]) (h : Hp D A s.heap H locs (cW k z g π σ ++ mW k g2 τ)) (hS : St_told N R R') (kk : ∀ (H1 : Heap) (locs1 : List Loc) (g1 : Nat → Nat) (π1 : Sh) (σ1 τ1 : St), R' π1 σ1 τ1 → rfv g1 0 = rfv g 0 → Hp D A s.heap H1 locs1 (cW k z g1 π1 σ1 ++ mW k g2 τ1) → W p l e room_1 s m #[Value.ref b] below meth c H1 locs1 (nn π1 + 98) (sw π1 + K) Q (F0 m 674 ls [])) : W p l e room_1 s m #[Value.ref b] below meth c H locs (nn π + 98) (sw π + K) Q (F0 m 265 ls []) := by
  obtain ⟨hCl, hn1, hs1⟩ := hB π σ τ hR
  obtain ⟨σ1, τ1, v, e1, e2, hR1⟩ := hS π σ τ ((xs (6 * n + 1)).toInt) hR (i32_of _)
  refine z_aload_n C dL_law_265 rfl (lv_at hl 2 rfl) ?_
  refine lv_aload_n C.1 C.2.1 dL_law_266 rfl (lv_at hl 3 rfl) ?_
  refine lv_iload_n C.1 C.2.1 dL_law_267 rfl (lv_at hl 0 rfl) ?_
  refine lv_iconst (v := 1) C.1 C.2.1 dL_law_268 (by decide) ?_
  refine lv_iadd C.1 C.2.1 dL_law_269 ?_
  refine x_topi (y := nI (6 * n + 1)) (nI_add (6 * n) 1) ?_
  refine va_sld C.1 C.2.1 hX hbl hbA h.2.2.1 (i := nI (6 * n + 1)) (vp_in_nI (n := 6 * n + 1) (by omega) hL2) dL_law_270 ?_
  refine x_topi (y := Int32.ofInt (xs (6 * n + 1)).toInt) (xsx (congrArg xs (nI_clamp (n := 6 * n + 1) (by omega)))) ?_
  refine t_callVi C h (kc_Cs_told l D k z mi aK aV g N hCl.1 e1) (xok_V hE h (List.range (cW k z g π σ).length) (tw_l _ _)) (va_recv C.2.2.2.2.1 h.1 (ci := 12) (q0 := 0) rfl (tw_at (cW_ob k z g σ (sh_0 hCl.1) (by decide)))) (cwV 1 C.2.2.1 (goodIn_app (gi_cons gw_1819 (gi_cons gw_1867 (gi_cons gw_1868 (gi_cons gw_1144 gi_nil)))) gh_yX11_told) rfl rfl rfl (by decide +kernel) ⟨Nat.le_of_ble_eq_true rfl, Nat.le_of_ble_eq_true rfl⟩) rfl hl.1 rfl (Nat.le_of_ble_eq_true rfl) dL_law_271 ⟨by show _ ≤ 600000; omega, by show _ ≤ 7302250; omega⟩ (fun v0 u H locs hu h => ?_)
  subst hu
  refine lv_aload_n C.1 C.2.1 dL_law_274 rfl (lv_at hl 1 rfl) ?_
  refine lv_aload_n C.1 C.2.1 dL_law_275 rfl (lv_at hl 3 rfl) ?_
  refine lv_iload_n C.1 C.2.1 dL_law_276 rfl (lv_at hl 0 rfl) ?_
  refine lv_iconst (v := 1) C.1 C.2.1 dL_law_277 (by decide) ?_
  refine lv_iadd C.1 C.2.1 dL_law_278 ?_
  refine x_topi (y := nI (6 * n + 1)) (nI_add (6 * n) 1) ?_
  refine va_sld C.1 C.2.1 hX hbl hbA h.2.2.1 (i := nI (6 * n + 1)) (vp_in_nI (n := 6 * n + 1) (by omega) hL2) dL_law_279 ?_
  refine x_topi (y := Int32.ofInt (xs (6 * n + 1)).toInt) (xsx (congrArg xs (nI_clamp (n := 6 * n + 1) (by omega)))) ?_
  refine t_callVi C h (rc_told l D k g2 N τ ((xs (6 * n + 1)).toInt) _ e2) xok_T (va_recv C.2.2.2.2.1 h.1 (ci := 13) (q0 := 0) rfl (tw_at (mW_0 k g2 τ))) (cwV 1 C.2.2.1 (goodIn_app (gi_cons gw_1820 (gi_cons gw_1869 (gi_cons gw_1870 (gi_cons gw_167 gi_nil)))) gh_yX12_told) rfl rfl rfl (by decide +kernel) ⟨Nat.le_of_ble_eq_true rfl, Nat.le_of_ble_eq_true rfl⟩) rfl hl.1 rfl (Nat.le_of_ble_eq_true rfl) dL_law_280 ⟨by show _ ≤ 600000; omega, by show _ ≤ 7302250; omega⟩ (fun v0 _ H locs hu h => ?_)
  subst hu
  refine lv_icmp_eq (tgt := 674) C.1 C.2.1 dL_law_283 (by decide) (fun _ => ?_) (fun c => absurd rfl c)
  exact kk H locs g π σ1 τ1 hR1 rfl h
set_option maxHeartbeats 4000000 in
set_option maxRecDepth 100000 in
theorem ld_bound {p : Program} {l : Launch} {e : Env} {s : State} {m : MethodId} {below : List Frame} {meth : Method} {c : Code} {H : Heap} {locs : List Loc} {Q : State → Prop} {ls : Array Slot} {D : va_G} {A : Nat → Prop} {k : Nat → ClassId} {b L z mi n N K : Nat} {aK aV g g2 : Nat → Nat} {xs : Nat → Int32} {π : Sh} {σ τ : St} {R R' : Sh → St → St → Prop} (C : Cx p s m #[Value.ref b] c code RL lw_tbl D (TYs k) 4) (hX : va_X b L xs s s.heap) (hbl : b < s.heap.size) (hbA : ¬ A b) (hE : Ev z mi aK aV A s s.heap) (hL : 6 * n + 6 ≤ L) (hL2 : L < 2 ^ 31) (hK : K ≤ 2449975) (hR : R π σ τ) (hB : Bd R) (hB' : Bd R') (hl : lv_has ls 4 [(3, .int (nI (6 * n))), (2, .ref (g2 0)), (1, rfv g 0), (0, .ref b)]) (h : Hp D A s.heap H locs (cW k z g π σ ++ mW k g2 τ)) (hS : St_bound N R R') (kk : ∀ (H1 : Heap) (locs1 : List Loc) (g1 : Nat → Nat) (π1 : Sh) (σ1 τ1 : St), R' π1 σ1 τ1 → rfv g1 0 = rfv g 0 → Hp D A s.heap H1 locs1 (cW k z g1 π1 σ1 ++ mW k g2 τ1) → W p l e room_1 s m #[Value.ref b] below meth c H1 locs1 (nn π1 + 98) (sw π1 + K) Q (F0 m 674 ls [])) : W p l e room_1 s m #[Value.ref b] below meth c H locs (nn π + 98) (sw π + K) Q (F0 m 288 ls []) := by
  obtain ⟨hCl, hn1, hs1⟩ := hB π σ τ hR
  obtain ⟨σ1, τ1, v, e1, e2, hR1⟩ := hS π σ τ ((xs (6 * n + 1)).toInt) ((xs (6 * n + 2)).toInt) hR (i32_of _) (i32_of _)
  refine z_aload_n C dL_law_288 rfl (lv_at hl 2 rfl) ?_
  refine lv_aload_n C.1 C.2.1 dL_law_289 rfl (lv_at hl 3 rfl) ?_
  refine lv_iload_n C.1 C.2.1 dL_law_290 rfl (lv_at hl 0 rfl) ?_
  refine lv_iconst (v := 1) C.1 C.2.1 dL_law_291 (by decide) ?_
  refine lv_iadd C.1 C.2.1 dL_law_292 ?_
  refine x_topi (y := nI (6 * n + 1)) (nI_add (6 * n) 1) ?_
  refine va_sld C.1 C.2.1 hX hbl hbA h.2.2.1 (i := nI (6 * n + 1)) (vp_in_nI (n := 6 * n + 1) (by omega) hL2) dL_law_293 ?_
  refine x_topi (y := Int32.ofInt (xs (6 * n + 1)).toInt) (xsx (congrArg xs (nI_clamp (n := 6 * n + 1) (by omega)))) ?_
  refine lv_aload_n C.1 C.2.1 dL_law_294 rfl (lv_at hl 3 rfl) ?_
  refine lv_iload_n C.1 C.2.1 dL_law_295 rfl (lv_at hl 0 rfl) ?_
  refine lv_iconst (v := 2) C.1 C.2.1 dL_law_296 (by decide) ?_
  refine lv_iadd C.1 C.2.1 dL_law_297 ?_
  refine x_topi (y := nI (6 * n + 2)) (nI_add (6 * n) 2) ?_
  refine va_sld C.1 C.2.1 hX hbl hbA h.2.2.1 (i := nI (6 * n + 2)) (vp_in_nI (n := 6 * n + 2) (by omega) hL2) dL_law_298 ?_
  refine x_topi (y := Int32.ofInt (xs (6 * n + 2)).toInt) (xsx (congrArg xs (nI_clamp (n := 6 * n + 2) (by omega)))) ?_
  refine t_callVi C h (kc_Cs_bound l D k z mi aK aV g N hCl.1 e1) (xok_V hE h (List.range (cW k z g π σ).length) (tw_l _ _)) (va_recv C.2.2.2.2.1 h.1 (ci := 12) (q0 := 0) rfl (tw_at (cW_ob k z g σ (sh_0 hCl.1) (by decide)))) (cwV 2 C.2.2.1 (goodIn_app (gi_cons gw_1821 (gi_cons gw_1871 (gi_cons gw_1872 (gi_cons gw_1144 gi_nil)))) gh_yX11_bound) rfl rfl rfl (by decide +kernel) ⟨Nat.le_of_ble_eq_true rfl, Nat.le_of_ble_eq_true rfl⟩) rfl hl.1 rfl (Nat.le_of_ble_eq_true rfl) dL_law_299 ⟨by show _ ≤ 600000; omega, by show _ ≤ 7302250; omega⟩ (fun v0 u H locs hu h => ?_)
  subst hu
  refine lv_aload_n C.1 C.2.1 dL_law_302 rfl (lv_at hl 1 rfl) ?_
  refine lv_aload_n C.1 C.2.1 dL_law_303 rfl (lv_at hl 3 rfl) ?_
  refine lv_iload_n C.1 C.2.1 dL_law_304 rfl (lv_at hl 0 rfl) ?_
  refine lv_iconst (v := 1) C.1 C.2.1 dL_law_305 (by decide) ?_
  refine lv_iadd C.1 C.2.1 dL_law_306 ?_
  refine x_topi (y := nI (6 * n + 1)) (nI_add (6 * n) 1) ?_
  refine va_sld C.1 C.2.1 hX hbl hbA h.2.2.1 (i := nI (6 * n + 1)) (vp_in_nI (n := 6 * n + 1) (by omega) hL2) dL_law_307 ?_
  refine x_topi (y := Int32.ofInt (xs (6 * n + 1)).toInt) (xsx (congrArg xs (nI_clamp (n := 6 * n + 1) (by omega)))) ?_
  refine lv_aload_n C.1 C.2.1 dL_law_308 rfl (lv_at hl 3 rfl) ?_
  refine lv_iload_n C.1 C.2.1 dL_law_309 rfl (lv_at hl 0 rfl) ?_
  refine lv_iconst (v := 2) C.1 C.2.1 dL_law_310 (by decide) ?_
  refine lv_iadd C.1 C.2.1 dL_law_311 ?_
  refine x_topi (y := nI (6 * n + 2)) (nI_add (6 * n) 2) ?_
  refine va_sld C.1 C.2.1 hX hbl hbA h.2.2.1 (i := nI (6 * n + 2)) (vp_in_nI (n := 6 * n + 2) (by omega) hL2) dL_law_312 ?_
  refine x_topi (y := Int32.ofInt (xs (6 * n + 2)).toInt) (xsx (congrArg xs (nI_clamp (n := 6 * n + 2) (by omega)))) ?_
  refine t_callVi C h (rc_bound l D k g2 N τ ((xs (6 * n + 1)).toInt) ((xs (6 * n + 2)).toInt) _ e2) xok_T (va_recv C.2.2.2.2.1 h.1 (ci := 13) (q0 := 0) rfl (tw_at (mW_0 k g2 τ))) (cwV 2 C.2.2.1 (goodIn_app (gi_cons gw_1822 (gi_cons gw_1873 (gi_cons gw_1874 (gi_cons gw_167 gi_nil)))) gh_yX12_bound) rfl rfl rfl (by decide +kernel) ⟨Nat.le_of_ble_eq_true rfl, Nat.le_of_ble_eq_true rfl⟩) rfl hl.1 rfl (Nat.le_of_ble_eq_true rfl) dL_law_313 ⟨by show _ ≤ 600000; omega, by show _ ≤ 7302250; omega⟩ (fun v0 _ H locs hu h => ?_)
  subst hu
  refine lv_icmp_eq (tgt := 674) C.1 C.2.1 dL_law_316 (by decide) (fun _ => ?_) (fun c => absurd rfl c)
  exact kk H locs g π σ1 τ1 hR1 rfl h
set_option maxHeartbeats 4000000 in
set_option maxRecDepth 100000 in
theorem ld_ask {p : Program} {l : Launch} {e : Env} {s : State} {m : MethodId} {below : List Frame} {meth : Method} {c : Code} {H : Heap} {locs : List Loc} {Q : State → Prop} {ls : Array Slot} {D : va_G} {A : Nat → Prop} {k : Nat → ClassId} {b L z mi n N K : Nat} {aK aV g g2 : Nat → Nat} {xs : Nat → Int32} {π : Sh} {σ τ : St} {R R' : Sh → St → St → Prop} (C : Cx p s m #[Value.ref b] c code RL lw_tbl D (TYs k) 4) (hX : va_X b L xs s s.heap) (hbl : b < s.heap.size) (hbA : ¬ A b) (hE : Ev z mi aK aV A s s.heap) (hL : 6 * n + 6 ≤ L) (hL2 : L < 2 ^ 31) (hK : K ≤ 2449975) (hR : R π σ τ) (hB : Bd R) (hB' : Bd R') (hl : lv_has ls 4 [(3, .int (nI (6 * n))), (2, .ref (g2 0)), (1, rfv g 0), (0, .ref b)]) (h : Hp D A s.heap H locs (cW k z g π σ ++ mW k g2 τ)) (hS : St_ask N R R') (kk : ∀ (H1 : Heap) (locs1 : List Loc) (g1 : Nat → Nat) (π1 : Sh) (σ1 τ1 : St), R' π1 σ1 τ1 → rfv g1 0 = rfv g 0 → Hp D A s.heap H1 locs1 (cW k z g1 π1 σ1 ++ mW k g2 τ1) → W p l e room_1 s m #[Value.ref b] below meth c H1 locs1 (nn π1 + 98) (sw π1 + K) Q (F0 m 674 ls [])) : W p l e room_1 s m #[Value.ref b] below meth c H locs (nn π + 98) (sw π + K) Q (F0 m 321 ls []) := by
  obtain ⟨hCl, hn1, hs1⟩ := hB π σ τ hR
  obtain ⟨σ1, τ1, v, e1, e2, hR1⟩ := hS π σ τ ((xs (6 * n + 1)).toInt) ((xs (6 * n + 2)).toInt) hR (i32_of _) (i32_of _)
  refine z_aload_n C dL_law_321 rfl (lv_at hl 2 rfl) ?_
  refine lv_aload_n C.1 C.2.1 dL_law_322 rfl (lv_at hl 3 rfl) ?_
  refine lv_iload_n C.1 C.2.1 dL_law_323 rfl (lv_at hl 0 rfl) ?_
  refine lv_iconst (v := 1) C.1 C.2.1 dL_law_324 (by decide) ?_
  refine lv_iadd C.1 C.2.1 dL_law_325 ?_
  refine x_topi (y := nI (6 * n + 1)) (nI_add (6 * n) 1) ?_
  refine va_sld C.1 C.2.1 hX hbl hbA h.2.2.1 (i := nI (6 * n + 1)) (vp_in_nI (n := 6 * n + 1) (by omega) hL2) dL_law_326 ?_
  refine x_topi (y := Int32.ofInt (xs (6 * n + 1)).toInt) (xsx (congrArg xs (nI_clamp (n := 6 * n + 1) (by omega)))) ?_
  refine lv_aload_n C.1 C.2.1 dL_law_327 rfl (lv_at hl 3 rfl) ?_
  refine lv_iload_n C.1 C.2.1 dL_law_328 rfl (lv_at hl 0 rfl) ?_
  refine lv_iconst (v := 2) C.1 C.2.1 dL_law_329 (by decide) ?_
  refine lv_iadd C.1 C.2.1 dL_law_330 ?_
  refine x_topi (y := nI (6 * n + 2)) (nI_add (6 * n) 2) ?_
  refine va_sld C.1 C.2.1 hX hbl hbA h.2.2.1 (i := nI (6 * n + 2)) (vp_in_nI (n := 6 * n + 2) (by omega) hL2) dL_law_331 ?_
  refine x_topi (y := Int32.ofInt (xs (6 * n + 2)).toInt) (xsx (congrArg xs (nI_clamp (n := 6 * n + 2) (by omega)))) ?_
  refine t_callVi C h (kc_Cs_ask l D k z mi aK aV g N hCl.1 e1) (xok_V hE h (List.range (cW k z g π σ).length) (tw_l _ _)) (va_recv C.2.2.2.2.1 h.1 (ci := 12) (q0 := 0) rfl (tw_at (cW_ob k z g σ (sh_0 hCl.1) (by decide)))) (cwV 2 C.2.2.1 (goodIn_app (gi_cons gw_1823 (gi_cons gw_1875 (gi_cons gw_1876 (gi_cons gw_1144 gi_nil)))) gh_yX11_ask) rfl rfl rfl (by decide +kernel) ⟨Nat.le_of_ble_eq_true rfl, Nat.le_of_ble_eq_true rfl⟩) rfl hl.1 rfl (Nat.le_of_ble_eq_true rfl) dL_law_332 ⟨by show _ ≤ 600000; omega, by show _ ≤ 7302250; omega⟩ (fun v0 u H locs hu h => ?_)
  subst hu
  refine lv_aload_n C.1 C.2.1 dL_law_335 rfl (lv_at hl 1 rfl) ?_
  refine lv_aload_n C.1 C.2.1 dL_law_336 rfl (lv_at hl 3 rfl) ?_
  refine lv_iload_n C.1 C.2.1 dL_law_337 rfl (lv_at hl 0 rfl) ?_
  refine lv_iconst (v := 1) C.1 C.2.1 dL_law_338 (by decide) ?_
  refine lv_iadd C.1 C.2.1 dL_law_339 ?_
  refine x_topi (y := nI (6 * n + 1)) (nI_add (6 * n) 1) ?_
  refine va_sld C.1 C.2.1 hX hbl hbA h.2.2.1 (i := nI (6 * n + 1)) (vp_in_nI (n := 6 * n + 1) (by omega) hL2) dL_law_340 ?_
  refine x_topi (y := Int32.ofInt (xs (6 * n + 1)).toInt) (xsx (congrArg xs (nI_clamp (n := 6 * n + 1) (by omega)))) ?_
  refine lv_aload_n C.1 C.2.1 dL_law_341 rfl (lv_at hl 3 rfl) ?_
  refine lv_iload_n C.1 C.2.1 dL_law_342 rfl (lv_at hl 0 rfl) ?_
  refine lv_iconst (v := 2) C.1 C.2.1 dL_law_343 (by decide) ?_
  refine lv_iadd C.1 C.2.1 dL_law_344 ?_
  refine x_topi (y := nI (6 * n + 2)) (nI_add (6 * n) 2) ?_
  refine va_sld C.1 C.2.1 hX hbl hbA h.2.2.1 (i := nI (6 * n + 2)) (vp_in_nI (n := 6 * n + 2) (by omega) hL2) dL_law_345 ?_
  refine x_topi (y := Int32.ofInt (xs (6 * n + 2)).toInt) (xsx (congrArg xs (nI_clamp (n := 6 * n + 2) (by omega)))) ?_
  refine t_callVi C h (rc_ask l D k g2 N τ ((xs (6 * n + 1)).toInt) ((xs (6 * n + 2)).toInt) _ e2) xok_T (va_recv C.2.2.2.2.1 h.1 (ci := 13) (q0 := 0) rfl (tw_at (mW_0 k g2 τ))) (cwV 2 C.2.2.1 (goodIn_app (gi_cons gw_1824 (gi_cons gw_1877 (gi_cons gw_1878 (gi_cons gw_167 gi_nil)))) gh_yX12_ask) rfl rfl rfl (by decide +kernel) ⟨Nat.le_of_ble_eq_true rfl, Nat.le_of_ble_eq_true rfl⟩) rfl hl.1 rfl (Nat.le_of_ble_eq_true rfl) dL_law_346 ⟨by show _ ≤ 600000; omega, by show _ ≤ 7302250; omega⟩ (fun v0 _ H locs hu h => ?_)
  subst hu
  refine lv_icmp_eq (tgt := 674) C.1 C.2.1 dL_law_349 (by decide) (fun _ => ?_) (fun c => absurd rfl c)
  exact kk H locs g π σ1 τ1 hR1 rfl h
set_option maxHeartbeats 4000000 in
set_option maxRecDepth 100000 in
theorem ld_event {p : Program} {l : Launch} {e : Env} {s : State} {m : MethodId} {below : List Frame} {meth : Method} {c : Code} {H : Heap} {locs : List Loc} {Q : State → Prop} {ls : Array Slot} {D : va_G} {A : Nat → Prop} {k : Nat → ClassId} {b L z mi n N K : Nat} {aK aV g g2 : Nat → Nat} {xs : Nat → Int32} {π : Sh} {σ τ : St} {R R' : Sh → St → St → Prop} (C : Cx p s m #[Value.ref b] c code RL lw_tbl D (TYs k) 4) (hX : va_X b L xs s s.heap) (hbl : b < s.heap.size) (hbA : ¬ A b) (hE : Ev z mi aK aV A s s.heap) (hL : 6 * n + 6 ≤ L) (hL2 : L < 2 ^ 31) (hK : K ≤ 2449975) (hR : R π σ τ) (hB : Bd R) (hB' : Bd R') (hl : lv_has ls 4 [(3, .int (nI (6 * n))), (2, .ref (g2 0)), (1, rfv g 0), (0, .ref b)]) (h : Hp D A s.heap H locs (cW k z g π σ ++ mW k g2 τ)) (hS : St_event N R R') (kk : ∀ (H1 : Heap) (locs1 : List Loc) (g1 : Nat → Nat) (π1 : Sh) (σ1 τ1 : St), R' π1 σ1 τ1 → rfv g1 0 = rfv g 0 → Hp D A s.heap H1 locs1 (cW k z g1 π1 σ1 ++ mW k g2 τ1) → W p l e room_1 s m #[Value.ref b] below meth c H1 locs1 (nn π1 + 98) (sw π1 + K) Q (F0 m 674 ls [])) : W p l e room_1 s m #[Value.ref b] below meth c H locs (nn π + 98) (sw π + K) Q (F0 m 354 ls []) := by
  obtain ⟨hCl, hn1, hs1⟩ := hB π σ τ hR
  obtain ⟨σ1, τ1, v, e1, e2, hR1⟩ := hS π σ τ ((xs (6 * n + 1)).toInt) ((xs (6 * n + 2)).toInt) hR (i32_of _) (i32_of _)
  refine z_aload_n C dL_law_354 rfl (lv_at hl 2 rfl) ?_
  refine lv_aload_n C.1 C.2.1 dL_law_355 rfl (lv_at hl 3 rfl) ?_
  refine lv_iload_n C.1 C.2.1 dL_law_356 rfl (lv_at hl 0 rfl) ?_
  refine lv_iconst (v := 1) C.1 C.2.1 dL_law_357 (by decide) ?_
  refine lv_iadd C.1 C.2.1 dL_law_358 ?_
  refine x_topi (y := nI (6 * n + 1)) (nI_add (6 * n) 1) ?_
  refine va_sld C.1 C.2.1 hX hbl hbA h.2.2.1 (i := nI (6 * n + 1)) (vp_in_nI (n := 6 * n + 1) (by omega) hL2) dL_law_359 ?_
  refine x_topi (y := Int32.ofInt (xs (6 * n + 1)).toInt) (xsx (congrArg xs (nI_clamp (n := 6 * n + 1) (by omega)))) ?_
  refine lv_aload_n C.1 C.2.1 dL_law_360 rfl (lv_at hl 3 rfl) ?_
  refine lv_iload_n C.1 C.2.1 dL_law_361 rfl (lv_at hl 0 rfl) ?_
  refine lv_iconst (v := 2) C.1 C.2.1 dL_law_362 (by decide) ?_
  refine lv_iadd C.1 C.2.1 dL_law_363 ?_
  refine x_topi (y := nI (6 * n + 2)) (nI_add (6 * n) 2) ?_
  refine va_sld C.1 C.2.1 hX hbl hbA h.2.2.1 (i := nI (6 * n + 2)) (vp_in_nI (n := 6 * n + 2) (by omega) hL2) dL_law_364 ?_
  refine x_topi (y := Int32.ofInt (xs (6 * n + 2)).toInt) (xsx (congrArg xs (nI_clamp (n := 6 * n + 2) (by omega)))) ?_
  refine t_callVi C h (kc_Cs_event l D k z mi aK aV g N hCl.1 e1) (xok_V hE h (List.range (cW k z g π σ).length) (tw_l _ _)) (va_recv C.2.2.2.2.1 h.1 (ci := 12) (q0 := 0) rfl (tw_at (cW_ob k z g σ (sh_0 hCl.1) (by decide)))) (cwV 2 C.2.2.1 (goodIn_app (gi_cons gw_1825 (gi_cons gw_1879 (gi_cons gw_1880 (gi_cons gw_1144 gi_nil)))) gh_yX11_event) rfl rfl rfl (by decide +kernel) ⟨Nat.le_of_ble_eq_true rfl, Nat.le_of_ble_eq_true rfl⟩) rfl hl.1 rfl (Nat.le_of_ble_eq_true rfl) dL_law_365 ⟨by show _ ≤ 600000; omega, by show _ ≤ 7302250; omega⟩ (fun v0 u H locs hu h => ?_)
  subst hu
  refine lv_aload_n C.1 C.2.1 dL_law_368 rfl (lv_at hl 1 rfl) ?_
  refine lv_aload_n C.1 C.2.1 dL_law_369 rfl (lv_at hl 3 rfl) ?_
  refine lv_iload_n C.1 C.2.1 dL_law_370 rfl (lv_at hl 0 rfl) ?_
  refine lv_iconst (v := 1) C.1 C.2.1 dL_law_371 (by decide) ?_
  refine lv_iadd C.1 C.2.1 dL_law_372 ?_
  refine x_topi (y := nI (6 * n + 1)) (nI_add (6 * n) 1) ?_
  refine va_sld C.1 C.2.1 hX hbl hbA h.2.2.1 (i := nI (6 * n + 1)) (vp_in_nI (n := 6 * n + 1) (by omega) hL2) dL_law_373 ?_
  refine x_topi (y := Int32.ofInt (xs (6 * n + 1)).toInt) (xsx (congrArg xs (nI_clamp (n := 6 * n + 1) (by omega)))) ?_
  refine lv_aload_n C.1 C.2.1 dL_law_374 rfl (lv_at hl 3 rfl) ?_
  refine lv_iload_n C.1 C.2.1 dL_law_375 rfl (lv_at hl 0 rfl) ?_
  refine lv_iconst (v := 2) C.1 C.2.1 dL_law_376 (by decide) ?_
  refine lv_iadd C.1 C.2.1 dL_law_377 ?_
  refine x_topi (y := nI (6 * n + 2)) (nI_add (6 * n) 2) ?_
  refine va_sld C.1 C.2.1 hX hbl hbA h.2.2.1 (i := nI (6 * n + 2)) (vp_in_nI (n := 6 * n + 2) (by omega) hL2) dL_law_378 ?_
  refine x_topi (y := Int32.ofInt (xs (6 * n + 2)).toInt) (xsx (congrArg xs (nI_clamp (n := 6 * n + 2) (by omega)))) ?_
  refine t_callVi C h (rc_event l D k g2 N τ ((xs (6 * n + 1)).toInt) ((xs (6 * n + 2)).toInt) _ e2) xok_T (va_recv C.2.2.2.2.1 h.1 (ci := 13) (q0 := 0) rfl (tw_at (mW_0 k g2 τ))) (cwV 2 C.2.2.1 (goodIn_app (gi_cons gw_1826 (gi_cons gw_1881 (gi_cons gw_1882 (gi_cons gw_167 gi_nil)))) gh_yX12_event) rfl rfl rfl (by decide +kernel) ⟨Nat.le_of_ble_eq_true rfl, Nat.le_of_ble_eq_true rfl⟩) rfl hl.1 rfl (Nat.le_of_ble_eq_true rfl) dL_law_379 ⟨by show _ ≤ 600000; omega, by show _ ≤ 7302250; omega⟩ (fun v0 _ H locs hu h => ?_)
  subst hu
  refine lv_icmp_eq (tgt := 674) C.1 C.2.1 dL_law_382 (by decide) (fun _ => ?_) (fun c => absurd rfl c)
  exact kk H locs g π σ1 τ1 hR1 rfl h
set_option maxHeartbeats 4000000 in
set_option maxRecDepth 100000 in
theorem ld_letter {p : Program} {l : Launch} {e : Env} {s : State} {m : MethodId} {below : List Frame} {meth : Method} {c : Code} {H : Heap} {locs : List Loc} {Q : State → Prop} {ls : Array Slot} {D : va_G} {A : Nat → Prop} {k : Nat → ClassId} {b L z mi n N K : Nat} {aK aV g g2 : Nat → Nat} {xs : Nat → Int32} {π : Sh} {σ τ : St} {R R' : Sh → St → St → Prop} (C : Cx p s m #[Value.ref b] c code RL lw_tbl D (TYs k) 4) (hX : va_X b L xs s s.heap) (hbl : b < s.heap.size) (hbA : ¬ A b) (hE : Ev z mi aK aV A s s.heap) (hL : 6 * n + 6 ≤ L) (hL2 : L < 2 ^ 31) (hK : K ≤ 2449975) (hR : R π σ τ) (hB : Bd R) (hB' : Bd R') (hl : lv_has ls 4 [(3, .int (nI (6 * n))), (2, .ref (g2 0)), (1, rfv g 0), (0, .ref b)]) (h : Hp D A s.heap H locs (cW k z g π σ ++ mW k g2 τ)) (hS : St_letter N R R') (kk : ∀ (H1 : Heap) (locs1 : List Loc) (g1 : Nat → Nat) (π1 : Sh) (σ1 τ1 : St), R' π1 σ1 τ1 → rfv g1 0 = rfv g 0 → Hp D A s.heap H1 locs1 (cW k z g1 π1 σ1 ++ mW k g2 τ1) → W p l e room_1 s m #[Value.ref b] below meth c H1 locs1 (nn π1 + 98) (sw π1 + K) Q (F0 m 674 ls [])) : W p l e room_1 s m #[Value.ref b] below meth c H locs (nn π + 98) (sw π + K) Q (F0 m 387 ls []) := by
  obtain ⟨hCl, hn1, hs1⟩ := hB π σ τ hR
  obtain ⟨σ1, τ1, v, e1, e2, hR1⟩ := hS π σ τ ((xs (6 * n + 1)).toInt) ((xs (6 * n + 2)).toInt) hR (i32_of _) (i32_of _)
  refine z_aload_n C dL_law_387 rfl (lv_at hl 2 rfl) ?_
  refine lv_aload_n C.1 C.2.1 dL_law_388 rfl (lv_at hl 3 rfl) ?_
  refine lv_iload_n C.1 C.2.1 dL_law_389 rfl (lv_at hl 0 rfl) ?_
  refine lv_iconst (v := 1) C.1 C.2.1 dL_law_390 (by decide) ?_
  refine lv_iadd C.1 C.2.1 dL_law_391 ?_
  refine x_topi (y := nI (6 * n + 1)) (nI_add (6 * n) 1) ?_
  refine va_sld C.1 C.2.1 hX hbl hbA h.2.2.1 (i := nI (6 * n + 1)) (vp_in_nI (n := 6 * n + 1) (by omega) hL2) dL_law_392 ?_
  refine x_topi (y := Int32.ofInt (xs (6 * n + 1)).toInt) (xsx (congrArg xs (nI_clamp (n := 6 * n + 1) (by omega)))) ?_
  refine lv_aload_n C.1 C.2.1 dL_law_393 rfl (lv_at hl 3 rfl) ?_
  refine lv_iload_n C.1 C.2.1 dL_law_394 rfl (lv_at hl 0 rfl) ?_
  refine lv_iconst (v := 2) C.1 C.2.1 dL_law_395 (by decide) ?_
  refine lv_iadd C.1 C.2.1 dL_law_396 ?_
  refine x_topi (y := nI (6 * n + 2)) (nI_add (6 * n) 2) ?_
  refine va_sld C.1 C.2.1 hX hbl hbA h.2.2.1 (i := nI (6 * n + 2)) (vp_in_nI (n := 6 * n + 2) (by omega) hL2) dL_law_397 ?_
  refine x_topi (y := Int32.ofInt (xs (6 * n + 2)).toInt) (xsx (congrArg xs (nI_clamp (n := 6 * n + 2) (by omega)))) ?_
  refine t_callVi C h (kc_Cs_letter l D k z mi aK aV g N hCl.1 e1) (xok_V hE h (List.range (cW k z g π σ).length) (tw_l _ _)) (va_recv C.2.2.2.2.1 h.1 (ci := 12) (q0 := 0) rfl (tw_at (cW_ob k z g σ (sh_0 hCl.1) (by decide)))) (cwV 2 C.2.2.1 (goodIn_app (gi_cons gw_1827 (gi_cons gw_1883 (gi_cons gw_1884 (gi_cons gw_1144 gi_nil)))) gh_yX11_letter) rfl rfl rfl (by decide +kernel) ⟨Nat.le_of_ble_eq_true rfl, Nat.le_of_ble_eq_true rfl⟩) rfl hl.1 rfl (Nat.le_of_ble_eq_true rfl) dL_law_398 ⟨by show _ ≤ 600000; omega, by show _ ≤ 7302250; omega⟩ (fun v0 u H locs hu h => ?_)
  subst hu
  refine lv_aload_n C.1 C.2.1 dL_law_401 rfl (lv_at hl 1 rfl) ?_
  refine lv_aload_n C.1 C.2.1 dL_law_402 rfl (lv_at hl 3 rfl) ?_
  refine lv_iload_n C.1 C.2.1 dL_law_403 rfl (lv_at hl 0 rfl) ?_
  refine lv_iconst (v := 1) C.1 C.2.1 dL_law_404 (by decide) ?_
  refine lv_iadd C.1 C.2.1 dL_law_405 ?_
  refine x_topi (y := nI (6 * n + 1)) (nI_add (6 * n) 1) ?_
  refine va_sld C.1 C.2.1 hX hbl hbA h.2.2.1 (i := nI (6 * n + 1)) (vp_in_nI (n := 6 * n + 1) (by omega) hL2) dL_law_406 ?_
  refine x_topi (y := Int32.ofInt (xs (6 * n + 1)).toInt) (xsx (congrArg xs (nI_clamp (n := 6 * n + 1) (by omega)))) ?_
  refine lv_aload_n C.1 C.2.1 dL_law_407 rfl (lv_at hl 3 rfl) ?_
  refine lv_iload_n C.1 C.2.1 dL_law_408 rfl (lv_at hl 0 rfl) ?_
  refine lv_iconst (v := 2) C.1 C.2.1 dL_law_409 (by decide) ?_
  refine lv_iadd C.1 C.2.1 dL_law_410 ?_
  refine x_topi (y := nI (6 * n + 2)) (nI_add (6 * n) 2) ?_
  refine va_sld C.1 C.2.1 hX hbl hbA h.2.2.1 (i := nI (6 * n + 2)) (vp_in_nI (n := 6 * n + 2) (by omega) hL2) dL_law_411 ?_
  refine x_topi (y := Int32.ofInt (xs (6 * n + 2)).toInt) (xsx (congrArg xs (nI_clamp (n := 6 * n + 2) (by omega)))) ?_
  refine t_callVi C h (rc_letter l D k g2 N τ ((xs (6 * n + 1)).toInt) ((xs (6 * n + 2)).toInt) _ e2) xok_T (va_recv C.2.2.2.2.1 h.1 (ci := 13) (q0 := 0) rfl (tw_at (mW_0 k g2 τ))) (cwV 2 C.2.2.1 (goodIn_app (gi_cons gw_1828 (gi_cons gw_1885 (gi_cons gw_1886 (gi_cons gw_167 gi_nil)))) gh_yX12_letter) rfl rfl rfl (by decide +kernel) ⟨Nat.le_of_ble_eq_true rfl, Nat.le_of_ble_eq_true rfl⟩) rfl hl.1 rfl (Nat.le_of_ble_eq_true rfl) dL_law_412 ⟨by show _ ≤ 600000; omega, by show _ ≤ 7302250; omega⟩ (fun v0 _ H locs hu h => ?_)
  subst hu
  refine lv_icmp_eq (tgt := 674) C.1 C.2.1 dL_law_415 (by decide) (fun _ => ?_) (fun c => absurd rfl c)
  exact kk H locs g π σ1 τ1 hR1 rfl h
set_option maxHeartbeats 4000000 in
set_option maxRecDepth 100000 in
theorem ld_play {p : Program} {l : Launch} {e : Env} {s : State} {m : MethodId} {below : List Frame} {meth : Method} {c : Code} {H : Heap} {locs : List Loc} {Q : State → Prop} {ls : Array Slot} {D : va_G} {A : Nat → Prop} {k : Nat → ClassId} {b L z mi n N K : Nat} {aK aV g g2 : Nat → Nat} {xs : Nat → Int32} {π : Sh} {σ τ : St} {R R' : Sh → St → St → Prop} (C : Cx p s m #[Value.ref b] c code RL lw_tbl D (TYs k) 4) (hX : va_X b L xs s s.heap) (hbl : b < s.heap.size) (hbA : ¬ A b) (hE : Ev z mi aK aV A s s.heap) (hL : 6 * n + 6 ≤ L) (hL2 : L < 2 ^ 31) (hK : K ≤ 2449975) (hR : R π σ τ) (hB : Bd R) (hB' : Bd R') (hl : lv_has ls 4 [(3, .int (nI (6 * n))), (2, .ref (g2 0)), (1, rfv g 0), (0, .ref b)]) (h : Hp D A s.heap H locs (cW k z g π σ ++ mW k g2 τ)) (hS : St_play N R R') (kk : ∀ (H1 : Heap) (locs1 : List Loc) (g1 : Nat → Nat) (π1 : Sh) (σ1 τ1 : St), R' π1 σ1 τ1 → rfv g1 0 = rfv g 0 → Hp D A s.heap H1 locs1 (cW k z g1 π1 σ1 ++ mW k g2 τ1) → W p l e room_1 s m #[Value.ref b] below meth c H1 locs1 (nn π1 + 98) (sw π1 + K) Q (F0 m 674 ls [])) : W p l e room_1 s m #[Value.ref b] below meth c H locs (nn π + 98) (sw π + K) Q (F0 m 420 ls []) := by
  obtain ⟨hCl, hn1, hs1⟩ := hB π σ τ hR
  obtain ⟨σ1, τ1, v, e1, e2, hR1⟩ := hS π σ τ ((xs (6 * n + 1)).toInt) hR (i32_of _)
  refine z_aload_n C dL_law_420 rfl (lv_at hl 2 rfl) ?_
  refine lv_aload_n C.1 C.2.1 dL_law_421 rfl (lv_at hl 3 rfl) ?_
  refine lv_iload_n C.1 C.2.1 dL_law_422 rfl (lv_at hl 0 rfl) ?_
  refine lv_iconst (v := 1) C.1 C.2.1 dL_law_423 (by decide) ?_
  refine lv_iadd C.1 C.2.1 dL_law_424 ?_
  refine x_topi (y := nI (6 * n + 1)) (nI_add (6 * n) 1) ?_
  refine va_sld C.1 C.2.1 hX hbl hbA h.2.2.1 (i := nI (6 * n + 1)) (vp_in_nI (n := 6 * n + 1) (by omega) hL2) dL_law_425 ?_
  refine x_topi (y := Int32.ofInt (xs (6 * n + 1)).toInt) (xsx (congrArg xs (nI_clamp (n := 6 * n + 1) (by omega)))) ?_
  refine t_callVi C h (kc_Cs_play l D k z mi aK aV g N hCl.1 e1) (xok_V hE h (List.range (cW k z g π σ).length) (tw_l _ _)) (va_recv C.2.2.2.2.1 h.1 (ci := 12) (q0 := 0) rfl (tw_at (cW_ob k z g σ (sh_0 hCl.1) (by decide)))) (cwV 1 C.2.2.1 (goodIn_app (gi_cons gw_1829 (gi_cons gw_1887 (gi_cons gw_1888 (gi_cons gw_1144 gi_nil)))) gh_yX11_play) rfl rfl rfl (by decide +kernel) ⟨Nat.le_of_ble_eq_true rfl, Nat.le_of_ble_eq_true rfl⟩) rfl hl.1 rfl (Nat.le_of_ble_eq_true rfl) dL_law_426 ⟨by show _ ≤ 600000; omega, by show _ ≤ 7302250; omega⟩ (fun v0 u H locs hu h => ?_)
  subst hu
  refine lv_aload_n C.1 C.2.1 dL_law_429 rfl (lv_at hl 1 rfl) ?_
  refine lv_aload_n C.1 C.2.1 dL_law_430 rfl (lv_at hl 3 rfl) ?_
  refine lv_iload_n C.1 C.2.1 dL_law_431 rfl (lv_at hl 0 rfl) ?_
  refine lv_iconst (v := 1) C.1 C.2.1 dL_law_432 (by decide) ?_
  refine lv_iadd C.1 C.2.1 dL_law_433 ?_
  refine x_topi (y := nI (6 * n + 1)) (nI_add (6 * n) 1) ?_
  refine va_sld C.1 C.2.1 hX hbl hbA h.2.2.1 (i := nI (6 * n + 1)) (vp_in_nI (n := 6 * n + 1) (by omega) hL2) dL_law_434 ?_
  refine x_topi (y := Int32.ofInt (xs (6 * n + 1)).toInt) (xsx (congrArg xs (nI_clamp (n := 6 * n + 1) (by omega)))) ?_
  refine t_callVi C h (rc_play l D k g2 N τ ((xs (6 * n + 1)).toInt) _ e2) xok_T (va_recv C.2.2.2.2.1 h.1 (ci := 13) (q0 := 0) rfl (tw_at (mW_0 k g2 τ))) (cwV 1 C.2.2.1 (goodIn_app (gi_cons gw_1830 (gi_cons gw_1889 (gi_cons gw_1890 (gi_cons gw_167 gi_nil)))) gh_yX12_play) rfl rfl rfl (by decide +kernel) ⟨Nat.le_of_ble_eq_true rfl, Nat.le_of_ble_eq_true rfl⟩) rfl hl.1 rfl (Nat.le_of_ble_eq_true rfl) dL_law_435 ⟨by show _ ≤ 600000; omega, by show _ ≤ 7302250; omega⟩ (fun v0 _ H locs hu h => ?_)
  subst hu
  refine lv_icmp_eq (tgt := 674) C.1 C.2.1 dL_law_438 (by decide) (fun _ => ?_) (fun c => absurd rfl c)
  exact kk H locs g π σ1 τ1 hR1 rfl h
set_option maxHeartbeats 4000000 in
set_option maxRecDepth 100000 in
theorem ld_heard {p : Program} {l : Launch} {e : Env} {s : State} {m : MethodId} {below : List Frame} {meth : Method} {c : Code} {H : Heap} {locs : List Loc} {Q : State → Prop} {ls : Array Slot} {D : va_G} {A : Nat → Prop} {k : Nat → ClassId} {b L z mi n N K : Nat} {aK aV g g2 : Nat → Nat} {xs : Nat → Int32} {π : Sh} {σ τ : St} {R R' : Sh → St → St → Prop} (C : Cx p s m #[Value.ref b] c code RL lw_tbl D (TYs k) 4) (hX : va_X b L xs s s.heap) (hbl : b < s.heap.size) (hbA : ¬ A b) (hE : Ev z mi aK aV A s s.heap) (hL : 6 * n + 6 ≤ L) (hL2 : L < 2 ^ 31) (hK : K ≤ 2449975) (hR : R π σ τ) (hB : Bd R) (hB' : Bd R') (hl : lv_has ls 4 [(3, .int (nI (6 * n))), (2, .ref (g2 0)), (1, rfv g 0), (0, .ref b)]) (h : Hp D A s.heap H locs (cW k z g π σ ++ mW k g2 τ)) (hS : St_heard N R R') (kk : ∀ (H1 : Heap) (locs1 : List Loc) (g1 : Nat → Nat) (π1 : Sh) (σ1 τ1 : St), R' π1 σ1 τ1 → rfv g1 0 = rfv g 0 → Hp D A s.heap H1 locs1 (cW k z g1 π1 σ1 ++ mW k g2 τ1) → W p l e room_1 s m #[Value.ref b] below meth c H1 locs1 (nn π1 + 98) (sw π1 + K) Q (F0 m 674 ls [])) : W p l e room_1 s m #[Value.ref b] below meth c H locs (nn π + 98) (sw π + K) Q (F0 m 443 ls []) := by
  obtain ⟨hCl, hn1, hs1⟩ := hB π σ τ hR
  obtain ⟨σ1, τ1, v, e1, e2, hR1⟩ := hS π σ τ ((xs (6 * n + 1)).toInt) ((xs (6 * n + 2)).toInt) hR (i32_of _) (i32_of _)
  refine z_aload_n C dL_law_443 rfl (lv_at hl 2 rfl) ?_
  refine lv_aload_n C.1 C.2.1 dL_law_444 rfl (lv_at hl 3 rfl) ?_
  refine lv_iload_n C.1 C.2.1 dL_law_445 rfl (lv_at hl 0 rfl) ?_
  refine lv_iconst (v := 1) C.1 C.2.1 dL_law_446 (by decide) ?_
  refine lv_iadd C.1 C.2.1 dL_law_447 ?_
  refine x_topi (y := nI (6 * n + 1)) (nI_add (6 * n) 1) ?_
  refine va_sld C.1 C.2.1 hX hbl hbA h.2.2.1 (i := nI (6 * n + 1)) (vp_in_nI (n := 6 * n + 1) (by omega) hL2) dL_law_448 ?_
  refine x_topi (y := Int32.ofInt (xs (6 * n + 1)).toInt) (xsx (congrArg xs (nI_clamp (n := 6 * n + 1) (by omega)))) ?_
  refine lv_aload_n C.1 C.2.1 dL_law_449 rfl (lv_at hl 3 rfl) ?_
  refine lv_iload_n C.1 C.2.1 dL_law_450 rfl (lv_at hl 0 rfl) ?_
  refine lv_iconst (v := 2) C.1 C.2.1 dL_law_451 (by decide) ?_
  refine lv_iadd C.1 C.2.1 dL_law_452 ?_
  refine x_topi (y := nI (6 * n + 2)) (nI_add (6 * n) 2) ?_
  refine va_sld C.1 C.2.1 hX hbl hbA h.2.2.1 (i := nI (6 * n + 2)) (vp_in_nI (n := 6 * n + 2) (by omega) hL2) dL_law_453 ?_
  refine x_topi (y := Int32.ofInt (xs (6 * n + 2)).toInt) (xsx (congrArg xs (nI_clamp (n := 6 * n + 2) (by omega)))) ?_
  refine t_callVi C h (kc_Cs_heard l D k z mi aK aV g N hCl.1 e1) (xok_V hE h (List.range (cW k z g π σ).length) (tw_l _ _)) (va_recv C.2.2.2.2.1 h.1 (ci := 12) (q0 := 0) rfl (tw_at (cW_ob k z g σ (sh_0 hCl.1) (by decide)))) (cwV 2 C.2.2.1 (goodIn_app (gi_cons gw_1831 (gi_cons gw_1891 (gi_cons gw_1892 (gi_cons gw_1144 gi_nil)))) gh_yX11_heard) rfl rfl rfl (by decide +kernel) ⟨Nat.le_of_ble_eq_true rfl, Nat.le_of_ble_eq_true rfl⟩) rfl hl.1 rfl (Nat.le_of_ble_eq_true rfl) dL_law_454 ⟨by show _ ≤ 600000; omega, by show _ ≤ 7302250; omega⟩ (fun v0 u H locs hu h => ?_)
  subst hu
  refine lv_aload_n C.1 C.2.1 dL_law_457 rfl (lv_at hl 1 rfl) ?_
  refine lv_aload_n C.1 C.2.1 dL_law_458 rfl (lv_at hl 3 rfl) ?_
  refine lv_iload_n C.1 C.2.1 dL_law_459 rfl (lv_at hl 0 rfl) ?_
  refine lv_iconst (v := 1) C.1 C.2.1 dL_law_460 (by decide) ?_
  refine lv_iadd C.1 C.2.1 dL_law_461 ?_
  refine x_topi (y := nI (6 * n + 1)) (nI_add (6 * n) 1) ?_
  refine va_sld C.1 C.2.1 hX hbl hbA h.2.2.1 (i := nI (6 * n + 1)) (vp_in_nI (n := 6 * n + 1) (by omega) hL2) dL_law_462 ?_
  refine x_topi (y := Int32.ofInt (xs (6 * n + 1)).toInt) (xsx (congrArg xs (nI_clamp (n := 6 * n + 1) (by omega)))) ?_
  refine lv_aload_n C.1 C.2.1 dL_law_463 rfl (lv_at hl 3 rfl) ?_
  refine lv_iload_n C.1 C.2.1 dL_law_464 rfl (lv_at hl 0 rfl) ?_
  refine lv_iconst (v := 2) C.1 C.2.1 dL_law_465 (by decide) ?_
  refine lv_iadd C.1 C.2.1 dL_law_466 ?_
  refine x_topi (y := nI (6 * n + 2)) (nI_add (6 * n) 2) ?_
  refine va_sld C.1 C.2.1 hX hbl hbA h.2.2.1 (i := nI (6 * n + 2)) (vp_in_nI (n := 6 * n + 2) (by omega) hL2) dL_law_467 ?_
  refine x_topi (y := Int32.ofInt (xs (6 * n + 2)).toInt) (xsx (congrArg xs (nI_clamp (n := 6 * n + 2) (by omega)))) ?_
  refine t_callVi C h (rc_heard l D k g2 N τ ((xs (6 * n + 1)).toInt) ((xs (6 * n + 2)).toInt) _ e2) xok_T (va_recv C.2.2.2.2.1 h.1 (ci := 13) (q0 := 0) rfl (tw_at (mW_0 k g2 τ))) (cwV 2 C.2.2.1 (goodIn_app (gi_cons gw_1832 (gi_cons gw_1893 (gi_cons gw_1894 (gi_cons gw_167 gi_nil)))) gh_yX12_heard) rfl rfl rfl (by decide +kernel) ⟨Nat.le_of_ble_eq_true rfl, Nat.le_of_ble_eq_true rfl⟩) rfl hl.1 rfl (Nat.le_of_ble_eq_true rfl) dL_law_468 ⟨by show _ ≤ 600000; omega, by show _ ≤ 7302250; omega⟩ (fun v0 _ H locs hu h => ?_)
  subst hu
  refine lv_icmp_eq (tgt := 674) C.1 C.2.1 dL_law_471 (by decide) (fun _ => ?_) (fun c => absurd rfl c)
  exact kk H locs g π σ1 τ1 hR1 rfl h
set_option maxHeartbeats 4000000 in
set_option maxRecDepth 100000 in
theorem ld_heardLetter {p : Program} {l : Launch} {e : Env} {s : State} {m : MethodId} {below : List Frame} {meth : Method} {c : Code} {H : Heap} {locs : List Loc} {Q : State → Prop} {ls : Array Slot} {D : va_G} {A : Nat → Prop} {k : Nat → ClassId} {b L z mi n N K : Nat} {aK aV g g2 : Nat → Nat} {xs : Nat → Int32} {π : Sh} {σ τ : St} {R R' : Sh → St → St → Prop} (C : Cx p s m #[Value.ref b] c code RL lw_tbl D (TYs k) 4) (hX : va_X b L xs s s.heap) (hbl : b < s.heap.size) (hbA : ¬ A b) (hE : Ev z mi aK aV A s s.heap) (hL : 6 * n + 6 ≤ L) (hL2 : L < 2 ^ 31) (hK : K ≤ 2449975) (hR : R π σ τ) (hB : Bd R) (hB' : Bd R') (hl : lv_has ls 4 [(3, .int (nI (6 * n))), (2, .ref (g2 0)), (1, rfv g 0), (0, .ref b)]) (h : Hp D A s.heap H locs (cW k z g π σ ++ mW k g2 τ)) (hS : St_heardLetter N R R') (kk : ∀ (H1 : Heap) (locs1 : List Loc) (g1 : Nat → Nat) (π1 : Sh) (σ1 τ1 : St), R' π1 σ1 τ1 → rfv g1 0 = rfv g 0 → Hp D A s.heap H1 locs1 (cW k z g1 π1 σ1 ++ mW k g2 τ1) → W p l e room_1 s m #[Value.ref b] below meth c H1 locs1 (nn π1 + 98) (sw π1 + K) Q (F0 m 674 ls [])) : W p l e room_1 s m #[Value.ref b] below meth c H locs (nn π + 98) (sw π + K) Q (F0 m 476 ls []) := by
  obtain ⟨hCl, hn1, hs1⟩ := hB π σ τ hR
  obtain ⟨σ1, τ1, v, e1, e2, hR1⟩ := hS π σ τ ((xs (6 * n + 1)).toInt) ((xs (6 * n + 2)).toInt) hR (i32_of _) (i32_of _)
  refine z_aload_n C dL_law_476 rfl (lv_at hl 2 rfl) ?_
  refine lv_aload_n C.1 C.2.1 dL_law_477 rfl (lv_at hl 3 rfl) ?_
  refine lv_iload_n C.1 C.2.1 dL_law_478 rfl (lv_at hl 0 rfl) ?_
  refine lv_iconst (v := 1) C.1 C.2.1 dL_law_479 (by decide) ?_
  refine lv_iadd C.1 C.2.1 dL_law_480 ?_
  refine x_topi (y := nI (6 * n + 1)) (nI_add (6 * n) 1) ?_
  refine va_sld C.1 C.2.1 hX hbl hbA h.2.2.1 (i := nI (6 * n + 1)) (vp_in_nI (n := 6 * n + 1) (by omega) hL2) dL_law_481 ?_
  refine x_topi (y := Int32.ofInt (xs (6 * n + 1)).toInt) (xsx (congrArg xs (nI_clamp (n := 6 * n + 1) (by omega)))) ?_
  refine lv_aload_n C.1 C.2.1 dL_law_482 rfl (lv_at hl 3 rfl) ?_
  refine lv_iload_n C.1 C.2.1 dL_law_483 rfl (lv_at hl 0 rfl) ?_
  refine lv_iconst (v := 2) C.1 C.2.1 dL_law_484 (by decide) ?_
  refine lv_iadd C.1 C.2.1 dL_law_485 ?_
  refine x_topi (y := nI (6 * n + 2)) (nI_add (6 * n) 2) ?_
  refine va_sld C.1 C.2.1 hX hbl hbA h.2.2.1 (i := nI (6 * n + 2)) (vp_in_nI (n := 6 * n + 2) (by omega) hL2) dL_law_486 ?_
  refine x_topi (y := Int32.ofInt (xs (6 * n + 2)).toInt) (xsx (congrArg xs (nI_clamp (n := 6 * n + 2) (by omega)))) ?_
  refine t_callVi C h (kc_Cs_heardLetter l D k z mi aK aV g N hCl.1 e1) (xok_V hE h (List.range (cW k z g π σ).length) (tw_l _ _)) (va_recv C.2.2.2.2.1 h.1 (ci := 12) (q0 := 0) rfl (tw_at (cW_ob k z g σ (sh_0 hCl.1) (by decide)))) (cwV 2 C.2.2.1 (goodIn_app (gi_cons gw_1833 (gi_cons gw_1895 (gi_cons gw_1896 (gi_cons gw_1144 gi_nil)))) gh_yX11_heardLetter) rfl rfl rfl (by decide +kernel) ⟨Nat.le_of_ble_eq_true rfl, Nat.le_of_ble_eq_true rfl⟩) rfl hl.1 rfl (Nat.le_of_ble_eq_true rfl) dL_law_487 ⟨by show _ ≤ 600000; omega, by show _ ≤ 7302250; omega⟩ (fun v0 u H locs hu h => ?_)
  subst hu
  refine lv_aload_n C.1 C.2.1 dL_law_490 rfl (lv_at hl 1 rfl) ?_
  refine lv_aload_n C.1 C.2.1 dL_law_491 rfl (lv_at hl 3 rfl) ?_
  refine lv_iload_n C.1 C.2.1 dL_law_492 rfl (lv_at hl 0 rfl) ?_
  refine lv_iconst (v := 1) C.1 C.2.1 dL_law_493 (by decide) ?_
  refine lv_iadd C.1 C.2.1 dL_law_494 ?_
  refine x_topi (y := nI (6 * n + 1)) (nI_add (6 * n) 1) ?_
  refine va_sld C.1 C.2.1 hX hbl hbA h.2.2.1 (i := nI (6 * n + 1)) (vp_in_nI (n := 6 * n + 1) (by omega) hL2) dL_law_495 ?_
  refine x_topi (y := Int32.ofInt (xs (6 * n + 1)).toInt) (xsx (congrArg xs (nI_clamp (n := 6 * n + 1) (by omega)))) ?_
  refine lv_aload_n C.1 C.2.1 dL_law_496 rfl (lv_at hl 3 rfl) ?_
  refine lv_iload_n C.1 C.2.1 dL_law_497 rfl (lv_at hl 0 rfl) ?_
  refine lv_iconst (v := 2) C.1 C.2.1 dL_law_498 (by decide) ?_
  refine lv_iadd C.1 C.2.1 dL_law_499 ?_
  refine x_topi (y := nI (6 * n + 2)) (nI_add (6 * n) 2) ?_
  refine va_sld C.1 C.2.1 hX hbl hbA h.2.2.1 (i := nI (6 * n + 2)) (vp_in_nI (n := 6 * n + 2) (by omega) hL2) dL_law_500 ?_
  refine x_topi (y := Int32.ofInt (xs (6 * n + 2)).toInt) (xsx (congrArg xs (nI_clamp (n := 6 * n + 2) (by omega)))) ?_
  refine t_callVi C h (rc_heardLetter l D k g2 N τ ((xs (6 * n + 1)).toInt) ((xs (6 * n + 2)).toInt) _ e2) xok_T (va_recv C.2.2.2.2.1 h.1 (ci := 13) (q0 := 0) rfl (tw_at (mW_0 k g2 τ))) (cwV 2 C.2.2.1 (goodIn_app (gi_cons gw_1834 (gi_cons gw_1897 (gi_cons gw_1898 (gi_cons gw_167 gi_nil)))) gh_yX12_heardLetter) rfl rfl rfl (by decide +kernel) ⟨Nat.le_of_ble_eq_true rfl, Nat.le_of_ble_eq_true rfl⟩) rfl hl.1 rfl (Nat.le_of_ble_eq_true rfl) dL_law_501 ⟨by show _ ≤ 600000; omega, by show _ ≤ 7302250; omega⟩ (fun v0 _ H locs hu h => ?_)
  subst hu
  refine lv_icmp_eq (tgt := 674) C.1 C.2.1 dL_law_504 (by decide) (fun _ => ?_) (fun c => absurd rfl c)
  exact kk H locs g π σ1 τ1 hR1 rfl h
set_option maxHeartbeats 4000000 in
set_option maxRecDepth 100000 in
theorem ld_jump {p : Program} {l : Launch} {e : Env} {s : State} {m : MethodId} {below : List Frame} {meth : Method} {c : Code} {H : Heap} {locs : List Loc} {Q : State → Prop} {ls : Array Slot} {D : va_G} {A : Nat → Prop} {k : Nat → ClassId} {b L z mi n N K : Nat} {aK aV g g2 : Nat → Nat} {xs : Nat → Int32} {π : Sh} {σ τ : St} {R R' : Sh → St → St → Prop} (C : Cx p s m #[Value.ref b] c code RL lw_tbl D (TYs k) 4) (hX : va_X b L xs s s.heap) (hbl : b < s.heap.size) (hbA : ¬ A b) (hE : Ev z mi aK aV A s s.heap) (hL : 6 * n + 6 ≤ L) (hL2 : L < 2 ^ 31) (hK : K ≤ 2449975) (hR : R π σ τ) (hB : Bd R) (hB' : Bd R') (hl : lv_has ls 4 [(3, .int (nI (6 * n))), (2, .ref (g2 0)), (1, rfv g 0), (0, .ref b)]) (h : Hp D A s.heap H locs (cW k z g π σ ++ mW k g2 τ)) (hS : St_jump N R R') (kk : ∀ (H1 : Heap) (locs1 : List Loc) (g1 : Nat → Nat) (π1 : Sh) (σ1 τ1 : St), R' π1 σ1 τ1 → rfv g1 0 = rfv g 0 → Hp D A s.heap H1 locs1 (cW k z g1 π1 σ1 ++ mW k g2 τ1) → W p l e room_1 s m #[Value.ref b] below meth c H1 locs1 (nn π1 + 98) (sw π1 + K) Q (F0 m 674 ls [])) : W p l e room_1 s m #[Value.ref b] below meth c H locs (nn π + 98) (sw π + K) Q (F0 m 509 ls []) := by
  obtain ⟨hCl, hn1, hs1⟩ := hB π σ τ hR
  obtain ⟨σ1, τ1, v, e1, e2, hR1⟩ := hS π σ τ ((xs (6 * n + 1)).toInt) hR (i32_of _)
  refine z_aload_n C dL_law_509 rfl (lv_at hl 2 rfl) ?_
  refine lv_aload_n C.1 C.2.1 dL_law_510 rfl (lv_at hl 3 rfl) ?_
  refine lv_iload_n C.1 C.2.1 dL_law_511 rfl (lv_at hl 0 rfl) ?_
  refine lv_iconst (v := 1) C.1 C.2.1 dL_law_512 (by decide) ?_
  refine lv_iadd C.1 C.2.1 dL_law_513 ?_
  refine x_topi (y := nI (6 * n + 1)) (nI_add (6 * n) 1) ?_
  refine va_sld C.1 C.2.1 hX hbl hbA h.2.2.1 (i := nI (6 * n + 1)) (vp_in_nI (n := 6 * n + 1) (by omega) hL2) dL_law_514 ?_
  refine x_topi (y := Int32.ofInt (xs (6 * n + 1)).toInt) (xsx (congrArg xs (nI_clamp (n := 6 * n + 1) (by omega)))) ?_
  refine t_callVi C h (kc_Cs_jump l D k z mi aK aV g N hCl.1 e1) (xok_V hE h (List.range (cW k z g π σ).length) (tw_l _ _)) (va_recv C.2.2.2.2.1 h.1 (ci := 12) (q0 := 0) rfl (tw_at (cW_ob k z g σ (sh_0 hCl.1) (by decide)))) (cwV 1 C.2.2.1 (goodIn_app (gi_cons gw_1835 (gi_cons gw_1899 (gi_cons gw_1900 (gi_cons gw_1144 gi_nil)))) gh_yX11_jump) rfl rfl rfl (by decide +kernel) ⟨Nat.le_of_ble_eq_true rfl, Nat.le_of_ble_eq_true rfl⟩) rfl hl.1 rfl (Nat.le_of_ble_eq_true rfl) dL_law_515 ⟨by show _ ≤ 600000; omega, by show _ ≤ 7302250; omega⟩ (fun v0 u H locs hu h => ?_)
  subst hu
  refine lv_aload_n C.1 C.2.1 dL_law_518 rfl (lv_at hl 1 rfl) ?_
  refine lv_aload_n C.1 C.2.1 dL_law_519 rfl (lv_at hl 3 rfl) ?_
  refine lv_iload_n C.1 C.2.1 dL_law_520 rfl (lv_at hl 0 rfl) ?_
  refine lv_iconst (v := 1) C.1 C.2.1 dL_law_521 (by decide) ?_
  refine lv_iadd C.1 C.2.1 dL_law_522 ?_
  refine x_topi (y := nI (6 * n + 1)) (nI_add (6 * n) 1) ?_
  refine va_sld C.1 C.2.1 hX hbl hbA h.2.2.1 (i := nI (6 * n + 1)) (vp_in_nI (n := 6 * n + 1) (by omega) hL2) dL_law_523 ?_
  refine x_topi (y := Int32.ofInt (xs (6 * n + 1)).toInt) (xsx (congrArg xs (nI_clamp (n := 6 * n + 1) (by omega)))) ?_
  refine t_callVi C h (rc_jump l D k g2 N τ ((xs (6 * n + 1)).toInt) _ e2) xok_T (va_recv C.2.2.2.2.1 h.1 (ci := 13) (q0 := 0) rfl (tw_at (mW_0 k g2 τ))) (cwV 1 C.2.2.1 (goodIn_app (gi_cons gw_1836 (gi_cons gw_1901 (gi_cons gw_1902 (gi_cons gw_167 gi_nil)))) gh_yX12_jump) rfl rfl rfl (by decide +kernel) ⟨Nat.le_of_ble_eq_true rfl, Nat.le_of_ble_eq_true rfl⟩) rfl hl.1 rfl (Nat.le_of_ble_eq_true rfl) dL_law_524 ⟨by show _ ≤ 600000; omega, by show _ ≤ 7302250; omega⟩ (fun v0 _ H locs hu h => ?_)
  subst hu
  refine lv_icmp_eq (tgt := 674) C.1 C.2.1 dL_law_527 (by decide) (fun _ => ?_) (fun c => absurd rfl c)
  exact kk H locs g π σ1 τ1 hR1 rfl h
set_option maxHeartbeats 4000000 in
set_option maxRecDepth 100000 in
theorem ld_mute0 {p : Program} {l : Launch} {e : Env} {s : State} {m : MethodId} {below : List Frame} {meth : Method} {c : Code} {H : Heap} {locs : List Loc} {Q : State → Prop} {ls : Array Slot} {D : va_G} {A : Nat → Prop} {k : Nat → ClassId} {b L z mi n N K : Nat} {aK aV g g2 : Nat → Nat} {xs : Nat → Int32} {π : Sh} {σ τ : St} {R R' : Sh → St → St → Prop} (C : Cx p s m #[Value.ref b] c code RL lw_tbl D (TYs k) 4) (hX : va_X b L xs s s.heap) (hbl : b < s.heap.size) (hbA : ¬ A b) (hE : Ev z mi aK aV A s s.heap) (hL : 6 * n + 6 ≤ L) (hL2 : L < 2 ^ 31) (hK : K ≤ 2449975) (hR : R π σ τ) (hB : Bd R) (hB' : Bd R') (hl : lv_has ls 4 [(3, .int (nI (6 * n))), (2, .ref (g2 0)), (1, rfv g 0), (0, .ref b)]) (h : Hp D A s.heap H locs (cW k z g π σ ++ mW k g2 τ)) (hS : St_mute N R R') (hz : xs (6 * n + 2) = 0) (kk : ∀ (H1 : Heap) (locs1 : List Loc) (g1 : Nat → Nat) (π1 : Sh) (σ1 τ1 : St), R' π1 σ1 τ1 → rfv g1 0 = rfv g 0 → Hp D A s.heap H1 locs1 (cW k z g1 π1 σ1 ++ mW k g2 τ1) → W p l e room_1 s m #[Value.ref b] below meth c H1 locs1 (nn π1 + 98) (sw π1 + K) Q (F0 m 674 ls [])) : W p l e room_1 s m #[Value.ref b] below meth c H locs (nn π + 98) (sw π + K) Q (F0 m 532 ls []) := by
  obtain ⟨hCl, hn1, hs1⟩ := hB π σ τ hR
  obtain ⟨σ1, τ1, v, e1, e2, hR1⟩ := hS π σ τ ((xs (6 * n + 1)).toInt) (0) hR (i32_of _) (Or.inl rfl)
  refine z_aload_n C dL_law_532 rfl (lv_at hl 2 rfl) ?_
  refine lv_aload_n C.1 C.2.1 dL_law_533 rfl (lv_at hl 3 rfl) ?_
  refine lv_iload_n C.1 C.2.1 dL_law_534 rfl (lv_at hl 0 rfl) ?_
  refine lv_iconst (v := 1) C.1 C.2.1 dL_law_535 (by decide) ?_
  refine lv_iadd C.1 C.2.1 dL_law_536 ?_
  refine x_topi (y := nI (6 * n + 1)) (nI_add (6 * n) 1) ?_
  refine va_sld C.1 C.2.1 hX hbl hbA h.2.2.1 (i := nI (6 * n + 1)) (vp_in_nI (n := 6 * n + 1) (by omega) hL2) dL_law_537 ?_
  refine x_topi (y := Int32.ofInt (xs (6 * n + 1)).toInt) (xsx (congrArg xs (nI_clamp (n := 6 * n + 1) (by omega)))) ?_
  refine lv_aload_n C.1 C.2.1 dL_law_538 rfl (lv_at hl 3 rfl) ?_
  refine lv_iload_n C.1 C.2.1 dL_law_539 rfl (lv_at hl 0 rfl) ?_
  refine lv_iconst (v := 2) C.1 C.2.1 dL_law_540 (by decide) ?_
  refine lv_iadd C.1 C.2.1 dL_law_541 ?_
  refine x_topi (y := nI (6 * n + 2)) (nI_add (6 * n) 2) ?_
  refine va_sld C.1 C.2.1 hX hbl hbA h.2.2.1 (i := nI (6 * n + 2)) (vp_in_nI (n := 6 * n + 2) (by omega) hL2) dL_law_542 ?_
  refine x_topi (y := Int32.ofInt (xs (6 * n + 2)).toInt) (xsx (congrArg xs (nI_clamp (n := 6 * n + 2) (by omega)))) ?_
  refine lv_if_eq (tgt := 550) C.1 C.2.1 dL_law_543 (by decide) (fun _ => ?_) (fun c => absurd ((of_ti _).symm.trans hz) c)
  refine lv_iconst (v := 0) C.1 C.2.1 dL_law_550 (by decide) ?_
  refine t_callVi C h (kc_Cs_mute l D k z mi aK aV g N hCl.1 e1) (xok_V hE h (List.range (cW k z g π σ).length) (tw_l _ _)) (va_recv C.2.2.2.2.1 h.1 (ci := 12) (q0 := 0) rfl (tw_at (cW_ob k z g σ (sh_0 hCl.1) (by decide)))) (cwV 2 C.2.2.1 (goodIn_app (gi_cons gw_1837 (gi_cons gw_1903 (gi_cons gw_1904 (gi_cons gw_1144 gi_nil)))) gh_yX11_mute) rfl rfl rfl (by decide +kernel) ⟨Nat.le_of_ble_eq_true rfl, Nat.le_of_ble_eq_true rfl⟩) rfl hl.1 rfl (Nat.le_of_ble_eq_true rfl) dL_law_551 ⟨by show _ ≤ 600000; omega, by show _ ≤ 7302250; omega⟩ (fun v0 u H locs hu h => ?_)
  subst hu
  refine lv_aload_n C.1 C.2.1 dL_law_554 rfl (lv_at hl 1 rfl) ?_
  refine lv_aload_n C.1 C.2.1 dL_law_555 rfl (lv_at hl 3 rfl) ?_
  refine lv_iload_n C.1 C.2.1 dL_law_556 rfl (lv_at hl 0 rfl) ?_
  refine lv_iconst (v := 1) C.1 C.2.1 dL_law_557 (by decide) ?_
  refine lv_iadd C.1 C.2.1 dL_law_558 ?_
  refine x_topi (y := nI (6 * n + 1)) (nI_add (6 * n) 1) ?_
  refine va_sld C.1 C.2.1 hX hbl hbA h.2.2.1 (i := nI (6 * n + 1)) (vp_in_nI (n := 6 * n + 1) (by omega) hL2) dL_law_559 ?_
  refine x_topi (y := Int32.ofInt (xs (6 * n + 1)).toInt) (xsx (congrArg xs (nI_clamp (n := 6 * n + 1) (by omega)))) ?_
  refine lv_aload_n C.1 C.2.1 dL_law_560 rfl (lv_at hl 3 rfl) ?_
  refine lv_iload_n C.1 C.2.1 dL_law_561 rfl (lv_at hl 0 rfl) ?_
  refine lv_iconst (v := 2) C.1 C.2.1 dL_law_562 (by decide) ?_
  refine lv_iadd C.1 C.2.1 dL_law_563 ?_
  refine x_topi (y := nI (6 * n + 2)) (nI_add (6 * n) 2) ?_
  refine va_sld C.1 C.2.1 hX hbl hbA h.2.2.1 (i := nI (6 * n + 2)) (vp_in_nI (n := 6 * n + 2) (by omega) hL2) dL_law_564 ?_
  refine x_topi (y := Int32.ofInt (xs (6 * n + 2)).toInt) (xsx (congrArg xs (nI_clamp (n := 6 * n + 2) (by omega)))) ?_
  refine lv_if_eq (tgt := 572) C.1 C.2.1 dL_law_565 (by decide) (fun _ => ?_) (fun c => absurd ((of_ti _).symm.trans hz) c)
  refine lv_iconst (v := 0) C.1 C.2.1 dL_law_572 (by decide) ?_
  refine t_callVi C h (rc_mute l D k g2 N τ ((xs (6 * n + 1)).toInt) (0) _ e2) xok_T (va_recv C.2.2.2.2.1 h.1 (ci := 13) (q0 := 0) rfl (tw_at (mW_0 k g2 τ))) (cwV 2 C.2.2.1 (goodIn_app (gi_cons gw_1838 (gi_cons gw_1905 (gi_cons gw_1906 (gi_cons gw_167 gi_nil)))) gh_yX12_mute) rfl rfl rfl (by decide +kernel) ⟨Nat.le_of_ble_eq_true rfl, Nat.le_of_ble_eq_true rfl⟩) rfl hl.1 rfl (Nat.le_of_ble_eq_true rfl) dL_law_573 ⟨by show _ ≤ 600000; omega, by show _ ≤ 7302250; omega⟩ (fun v0 _ H locs hu h => ?_)
  subst hu
  refine lv_icmp_eq (tgt := 674) C.1 C.2.1 dL_law_576 (by decide) (fun _ => ?_) (fun c => absurd rfl c)
  exact kk H locs g π σ1 τ1 hR1 rfl h
set_option maxHeartbeats 4000000 in
set_option maxRecDepth 100000 in
theorem ld_mute1 {p : Program} {l : Launch} {e : Env} {s : State} {m : MethodId} {below : List Frame} {meth : Method} {c : Code} {H : Heap} {locs : List Loc} {Q : State → Prop} {ls : Array Slot} {D : va_G} {A : Nat → Prop} {k : Nat → ClassId} {b L z mi n N K : Nat} {aK aV g g2 : Nat → Nat} {xs : Nat → Int32} {π : Sh} {σ τ : St} {R R' : Sh → St → St → Prop} (C : Cx p s m #[Value.ref b] c code RL lw_tbl D (TYs k) 4) (hX : va_X b L xs s s.heap) (hbl : b < s.heap.size) (hbA : ¬ A b) (hE : Ev z mi aK aV A s s.heap) (hL : 6 * n + 6 ≤ L) (hL2 : L < 2 ^ 31) (hK : K ≤ 2449975) (hR : R π σ τ) (hB : Bd R) (hB' : Bd R') (hl : lv_has ls 4 [(3, .int (nI (6 * n))), (2, .ref (g2 0)), (1, rfv g 0), (0, .ref b)]) (h : Hp D A s.heap H locs (cW k z g π σ ++ mW k g2 τ)) (hS : St_mute N R R') (hz : ¬ xs (6 * n + 2) = 0) (kk : ∀ (H1 : Heap) (locs1 : List Loc) (g1 : Nat → Nat) (π1 : Sh) (σ1 τ1 : St), R' π1 σ1 τ1 → rfv g1 0 = rfv g 0 → Hp D A s.heap H1 locs1 (cW k z g1 π1 σ1 ++ mW k g2 τ1) → W p l e room_1 s m #[Value.ref b] below meth c H1 locs1 (nn π1 + 98) (sw π1 + K) Q (F0 m 674 ls [])) : W p l e room_1 s m #[Value.ref b] below meth c H locs (nn π + 98) (sw π + K) Q (F0 m 532 ls []) := by
  obtain ⟨hCl, hn1, hs1⟩ := hB π σ τ hR
  obtain ⟨σ1, τ1, v, e1, e2, hR1⟩ := hS π σ τ ((xs (6 * n + 1)).toInt) (1) hR (i32_of _) (Or.inr rfl)
  refine z_aload_n C dL_law_532 rfl (lv_at hl 2 rfl) ?_
  refine lv_aload_n C.1 C.2.1 dL_law_533 rfl (lv_at hl 3 rfl) ?_
  refine lv_iload_n C.1 C.2.1 dL_law_534 rfl (lv_at hl 0 rfl) ?_
  refine lv_iconst (v := 1) C.1 C.2.1 dL_law_535 (by decide) ?_
  refine lv_iadd C.1 C.2.1 dL_law_536 ?_
  refine x_topi (y := nI (6 * n + 1)) (nI_add (6 * n) 1) ?_
  refine va_sld C.1 C.2.1 hX hbl hbA h.2.2.1 (i := nI (6 * n + 1)) (vp_in_nI (n := 6 * n + 1) (by omega) hL2) dL_law_537 ?_
  refine x_topi (y := Int32.ofInt (xs (6 * n + 1)).toInt) (xsx (congrArg xs (nI_clamp (n := 6 * n + 1) (by omega)))) ?_
  refine lv_aload_n C.1 C.2.1 dL_law_538 rfl (lv_at hl 3 rfl) ?_
  refine lv_iload_n C.1 C.2.1 dL_law_539 rfl (lv_at hl 0 rfl) ?_
  refine lv_iconst (v := 2) C.1 C.2.1 dL_law_540 (by decide) ?_
  refine lv_iadd C.1 C.2.1 dL_law_541 ?_
  refine x_topi (y := nI (6 * n + 2)) (nI_add (6 * n) 2) ?_
  refine va_sld C.1 C.2.1 hX hbl hbA h.2.2.1 (i := nI (6 * n + 2)) (vp_in_nI (n := 6 * n + 2) (by omega) hL2) dL_law_542 ?_
  refine x_topi (y := Int32.ofInt (xs (6 * n + 2)).toInt) (xsx (congrArg xs (nI_clamp (n := 6 * n + 2) (by omega)))) ?_
  refine lv_if_eq (tgt := 550) C.1 C.2.1 dL_law_543 (by decide) (fun c => absurd ((of_ti _).trans c) hz) (fun _ => ?_)
  refine lv_iconst (v := 1) C.1 C.2.1 dL_law_546 (by decide) ?_
  refine lv_goto (tgt := 551) C.1 C.2.1 dL_law_547 (by decide) ?_
  refine t_callVi C h (kc_Cs_mute l D k z mi aK aV g N hCl.1 e1) (xok_V hE h (List.range (cW k z g π σ).length) (tw_l _ _)) (va_recv C.2.2.2.2.1 h.1 (ci := 12) (q0 := 0) rfl (tw_at (cW_ob k z g σ (sh_0 hCl.1) (by decide)))) (cwV 2 C.2.2.1 (goodIn_app (gi_cons gw_1837 (gi_cons gw_1903 (gi_cons gw_1904 (gi_cons gw_1144 gi_nil)))) gh_yX11_mute) rfl rfl rfl (by decide +kernel) ⟨Nat.le_of_ble_eq_true rfl, Nat.le_of_ble_eq_true rfl⟩) rfl hl.1 rfl (Nat.le_of_ble_eq_true rfl) dL_law_551 ⟨by show _ ≤ 600000; omega, by show _ ≤ 7302250; omega⟩ (fun v0 u H locs hu h => ?_)
  subst hu
  refine lv_aload_n C.1 C.2.1 dL_law_554 rfl (lv_at hl 1 rfl) ?_
  refine lv_aload_n C.1 C.2.1 dL_law_555 rfl (lv_at hl 3 rfl) ?_
  refine lv_iload_n C.1 C.2.1 dL_law_556 rfl (lv_at hl 0 rfl) ?_
  refine lv_iconst (v := 1) C.1 C.2.1 dL_law_557 (by decide) ?_
  refine lv_iadd C.1 C.2.1 dL_law_558 ?_
  refine x_topi (y := nI (6 * n + 1)) (nI_add (6 * n) 1) ?_
  refine va_sld C.1 C.2.1 hX hbl hbA h.2.2.1 (i := nI (6 * n + 1)) (vp_in_nI (n := 6 * n + 1) (by omega) hL2) dL_law_559 ?_
  refine x_topi (y := Int32.ofInt (xs (6 * n + 1)).toInt) (xsx (congrArg xs (nI_clamp (n := 6 * n + 1) (by omega)))) ?_
  refine lv_aload_n C.1 C.2.1 dL_law_560 rfl (lv_at hl 3 rfl) ?_
  refine lv_iload_n C.1 C.2.1 dL_law_561 rfl (lv_at hl 0 rfl) ?_
  refine lv_iconst (v := 2) C.1 C.2.1 dL_law_562 (by decide) ?_
  refine lv_iadd C.1 C.2.1 dL_law_563 ?_
  refine x_topi (y := nI (6 * n + 2)) (nI_add (6 * n) 2) ?_
  refine va_sld C.1 C.2.1 hX hbl hbA h.2.2.1 (i := nI (6 * n + 2)) (vp_in_nI (n := 6 * n + 2) (by omega) hL2) dL_law_564 ?_
  refine x_topi (y := Int32.ofInt (xs (6 * n + 2)).toInt) (xsx (congrArg xs (nI_clamp (n := 6 * n + 2) (by omega)))) ?_
  refine lv_if_eq (tgt := 572) C.1 C.2.1 dL_law_565 (by decide) (fun c => absurd ((of_ti _).trans c) hz) (fun _ => ?_)
  refine lv_iconst (v := 1) C.1 C.2.1 dL_law_568 (by decide) ?_
  refine lv_goto (tgt := 573) C.1 C.2.1 dL_law_569 (by decide) ?_
  refine t_callVi C h (rc_mute l D k g2 N τ ((xs (6 * n + 1)).toInt) (1) _ e2) xok_T (va_recv C.2.2.2.2.1 h.1 (ci := 13) (q0 := 0) rfl (tw_at (mW_0 k g2 τ))) (cwV 2 C.2.2.1 (goodIn_app (gi_cons gw_1838 (gi_cons gw_1905 (gi_cons gw_1906 (gi_cons gw_167 gi_nil)))) gh_yX12_mute) rfl rfl rfl (by decide +kernel) ⟨Nat.le_of_ble_eq_true rfl, Nat.le_of_ble_eq_true rfl⟩) rfl hl.1 rfl (Nat.le_of_ble_eq_true rfl) dL_law_573 ⟨by show _ ≤ 600000; omega, by show _ ≤ 7302250; omega⟩ (fun v0 _ H locs hu h => ?_)
  subst hu
  refine lv_icmp_eq (tgt := 674) C.1 C.2.1 dL_law_576 (by decide) (fun _ => ?_) (fun c => absurd rfl c)
  exact kk H locs g π σ1 τ1 hR1 rfl h
set_option maxHeartbeats 4000000 in
set_option maxRecDepth 100000 in
theorem ld_solo0 {p : Program} {l : Launch} {e : Env} {s : State} {m : MethodId} {below : List Frame} {meth : Method} {c : Code} {H : Heap} {locs : List Loc} {Q : State → Prop} {ls : Array Slot} {D : va_G} {A : Nat → Prop} {k : Nat → ClassId} {b L z mi n N K : Nat} {aK aV g g2 : Nat → Nat} {xs : Nat → Int32} {π : Sh} {σ τ : St} {R R' : Sh → St → St → Prop} (C : Cx p s m #[Value.ref b] c code RL lw_tbl D (TYs k) 4) (hX : va_X b L xs s s.heap) (hbl : b < s.heap.size) (hbA : ¬ A b) (hE : Ev z mi aK aV A s s.heap) (hL : 6 * n + 6 ≤ L) (hL2 : L < 2 ^ 31) (hK : K ≤ 2449975) (hR : R π σ τ) (hB : Bd R) (hB' : Bd R') (hl : lv_has ls 4 [(3, .int (nI (6 * n))), (2, .ref (g2 0)), (1, rfv g 0), (0, .ref b)]) (h : Hp D A s.heap H locs (cW k z g π σ ++ mW k g2 τ)) (hS : St_solo N R R') (hz : xs (6 * n + 2) = 0) (kk : ∀ (H1 : Heap) (locs1 : List Loc) (g1 : Nat → Nat) (π1 : Sh) (σ1 τ1 : St), R' π1 σ1 τ1 → rfv g1 0 = rfv g 0 → Hp D A s.heap H1 locs1 (cW k z g1 π1 σ1 ++ mW k g2 τ1) → W p l e room_1 s m #[Value.ref b] below meth c H1 locs1 (nn π1 + 98) (sw π1 + K) Q (F0 m 674 ls [])) : W p l e room_1 s m #[Value.ref b] below meth c H locs (nn π + 98) (sw π + K) Q (F0 m 581 ls []) := by
  obtain ⟨hCl, hn1, hs1⟩ := hB π σ τ hR
  obtain ⟨σ1, τ1, v, e1, e2, hR1⟩ := hS π σ τ ((xs (6 * n + 1)).toInt) (0) hR (i32_of _) (Or.inl rfl)
  refine z_aload_n C dL_law_581 rfl (lv_at hl 2 rfl) ?_
  refine lv_aload_n C.1 C.2.1 dL_law_582 rfl (lv_at hl 3 rfl) ?_
  refine lv_iload_n C.1 C.2.1 dL_law_583 rfl (lv_at hl 0 rfl) ?_
  refine lv_iconst (v := 1) C.1 C.2.1 dL_law_584 (by decide) ?_
  refine lv_iadd C.1 C.2.1 dL_law_585 ?_
  refine x_topi (y := nI (6 * n + 1)) (nI_add (6 * n) 1) ?_
  refine va_sld C.1 C.2.1 hX hbl hbA h.2.2.1 (i := nI (6 * n + 1)) (vp_in_nI (n := 6 * n + 1) (by omega) hL2) dL_law_586 ?_
  refine x_topi (y := Int32.ofInt (xs (6 * n + 1)).toInt) (xsx (congrArg xs (nI_clamp (n := 6 * n + 1) (by omega)))) ?_
  refine lv_aload_n C.1 C.2.1 dL_law_587 rfl (lv_at hl 3 rfl) ?_
  refine lv_iload_n C.1 C.2.1 dL_law_588 rfl (lv_at hl 0 rfl) ?_
  refine lv_iconst (v := 2) C.1 C.2.1 dL_law_589 (by decide) ?_
  refine lv_iadd C.1 C.2.1 dL_law_590 ?_
  refine x_topi (y := nI (6 * n + 2)) (nI_add (6 * n) 2) ?_
  refine va_sld C.1 C.2.1 hX hbl hbA h.2.2.1 (i := nI (6 * n + 2)) (vp_in_nI (n := 6 * n + 2) (by omega) hL2) dL_law_591 ?_
  refine x_topi (y := Int32.ofInt (xs (6 * n + 2)).toInt) (xsx (congrArg xs (nI_clamp (n := 6 * n + 2) (by omega)))) ?_
  refine lv_if_eq (tgt := 599) C.1 C.2.1 dL_law_592 (by decide) (fun _ => ?_) (fun c => absurd ((of_ti _).symm.trans hz) c)
  refine lv_iconst (v := 0) C.1 C.2.1 dL_law_599 (by decide) ?_
  refine t_callVi C h (kc_Cs_solo l D k z mi aK aV g N hCl.1 e1) (xok_V hE h (List.range (cW k z g π σ).length) (tw_l _ _)) (va_recv C.2.2.2.2.1 h.1 (ci := 12) (q0 := 0) rfl (tw_at (cW_ob k z g σ (sh_0 hCl.1) (by decide)))) (cwV 2 C.2.2.1 (goodIn_app (gi_cons gw_1839 (gi_cons gw_1907 (gi_cons gw_1908 (gi_cons gw_1144 gi_nil)))) gh_yX11_solo) rfl rfl rfl (by decide +kernel) ⟨Nat.le_of_ble_eq_true rfl, Nat.le_of_ble_eq_true rfl⟩) rfl hl.1 rfl (Nat.le_of_ble_eq_true rfl) dL_law_600 ⟨by show _ ≤ 600000; omega, by show _ ≤ 7302250; omega⟩ (fun v0 u H locs hu h => ?_)
  subst hu
  refine lv_aload_n C.1 C.2.1 dL_law_603 rfl (lv_at hl 1 rfl) ?_
  refine lv_aload_n C.1 C.2.1 dL_law_604 rfl (lv_at hl 3 rfl) ?_
  refine lv_iload_n C.1 C.2.1 dL_law_605 rfl (lv_at hl 0 rfl) ?_
  refine lv_iconst (v := 1) C.1 C.2.1 dL_law_606 (by decide) ?_
  refine lv_iadd C.1 C.2.1 dL_law_607 ?_
  refine x_topi (y := nI (6 * n + 1)) (nI_add (6 * n) 1) ?_
  refine va_sld C.1 C.2.1 hX hbl hbA h.2.2.1 (i := nI (6 * n + 1)) (vp_in_nI (n := 6 * n + 1) (by omega) hL2) dL_law_608 ?_
  refine x_topi (y := Int32.ofInt (xs (6 * n + 1)).toInt) (xsx (congrArg xs (nI_clamp (n := 6 * n + 1) (by omega)))) ?_
  refine lv_aload_n C.1 C.2.1 dL_law_609 rfl (lv_at hl 3 rfl) ?_
  refine lv_iload_n C.1 C.2.1 dL_law_610 rfl (lv_at hl 0 rfl) ?_
  refine lv_iconst (v := 2) C.1 C.2.1 dL_law_611 (by decide) ?_
  refine lv_iadd C.1 C.2.1 dL_law_612 ?_
  refine x_topi (y := nI (6 * n + 2)) (nI_add (6 * n) 2) ?_
  refine va_sld C.1 C.2.1 hX hbl hbA h.2.2.1 (i := nI (6 * n + 2)) (vp_in_nI (n := 6 * n + 2) (by omega) hL2) dL_law_613 ?_
  refine x_topi (y := Int32.ofInt (xs (6 * n + 2)).toInt) (xsx (congrArg xs (nI_clamp (n := 6 * n + 2) (by omega)))) ?_
  refine lv_if_eq (tgt := 621) C.1 C.2.1 dL_law_614 (by decide) (fun _ => ?_) (fun c => absurd ((of_ti _).symm.trans hz) c)
  refine lv_iconst (v := 0) C.1 C.2.1 dL_law_621 (by decide) ?_
  refine t_callVi C h (rc_solo l D k g2 N τ ((xs (6 * n + 1)).toInt) (0) _ e2) xok_T (va_recv C.2.2.2.2.1 h.1 (ci := 13) (q0 := 0) rfl (tw_at (mW_0 k g2 τ))) (cwV 2 C.2.2.1 (goodIn_app (gi_cons gw_1840 (gi_cons gw_1909 (gi_cons gw_1910 (gi_cons gw_167 gi_nil)))) gh_yX12_solo) rfl rfl rfl (by decide +kernel) ⟨Nat.le_of_ble_eq_true rfl, Nat.le_of_ble_eq_true rfl⟩) rfl hl.1 rfl (Nat.le_of_ble_eq_true rfl) dL_law_622 ⟨by show _ ≤ 600000; omega, by show _ ≤ 7302250; omega⟩ (fun v0 _ H locs hu h => ?_)
  subst hu
  refine lv_icmp_eq (tgt := 674) C.1 C.2.1 dL_law_625 (by decide) (fun _ => ?_) (fun c => absurd rfl c)
  exact kk H locs g π σ1 τ1 hR1 rfl h
set_option maxHeartbeats 4000000 in
set_option maxRecDepth 100000 in
theorem ld_solo1 {p : Program} {l : Launch} {e : Env} {s : State} {m : MethodId} {below : List Frame} {meth : Method} {c : Code} {H : Heap} {locs : List Loc} {Q : State → Prop} {ls : Array Slot} {D : va_G} {A : Nat → Prop} {k : Nat → ClassId} {b L z mi n N K : Nat} {aK aV g g2 : Nat → Nat} {xs : Nat → Int32} {π : Sh} {σ τ : St} {R R' : Sh → St → St → Prop} (C : Cx p s m #[Value.ref b] c code RL lw_tbl D (TYs k) 4) (hX : va_X b L xs s s.heap) (hbl : b < s.heap.size) (hbA : ¬ A b) (hE : Ev z mi aK aV A s s.heap) (hL : 6 * n + 6 ≤ L) (hL2 : L < 2 ^ 31) (hK : K ≤ 2449975) (hR : R π σ τ) (hB : Bd R) (hB' : Bd R') (hl : lv_has ls 4 [(3, .int (nI (6 * n))), (2, .ref (g2 0)), (1, rfv g 0), (0, .ref b)]) (h : Hp D A s.heap H locs (cW k z g π σ ++ mW k g2 τ)) (hS : St_solo N R R') (hz : ¬ xs (6 * n + 2) = 0) (kk : ∀ (H1 : Heap) (locs1 : List Loc) (g1 : Nat → Nat) (π1 : Sh) (σ1 τ1 : St), R' π1 σ1 τ1 → rfv g1 0 = rfv g 0 → Hp D A s.heap H1 locs1 (cW k z g1 π1 σ1 ++ mW k g2 τ1) → W p l e room_1 s m #[Value.ref b] below meth c H1 locs1 (nn π1 + 98) (sw π1 + K) Q (F0 m 674 ls [])) : W p l e room_1 s m #[Value.ref b] below meth c H locs (nn π + 98) (sw π + K) Q (F0 m 581 ls []) := by
  obtain ⟨hCl, hn1, hs1⟩ := hB π σ τ hR
  obtain ⟨σ1, τ1, v, e1, e2, hR1⟩ := hS π σ τ ((xs (6 * n + 1)).toInt) (1) hR (i32_of _) (Or.inr rfl)
  refine z_aload_n C dL_law_581 rfl (lv_at hl 2 rfl) ?_
  refine lv_aload_n C.1 C.2.1 dL_law_582 rfl (lv_at hl 3 rfl) ?_
  refine lv_iload_n C.1 C.2.1 dL_law_583 rfl (lv_at hl 0 rfl) ?_
  refine lv_iconst (v := 1) C.1 C.2.1 dL_law_584 (by decide) ?_
  refine lv_iadd C.1 C.2.1 dL_law_585 ?_
  refine x_topi (y := nI (6 * n + 1)) (nI_add (6 * n) 1) ?_
  refine va_sld C.1 C.2.1 hX hbl hbA h.2.2.1 (i := nI (6 * n + 1)) (vp_in_nI (n := 6 * n + 1) (by omega) hL2) dL_law_586 ?_
  refine x_topi (y := Int32.ofInt (xs (6 * n + 1)).toInt) (xsx (congrArg xs (nI_clamp (n := 6 * n + 1) (by omega)))) ?_
  refine lv_aload_n C.1 C.2.1 dL_law_587 rfl (lv_at hl 3 rfl) ?_
  refine lv_iload_n C.1 C.2.1 dL_law_588 rfl (lv_at hl 0 rfl) ?_
  refine lv_iconst (v := 2) C.1 C.2.1 dL_law_589 (by decide) ?_
  refine lv_iadd C.1 C.2.1 dL_law_590 ?_
  refine x_topi (y := nI (6 * n + 2)) (nI_add (6 * n) 2) ?_
  refine va_sld C.1 C.2.1 hX hbl hbA h.2.2.1 (i := nI (6 * n + 2)) (vp_in_nI (n := 6 * n + 2) (by omega) hL2) dL_law_591 ?_
  refine x_topi (y := Int32.ofInt (xs (6 * n + 2)).toInt) (xsx (congrArg xs (nI_clamp (n := 6 * n + 2) (by omega)))) ?_
  refine lv_if_eq (tgt := 599) C.1 C.2.1 dL_law_592 (by decide) (fun c => absurd ((of_ti _).trans c) hz) (fun _ => ?_)
  refine lv_iconst (v := 1) C.1 C.2.1 dL_law_595 (by decide) ?_
  refine lv_goto (tgt := 600) C.1 C.2.1 dL_law_596 (by decide) ?_
  refine t_callVi C h (kc_Cs_solo l D k z mi aK aV g N hCl.1 e1) (xok_V hE h (List.range (cW k z g π σ).length) (tw_l _ _)) (va_recv C.2.2.2.2.1 h.1 (ci := 12) (q0 := 0) rfl (tw_at (cW_ob k z g σ (sh_0 hCl.1) (by decide)))) (cwV 2 C.2.2.1 (goodIn_app (gi_cons gw_1839 (gi_cons gw_1907 (gi_cons gw_1908 (gi_cons gw_1144 gi_nil)))) gh_yX11_solo) rfl rfl rfl (by decide +kernel) ⟨Nat.le_of_ble_eq_true rfl, Nat.le_of_ble_eq_true rfl⟩) rfl hl.1 rfl (Nat.le_of_ble_eq_true rfl) dL_law_600 ⟨by show _ ≤ 600000; omega, by show _ ≤ 7302250; omega⟩ (fun v0 u H locs hu h => ?_)
  subst hu
  refine lv_aload_n C.1 C.2.1 dL_law_603 rfl (lv_at hl 1 rfl) ?_
  refine lv_aload_n C.1 C.2.1 dL_law_604 rfl (lv_at hl 3 rfl) ?_
  refine lv_iload_n C.1 C.2.1 dL_law_605 rfl (lv_at hl 0 rfl) ?_
  refine lv_iconst (v := 1) C.1 C.2.1 dL_law_606 (by decide) ?_
  refine lv_iadd C.1 C.2.1 dL_law_607 ?_
  refine x_topi (y := nI (6 * n + 1)) (nI_add (6 * n) 1) ?_
  refine va_sld C.1 C.2.1 hX hbl hbA h.2.2.1 (i := nI (6 * n + 1)) (vp_in_nI (n := 6 * n + 1) (by omega) hL2) dL_law_608 ?_
  refine x_topi (y := Int32.ofInt (xs (6 * n + 1)).toInt) (xsx (congrArg xs (nI_clamp (n := 6 * n + 1) (by omega)))) ?_
  refine lv_aload_n C.1 C.2.1 dL_law_609 rfl (lv_at hl 3 rfl) ?_
  refine lv_iload_n C.1 C.2.1 dL_law_610 rfl (lv_at hl 0 rfl) ?_
  refine lv_iconst (v := 2) C.1 C.2.1 dL_law_611 (by decide) ?_
  refine lv_iadd C.1 C.2.1 dL_law_612 ?_
  refine x_topi (y := nI (6 * n + 2)) (nI_add (6 * n) 2) ?_
  refine va_sld C.1 C.2.1 hX hbl hbA h.2.2.1 (i := nI (6 * n + 2)) (vp_in_nI (n := 6 * n + 2) (by omega) hL2) dL_law_613 ?_
  refine x_topi (y := Int32.ofInt (xs (6 * n + 2)).toInt) (xsx (congrArg xs (nI_clamp (n := 6 * n + 2) (by omega)))) ?_
  refine lv_if_eq (tgt := 621) C.1 C.2.1 dL_law_614 (by decide) (fun c => absurd ((of_ti _).trans c) hz) (fun _ => ?_)
  refine lv_iconst (v := 1) C.1 C.2.1 dL_law_617 (by decide) ?_
  refine lv_goto (tgt := 622) C.1 C.2.1 dL_law_618 (by decide) ?_
  refine t_callVi C h (rc_solo l D k g2 N τ ((xs (6 * n + 1)).toInt) (1) _ e2) xok_T (va_recv C.2.2.2.2.1 h.1 (ci := 13) (q0 := 0) rfl (tw_at (mW_0 k g2 τ))) (cwV 2 C.2.2.1 (goodIn_app (gi_cons gw_1840 (gi_cons gw_1909 (gi_cons gw_1910 (gi_cons gw_167 gi_nil)))) gh_yX12_solo) rfl rfl rfl (by decide +kernel) ⟨Nat.le_of_ble_eq_true rfl, Nat.le_of_ble_eq_true rfl⟩) rfl hl.1 rfl (Nat.le_of_ble_eq_true rfl) dL_law_622 ⟨by show _ ≤ 600000; omega, by show _ ≤ 7302250; omega⟩ (fun v0 _ H locs hu h => ?_)
  subst hu
  refine lv_icmp_eq (tgt := 674) C.1 C.2.1 dL_law_625 (by decide) (fun _ => ?_) (fun c => absurd rfl c)
  exact kk H locs g π σ1 τ1 hR1 rfl h
set_option maxHeartbeats 4000000 in
set_option maxRecDepth 100000 in
theorem ld_seed {p : Program} {l : Launch} {e : Env} {s : State} {m : MethodId} {below : List Frame} {meth : Method} {c : Code} {H : Heap} {locs : List Loc} {Q : State → Prop} {ls : Array Slot} {D : va_G} {A : Nat → Prop} {k : Nat → ClassId} {b L z mi n N K : Nat} {aK aV g g2 : Nat → Nat} {xs : Nat → Int32} {π : Sh} {σ τ : St} {R R' : Sh → St → St → Prop} (C : Cx p s m #[Value.ref b] c code RL lw_tbl D (TYs k) 4) (hX : va_X b L xs s s.heap) (hbl : b < s.heap.size) (hbA : ¬ A b) (hE : Ev z mi aK aV A s s.heap) (hL : 6 * n + 6 ≤ L) (hL2 : L < 2 ^ 31) (hK : K ≤ 2449975) (hR : R π σ τ) (hB : Bd R) (hB' : Bd R') (hl : lv_has ls 4 [(3, .int (nI (6 * n))), (2, .ref (g2 0)), (1, rfv g 0), (0, .ref b)]) (h : Hp D A s.heap H locs (cW k z g π σ ++ mW k g2 τ)) (hS : St_seed N R R') (kk : ∀ (H1 : Heap) (locs1 : List Loc) (g1 : Nat → Nat) (π1 : Sh) (σ1 τ1 : St), R' π1 σ1 τ1 → rfv g1 0 = rfv g 0 → Hp D A s.heap H1 locs1 (cW k z g1 π1 σ1 ++ mW k g2 τ1) → W p l e room_1 s m #[Value.ref b] below meth c H1 locs1 (nn π1 + 98) (sw π1 + K) Q (F0 m 674 ls [])) : W p l e room_1 s m #[Value.ref b] below meth c H locs (nn π + 98) (sw π + K) Q (F0 m 630 ls []) := by
  obtain ⟨hCl, hn1, hs1⟩ := hB π σ τ hR
  obtain ⟨σ1, τ1, e1, e2, hR1⟩ := hS π σ τ ((xs (6 * n + 1)).toInt) hR (i32_of _)
  refine z_aload_n C dL_law_630 rfl (lv_at hl 2 rfl) ?_
  refine lv_aload_n C.1 C.2.1 dL_law_631 rfl (lv_at hl 3 rfl) ?_
  refine lv_iload_n C.1 C.2.1 dL_law_632 rfl (lv_at hl 0 rfl) ?_
  refine lv_iconst (v := 1) C.1 C.2.1 dL_law_633 (by decide) ?_
  refine lv_iadd C.1 C.2.1 dL_law_634 ?_
  refine x_topi (y := nI (6 * n + 1)) (nI_add (6 * n) 1) ?_
  refine va_sld C.1 C.2.1 hX hbl hbA h.2.2.1 (i := nI (6 * n + 1)) (vp_in_nI (n := 6 * n + 1) (by omega) hL2) dL_law_635 ?_
  refine x_topi (y := Int32.ofInt (xs (6 * n + 1)).toInt) (xsx (congrArg xs (nI_clamp (n := 6 * n + 1) (by omega)))) ?_
  refine t_callVv C h (kc_Cs_seed l D k z mi aK aV g N hCl.1 e1) (xok_V hE h (List.range (cW k z g π σ).length) (tw_l _ _)) (va_recv C.2.2.2.2.1 h.1 (ci := 12) (q0 := 0) rfl (tw_at (cW_ob k z g σ (sh_0 hCl.1) (by decide)))) (cwV 1 C.2.2.1 (goodIn_app (gi_cons gw_1841 (gi_cons gw_1911 (gi_cons gw_1912 (gi_cons gw_1144 gi_nil)))) gh_yX11_seed) rfl rfl rfl (by decide +kernel) ⟨Nat.le_of_ble_eq_true rfl, Nat.le_of_ble_eq_true rfl⟩) rfl hl.1 rfl (Nat.le_of_ble_eq_true rfl) dL_law_636 ⟨by show _ ≤ 600000; omega, by show _ ≤ 7302250; omega⟩ (fun u H locs hu h => ?_)
  refine lv_aload_n C.1 C.2.1 dL_law_639 rfl (lv_at hl 1 rfl) ?_
  refine lv_aload_n C.1 C.2.1 dL_law_640 rfl (lv_at hl 3 rfl) ?_
  refine lv_iload_n C.1 C.2.1 dL_law_641 rfl (lv_at hl 0 rfl) ?_
  refine lv_iconst (v := 1) C.1 C.2.1 dL_law_642 (by decide) ?_
  refine lv_iadd C.1 C.2.1 dL_law_643 ?_
  refine x_topi (y := nI (6 * n + 1)) (nI_add (6 * n) 1) ?_
  refine va_sld C.1 C.2.1 hX hbl hbA h.2.2.1 (i := nI (6 * n + 1)) (vp_in_nI (n := 6 * n + 1) (by omega) hL2) dL_law_644 ?_
  refine x_topi (y := Int32.ofInt (xs (6 * n + 1)).toInt) (xsx (congrArg xs (nI_clamp (n := 6 * n + 1) (by omega)))) ?_
  refine t_callVv C h (rc_seed l D k g2 N τ ((xs (6 * n + 1)).toInt) _ e2) xok_T (va_recv C.2.2.2.2.1 h.1 (ci := 13) (q0 := 0) rfl (tw_at (mW_0 k g2 τ))) (cwV 1 C.2.2.1 (goodIn_app (gi_cons gw_1842 (gi_cons gw_1913 (gi_cons gw_1914 (gi_cons gw_167 gi_nil)))) gh_yX12_seed) rfl rfl rfl (by decide +kernel) ⟨Nat.le_of_ble_eq_true rfl, Nat.le_of_ble_eq_true rfl⟩) rfl hl.1 rfl (Nat.le_of_ble_eq_true rfl) dL_law_645 ⟨by show _ ≤ 600000; omega, by show _ ≤ 7302250; omega⟩ (fun _ H locs hu h => ?_)
  refine lv_goto (tgt := 674) C.1 C.2.1 dL_law_648 (by decide) ?_
  exact kk H locs g π σ1 τ1 hR1 rfl h
set_option maxHeartbeats 4000000 in
set_option maxRecDepth 100000 in
theorem ld_about {p : Program} {l : Launch} {e : Env} {s : State} {m : MethodId} {below : List Frame} {meth : Method} {c : Code} {H : Heap} {locs : List Loc} {Q : State → Prop} {ls : Array Slot} {D : va_G} {A : Nat → Prop} {k : Nat → ClassId} {b L z mi n N K : Nat} {aK aV g g2 : Nat → Nat} {xs : Nat → Int32} {π : Sh} {σ τ : St} {R R' : Sh → St → St → Prop} (C : Cx p s m #[Value.ref b] c code RL lw_tbl D (TYs k) 4) (hX : va_X b L xs s s.heap) (hbl : b < s.heap.size) (hbA : ¬ A b) (hE : Ev z mi aK aV A s s.heap) (hL : 6 * n + 6 ≤ L) (hL2 : L < 2 ^ 31) (hK : K ≤ 2449975) (hR : R π σ τ) (hB : Bd R) (hB' : Bd R') (hl : lv_has ls 4 [(3, .int (nI (6 * n))), (2, .ref (g2 0)), (1, rfv g 0), (0, .ref b)]) (h : Hp D A s.heap H locs (cW k z g π σ ++ mW k g2 τ)) (hS : St_about N R R') (kk : ∀ (H1 : Heap) (locs1 : List Loc) (g1 : Nat → Nat) (π1 : Sh) (σ1 τ1 : St), R' π1 σ1 τ1 → rfv g1 0 = rfv g 0 → Hp D A s.heap H1 locs1 (cW k z g1 π1 σ1 ++ mW k g2 τ1) → W p l e room_1 s m #[Value.ref b] below meth c H1 locs1 (nn π1 + 98) (sw π1 + K) Q (F0 m 674 ls [])) : W p l e room_1 s m #[Value.ref b] below meth c H locs (nn π + 98) (sw π + K) Q (F0 m 651 ls []) := by
  obtain ⟨hCl, hn1, hs1⟩ := hB π σ τ hR
  obtain ⟨σ1, τ1, v, e1, e2, hR1⟩ := hS π σ τ ((xs (6 * n + 1)).toInt) hR (i32_of _)
  refine z_aload_n C dL_law_651 rfl (lv_at hl 2 rfl) ?_
  refine lv_aload_n C.1 C.2.1 dL_law_652 rfl (lv_at hl 3 rfl) ?_
  refine lv_iload_n C.1 C.2.1 dL_law_653 rfl (lv_at hl 0 rfl) ?_
  refine lv_iconst (v := 1) C.1 C.2.1 dL_law_654 (by decide) ?_
  refine lv_iadd C.1 C.2.1 dL_law_655 ?_
  refine x_topi (y := nI (6 * n + 1)) (nI_add (6 * n) 1) ?_
  refine va_sld C.1 C.2.1 hX hbl hbA h.2.2.1 (i := nI (6 * n + 1)) (vp_in_nI (n := 6 * n + 1) (by omega) hL2) dL_law_656 ?_
  refine x_topi (y := Int32.ofInt (xs (6 * n + 1)).toInt) (xsx (congrArg xs (nI_clamp (n := 6 * n + 1) (by omega)))) ?_
  refine t_callVi C h (kc_Cs_about l D k z mi aK aV g N hCl.1 e1) (xok_V hE h (List.range (cW k z g π σ).length) (tw_l _ _)) (va_recv C.2.2.2.2.1 h.1 (ci := 12) (q0 := 0) rfl (tw_at (cW_ob k z g σ (sh_0 hCl.1) (by decide)))) (cwV 1 C.2.2.1 (goodIn_app (gi_cons gw_1843 (gi_cons gw_1915 (gi_cons gw_1916 (gi_cons gw_1144 gi_nil)))) gh_yX11_about) rfl rfl rfl (by decide +kernel) ⟨Nat.le_of_ble_eq_true rfl, Nat.le_of_ble_eq_true rfl⟩) rfl hl.1 rfl (Nat.le_of_ble_eq_true rfl) dL_law_657 ⟨by show _ ≤ 600000; omega, by show _ ≤ 7302250; omega⟩ (fun v0 u H locs hu h => ?_)
  subst hu
  refine lv_aload_n C.1 C.2.1 dL_law_660 rfl (lv_at hl 1 rfl) ?_
  refine lv_aload_n C.1 C.2.1 dL_law_661 rfl (lv_at hl 3 rfl) ?_
  refine lv_iload_n C.1 C.2.1 dL_law_662 rfl (lv_at hl 0 rfl) ?_
  refine lv_iconst (v := 1) C.1 C.2.1 dL_law_663 (by decide) ?_
  refine lv_iadd C.1 C.2.1 dL_law_664 ?_
  refine x_topi (y := nI (6 * n + 1)) (nI_add (6 * n) 1) ?_
  refine va_sld C.1 C.2.1 hX hbl hbA h.2.2.1 (i := nI (6 * n + 1)) (vp_in_nI (n := 6 * n + 1) (by omega) hL2) dL_law_665 ?_
  refine x_topi (y := Int32.ofInt (xs (6 * n + 1)).toInt) (xsx (congrArg xs (nI_clamp (n := 6 * n + 1) (by omega)))) ?_
  refine t_callVi C h (rc_about l D k g2 N τ ((xs (6 * n + 1)).toInt) _ e2) xok_T (va_recv C.2.2.2.2.1 h.1 (ci := 13) (q0 := 0) rfl (tw_at (mW_0 k g2 τ))) (cwV 1 C.2.2.1 (goodIn_app (gi_cons gw_1844 (gi_cons gw_1917 (gi_cons gw_1918 (gi_cons gw_167 gi_nil)))) gh_yX12_about) rfl rfl rfl (by decide +kernel) ⟨Nat.le_of_ble_eq_true rfl, Nat.le_of_ble_eq_true rfl⟩) rfl hl.1 rfl (Nat.le_of_ble_eq_true rfl) dL_law_666 ⟨by show _ ≤ 600000; omega, by show _ ≤ 7302250; omega⟩ (fun v0 _ H locs hu h => ?_)
  subst hu
  refine lv_icmp_eq (tgt := 674) C.1 C.2.1 dL_law_669 (by decide) (fun _ => ?_) (fun c => absurd rfl c)
  exact kk H locs g π σ1 τ1 hR1 rfl h
